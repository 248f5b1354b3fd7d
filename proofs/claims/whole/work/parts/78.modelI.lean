/-- what a rule of kind k finds, told without the kept rows -/
def mFv (W H : Nat) (ne fa : Int) (pt wn wo xo yo pw ph : Int → Int) (k v : Int) : Prop := (k = 0 → v = gsm (mds W H ne fa pt) 1024) ∧ (k = 1 → ∃ (mn nb : Int) (bo df : Int → Int), mVal W H ne fa pt mn nb bo df ∧ v = gmx (fun i => (bo (4 * i + 2) - bo (4 * i) + 1) * (bo (4 * i + 3) - bo (4 * i + 1) + 1)) nb.toNat) ∧ (k = 2 → ∃ (ord : Int → Int) (rs : Int) (ro : Int → Int), mWv wn wo xo yo ord rs ro ∧ v = gsm (fun q => gb (0 < ro (4 * q) ∧ (ro (4 * q) = 1 ∨ ro (4 * q) = 1))) rs.toNat) ∧ (k = 3 → ∃ (ord : Int → Int) (rs : Int) (ro : Int → Int), mWv wn wo xo yo ord rs ro ∧ v = gsm (fun q => gb (0 < ro (4 * q) ∧ (ro (4 * q) = 2 ∨ ro (4 * q) = 4))) rs.toNat) ∧ (k = 4 → v = gsm (fun q => gb (mms pw q)) 20) ∧ (k = 5 → v = gsm (fun q => gb (0 < pw q ∧ 0 < pw (20 + q) ∧ (pw q ≠ pw (20 + q) ∨ ph q ≠ ph (20 + q)))) 20) ∧ inR v
theorem gsm_r {f : Int → Prop} {n : Nat} (hn : n ≤ 100000) : inR (gsm (fun q => gb (f q)) n) := by
  have := gsm_gb f n
  exact ⟨by omega, by omega⟩
set_option maxHeartbeats 4000000 in
set_option maxRecDepth 100000 in
theorem c_X8_words (l : Launch) (D : va_G) (cA : Nat → ClassId) (W : Nat) (H : Nat) (mth : Int) (mbd : Int) (mne : Int) (mnw : Int) (mmn : Int) (mbx : Int) (man : Int) (mrs : Int) (mrl : Int) (mfl : Int) (mpt : Int → Int) (mdf : Int → Int) (mlb : Int → Int) (mbo : Int → Int) (mwn : Int → Int) (mwo : Int → Int) (mxo : Int → Int) (myo : Int → Int) (mor : Int → Int) (mco : Int → Int) (mro : Int → Int) (mpw : Int → Int) (mph : Int → Int) (mrk : Int → Int) (mrb : Int → Int) (mrf : Int → Int) (mfr : Int → Int) (mfm : Int → Int) (med : Int → Int) (map : Int → Int) (mwh : Int → Int) (i : Int) (k : Int) (hwn : (0 ≤ mwn 0 ∧ mwn 0 ≤ 40) ∧ 0 ≤ mwn 1 ∧ mwn 1 ≤ 40) (hwo : ∀ q : Int, inR (mwo q)) (hxy : ∀ q : Int, inR (mxo q) ∧ inR (myo q)) (hro : ∀ q : Int, inR (mro q)) (han : man = 0 ∨ man = 1) (hrs : 0 ≤ mrs ∧ mrs ≤ 80) (hvalw : man = 0 → mWv mwn mwo mxo myo mor mrs mro) (hi : inR i) (hk : inR k) :
    gC l D cA yX8_words mX8_words (some .int) 0 0 [gr 60, gi i, gi k] (moW W H mth mbd mne mnw mmn mbx man mrs mrl mfl mpt mdf mlb mbo mwn mwo mxo myo mor mco mro mpw mph mrk mrb mrf mfr mfm med map mwh) (fun r9 w9 => ∃ (or2 : Int → Int) (co2 : Int → Int) (rs2 : Int) (ro2 : Int → Int) (rv : Int) (th : Int), r9 = some (gi rv) ∧ w9 = moW W H th mbd mne mnw mmn mbx 0 rs2 mrl mfl mpt mdf mlb mbo mwn mwo mxo myo or2 co2 ro2 mpw mph mrk mrb mrf mfr mfm med map mwh ∧ (mWv mwn mwo mxo myo or2 rs2 ro2) ∧ (∀ q : Int, inR (ro2 q)) ∧ (0 ≤ rs2 ∧ rs2 ≤ 80) ∧ (i = -1 → th = 0 ∧ rv = gsm (fun q => gb (0 < ro2 (4 * q))) rs2.toNat) ∧ (i ≠ -1 → ¬ ((0 ≤ i ∧ i < gsm (fun q => gb (0 < ro2 (4 * q))) rs2.toNat) ∧ 0 ≤ k ∧ k ≤ 3) → th = 1 ∧ rv = 0) ∧ (((0 ≤ i ∧ i < gsm (fun q => gb (0 < ro2 (4 * q))) rs2.toNat) ∧ 0 ≤ k ∧ k ≤ 3) → th = 0 ∧ ∃ t : Int, (0 ≤ t ∧ t < rs2) ∧ 0 < ro2 (4 * t) ∧ gsm (fun q => gb (0 < ro2 (4 * q))) t.toNat = i ∧ rv = ro2 (4 * t + k))) := by
  refine gC_of rfl kX8_words rfl rfl (Nat.le_of_ble_eq_true rfl) (fun X ad hX hE => ?_)
  refine G.go hX 1 (moW W H mth mbd mne mnw mmn mbx man mrs mrl mfl mpt mdf mlb mbo mwn mwo mxo myo mor mco mro mpw mph mrk mrb mrf mfr mfm med map mwh, 1, [(0, gr 60), (1, gi i), (2, gi k)], [gr 60]) rfl trivial ?_
  refine G.callV (av := []) (o := 60) (st := []) hX rfl (fun l D cA => c_X8_compare l D cA W H mth mbd mne mnw mmn mbx man mrs mrl mfl mpt mdf mlb mbo mwn mwo mxo myo mor mco mro mpw mph mrk mrb mrf mfr mfm med map mwh (by first | assumption | omega) (by first | assumption | omega) (by first | assumption | omega) (by first | assumption | omega) (by first | assumption | omega) (by first | assumption | omega) hvalw) (by decide +kernel) aX8_compare rfl rfl rfl ⟨rfl, rfl⟩ (by decide) (Nat.le_of_ble_eq_true rfl) [0, 1, 2, 3, 4, 5, 6, 7, 8, 9, 10, 11, 12, 13, 14, 15, 16, 17, 18, 19, 20, 21] [] [] rfl rfl rfl (fun r w' hp => ?_)
  obtain ⟨or5, co5, rs5, ro5, rfl, rfl, hw5, hro5, hrs5⟩ := hp
  show G X mX8_words ad 0 0 (moW W H mth mbd mne mnw mmn mbx 0 rs5 mrl mfl mpt mdf mlb mbo mwn mwo mxo myo or5 co5 ro5 mpw mph mrk mrb mrf mfr mfm med map mwh, 4, [(0, gr 60), (1, gi i), (2, gi k)], [])
  refine G.go hX 9 (moW W H 0 mbd mne mnw mmn mbx 0 rs5 mrl mfl mpt mdf mlb mbo mwn mwo mxo myo or5 co5 ro5 mpw mph mrk mrb mrf mfr mfm med map mwh, 17, [(0, gr 60), (1, gi i), (2, gi k), (3, gi 0), (4, gi (-1)), (5, gi 0)], []) rfl trivial ?_
  have lp17 : ∀ (n : Nat) (n1 : Int) (it : Int) (q : Int), (0 ≤ q ∧ q ≤ rs5) → (n1 = gsm (fun q => gb (0 < ro5 (4 * q))) q.toNat) → (0 ≤ i → i < n1 → (0 ≤ it ∧ it < q) ∧ 0 < ro5 (4 * it) ∧ gsm (fun q => gb (0 < ro5 (4 * q))) it.toNat = i) → (¬ (0 ≤ i ∧ i < n1) → it = -1) → (rs5 - q).toNat < n → G X mX8_words ad 0 0 (moW W H 0 mbd mne mnw mmn mbx 0 rs5 mrl mfl mpt mdf mlb mbo mwn mwo mxo myo or5 co5 ro5 mpw mph mrk mrb mrf mfr mfm med map mwh, 17, [(0, gr 60), (1, gi i), (2, gi k), (3, gi n1), (4, gi it), (5, gi q)], []) := by
    intro n
    induction n with
    | zero => intro n1 it q hq hn1 hy hno hm9; exact absurd hm9 (Nat.not_lt_zero _)
    | succ n ih17 =>
      intro n1 it q hq hn1 hy hno hm17
      have hnb := gsm_gb (fun q => 0 < ro5 (4 * q)) q.toNat
      refine G.go hX 3 (moW W H 0 mbd mne mnw mmn mbx 0 rs5 mrl mfl mpt mdf mlb mbo mwn mwo mxo myo or5 co5 ro5 mpw mph mrk mrb mrf mfr mfm med map mwh, 23, [(0, gr 60), (1, gi i), (2, gi k), (3, gi n1), (4, gi it), (5, gi q)], [gi rs5, gi q]) rfl trivial ?_
      refine g_icmp_ge hX 61 rfl rfl ⟨by omega, by omega⟩ ⟨by omega, by omega⟩ (fun b23 => ?_) (fun b23 => ?_)
      ·
        have hnr : n1 = gsm (fun q => gb (0 < ro5 (4 * q))) rs5.toNat := by (rw [hn1, show q = rs5 by omega])
        have hit : it = -1 ∨ (0 ≤ it ∧ it < rs5) := by (by_cases h9 : 0 ≤ i ∧ i < n1; (obtain ⟨h3, h4, h5⟩ := hy h9.1 h9.2; exact Or.inr ⟨by omega, by omega⟩); exact Or.inl (hno h9))
        refine G.go hX 2 (moW W H 0 mbd mne mnw mmn mbx 0 rs5 mrl mfl mpt mdf mlb mbo mwn mwo mxo myo or5 co5 ro5 mpw mph mrk mrb mrf mfr mfm med map mwh, 63, [(0, gr 60), (1, gi i), (2, gi k), (3, gi n1), (4, gi it), (5, gi q)], [gi (-1), gi i]) rfl trivial ?_
        refine g_icmp_ne hX 68 rfl rfl (by first | assumption | exact ⟨by omega, by omega⟩) (by first | assumption | exact ⟨by omega, by omega⟩) (fun b63 => ?_) (fun b63 => ?_)
        ·
          refine G.go hX 3 (moW W H 0 mbd mne mnw mmn mbx 0 rs5 mrl mfl mpt mdf mlb mbo mwn mwo mxo myo or5 co5 ro5 mpw mph mrk mrb mrf mfr mfm med map mwh, 72, [(0, gr 60), (1, gi i), (2, gi k), (3, gi n1), (4, gi it), (5, gi q)], [gi (-1), gi it, gr 60]) rfl trivial ?_
          refine g_icmp_eq hX 84 rfl rfl ⟨by omega, by omega⟩ ⟨by omega, by omega⟩ (fun b72 => ?_) (fun b72 => ?_)
          ·
            refine G.go hX 5 (moW W H 1 mbd mne mnw mmn mbx 0 rs5 mrl mfl mpt mdf mlb mbo mwn mwo mxo myo or5 co5 ro5 mpw mph mrk mrb mrf mfr mfm med map mwh, 96, [(0, gr 60), (1, gi i), (2, gi k), (3, gi n1), (4, gi it), (5, gi q)], [gi 1]) rfl trivial ?_
            refine g_if_le hX 103 rfl rfl ⟨by omega, by omega⟩ (fun b96 => ?_) (fun b96 => ?_)
            ·
              exfalso
              omega
            ·
              refine G.go hX 2 (moW W H 1 mbd mne mnw mmn mbx 0 rs5 mrl mfl mpt mdf mlb mbo mwn mwo mxo myo or5 co5 ro5 mpw mph mrk mrb mrf mfr mfm med map mwh, 114, [(0, gr 60), (1, gi i), (2, gi k), (3, gi n1), (4, gi it), (5, gi q)], [gi 0]) rfl trivial ?_
              exact g_iret hX hE rfl ⟨or5, co5, rs5, ro5, 0, 1, rfl, rfl, hw5, hro5, hrs5, fun h9 => by (exfalso; omega), fun _ _ => ⟨rfl, rfl⟩, fun h9 => by (exfalso; have h8 := hy (by omega) (by omega); omega)⟩
          ·
            refine G.go hX 3 (moW W H 0 mbd mne mnw mmn mbx 0 rs5 mrl mfl mpt mdf mlb mbo mwn mwo mxo myo or5 co5 ro5 mpw mph mrk mrb mrf mfr mfm med map mwh, 78, [(0, gr 60), (1, gi i), (2, gi k), (3, gi n1), (4, gi it), (5, gi q)], [gi 3, gi 0, gi k, gr 60]) rfl trivial ?_
            refine G.callS (av := [gi k, gi 0, gi 3]) (st := [gr 60]) hX rfl (fun l D cA => c_X8_in l D cA k 0 3 (by first | assumption | exact ⟨by omega, by omega⟩) ⟨by omega, by omega⟩ ⟨by omega, by omega⟩) (by decide +kernel) aX8_in rfl ⟨rfl, rfl⟩ (by decide) (Nat.le_of_ble_eq_true rfl) [] [0, 1, 2, 3, 4, 5, 6, 7, 8, 9, 10, 11, 12, 13, 14, 15, 16, 17, 18, 19, 20, 21] (moW W H 0 mbd mne mnw mmn mbx 0 rs5 mrl mfl mpt mdf mlb mbo mwn mwo mxo myo or5 co5 ro5 mpw mph mrk mrb mrf mfr mfm med map mwh) rfl rfl rfl (fun r w' hp => ?_)
            obtain ⟨rfl, rfl⟩ := hp
            show G X mX8_words ad 0 0 (moW W H 0 mbd mne mnw mmn mbx 0 rs5 mrl mfl mpt mdf mlb mbo mwn mwo mxo myo or5 co5 ro5 mpw mph mrk mrb mrf mfr mfm med map mwh, 81, [(0, gr 60), (1, gi i), (2, gi k), (3, gi n1), (4, gi it), (5, gi q)], [gi (gb (0 ≤ k ∧ k ≤ 3)), gr 60])
            refine g_if_ne hX 88 rfl rfl (gb_r _) (fun b81 => ?_) (fun b81 => ?_)
            ·
              have b81 := gb_n0 b81
              refine G.go hX 4 (moW W H 0 mbd mne mnw mmn mbx 0 rs5 mrl mfl mpt mdf mlb mbo mwn mwo mxo myo or5 co5 ro5 mpw mph mrk mrb mrf mfr mfm med map mwh, 96, [(0, gr 60), (1, gi i), (2, gi k), (3, gi n1), (4, gi it), (5, gi q)], [gi 0]) rfl trivial ?_
              refine g_if_le hX 103 rfl rfl ⟨by omega, by omega⟩ (fun b96 => ?_) (fun b96 => ?_)
              ·
                have hyy : 0 ≤ i ∧ i < n1 := by (apply Classical.byContradiction; intro h9; have := hno h9; omega)
                obtain ⟨y1, y2, y3⟩ := hy hyy.1 hyy.2
                refine G.go hX 8 (moW W H 0 mbd mne mnw mmn mbx 0 rs5 mrl mfl mpt mdf mlb mbo mwn mwo mxo myo or5 co5 ro5 mpw mph mrk mrb mrf mfr mfm med map mwh, 114, [(0, gr 60), (1, gi i), (2, gi k), (3, gi n1), (4, gi it), (5, gi q)], [gi (ro5 ((4 * it) + k))]) rfl ?_ ?_
                · refine ⟨?_, trivial⟩
                  · omega
                exact g_iret hX hE rfl ⟨or5, co5, rs5, ro5, _, 0, rfl, rfl, hw5, hro5, hrs5, fun h9 => by (exfalso; omega), fun _ h9 => by (exfalso; omega), fun _ => ⟨rfl, it, ⟨by omega, by omega⟩, y2, y3, rfl⟩⟩
              ·
                exfalso
                omega
            ·
              have b81 := gb_nn b81
              refine G.go hX 5 (moW W H 1 mbd mne mnw mmn mbx 0 rs5 mrl mfl mpt mdf mlb mbo mwn mwo mxo myo or5 co5 ro5 mpw mph mrk mrb mrf mfr mfm med map mwh, 96, [(0, gr 60), (1, gi i), (2, gi k), (3, gi n1), (4, gi it), (5, gi q)], [gi 1]) rfl trivial ?_
              refine g_if_le hX 103 rfl rfl ⟨by omega, by omega⟩ (fun b96 => ?_) (fun b96 => ?_)
              ·
                exfalso
                omega
              ·
                refine G.go hX 2 (moW W H 1 mbd mne mnw mmn mbx 0 rs5 mrl mfl mpt mdf mlb mbo mwn mwo mxo myo or5 co5 ro5 mpw mph mrk mrb mrf mfr mfm med map mwh, 114, [(0, gr 60), (1, gi i), (2, gi k), (3, gi n1), (4, gi it), (5, gi q)], [gi 0]) rfl trivial ?_
                exact g_iret hX hE rfl ⟨or5, co5, rs5, ro5, 0, 1, rfl, rfl, hw5, hro5, hrs5, fun h9 => by (exfalso; omega), fun _ _ => ⟨rfl, rfl⟩, fun h9 => by (exfalso; have h8 := hy (by omega) (by omega); omega)⟩
        ·
          refine G.go hX 1 (moW W H 0 mbd mne mnw mmn mbx 0 rs5 mrl mfl mpt mdf mlb mbo mwn mwo mxo myo or5 co5 ro5 mpw mph mrk mrb mrf mfr mfm med map mwh, 67, [(0, gr 60), (1, gi i), (2, gi k), (3, gi n1), (4, gi it), (5, gi q)], [gi n1]) rfl trivial ?_
          exact g_iret hX hE rfl ⟨or5, co5, rs5, ro5, n1, 0, rfl, rfl, hw5, hro5, hrs5, fun _ => ⟨rfl, hnr⟩, fun h9 => by (exfalso; omega), fun h9 => by (exfalso; omega)⟩
      ·
        refine G.go hX 6 (moW W H 0 mbd mne mnw mmn mbx 0 rs5 mrl mfl mpt mdf mlb mbo mwn mwo mxo myo or5 co5 ro5 mpw mph mrk mrb mrf mfr mfm med map mwh, 35, [(0, gr 60), (1, gi i), (2, gi k), (3, gi n1), (4, gi it), (5, gi q)], [gi (ro5 (4 * q))]) rfl ?_ ?_
        · refine ⟨?_, trivial⟩
          · omega
        refine g_if_le hX 55 rfl rfl (hro5 _) (fun b35 => ?_) (fun b35 => ?_)
        ·
          refine G.go hX 2 (moW W H 0 mbd mne mnw mmn mbx 0 rs5 mrl mfl mpt mdf mlb mbo mwn mwo mxo myo or5 co5 ro5 mpw mph mrk mrb mrf mfr mfm med map mwh, 17, [(0, gr 60), (1, gi i), (2, gi k), (3, gi n1), (4, gi it), (5, gi (q + 1))], []) rfl trivial ?_
          exact ih17 n1 it (q + 1) (by omega) (by have h9 := gsm_next (fun q => gb (0 < ro5 (4 * q))) hq.1 hn1; rw [gb_f (show ¬ 0 < ro5 (4 * q) by omega)] at h9; omega) (by intro h1 h2; obtain ⟨h3, h4, h5⟩ := hy h1 h2; exact ⟨by omega, h4, h5⟩) (by exact hno) (by omega)
        ·
          refine G.go hX 2 (moW W H 0 mbd mne mnw mmn mbx 0 rs5 mrl mfl mpt mdf mlb mbo mwn mwo mxo myo or5 co5 ro5 mpw mph mrk mrb mrf mfr mfm med map mwh, 40, [(0, gr 60), (1, gi i), (2, gi k), (3, gi n1), (4, gi it), (5, gi q)], [gi i, gi n1]) rfl trivial ?_
          have jn50 : G X mX8_words ad 0 0 (moW W H 0 mbd mne mnw mmn mbx 0 rs5 mrl mfl mpt mdf mlb mbo mwn mwo mxo myo or5 co5 ro5 mpw mph mrk mrb mrf mfr mfm med map mwh, 50, [(0, gr 60), (1, gi i), (2, gi k), (3, gi n1), (4, gi it), (5, gi q)], [gi (if n1 = i then q else it)]) := by
            refine G.go hX 4 (moW W H 0 mbd mne mnw mmn mbx 0 rs5 mrl mfl mpt mdf mlb mbo mwn mwo mxo myo or5 co5 ro5 mpw mph mrk mrb mrf mfr mfm med map mwh, 17, [(0, gr 60), (1, gi i), (2, gi k), (3, gi (n1 + 1)), (4, gi (if n1 = i then q else it)), (5, gi (q + 1))], []) rfl trivial ?_
            exact ih17 (n1 + 1) (if n1 = i then q else it) (q + 1) (by omega) (by have h9 := gsm_next (fun q => gb (0 < ro5 (4 * q))) hq.1 hn1; rw [gb_t (show 0 < ro5 (4 * q) by omega)] at h9; exact h9) (by intro h1 h2; by_cases e9 : n1 = i; (rw [if_pos e9]; exact ⟨by omega, by omega, by omega⟩); (rw [if_neg e9]; obtain ⟨h3, h4, h5⟩ := hy h1 (by omega); exact ⟨by omega, h4, h5⟩)) (by intro h1; rw [if_neg (by omega)]; exact hno (by omega)) (by omega)
          refine g_icmp_ne hX 48 rfl rfl (by first | assumption | exact ⟨by omega, by omega⟩) (by first | assumption | exact ⟨by omega, by omega⟩) (fun b40 => ?_) (fun b40 => ?_)
          ·
            refine G.go hX 1 (moW W H 0 mbd mne mnw mmn mbx 0 rs5 mrl mfl mpt mdf mlb mbo mwn mwo mxo myo or5 co5 ro5 mpw mph mrk mrb mrf mfr mfm med map mwh, 50, [(0, gr 60), (1, gi i), (2, gi k), (3, gi n1), (4, gi it), (5, gi q)], [gi it]) rfl trivial ?_
            refine G.eq (S' := (moW W H 0 mbd mne mnw mmn mbx 0 rs5 mrl mfl mpt mdf mlb mbo mwn mwo mxo myo or5 co5 ro5 mpw mph mrk mrb mrf mfr mfm med map mwh, 50, [(0, gr 60), (1, gi i), (2, gi k), (3, gi n1), (4, gi it), (5, gi q)], [gi (if n1 = i then q else it)])) ?_ jn50
            rw [if_neg (by omega)]
          ·
            refine G.go hX 2 (moW W H 0 mbd mne mnw mmn mbx 0 rs5 mrl mfl mpt mdf mlb mbo mwn mwo mxo myo or5 co5 ro5 mpw mph mrk mrb mrf mfr mfm med map mwh, 50, [(0, gr 60), (1, gi i), (2, gi k), (3, gi n1), (4, gi it), (5, gi q)], [gi q]) rfl trivial ?_
            refine G.eq (S' := (moW W H 0 mbd mne mnw mmn mbx 0 rs5 mrl mfl mpt mdf mlb mbo mwn mwo mxo myo or5 co5 ro5 mpw mph mrk mrb mrf mfr mfm med map mwh, 50, [(0, gr 60), (1, gi i), (2, gi k), (3, gi n1), (4, gi it), (5, gi q)], [gi (if n1 = i then q else it)])) ?_ jn50
            rw [if_pos (by omega)]
  exact lp17 _ 0 (-1) 0 (by omega) (by rfl) (by intro h1 h2; omega) (by intro _; rfl) (Nat.lt_succ_self _)
set_option maxHeartbeats 4000000 in
set_option maxRecDepth 100000 in
theorem c_X8_find (l : Launch) (D : va_G) (cA : Nat → ClassId) (W : Nat) (H : Nat) (mth : Int) (mbd : Int) (mne : Int) (mnw : Int) (mmn : Int) (mbx : Int) (man : Int) (mrs : Int) (mrl : Int) (mfl : Int) (mpt : Int → Int) (mdf : Int → Int) (mlb : Int → Int) (mbo : Int → Int) (mwn : Int → Int) (mwo : Int → Int) (mxo : Int → Int) (myo : Int → Int) (mor : Int → Int) (mco : Int → Int) (mro : Int → Int) (mpw : Int → Int) (mph : Int → Int) (mrk : Int → Int) (mrb : Int → Int) (mrf : Int → Int) (mfr : Int → Int) (mfm : Int → Int) (med : Int → Int) (map : Int → Int) (mwh : Int → Int) (k : Int) (hW : W ≤ 32) (hH : H ≤ 32) (hne : 0 ≤ mne ∧ mne ≤ 2) (hbd : 0 ≤ mbd ∧ mbd ≤ 255) (hpt : ∀ q : Int, 0 ≤ mpt q ∧ mpt q ≤ 255) (hdf : ∀ q : Int, mdf q = 0 ∨ mdf q = 1) (hlb : ∀ q : Int, 0 ≤ mlb q ∧ mlb q ≤ 1023) (hbo : ∀ q : Int, inR (mbo q)) (hnw : mnw = 0 ∨ mnw = 1) (hval : mnw = 0 → mVal W H mne mbd mpt mmn mbx mbo mdf) (hwn : (0 ≤ mwn 0 ∧ mwn 0 ≤ 40) ∧ 0 ≤ mwn 1 ∧ mwn 1 ≤ 40) (hwo : ∀ q : Int, inR (mwo q)) (hxy : ∀ q : Int, inR (mxo q) ∧ inR (myo q)) (hro : ∀ q : Int, inR (mro q)) (han : man = 0 ∨ man = 1) (hrs : 0 ≤ mrs ∧ mrs ≤ 80) (hvalw : man = 0 → mWv mwn mwo mxo myo mor mrs mro) (hk : 0 ≤ k ∧ k ≤ 5) (hpw : ∀ q : Int, inR (mpw q) ∧ inR (mph q)) :
    gC l D cA yX8_find mX8_find (some .int) 0 0 [gr 60, gi k] (moW W H mth mbd mne mnw mmn mbx man mrs mrl mfl mpt mdf mlb mbo mwn mwo mxo myo mor mco mro mpw mph mrk mrb mrf mfr mfm med map mwh) (fun r9 w9 => ∃ (df2 : Int → Int) (lb2 : Int → Int) (mn2 : Int) (bx2 : Int) (bo2 : Int → Int) (or2 : Int → Int) (co2 : Int → Int) (rs2 : Int) (ro2 : Int → Int) (rv : Int), r9 = some (gi rv) ∧ w9 = moW W H mth mbd mne 0 mn2 bx2 0 rs2 mrl mfl mpt df2 lb2 bo2 mwn mwo mxo myo or2 co2 ro2 mpw mph mrk mrb mrf mfr mfm med map mwh ∧ (mVal W H mne mbd mpt mn2 bx2 bo2 df2) ∧ (∀ q : Int, df2 q = 0 ∨ df2 q = 1) ∧ (∀ q : Int, 0 ≤ lb2 q ∧ lb2 q ≤ 1023) ∧ (∀ q : Int, inR (bo2 q)) ∧ (mWv mwn mwo mxo myo or2 rs2 ro2) ∧ (∀ q : Int, inR (ro2 q)) ∧ (0 ≤ rs2 ∧ rs2 ≤ 80) ∧ (mFv W H mne mbd mpt mwn mwo mxo myo mpw mph k rv)) := by
  refine gC_of rfl kX8_find rfl rfl (Nat.le_of_ble_eq_true rfl) (fun X ad hX hE => ?_)
  refine G.go hX 1 (moW W H mth mbd mne mnw mmn mbx man mrs mrl mfl mpt mdf mlb mbo mwn mwo mxo myo mor mco mro mpw mph mrk mrb mrf mfr mfm med map mwh, 1, [(0, gr 60), (1, gi k)], [gr 60]) rfl trivial ?_
  refine G.callV (av := []) (o := 60) (st := []) hX rfl (fun l D cA => c_X8_look l D cA W H mth mbd mne mnw mmn mbx man mrs mrl mfl mpt mdf mlb mbo mwn mwo mxo myo mor mco mro mpw mph mrk mrb mrf mfr mfm med map mwh (by first | assumption | omega) (by first | assumption | omega) (by first | assumption | omega) (by first | assumption | omega) (by first | assumption | omega) (by first | assumption | omega) (by first | assumption | omega) (by first | assumption | omega) (by first | assumption | omega) (by first | assumption | omega)) (by decide +kernel) aX8_look rfl rfl rfl ⟨rfl, rfl⟩ (by decide) (Nat.le_of_ble_eq_true rfl) [0, 1, 2, 3, 4, 5, 6, 7, 8, 9, 10, 11, 12, 13, 14, 15, 16, 17, 18, 19, 20, 21] [] [] rfl rfl rfl (fun r w' hp => ?_)
  obtain ⟨df5, lb5, mn5, bx5, bo5, rfl, rfl, hv5, hdf5, hlb5, hbo5⟩ := hp
  show G X mX8_find ad 0 0 (moW W H mth mbd mne 0 mn5 bx5 man mrs mrl mfl mpt df5 lb5 bo5 mwn mwo mxo myo mor mco mro mpw mph mrk mrb mrf mfr mfm med map mwh, 4, [(0, gr 60), (1, gi k)], [])
  refine G.go hX 1 (moW W H mth mbd mne 0 mn5 bx5 man mrs mrl mfl mpt df5 lb5 bo5 mwn mwo mxo myo mor mco mro mpw mph mrk mrb mrf mfr mfm med map mwh, 5, [(0, gr 60), (1, gi k)], [gr 60]) rfl trivial ?_
  refine G.callV (av := []) (o := 60) (st := []) hX rfl (fun l D cA => c_X8_compare l D cA W H mth mbd mne 0 mn5 bx5 man mrs mrl mfl mpt df5 lb5 bo5 mwn mwo mxo myo mor mco mro mpw mph mrk mrb mrf mfr mfm med map mwh (by first | assumption | omega) (by first | assumption | omega) (by first | assumption | omega) (by first | assumption | omega) (by first | assumption | omega) (by first | assumption | omega) hvalw) (by decide +kernel) aX8_compare rfl rfl rfl ⟨rfl, rfl⟩ (by decide) (Nat.le_of_ble_eq_true rfl) [0, 1, 2, 3, 4, 5, 6, 7, 8, 9, 10, 11, 12, 13, 14, 15, 16, 17, 18, 19, 20, 21] [] [] rfl rfl rfl (fun r w' hp => ?_)
  obtain ⟨or5, co5, rs5, ro5, rfl, rfl, hw5, hro5, hrs5⟩ := hp
  show G X mX8_find ad 0 0 (moW W H mth mbd mne 0 mn5 bx5 0 rs5 mrl mfl mpt df5 lb5 bo5 mwn mwo mxo myo or5 co5 ro5 mpw mph mrk mrb mrf mfr mfm med map mwh, 8, [(0, gr 60), (1, gi k)], [])
  have hbx5 := hv5.2.2.1
  have hmn := hv5.1
  have hmg := gsm_nn (f := mds W H mne mbd mpt) (fun _ => gb_01 _) 1024
  refine G.go hX 2 (moW W H mth mbd mne 0 mn5 bx5 0 rs5 mrl mfl mpt df5 lb5 bo5 mwn mwo mxo myo or5 co5 ro5 mpw mph mrk mrb mrf mfr mfm med map mwh, 10, [(0, gr 60), (1, gi k)], [gi 2, gi k]) rfl trivial ?_
  refine g_icmp_ge hX 29 rfl rfl ⟨by omega, by omega⟩ ⟨by omega, by omega⟩ (fun b10 => ?_) (fun b10 => ?_)
  ·
    refine G.go hX 2 (moW W H mth mbd mne 0 mn5 bx5 0 rs5 mrl mfl mpt df5 lb5 bo5 mwn mwo mxo myo or5 co5 ro5 mpw mph mrk mrb mrf mfr mfm med map mwh, 31, [(0, gr 60), (1, gi k)], [gi 4, gi k]) rfl trivial ?_
    refine g_icmp_ge hX 55 rfl rfl ⟨by omega, by omega⟩ ⟨by omega, by omega⟩ (fun b31 => ?_) (fun b31 => ?_)
    ·
      refine G.go hX 4 (moW W H mth mbd mne 0 mn5 bx5 0 rs5 mrl mfl mpt df5 lb5 bo5 mwn mwo mxo myo or5 co5 ro5 mpw mph mrk mrb mrf mfr mfm med map mwh, 59, [(0, gr 60), (1, gi k), (2, gi 0), (3, gi 0)], []) rfl trivial ?_
      have lp59 : ∀ (n : Nat) (n1 : Int) (q : Int), (0 ≤ q ∧ q ≤ 20) → (n1 = gsm (fun q => gb ((k = 4 ∧ mms mpw q) ∨ (k = 5 ∧ 0 < mpw q ∧ 0 < mpw (20 + q) ∧ (mpw q ≠ mpw (20 + q) ∨ mph q ≠ mph (20 + q))))) q.toNat) → (20 - q).toNat < n → G X mX8_find ad 0 0 (moW W H mth mbd mne 0 mn5 bx5 0 rs5 mrl mfl mpt df5 lb5 bo5 mwn mwo mxo myo or5 co5 ro5 mpw mph mrk mrb mrf mfr mfm med map mwh, 59, [(0, gr 60), (1, gi k), (2, gi n1), (3, gi q)], []) := by
        intro n
        induction n with
        | zero => intro n1 q hq hn1 hm9; exact absurd hm9 (Nat.not_lt_zero _)
        | succ n ih59 =>
          intro n1 q hq hn1 hm59
          refine G.go hX 2 (moW W H mth mbd mne 0 mn5 bx5 0 rs5 mrl mfl mpt df5 lb5 bo5 mwn mwo mxo myo or5 co5 ro5 mpw mph mrk mrb mrf mfr mfm med map mwh, 62, [(0, gr 60), (1, gi k), (2, gi n1), (3, gi q)], [gi 20, gi q]) rfl trivial ?_
          refine g_icmp_ge hX 189 rfl rfl ⟨by omega, by omega⟩ ⟨by omega, by omega⟩ (fun b62 => ?_) (fun b62 => ?_)
          ·
            refine G.go hX 1 (moW W H mth mbd mne 0 mn5 bx5 0 rs5 mrl mfl mpt df5 lb5 bo5 mwn mwo mxo myo or5 co5 ro5 mpw mph mrk mrb mrf mfr mfm med map mwh, 190, [(0, gr 60), (1, gi k), (2, gi n1), (3, gi q)], [gi n1]) rfl trivial ?_
            exact g_iret hX hE rfl ⟨df5, lb5, mn5, bx5, bo5, or5, co5, rs5, ro5, n1, rfl, rfl, hv5, hdf5, hlb5, hbo5, hw5, hro5, hrs5, ⟨fun h9 => by (exfalso; omega), fun h9 => by (exfalso; omega), fun h9 => by (exfalso; omega), fun h9 => by (exfalso; omega), fun h9 => by (rw [hn1, show q = 20 by omega]; exact gsm_congr 20 (fun q _ _ => gb_c ⟨fun h8 => by (rcases h8 with h8 | h8; exact h8.2; (exfalso; omega)), fun h8 => Or.inl ⟨h9, h8⟩⟩)), fun h9 => by (rw [hn1, show q = 20 by omega]; exact gsm_congr 20 (fun q _ _ => gb_c ⟨fun h8 => by (rcases h8 with h8 | h8; (exfalso; omega); exact h8.2), fun h8 => Or.inr ⟨h9, h8⟩⟩)), by (rw [hn1]; exact gsm_r (by omega))⟩⟩
          ·
            have hp9 := hpw q
            have hp8 := hpw (20 + q)
            refine G.go hX 4 (moW W H mth mbd mne 0 mn5 bx5 0 rs5 mrl mfl mpt df5 lb5 bo5 mwn mwo mxo myo or5 co5 ro5 mpw mph mrk mrb mrf mfr mfm med map mwh, 71, [(0, gr 60), (1, gi k), (2, gi n1), (3, gi q)], [gi (mpw q)]) rfl ?_ ?_
            · refine ⟨?_, trivial⟩
              · omega
            have jn79 : G X mX8_find ad 0 0 (moW W H mth mbd mne 0 mn5 bx5 0 rs5 mrl mfl mpt df5 lb5 bo5 mwn mwo mxo myo or5 co5 ro5 mpw mph mrk mrb mrf mfr mfm med map mwh, 79, [(0, gr 60), (1, gi k), (2, gi n1), (3, gi q)], [gi (gb (0 < mpw q))]) := by
              refine G.go hX 7 (moW W H mth mbd mne 0 mn5 bx5 0 rs5 mrl mfl mpt df5 lb5 bo5 mwn mwo mxo myo or5 co5 ro5 mpw mph mrk mrb mrf mfr mfm med map mwh, 90, [(0, gr 60), (1, gi k), (2, gi n1), (3, gi q), (4, gi (gb (0 < mpw q)))], [gi (mpw (20 + q))]) rfl ?_ ?_
              · refine ⟨?_, trivial⟩
                · omega
              have jn98 : G X mX8_find ad 0 0 (moW W H mth mbd mne 0 mn5 bx5 0 rs5 mrl mfl mpt df5 lb5 bo5 mwn mwo mxo myo or5 co5 ro5 mpw mph mrk mrb mrf mfr mfm med map mwh, 98, [(0, gr 60), (1, gi k), (2, gi n1), (3, gi q), (4, gi (gb (0 < mpw q)))], [gi (gb (0 < mpw (20 + q)))]) := by
                refine G.go hX 11 (moW W H mth mbd mne 0 mn5 bx5 0 rs5 mrl mfl mpt df5 lb5 bo5 mwn mwo mxo myo or5 co5 ro5 mpw mph mrk mrb mrf mfr mfm med map mwh, 115, [(0, gr 60), (1, gi k), (2, gi n1), (3, gi q), (4, gi (gb (0 < mpw q))), (5, gi (gb (0 < mpw (20 + q))))], [gi (mpw (20 + q)), gi (mpw q)]) rfl ?_ ?_
                · refine ⟨?_, ?_, trivial⟩
                  · omega
                  · omega
                have jn141 : G X mX8_find ad 0 0 (moW W H mth mbd mne 0 mn5 bx5 0 rs5 mrl mfl mpt df5 lb5 bo5 mwn mwo mxo myo or5 co5 ro5 mpw mph mrk mrb mrf mfr mfm med map mwh, 141, [(0, gr 60), (1, gi k), (2, gi n1), (3, gi q), (4, gi (gb (0 < mpw q))), (5, gi (gb (0 < mpw (20 + q))))], [gi (gb (mpw q ≠ mpw (20 + q) ∨ mph q ≠ mph (20 + q)))]) := by
                  refine G.go hX 3 (moW W H mth mbd mne 0 mn5 bx5 0 rs5 mrl mfl mpt df5 lb5 bo5 mwn mwo mxo myo or5 co5 ro5 mpw mph mrk mrb mrf mfr mfm med map mwh, 145, [(0, gr 60), (1, gi k), (2, gi n1), (3, gi q), (4, gi (gb (0 < mpw q))), (5, gi (gb (0 < mpw (20 + q)))), (6, gi (gb (mpw q ≠ mpw (20 + q) ∨ mph q ≠ mph (20 + q))))], [gi 4, gi k]) rfl trivial ?_
                  have jn182 : G X mX8_find ad 0 0 (moW W H mth mbd mne 0 mn5 bx5 0 rs5 mrl mfl mpt df5 lb5 bo5 mwn mwo mxo myo or5 co5 ro5 mpw mph mrk mrb mrf mfr mfm med map mwh, 182, [(0, gr 60), (1, gi k), (2, gi n1), (3, gi q), (4, gi (gb (0 < mpw q))), (5, gi (gb (0 < mpw (20 + q)))), (6, gi (gb (mpw q ≠ mpw (20 + q) ∨ mph q ≠ mph (20 + q))))], [gi (n1 + gb ((k = 4 ∧ mms mpw q) ∨ (k = 5 ∧ 0 < mpw q ∧ 0 < mpw (20 + q) ∧ (mpw q ≠ mpw (20 + q) ∨ mph q ≠ mph (20 + q)))))]) := by
                    refine G.go hX 3 (moW W H mth mbd mne 0 mn5 bx5 0 rs5 mrl mfl mpt df5 lb5 bo5 mwn mwo mxo myo or5 co5 ro5 mpw mph mrk mrb mrf mfr mfm med map mwh, 59, [(0, gr 60), (1, gi k), (2, gi (n1 + gb ((k = 4 ∧ mms mpw q) ∨ (k = 5 ∧ 0 < mpw q ∧ 0 < mpw (20 + q) ∧ (mpw q ≠ mpw (20 + q) ∨ mph q ≠ mph (20 + q)))))), (3, gi (q + 1)), (4, gi (gb (0 < mpw q))), (5, gi (gb (0 < mpw (20 + q)))), (6, gi (gb (mpw q ≠ mpw (20 + q) ∨ mph q ≠ mph (20 + q))))], []) rfl trivial ?_
                    refine G.locs [(0, gr 60), (1, gi k), (2, gi (n1 + gb ((k = 4 ∧ mms mpw q) ∨ (k = 5 ∧ 0 < mpw q ∧ 0 < mpw (20 + q) ∧ (mpw q ≠ mpw (20 + q) ∨ mph q ≠ mph (20 + q)))))), (3, gi (q + 1))] [0, 1, 2, 3] rfl ?_
                    exact ih59 (n1 + gb ((k = 4 ∧ mms mpw q) ∨ (k = 5 ∧ 0 < mpw q ∧ 0 < mpw (20 + q) ∧ (mpw q ≠ mpw (20 + q) ∨ mph q ≠ mph (20 + q))))) (q + 1) (by omega) (by exact gsm_next (fun q => gb ((k = 4 ∧ mms mpw q) ∨ (k = 5 ∧ 0 < mpw q ∧ 0 < mpw (20 + q) ∧ (mpw q ≠ mpw (20 + q) ∨ mph q ≠ mph (20 + q))))) hq.1 hn1) (by omega)
                  refine g_icmp_ne hX 155 rfl rfl ⟨by omega, by omega⟩ ⟨by omega, by omega⟩ (fun b145 => ?_) (fun b145 => ?_)
                  ·
                    refine G.go hX 2 (moW W H mth mbd mne 0 mn5 bx5 0 rs5 mrl mfl mpt df5 lb5 bo5 mwn mwo mxo myo or5 co5 ro5 mpw mph mrk mrb mrf mfr mfm med map mwh, 157, [(0, gr 60), (1, gi k), (2, gi n1), (3, gi q), (4, gi (gb (0 < mpw q))), (5, gi (gb (0 < mpw (20 + q)))), (6, gi (gb (mpw q ≠ mpw (20 + q) ∨ mph q ≠ mph (20 + q))))], [gi 5, gi k]) rfl trivial ?_
                    refine g_icmp_ne hX 181 rfl rfl ⟨by omega, by omega⟩ ⟨by omega, by omega⟩ (fun b157 => ?_) (fun b157 => ?_)
                    ·
                      refine G.go hX 1 (moW W H mth mbd mne 0 mn5 bx5 0 rs5 mrl mfl mpt df5 lb5 bo5 mwn mwo mxo myo or5 co5 ro5 mpw mph mrk mrb mrf mfr mfm med map mwh, 182, [(0, gr 60), (1, gi k), (2, gi n1), (3, gi q), (4, gi (gb (0 < mpw q))), (5, gi (gb (0 < mpw (20 + q)))), (6, gi (gb (mpw q ≠ mpw (20 + q) ∨ mph q ≠ mph (20 + q))))], [gi n1]) rfl trivial ?_
                      refine G.eq (S' := (moW W H mth mbd mne 0 mn5 bx5 0 rs5 mrl mfl mpt df5 lb5 bo5 mwn mwo mxo myo or5 co5 ro5 mpw mph mrk mrb mrf mfr mfm med map mwh, 182, [(0, gr 60), (1, gi k), (2, gi n1), (3, gi q), (4, gi (gb (0 < mpw q))), (5, gi (gb (0 < mpw (20 + q)))), (6, gi (gb (mpw q ≠ mpw (20 + q) ∨ mph q ≠ mph (20 + q))))], [gi (n1 + gb ((k = 4 ∧ mms mpw q) ∨ (k = 5 ∧ 0 < mpw q ∧ 0 < mpw (20 + q) ∧ (mpw q ≠ mpw (20 + q) ∨ mph q ≠ mph (20 + q)))))])) ?_ jn182
                      rw [gb_f (P := (k = 4 ∧ mms mpw q) ∨ (k = 5 ∧ 0 < mpw q ∧ 0 < mpw (20 + q) ∧ (mpw q ≠ mpw (20 + q) ∨ mph q ≠ mph (20 + q)))) (by (intro h9; rcases h9 with ⟨h9, h8⟩ | ⟨h9, h8, h7, h6⟩; (first | (exfalso; omega) | exact h8 (gb_eq b152) | exact h8 (gb_eq (Classical.not_not.mp b152))); (first | (exfalso; omega) | exact b162 h8 | exact b167 h7 | exact b172 h6))), Int.add_zero]
                    ·
                      refine G.go hX 1 (moW W H mth mbd mne 0 mn5 bx5 0 rs5 mrl mfl mpt df5 lb5 bo5 mwn mwo mxo myo or5 co5 ro5 mpw mph mrk mrb mrf mfr mfm med map mwh, 162, [(0, gr 60), (1, gi k), (2, gi n1), (3, gi q), (4, gi (gb (0 < mpw q))), (5, gi (gb (0 < mpw (20 + q)))), (6, gi (gb (mpw q ≠ mpw (20 + q) ∨ mph q ≠ mph (20 + q))))], [gi (gb (0 < mpw q))]) rfl trivial ?_
                      refine g_if_eq hX 181 rfl rfl (gb_r _) (fun b162 => ?_) (fun b162 => ?_)
                      ·
                        have b162 := gb_0.mp b162
                        refine G.go hX 1 (moW W H mth mbd mne 0 mn5 bx5 0 rs5 mrl mfl mpt df5 lb5 bo5 mwn mwo mxo myo or5 co5 ro5 mpw mph mrk mrb mrf mfr mfm med map mwh, 182, [(0, gr 60), (1, gi k), (2, gi n1), (3, gi q), (4, gi (gb (0 < mpw q))), (5, gi (gb (0 < mpw (20 + q)))), (6, gi (gb (mpw q ≠ mpw (20 + q) ∨ mph q ≠ mph (20 + q))))], [gi n1]) rfl trivial ?_
                        refine G.eq (S' := (moW W H mth mbd mne 0 mn5 bx5 0 rs5 mrl mfl mpt df5 lb5 bo5 mwn mwo mxo myo or5 co5 ro5 mpw mph mrk mrb mrf mfr mfm med map mwh, 182, [(0, gr 60), (1, gi k), (2, gi n1), (3, gi q), (4, gi (gb (0 < mpw q))), (5, gi (gb (0 < mpw (20 + q)))), (6, gi (gb (mpw q ≠ mpw (20 + q) ∨ mph q ≠ mph (20 + q))))], [gi (n1 + gb ((k = 4 ∧ mms mpw q) ∨ (k = 5 ∧ 0 < mpw q ∧ 0 < mpw (20 + q) ∧ (mpw q ≠ mpw (20 + q) ∨ mph q ≠ mph (20 + q)))))])) ?_ jn182
                        rw [gb_f (P := (k = 4 ∧ mms mpw q) ∨ (k = 5 ∧ 0 < mpw q ∧ 0 < mpw (20 + q) ∧ (mpw q ≠ mpw (20 + q) ∨ mph q ≠ mph (20 + q)))) (by (intro h9; rcases h9 with ⟨h9, h8⟩ | ⟨h9, h8, h7, h6⟩; (first | (exfalso; omega) | exact h8 (gb_eq b152) | exact h8 (gb_eq (Classical.not_not.mp b152))); (first | (exfalso; omega) | exact b162 h8 | exact b167 h7 | exact b172 h6))), Int.add_zero]
                      ·
                        have b162 := gb_n0 b162
                        refine G.go hX 1 (moW W H mth mbd mne 0 mn5 bx5 0 rs5 mrl mfl mpt df5 lb5 bo5 mwn mwo mxo myo or5 co5 ro5 mpw mph mrk mrb mrf mfr mfm med map mwh, 167, [(0, gr 60), (1, gi k), (2, gi n1), (3, gi q), (4, gi (gb (0 < mpw q))), (5, gi (gb (0 < mpw (20 + q)))), (6, gi (gb (mpw q ≠ mpw (20 + q) ∨ mph q ≠ mph (20 + q))))], [gi (gb (0 < mpw (20 + q)))]) rfl trivial ?_
                        refine g_if_eq hX 181 rfl rfl (gb_r _) (fun b167 => ?_) (fun b167 => ?_)
                        ·
                          have b167 := gb_0.mp b167
                          refine G.go hX 1 (moW W H mth mbd mne 0 mn5 bx5 0 rs5 mrl mfl mpt df5 lb5 bo5 mwn mwo mxo myo or5 co5 ro5 mpw mph mrk mrb mrf mfr mfm med map mwh, 182, [(0, gr 60), (1, gi k), (2, gi n1), (3, gi q), (4, gi (gb (0 < mpw q))), (5, gi (gb (0 < mpw (20 + q)))), (6, gi (gb (mpw q ≠ mpw (20 + q) ∨ mph q ≠ mph (20 + q))))], [gi n1]) rfl trivial ?_
                          refine G.eq (S' := (moW W H mth mbd mne 0 mn5 bx5 0 rs5 mrl mfl mpt df5 lb5 bo5 mwn mwo mxo myo or5 co5 ro5 mpw mph mrk mrb mrf mfr mfm med map mwh, 182, [(0, gr 60), (1, gi k), (2, gi n1), (3, gi q), (4, gi (gb (0 < mpw q))), (5, gi (gb (0 < mpw (20 + q)))), (6, gi (gb (mpw q ≠ mpw (20 + q) ∨ mph q ≠ mph (20 + q))))], [gi (n1 + gb ((k = 4 ∧ mms mpw q) ∨ (k = 5 ∧ 0 < mpw q ∧ 0 < mpw (20 + q) ∧ (mpw q ≠ mpw (20 + q) ∨ mph q ≠ mph (20 + q)))))])) ?_ jn182
                          rw [gb_f (P := (k = 4 ∧ mms mpw q) ∨ (k = 5 ∧ 0 < mpw q ∧ 0 < mpw (20 + q) ∧ (mpw q ≠ mpw (20 + q) ∨ mph q ≠ mph (20 + q)))) (by (intro h9; rcases h9 with ⟨h9, h8⟩ | ⟨h9, h8, h7, h6⟩; (first | (exfalso; omega) | exact h8 (gb_eq b152) | exact h8 (gb_eq (Classical.not_not.mp b152))); (first | (exfalso; omega) | exact b162 h8 | exact b167 h7 | exact b172 h6))), Int.add_zero]
                        ·
                          have b167 := gb_n0 b167
                          refine G.go hX 1 (moW W H mth mbd mne 0 mn5 bx5 0 rs5 mrl mfl mpt df5 lb5 bo5 mwn mwo mxo myo or5 co5 ro5 mpw mph mrk mrb mrf mfr mfm med map mwh, 172, [(0, gr 60), (1, gi k), (2, gi n1), (3, gi q), (4, gi (gb (0 < mpw q))), (5, gi (gb (0 < mpw (20 + q)))), (6, gi (gb (mpw q ≠ mpw (20 + q) ∨ mph q ≠ mph (20 + q))))], [gi (gb (mpw q ≠ mpw (20 + q) ∨ mph q ≠ mph (20 + q)))]) rfl trivial ?_
                          refine g_if_eq hX 181 rfl rfl (gb_r _) (fun b172 => ?_) (fun b172 => ?_)
                          ·
                            have b172 := gb_0.mp b172
                            refine G.go hX 1 (moW W H mth mbd mne 0 mn5 bx5 0 rs5 mrl mfl mpt df5 lb5 bo5 mwn mwo mxo myo or5 co5 ro5 mpw mph mrk mrb mrf mfr mfm med map mwh, 182, [(0, gr 60), (1, gi k), (2, gi n1), (3, gi q), (4, gi (gb (0 < mpw q))), (5, gi (gb (0 < mpw (20 + q)))), (6, gi (gb (mpw q ≠ mpw (20 + q) ∨ mph q ≠ mph (20 + q))))], [gi n1]) rfl trivial ?_
                            refine G.eq (S' := (moW W H mth mbd mne 0 mn5 bx5 0 rs5 mrl mfl mpt df5 lb5 bo5 mwn mwo mxo myo or5 co5 ro5 mpw mph mrk mrb mrf mfr mfm med map mwh, 182, [(0, gr 60), (1, gi k), (2, gi n1), (3, gi q), (4, gi (gb (0 < mpw q))), (5, gi (gb (0 < mpw (20 + q)))), (6, gi (gb (mpw q ≠ mpw (20 + q) ∨ mph q ≠ mph (20 + q))))], [gi (n1 + gb ((k = 4 ∧ mms mpw q) ∨ (k = 5 ∧ 0 < mpw q ∧ 0 < mpw (20 + q) ∧ (mpw q ≠ mpw (20 + q) ∨ mph q ≠ mph (20 + q)))))])) ?_ jn182
                            rw [gb_f (P := (k = 4 ∧ mms mpw q) ∨ (k = 5 ∧ 0 < mpw q ∧ 0 < mpw (20 + q) ∧ (mpw q ≠ mpw (20 + q) ∨ mph q ≠ mph (20 + q)))) (by (intro h9; rcases h9 with ⟨h9, h8⟩ | ⟨h9, h8, h7, h6⟩; (first | (exfalso; omega) | exact h8 (gb_eq b152) | exact h8 (gb_eq (Classical.not_not.mp b152))); (first | (exfalso; omega) | exact b162 h8 | exact b167 h7 | exact b172 h6))), Int.add_zero]
                          ·
                            have b172 := gb_n0 b172
                            refine G.go hX 4 (moW W H mth mbd mne 0 mn5 bx5 0 rs5 mrl mfl mpt df5 lb5 bo5 mwn mwo mxo myo or5 co5 ro5 mpw mph mrk mrb mrf mfr mfm med map mwh, 182, [(0, gr 60), (1, gi k), (2, gi n1), (3, gi q), (4, gi (gb (0 < mpw q))), (5, gi (gb (0 < mpw (20 + q)))), (6, gi (gb (mpw q ≠ mpw (20 + q) ∨ mph q ≠ mph (20 + q))))], [gi (n1 + 1)]) rfl trivial ?_
                            refine G.eq (S' := (moW W H mth mbd mne 0 mn5 bx5 0 rs5 mrl mfl mpt df5 lb5 bo5 mwn mwo mxo myo or5 co5 ro5 mpw mph mrk mrb mrf mfr mfm med map mwh, 182, [(0, gr 60), (1, gi k), (2, gi n1), (3, gi q), (4, gi (gb (0 < mpw q))), (5, gi (gb (0 < mpw (20 + q)))), (6, gi (gb (mpw q ≠ mpw (20 + q) ∨ mph q ≠ mph (20 + q))))], [gi (n1 + gb ((k = 4 ∧ mms mpw q) ∨ (k = 5 ∧ 0 < mpw q ∧ 0 < mpw (20 + q) ∧ (mpw q ≠ mpw (20 + q) ∨ mph q ≠ mph (20 + q)))))])) ?_ jn182
                            rw [gb_t (P := (k = 4 ∧ mms mpw q) ∨ (k = 5 ∧ 0 < mpw q ∧ 0 < mpw (20 + q) ∧ (mpw q ≠ mpw (20 + q) ∨ mph q ≠ mph (20 + q)))) (by first | exact Or.inl ⟨by omega, gb_ne b152⟩ | exact Or.inr ⟨by omega, b162, b167, b172⟩)]
                  ·
                    refine G.go hX 2 (moW W H mth mbd mne 0 mn5 bx5 0 rs5 mrl mfl mpt df5 lb5 bo5 mwn mwo mxo myo or5 co5 ro5 mpw mph mrk mrb mrf mfr mfm med map mwh, 152, [(0, gr 60), (1, gi k), (2, gi n1), (3, gi q), (4, gi (gb (0 < mpw q))), (5, gi (gb (0 < mpw (20 + q)))), (6, gi (gb (mpw q ≠ mpw (20 + q) ∨ mph q ≠ mph (20 + q))))], [gi (gb (0 < mpw (20 + q))), gi (gb (0 < mpw q))]) rfl trivial ?_
                    refine g_icmp_ne hX 175 rfl rfl (gb_r _) (gb_r _) (fun b152 => ?_) (fun b152 => ?_)
                    ·
                      refine G.go hX 4 (moW W H mth mbd mne 0 mn5 bx5 0 rs5 mrl mfl mpt df5 lb5 bo5 mwn mwo mxo myo or5 co5 ro5 mpw mph mrk mrb mrf mfr mfm med map mwh, 182, [(0, gr 60), (1, gi k), (2, gi n1), (3, gi q), (4, gi (gb (0 < mpw q))), (5, gi (gb (0 < mpw (20 + q)))), (6, gi (gb (mpw q ≠ mpw (20 + q) ∨ mph q ≠ mph (20 + q))))], [gi (n1 + 1)]) rfl trivial ?_
                      refine G.eq (S' := (moW W H mth mbd mne 0 mn5 bx5 0 rs5 mrl mfl mpt df5 lb5 bo5 mwn mwo mxo myo or5 co5 ro5 mpw mph mrk mrb mrf mfr mfm med map mwh, 182, [(0, gr 60), (1, gi k), (2, gi n1), (3, gi q), (4, gi (gb (0 < mpw q))), (5, gi (gb (0 < mpw (20 + q)))), (6, gi (gb (mpw q ≠ mpw (20 + q) ∨ mph q ≠ mph (20 + q))))], [gi (n1 + gb ((k = 4 ∧ mms mpw q) ∨ (k = 5 ∧ 0 < mpw q ∧ 0 < mpw (20 + q) ∧ (mpw q ≠ mpw (20 + q) ∨ mph q ≠ mph (20 + q)))))])) ?_ jn182
                      rw [gb_t (P := (k = 4 ∧ mms mpw q) ∨ (k = 5 ∧ 0 < mpw q ∧ 0 < mpw (20 + q) ∧ (mpw q ≠ mpw (20 + q) ∨ mph q ≠ mph (20 + q)))) (by first | exact Or.inl ⟨by omega, gb_ne b152⟩ | exact Or.inr ⟨by omega, b162, b167, b172⟩)]
                    ·
                      refine G.go hX 2 (moW W H mth mbd mne 0 mn5 bx5 0 rs5 mrl mfl mpt df5 lb5 bo5 mwn mwo mxo myo or5 co5 ro5 mpw mph mrk mrb mrf mfr mfm med map mwh, 157, [(0, gr 60), (1, gi k), (2, gi n1), (3, gi q), (4, gi (gb (0 < mpw q))), (5, gi (gb (0 < mpw (20 + q)))), (6, gi (gb (mpw q ≠ mpw (20 + q) ∨ mph q ≠ mph (20 + q))))], [gi 5, gi k]) rfl trivial ?_
                      refine g_icmp_ne hX 181 rfl rfl ⟨by omega, by omega⟩ ⟨by omega, by omega⟩ (fun b157 => ?_) (fun b157 => ?_)
                      ·
                        refine G.go hX 1 (moW W H mth mbd mne 0 mn5 bx5 0 rs5 mrl mfl mpt df5 lb5 bo5 mwn mwo mxo myo or5 co5 ro5 mpw mph mrk mrb mrf mfr mfm med map mwh, 182, [(0, gr 60), (1, gi k), (2, gi n1), (3, gi q), (4, gi (gb (0 < mpw q))), (5, gi (gb (0 < mpw (20 + q)))), (6, gi (gb (mpw q ≠ mpw (20 + q) ∨ mph q ≠ mph (20 + q))))], [gi n1]) rfl trivial ?_
                        refine G.eq (S' := (moW W H mth mbd mne 0 mn5 bx5 0 rs5 mrl mfl mpt df5 lb5 bo5 mwn mwo mxo myo or5 co5 ro5 mpw mph mrk mrb mrf mfr mfm med map mwh, 182, [(0, gr 60), (1, gi k), (2, gi n1), (3, gi q), (4, gi (gb (0 < mpw q))), (5, gi (gb (0 < mpw (20 + q)))), (6, gi (gb (mpw q ≠ mpw (20 + q) ∨ mph q ≠ mph (20 + q))))], [gi (n1 + gb ((k = 4 ∧ mms mpw q) ∨ (k = 5 ∧ 0 < mpw q ∧ 0 < mpw (20 + q) ∧ (mpw q ≠ mpw (20 + q) ∨ mph q ≠ mph (20 + q)))))])) ?_ jn182
                        rw [gb_f (P := (k = 4 ∧ mms mpw q) ∨ (k = 5 ∧ 0 < mpw q ∧ 0 < mpw (20 + q) ∧ (mpw q ≠ mpw (20 + q) ∨ mph q ≠ mph (20 + q)))) (by (intro h9; rcases h9 with ⟨h9, h8⟩ | ⟨h9, h8, h7, h6⟩; (first | (exfalso; omega) | exact h8 (gb_eq b152) | exact h8 (gb_eq (Classical.not_not.mp b152))); (first | (exfalso; omega) | exact b162 h8 | exact b167 h7 | exact b172 h6))), Int.add_zero]
                      ·
                        refine G.go hX 1 (moW W H mth mbd mne 0 mn5 bx5 0 rs5 mrl mfl mpt df5 lb5 bo5 mwn mwo mxo myo or5 co5 ro5 mpw mph mrk mrb mrf mfr mfm med map mwh, 162, [(0, gr 60), (1, gi k), (2, gi n1), (3, gi q), (4, gi (gb (0 < mpw q))), (5, gi (gb (0 < mpw (20 + q)))), (6, gi (gb (mpw q ≠ mpw (20 + q) ∨ mph q ≠ mph (20 + q))))], [gi (gb (0 < mpw q))]) rfl trivial ?_
                        refine g_if_eq hX 181 rfl rfl (gb_r _) (fun b162 => ?_) (fun b162 => ?_)
                        ·
                          have b162 := gb_0.mp b162
                          refine G.go hX 1 (moW W H mth mbd mne 0 mn5 bx5 0 rs5 mrl mfl mpt df5 lb5 bo5 mwn mwo mxo myo or5 co5 ro5 mpw mph mrk mrb mrf mfr mfm med map mwh, 182, [(0, gr 60), (1, gi k), (2, gi n1), (3, gi q), (4, gi (gb (0 < mpw q))), (5, gi (gb (0 < mpw (20 + q)))), (6, gi (gb (mpw q ≠ mpw (20 + q) ∨ mph q ≠ mph (20 + q))))], [gi n1]) rfl trivial ?_
                          refine G.eq (S' := (moW W H mth mbd mne 0 mn5 bx5 0 rs5 mrl mfl mpt df5 lb5 bo5 mwn mwo mxo myo or5 co5 ro5 mpw mph mrk mrb mrf mfr mfm med map mwh, 182, [(0, gr 60), (1, gi k), (2, gi n1), (3, gi q), (4, gi (gb (0 < mpw q))), (5, gi (gb (0 < mpw (20 + q)))), (6, gi (gb (mpw q ≠ mpw (20 + q) ∨ mph q ≠ mph (20 + q))))], [gi (n1 + gb ((k = 4 ∧ mms mpw q) ∨ (k = 5 ∧ 0 < mpw q ∧ 0 < mpw (20 + q) ∧ (mpw q ≠ mpw (20 + q) ∨ mph q ≠ mph (20 + q)))))])) ?_ jn182
                          rw [gb_f (P := (k = 4 ∧ mms mpw q) ∨ (k = 5 ∧ 0 < mpw q ∧ 0 < mpw (20 + q) ∧ (mpw q ≠ mpw (20 + q) ∨ mph q ≠ mph (20 + q)))) (by (intro h9; rcases h9 with ⟨h9, h8⟩ | ⟨h9, h8, h7, h6⟩; (first | (exfalso; omega) | exact h8 (gb_eq b152) | exact h8 (gb_eq (Classical.not_not.mp b152))); (first | (exfalso; omega) | exact b162 h8 | exact b167 h7 | exact b172 h6))), Int.add_zero]
                        ·
                          have b162 := gb_n0 b162
                          refine G.go hX 1 (moW W H mth mbd mne 0 mn5 bx5 0 rs5 mrl mfl mpt df5 lb5 bo5 mwn mwo mxo myo or5 co5 ro5 mpw mph mrk mrb mrf mfr mfm med map mwh, 167, [(0, gr 60), (1, gi k), (2, gi n1), (3, gi q), (4, gi (gb (0 < mpw q))), (5, gi (gb (0 < mpw (20 + q)))), (6, gi (gb (mpw q ≠ mpw (20 + q) ∨ mph q ≠ mph (20 + q))))], [gi (gb (0 < mpw (20 + q)))]) rfl trivial ?_
                          refine g_if_eq hX 181 rfl rfl (gb_r _) (fun b167 => ?_) (fun b167 => ?_)
                          ·
                            have b167 := gb_0.mp b167
                            refine G.go hX 1 (moW W H mth mbd mne 0 mn5 bx5 0 rs5 mrl mfl mpt df5 lb5 bo5 mwn mwo mxo myo or5 co5 ro5 mpw mph mrk mrb mrf mfr mfm med map mwh, 182, [(0, gr 60), (1, gi k), (2, gi n1), (3, gi q), (4, gi (gb (0 < mpw q))), (5, gi (gb (0 < mpw (20 + q)))), (6, gi (gb (mpw q ≠ mpw (20 + q) ∨ mph q ≠ mph (20 + q))))], [gi n1]) rfl trivial ?_
                            refine G.eq (S' := (moW W H mth mbd mne 0 mn5 bx5 0 rs5 mrl mfl mpt df5 lb5 bo5 mwn mwo mxo myo or5 co5 ro5 mpw mph mrk mrb mrf mfr mfm med map mwh, 182, [(0, gr 60), (1, gi k), (2, gi n1), (3, gi q), (4, gi (gb (0 < mpw q))), (5, gi (gb (0 < mpw (20 + q)))), (6, gi (gb (mpw q ≠ mpw (20 + q) ∨ mph q ≠ mph (20 + q))))], [gi (n1 + gb ((k = 4 ∧ mms mpw q) ∨ (k = 5 ∧ 0 < mpw q ∧ 0 < mpw (20 + q) ∧ (mpw q ≠ mpw (20 + q) ∨ mph q ≠ mph (20 + q)))))])) ?_ jn182
                            rw [gb_f (P := (k = 4 ∧ mms mpw q) ∨ (k = 5 ∧ 0 < mpw q ∧ 0 < mpw (20 + q) ∧ (mpw q ≠ mpw (20 + q) ∨ mph q ≠ mph (20 + q)))) (by (intro h9; rcases h9 with ⟨h9, h8⟩ | ⟨h9, h8, h7, h6⟩; (first | (exfalso; omega) | exact h8 (gb_eq b152) | exact h8 (gb_eq (Classical.not_not.mp b152))); (first | (exfalso; omega) | exact b162 h8 | exact b167 h7 | exact b172 h6))), Int.add_zero]
                          ·
                            have b167 := gb_n0 b167
                            refine G.go hX 1 (moW W H mth mbd mne 0 mn5 bx5 0 rs5 mrl mfl mpt df5 lb5 bo5 mwn mwo mxo myo or5 co5 ro5 mpw mph mrk mrb mrf mfr mfm med map mwh, 172, [(0, gr 60), (1, gi k), (2, gi n1), (3, gi q), (4, gi (gb (0 < mpw q))), (5, gi (gb (0 < mpw (20 + q)))), (6, gi (gb (mpw q ≠ mpw (20 + q) ∨ mph q ≠ mph (20 + q))))], [gi (gb (mpw q ≠ mpw (20 + q) ∨ mph q ≠ mph (20 + q)))]) rfl trivial ?_
                            refine g_if_eq hX 181 rfl rfl (gb_r _) (fun b172 => ?_) (fun b172 => ?_)
                            ·
                              have b172 := gb_0.mp b172
                              refine G.go hX 1 (moW W H mth mbd mne 0 mn5 bx5 0 rs5 mrl mfl mpt df5 lb5 bo5 mwn mwo mxo myo or5 co5 ro5 mpw mph mrk mrb mrf mfr mfm med map mwh, 182, [(0, gr 60), (1, gi k), (2, gi n1), (3, gi q), (4, gi (gb (0 < mpw q))), (5, gi (gb (0 < mpw (20 + q)))), (6, gi (gb (mpw q ≠ mpw (20 + q) ∨ mph q ≠ mph (20 + q))))], [gi n1]) rfl trivial ?_
                              refine G.eq (S' := (moW W H mth mbd mne 0 mn5 bx5 0 rs5 mrl mfl mpt df5 lb5 bo5 mwn mwo mxo myo or5 co5 ro5 mpw mph mrk mrb mrf mfr mfm med map mwh, 182, [(0, gr 60), (1, gi k), (2, gi n1), (3, gi q), (4, gi (gb (0 < mpw q))), (5, gi (gb (0 < mpw (20 + q)))), (6, gi (gb (mpw q ≠ mpw (20 + q) ∨ mph q ≠ mph (20 + q))))], [gi (n1 + gb ((k = 4 ∧ mms mpw q) ∨ (k = 5 ∧ 0 < mpw q ∧ 0 < mpw (20 + q) ∧ (mpw q ≠ mpw (20 + q) ∨ mph q ≠ mph (20 + q)))))])) ?_ jn182
                              rw [gb_f (P := (k = 4 ∧ mms mpw q) ∨ (k = 5 ∧ 0 < mpw q ∧ 0 < mpw (20 + q) ∧ (mpw q ≠ mpw (20 + q) ∨ mph q ≠ mph (20 + q)))) (by (intro h9; rcases h9 with ⟨h9, h8⟩ | ⟨h9, h8, h7, h6⟩; (first | (exfalso; omega) | exact h8 (gb_eq b152) | exact h8 (gb_eq (Classical.not_not.mp b152))); (first | (exfalso; omega) | exact b162 h8 | exact b167 h7 | exact b172 h6))), Int.add_zero]
                            ·
                              have b172 := gb_n0 b172
                              refine G.go hX 4 (moW W H mth mbd mne 0 mn5 bx5 0 rs5 mrl mfl mpt df5 lb5 bo5 mwn mwo mxo myo or5 co5 ro5 mpw mph mrk mrb mrf mfr mfm med map mwh, 182, [(0, gr 60), (1, gi k), (2, gi n1), (3, gi q), (4, gi (gb (0 < mpw q))), (5, gi (gb (0 < mpw (20 + q)))), (6, gi (gb (mpw q ≠ mpw (20 + q) ∨ mph q ≠ mph (20 + q))))], [gi (n1 + 1)]) rfl trivial ?_
                              refine G.eq (S' := (moW W H mth mbd mne 0 mn5 bx5 0 rs5 mrl mfl mpt df5 lb5 bo5 mwn mwo mxo myo or5 co5 ro5 mpw mph mrk mrb mrf mfr mfm med map mwh, 182, [(0, gr 60), (1, gi k), (2, gi n1), (3, gi q), (4, gi (gb (0 < mpw q))), (5, gi (gb (0 < mpw (20 + q)))), (6, gi (gb (mpw q ≠ mpw (20 + q) ∨ mph q ≠ mph (20 + q))))], [gi (n1 + gb ((k = 4 ∧ mms mpw q) ∨ (k = 5 ∧ 0 < mpw q ∧ 0 < mpw (20 + q) ∧ (mpw q ≠ mpw (20 + q) ∨ mph q ≠ mph (20 + q)))))])) ?_ jn182
                              rw [gb_t (P := (k = 4 ∧ mms mpw q) ∨ (k = 5 ∧ 0 < mpw q ∧ 0 < mpw (20 + q) ∧ (mpw q ≠ mpw (20 + q) ∨ mph q ≠ mph (20 + q)))) (by first | exact Or.inl ⟨by omega, gb_ne b152⟩ | exact Or.inr ⟨by omega, b162, b167, b172⟩)]
                refine g_icmp_ne hX 136 rfl rfl (by first | exact hp9.1 | exact hp8.1) (by first | exact hp9.1 | exact hp8.1) (fun b115 => ?_) (fun b115 => ?_)
                ·
                  refine G.go hX 2 (moW W H mth mbd mne 0 mn5 bx5 0 rs5 mrl mfl mpt df5 lb5 bo5 mwn mwo mxo myo or5 co5 ro5 mpw mph mrk mrb mrf mfr mfm med map mwh, 141, [(0, gr 60), (1, gi k), (2, gi n1), (3, gi q), (4, gi (gb (0 < mpw q))), (5, gi (gb (0 < mpw (20 + q))))], [gi 1]) rfl trivial ?_
                  refine G.eq (S' := (moW W H mth mbd mne 0 mn5 bx5 0 rs5 mrl mfl mpt df5 lb5 bo5 mwn mwo mxo myo or5 co5 ro5 mpw mph mrk mrb mrf mfr mfm med map mwh, 141, [(0, gr 60), (1, gi k), (2, gi n1), (3, gi q), (4, gi (gb (0 < mpw q))), (5, gi (gb (0 < mpw (20 + q))))], [gi (gb (mpw q ≠ mpw (20 + q) ∨ mph q ≠ mph (20 + q)))])) ?_ jn141
                  rw [gb_t (show mpw q ≠ mpw (20 + q) ∨ mph q ≠ mph (20 + q) by omega)]
                ·
                  refine G.go hX 10 (moW W H mth mbd mne 0 mn5 bx5 0 rs5 mrl mfl mpt df5 lb5 bo5 mwn mwo mxo myo or5 co5 ro5 mpw mph mrk mrb mrf mfr mfm med map mwh, 133, [(0, gr 60), (1, gi k), (2, gi n1), (3, gi q), (4, gi (gb (0 < mpw q))), (5, gi (gb (0 < mpw (20 + q))))], [gi (mph (20 + q)), gi (mph q)]) rfl ?_ ?_
                  · refine ⟨?_, ?_, trivial⟩
                    · omega
                    · omega
                  refine g_icmp_eq hX 140 rfl rfl (by first | exact hp9.2 | exact hp8.2) (by first | exact hp9.2 | exact hp8.2) (fun b133 => ?_) (fun b133 => ?_)
                  ·
                    refine G.go hX 1 (moW W H mth mbd mne 0 mn5 bx5 0 rs5 mrl mfl mpt df5 lb5 bo5 mwn mwo mxo myo or5 co5 ro5 mpw mph mrk mrb mrf mfr mfm med map mwh, 141, [(0, gr 60), (1, gi k), (2, gi n1), (3, gi q), (4, gi (gb (0 < mpw q))), (5, gi (gb (0 < mpw (20 + q))))], [gi 0]) rfl trivial ?_
                    refine G.eq (S' := (moW W H mth mbd mne 0 mn5 bx5 0 rs5 mrl mfl mpt df5 lb5 bo5 mwn mwo mxo myo or5 co5 ro5 mpw mph mrk mrb mrf mfr mfm med map mwh, 141, [(0, gr 60), (1, gi k), (2, gi n1), (3, gi q), (4, gi (gb (0 < mpw q))), (5, gi (gb (0 < mpw (20 + q))))], [gi (gb (mpw q ≠ mpw (20 + q) ∨ mph q ≠ mph (20 + q)))])) ?_ jn141
                    rw [gb_f (show ¬ (mpw q ≠ mpw (20 + q) ∨ mph q ≠ mph (20 + q)) by omega)]
                  ·
                    refine G.go hX 2 (moW W H mth mbd mne 0 mn5 bx5 0 rs5 mrl mfl mpt df5 lb5 bo5 mwn mwo mxo myo or5 co5 ro5 mpw mph mrk mrb mrf mfr mfm med map mwh, 141, [(0, gr 60), (1, gi k), (2, gi n1), (3, gi q), (4, gi (gb (0 < mpw q))), (5, gi (gb (0 < mpw (20 + q))))], [gi 1]) rfl trivial ?_
                    refine G.eq (S' := (moW W H mth mbd mne 0 mn5 bx5 0 rs5 mrl mfl mpt df5 lb5 bo5 mwn mwo mxo myo or5 co5 ro5 mpw mph mrk mrb mrf mfr mfm med map mwh, 141, [(0, gr 60), (1, gi k), (2, gi n1), (3, gi q), (4, gi (gb (0 < mpw q))), (5, gi (gb (0 < mpw (20 + q))))], [gi (gb (mpw q ≠ mpw (20 + q) ∨ mph q ≠ mph (20 + q)))])) ?_ jn141
                    rw [gb_t (show mpw q ≠ mpw (20 + q) ∨ mph q ≠ mph (20 + q) by omega)]
              refine g_if_le hX 97 rfl rfl (hp8.1) (fun b90 => ?_) (fun b90 => ?_)
              ·
                refine G.go hX 1 (moW W H mth mbd mne 0 mn5 bx5 0 rs5 mrl mfl mpt df5 lb5 bo5 mwn mwo mxo myo or5 co5 ro5 mpw mph mrk mrb mrf mfr mfm med map mwh, 98, [(0, gr 60), (1, gi k), (2, gi n1), (3, gi q), (4, gi (gb (0 < mpw q)))], [gi 0]) rfl trivial ?_
                refine G.eq (S' := (moW W H mth mbd mne 0 mn5 bx5 0 rs5 mrl mfl mpt df5 lb5 bo5 mwn mwo mxo myo or5 co5 ro5 mpw mph mrk mrb mrf mfr mfm med map mwh, 98, [(0, gr 60), (1, gi k), (2, gi n1), (3, gi q), (4, gi (gb (0 < mpw q)))], [gi (gb (0 < mpw (20 + q)))])) ?_ jn98
                rw [gb_f (show ¬ (0 < mpw (20 + q)) by omega)]
              ·
                refine G.go hX 2 (moW W H mth mbd mne 0 mn5 bx5 0 rs5 mrl mfl mpt df5 lb5 bo5 mwn mwo mxo myo or5 co5 ro5 mpw mph mrk mrb mrf mfr mfm med map mwh, 98, [(0, gr 60), (1, gi k), (2, gi n1), (3, gi q), (4, gi (gb (0 < mpw q)))], [gi 1]) rfl trivial ?_
                refine G.eq (S' := (moW W H mth mbd mne 0 mn5 bx5 0 rs5 mrl mfl mpt df5 lb5 bo5 mwn mwo mxo myo or5 co5 ro5 mpw mph mrk mrb mrf mfr mfm med map mwh, 98, [(0, gr 60), (1, gi k), (2, gi n1), (3, gi q), (4, gi (gb (0 < mpw q)))], [gi (gb (0 < mpw (20 + q)))])) ?_ jn98
                rw [gb_t (show 0 < mpw (20 + q) by omega)]
            refine g_if_le hX 78 rfl rfl (hp9.1) (fun b71 => ?_) (fun b71 => ?_)
            ·
              refine G.go hX 1 (moW W H mth mbd mne 0 mn5 bx5 0 rs5 mrl mfl mpt df5 lb5 bo5 mwn mwo mxo myo or5 co5 ro5 mpw mph mrk mrb mrf mfr mfm med map mwh, 79, [(0, gr 60), (1, gi k), (2, gi n1), (3, gi q)], [gi 0]) rfl trivial ?_
              refine G.eq (S' := (moW W H mth mbd mne 0 mn5 bx5 0 rs5 mrl mfl mpt df5 lb5 bo5 mwn mwo mxo myo or5 co5 ro5 mpw mph mrk mrb mrf mfr mfm med map mwh, 79, [(0, gr 60), (1, gi k), (2, gi n1), (3, gi q)], [gi (gb (0 < mpw q))])) ?_ jn79
              rw [gb_f (show ¬ (0 < mpw q) by omega)]
            ·
              refine G.go hX 2 (moW W H mth mbd mne 0 mn5 bx5 0 rs5 mrl mfl mpt df5 lb5 bo5 mwn mwo mxo myo or5 co5 ro5 mpw mph mrk mrb mrf mfr mfm med map mwh, 79, [(0, gr 60), (1, gi k), (2, gi n1), (3, gi q)], [gi 1]) rfl trivial ?_
              refine G.eq (S' := (moW W H mth mbd mne 0 mn5 bx5 0 rs5 mrl mfl mpt df5 lb5 bo5 mwn mwo mxo myo or5 co5 ro5 mpw mph mrk mrb mrf mfr mfm med map mwh, 79, [(0, gr 60), (1, gi k), (2, gi n1), (3, gi q)], [gi (gb (0 < mpw q))])) ?_ jn79
              rw [gb_t (show 0 < mpw q by omega)]
      exact lp59 _ 0 0 (by omega) (by rfl) (Nat.lt_succ_self _)
    ·
      refine G.go hX 2 (moW W H mth mbd mne 0 mn5 bx5 0 rs5 mrl mfl mpt df5 lb5 bo5 mwn mwo mxo myo or5 co5 ro5 mpw mph mrk mrb mrf mfr mfm med map mwh, 36, [(0, gr 60), (1, gi k)], [gi 2, gi k]) rfl trivial ?_
      refine g_icmp_ne hX 48 rfl rfl ⟨by omega, by omega⟩ ⟨by omega, by omega⟩ (fun b36 => ?_) (fun b36 => ?_)
      ·
        refine G.go hX 3 (moW W H mth mbd mne 0 mn5 bx5 0 rs5 mrl mfl mpt df5 lb5 bo5 mwn mwo mxo myo or5 co5 ro5 mpw mph mrk mrb mrf mfr mfm med map mwh, 51, [(0, gr 60), (1, gi k)], [gi 4, gi 2, gr 60]) rfl trivial ?_
        refine G.callV (av := [gi 2, gi 4]) (o := 60) (st := []) hX rfl (fun l D cA => c_X8_countRows l D cA W H mth mbd mne 0 mn5 bx5 0 rs5 mrl mfl mpt df5 lb5 bo5 mwn mwo mxo myo or5 co5 ro5 mpw mph mrk mrb mrf mfr mfm med map mwh 2 4 hrs5 hro5 ⟨by omega, by omega⟩ ⟨by omega, by omega⟩) (by decide +kernel) aX8_countRows rfl rfl rfl ⟨rfl, rfl⟩ (by decide) (Nat.le_of_ble_eq_true rfl) [0, 1, 2, 3, 4, 5, 6, 7, 8, 9, 10, 11, 12, 13, 14, 15, 16, 17, 18, 19, 20, 21] [] [] rfl rfl rfl (fun r w' hp => ?_)
        obtain ⟨rfl, rfl⟩ := hp
        show G X mX8_find ad 0 0 (moW W H mth mbd mne 0 mn5 bx5 0 rs5 mrl mfl mpt df5 lb5 bo5 mwn mwo mxo myo or5 co5 ro5 mpw mph mrk mrb mrf mfr mfm med map mwh, 54, [(0, gr 60), (1, gi k)], [gi (gsm (fun q => gb (0 < ro5 (4 * q) ∧ (ro5 (4 * q) = 2 ∨ ro5 (4 * q) = 4))) rs5.toNat)])
        exact g_iret hX hE rfl ⟨df5, lb5, mn5, bx5, bo5, or5, co5, rs5, ro5, _, rfl, rfl, hv5, hdf5, hlb5, hbo5, hw5, hro5, hrs5, ⟨fun h9 => by (exfalso; omega), fun h9 => by (exfalso; omega), fun h9 => by (exfalso; omega), fun _ => ⟨or5, rs5, ro5, hw5, rfl⟩, fun h9 => by (exfalso; omega), fun h9 => by (exfalso; omega), gsm_r (by omega)⟩⟩
      ·
        refine G.go hX 3 (moW W H mth mbd mne 0 mn5 bx5 0 rs5 mrl mfl mpt df5 lb5 bo5 mwn mwo mxo myo or5 co5 ro5 mpw mph mrk mrb mrf mfr mfm med map mwh, 42, [(0, gr 60), (1, gi k)], [gi 1, gi 1, gr 60]) rfl trivial ?_
        refine G.callV (av := [gi 1, gi 1]) (o := 60) (st := []) hX rfl (fun l D cA => c_X8_countRows l D cA W H mth mbd mne 0 mn5 bx5 0 rs5 mrl mfl mpt df5 lb5 bo5 mwn mwo mxo myo or5 co5 ro5 mpw mph mrk mrb mrf mfr mfm med map mwh 1 1 hrs5 hro5 ⟨by omega, by omega⟩ ⟨by omega, by omega⟩) (by decide +kernel) aX8_countRows rfl rfl rfl ⟨rfl, rfl⟩ (by decide) (Nat.le_of_ble_eq_true rfl) [0, 1, 2, 3, 4, 5, 6, 7, 8, 9, 10, 11, 12, 13, 14, 15, 16, 17, 18, 19, 20, 21] [] [] rfl rfl rfl (fun r w' hp => ?_)
        obtain ⟨rfl, rfl⟩ := hp
        show G X mX8_find ad 0 0 (moW W H mth mbd mne 0 mn5 bx5 0 rs5 mrl mfl mpt df5 lb5 bo5 mwn mwo mxo myo or5 co5 ro5 mpw mph mrk mrb mrf mfr mfm med map mwh, 45, [(0, gr 60), (1, gi k)], [gi (gsm (fun q => gb (0 < ro5 (4 * q) ∧ (ro5 (4 * q) = 1 ∨ ro5 (4 * q) = 1))) rs5.toNat)])
        refine G.go hX 1 (moW W H mth mbd mne 0 mn5 bx5 0 rs5 mrl mfl mpt df5 lb5 bo5 mwn mwo mxo myo or5 co5 ro5 mpw mph mrk mrb mrf mfr mfm med map mwh, 54, [(0, gr 60), (1, gi k)], [gi (gsm (fun q => gb (0 < ro5 (4 * q) ∧ (ro5 (4 * q) = 1 ∨ ro5 (4 * q) = 1))) rs5.toNat)]) rfl trivial ?_
        exact g_iret hX hE rfl ⟨df5, lb5, mn5, bx5, bo5, or5, co5, rs5, ro5, _, rfl, rfl, hv5, hdf5, hlb5, hbo5, hw5, hro5, hrs5, ⟨fun h9 => by (exfalso; omega), fun h9 => by (exfalso; omega), fun _ => ⟨or5, rs5, ro5, hw5, rfl⟩, fun h9 => by (exfalso; omega), fun h9 => by (exfalso; omega), fun h9 => by (exfalso; omega), gsm_r (by omega)⟩⟩
  ·
    refine G.go hX 1 (moW W H mth mbd mne 0 mn5 bx5 0 rs5 mrl mfl mpt df5 lb5 bo5 mwn mwo mxo myo or5 co5 ro5 mpw mph mrk mrb mrf mfr mfm med map mwh, 14, [(0, gr 60), (1, gi k)], [gi k]) rfl trivial ?_
    refine g_if_ne hX 24 rfl rfl ⟨by omega, by omega⟩ (fun b14 => ?_) (fun b14 => ?_)
    ·
      refine G.go hX 1 (moW W H mth mbd mne 0 mn5 bx5 0 rs5 mrl mfl mpt df5 lb5 bo5 mwn mwo mxo myo or5 co5 ro5 mpw mph mrk mrb mrf mfr mfm med map mwh, 25, [(0, gr 60), (1, gi k)], [gr 60]) rfl trivial ?_
      refine G.callV (av := []) (o := 60) (st := []) hX rfl (fun l D cA => c_X8_mostPlaces l D cA W H mth mbd mne 0 mn5 bx5 0 rs5 mrl mfl mpt df5 lb5 bo5 mwn mwo mxo myo or5 co5 ro5 mpw mph mrk mrb mrf mfr mfm med map mwh hbx5 (fun i i0 i1 => by (have h8 := hv5.2.2.2.1.2.2.1 i i0 i1; have h7 := hv5.2.2.2.1.1.1 i i0 i1; unfold fwf mrw at *; simp only [Int.add_zero] at *; omega))) (by decide +kernel) aX8_mostPlaces rfl rfl rfl ⟨rfl, rfl⟩ (by decide) (Nat.le_of_ble_eq_true rfl) [0, 1, 2, 3, 4, 5, 6, 7, 8, 9, 10, 11, 12, 13, 14, 15, 16, 17, 18, 19, 20, 21] [] [] rfl rfl rfl (fun r w' hp => ?_)
      obtain ⟨rfl, rfl⟩ := hp
      show G X mX8_find ad 0 0 (moW W H mth mbd mne 0 mn5 bx5 0 rs5 mrl mfl mpt df5 lb5 bo5 mwn mwo mxo myo or5 co5 ro5 mpw mph mrk mrb mrf mfr mfm med map mwh, 28, [(0, gr 60), (1, gi k)], [gi (gmx (fun i => (bo5 (4 * i + 2) - bo5 (4 * i) + 1) * (bo5 (4 * i + 3) - bo5 (4 * i + 1) + 1)) bx5.toNat)])
      exact g_iret hX hE rfl ⟨df5, lb5, mn5, bx5, bo5, or5, co5, rs5, ro5, _, rfl, rfl, hv5, hdf5, hlb5, hbo5, hw5, hro5, hrs5, ⟨fun h9 => by (exfalso; omega), fun _ => ⟨mn5, bx5, bo5, df5, hv5, rfl⟩, fun h9 => by (exfalso; omega), fun h9 => by (exfalso; omega), fun h9 => by (exfalso; omega), fun h9 => by (exfalso; omega), by (have h9 := gmx_le (f := (fun i => (bo5 (4 * i + 2) - bo5 (4 * i) + 1) * (bo5 (4 * i + 3) - bo5 (4 * i + 1) + 1))) (b := 1024) (by omega) bx5.toNat (fun i hi => by (have h8 := hv5.2.2.2.1.2.2.1 i (by omega) (by omega); have h7 := hv5.2.2.2.1.1.1 i (by omega) (by omega); unfold fwf mrw at *; simp only [Int.add_zero] at *; exact (gmul_le (c := 32) (d := 32) (by omega) (by omega) (by omega) (by omega)).2)); exact ⟨by omega, by omega⟩)⟩⟩
    ·
      refine G.go hX 3 (moW W H mth mbd mne 0 mn5 bx5 0 rs5 mrl mfl mpt df5 lb5 bo5 mwn mwo mxo myo or5 co5 ro5 mpw mph mrk mrb mrf mfr mfm med map mwh, 28, [(0, gr 60), (1, gi k)], [gi mn5]) rfl trivial ?_
      exact g_iret hX hE rfl ⟨df5, lb5, mn5, bx5, bo5, or5, co5, rs5, ro5, _, rfl, rfl, hv5, hdf5, hlb5, hbo5, hw5, hro5, hrs5, ⟨fun _ => hmn, fun h9 => by (exfalso; omega), fun h9 => by (exfalso; omega), fun h9 => by (exfalso; omega), fun h9 => by (exfalso; omega), fun h9 => by (exfalso; omega), ⟨by omega, by omega⟩⟩⟩
