theorem gsm_sub_le {f g : Int → Int} : ∀ n : Nat, (∀ q : Int, 0 ≤ q → q < n → f q ≤ g q) → gsm f n ≤ gsm g n
  | 0, _ => Int.le_refl _
  | n + 1, h => by
    have := gsm_sub_le n (fun q a b => h q a (by omega))
    have := h n (by omega) (by omega)
    show gsm f n + f n ≤ gsm g n + g n
    omega
theorem gsm_lt {f g : Int → Int} {k : Int} : ∀ n : Nat, (∀ q : Int, 0 ≤ q → q < n → f q ≤ g q) → 0 ≤ k → k < n → f k < g k → gsm f n < gsm g n
  | 0, _, a, b, _ => by omega
  | n + 1, h, a, b, hk => by
    show gsm f n + f n < gsm g n + g n
    by_cases e : k = n
    · have := gsm_sub_le n (fun q a b => h q a (by omega))
      rw [← e]
      omega
    · have := gsm_lt n (fun q a b => h q a (by omega)) a (by omega) hk
      have := h n (by omega) (by omega)
      omega
/-- how many come before number k -/
noncomputable def wrk (n : Int) (xs ys : Int → Int) (k : Int) : Int := gsm (fun i => gb (wbf xs ys i k)) n.toNat
theorem wbf_tr {xs ys : Int → Int} {a b c : Int} (h1 : wbf xs ys a b) (h2 : wbf xs ys b c) : wbf xs ys a c := by
  unfold wbf at *
  omega
theorem gb_le {P Q : Prop} (h : P → Q) : gb P ≤ gb Q := by
  by_cases hp : P
  · rw [gb_t hp, gb_t (h hp)]
    exact Int.le_refl _
  · rw [gb_f hp]
    rcases gb_01 Q with h9 | h9 <;> omega
theorem wrk_lt {n : Int} {xs ys : Int → Int} {a b : Int} (a0 : 0 ≤ a) (a1 : a < n) (h : wbf xs ys a b) : wrk n xs ys a < wrk n xs ys b := by
  unfold wrk
  refine gsm_lt (k := a) n.toNat (fun q _ _ => gb_le (fun h9 => wbf_tr h9 h)) a0 (by omega) ?_
  show gb (wbf xs ys a a) < gb (wbf xs ys a b)
  rw [gb_f (fun h9 => by unfold wbf at h9; omega), gb_t h]
  omega
theorem wbf_tot {xs ys : Int → Int} {a b : Int} (h : a ≠ b) : wbf xs ys a b ∨ wbf xs ys b a := by
  unfold wbf
  omega
theorem wrk_in {n : Int} {xs ys : Int → Int} {k : Int} (k0 : 0 ≤ k) (k1 : k < n) : 0 ≤ wrk n xs ys k ∧ wrk n xs ys k < n := by
  have h1 := gsm_gb (fun i => wbf xs ys i k) n.toNat
  have h2 := gsm_lt (f := fun i => gb (wbf xs ys i k)) (g := fun _ => 1) (k := k) n.toNat (fun q _ _ => by rcases gb_01 (wbf xs ys q k) with h9 | h9 <;> omega) k0 (by omega) (by
    show gb (wbf xs ys k k) < 1
    rw [gb_f (fun h9 => by unfold wbf at h9; omega)]
    omega)
  have h3 : ∀ m : Nat, gsm (fun _ => 1) m = m := fun m => by
    induction m with
    | zero => rfl
    | succ m ih =>
      show gsm (fun _ => 1) m + 1 = _
      rw [ih]
      omega
  rw [h3] at h2
  unfold wrk
  omega
theorem wrk_inj {n : Int} {xs ys : Int → Int} {a b : Int} (a0 : 0 ≤ a) (a1 : a < n) (b0 : 0 ≤ b) (b1 : b < n) (h : wrk n xs ys a = wrk n xs ys b) : a = b := by
  apply Classical.byContradiction
  intro hne
  rcases wbf_tot (xs := xs) (ys := ys) hne with h9 | h9
  · have := wrk_lt a0 a1 h9
    omega
  · have := wrk_lt b0 b1 h9
    omega
/-- one number each below n: every place is hit -/
theorem fsurj {n : Nat} {f : Nat → Nat} (h : ∀ i, i < n → f i < n) (hi : ∀ i j, i < n → j < n → f i = f j → i = j) {j : Nat} (hj : j < n) : ∃ i, i < n ∧ f i = j := by
  apply Classical.byContradiction
  intro hn
  have hne : ∀ i, i < n → f i ≠ j := fun i h1 h2 => hn ⟨i, h1, h2⟩
  have := fphp (n - 1) n (fun i => if j < f i then f i - 1 else f i) (fun i h1 => by
    have a := h i h1
    have b := hne i h1
    show (if j < f i then f i - 1 else f i) < n - 1
    split <;> omega) (fun a b h1 h2 e => by
    have e' : (if j < f a then f a - 1 else f a) = (if j < f b then f b - 1 else f b) := e
    have p := hne a h1
    have q := hne b h2
    refine hi a b h1 h2 ?_
    split at e' <;> split at e' <;> omega)
  omega
theorem wOrd_rk {n : Int} {xs ys ord : Int → Int} (hn : 0 ≤ n) (h : ∀ k, 0 ≤ k → k < n → ord (wrk n xs ys k) = k) : wOrd n xs ys ord := by
  have hit : ∀ j, 0 ≤ j → j < n → ∃ k, 0 ≤ k ∧ k < n ∧ wrk n xs ys k = j := fun j j0 j1 => by
    obtain ⟨i, i1, e⟩ := fsurj (n := n.toNat) (f := fun i => (wrk n xs ys i).toNat) (fun i hi => by
      have := wrk_in (xs := xs) (ys := ys) (k := (i : Int)) (n := n) (by omega) (by omega)
      show (wrk n xs ys i).toNat < _
      omega) (fun a b ha hb e => by
      have e' : (wrk n xs ys a).toNat = (wrk n xs ys b).toNat := e
      have p := wrk_in (xs := xs) (ys := ys) (k := (a : Int)) (n := n) (by omega) (by omega)
      have q := wrk_in (xs := xs) (ys := ys) (k := (b : Int)) (n := n) (by omega) (by omega)
      have := wrk_inj (n := n) (xs := xs) (ys := ys) (a := (a : Int)) (b := (b : Int)) (by omega) (by omega) (by omega) (by omega) (by omega)
      omega) (j := j.toNat) (by omega)
    have e' : (wrk n xs ys i).toNat = j.toNat := e
    have p := wrk_in (xs := xs) (ys := ys) (k := (i : Int)) (n := n) (by omega) (by omega)
    exact ⟨i, by omega, by omega, by omega⟩
  refine ⟨fun j j0 j1 => ?_, fun k k0 k1 => ?_, fun i j i0 ij j1 => ?_⟩
  · obtain ⟨k, k0, k1, e⟩ := hit j j0 j1
    rw [← e, h k k0 k1]
    omega
  · have := wrk_in (xs := xs) (ys := ys) k0 k1
    exact ⟨_, this.1, this.2, h k k0 k1⟩
  · obtain ⟨a, a0, a1, ea⟩ := hit i i0 (by omega)
    obtain ⟨b, b0, b1, eb⟩ := hit j (by omega) j1
    rw [← ea, ← eb, h a a0 a1, h b b0 b1]
    by_cases e : a = b
    · subst e
      omega
    · rcases wbf_tot (xs := xs) (ys := ys) e with h9 | h9
      · exact h9
      · have := wrk_lt b0 b1 h9
        omega
theorem wbf_sh {xs ys : Int → Int} {s i k : Int} : wbf xs ys (s + i) (s + k) ↔ wbf (fun j => xs (s + j)) (fun j => ys (s + j)) i k := by
  unfold wbf
  dsimp only
  omega
set_option maxHeartbeats 4000000 in
set_option maxRecDepth 100000 in
theorem c_X8_box (l : Launch) (D : va_G) (cA : Nat → ClassId) (W : Nat) (H : Nat) (mth : Int) (mbd : Int) (mne : Int) (mnw : Int) (mmn : Int) (mbx : Int) (man : Int) (mrs : Int) (mrl : Int) (mfl : Int) (mpt : Int → Int) (mdf : Int → Int) (mlb : Int → Int) (mbo : Int → Int) (mwn : Int → Int) (mwo : Int → Int) (mxo : Int → Int) (myo : Int → Int) (mor : Int → Int) (mco : Int → Int) (mro : Int → Int) (mpw : Int → Int) (mph : Int → Int) (mrk : Int → Int) (mrb : Int → Int) (mrf : Int → Int) (mfr : Int → Int) (mfm : Int → Int) (med : Int → Int) (map : Int → Int) (mwh : Int → Int) (i : Int) (k : Int) (hW : W ≤ 32) (hH : H ≤ 32) (hne : 0 ≤ mne ∧ mne ≤ 2) (hbd : 0 ≤ mbd ∧ mbd ≤ 255) (hpt : ∀ q : Int, 0 ≤ mpt q ∧ mpt q ≤ 255) (hdf : ∀ q : Int, mdf q = 0 ∨ mdf q = 1) (hlb : ∀ q : Int, 0 ≤ mlb q ∧ mlb q ≤ 1023) (hbo : ∀ q : Int, inR (mbo q)) (hnw : mnw = 0 ∨ mnw = 1) (hval : mnw = 0 → mVal W H mne mbd mpt mmn mbx mbo mdf) (hi : inR i) (hk : inR k) :
    gC l D cA yX8_box mX8_box (some .int) 0 0 [gr 60, gi i, gi k] (moW W H mth mbd mne mnw mmn mbx man mrs mrl mfl mpt mdf mlb mbo mwn mwo mxo myo mor mco mro mpw mph mrk mrb mrf mfr mfm med map mwh) (fun r9 w9 => ∃ (df2 : Int → Int) (lb2 : Int → Int) (mn2 : Int) (bx2 : Int) (bo2 : Int → Int) (rv : Int) (th : Int), r9 = some (gi rv) ∧ w9 = moW W H th mbd mne 0 mn2 bx2 man mrs mrl mfl mpt df2 lb2 bo2 mwn mwo mxo myo mor mco mro mpw mph mrk mrb mrf mfr mfm med map mwh ∧ (mVal W H mne mbd mpt mn2 bx2 bo2 df2) ∧ (∀ q : Int, df2 q = 0 ∨ df2 q = 1) ∧ (∀ q : Int, 0 ≤ lb2 q ∧ lb2 q ≤ 1023) ∧ (∀ q : Int, inR (bo2 q)) ∧ (i = -1 → th = 0 ∧ rv = bx2) ∧ (i ≠ -1 → ¬ ((0 ≤ i ∧ i < bx2) ∧ 0 ≤ k ∧ k ≤ 4) → th = 1 ∧ rv = 0) ∧ ((0 ≤ i ∧ i < bx2) ∧ 0 ≤ k ∧ k ≤ 4 → th = 0 ∧ (k < 4 → rv = mrw bo2 i k) ∧ (k = 4 → rv = gsm (fun q => gb (((bo2 (4 * i) ≤ q % 32 ∧ q % 32 ≤ bo2 (4 * i + 2)) ∧ bo2 (4 * i + 1) ≤ q / 32 ∧ q / 32 ≤ bo2 (4 * i + 3)) ∧ df2 q = 1)) 1024))) := by
  refine gC_of rfl kX8_box rfl rfl (Nat.le_of_ble_eq_true rfl) (fun X ad hX hE => ?_)
  refine G.go hX 1 (moW W H mth mbd mne mnw mmn mbx man mrs mrl mfl mpt mdf mlb mbo mwn mwo mxo myo mor mco mro mpw mph mrk mrb mrf mfr mfm med map mwh, 1, [(0, gr 60), (1, gi i), (2, gi k)], [gr 60]) rfl trivial ?_
  refine G.callV (av := []) (o := 60) (st := []) hX rfl (fun l D cA => c_X8_look l D cA W H mth mbd mne mnw mmn mbx man mrs mrl mfl mpt mdf mlb mbo mwn mwo mxo myo mor mco mro mpw mph mrk mrb mrf mfr mfm med map mwh (by first | assumption | omega) (by first | assumption | omega) (by first | assumption | omega) (by first | assumption | omega) (by first | assumption | omega) (by first | assumption | omega) (by first | assumption | omega) (by first | assumption | omega) (by first | assumption | omega) (by first | assumption | omega)) (by decide +kernel) aX8_look rfl rfl rfl ⟨rfl, rfl⟩ (by decide) (Nat.le_of_ble_eq_true rfl) [0, 1, 2, 3, 4, 5, 6, 7, 8, 9, 10, 11, 12, 13, 14, 15, 16, 17, 18, 19, 20, 21] [] [] rfl rfl rfl (fun r w' hp => ?_)
  obtain ⟨df5, lb5, mn5, bx5, bo5, rfl, rfl, hv5, hdf5, hlb5, hbo5⟩ := hp
  show G X mX8_box ad 0 0 (moW W H mth mbd mne 0 mn5 bx5 man mrs mrl mfl mpt df5 lb5 bo5 mwn mwo mxo myo mor mco mro mpw mph mrk mrb mrf mfr mfm med map mwh, 4, [(0, gr 60), (1, gi i), (2, gi k)], [])
  have hbx5 := hv5.2.2.1
  refine G.go hX 5 (moW W H 0 mbd mne 0 mn5 bx5 man mrs mrl mfl mpt df5 lb5 bo5 mwn mwo mxo myo mor mco mro mpw mph mrk mrb mrf mfr mfm med map mwh, 11, [(0, gr 60), (1, gi i), (2, gi k)], [gi (-1), gi i]) rfl trivial ?_
  refine g_icmp_ne hX 19 rfl rfl (by first | assumption | exact ⟨by omega, by omega⟩) (by first | assumption | exact ⟨by omega, by omega⟩) (fun b11 => ?_) (fun b11 => ?_)
  ·
    refine G.go hX 7 (moW W H 0 mbd mne 0 mn5 bx5 man mrs mrl mfl mpt df5 lb5 bo5 mwn mwo mxo myo mor mco mro mpw mph mrk mrb mrf mfr mfm med map mwh, 28, [(0, gr 60), (1, gi i), (2, gi k)], [gi (bx5 - 1), gi 0, gi i, gr 60]) rfl trivial ?_
    refine G.callS (av := [gi i, gi 0, gi (bx5 - 1)]) (st := [gr 60]) hX rfl (fun l D cA => c_X8_in l D cA i 0 (bx5 - 1) (by first | assumption | exact ⟨by omega, by omega⟩) ⟨by omega, by omega⟩ ⟨by omega, by omega⟩) (by decide +kernel) aX8_in rfl ⟨rfl, rfl⟩ (by decide) (Nat.le_of_ble_eq_true rfl) [] [0, 1, 2, 3, 4, 5, 6, 7, 8, 9, 10, 11, 12, 13, 14, 15, 16, 17, 18, 19, 20, 21] (moW W H 0 mbd mne 0 mn5 bx5 man mrs mrl mfl mpt df5 lb5 bo5 mwn mwo mxo myo mor mco mro mpw mph mrk mrb mrf mfr mfm med map mwh) rfl rfl rfl (fun r w' hp => ?_)
    obtain ⟨rfl, rfl⟩ := hp
    show G X mX8_box ad 0 0 (moW W H 0 mbd mne 0 mn5 bx5 man mrs mrl mfl mpt df5 lb5 bo5 mwn mwo mxo myo mor mco mro mpw mph mrk mrb mrf mfr mfm med map mwh, 31, [(0, gr 60), (1, gi i), (2, gi k)], [gi (gb (0 ≤ i ∧ i ≤ (bx5 - 1))), gr 60])
    refine g_if_eq hX 47 rfl rfl (gb_r _) (fun b31 => ?_) (fun b31 => ?_)
    ·
      have b31 := gb_0.mp b31
      refine G.go hX 4 (moW W H 1 mbd mne 0 mn5 bx5 man mrs mrl mfl mpt df5 lb5 bo5 mwn mwo mxo myo mor mco mro mpw mph mrk mrb mrf mfr mfm med map mwh, 55, [(0, gr 60), (1, gi i), (2, gi k)], [gi 1]) rfl trivial ?_
      refine g_if_le hX 60 rfl rfl ⟨by omega, by omega⟩ (fun b55 => ?_) (fun b55 => ?_)
      ·
        exfalso
        omega
      ·
        refine G.go hX 1 (moW W H 1 mbd mne 0 mn5 bx5 man mrs mrl mfl mpt df5 lb5 bo5 mwn mwo mxo myo mor mco mro mpw mph mrk mrb mrf mfr mfm med map mwh, 59, [(0, gr 60), (1, gi i), (2, gi k)], [gi 0]) rfl trivial ?_
        exact g_iret hX hE rfl ⟨df5, lb5, mn5, bx5, bo5, 0, 1, rfl, rfl, hv5, hdf5, hlb5, hbo5, fun h9 => by (exfalso; omega), fun _ _ => ⟨rfl, rfl⟩, fun h9 => by (exfalso; omega)⟩
    ·
      have b31 := gb_n0 b31
      refine G.go hX 3 (moW W H 0 mbd mne 0 mn5 bx5 man mrs mrl mfl mpt df5 lb5 bo5 mwn mwo mxo myo mor mco mro mpw mph mrk mrb mrf mfr mfm med map mwh, 37, [(0, gr 60), (1, gi i), (2, gi k)], [gi 4, gi 0, gi k, gr 60]) rfl trivial ?_
      refine G.callS (av := [gi k, gi 0, gi 4]) (st := [gr 60]) hX rfl (fun l D cA => c_X8_in l D cA k 0 4 (by first | assumption | exact ⟨by omega, by omega⟩) ⟨by omega, by omega⟩ ⟨by omega, by omega⟩) (by decide +kernel) aX8_in rfl ⟨rfl, rfl⟩ (by decide) (Nat.le_of_ble_eq_true rfl) [] [0, 1, 2, 3, 4, 5, 6, 7, 8, 9, 10, 11, 12, 13, 14, 15, 16, 17, 18, 19, 20, 21] (moW W H 0 mbd mne 0 mn5 bx5 man mrs mrl mfl mpt df5 lb5 bo5 mwn mwo mxo myo mor mco mro mpw mph mrk mrb mrf mfr mfm med map mwh) rfl rfl rfl (fun r w' hp => ?_)
      obtain ⟨rfl, rfl⟩ := hp
      show G X mX8_box ad 0 0 (moW W H 0 mbd mne 0 mn5 bx5 man mrs mrl mfl mpt df5 lb5 bo5 mwn mwo mxo myo mor mco mro mpw mph mrk mrb mrf mfr mfm med map mwh, 40, [(0, gr 60), (1, gi i), (2, gi k)], [gi (gb (0 ≤ k ∧ k ≤ 4)), gr 60])
      refine g_if_eq hX 47 rfl rfl (gb_r _) (fun b40 => ?_) (fun b40 => ?_)
      ·
        have b40 := gb_0.mp b40
        refine G.go hX 4 (moW W H 1 mbd mne 0 mn5 bx5 man mrs mrl mfl mpt df5 lb5 bo5 mwn mwo mxo myo mor mco mro mpw mph mrk mrb mrf mfr mfm med map mwh, 55, [(0, gr 60), (1, gi i), (2, gi k)], [gi 1]) rfl trivial ?_
        refine g_if_le hX 60 rfl rfl ⟨by omega, by omega⟩ (fun b55 => ?_) (fun b55 => ?_)
        ·
          exfalso
          omega
        ·
          refine G.go hX 1 (moW W H 1 mbd mne 0 mn5 bx5 man mrs mrl mfl mpt df5 lb5 bo5 mwn mwo mxo myo mor mco mro mpw mph mrk mrb mrf mfr mfm med map mwh, 59, [(0, gr 60), (1, gi i), (2, gi k)], [gi 0]) rfl trivial ?_
          exact g_iret hX hE rfl ⟨df5, lb5, mn5, bx5, bo5, 0, 1, rfl, rfl, hv5, hdf5, hlb5, hbo5, fun h9 => by (exfalso; omega), fun _ _ => ⟨rfl, rfl⟩, fun h9 => by (exfalso; omega)⟩
      ·
        have b40 := gb_n0 b40
        refine G.go hX 5 (moW W H 0 mbd mne 0 mn5 bx5 man mrs mrl mfl mpt df5 lb5 bo5 mwn mwo mxo myo mor mco mro mpw mph mrk mrb mrf mfr mfm med map mwh, 55, [(0, gr 60), (1, gi i), (2, gi k)], [gi 0]) rfl trivial ?_
        refine g_if_le hX 60 rfl rfl ⟨by omega, by omega⟩ (fun b55 => ?_) (fun b55 => ?_)
        ·
          refine G.go hX 2 (moW W H 0 mbd mne 0 mn5 bx5 man mrs mrl mfl mpt df5 lb5 bo5 mwn mwo mxo myo mor mco mro mpw mph mrk mrb mrf mfr mfm med map mwh, 62, [(0, gr 60), (1, gi i), (2, gi k)], [gi 4, gi k]) rfl trivial ?_
          refine g_icmp_ge hX 76 rfl rfl (by first | assumption | exact ⟨by omega, by omega⟩) (by first | assumption | exact ⟨by omega, by omega⟩) (fun b62 => ?_) (fun b62 => ?_)
          ·
            refine G.go hX 4 (moW W H 0 mbd mne 0 mn5 bx5 man mrs mrl mfl mpt df5 lb5 bo5 mwn mwo mxo myo mor mco mro mpw mph mrk mrb mrf mfr mfm med map mwh, 81, [(0, gr 60), (1, gi i), (2, gi k), (3, gi 0), (4, gi 0)], []) rfl trivial ?_
            have lp81 : ∀ (n : Nat) (n1 : Int) (q : Int), (0 ≤ q ∧ q ≤ 1024) → (n1 = gsm (fun q => gb (((bo5 (4 * i) ≤ q % 32 ∧ q % 32 ≤ bo5 (4 * i + 2)) ∧ bo5 (4 * i + 1) ≤ q / 32 ∧ q / 32 ≤ bo5 (4 * i + 3)) ∧ df5 q = 1)) q.toNat) → (1024 - q).toNat < n → G X mX8_box ad 0 0 (moW W H 0 mbd mne 0 mn5 bx5 man mrs mrl mfl mpt df5 lb5 bo5 mwn mwo mxo myo mor mco mro mpw mph mrk mrb mrf mfr mfm med map mwh, 81, [(0, gr 60), (1, gi i), (2, gi k), (3, gi n1), (4, gi q)], []) := by
              intro n
              induction n with
              | zero => intro n1 q hq hn1 hm9; exact absurd hm9 (Nat.not_lt_zero _)
              | succ n ih81 =>
                intro n1 q hq hn1 hm81
                refine G.go hX 2 (moW W H 0 mbd mne 0 mn5 bx5 man mrs mrl mfl mpt df5 lb5 bo5 mwn mwo mxo myo mor mco mro mpw mph mrk mrb mrf mfr mfm med map mwh, 86, [(0, gr 60), (1, gi i), (2, gi k), (3, gi n1), (4, gi q)], [gi 1024, gi q]) rfl trivial ?_
                refine g_icmp_ge hX 185 rfl rfl ⟨by omega, by omega⟩ ⟨by omega, by omega⟩ (fun b86 => ?_) (fun b86 => ?_)
                ·
                  refine G.go hX 1 (moW W H 0 mbd mne 0 mn5 bx5 man mrs mrl mfl mpt df5 lb5 bo5 mwn mwo mxo myo mor mco mro mpw mph mrk mrb mrf mfr mfm med map mwh, 186, [(0, gr 60), (1, gi i), (2, gi k), (3, gi n1), (4, gi q)], [gi n1]) rfl trivial ?_
                  exact g_iret hX hE rfl ⟨df5, lb5, mn5, bx5, bo5, n1, 0, rfl, rfl, hv5, hdf5, hlb5, hbo5, fun h9 => by (exfalso; omega), fun _ h9 => by (exfalso; omega), fun _ => ⟨rfl, fun h9 => by (exfalso; omega), fun _ => by (rw [hn1, show q = 1024 by omega]; rfl)⟩⟩
                ·
                  have hqr : 0 ≤ q % 32 ∧ q % 32 < 32 ∧ 0 ≤ q / 32 ∧ q / 32 < 32 := by omega
                  have hdq := hdf5 q
                  refine G.go hX 17 (moW W H 0 mbd mne 0 mn5 bx5 man mrs mrl mfl mpt df5 lb5 bo5 mwn mwo mxo myo mor mco mro mpw mph mrk mrb mrf mfr mfm med map mwh, 112, [(0, gr 60), (1, gi i), (2, gi k), (3, gi n1), (4, gi q)], [gi (bo5 ((4 * i) + 2)), gi (bo5 (4 * i)), gi (q % 32)]) rfl ?_ ?_
                  · refine ⟨?_, ?_, ?_, trivial⟩
                    · omega
                    · omega
                    · omega
                  refine G.callS (av := [gi (q % 32), gi (bo5 (4 * i)), gi (bo5 ((4 * i) + 2))]) (st := []) hX rfl (fun l D cA => c_X8_in l D cA (q % 32) (bo5 (4 * i)) (bo5 ((4 * i) + 2)) ⟨by omega, by omega⟩ (hbo5 _) (hbo5 _)) (by decide +kernel) aX8_in rfl ⟨rfl, rfl⟩ (by decide) (Nat.le_of_ble_eq_true rfl) [] [0, 1, 2, 3, 4, 5, 6, 7, 8, 9, 10, 11, 12, 13, 14, 15, 16, 17, 18, 19, 20, 21] (moW W H 0 mbd mne 0 mn5 bx5 man mrs mrl mfl mpt df5 lb5 bo5 mwn mwo mxo myo mor mco mro mpw mph mrk mrb mrf mfr mfm med map mwh) rfl rfl rfl (fun r w' hp => ?_)
                  obtain ⟨rfl, rfl⟩ := hp
                  show G X mX8_box ad 0 0 (moW W H 0 mbd mne 0 mn5 bx5 man mrs mrl mfl mpt df5 lb5 bo5 mwn mwo mxo myo mor mco mro mpw mph mrk mrb mrf mfr mfm med map mwh, 115, [(0, gr 60), (1, gi i), (2, gi k), (3, gi n1), (4, gi q)], [gi (gb ((bo5 (4 * i)) ≤ (q % 32) ∧ (q % 32) ≤ (bo5 ((4 * i) + 2))))])
                  have jn154 : G X mX8_box ad 0 0 (moW W H 0 mbd mne 0 mn5 bx5 man mrs mrl mfl mpt df5 lb5 bo5 mwn mwo mxo myo mor mco mro mpw mph mrk mrb mrf mfr mfm med map mwh, 154, [(0, gr 60), (1, gi i), (2, gi k), (3, gi n1), (4, gi q)], [gi (gb ((bo5 (4 * i) ≤ q % 32 ∧ q % 32 ≤ bo5 (4 * i + 2)) ∧ bo5 (4 * i + 1) ≤ q / 32 ∧ q / 32 ≤ bo5 (4 * i + 3)))]) := by
                    refine G.go hX 2 (moW W H 0 mbd mne 0 mn5 bx5 man mrs mrl mfl mpt df5 lb5 bo5 mwn mwo mxo myo mor mco mro mpw mph mrk mrb mrf mfr mfm med map mwh, 158, [(0, gr 60), (1, gi i), (2, gi k), (3, gi n1), (4, gi q), (5, gi (gb ((bo5 (4 * i) ≤ q % 32 ∧ q % 32 ≤ bo5 (4 * i + 2)) ∧ bo5 (4 * i + 1) ≤ q / 32 ∧ q / 32 ≤ bo5 (4 * i + 3))))], [gi (gb ((bo5 (4 * i) ≤ q % 32 ∧ q % 32 ≤ bo5 (4 * i + 2)) ∧ bo5 (4 * i + 1) ≤ q / 32 ∧ q / 32 ≤ bo5 (4 * i + 3)))]) rfl trivial ?_
                    have jn178 : G X mX8_box ad 0 0 (moW W H 0 mbd mne 0 mn5 bx5 man mrs mrl mfl mpt df5 lb5 bo5 mwn mwo mxo myo mor mco mro mpw mph mrk mrb mrf mfr mfm med map mwh, 178, [(0, gr 60), (1, gi i), (2, gi k), (3, gi n1), (4, gi q), (5, gi (gb ((bo5 (4 * i) ≤ q % 32 ∧ q % 32 ≤ bo5 (4 * i + 2)) ∧ bo5 (4 * i + 1) ≤ q / 32 ∧ q / 32 ≤ bo5 (4 * i + 3))))], [gi (n1 + gb (((bo5 (4 * i) ≤ q % 32 ∧ q % 32 ≤ bo5 (4 * i + 2)) ∧ bo5 (4 * i + 1) ≤ q / 32 ∧ q / 32 ≤ bo5 (4 * i + 3)) ∧ df5 q = 1))]) := by
                      refine G.go hX 3 (moW W H 0 mbd mne 0 mn5 bx5 man mrs mrl mfl mpt df5 lb5 bo5 mwn mwo mxo myo mor mco mro mpw mph mrk mrb mrf mfr mfm med map mwh, 81, [(0, gr 60), (1, gi i), (2, gi k), (3, gi (n1 + gb (((bo5 (4 * i) ≤ q % 32 ∧ q % 32 ≤ bo5 (4 * i + 2)) ∧ bo5 (4 * i + 1) ≤ q / 32 ∧ q / 32 ≤ bo5 (4 * i + 3)) ∧ df5 q = 1))), (4, gi (q + 1)), (5, gi (gb ((bo5 (4 * i) ≤ q % 32 ∧ q % 32 ≤ bo5 (4 * i + 2)) ∧ bo5 (4 * i + 1) ≤ q / 32 ∧ q / 32 ≤ bo5 (4 * i + 3))))], []) rfl trivial ?_
                      refine G.locs [(0, gr 60), (1, gi i), (2, gi k), (3, gi (n1 + gb (((bo5 (4 * i) ≤ q % 32 ∧ q % 32 ≤ bo5 (4 * i + 2)) ∧ bo5 (4 * i + 1) ≤ q / 32 ∧ q / 32 ≤ bo5 (4 * i + 3)) ∧ df5 q = 1))), (4, gi (q + 1))] [0, 1, 2, 3, 4] rfl ?_
                      exact ih81 (n1 + gb (((bo5 (4 * i) ≤ q % 32 ∧ q % 32 ≤ bo5 (4 * i + 2)) ∧ bo5 (4 * i + 1) ≤ q / 32 ∧ q / 32 ≤ bo5 (4 * i + 3)) ∧ df5 q = 1)) (q + 1) (by omega) (by exact gsm_next (fun q => gb (((bo5 (4 * i) ≤ q % 32 ∧ q % 32 ≤ bo5 (4 * i + 2)) ∧ bo5 (4 * i + 1) ≤ q / 32 ∧ q / 32 ≤ bo5 (4 * i + 3)) ∧ df5 q = 1)) hq.1 hn1) (by omega)
                    refine g_if_eq hX 177 rfl rfl (gb_r _) (fun b158 => ?_) (fun b158 => ?_)
                    ·
                      have b158 := gb_0.mp b158
                      refine G.go hX 1 (moW W H 0 mbd mne 0 mn5 bx5 man mrs mrl mfl mpt df5 lb5 bo5 mwn mwo mxo myo mor mco mro mpw mph mrk mrb mrf mfr mfm med map mwh, 178, [(0, gr 60), (1, gi i), (2, gi k), (3, gi n1), (4, gi q), (5, gi (gb ((bo5 (4 * i) ≤ q % 32 ∧ q % 32 ≤ bo5 (4 * i + 2)) ∧ bo5 (4 * i + 1) ≤ q / 32 ∧ q / 32 ≤ bo5 (4 * i + 3))))], [gi n1]) rfl trivial ?_
                      refine G.eq (S' := (moW W H 0 mbd mne 0 mn5 bx5 man mrs mrl mfl mpt df5 lb5 bo5 mwn mwo mxo myo mor mco mro mpw mph mrk mrb mrf mfr mfm med map mwh, 178, [(0, gr 60), (1, gi i), (2, gi k), (3, gi n1), (4, gi q), (5, gi (gb ((bo5 (4 * i) ≤ q % 32 ∧ q % 32 ≤ bo5 (4 * i + 2)) ∧ bo5 (4 * i + 1) ≤ q / 32 ∧ q / 32 ≤ bo5 (4 * i + 3))))], [gi (n1 + gb (((bo5 (4 * i) ≤ q % 32 ∧ q % 32 ≤ bo5 (4 * i + 2)) ∧ bo5 (4 * i + 1) ≤ q / 32 ∧ q / 32 ≤ bo5 (4 * i + 3)) ∧ df5 q = 1))])) ?_ jn178
                      rw [gb_f (P := ((bo5 (4 * i) ≤ q % 32 ∧ q % 32 ≤ bo5 (4 * i + 2)) ∧ bo5 (4 * i + 1) ≤ q / 32 ∧ q / 32 ≤ bo5 (4 * i + 3)) ∧ df5 q = 1) (fun h9 => by (first | exact b158 h9.1 | (have := h9.2; omega))), Int.add_zero]
                    ·
                      have b158 := gb_n0 b158
                      refine G.go hX 4 (moW W H 0 mbd mne 0 mn5 bx5 man mrs mrl mfl mpt df5 lb5 bo5 mwn mwo mxo myo mor mco mro mpw mph mrk mrb mrf mfr mfm med map mwh, 168, [(0, gr 60), (1, gi i), (2, gi k), (3, gi n1), (4, gi q), (5, gi (gb ((bo5 (4 * i) ≤ q % 32 ∧ q % 32 ≤ bo5 (4 * i + 2)) ∧ bo5 (4 * i + 1) ≤ q / 32 ∧ q / 32 ≤ bo5 (4 * i + 3))))], [gi (df5 q)]) rfl ?_ ?_
                      · refine ⟨?_, trivial⟩
                        · omega
                      refine g_if_eq hX 177 rfl rfl ⟨by omega, by omega⟩ (fun b168 => ?_) (fun b168 => ?_)
                      ·
                        refine G.go hX 1 (moW W H 0 mbd mne 0 mn5 bx5 man mrs mrl mfl mpt df5 lb5 bo5 mwn mwo mxo myo mor mco mro mpw mph mrk mrb mrf mfr mfm med map mwh, 178, [(0, gr 60), (1, gi i), (2, gi k), (3, gi n1), (4, gi q), (5, gi (gb ((bo5 (4 * i) ≤ q % 32 ∧ q % 32 ≤ bo5 (4 * i + 2)) ∧ bo5 (4 * i + 1) ≤ q / 32 ∧ q / 32 ≤ bo5 (4 * i + 3))))], [gi n1]) rfl trivial ?_
                        refine G.eq (S' := (moW W H 0 mbd mne 0 mn5 bx5 man mrs mrl mfl mpt df5 lb5 bo5 mwn mwo mxo myo mor mco mro mpw mph mrk mrb mrf mfr mfm med map mwh, 178, [(0, gr 60), (1, gi i), (2, gi k), (3, gi n1), (4, gi q), (5, gi (gb ((bo5 (4 * i) ≤ q % 32 ∧ q % 32 ≤ bo5 (4 * i + 2)) ∧ bo5 (4 * i + 1) ≤ q / 32 ∧ q / 32 ≤ bo5 (4 * i + 3))))], [gi (n1 + gb (((bo5 (4 * i) ≤ q % 32 ∧ q % 32 ≤ bo5 (4 * i + 2)) ∧ bo5 (4 * i + 1) ≤ q / 32 ∧ q / 32 ≤ bo5 (4 * i + 3)) ∧ df5 q = 1))])) ?_ jn178
                        rw [gb_f (P := ((bo5 (4 * i) ≤ q % 32 ∧ q % 32 ≤ bo5 (4 * i + 2)) ∧ bo5 (4 * i + 1) ≤ q / 32 ∧ q / 32 ≤ bo5 (4 * i + 3)) ∧ df5 q = 1) (fun h9 => by (first | exact b158 h9.1 | (have := h9.2; omega))), Int.add_zero]
                      ·
                        refine G.go hX 4 (moW W H 0 mbd mne 0 mn5 bx5 man mrs mrl mfl mpt df5 lb5 bo5 mwn mwo mxo myo mor mco mro mpw mph mrk mrb mrf mfr mfm med map mwh, 178, [(0, gr 60), (1, gi i), (2, gi k), (3, gi n1), (4, gi q), (5, gi (gb ((bo5 (4 * i) ≤ q % 32 ∧ q % 32 ≤ bo5 (4 * i + 2)) ∧ bo5 (4 * i + 1) ≤ q / 32 ∧ q / 32 ≤ bo5 (4 * i + 3))))], [gi (n1 + 1)]) rfl trivial ?_
                        refine G.eq (S' := (moW W H 0 mbd mne 0 mn5 bx5 man mrs mrl mfl mpt df5 lb5 bo5 mwn mwo mxo myo mor mco mro mpw mph mrk mrb mrf mfr mfm med map mwh, 178, [(0, gr 60), (1, gi i), (2, gi k), (3, gi n1), (4, gi q), (5, gi (gb ((bo5 (4 * i) ≤ q % 32 ∧ q % 32 ≤ bo5 (4 * i + 2)) ∧ bo5 (4 * i + 1) ≤ q / 32 ∧ q / 32 ≤ bo5 (4 * i + 3))))], [gi (n1 + gb (((bo5 (4 * i) ≤ q % 32 ∧ q % 32 ≤ bo5 (4 * i + 2)) ∧ bo5 (4 * i + 1) ≤ q / 32 ∧ q / 32 ≤ bo5 (4 * i + 3)) ∧ df5 q = 1))])) ?_ jn178
                        rw [gb_t (P := ((bo5 (4 * i) ≤ q % 32 ∧ q % 32 ≤ bo5 (4 * i + 2)) ∧ bo5 (4 * i + 1) ≤ q / 32 ∧ q / 32 ≤ bo5 (4 * i + 3)) ∧ df5 q = 1) ⟨b158, by omega⟩]
                  refine g_if_eq hX 153 rfl rfl (gb_r _) (fun b115 => ?_) (fun b115 => ?_)
                  ·
                    have b115 := gb_0.mp b115
                    refine G.go hX 1 (moW W H 0 mbd mne 0 mn5 bx5 man mrs mrl mfl mpt df5 lb5 bo5 mwn mwo mxo myo mor mco mro mpw mph mrk mrb mrf mfr mfm med map mwh, 154, [(0, gr 60), (1, gi i), (2, gi k), (3, gi n1), (4, gi q)], [gi 0]) rfl trivial ?_
                    refine G.eq (S' := (moW W H 0 mbd mne 0 mn5 bx5 man mrs mrl mfl mpt df5 lb5 bo5 mwn mwo mxo myo mor mco mro mpw mph mrk mrb mrf mfr mfm med map mwh, 154, [(0, gr 60), (1, gi i), (2, gi k), (3, gi n1), (4, gi q)], [gi (gb ((bo5 (4 * i) ≤ q % 32 ∧ q % 32 ≤ bo5 (4 * i + 2)) ∧ bo5 (4 * i + 1) ≤ q / 32 ∧ q / 32 ≤ bo5 (4 * i + 3)))])) ?_ jn154
                    rw [gb_f (show ¬ ((bo5 (4 * i) ≤ q % 32 ∧ q % 32 ≤ bo5 (4 * i + 2)) ∧ bo5 (4 * i + 1) ≤ q / 32 ∧ q / 32 ≤ bo5 (4 * i + 3)) by omega)]
                  ·
                    have b115 := gb_n0 b115
                    refine G.go hX 19 (moW W H 0 mbd mne 0 mn5 bx5 man mrs mrl mfl mpt df5 lb5 bo5 mwn mwo mxo myo mor mco mro mpw mph mrk mrb mrf mfr mfm med map mwh, 143, [(0, gr 60), (1, gi i), (2, gi k), (3, gi n1), (4, gi q)], [gi (bo5 ((4 * i) + 3)), gi (bo5 ((4 * i) + 1)), gi (q / 32)]) rfl ?_ ?_
                    · refine ⟨?_, ?_, ?_, trivial⟩
                      · omega
                      · omega
                      · omega
                    refine G.callS (av := [gi (q / 32), gi (bo5 ((4 * i) + 1)), gi (bo5 ((4 * i) + 3))]) (st := []) hX rfl (fun l D cA => c_X8_in l D cA (q / 32) (bo5 ((4 * i) + 1)) (bo5 ((4 * i) + 3)) ⟨by omega, by omega⟩ (hbo5 _) (hbo5 _)) (by decide +kernel) aX8_in rfl ⟨rfl, rfl⟩ (by decide) (Nat.le_of_ble_eq_true rfl) [] [0, 1, 2, 3, 4, 5, 6, 7, 8, 9, 10, 11, 12, 13, 14, 15, 16, 17, 18, 19, 20, 21] (moW W H 0 mbd mne 0 mn5 bx5 man mrs mrl mfl mpt df5 lb5 bo5 mwn mwo mxo myo mor mco mro mpw mph mrk mrb mrf mfr mfm med map mwh) rfl rfl rfl (fun r w' hp => ?_)
                    obtain ⟨rfl, rfl⟩ := hp
                    show G X mX8_box ad 0 0 (moW W H 0 mbd mne 0 mn5 bx5 man mrs mrl mfl mpt df5 lb5 bo5 mwn mwo mxo myo mor mco mro mpw mph mrk mrb mrf mfr mfm med map mwh, 146, [(0, gr 60), (1, gi i), (2, gi k), (3, gi n1), (4, gi q)], [gi (gb ((bo5 ((4 * i) + 1)) ≤ (q / 32) ∧ (q / 32) ≤ (bo5 ((4 * i) + 3))))])
                    refine g_if_eq hX 153 rfl rfl (gb_r _) (fun b146 => ?_) (fun b146 => ?_)
                    ·
                      have b146 := gb_0.mp b146
                      refine G.go hX 1 (moW W H 0 mbd mne 0 mn5 bx5 man mrs mrl mfl mpt df5 lb5 bo5 mwn mwo mxo myo mor mco mro mpw mph mrk mrb mrf mfr mfm med map mwh, 154, [(0, gr 60), (1, gi i), (2, gi k), (3, gi n1), (4, gi q)], [gi 0]) rfl trivial ?_
                      refine G.eq (S' := (moW W H 0 mbd mne 0 mn5 bx5 man mrs mrl mfl mpt df5 lb5 bo5 mwn mwo mxo myo mor mco mro mpw mph mrk mrb mrf mfr mfm med map mwh, 154, [(0, gr 60), (1, gi i), (2, gi k), (3, gi n1), (4, gi q)], [gi (gb ((bo5 (4 * i) ≤ q % 32 ∧ q % 32 ≤ bo5 (4 * i + 2)) ∧ bo5 (4 * i + 1) ≤ q / 32 ∧ q / 32 ≤ bo5 (4 * i + 3)))])) ?_ jn154
                      rw [gb_f (show ¬ ((bo5 (4 * i) ≤ q % 32 ∧ q % 32 ≤ bo5 (4 * i + 2)) ∧ bo5 (4 * i + 1) ≤ q / 32 ∧ q / 32 ≤ bo5 (4 * i + 3)) by omega)]
                    ·
                      have b146 := gb_n0 b146
                      refine G.go hX 2 (moW W H 0 mbd mne 0 mn5 bx5 man mrs mrl mfl mpt df5 lb5 bo5 mwn mwo mxo myo mor mco mro mpw mph mrk mrb mrf mfr mfm med map mwh, 154, [(0, gr 60), (1, gi i), (2, gi k), (3, gi n1), (4, gi q)], [gi 1]) rfl trivial ?_
                      refine G.eq (S' := (moW W H 0 mbd mne 0 mn5 bx5 man mrs mrl mfl mpt df5 lb5 bo5 mwn mwo mxo myo mor mco mro mpw mph mrk mrb mrf mfr mfm med map mwh, 154, [(0, gr 60), (1, gi i), (2, gi k), (3, gi n1), (4, gi q)], [gi (gb ((bo5 (4 * i) ≤ q % 32 ∧ q % 32 ≤ bo5 (4 * i + 2)) ∧ bo5 (4 * i + 1) ≤ q / 32 ∧ q / 32 ≤ bo5 (4 * i + 3)))])) ?_ jn154
                      rw [gb_t (show (bo5 (4 * i) ≤ q % 32 ∧ q % 32 ≤ bo5 (4 * i + 2)) ∧ bo5 (4 * i + 1) ≤ q / 32 ∧ q / 32 ≤ bo5 (4 * i + 3) by omega)]
            exact lp81 _ 0 0 (by omega) (by rfl) (Nat.lt_succ_self _)
          ·
            refine G.go hX 8 (moW W H 0 mbd mne 0 mn5 bx5 man mrs mrl mfl mpt df5 lb5 bo5 mwn mwo mxo myo mor mco mro mpw mph mrk mrb mrf mfr mfm med map mwh, 75, [(0, gr 60), (1, gi i), (2, gi k)], [gi (bo5 ((4 * i) + k))]) rfl ?_ ?_
            · refine ⟨?_, trivial⟩
              · omega
            exact g_iret hX hE rfl ⟨df5, lb5, mn5, bx5, bo5, _, 0, rfl, rfl, hv5, hdf5, hlb5, hbo5, fun h9 => by (exfalso; omega), fun _ h9 => by (exfalso; omega), fun _ => ⟨rfl, fun _ => rfl, fun h9 => by (exfalso; omega)⟩⟩
        ·
          exfalso
          omega
  ·
    refine G.go hX 2 (moW W H 0 mbd mne 0 mn5 bx5 man mrs mrl mfl mpt df5 lb5 bo5 mwn mwo mxo myo mor mco mro mpw mph mrk mrb mrf mfr mfm med map mwh, 18, [(0, gr 60), (1, gi i), (2, gi k)], [gi bx5]) rfl trivial ?_
    exact g_iret hX hE rfl ⟨df5, lb5, mn5, bx5, bo5, bx5, 0, rfl, rfl, hv5, hdf5, hlb5, hbo5, fun _ => ⟨rfl, rfl⟩, fun h9 => by (exfalso; omega), fun h9 => by (exfalso; omega)⟩
set_option maxHeartbeats 4000000 in
set_option maxRecDepth 100000 in
theorem c_X8_word (l : Launch) (D : va_G) (cA : Nat → ClassId) (W : Nat) (H : Nat) (mth : Int) (mbd : Int) (mne : Int) (mnw : Int) (mmn : Int) (mbx : Int) (man : Int) (mrs : Int) (mrl : Int) (mfl : Int) (mpt : Int → Int) (mdf : Int → Int) (mlb : Int → Int) (mbo : Int → Int) (mwn : Int → Int) (mwo : Int → Int) (mxo : Int → Int) (myo : Int → Int) (mor : Int → Int) (mco : Int → Int) (mro : Int → Int) (mpw : Int → Int) (mph : Int → Int) (mrk : Int → Int) (mrb : Int → Int) (mrf : Int → Int) (mfr : Int → Int) (mfm : Int → Int) (med : Int → Int) (map : Int → Int) (mwh : Int → Int) (s : Int) (w : Int) (x : Int) (y : Int) (hwn : (0 ≤ mwn 0 ∧ mwn 0 ≤ 40) ∧ 0 ≤ mwn 1 ∧ mwn 1 ≤ 40) (hs : inR s) (hw : inR w) :
    gC l D cA yX8_word mX8_word (some .int) 0 0 [gr 60, gi s, gi w, gi x, gi y] (moW W H mth mbd mne mnw mmn mbx man mrs mrl mfl mpt mdf mlb mbo mwn mwo mxo myo mor mco mro mpw mph mrk mrb mrf mfr mfm med map mwh) (fun r9 w9 => ∃ (rv : Int) (th : Int) (wn2 : Int → Int) (wo2 : Int → Int) (xo2 : Int → Int) (yo2 : Int → Int) (an2 : Int), r9 = some (gi rv) ∧ w9 = moW W H th mbd mne mnw mmn mbx an2 mrs mrl mfl mpt mdf mlb mbo wn2 wo2 xo2 yo2 mor mco mro mpw mph mrk mrb mrf mfr mfm med map mwh ∧ (¬ (0 ≤ s ∧ s ≤ 1) → th = 1 ∧ rv = 0 ∧ wn2 = mwn ∧ wo2 = mwo ∧ xo2 = mxo ∧ yo2 = myo ∧ an2 = man) ∧ (0 ≤ s ∧ s ≤ 1 → w < 0 → th = 2 ∧ rv = 0 ∧ wn2 = mwn ∧ wo2 = mwo ∧ xo2 = mxo ∧ yo2 = myo ∧ an2 = man) ∧ (0 ≤ s ∧ s ≤ 1 → 0 ≤ w → mwn s = 40 → th = 3 ∧ rv = 0 ∧ wn2 = mwn ∧ wo2 = mwo ∧ xo2 = mxo ∧ yo2 = myo ∧ an2 = man) ∧ (0 ≤ s ∧ s ≤ 1 → 0 ≤ w → mwn s ≠ 40 → th = 0 ∧ rv = mwn s ∧ wn2 = gu mwn s (mwn s + 1) ∧ wo2 = gu mwo (40 * s + mwn s) w ∧ xo2 = gu mxo (40 * s + mwn s) x ∧ yo2 = gu myo (40 * s + mwn s) y ∧ an2 = 1)) := by
  refine gC_of rfl kX8_word rfl rfl (Nat.le_of_ble_eq_true rfl) (fun X ad hX hE => ?_)
  refine G.go hX 4 (moW W H mth mbd mne mnw mmn mbx man mrs mrl mfl mpt mdf mlb mbo mwn mwo mxo myo mor mco mro mpw mph mrk mrb mrf mfr mfm med map mwh, 4, [(0, gr 60), (1, gi s), (2, gi w), (3, gi x), (4, gi y)], [gi 1, gi 0, gi s, gr 60]) rfl trivial ?_
  refine G.callS (av := [gi s, gi 0, gi 1]) (st := [gr 60]) hX rfl (fun l D cA => c_X8_in l D cA s 0 1 (by first | assumption | exact ⟨by omega, by omega⟩) ⟨by omega, by omega⟩ ⟨by omega, by omega⟩) (by decide +kernel) aX8_in rfl ⟨rfl, rfl⟩ (by decide) (Nat.le_of_ble_eq_true rfl) [] [0, 1, 2, 3, 4, 5, 6, 7, 8, 9, 10, 11, 12, 13, 14, 15, 16, 17, 18, 19, 20, 21] (moW W H mth mbd mne mnw mmn mbx man mrs mrl mfl mpt mdf mlb mbo mwn mwo mxo myo mor mco mro mpw mph mrk mrb mrf mfr mfm med map mwh) rfl rfl rfl (fun r w' hp => ?_)
  obtain ⟨rfl, rfl⟩ := hp
  show G X mX8_word ad 0 0 (moW W H mth mbd mne mnw mmn mbx man mrs mrl mfl mpt mdf mlb mbo mwn mwo mxo myo mor mco mro mpw mph mrk mrb mrf mfr mfm med map mwh, 7, [(0, gr 60), (1, gi s), (2, gi w), (3, gi x), (4, gi y)], [gi (gb (0 ≤ s ∧ s ≤ 1)), gr 60])
  refine g_if_ne hX 14 rfl rfl (gb_r _) (fun b7 => ?_) (fun b7 => ?_)
  ·
    have b7 := gb_n0 b7
    refine G.go hX 1 (moW W H mth mbd mne mnw mmn mbx man mrs mrl mfl mpt mdf mlb mbo mwn mwo mxo myo mor mco mro mpw mph mrk mrb mrf mfr mfm med map mwh, 15, [(0, gr 60), (1, gi s), (2, gi w), (3, gi x), (4, gi y)], [gi w, gr 60]) rfl trivial ?_
    refine g_if_ge hX 22 rfl rfl hw (fun b15 => ?_) (fun b15 => ?_)
    ·
      have hs9 : s = 0 ∨ s = 1 := by omega
      have hws : 0 ≤ mwn s ∧ mwn s ≤ 40 := by (rcases hs9 with h9 | h9 <;> rw [h9] <;> omega)
      refine G.go hX 5 (moW W H mth mbd mne mnw mmn mbx man mrs mrl mfl mpt mdf mlb mbo mwn mwo mxo myo mor mco mro mpw mph mrk mrb mrf mfr mfm med map mwh, 30, [(0, gr 60), (1, gi s), (2, gi w), (3, gi x), (4, gi y)], [gi 40, gi (mwn s), gr 60]) rfl ?_ ?_
      · refine ⟨?_, trivial⟩
        · omega
      refine g_icmp_ne hX 37 rfl rfl ⟨by omega, by omega⟩ ⟨by omega, by omega⟩ (fun b30 => ?_) (fun b30 => ?_)
      ·
        refine G.go hX 4 (moW W H 0 mbd mne mnw mmn mbx man mrs mrl mfl mpt mdf mlb mbo mwn mwo mxo myo mor mco mro mpw mph mrk mrb mrf mfr mfm med map mwh, 45, [(0, gr 60), (1, gi s), (2, gi w), (3, gi x), (4, gi y)], [gi 0]) rfl trivial ?_
        refine g_if_le hX 50 rfl rfl ⟨by omega, by omega⟩ (fun b45 => ?_) (fun b45 => ?_)
        ·
          refine G.go hX 41 (moW W H 0 mbd mne mnw mmn mbx 1 mrs mrl mfl mpt mdf mlb mbo (gu mwn s ((mwn s) + 1)) (gu mwo ((40 * s) + (mwn s)) w) (gu mxo ((40 * s) + (mwn s)) x) (gu myo ((40 * s) + (mwn s)) y) mor mco mro mpw mph mrk mrb mrf mfr mfm med map mwh, 111, [(0, gr 60), (1, gi s), (2, gi w), (3, gi x), (4, gi y), (5, gi ((40 * s) + (mwn s)))], [gi (((gu mwn s ((mwn s) + 1)) s) - 1)]) rfl ?_ ?_
          · refine ⟨?_, ?_, ?_, ?_, ?_, ?_, ?_, ?_, trivial⟩
            · omega
            · omega
            · omega
            · omega
            · omega
            · omega
            · omega
            · omega
          exact g_iret hX hE rfl ⟨mwn s, 0, _, _, _, _, 1, congrArg (fun z => some (gi z)) (by rw [gu_s]; omega), rfl, fun h9 => by (exfalso; omega), fun _ h9 => by (exfalso; omega), fun _ _ h9 => by (exfalso; omega), fun _ _ _ => ⟨rfl, rfl, rfl, rfl, rfl, rfl, rfl⟩⟩
        ·
          exfalso
          omega
      ·
        refine G.go hX 5 (moW W H 3 mbd mne mnw mmn mbx man mrs mrl mfl mpt mdf mlb mbo mwn mwo mxo myo mor mco mro mpw mph mrk mrb mrf mfr mfm med map mwh, 45, [(0, gr 60), (1, gi s), (2, gi w), (3, gi x), (4, gi y)], [gi 3]) rfl trivial ?_
        refine g_if_le hX 50 rfl rfl ⟨by omega, by omega⟩ (fun b45 => ?_) (fun b45 => ?_)
        ·
          exfalso
          omega
        ·
          refine G.go hX 1 (moW W H 3 mbd mne mnw mmn mbx man mrs mrl mfl mpt mdf mlb mbo mwn mwo mxo myo mor mco mro mpw mph mrk mrb mrf mfr mfm med map mwh, 49, [(0, gr 60), (1, gi s), (2, gi w), (3, gi x), (4, gi y)], [gi 0]) rfl trivial ?_
          exact g_iret hX hE rfl ⟨0, 3, mwn, mwo, mxo, myo, man, rfl, rfl, fun h9 => by (exfalso; omega), fun _ h9 => by (exfalso; omega), fun _ _ _ => ⟨rfl, rfl, rfl, rfl, rfl, rfl, rfl⟩, fun _ _ h9 => by (exfalso; omega)⟩
    ·
      refine G.go hX 5 (moW W H 2 mbd mne mnw mmn mbx man mrs mrl mfl mpt mdf mlb mbo mwn mwo mxo myo mor mco mro mpw mph mrk mrb mrf mfr mfm med map mwh, 45, [(0, gr 60), (1, gi s), (2, gi w), (3, gi x), (4, gi y)], [gi 2]) rfl trivial ?_
      refine g_if_le hX 50 rfl rfl ⟨by omega, by omega⟩ (fun b45 => ?_) (fun b45 => ?_)
      ·
        exfalso
        omega
      ·
        refine G.go hX 1 (moW W H 2 mbd mne mnw mmn mbx man mrs mrl mfl mpt mdf mlb mbo mwn mwo mxo myo mor mco mro mpw mph mrk mrb mrf mfr mfm med map mwh, 49, [(0, gr 60), (1, gi s), (2, gi w), (3, gi x), (4, gi y)], [gi 0]) rfl trivial ?_
        exact g_iret hX hE rfl ⟨0, 2, mwn, mwo, mxo, myo, man, rfl, rfl, fun h9 => by (exfalso; omega), fun _ _ => ⟨rfl, rfl, rfl, rfl, rfl, rfl, rfl⟩, fun _ h9 => by (exfalso; omega), fun _ h9 => by (exfalso; omega)⟩
  ·
    have b7 := gb_nn b7
    refine G.go hX 5 (moW W H 1 mbd mne mnw mmn mbx man mrs mrl mfl mpt mdf mlb mbo mwn mwo mxo myo mor mco mro mpw mph mrk mrb mrf mfr mfm med map mwh, 45, [(0, gr 60), (1, gi s), (2, gi w), (3, gi x), (4, gi y)], [gi 1]) rfl trivial ?_
    refine g_if_le hX 50 rfl rfl ⟨by omega, by omega⟩ (fun b45 => ?_) (fun b45 => ?_)
    ·
      exfalso
      omega
    ·
      refine G.go hX 1 (moW W H 1 mbd mne mnw mmn mbx man mrs mrl mfl mpt mdf mlb mbo mwn mwo mxo myo mor mco mro mpw mph mrk mrb mrf mfr mfm med map mwh, 49, [(0, gr 60), (1, gi s), (2, gi w), (3, gi x), (4, gi y)], [gi 0]) rfl trivial ?_
      exact g_iret hX hE rfl ⟨0, 1, mwn, mwo, mxo, myo, man, rfl, rfl, fun _ => ⟨rfl, rfl, rfl, rfl, rfl, rfl, rfl⟩, fun h9 => by (exfalso; omega), fun h9 => by (exfalso; omega), fun h9 => by (exfalso; omega)⟩
set_option maxHeartbeats 4000000 in
set_option maxRecDepth 100000 in
theorem c_X8_sortWords (l : Launch) (D : va_G) (cA : Nat → ClassId) (W : Nat) (H : Nat) (mth : Int) (mbd : Int) (mne : Int) (mnw : Int) (mmn : Int) (mbx : Int) (man : Int) (mrs : Int) (mrl : Int) (mfl : Int) (mpt : Int → Int) (mdf : Int → Int) (mlb : Int → Int) (mbo : Int → Int) (mwn : Int → Int) (mwo : Int → Int) (mxo : Int → Int) (myo : Int → Int) (mor : Int → Int) (mco : Int → Int) (mro : Int → Int) (mpw : Int → Int) (mph : Int → Int) (mrk : Int → Int) (mrb : Int → Int) (mrf : Int → Int) (mfr : Int → Int) (mfm : Int → Int) (med : Int → Int) (map : Int → Int) (mwh : Int → Int) (s : Int) (hs : s = 0 ∨ s = 1) (hn : 0 ≤ mwn s ∧ mwn s ≤ 40) (hxy : ∀ q : Int, inR (mxo q) ∧ inR (myo q)) :
    gC l D cA yX8_sortWords mX8_sortWords none 0 0 [gr 60, gi s] (moW W H mth mbd mne mnw mmn mbx man mrs mrl mfl mpt mdf mlb mbo mwn mwo mxo myo mor mco mro mpw mph mrk mrb mrf mfr mfm med map mwh) (fun r9 w9 => ∃ (or2 : Int → Int), r9 = none ∧ w9 = moW W H mth mbd mne mnw mmn mbx man mrs mrl mfl mpt mdf mlb mbo mwn mwo mxo myo or2 mco mro mpw mph mrk mrb mrf mfr mfm med map mwh ∧ (∀ j, ¬ (40 * s ≤ j ∧ j < 40 * s + 40) → or2 j = mor j) ∧ (wOrd (mwn s) (fun j => mxo (40 * s + j)) (fun j => myo (40 * s + j)) (fun j => or2 (40 * s + j) - 40 * s))) := by
  refine gC_of rfl kX8_sortWords rfl rfl (Nat.le_of_ble_eq_true rfl) (fun X ad hX hE => ?_)
  refine G.go hX 7 (moW W H mth mbd mne mnw mmn mbx man mrs mrl mfl mpt mdf mlb mbo mwn mwo mxo myo mor mco mro mpw mph mrk mrb mrf mfr mfm med map mwh, 9, [(0, gr 60), (1, gi s), (2, gi (mwn s)), (3, gi 0)], []) rfl ?_ ?_
  · refine ⟨?_, trivial⟩
    · omega
  have lp9 : ∀ (n : Nat) (k : Int) (or1 : Int → Int), (0 ≤ k ∧ k ≤ mwn s) → (∀ j, ¬ (40 * s ≤ j ∧ j < 40 * s + 40) → or1 j = mor j) → (∀ a, 0 ≤ a → a < k → or1 (40 * s + wrk (mwn s) (fun j => mxo (40 * s + j)) (fun j => myo (40 * s + j)) a) = 40 * s + a) → (mwn s - k).toNat < n → G X mX8_sortWords ad 0 0 (moW W H mth mbd mne mnw mmn mbx man mrs mrl mfl mpt mdf mlb mbo mwn mwo mxo myo or1 mco mro mpw mph mrk mrb mrf mfr mfm med map mwh, 9, [(0, gr 60), (1, gi s), (2, gi (mwn s)), (3, gi k)], []) := by
    intro n
    induction n with
    | zero => intro k or1 hk ho1 hr1 hm9; exact absurd hm9 (Nat.not_lt_zero _)
    | succ n ih9 =>
      intro k or1 hk ho1 hr1 hm9
      refine G.go hX 2 (moW W H mth mbd mne mnw mmn mbx man mrs mrl mfl mpt mdf mlb mbo mwn mwo mxo myo or1 mco mro mpw mph mrk mrb mrf mfr mfm med map mwh, 11, [(0, gr 60), (1, gi s), (2, gi (mwn s)), (3, gi k)], [gi (mwn s), gi k]) rfl trivial ?_
      refine g_icmp_ge hX 87 rfl rfl ⟨by omega, by omega⟩ ⟨by omega, by omega⟩ (fun b11 => ?_) (fun b11 => ?_)
      ·
        exact g_vret hX hE rfl ⟨or1, rfl, rfl, ho1, wOrd_rk hn.1 (fun a a0 a1 => by (rw [hr1 a a0 (by omega)]; omega))⟩
      ·
        refine G.go hX 10 (moW W H mth mbd mne mnw mmn mbx man mrs mrl mfl mpt mdf mlb mbo mwn mwo mxo myo or1 mco mro mpw mph mrk mrb mrf mfr mfm med map mwh, 28, [(0, gr 60), (1, gi s), (2, gi (mwn s)), (3, gi k), (4, gi ((40 * s) + k)), (5, gi 0), (6, gi 0)], []) rfl trivial ?_
        have lp28 : ∀ (n : Nat) (be : Int) (i : Int), (0 ≤ i ∧ i ≤ mwn s) → (be = gsm (fun i => gb (wbf (fun j => mxo (40 * s + j)) (fun j => myo (40 * s + j)) i k)) i.toNat) → (mwn s - i).toNat < n → G X mX8_sortWords ad 0 0 (moW W H mth mbd mne mnw mmn mbx man mrs mrl mfl mpt mdf mlb mbo mwn mwo mxo myo or1 mco mro mpw mph mrk mrb mrf mfr mfm med map mwh, 28, [(0, gr 60), (1, gi s), (2, gi (mwn s)), (3, gi k), (4, gi ((40 * s) + k)), (5, gi be), (6, gi i)], []) := by
          intro n
          induction n with
          | zero => intro be i hi hb1 hm9; exact absurd hm9 (Nat.not_lt_zero _)
          | succ n ih28 =>
            intro be i hi hb1 hm28
            refine G.go hX 2 (moW W H mth mbd mne mnw mmn mbx man mrs mrl mfl mpt mdf mlb mbo mwn mwo mxo myo or1 mco mro mpw mph mrk mrb mrf mfr mfm med map mwh, 31, [(0, gr 60), (1, gi s), (2, gi (mwn s)), (3, gi k), (4, gi ((40 * s) + k)), (5, gi be), (6, gi i)], [gi (mwn s), gi i]) rfl trivial ?_
            refine g_icmp_ge hX 67 rfl rfl ⟨by omega, by omega⟩ ⟨by omega, by omega⟩ (fun b31 => ?_) (fun b31 => ?_)
            ·
              have hbe : wrk (mwn s) (fun j => mxo (40 * s + j)) (fun j => myo (40 * s + j)) k = be := by (unfold wrk; rw [hb1, show i = mwn s by omega])
              have hbi := wrk_in (n := mwn s) (xs := (fun j => mxo (40 * s + j))) (ys := (fun j => myo (40 * s + j))) (k := k) (by omega) (by omega)
              refine G.go hX 11 (moW W H mth mbd mne mnw mmn mbx man mrs mrl mfl mpt mdf mlb mbo mwn mwo mxo myo (gu or1 ((40 * s) + be) ((40 * s) + k)) mco mro mpw mph mrk mrb mrf mfr mfm med map mwh, 9, [(0, gr 60), (1, gi s), (2, gi (mwn s)), (3, gi (k + 1)), (4, gi ((40 * s) + k)), (5, gi be), (6, gi i)], []) rfl ?_ ?_
              · refine ⟨?_, trivial⟩
                · omega
              refine G.locs [(0, gr 60), (1, gi s), (2, gi (mwn s)), (3, gi (k + 1))] [0, 1, 2, 3] rfl ?_
              exact ih9 (k + 1) (gu or1 ((40 * s) + be) ((40 * s) + k)) (by omega) (by intro j h9; rw [gu_n _ _ (by omega)]; exact ho1 j h9) (by intro a h1 h2; by_cases e9 : a = k; (rw [e9, hbe, gu_s]); (rw [gu_n _ _ (fun h8 => e9 (wrk_inj (n := mwn s) (xs := (fun j => mxo (40 * s + j))) (ys := (fun j => myo (40 * s + j))) h1 (by omega) (by omega) (by omega) (by omega)))]; exact hr1 a h1 (by omega))) (by omega)
            ·
              refine G.go hX 7 (moW W H mth mbd mne mnw mmn mbx man mrs mrl mfl mpt mdf mlb mbo mwn mwo mxo myo or1 mco mro mpw mph mrk mrb mrf mfr mfm med map mwh, 44, [(0, gr 60), (1, gi s), (2, gi (mwn s)), (3, gi k), (4, gi ((40 * s) + k)), (5, gi be), (6, gi i)], [gi ((40 * s) + k), gi ((40 * s) + i), gr 60]) rfl trivial ?_
              refine G.callV (av := [gi ((40 * s) + i), gi ((40 * s) + k)]) (o := 60) (st := []) hX rfl (fun l D cA => c_X8_isBefore l D cA W H mth mbd mne mnw mmn mbx man mrs mrl mfl mpt mdf mlb mbo mwn mwo mxo myo or1 mco mro mpw mph mrk mrb mrf mfr mfm med map mwh ((40 * s) + i) ((40 * s) + k) ⟨by omega, by omega⟩ ⟨by omega, by omega⟩ (by first | assumption | omega)) (by decide +kernel) aX8_isBefore rfl rfl rfl ⟨rfl, rfl⟩ (by decide) (Nat.le_of_ble_eq_true rfl) [0, 1, 2, 3, 4, 5, 6, 7, 8, 9, 10, 11, 12, 13, 14, 15, 16, 17, 18, 19, 20, 21] [] [] rfl rfl rfl (fun r w' hp => ?_)
              obtain ⟨rfl, rfl⟩ := hp
              show G X mX8_sortWords ad 0 0 (moW W H mth mbd mne mnw mmn mbx man mrs mrl mfl mpt mdf mlb mbo mwn mwo mxo myo or1 mco mro mpw mph mrk mrb mrf mfr mfm med map mwh, 47, [(0, gr 60), (1, gi s), (2, gi (mwn s)), (3, gi k), (4, gi ((40 * s) + k)), (5, gi be), (6, gi i)], [gi (gb (wbf mxo myo ((40 * s) + i) ((40 * s) + k)))])
              refine g_if_eq hX 57 rfl rfl (gb_r _) (fun b47 => ?_) (fun b47 => ?_)
              ·
                have b47 := gb_0.mp b47
                refine G.go hX 4 (moW W H mth mbd mne mnw mmn mbx man mrs mrl mfl mpt mdf mlb mbo mwn mwo mxo myo or1 mco mro mpw mph mrk mrb mrf mfr mfm med map mwh, 28, [(0, gr 60), (1, gi s), (2, gi (mwn s)), (3, gi k), (4, gi ((40 * s) + k)), (5, gi be), (6, gi (i + 1))], []) rfl trivial ?_
                exact ih28 be (i + 1) (by omega) (by have h9 := gsm_next (fun i => gb (wbf (fun j => mxo (40 * s + j)) (fun j => myo (40 * s + j)) i k)) hi.1 hb1; first | (rw [gb_t (wbf_sh.mp b47)] at h9; exact h9) | (rw [gb_f (fun h8 => b47 (wbf_sh.mpr h8))] at h9; omega)) (by omega)
              ·
                have b47 := gb_n0 b47
                refine G.go hX 7 (moW W H mth mbd mne mnw mmn mbx man mrs mrl mfl mpt mdf mlb mbo mwn mwo mxo myo or1 mco mro mpw mph mrk mrb mrf mfr mfm med map mwh, 28, [(0, gr 60), (1, gi s), (2, gi (mwn s)), (3, gi k), (4, gi ((40 * s) + k)), (5, gi (be + 1)), (6, gi (i + 1))], []) rfl trivial ?_
                exact ih28 (be + 1) (i + 1) (by omega) (by have h9 := gsm_next (fun i => gb (wbf (fun j => mxo (40 * s + j)) (fun j => myo (40 * s + j)) i k)) hi.1 hb1; first | (rw [gb_t (wbf_sh.mp b47)] at h9; exact h9) | (rw [gb_f (fun h8 => b47 (wbf_sh.mpr h8))] at h9; omega)) (by omega)
        exact lp28 _ 0 0 (by omega) (by rfl) (Nat.lt_succ_self _)
  exact lp9 _ 0 mor (by omega) (by intro j h9; rfl) (by intro a h1 h2; omega) (Nat.lt_succ_self _)
