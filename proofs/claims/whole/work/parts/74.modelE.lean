/-- a place that differs, by the model's array -/
def mdd (W H : Nat) (df : Int → Int) : Int → Int → Prop := fun x y => (0 ≤ x ∧ x < W) ∧ (0 ≤ y ∧ y < H) ∧ df (32 * y + x) = 1
def mdr (W H : Nat) (df : Int → Int) : Prop := ∀ q, 0 ≤ q → q < 1024 → df q = 1 → q % 32 < W ∧ q / 32 < H
theorem m32 {x y : Int} (h0 : 0 ≤ x) (h1 : x < 32) : (32 * y + x) % 32 = x ∧ (32 * y + x) / 32 = y := by omega
/-- a label is a place that belongs together with its own -/
def mLI (W H : Nat) (ne : Int) (df lb : Int → Int) : Prop := (∀ q, 0 ≤ lb q ∧ lb q ≤ 1023) ∧ ∀ x y, mdd W H df x y → mdd W H df (lb (32 * y + x) % 32) (lb (32 * y + x) / 32) ∧ ∀ f : Int → Int → Int, (∀ a b u v, fadj (mdd W H df) (ne + 1) a b u v → f a b = f u v) → f x y = f (lb (32 * y + x) % 32) (lb (32 * y + x) / 32)
theorem mLI_st {W H : Nat} (hW : W ≤ 32) {ne : Int} {df : Int → Int} : ∀ (lb : Int → Int) (x y u v : Int), mLI W H ne df lb → (0 ≤ x ∧ x < W) → (0 ≤ y ∧ y < H) → mwin W H ne x y u v → df (32 * y + x) = 1 → df (32 * v + u) = 1 → mLI W H ne df (gu lb (32 * y + x) (lb (32 * v + u))) := by
  intro lb x y u v ⟨h1, h2⟩ hx hy hw hd hd2
  refine ⟨fun q => ?_, fun a b hab => ?_⟩
  · unfold gu
    split
    · exact h1 _
    · exact h1 q
  · by_cases e : 32 * b + a = 32 * y + x
    · have e2 : b = y ∧ a = x := by
        have := hab.1
        omega
      rw [e2.1, e2.2, gu_s]
      obtain ⟨k1, k2⟩ := h2 u v ⟨hw.1, hw.2.1, hd2⟩
      refine ⟨k1, fun f hf => ?_⟩
      rw [hf x y u v ⟨⟨hx, hy, hd⟩, ⟨hw.1, hw.2.1, hd2⟩, by have := hw.2.2; omega, by have := hw.2.2; omega, by have := hw.2.2; omega, by have := hw.2.2; omega⟩]
      exact k2 f hf
    · rw [gu_n _ _ e]
      exact h2 a b hab
theorem mLI_0 {W H : Nat} (hW : W ≤ 32) {ne : Int} {df lb : Int → Int} (hl : ∀ q, 0 ≤ lb q ∧ lb q ≤ 1023) (hH : H ≤ 32) (h : ∀ q, 0 ≤ q → q < 1024 → lb q = q) : mLI W H ne df lb := by
  refine ⟨hl, fun x y hxy => ?_⟩
  have hx := hxy.1
  have hy := hxy.2.1
  rw [h _ (by omega) (by omega), (m32 (by omega) (by omega)).1, (m32 (by omega) (by omega)).2]
  exact ⟨hxy, fun _ _ => rfl⟩
theorem mfx_eq {W H : Nat} {ne : Int} {df lb : Int → Int} (h : mfx W H ne df lb H 0) {a b u v : Int} (ha : fadj (mdd W H df) (ne + 1) a b u v) : lb (32 * b + a) = lb (32 * v + u) := by
  have h2 := ha.2.2
  have k1 := h a b u v ha.1.1 ha.1.2.1 (by have := ha.1.2.1; omega) ⟨ha.2.1.1, ha.2.1.2.1, by omega, by omega⟩ ha.1.2.2 ha.2.1.2.2
  have k2 := h u v a b ha.2.1.1 ha.2.1.2.1 (by have := ha.2.1.2.1; omega) ⟨ha.1.1, ha.1.2.1, by omega, by omega⟩ ha.2.1.2.2 ha.1.2.2
  omega
/-- a label is its own label -/
theorem mLI_rep {W H : Nat} {ne : Int} {df lb : Int → Int} (hL : mLI W H ne df lb) (h : mfx W H ne df lb H 0) {x y : Int} (hxy : mdd W H df x y) : mmem df lb (lb (32 * y + x)) (lb (32 * y + x)) := by
  obtain ⟨k1, k2⟩ := hL.2 x y hxy
  have k3 := k2 (fun a b => lb (32 * b + a)) (fun a b u v ha => mfx_eq h ha)
  have hb := hL.1 (32 * y + x)
  have e : 32 * (lb (32 * y + x) / 32) + lb (32 * y + x) % 32 = lb (32 * y + x) := by omega
  rw [e] at k3
  refine ⟨⟨by omega, by omega⟩, ?_, k3.symm⟩
  have := k1.2.2
  rw [e] at this
  exact this
def mFm (W H : Nat) (ne : Int) (df : Int → Int) (nb : Int) (bo : Int → Int) : Prop := ((0 ≤ nb ∧ nb ≤ 1024) ∧ ∀ j : Int, inR (bo j)) ∧ (∀ i, 0 ≤ i → i < nb → fGen (mdd W H df) (ne + 1) (mrw bo i)) ∧ (∀ i, 0 ≤ i → i < nb → (0 ≤ mrw bo i 0 ∧ mrw bo i 2 < W) ∧ 0 ≤ mrw bo i 1 ∧ mrw bo i 3 < H) ∧ ∀ x y u v, fadj (mdd W H df) (ne + 1) x y u v → ∃ i, 0 ≤ i ∧ i < nb ∧ fin (mrw bo i) x y ∧ fin (mrw bo i) u v
theorem mFm_of {W H : Nat} (hW : W ≤ 32) (hH : H ≤ 32) {ne : Int} (hne : 0 ≤ ne) {df lb : Int → Int} (hdr : mdr W H df) (hL : mLI W H ne df lb) (h : mfx W H ne df lb H 0) {nb : Int} {bo : Int → Int} (hM : mMk df lb 1024 nb bo) : mFm W H ne df nb bo := by
  obtain ⟨h1, h2, h3, h4⟩ := hM
  have pl : ∀ r j, mmem df lb r j → mdd W H df (j % 32) (j / 32) ∧ 32 * (j / 32) + j % 32 = j := fun r j hj => by
    have e : 32 * (j / 32) + j % 32 = j := by omega
    have := hdr j hj.1.1 hj.1.2 hj.2.1
    have := hj.1
    exact ⟨⟨⟨by omega, by omega⟩, ⟨by omega, by omega⟩, by rw [e]; exact hj.2.1⟩, e⟩
  refine ⟨⟨h1, h4⟩, fun i i0 i1 => ?_, fun i i0 i1 => ?_, fun x y u v ha => ?_⟩
  · obtain ⟨r, r1, r2, r3⟩ := h2 i i0 i1
    obtain ⟨p1, p2⟩ := pl r r r2
    have hin := r3.1 r r2 (by omega)
    refine fGen_set (fun px py => ∃ j, mmem df lb r j ∧ px = j % 32 ∧ py = j / 32) (by unfold fin at hin; unfold fwf; omega) (r % 32) (r / 32) ⟨p1, p1, by omega, by omega, by omega, by omega⟩ (fun n C hC k k0 k1 hk px py hT => ?_) ?_ ?_ ?_ ?_
    · obtain ⟨j, hj, rfl, rfl⟩ := hT
      obtain ⟨q1, q2⟩ := pl r j hj
      have := (hL.2 _ _ q1).2 (fun a b => gb (fin (C k) a b)) (fun a b u v ha => gb_c ⟨fun h9 => fClo_near hC ha k0 k1 h9, fun h9 => fClo_near hC ha.symm k0 k1 h9⟩)
      rw [q2, hj.2.2] at this
      rw [gb_t hk] at this
      exact gb_1.mp this
    · obtain ⟨j, hj, e⟩ := r3.2.1
      exact ⟨_, _, ⟨j, hj, rfl, rfl⟩, e⟩
    · obtain ⟨j, hj, e⟩ := r3.2.2.1
      exact ⟨_, _, ⟨j, hj, rfl, rfl⟩, e⟩
    · obtain ⟨j, hj, e⟩ := r3.2.2.2.1
      exact ⟨_, _, ⟨j, hj, rfl, rfl⟩, e⟩
    · obtain ⟨j, hj, e⟩ := r3.2.2.2.2
      exact ⟨_, _, ⟨j, hj, rfl, rfl⟩, e⟩
  · obtain ⟨r, r1, r2, r3⟩ := h2 i i0 i1
    obtain ⟨j0, m0, e0⟩ := r3.2.1
    obtain ⟨j1, m1, e1⟩ := r3.2.2.1
    obtain ⟨j2, m2, e2⟩ := r3.2.2.2.1
    obtain ⟨j3, m3, e3⟩ := r3.2.2.2.2
    have := (pl r j0 m0).1
    have := (pl r j1 m1).1
    have := (pl r j2 m2).1
    have := (pl r j3 m3).1
    unfold mdd at *
    omega
  · have e := mfx_eq h ha
    have hr := mLI_rep hL h ha.1
    have hb := hL.1 (32 * y + x)
    obtain ⟨i, i0, i1, i2⟩ := h3 _ hb.1 (by omega) hr
    have hx := ha.1.1
    have hy := ha.1.2.1
    have hu := ha.2.1.1
    have hv := ha.2.1.2.1
    have f1 := i2.1 (32 * y + x) ⟨⟨by omega, by omega⟩, ha.1.2.2, rfl⟩ (by omega)
    have f2 := i2.1 (32 * v + u) ⟨⟨by omega, by omega⟩, ha.2.1.2.2, e.symm⟩ (by omega)
    rw [(m32 (by omega) (by omega)).1, (m32 (by omega) (by omega)).2] at f1 f2
    exact ⟨i, i0, i1, f1, f2⟩
theorem fin_c4 {b c : Int → Int} (h : ∀ k, 0 ≤ k → k < 4 → b k = c k) {x y : Int} : fin b x y ↔ fin c x y := by
  unfold fin
  rw [h 0 (by omega) (by omega), h 1 (by omega) (by omega), h 2 (by omega) (by omega), h 3 (by omega) (by omega)]
theorem fGen_c4 {dif : Int → Int → Prop} {r : Int} {b c : Int → Int} (h : ∀ k, 0 ≤ k → k < 4 → b k = c k) (hc : fGen dif r c) : fGen dif r b := by
  unfold fGen fwf fsub at *
  rw [h 0 (by omega) (by omega), h 1 (by omega) (by omega), h 2 (by omega) (by omega), h 3 (by omega) (by omega)]
  exact hc
theorem mm1_r {f : Int → Int} (h : ∀ j, inR (f j)) (b n k : Int) : ∀ j, inR (mm1 f b n k j) := gu_r h (h _)
theorem ms1_r {f : Int → Int} (h : ∀ j, inR (f j)) (i k j : Int) : ∀ q, inR (ms1 f i k j q) := gu_r (gu_r h (h _)) (h _)
theorem mFm_st {W H : Nat} {ne : Int} {df : Int → Int} : ∀ (nb : Int) (bo : Int → Int) (a b : Int), mFm W H ne df nb bo → 0 ≤ a → a < b → b < nb → fsh (mrw bo a) (mrw bo b) → mFm W H ne df (nb - 1) (mmv (mgw bo a (bo (4 * b)) (bo (4 * b + 1)) (bo (4 * b + 2)) (bo (4 * b + 3))) b (nb - 1)) := by
  intro nb bo a b ⟨⟨h1, h1r⟩, h2, h3, h4⟩ a0 ab b1 hs
  obtain ⟨g0, g1, g2, g3, g4⟩ := mgw_at bo a (bo (4 * b)) (bo (4 * b + 1)) (bo (4 * b + 2)) (bo (4 * b + 3))
  generalize hG : mgw bo a (bo (4 * b)) (bo (4 * b + 1)) (bo (4 * b + 2)) (bo (4 * b + 3)) = G9 at g0 g1 g2 g3 g4 ⊢
  have hGr : ∀ j, inR (G9 j) := by
    rw [← hG]
    exact mgw_r h1r (h1r _) (h1r _) (h1r _) (h1r _)
  -- rows of the new array
  have ra : ∀ k, 0 ≤ k → k < 4 → mrw (mmv G9 b (nb - 1)) a k = mrw G9 a k := fun k k0 k1 => by rw [mmv_row G9 a k k0 k1, if_neg (by omega)]
  have rb : ∀ k, 0 ≤ k → k < 4 → b ≠ nb - 1 → mrw (mmv G9 b (nb - 1)) b k = mrw bo (nb - 1) k := fun k k0 k1 hne => by
    rw [mmv_row G9 b k k0 k1, if_pos rfl]
    unfold mrw
    exact g4 _ (by omega)
  have ro : ∀ i, i ≠ a → i ≠ b → ∀ k, 0 ≤ k → k < 4 → mrw (mmv G9 b (nb - 1)) i k = mrw bo i k := fun i ia ib k k0 k1 => by
    rw [mmv_row G9 i k k0 k1, if_neg ib]
    unfold mrw
    exact g4 _ (by omega)
  have z : ∀ i : Int, mrw bo i 0 = bo (4 * i) := fun i => by unfold mrw; rw [Int.add_zero]
  have e1 : ∀ i : Int, mrw bo i 1 = bo (4 * i + 1) := fun i => rfl
  have e2 : ∀ i : Int, mrw bo i 2 = bo (4 * i + 2) := fun i => rfl
  have e3 : ∀ i : Int, mrw bo i 3 = bo (4 * i + 3) := fun i => rfl
  rw [← z a, ← z b] at g0
  rw [← e1 a, ← e1 b] at g1
  rw [← e2 a, ← e2 b] at g2
  rw [← e3 a, ← e3 b] at g3
  have hgen : fGen (mdd W H df) (ne + 1) (mrw G9 a) := fGen_join (h2 a a0 (by omega)) (h2 b (by omega) b1) hs (by rw [g0]; omega) (by rw [g1]; omega) (by rw [g2]; omega) (by rw [g3]; omega)
  refine ⟨⟨by omega, mm1_r (mm1_r (mm1_r (mm1_r hGr _ _ _) _ _ _) _ _ _) _ _ _⟩, fun i i0 i1 => ?_, fun i i0 i1 => ?_, fun x y u v hadj => ?_⟩
  · by_cases ia : i = a
    · subst ia
      exact fGen_c4 ra hgen
    · by_cases ib : i = b
      · subst ib
        exact fGen_c4 (fun k k0 k1 => rb k k0 k1 (by omega)) (h2 (nb - 1) (by omega) (by omega))
      · exact fGen_c4 (ro i ia ib) (h2 i i0 (by omega))
  · by_cases ia : i = a
    · subst ia
      rw [ra 0 (by omega) (by omega), ra 1 (by omega) (by omega), ra 2 (by omega) (by omega), ra 3 (by omega) (by omega), g0, g1, g2, g3]
      have := h3 i i0 (by omega)
      have := h3 b (by omega) b1
      omega
    · by_cases ib : i = b
      · subst ib
        rw [rb 0 (by omega) (by omega) (by omega), rb 1 (by omega) (by omega) (by omega), rb 2 (by omega) (by omega) (by omega), rb 3 (by omega) (by omega) (by omega)]
        exact h3 (nb - 1) (by omega) (by omega)
      · rw [ro i ia ib 0 (by omega) (by omega), ro i ia ib 1 (by omega) (by omega), ro i ia ib 2 (by omega) (by omega), ro i ia ib 3 (by omega) (by omega)]
        exact h3 i i0 (by omega)
  · obtain ⟨i, i0, i1, f1, f2⟩ := h4 x y u v hadj
    by_cases iab : i = a ∨ i = b
    · refine ⟨a, a0, by omega, (fin_c4 ra).mpr ?_, (fin_c4 ra).mpr ?_⟩
      · rcases iab with rfl | rfl <;> unfold fin at * <;> omega
      · rcases iab with rfl | rfl <;> unfold fin at * <;> omega
    · by_cases il : i = nb - 1
      · subst il
        exact ⟨b, by omega, by omega, (fin_c4 (fun k k0 k1 => rb k k0 k1 (by omega))).mpr f1, (fin_c4 (fun k k0 k1 => rb k k0 k1 (by omega))).mpr f2⟩
      · exact ⟨i, i0, by omega, (fin_c4 (ro i (by omega) (by omega))).mpr f1, (fin_c4 (ro i (by omega) (by omega))).mpr f2⟩
/-- the boxes, in any order -/
def mEn (W H : Nat) (ne : Int) (df : Int → Int) (nb : Int) (bo : Int → Int) : Prop := fClo (mdd W H df) (ne + 1) nb (mrw bo) ∧ (∀ i, 0 ≤ i → i < nb → fGen (mdd W H df) (ne + 1) (mrw bo i)) ∧ (∀ i, 0 ≤ i → i < nb → (0 ≤ mrw bo i 0 ∧ mrw bo i 2 < W) ∧ 0 ≤ mrw bo i 1 ∧ mrw bo i 3 < H) ∧ ∀ j : Int, inR (bo j)
theorem mEn_of {W H : Nat} {ne : Int} {df : Int → Int} {nb : Int} {bo : Int → Int} (h : mFm W H ne df nb bo) (hn : ∀ a b : Int, 0 ≤ a → a < b → b < nb → True → ¬ fsh (mrw bo a) (mrw bo b)) : mEn W H ne df nb bo := by
  obtain ⟨h1, h2, h3, h4⟩ := h
  refine ⟨⟨fun i i0 i1 => (h2 i i0 i1).1, fun i j i0 i1 j0 j1 hs => ?_, h4⟩, h2, h3, h1.2⟩
  apply Classical.byContradiction
  intro hne
  by_cases hl : i < j
  · exact hn i j i0 hl j1 trivial hs
  · exact hn j i j0 (by omega) i1 trivial (by unfold fsh at *; omega)
theorem mEn_st {W H : Nat} {ne : Int} {df : Int → Int} {nb : Int} : ∀ (bo : Int → Int) (i k : Int), mEn W H ne df nb bo → 0 ≤ i → i < nb → 0 ≤ k → k < nb → i ≠ k → mEn W H ne df nb (msw bo i k) := by
  intro bo i k ⟨⟨h1, h2, h3⟩, h4, h5, h6⟩ i0 i1 k0 k1 hne
  have R : ∀ a j, 0 ≤ j → j < 4 → mrw (msw bo i k) a j = mrw bo (if a = i then k else if a = k then i else a) j := fun a j j0 j1 => msw_row bo hne a j j0 j1
  have sg : ∀ a, 0 ≤ a → a < nb → 0 ≤ (if a = i then k else if a = k then i else a) ∧ (if a = i then k else if a = k then i else a) < nb := fun a a0 a1 => by
    split
    · omega
    · split <;> omega
  have inv : ∀ a, (if (if a = i then k else if a = k then i else a) = i then k else if (if a = i then k else if a = k then i else a) = k then i else (if a = i then k else if a = k then i else a)) = a := fun a => by
    split <;> split <;> (try split) <;> (try split) <;> omega
  have hgen : ∀ a, 0 ≤ a → a < nb → fGen (mdd W H df) (ne + 1) (mrw (msw bo i k) a) := fun a a0 a1 => fGen_c4 (R a) (h4 _ (sg a a0 a1).1 (sg a a0 a1).2)
  refine ⟨⟨fun a a0 a1 => (hgen a a0 a1).1, fun a b a0 a1 b0 b1 hs => ?_, fun x y u v ha => ?_⟩, hgen, fun a a0 a1 => ?_, ms1_r (ms1_r (ms1_r (ms1_r h6 _ _ _) _ _ _) _ _ _) _ _ _⟩
  · have := h2 _ _ (sg a a0 a1).1 (sg a a0 a1).2 (sg b b0 b1).1 (sg b b0 b1).2 (by
      unfold fsh at *
      rw [R a 0 (by omega) (by omega), R a 1 (by omega) (by omega), R a 2 (by omega) (by omega), R a 3 (by omega) (by omega), R b 0 (by omega) (by omega), R b 1 (by omega) (by omega), R b 2 (by omega) (by omega), R b 3 (by omega) (by omega)] at hs
      exact hs)
    have e1 := inv a
    have e2 := inv b
    rw [this] at e1
    omega
  · obtain ⟨a, a0, a1, f1, f2⟩ := h3 x y u v ha
    refine ⟨_, (sg a a0 a1).1, (sg a a0 a1).2, (fin_c4 (R _)).mpr ?_, (fin_c4 (R _)).mpr ?_⟩
    · rw [inv a]; exact f1
    · rw [inv a]; exact f2
  · rw [R a 0 (by omega) (by omega), R a 1 (by omega) (by omega), R a 2 (by omega) (by omega), R a 3 (by omega) (by omega)]
    exact h5 _ (sg a a0 a1).1 (sg a a0 a1).2
/-- which places differ, as the model's array has it -/
noncomputable def mds (W H : Nat) (ne fa : Int) (pt : Int → Int) : Int → Int := fun q => gb ((q % 32 < W ∧ q / 32 < H) ∧ ¬ (mMt W H ne fa pt 0 (q % 32) (q / 32) ∧ mMt W H ne fa pt 1 (q % 32) (q / 32)))
def mVal (W H : Nat) (ne fa : Int) (pt : Int → Int) (mn nb : Int) (bo df : Int → Int) : Prop := mn = gsm (mds W H ne fa pt) 1024 ∧ (∀ q, 0 ≤ q → q < 1024 → df q = mds W H ne fa pt q) ∧ (0 ≤ nb ∧ nb ≤ 1024) ∧ mEn W H ne df nb bo ∧ fsrt nb (mrw bo)
set_option maxHeartbeats 4000000 in
set_option maxRecDepth 100000 in
theorem c_X8_look (l : Launch) (D : va_G) (cA : Nat → ClassId) (W : Nat) (H : Nat) (mth : Int) (mbd : Int) (mne : Int) (mnw : Int) (mmn : Int) (mbx : Int) (man : Int) (mrs : Int) (mrl : Int) (mfl : Int) (mpt : Int → Int) (mdf : Int → Int) (mlb : Int → Int) (mbo : Int → Int) (mwn : Int → Int) (mwo : Int → Int) (mxo : Int → Int) (myo : Int → Int) (mor : Int → Int) (mco : Int → Int) (mro : Int → Int) (mpw : Int → Int) (mph : Int → Int) (mrk : Int → Int) (mrb : Int → Int) (mrf : Int → Int) (mfr : Int → Int) (mfm : Int → Int) (med : Int → Int) (map : Int → Int) (mwh : Int → Int) (hW : W ≤ 32) (hH : H ≤ 32) (hne : 0 ≤ mne ∧ mne ≤ 2) (hbd : 0 ≤ mbd ∧ mbd ≤ 255) (hpt : ∀ q : Int, 0 ≤ mpt q ∧ mpt q ≤ 255) (hdf : ∀ q : Int, mdf q = 0 ∨ mdf q = 1) (hlb : ∀ q : Int, 0 ≤ mlb q ∧ mlb q ≤ 1023) (hbo : ∀ q : Int, inR (mbo q)) (hnw : mnw = 0 ∨ mnw = 1) (hval : mnw = 0 → mVal W H mne mbd mpt mmn mbx mbo mdf) :
    gC l D cA yX8_look mX8_look none 0 0 [gr 60] (moW W H mth mbd mne mnw mmn mbx man mrs mrl mfl mpt mdf mlb mbo mwn mwo mxo myo mor mco mro mpw mph mrk mrb mrf mfr mfm med map mwh) (fun r9 w9 => ∃ (df2 : Int → Int) (lb2 : Int → Int) (mn2 : Int) (bx2 : Int) (bo2 : Int → Int), r9 = none ∧ w9 = moW W H mth mbd mne 0 mn2 bx2 man mrs mrl mfl mpt df2 lb2 bo2 mwn mwo mxo myo mor mco mro mpw mph mrk mrb mrf mfr mfm med map mwh ∧ (mVal W H mne mbd mpt mn2 bx2 bo2 df2) ∧ (∀ q : Int, df2 q = 0 ∨ df2 q = 1) ∧ (∀ q : Int, 0 ≤ lb2 q ∧ lb2 q ≤ 1023) ∧ (∀ q : Int, inR (bo2 q))) := by
  refine gC_of rfl kX8_look rfl rfl (Nat.le_of_ble_eq_true rfl) (fun X ad hX hE => ?_)
  refine G.go hX 2 (moW W H mth mbd mne mnw mmn mbx man mrs mrl mfl mpt mdf mlb mbo mwn mwo mxo myo mor mco mro mpw mph mrk mrb mrf mfr mfm med map mwh, 4, [(0, gr 60)], [gi mnw]) rfl trivial ?_
  refine g_if_ne hX 8 rfl rfl ⟨by omega, by omega⟩ (fun b4 => ?_) (fun b4 => ?_)
  ·
    refine G.go hX 8 (moW W H mth mbd mne 0 0 mbx man mrs mrl mfl mpt mdf mlb mbo mwn mwo mxo myo mor mco mro mpw mph mrk mrb mrf mfr mfm med map mwh, 20, [(0, gr 60), (1, gi 0)], []) rfl ?_ ?_
    · refine ⟨?_, trivial⟩
      · omega
    have lp20 : ∀ (n : Nat) (q : Int) (df1 : Int → Int) (lb1 : Int → Int) (mn1 : Int), (0 ≤ q ∧ q ≤ 1024) → (∀ j, 0 ≤ j → j < q → df1 j = mds W H mne mbd mpt j) → (∀ j : Int, df1 j = 0 ∨ df1 j = 1) → (∀ j, 0 ≤ j → j < q → lb1 j = j) → (∀ j : Int, 0 ≤ lb1 j ∧ lb1 j ≤ 1023) → (mn1 = gsm (mds W H mne mbd mpt) q.toNat) → (1024 - q).toNat < n → G X mX8_look ad 0 0 (moW W H mth mbd mne 0 mn1 mbx man mrs mrl mfl mpt df1 lb1 mbo mwn mwo mxo myo mor mco mro mpw mph mrk mrb mrf mfr mfm med map mwh, 20, [(0, gr 60), (1, gi q)], []) := by
      intro n
      induction n with
      | zero => intro q df1 lb1 mn1 hq hd1 hdb1 hl1 hlb1 hn1 hm9; exact absurd hm9 (Nat.not_lt_zero _)
      | succ n ih20 =>
        intro q df1 lb1 mn1 hq hd1 hdb1 hl1 hlb1 hn1 hm20
        refine G.go hX 2 (moW W H mth mbd mne 0 mn1 mbx man mrs mrl mfl mpt df1 lb1 mbo mwn mwo mxo myo mor mco mro mpw mph mrk mrb mrf mfr mfm med map mwh, 24, [(0, gr 60), (1, gi q)], [gi 1024, gi q]) rfl trivial ?_
        refine g_icmp_ge hX 141 rfl rfl ⟨by omega, by omega⟩ ⟨by omega, by omega⟩ (fun b24 => ?_) (fun b24 => ?_)
        ·
          have hq9 : q = 1024 := by omega
          have hdr : mdr W H df1 := by
            intro j j0 j1 hj
            rw [hd1 j j0 (by omega)] at hj
            exact (gb_1.mp hj).1
          have hL1 : mLI W H mne df1 lb1 := mLI_0 hW hlb1 hH (fun j a b => hl1 j a (by omega))
          refine G.go hX 1 (moW W H mth mbd mne 0 mn1 mbx man mrs mrl mfl mpt df1 lb1 mbo mwn mwo mxo myo mor mco mro mpw mph mrk mrb mrf mfr mfm med map mwh, 142, [(0, gr 60), (1, gi q)], [gr 60]) rfl trivial ?_
          refine G.callV (av := []) (o := 60) (st := []) hX rfl (fun l D cA => c_X8_spread l D cA W H mth mbd mne 0 mn1 mbx man mrs mrl mfl mpt df1 lb1 mbo mwn mwo mxo myo mor mco mro mpw mph mrk mrb mrf mfr mfm med map mwh (mLI W H mne df1) (by first | assumption | omega) (by first | assumption | omega) (by first | assumption | omega) hdb1 (mLI_st hW) (fun _ h => h.1) hL1) (by decide +kernel) aX8_spread rfl rfl rfl ⟨rfl, rfl⟩ (by decide) (Nat.le_of_ble_eq_true rfl) [0, 1, 2, 3, 4, 5, 6, 7, 8, 9, 10, 11, 12, 13, 14, 15, 16, 17, 18, 19, 20, 21] [] [] rfl rfl rfl (fun r w' hp => ?_)
          obtain ⟨lb5, rfl, rfl, hL5, hfx5⟩ := hp
          show G X mX8_look ad 0 0 (moW W H mth mbd mne 0 mn1 mbx man mrs mrl mfl mpt df1 lb5 mbo mwn mwo mxo myo mor mco mro mpw mph mrk mrb mrf mfr mfm med map mwh, 145, [(0, gr 60), (1, gi q)], [])
          have hlx := hL5.1
          refine G.go hX 1 (moW W H mth mbd mne 0 mn1 mbx man mrs mrl mfl mpt df1 lb5 mbo mwn mwo mxo myo mor mco mro mpw mph mrk mrb mrf mfr mfm med map mwh, 146, [(0, gr 60), (1, gi q)], [gr 60]) rfl trivial ?_
          refine G.callV (av := []) (o := 60) (st := []) hX rfl (fun l D cA => c_X8_makeBoxes l D cA W H mth mbd mne 0 mn1 mbx man mrs mrl mfl mpt df1 lb5 mbo mwn mwo mxo myo mor mco mro mpw mph mrk mrb mrf mfr mfm med map mwh hdb1 (fun j => ⟨by have := hlx j; omega, by have := hlx j; omega⟩) hbo) (by decide +kernel) aX8_makeBoxes rfl rfl rfl ⟨rfl, rfl⟩ (by decide) (Nat.le_of_ble_eq_true rfl) [0, 1, 2, 3, 4, 5, 6, 7, 8, 9, 10, 11, 12, 13, 14, 15, 16, 17, 18, 19, 20, 21] [] [] rfl rfl rfl (fun r w' hp => ?_)
          obtain ⟨bx6, bo6, rfl, rfl, hmk⟩ := hp
          show G X mX8_look ad 0 0 (moW W H mth mbd mne 0 mn1 bx6 man mrs mrl mfl mpt df1 lb5 bo6 mwn mwo mxo myo mor mco mro mpw mph mrk mrb mrf mfr mfm med map mwh, 149, [(0, gr 60), (1, gi q)], [])
          have hFm := mFm_of hW hH hne.1 hdr hL5 hfx5 hmk
          refine G.go hX 1 (moW W H mth mbd mne 0 mn1 bx6 man mrs mrl mfl mpt df1 lb5 bo6 mwn mwo mxo myo mor mco mro mpw mph mrk mrb mrf mfr mfm med map mwh, 150, [(0, gr 60), (1, gi q)], [gr 60]) rfl trivial ?_
          refine G.callV (av := []) (o := 60) (st := []) hX rfl (fun l D cA => c_X8_joinBoxes l D cA W H mth mbd mne 0 mn1 bx6 man mrs mrl mfl mpt df1 lb5 bo6 mwn mwo mxo myo mor mco mro mpw mph mrk mrb mrf mfr mfm med map mwh (mFm W H mne df1) mFm_st (fun _ _ h => h.1) hFm) (by decide +kernel) aX8_joinBoxes rfl rfl rfl ⟨rfl, rfl⟩ (by decide) (Nat.le_of_ble_eq_true rfl) [0, 1, 2, 3, 4, 5, 6, 7, 8, 9, 10, 11, 12, 13, 14, 15, 16, 17, 18, 19, 20, 21] [] [] rfl rfl rfl (fun r w' hp => ?_)
          obtain ⟨bx7, bo7, rfl, rfl, hF7, hns7⟩ := hp
          show G X mX8_look ad 0 0 (moW W H mth mbd mne 0 mn1 bx7 man mrs mrl mfl mpt df1 lb5 bo7 mwn mwo mxo myo mor mco mro mpw mph mrk mrb mrf mfr mfm med map mwh, 153, [(0, gr 60), (1, gi q)], [])
          have hEn := mEn_of hF7 hns7
          refine G.go hX 1 (moW W H mth mbd mne 0 mn1 bx7 man mrs mrl mfl mpt df1 lb5 bo7 mwn mwo mxo myo mor mco mro mpw mph mrk mrb mrf mfr mfm med map mwh, 154, [(0, gr 60), (1, gi q)], [gr 60]) rfl trivial ?_
          refine G.callV (av := []) (o := 60) (st := []) hX rfl (fun l D cA => c_X8_sortBoxes l D cA W H mth mbd mne 0 mn1 bx7 man mrs mrl mfl mpt df1 lb5 bo7 mwn mwo mxo myo mor mco mro mpw mph mrk mrb mrf mfr mfm med map mwh (mEn W H mne df1 bx7) hF7.1.1 mEn_st (fun bo h i i0 i1 => by (have h8 := h.2.2.1 i i0 i1; have h7 := h.1.1 i i0 i1; unfold fwf mrw at *; simp only [Int.add_zero] at *; omega)) hEn) (by decide +kernel) aX8_sortBoxes rfl rfl rfl ⟨rfl, rfl⟩ (by decide) (Nat.le_of_ble_eq_true rfl) [0, 1, 2, 3, 4, 5, 6, 7, 8, 9, 10, 11, 12, 13, 14, 15, 16, 17, 18, 19, 20, 21] [] [] rfl rfl rfl (fun r w' hp => ?_)
          obtain ⟨bo8, rfl, rfl, hE8, hs8⟩ := hp
          show G X mX8_look ad 0 0 (moW W H mth mbd mne 0 mn1 bx7 man mrs mrl mfl mpt df1 lb5 bo8 mwn mwo mxo myo mor mco mro mpw mph mrk mrb mrf mfr mfm med map mwh, 157, [(0, gr 60), (1, gi q)], [])
          exact g_vret hX hE rfl ⟨df1, lb5, mn1, bx7, bo8, rfl, rfl, ⟨by rw [hn1, hq9]; rfl, fun j a b => hd1 j a (by omega), hF7.1.1, hE8, fsrt_of hE8.1 hs8⟩, hdb1, hlx, hE8.2.2.2⟩
        ·
          have hqr : 0 ≤ q % 32 ∧ q % 32 < 32 ∧ 0 ≤ q / 32 ∧ q / 32 < 32 := by omega
          have hs01 : mds W H mne mbd mpt q = 0 ∨ mds W H mne mbd mpt q = 1 := gb_01 _
          refine G.go hX 5 (moW W H mth mbd mne 0 mn1 mbx man mrs mrl mfl mpt df1 lb1 mbo mwn mwo mxo myo mor mco mro mpw mph mrk mrb mrf mfr mfm med map mwh, 35, [(0, gr 60), (1, gi q)], [gi W, gi (q % 32)]) rfl ?_ ?_
          · refine ⟨?_, trivial⟩
            · omega
          have jn54 : G X mX8_look ad 0 0 (moW W H mth mbd mne 0 mn1 mbx man mrs mrl mfl mpt df1 lb1 mbo mwn mwo mxo myo mor mco mro mpw mph mrk mrb mrf mfr mfm med map mwh, 54, [(0, gr 60), (1, gi q)], [gi (gb (q % 32 < W ∧ q / 32 < H))]) := by
            refine G.go hX 5 (moW W H mth mbd mne 0 mn1 mbx man mrs mrl mfl mpt df1 lb1 mbo mwn mwo mxo myo mor mco mro mpw mph mrk mrb mrf mfr mfm med map mwh, 61, [(0, gr 60), (1, gi q), (2, gi (gb (q % 32 < W ∧ q / 32 < H)))], [gi (gb (q % 32 < W ∧ q / 32 < H)), gi q, gr 62]) rfl trivial ?_
            have jn101 : G X mX8_look ad 0 0 (moW W H mth mbd mne 0 mn1 mbx man mrs mrl mfl mpt df1 lb1 mbo mwn mwo mxo myo mor mco mro mpw mph mrk mrb mrf mfr mfm med map mwh, 101, [(0, gr 60), (1, gi q), (2, gi (gb (q % 32 < W ∧ q / 32 < H)))], [gi (mds W H mne mbd mpt q), gi q, gr 62]) := by
              refine G.go hX 6 (moW W H mth mbd mne 0 mn1 mbx man mrs mrl mfl mpt (gu df1 q (mds W H mne mbd mpt q)) lb1 mbo mwn mwo mxo myo mor mco mro mpw mph mrk mrb mrf mfr mfm med map mwh, 109, [(0, gr 60), (1, gi q), (2, gi (gb (q % 32 < W ∧ q / 32 < H)))], [gi ((gu df1 q (mds W H mne mbd mpt q)) q), gr 60]) rfl ?_ ?_
              · refine ⟨?_, ?_, trivial⟩
                · exact ⟨by omega, gb_01 _⟩
                · omega
              have jn125 : G X mX8_look ad 0 0 (moW W H mth mbd mne 0 mn1 mbx man mrs mrl mfl mpt (gu df1 q (mds W H mne mbd mpt q)) lb1 mbo mwn mwo mxo myo mor mco mro mpw mph mrk mrb mrf mfr mfm med map mwh, 125, [(0, gr 60), (1, gi q), (2, gi (gb (q % 32 < W ∧ q / 32 < H)))], [gi (mn1 + mds W H mne mbd mpt q), gr 60]) := by
                refine G.go hX 8 (moW W H mth mbd mne 0 (mn1 + mds W H mne mbd mpt q) mbx man mrs mrl mfl mpt (gu df1 q (mds W H mne mbd mpt q)) (gu lb1 q q) mbo mwn mwo mxo myo mor mco mro mpw mph mrk mrb mrf mfr mfm med map mwh, 20, [(0, gr 60), (1, gi (q + 1)), (2, gi (gb (q % 32 < W ∧ q / 32 < H)))], []) rfl ?_ ?_
                · refine ⟨?_, trivial⟩
                  · omega
                refine G.locs [(0, gr 60), (1, gi (q + 1))] [0, 1] rfl ?_
                exact ih20 (q + 1) (gu df1 q (mds W H mne mbd mpt q)) (gu lb1 q q) (mn1 + mds W H mne mbd mpt q) (by omega) (by intro j h1 h2; by_cases e9 : j = q; (rw [e9, gu_s]); (rw [gu_n _ _ e9]; exact hd1 j h1 (by omega))) (by intro j; by_cases e9 : j = q; (rw [e9, gu_s]; exact gb_01 _); (rw [gu_n _ _ e9]; exact hdb1 j)) (by intro j h1 h2; by_cases e9 : j = q; (rw [e9, gu_s]); (rw [gu_n _ _ e9]; exact hl1 j h1 (by omega))) (by intro j; by_cases e9 : j = q; (rw [e9, gu_s]; omega); (rw [gu_n _ _ e9]; exact hlb1 j)) (by exact gsm_next (mds W H mne mbd mpt) hq.1 hn1) (by omega)
              refine g_if_eq hX 121 rfl rfl (by rw [gu_s]; exact gb_r _) (fun b109 => ?_) (fun b109 => ?_)
              ·
                refine G.go hX 2 (moW W H mth mbd mne 0 mn1 mbx man mrs mrl mfl mpt (gu df1 q (mds W H mne mbd mpt q)) lb1 mbo mwn mwo mxo myo mor mco mro mpw mph mrk mrb mrf mfr mfm med map mwh, 125, [(0, gr 60), (1, gi q), (2, gi (gb (q % 32 < W ∧ q / 32 < H)))], [gi mn1, gr 60]) rfl trivial ?_
                refine G.eq (S' := (moW W H mth mbd mne 0 mn1 mbx man mrs mrl mfl mpt (gu df1 q (mds W H mne mbd mpt q)) lb1 mbo mwn mwo mxo myo mor mco mro mpw mph mrk mrb mrf mfr mfm med map mwh, 125, [(0, gr 60), (1, gi q), (2, gi (gb (q % 32 < W ∧ q / 32 < H)))], [gi (mn1 + mds W H mne mbd mpt q), gr 60])) ?_ jn125
                rw [gu_s] at b109; rw [b109, Int.add_zero]
              ·
                refine G.go hX 5 (moW W H mth mbd mne 0 mn1 mbx man mrs mrl mfl mpt (gu df1 q (mds W H mne mbd mpt q)) lb1 mbo mwn mwo mxo myo mor mco mro mpw mph mrk mrb mrf mfr mfm med map mwh, 125, [(0, gr 60), (1, gi q), (2, gi (gb (q % 32 < W ∧ q / 32 < H)))], [gi (mn1 + 1), gr 60]) rfl trivial ?_
                refine G.eq (S' := (moW W H mth mbd mne 0 mn1 mbx man mrs mrl mfl mpt (gu df1 q (mds W H mne mbd mpt q)) lb1 mbo mwn mwo mxo myo mor mco mro mpw mph mrk mrb mrf mfr mfm med map mwh, 125, [(0, gr 60), (1, gi q), (2, gi (gb (q % 32 < W ∧ q / 32 < H)))], [gi (mn1 + mds W H mne mbd mpt q), gr 60])) ?_ jn125
                rw [gu_s] at b109; rw [show mds W H mne mbd mpt q = 1 by (rcases hs01 with h9 | h9; exact absurd h9 b109; exact h9)]
            refine g_if_eq hX 100 rfl rfl (gb_r _) (fun b61 => ?_) (fun b61 => ?_)
            ·
              have b61 := gb_0.mp b61
              refine G.go hX 1 (moW W H mth mbd mne 0 mn1 mbx man mrs mrl mfl mpt df1 lb1 mbo mwn mwo mxo myo mor mco mro mpw mph mrk mrb mrf mfr mfm med map mwh, 101, [(0, gr 60), (1, gi q), (2, gi (gb (q % 32 < W ∧ q / 32 < H)))], [gi 0, gi q, gr 62]) rfl trivial ?_
              refine G.eq (S' := (moW W H mth mbd mne 0 mn1 mbx man mrs mrl mfl mpt df1 lb1 mbo mwn mwo mxo myo mor mco mro mpw mph mrk mrb mrf mfr mfm med map mwh, 101, [(0, gr 60), (1, gi q), (2, gi (gb (q % 32 < W ∧ q / 32 < H)))], [gi (mds W H mne mbd mpt q), gi q, gr 62])) ?_ jn101
              rw [show mds W H mne mbd mpt q = 0 from gb_f (fun h9 => b61 h9.1)]
            ·
              have b61 := gb_n0 b61
              refine G.go hX 8 (moW W H mth mbd mne 0 mn1 mbx man mrs mrl mfl mpt df1 lb1 mbo mwn mwo mxo myo mor mco mro mpw mph mrk mrb mrf mfr mfm med map mwh, 74, [(0, gr 60), (1, gi q), (2, gi (gb (q % 32 < W ∧ q / 32 < H)))], [gi (q / 32), gi (q % 32), gi 0, gr 60, gi q, gr 62]) rfl ?_ ?_
              · refine ⟨?_, ?_, trivial⟩
                · omega
                · omega
              refine G.callV (av := [gi 0, gi (q % 32), gi (q / 32)]) (o := 60) (st := [gi q, gr 62]) hX rfl (fun l D cA => c_X8_isMet l D cA W H mth mbd mne 0 mn1 mbx man mrs mrl mfl mpt df1 lb1 mbo mwn mwo mxo myo mor mco mro mpw mph mrk mrb mrf mfr mfm med map mwh 0 (q % 32) (q / 32) (by first | assumption | omega) (by first | assumption | omega) (by first | assumption | omega) (by first | assumption | omega) (by first | assumption | omega) ⟨by omega, by omega⟩ ⟨by omega, by omega⟩ ⟨by omega, by omega⟩) (by decide +kernel) aX8_isMet rfl rfl rfl ⟨rfl, rfl⟩ (by decide) (Nat.le_of_ble_eq_true rfl) [0, 1, 2, 3, 4, 5, 6, 7, 8, 9, 10, 11, 12, 13, 14, 15, 16, 17, 18, 19, 20, 21] [] [] rfl rfl rfl (fun r w' hp => ?_)
              obtain ⟨rfl, rfl⟩ := hp
              show G X mX8_look ad 0 0 (moW W H mth mbd mne 0 mn1 mbx man mrs mrl mfl mpt df1 lb1 mbo mwn mwo mxo myo mor mco mro mpw mph mrk mrb mrf mfr mfm med map mwh, 77, [(0, gr 60), (1, gi q), (2, gi (gb (q % 32 < W ∧ q / 32 < H)))], [gi (gb (mMt W H mne mbd mpt 0 (q % 32) (q / 32))), gi q, gr 62])
              refine g_if_eq hX 96 rfl rfl (gb_r _) (fun b77 => ?_) (fun b77 => ?_)
              ·
                have b77 := gb_0.mp b77
                refine G.go hX 2 (moW W H mth mbd mne 0 mn1 mbx man mrs mrl mfl mpt df1 lb1 mbo mwn mwo mxo myo mor mco mro mpw mph mrk mrb mrf mfr mfm med map mwh, 101, [(0, gr 60), (1, gi q), (2, gi (gb (q % 32 < W ∧ q / 32 < H)))], [gi 1, gi q, gr 62]) rfl trivial ?_
                refine G.eq (S' := (moW W H mth mbd mne 0 mn1 mbx man mrs mrl mfl mpt df1 lb1 mbo mwn mwo mxo myo mor mco mro mpw mph mrk mrb mrf mfr mfm med map mwh, 101, [(0, gr 60), (1, gi q), (2, gi (gb (q % 32 < W ∧ q / 32 < H)))], [gi (mds W H mne mbd mpt q), gi q, gr 62])) ?_ jn101
                rw [show mds W H mne mbd mpt q = 1 from gb_t ⟨b61, fun h9 => b77 h9.1⟩]
              ·
                have b77 := gb_n0 b77
                refine G.go hX 8 (moW W H mth mbd mne 0 mn1 mbx man mrs mrl mfl mpt df1 lb1 mbo mwn mwo mxo myo mor mco mro mpw mph mrk mrb mrf mfr mfm med map mwh, 90, [(0, gr 60), (1, gi q), (2, gi (gb (q % 32 < W ∧ q / 32 < H)))], [gi (q / 32), gi (q % 32), gi 1, gr 60, gi q, gr 62]) rfl ?_ ?_
                · refine ⟨?_, ?_, trivial⟩
                  · omega
                  · omega
                refine G.callV (av := [gi 1, gi (q % 32), gi (q / 32)]) (o := 60) (st := [gi q, gr 62]) hX rfl (fun l D cA => c_X8_isMet l D cA W H mth mbd mne 0 mn1 mbx man mrs mrl mfl mpt df1 lb1 mbo mwn mwo mxo myo mor mco mro mpw mph mrk mrb mrf mfr mfm med map mwh 1 (q % 32) (q / 32) (by first | assumption | omega) (by first | assumption | omega) (by first | assumption | omega) (by first | assumption | omega) (by first | assumption | omega) ⟨by omega, by omega⟩ ⟨by omega, by omega⟩ ⟨by omega, by omega⟩) (by decide +kernel) aX8_isMet rfl rfl rfl ⟨rfl, rfl⟩ (by decide) (Nat.le_of_ble_eq_true rfl) [0, 1, 2, 3, 4, 5, 6, 7, 8, 9, 10, 11, 12, 13, 14, 15, 16, 17, 18, 19, 20, 21] [] [] rfl rfl rfl (fun r w' hp => ?_)
                obtain ⟨rfl, rfl⟩ := hp
                show G X mX8_look ad 0 0 (moW W H mth mbd mne 0 mn1 mbx man mrs mrl mfl mpt df1 lb1 mbo mwn mwo mxo myo mor mco mro mpw mph mrk mrb mrf mfr mfm med map mwh, 93, [(0, gr 60), (1, gi q), (2, gi (gb (q % 32 < W ∧ q / 32 < H)))], [gi (gb (mMt W H mne mbd mpt 1 (q % 32) (q / 32))), gi q, gr 62])
                refine g_if_ne hX 100 rfl rfl (gb_r _) (fun b93 => ?_) (fun b93 => ?_)
                ·
                  have b93 := gb_n0 b93
                  refine G.go hX 1 (moW W H mth mbd mne 0 mn1 mbx man mrs mrl mfl mpt df1 lb1 mbo mwn mwo mxo myo mor mco mro mpw mph mrk mrb mrf mfr mfm med map mwh, 101, [(0, gr 60), (1, gi q), (2, gi (gb (q % 32 < W ∧ q / 32 < H)))], [gi 0, gi q, gr 62]) rfl trivial ?_
                  refine G.eq (S' := (moW W H mth mbd mne 0 mn1 mbx man mrs mrl mfl mpt df1 lb1 mbo mwn mwo mxo myo mor mco mro mpw mph mrk mrb mrf mfr mfm med map mwh, 101, [(0, gr 60), (1, gi q), (2, gi (gb (q % 32 < W ∧ q / 32 < H)))], [gi (mds W H mne mbd mpt q), gi q, gr 62])) ?_ jn101
                  rw [show mds W H mne mbd mpt q = 0 from gb_f (fun h9 => h9.2 ⟨b77, b93⟩)]
                ·
                  have b93 := gb_nn b93
                  refine G.go hX 2 (moW W H mth mbd mne 0 mn1 mbx man mrs mrl mfl mpt df1 lb1 mbo mwn mwo mxo myo mor mco mro mpw mph mrk mrb mrf mfr mfm med map mwh, 101, [(0, gr 60), (1, gi q), (2, gi (gb (q % 32 < W ∧ q / 32 < H)))], [gi 1, gi q, gr 62]) rfl trivial ?_
                  refine G.eq (S' := (moW W H mth mbd mne 0 mn1 mbx man mrs mrl mfl mpt df1 lb1 mbo mwn mwo mxo myo mor mco mro mpw mph mrk mrb mrf mfr mfm med map mwh, 101, [(0, gr 60), (1, gi q), (2, gi (gb (q % 32 < W ∧ q / 32 < H)))], [gi (mds W H mne mbd mpt q), gi q, gr 62])) ?_ jn101
                  rw [show mds W H mne mbd mpt q = 1 from gb_t ⟨b61, fun h9 => b93 h9.2⟩]
          refine g_icmp_ge hX 53 rfl rfl ⟨by omega, by omega⟩ ⟨by omega, by omega⟩ (fun b35 => ?_) (fun b35 => ?_)
          ·
            refine G.go hX 1 (moW W H mth mbd mne 0 mn1 mbx man mrs mrl mfl mpt df1 lb1 mbo mwn mwo mxo myo mor mco mro mpw mph mrk mrb mrf mfr mfm med map mwh, 54, [(0, gr 60), (1, gi q)], [gi 0]) rfl trivial ?_
            refine G.eq (S' := (moW W H mth mbd mne 0 mn1 mbx man mrs mrl mfl mpt df1 lb1 mbo mwn mwo mxo myo mor mco mro mpw mph mrk mrb mrf mfr mfm med map mwh, 54, [(0, gr 60), (1, gi q)], [gi (gb (q % 32 < W ∧ q / 32 < H))])) ?_ jn54
            rw [gb_f (show ¬ (q % 32 < W ∧ q / 32 < H) by omega)]
          ·
            refine G.go hX 5 (moW W H mth mbd mne 0 mn1 mbx man mrs mrl mfl mpt df1 lb1 mbo mwn mwo mxo myo mor mco mro mpw mph mrk mrb mrf mfr mfm med map mwh, 46, [(0, gr 60), (1, gi q)], [gi H, gi (q / 32)]) rfl ?_ ?_
            · refine ⟨?_, trivial⟩
              · omega
            refine g_icmp_ge hX 53 rfl rfl ⟨by omega, by omega⟩ ⟨by omega, by omega⟩ (fun b46 => ?_) (fun b46 => ?_)
            ·
              refine G.go hX 1 (moW W H mth mbd mne 0 mn1 mbx man mrs mrl mfl mpt df1 lb1 mbo mwn mwo mxo myo mor mco mro mpw mph mrk mrb mrf mfr mfm med map mwh, 54, [(0, gr 60), (1, gi q)], [gi 0]) rfl trivial ?_
              refine G.eq (S' := (moW W H mth mbd mne 0 mn1 mbx man mrs mrl mfl mpt df1 lb1 mbo mwn mwo mxo myo mor mco mro mpw mph mrk mrb mrf mfr mfm med map mwh, 54, [(0, gr 60), (1, gi q)], [gi (gb (q % 32 < W ∧ q / 32 < H))])) ?_ jn54
              rw [gb_f (show ¬ (q % 32 < W ∧ q / 32 < H) by omega)]
            ·
              refine G.go hX 2 (moW W H mth mbd mne 0 mn1 mbx man mrs mrl mfl mpt df1 lb1 mbo mwn mwo mxo myo mor mco mro mpw mph mrk mrb mrf mfr mfm med map mwh, 54, [(0, gr 60), (1, gi q)], [gi 1]) rfl trivial ?_
              refine G.eq (S' := (moW W H mth mbd mne 0 mn1 mbx man mrs mrl mfl mpt df1 lb1 mbo mwn mwo mxo myo mor mco mro mpw mph mrk mrb mrf mfr mfm med map mwh, 54, [(0, gr 60), (1, gi q)], [gi (gb (q % 32 < W ∧ q / 32 < H))])) ?_ jn54
              rw [gb_t (show q % 32 < W ∧ q / 32 < H by omega)]
    exact lp20 _ 0 mdf mlb 0 (by omega) (by intro j h1 h2; omega) (by exact hdf) (by intro j h1 h2; omega) (by exact hlb) (by rfl) (Nat.lt_succ_self _)
  ·
    have hs0 : mnw = 0 := by omega
    exact g_vret hX hE rfl ⟨mdf, mlb, mmn, mbx, mbo, rfl, by rw [hs0], hval hs0, hdf, hlb, hbo⟩
