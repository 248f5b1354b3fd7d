/-! what holds between the class and the model at the head of the law's loop; each call keeps it -/
theorem gu_w {f : Int → Int} {k v q : Int} (h : q ≠ k) : gu f k v q = f q := if_neg h
theorem gu_g {f : Int → Int} {a b : Int} (h : ∀ q, a ≤ f q ∧ f q ≤ b) {k v : Int} (hv : a ≤ v ∧ v ≤ b) : ∀ q, a ≤ gu f k v q ∧ gu f k v q ≤ b := fun q => by
  by_cases e : q = k
  · subst e
    rw [gu_s]
    exact hv
  · rw [gu_w e]
    exact h q
def iDm (W H M P : Nat) : Prop := W ≤ 32 ∧ H ≤ 32 ∧ P = W * H ∧ P ≤ 1024 ∧ M = ((W + 1) / 2) * ((H + 1) / 2) ∧ M ≤ 256
def iSu (W H M P : Nat) (c : Int) (rows gro mk : Int → Int) (dp fa ne sl : Int) (p0 p1 : Int → Int) (mnw mmn mbx : Int) (mpt mdf mlb mbo : Int → Int) : Prop :=
  iDm W H M P ∧ ((0 ≤ fa ∧ fa ≤ 255) ∧ 0 ≤ ne ∧ ne ≤ 2) ∧ ((∀ q, 0 ≤ p0 q ∧ p0 q ≤ 255) ∧ (∀ q, 0 ≤ p1 q ∧ p1 q ≤ 255) ∧ ∀ q, 0 ≤ mpt q ∧ mpt q ≤ 255) ∧ ((sl = 0 ∨ sl = 1) ∧ (sl = 0 → gVal W H P M ne fa p0 p1 dp c rows)) ∧ ((∀ j, inR (rows j)) ∧ (∀ j, inR (gro j)) ∧ ∀ q, ¬ (0 ≤ q ∧ q < (P : Int)) → mk q = 0) ∧ ((∀ q, mdf q = 0 ∨ mdf q = 1) ∧ (∀ q, 0 ≤ mlb q ∧ mlb q ≤ 1023) ∧ ∀ q, inR (mbo q)) ∧ ((mnw = 0 ∨ mnw = 1) ∧ (mnw = 0 → mVal W H ne fa mpt mmn mbx mbo mdf)) ∧ iPt W H p0 p1 mpt
theorem q_point {W H M P : Nat} {c wt : Int} {rows gro wx wy mk : Int → Int} {dp fa ne sl : Int} {p0 p1 : Int → Int} {mnw mmn mbx : Int} {mpt mdf mlb mbo : Int → Int} (h : iSu W H M P c rows gro mk dp fa ne sl p0 p1 mnw mmn mbx mpt mdf mlb mbo) {s x y v z kk sl2 : Int} {p02 p12 : Int → Int} (hl : l_point W H M P c wt rows gro wx wy mk dp fa ne sl p0 p1 s x y v z kk sl2 p02 p12) {rv th nw : Int} {pt : Int → Int}
    (h1 : (0 ≤ s ∧ s ≤ 1) ∧ (0 ≤ x ∧ x < W) ∧ 0 ≤ y ∧ y < H → th = 0 ∧ nw = 1 ∧ rv = mpt (1024 * s + 32 * y + x) ∧ pt = gu mpt (1024 * s + 32 * y + x) (Int32.ofInt v &&& Int32.ofInt 255).toInt) (h2 : ¬ ((0 ≤ s ∧ s ≤ 1) ∧ (0 ≤ x ∧ x < W) ∧ 0 ≤ y ∧ y < H) → th = 1 ∧ rv = 0 ∧ nw = mnw ∧ pt = mpt) :
    (th = kk ∧ inR kk ∧ inR rv ∧ (kk = 0 → z = rv)) ∧ iSu W H M P c rows gro mk dp fa ne sl2 p02 p12 nw mmn mbx pt mdf mlb mbo := by
  obtain ⟨hd, hf, ⟨hp0, hp1, hmp⟩, hs, hr, hm, hn, hi⟩ := h
  have hW := hd.1
  have hH := hd.2.1
  have hg := gmsk255 v
  rcases hl with ⟨rfl, rfl, ho, rfl, rfl, rfl, rfl⟩ | ⟨rfl, rfl, ho, rfl, rfl, rfl, rfl⟩ | ⟨rfl, ho, rfl, rfl, rfl⟩
  · obtain ⟨rfl, rfl, rfl, rfl⟩ := h1 ⟨⟨by omega, by omega⟩, ho⟩
    have e2 : 1024 * 0 + 32 * y + x = 32 * y + x := by omega
    have e := (hi x y ho.1.1 ho.1.2 ho.2.1 ho.2.2).1
    have hb := hp0 (y * W + x)
    rw [e2, e]
    refine ⟨⟨rfl, ⟨by omega, by omega⟩, ⟨by omega, by omega⟩, fun _ => rfl⟩, hd, hf, ⟨gu_g hp0 hg, hp1, gu_g hmp hg⟩, ⟨Or.inr rfl, fun h9 => by omega⟩, hr, hm, ⟨Or.inr rfl, fun h9 => by omega⟩, fun x' y' a1 a2 a3 a4 => ⟨?_, ?_⟩⟩
    · by_cases e9 : y' * W + x' = y * W + x
      · obtain ⟨rfl, rfl⟩ := gix_inj a1 a2 ho.1.1 ho.1.2 e9
        rw [gu_s, gu_s]
      · have e8 : 32 * y' + x' ≠ 32 * y + x := fun h9 => e9 (by
          have h7 : y' = y := by omega
          have h8 : x' = x := by omega
          rw [h7, h8])
        rw [gu_w e8, gu_w e9]
        exact (hi x' y' a1 a2 a3 a4).1
    · rw [gu_w (show 1024 + 32 * y' + x' ≠ 32 * y + x by omega)]
      exact (hi x' y' a1 a2 a3 a4).2
  · obtain ⟨rfl, rfl, rfl, rfl⟩ := h1 ⟨⟨by omega, by omega⟩, ho⟩
    have e2 : 1024 * 1 + 32 * y + x = 1024 + 32 * y + x := by omega
    have e := (hi x y ho.1.1 ho.1.2 ho.2.1 ho.2.2).2
    have hb := hp1 (y * W + x)
    rw [e2, e]
    refine ⟨⟨rfl, ⟨by omega, by omega⟩, ⟨by omega, by omega⟩, fun _ => rfl⟩, hd, hf, ⟨hp0, gu_g hp1 hg, gu_g hmp hg⟩, ⟨Or.inr rfl, fun h9 => by omega⟩, hr, hm, ⟨Or.inr rfl, fun h9 => by omega⟩, fun x' y' a1 a2 a3 a4 => ⟨?_, ?_⟩⟩
    · rw [gu_w (show 32 * y' + x' ≠ 1024 + 32 * y + x by omega)]
      exact (hi x' y' a1 a2 a3 a4).1
    · by_cases e9 : y' * W + x' = y * W + x
      · obtain ⟨rfl, rfl⟩ := gix_inj a1 a2 ho.1.1 ho.1.2 e9
        rw [gu_s, gu_s]
      · have e8 : 1024 + 32 * y' + x' ≠ 1024 + 32 * y + x := fun h9 => e9 (by
          have h7 : y' = y := by omega
          have h8 : x' = x := by omega
          rw [h7, h8])
        rw [gu_w e8, gu_w e9]
        exact (hi x' y' a1 a2 a3 a4).2
  · obtain ⟨rfl, rfl, rfl, rfl⟩ := h2 ho
    exact ⟨⟨rfl, ⟨by omega, by omega⟩, ⟨by omega, by omega⟩, fun h9 => by omega⟩, hd, hf, ⟨hp0, hp1, hmp⟩, hs, hr, hm, hn, hi⟩
theorem q_bound {W H M P : Nat} {c wt : Int} {rows gro wx wy mk : Int → Int} {dp fa ne sl : Int} {p0 p1 : Int → Int} {mnw mmn mbx : Int} {mpt mdf mlb mbo : Int → Int} (h : iSu W H M P c rows gro mk dp fa ne sl p0 p1 mnw mmn mbx mpt mdf mlb mbo) {a b z kk fa2 ne2 sl2 : Int} (hl : l_bound W H M P c wt rows gro wx wy mk dp fa ne sl p0 p1 a b z kk fa2 ne2 sl2) {rv th nw bd n : Int}
    (h1 : (0 ≤ a ∧ a ≤ 255) ∧ 0 ≤ b ∧ b ≤ 2 → th = 0 ∧ nw = 1 ∧ rv = 10 * fa + ne ∧ bd = a ∧ n = b) (h2 : ¬ ((0 ≤ a ∧ a ≤ 255) ∧ 0 ≤ b ∧ b ≤ 2) → th = 1 ∧ rv = 0 ∧ nw = mnw ∧ bd = fa ∧ n = ne) :
    (th = kk ∧ inR kk ∧ inR rv ∧ (kk = 0 → z = rv)) ∧ (bd = fa2 ∧ n = ne2) ∧ iSu W H M P c rows gro mk dp fa2 ne2 sl2 p0 p1 nw mmn mbx mpt mdf mlb mbo := by
  obtain ⟨hd, hf, hp, hs, hr, hm, hn, hi⟩ := h
  rcases hl with ⟨rfl, ho, rfl, rfl, rfl, rfl⟩ | ⟨rfl, ho, rfl, rfl, rfl⟩
  · obtain ⟨rfl, rfl, rfl, rfl, rfl⟩ := h1 ho
    exact ⟨⟨rfl, ⟨by omega, by omega⟩, ⟨by omega, by omega⟩, fun _ => rfl⟩, ⟨rfl, rfl⟩, hd, ho, hp, ⟨Or.inr rfl, fun h9 => by omega⟩, hr, hm, ⟨Or.inr rfl, fun h9 => by omega⟩, hi⟩
  · obtain ⟨rfl, rfl, rfl, rfl, rfl⟩ := h2 ho
    exact ⟨⟨rfl, ⟨by omega, by omega⟩, ⟨by omega, by omega⟩, fun h9 => by omega⟩, ⟨rfl, rfl⟩, hd, hf, hp, hs, hr, hm, hn, hi⟩
theorem q_differing {W H M P : Nat} {c : Int} {rows gro mk : Int → Int} {dp fa ne sl : Int} {p0 p1 : Int → Int} {mnw mmn mbx : Int} {mpt mdf mlb mbo : Int → Int} (h : iSu W H M P c rows gro mk dp fa ne sl p0 p1 mnw mmn mbx mpt mdf mlb mbo) {c2 dp2 : Int} {rows2 gro2 mk2 : Int → Int} (hV : gVal W H P M ne fa p0 p1 dp2 c2 rows2) (hr2 : ∀ j : Int, inR (rows2 j)) (hg2 : ∀ j : Int, inR (gro2 j)) (hm2 : ∀ q : Int, ¬ (0 ≤ q ∧ q < (P : Int)) → mk2 q = 0)
    {mn2 bx2 : Int} {df2 lb2 bo2 : Int → Int} (hM : mVal W H ne fa mpt mn2 bx2 bo2 df2) (hdf : ∀ q : Int, df2 q = 0 ∨ df2 q = 1) (hlb : ∀ q : Int, 0 ≤ lb2 q ∧ lb2 q ≤ 1023) (hbo : ∀ q : Int, inR (bo2 q)) : dp2 = mn2 ∧ iSu W H M P c2 rows2 gro2 mk2 dp2 fa ne 0 p0 p1 0 mn2 bx2 mpt df2 lb2 bo2 := by
  obtain ⟨hd, hf, hp, hs, hr, hm, hn, hi⟩ := h
  exact ⟨(iPt_b hd.1 hd.2.1 hd.2.2.1 hi hV hM).1, hd, hf, hp, ⟨Or.inl rfl, fun _ => hV⟩, ⟨hr2, hg2, hm2⟩, ⟨hdf, hlb, hbo⟩, ⟨Or.inl rfl, fun _ => hM⟩, hi⟩
theorem q_box {W H M P : Nat} {c wt : Int} {rows gro wx wy mk : Int → Int} {dp fa ne sl : Int} {p0 p1 : Int → Int} {mnw mmn mbx : Int} {mpt mdf mlb mbo : Int → Int} (h : iSu W H M P c rows gro mk dp fa ne sl p0 p1 mnw mmn mbx mpt mdf mlb mbo) {i k z kk c2 wt2 dp2 : Int} {rows2 gro2 wx2 wy2 mk2 : Int → Int} (hl : l_box W H M P c wt rows gro wx wy mk dp fa ne sl p0 p1 i k z kk c2 wt2 rows2 gro2 wx2 wy2 mk2 dp2)
    {mn2 bx2 rv th : Int} {df2 lb2 bo2 : Int → Int} (hM : mVal W H ne fa mpt mn2 bx2 bo2 df2) (hdf : ∀ q : Int, df2 q = 0 ∨ df2 q = 1) (hlb : ∀ q : Int, 0 ≤ lb2 q ∧ lb2 q ≤ 1023) (hbo : ∀ q : Int, inR (bo2 q)) (h1 : i = -1 → th = 0 ∧ rv = bx2) (h2 : i ≠ -1 → ¬ ((0 ≤ i ∧ i < bx2) ∧ 0 ≤ k ∧ k ≤ 4) → th = 1 ∧ rv = 0)
    (h3 : (0 ≤ i ∧ i < bx2) ∧ 0 ≤ k ∧ k ≤ 4 → th = 0 ∧ (k < 4 → rv = mrw bo2 i k) ∧ (k = 4 → rv = gsm (fun q => gb (((bo2 (4 * i) ≤ q % 32 ∧ q % 32 ≤ bo2 (4 * i + 2)) ∧ bo2 (4 * i + 1) ≤ q / 32 ∧ q / 32 ≤ bo2 (4 * i + 3)) ∧ df2 q = 1)) 1024)) :
    (th = kk ∧ inR kk ∧ inR rv ∧ (kk = 0 → z = rv)) ∧ iSu W H M P c2 rows2 gro2 mk2 dp2 fa ne 0 p0 p1 0 mn2 bx2 mpt df2 lb2 bo2 := by
  obtain ⟨⟨hV, hr2, hg2, hm2⟩, hl⟩ := hl
  refine ⟨?_, (q_differing h hV hr2 hg2 hm2 hM hdf hlb hbo).2⟩
  obtain ⟨hd, hf, hp, hs, hr, hm, hn, hi⟩ := h
  obtain ⟨-, e2, e3, e4⟩ := iPt_b hd.1 hd.2.1 hd.2.2.1 hi hV hM
  rcases hl with ⟨rfl, ho, rfl⟩ | ⟨rfl, hn, ho, rfl⟩ | ⟨rfl, hn, ho⟩
  · obtain ⟨rfl, rfl⟩ := h1 ho
    have h5 := hM.2.2.1
    exact ⟨rfl, ⟨by omega, by omega⟩, ⟨by omega, by omega⟩, fun _ => e2⟩
  · obtain ⟨rfl, a1, a2⟩ := h3 ⟨⟨ho.1.1, by omega⟩, ho.2.1, by omega⟩
    have e9 : rows2 (i * 5 + k) = rv := by
      by_cases hk : k < 4
      · rw [a1 hk]
        exact e3 i ho.1.1 ho.1.2 k ho.2.1 hk
      · have hk4 : k = 4 := by omega
        subst hk4
        rw [a2 rfl]
        exact e4 i ho.1.1 ho.1.2
    refine ⟨rfl, ⟨by omega, by omega⟩, ?_, fun _ => e9⟩
    rw [← e9]
    exact hr2 _
  · obtain ⟨rfl, rfl⟩ := h2 hn (fun h9 => ho ⟨⟨h9.1.1, by omega⟩, h9.2.1, by omega⟩)
    exact ⟨rfl, ⟨by omega, by omega⟩, ⟨by omega, by omega⟩, fun h9 => by omega⟩
/-! words -/
def iWo (cn wst : Int) (rwx : Int → Int) (n0 : Int) (v0 x0 y0 o0 : Int → Int) (n1 : Int) (v1 x1 y1 o1 : Int → Int) (man mrs : Int) (mwn mwo mxo myo mor mro : Int → Int) : Prop :=
  ((0 ≤ n0 ∧ n0 ≤ 40) ∧ 0 ≤ n1 ∧ n1 ≤ 40) ∧ (mwn 0 = n0 ∧ mwn 1 = n1) ∧ (wOrd n0 x0 y0 o0 ∧ wOrd n1 x1 y1 o1) ∧ ((∀ q, inR (v0 q) ∧ inR (v1 q)) ∧ (∀ q, (inR (x0 q) ∧ inR (x1 q)) ∧ inR (y0 q) ∧ inR (y1 q)) ∧ ∀ q, inR (rwx q)) ∧ ((wst = 0 ∨ wst = 1) ∧ (0 ≤ cn ∧ cn ≤ 80) ∧ (wst = 0 → wVal n0 v0 x0 y0 o0 n1 v1 x1 y1 o1 cn rwx)) ∧ ((∀ q, inR (mwo q)) ∧ (∀ q, inR (mxo q) ∧ inR (myo q)) ∧ ∀ q, inR (mro q)) ∧ ((man = 0 ∨ man = 1) ∧ (0 ≤ mrs ∧ mrs ≤ 80) ∧ (man = 0 → mWv mwn mwo mxo myo mor mrs mro)) ∧ iWs n0 v0 x0 y0 0 mwo mxo myo ∧ iWs n1 v1 x1 y1 40 mwo mxo myo
theorem iWs_s {n b a p r t : Int} {v x y mwo mxo myo : Int → Int} (h : iWs n v x y b mwo mxo myo) (et : t = b + n) : iWs (n + 1) (gu v n a) (gu x n p) (gu y n r) b (gu mwo t a) (gu mxo t p) (gu myo t r) := fun j j0 j1 => by
  subst et
  by_cases e : j = n
  · subst e
    rw [gu_s, gu_s, gu_s, gu_s, gu_s, gu_s]
    exact ⟨rfl, rfl, rfl⟩
  · rw [gu_w e, gu_w e, gu_w e, gu_w (show b + j ≠ b + n by omega), gu_w (show b + j ≠ b + n by omega), gu_w (show b + j ≠ b + n by omega)]
    exact h j j0 (by omega)
theorem iWs_o {n b a p r t : Int} {v x y mwo mxo myo : Int → Int} (h : iWs n v x y b mwo mxo myo) (ht : t < b ∨ b + n ≤ t) : iWs n v x y b (gu mwo t a) (gu mxo t p) (gu myo t r) := fun j j0 j1 => by
  rw [gu_w (show b + j ≠ t by omega), gu_w (show b + j ≠ t by omega), gu_w (show b + j ≠ t by omega)]
  exact h j j0 j1
theorem gu_r2 {f g : Int → Int} (h : ∀ q, inR (f q) ∧ inR (g q)) {k a b : Int} (ha : inR a) (hb : inR b) : ∀ q, inR (gu f k a q) ∧ inR (gu g k b q) := fun q => ⟨gu_r (fun q => (h q).1) ha q, gu_r (fun q => (h q).2) hb q⟩
theorem q_word {cn wst : Int} {rwx lg : Int → Int} {n0 : Int} {v0 x0 y0 o0 : Int → Int} {n1 : Int} {v1 x1 y1 o1 : Int → Int} {man mrs : Int} {mwn mwo mxo myo mor mro : Int → Int} (h : iWo cn wst rwx n0 v0 x0 y0 o0 n1 v1 x1 y1 o1 man mrs mwn mwo mxo myo mor mro) {s v px py z kk wst2 n02 n12 : Int} {v02 x02 y02 o02 v12 x12 y12 o12 : Int → Int} (hv : inR v) (hpx : inR px) (hpy : inR py) (hl : l_word cn wst rwx lg n0 v0 x0 y0 o0 n1 v1 x1 y1 o1 s v px py z kk wst2 n02 v02 x02 y02 o02 n12 v12 x12 y12 o12)
    {rv th an2 : Int} {wn2 wo2 xo2 yo2 : Int → Int} (h1 : ¬ (0 ≤ s ∧ s ≤ 1) → th = 1 ∧ rv = 0 ∧ wn2 = mwn ∧ wo2 = mwo ∧ xo2 = mxo ∧ yo2 = myo ∧ an2 = man) (h2 : 0 ≤ s ∧ s ≤ 1 → v < 0 → th = 2 ∧ rv = 0 ∧ wn2 = mwn ∧ wo2 = mwo ∧ xo2 = mxo ∧ yo2 = myo ∧ an2 = man) (h3 : 0 ≤ s ∧ s ≤ 1 → 0 ≤ v → mwn s = 40 → th = 3 ∧ rv = 0 ∧ wn2 = mwn ∧ wo2 = mwo ∧ xo2 = mxo ∧ yo2 = myo ∧ an2 = man)
    (h4 : 0 ≤ s ∧ s ≤ 1 → 0 ≤ v → mwn s ≠ 40 → th = 0 ∧ rv = mwn s ∧ wn2 = gu mwn s (mwn s + 1) ∧ wo2 = gu mwo (40 * s + mwn s) v ∧ xo2 = gu mxo (40 * s + mwn s) px ∧ yo2 = gu myo (40 * s + mwn s) py ∧ an2 = 1) :
    (th = kk ∧ inR kk ∧ inR rv ∧ (kk = 0 → z = rv)) ∧ iWo cn wst2 rwx n02 v02 x02 y02 o02 n12 v12 x12 y12 o12 an2 mrs wn2 wo2 xo2 yo2 mor mro := by
  obtain ⟨hn, ⟨e0, e1⟩, ⟨hO0, hO1⟩, ⟨hvv, hxy, hrw⟩, ⟨hw1, hw2, hw3⟩, ⟨hm1, hm2, hm3⟩, ⟨ha1, ha2, ha3⟩, hs0, hs1⟩ := h
  rcases hl with ⟨rfl, rfl, hv0, hlt, rfl, rfl, ⟨rfl, rfl, rfl, rfl, hO⟩, rfl, rfl, rfl, rfl, rfl⟩ | ⟨rfl, rfl, hv0, hlt, rfl, rfl, ⟨rfl, rfl, rfl, rfl, rfl⟩, rfl, rfl, rfl, rfl, hO⟩ | ⟨hk, rfl, ⟨rfl, rfl, rfl, rfl, rfl⟩, rfl, rfl, rfl, rfl, rfl⟩
  · obtain ⟨rfl, rfl, rfl, rfl, rfl, rfl, rfl⟩ := h4 ⟨by omega, by omega⟩ hv0 (by omega)
    rw [e0]
    exact ⟨⟨rfl, ⟨by omega, by omega⟩, ⟨by omega, by omega⟩, fun _ => rfl⟩, ⟨⟨by omega, by omega⟩, hn.2⟩, ⟨gu_s _ _ _, (gu_w (by omega)).trans e1⟩, ⟨hO, hO1⟩, ⟨fun q => ⟨gu_r (fun q => (hvv q).1) hv q, (hvv q).2⟩, fun q => ⟨⟨gu_r (fun q => (hxy q).1.1) hpx q, (hxy q).1.2⟩, gu_r (fun q => (hxy q).2.1) hpy q, (hxy q).2.2⟩, hrw⟩, ⟨Or.inr rfl, hw2, fun h9 => by omega⟩, ⟨gu_r hm1 hv, gu_r2 hm2 hpx hpy, hm3⟩, ⟨Or.inr rfl, ha2, fun h9 => by omega⟩, iWs_s hs0 (by omega), iWs_o hs1 (by omega)⟩
  · obtain ⟨rfl, rfl, rfl, rfl, rfl, rfl, rfl⟩ := h4 ⟨by omega, by omega⟩ hv0 (by omega)
    rw [e1]
    exact ⟨⟨rfl, ⟨by omega, by omega⟩, ⟨by omega, by omega⟩, fun _ => rfl⟩, ⟨hn.1, by omega, by omega⟩, ⟨(gu_w (by omega)).trans e0, gu_s _ _ _⟩, ⟨hO0, hO⟩, ⟨fun q => ⟨(hvv q).1, gu_r (fun q => (hvv q).2) hv q⟩, fun q => ⟨⟨(hxy q).1.1, gu_r (fun q => (hxy q).1.2) hpx q⟩, (hxy q).2.1, gu_r (fun q => (hxy q).2.2) hpy q⟩, hrw⟩, ⟨Or.inr rfl, hw2, fun h9 => by omega⟩, ⟨gu_r hm1 hv, gu_r2 hm2 hpx hpy, hm3⟩, ⟨Or.inr rfl, ha2, fun h9 => by omega⟩, iWs_o hs0 (by omega), iWs_s hs1 (by omega)⟩
  · rcases hk with ⟨rfl, hk⟩ | ⟨rfl, hk, hlt⟩ | ⟨rfl, hk, hk2⟩
    · obtain ⟨rfl, rfl, rfl, rfl, rfl, rfl, rfl⟩ := h1 hk
      exact ⟨⟨rfl, ⟨by omega, by omega⟩, ⟨by omega, by omega⟩, fun h9 => by omega⟩, hn, ⟨e0, e1⟩, ⟨hO0, hO1⟩, ⟨hvv, hxy, hrw⟩, ⟨hw1, hw2, hw3⟩, ⟨hm1, hm2, hm3⟩, ⟨ha1, ha2, ha3⟩, hs0, hs1⟩
    · obtain ⟨rfl, rfl, rfl, rfl, rfl, rfl, rfl⟩ := h2 hk hlt
      exact ⟨⟨rfl, ⟨by omega, by omega⟩, ⟨by omega, by omega⟩, fun h9 => by omega⟩, hn, ⟨e0, e1⟩, ⟨hO0, hO1⟩, ⟨hvv, hxy, hrw⟩, ⟨hw1, hw2, hw3⟩, ⟨hm1, hm2, hm3⟩, ⟨ha1, ha2, ha3⟩, hs0, hs1⟩
    · have h9 : (0 ≤ s ∧ s ≤ 1) ∧ mwn s = 40 := by
        rcases hk2 with ⟨rfl, e9⟩ | ⟨rfl, e9⟩
        · exact ⟨⟨by omega, by omega⟩, e0.trans e9⟩
        · exact ⟨⟨by omega, by omega⟩, e1.trans e9⟩
      obtain ⟨rfl, rfl, rfl, rfl, rfl, rfl, rfl⟩ := h3 h9.1 hk h9.2
      exact ⟨⟨rfl, ⟨by omega, by omega⟩, ⟨by omega, by omega⟩, fun h9 => by omega⟩, hn, ⟨e0, e1⟩, ⟨hO0, hO1⟩, ⟨hvv, hxy, hrw⟩, ⟨hw1, hw2, hw3⟩, ⟨hm1, hm2, hm3⟩, ⟨ha1, ha2, ha3⟩, hs0, hs1⟩
theorem q_wd {cn wst : Int} {rwx : Int → Int} {n0 : Int} {v0 x0 y0 o0 : Int → Int} {n1 : Int} {v1 x1 y1 o1 : Int → Int} {man mrs : Int} {mwn mwo mxo myo mor mro : Int → Int} (h : iWo cn wst rwx n0 v0 x0 y0 o0 n1 v1 x1 y1 o1 man mrs mwn mwo mxo myo mor mro) {cn2 : Int} {rw2 : Int → Int} (hV : wVal n0 v0 x0 y0 o0 n1 v1 x1 y1 o1 cn2 rw2) (hc2 : 0 ≤ cn2 ∧ cn2 ≤ 80) (hr2 : ∀ q : Int, inR (rw2 q))
    {rs2 an2 : Int} {or2 ro2 : Int → Int} (han : an2 = 0 ∨ an2 = 1) (hM : an2 = 0 → mWv mwn mwo mxo myo or2 rs2 ro2) (hro : ∀ q : Int, inR (ro2 q)) (hrs : 0 ≤ rs2 ∧ rs2 ≤ 80) : iWo cn2 0 rw2 n0 v0 x0 y0 o0 n1 v1 x1 y1 o1 an2 rs2 mwn mwo mxo myo or2 ro2 := by
  obtain ⟨hn, he, hO, ⟨hvv, hxy, hrw⟩, -, ⟨hm1, hm2, hm3⟩, -, hs0, hs1⟩ := h
  exact ⟨hn, he, hO, ⟨hvv, hxy, hr2⟩, ⟨Or.inl rfl, hc2, fun _ => hV⟩, ⟨hm1, hm2, hro⟩, ⟨han, hrs, hM⟩, hs0, hs1⟩
theorem q_words {cn wst : Int} {rwx lg : Int → Int} {n0 : Int} {v0 x0 y0 o0 : Int → Int} {n1 : Int} {v1 x1 y1 o1 : Int → Int} {man mrs : Int} {mwn mwo mxo myo mor mro : Int → Int} (h : iWo cn wst rwx n0 v0 x0 y0 o0 n1 v1 x1 y1 o1 man mrs mwn mwo mxo myo mor mro) {i k z kk cn2 : Int} {rw2 lg2 : Int → Int} (hl : l_words cn wst rwx lg n0 v0 x0 y0 o0 n1 v1 x1 y1 o1 i k z kk cn2 rw2 lg2)
    {rs2 rv th : Int} {or2 ro2 : Int → Int} (hM : mWv mwn mwo mxo myo or2 rs2 ro2) (hro : ∀ q : Int, inR (ro2 q)) (hrs : 0 ≤ rs2 ∧ rs2 ≤ 80) (h1 : i = -1 → th = 0 ∧ rv = gsm (fun q => gb (0 < ro2 (4 * q))) rs2.toNat) (h2 : i ≠ -1 → ¬ ((0 ≤ i ∧ i < gsm (fun q => gb (0 < ro2 (4 * q))) rs2.toNat) ∧ 0 ≤ k ∧ k ≤ 3) → th = 1 ∧ rv = 0)
    (h3 : ((0 ≤ i ∧ i < gsm (fun q => gb (0 < ro2 (4 * q))) rs2.toNat) ∧ 0 ≤ k ∧ k ≤ 3) → th = 0 ∧ ∃ t : Int, (0 ≤ t ∧ t < rs2) ∧ 0 < ro2 (4 * t) ∧ gsm (fun q => gb (0 < ro2 (4 * q))) t.toNat = i ∧ rv = ro2 (4 * t + k)) :
    (th = kk ∧ inR kk ∧ inR rv ∧ (kk = 0 → z = rv)) ∧ iWo cn2 0 rw2 n0 v0 x0 y0 o0 n1 v1 x1 y1 o1 0 rs2 mwn mwo mxo myo or2 ro2 := by
  obtain ⟨⟨hV, hc2, hr2⟩, hl⟩ := hl
  refine ⟨?_, q_wd h hV hc2 hr2 (Or.inl rfl) (fun _ => hM) hro hrs⟩
  obtain ⟨hn, ⟨e0, e1⟩, ⟨hO0, hO1⟩, -, -, -, -, hs0, hs1⟩ := h
  obtain ⟨e2, e3⟩ := iWd hn e0 e1 hO0 hO1 hs0 hs1 hV hM
  rcases hl with ⟨rfl, ho, rfl⟩ | ⟨rfl, hn, ho, rfl⟩ | ⟨rfl, hn, ho⟩
  · obtain ⟨rfl, rfl⟩ := h1 ho
    exact ⟨rfl, ⟨by omega, by omega⟩, gsm_r (by omega), fun _ => e2⟩
  · rw [← e2] at h3
    obtain ⟨rfl, t, t1, t2, t3, rfl⟩ := h3 ⟨ho.1, ho.2.1, by omega⟩
    have e9 := e3 t t1.1 t1.2 t2 k ho.2.1 ho.2.2
    rw [t3] at e9
    exact ⟨rfl, ⟨by omega, by omega⟩, hro _, fun _ => e9⟩
  · rw [← e2] at h2
    obtain ⟨rfl, rfl⟩ := h2 hn (fun h9 => ho ⟨h9.1, h9.2.1, by omega⟩)
    exact ⟨rfl, ⟨by omega, by omega⟩, ⟨by omega, by omega⟩, fun h9 => by omega⟩
/-! pages -/
def iPx (w0 w1 h0 h1 mpw mph : Int → Int) : Prop := iPg w0 w1 h0 h1 mpw mph ∧ (∀ q, (inR (w0 q) ∧ inR (w1 q)) ∧ inR (h0 q) ∧ inR (h1 q)) ∧ ∀ q, inR (mpw q) ∧ inR (mph q)
theorem q_size {w0 w1 h0 h1 mpw mph : Int → Int} (H : iPx w0 w1 h0 h1 mpw mph) {s p w h z kk : Int} {w02 w12 h02 h12 : Int → Int} (hw : inR w) (hh : inR h) (hl : l_size w0 w1 h0 h1 s p w h z kk w02 w12 h02 h12) {rv th : Int} {pw ph : Int → Int} (g1 : ¬ ((0 ≤ s ∧ s ≤ 1) ∧ 0 ≤ p ∧ p ≤ 19) → th = 1 ∧ pw = mpw ∧ ph = mph ∧ rv = 0) (g2 : (0 ≤ s ∧ s ≤ 1) ∧ 0 ≤ p ∧ p ≤ 19 → ¬ (1 ≤ w ∧ 1 ≤ h) → th = 2 ∧ pw = mpw ∧ ph = mph ∧ rv = 0)
    (g3 : (0 ≤ s ∧ s ≤ 1) ∧ 0 ≤ p ∧ p ≤ 19 → 1 ≤ w ∧ 1 ≤ h → th = 0 ∧ pw = gu mpw (20 * s + p) w ∧ ph = gu mph (20 * s + p) h ∧ rv = gb (mpw (20 - 20 * s + p) = 0 ∨ (mpw (20 - 20 * s + p) = w ∧ mph (20 - 20 * s + p) = h))) :
    (th = kk ∧ inR kk ∧ inR rv ∧ (kk = 0 → z = rv)) ∧ iPx w02 w12 h02 h12 pw ph := by
  obtain ⟨hp, hr, hm⟩ := H
  rcases hl with ⟨rfl, rfl, ho, ho2, rfl, rfl, rfl, rfl, rfl⟩ | ⟨rfl, rfl, ho, ho2, rfl, rfl, rfl, rfl, rfl⟩ | ⟨hk, rfl, rfl, rfl, rfl⟩
  · obtain ⟨rfl, rfl, rfl, rfl⟩ := g3 ⟨⟨by omega, by omega⟩, by omega, by omega⟩ ho2
    obtain ⟨⟨a1, a2⟩, ⟨a3, a4⟩, a5, a6⟩ := hp p ho.1 ho.2
    have e1 : 20 - 20 * 0 + p = 20 + p := by omega
    have e2 : 20 * 0 + p = p := by omega
    rw [e1, e2, a2, a4]
    refine ⟨⟨rfl, ⟨by omega, by omega⟩, gb_r _, fun _ => ?_⟩, fun q q0 q1 => ?_, fun q => ⟨⟨gu_r (fun q => (hr q).1.1) hw q, (hr q).1.2⟩, gu_r (fun q => (hr q).2.1) hh q, (hr q).2.2⟩, gu_r2 hm hw hh⟩
    · by_cases h9 : w12 p = 0 ∨ (w12 p = w ∧ h12 p = h)
      · rw [gb_t h9, gb_f]
        · omega
        · intro h8
          unfold gos at h8
          rw [gu_s, gu_s] at h8
          omega
      · rw [gb_f h9, gb_t]
        · omega
        · unfold gos
          rw [gu_s, gu_s]
          exact ⟨by omega, by omega, by omega⟩
    · obtain ⟨⟨b1, b2⟩, ⟨b3, b4⟩, b5, b6⟩ := hp q q0 q1
      rw [gu_w (show 20 + q ≠ p by omega), gu_w (show 20 + q ≠ p by omega)]
      by_cases e : q = p
      · subst e
        rw [gu_s, gu_s, gu_s, gu_s]
        exact ⟨⟨rfl, b2⟩, ⟨rfl, b4⟩, by omega, b6⟩
      · rw [gu_w e, gu_w e, gu_w e, gu_w e]
        exact ⟨⟨b1, b2⟩, ⟨b3, b4⟩, b5, b6⟩
  · obtain ⟨rfl, rfl, rfl, rfl⟩ := g3 ⟨⟨by omega, by omega⟩, by omega, by omega⟩ ho2
    obtain ⟨⟨a1, a2⟩, ⟨a3, a4⟩, a5, a6⟩ := hp p ho.1 ho.2
    have e1 : 20 - 20 * 1 + p = p := by omega
    have e2 : 20 * 1 + p = 20 + p := by omega
    rw [e1, e2, a1, a3]
    refine ⟨⟨rfl, ⟨by omega, by omega⟩, gb_r _, fun _ => ?_⟩, fun q q0 q1 => ?_, fun q => ⟨⟨(hr q).1.1, gu_r (fun q => (hr q).1.2) hw q⟩, (hr q).2.1, gu_r (fun q => (hr q).2.2) hh q⟩, gu_r2 hm hw hh⟩
    · by_cases h9 : w02 p = 0 ∨ (w02 p = w ∧ h02 p = h)
      · rw [gb_t h9, gb_f]
        · omega
        · intro h8
          unfold gos at h8
          rw [gu_s, gu_s] at h8
          omega
      · rw [gb_f h9, gb_t]
        · omega
        · unfold gos
          rw [gu_s, gu_s]
          exact ⟨by omega, by omega, by omega⟩
    · obtain ⟨⟨b1, b2⟩, ⟨b3, b4⟩, b5, b6⟩ := hp q q0 q1
      rw [gu_w (show q ≠ 20 + p by omega), gu_w (show q ≠ 20 + p by omega)]
      by_cases e : q = p
      · subst e
        rw [gu_s, gu_s, gu_s, gu_s]
        exact ⟨⟨b1, rfl⟩, ⟨b3, rfl⟩, b5, by omega⟩
      · rw [gu_w e, gu_w e, gu_w (show 20 + q ≠ 20 + p by omega), gu_w (show 20 + q ≠ 20 + p by omega)]
        exact ⟨⟨b1, b2⟩, ⟨b3, b4⟩, b5, b6⟩
  · rcases hk with ⟨rfl, hk⟩ | ⟨rfl, hk, hk2⟩
    · obtain ⟨rfl, rfl, rfl, rfl⟩ := g1 (by omega)
      exact ⟨⟨rfl, ⟨by omega, by omega⟩, ⟨by omega, by omega⟩, fun h9 => by omega⟩, hp, hr, hm⟩
    · obtain ⟨rfl, rfl, rfl, rfl⟩ := g2 ⟨hk.1, hk.2.1, by omega⟩ hk2
      exact ⟨⟨rfl, ⟨by omega, by omega⟩, ⟨by omega, by omega⟩, fun h9 => by omega⟩, hp, hr, hm⟩
theorem gms_w {w0 w1 : Int → Int} {p : Int} (h : gms w0 w1 p) : 0 < w0 p ↔ ¬ 0 < w1 p := by
  unfold gms at h
  omega
theorem q_missing {w0 w1 h0 h1 mpw mph : Int → Int} (H : iPx w0 w1 h0 h1 mpw mph) {i z kk : Int} (hl : l_missing w0 w1 h0 h1 i z kk) {rv th : Int} (g1 : i = -1 → th = 0 ∧ rv = gsm (fun q => gb (mms mpw q)) 20) (g2 : 0 ≤ i → i < gsm (fun q => gb (mms mpw q)) 20 → th = 0 ∧ ∃ pg : Int, (0 ≤ pg ∧ pg < 20) ∧ mms mpw pg ∧ gsm (fun q => gb (mms mpw q)) pg.toNat = i ∧ rv = 2 * pg + gb (¬ 0 < mpw (20 + pg)))
    (g3 : i ≠ -1 → ¬ (0 ≤ i ∧ i < gsm (fun q => gb (mms mpw q)) 20) → th = 1 ∧ rv = 0) : th = kk ∧ inR kk ∧ inR rv ∧ (kk = 0 → z = rv) := by
  have hp := H.1
  have e0 := iPg_ms hp 20 (by omega)
  rcases hl with ⟨rfl, ho, rfl⟩ | ⟨rfl, hn, ho, pg, rfl, ⟨hq, hms⟩, hc⟩ | ⟨rfl, hn, ho⟩
  · obtain ⟨rfl, rfl⟩ := g1 ho
    exact ⟨rfl, ⟨by omega, by omega⟩, gsm_r (by omega), fun _ => e0⟩
  · rw [e0] at ho
    obtain ⟨rfl, p2, hp2, hm2, hc2, rfl⟩ := g2 ho.1 ho.2
    have e1 := iPg_ms hp p2.toNat (by omega)
    have hg2 := (iPg_m hp hp2.1 hp2.2).mpr hm2
    have e2 : pg = p2 := gsm_kth (f := fun q => gms w0 w1 q) hq.1 hp2.1 hms hg2 hc (e1.trans hc2)
    subst e2
    obtain ⟨⟨a1, a2⟩, -, -, -⟩ := hp pg hq.1 hq.2
    have e3 : gb (0 < w0 pg) = gb (¬ 0 < mpw (20 + pg)) := by
      rw [a2]
      exact gb_c (gms_w hms)
    have := gb_01 (¬ 0 < mpw (20 + pg))
    exact ⟨rfl, ⟨by omega, by omega⟩, ⟨by omega, by omega⟩, fun _ => by rw [e3]⟩
  · rw [e0] at ho
    obtain ⟨rfl, rfl⟩ := g3 hn ho
    exact ⟨rfl, ⟨by omega, by omega⟩, ⟨by omega, by omega⟩, fun h9 => by omega⟩
/-! rules -/
def iRx (rc fc : Int) (kd fl lm fs mrk mrb mrf mfr mfm : Int → Int) : Prop := iRu rc fc kd fl lm fs rc fc mrk mrb mrf mfr mfm ∧ ((0 ≤ rc ∧ rc ≤ 12) ∧ 0 ≤ fc ∧ fc ≤ 12) ∧ (∀ r, 0 ≤ r → r < rc → 0 ≤ kd r ∧ kd r ≤ 5) ∧ (∀ r, fl r = 0 ∨ fl r = 1) ∧ (∀ r, inR (lm r)) ∧ (∀ r, inR (mrb r)) ∧ (∀ r, mrf r = 0 ∨ mrf r = 1) ∧ ∀ i, 0 ≤ i → i < fc → inR (mfm i)
theorem gu_b {f : Int → Int} (h : ∀ q, f q = 0 ∨ f q = 1) {k v : Int} (hv : v = 0 ∨ v = 1) : ∀ q, gu f k v q = 0 ∨ gu f k v q = 1 := fun q => by
  by_cases e : q = k
  · subst e
    rw [gu_s]
    exact hv
  · rw [gu_w e]
    exact h q
theorem q_rule {rc fc : Int} {kd fl lm fs mrk mrb mrf mfr mfm : Int → Int} (H : iRx rc fc kd fl lm fs mrk mrb mrf mfr mfm) {k a b z kk rc2 : Int} {kd2 fl2 lm2 : Int → Int} (ha : inR a) (hb : b = 0 ∨ b = 1) (hl : l_rule rc fc kd fl lm fs k a b z kk rc2 kd2 fl2 lm2) {rv th rl : Int} {rk rb rf : Int → Int} (g1 : ¬ ((0 ≤ k ∧ k ≤ 5) ∧ 0 ≤ a) → th = 1 ∧ rv = 0 ∧ rl = rc ∧ rk = mrk ∧ rb = mrb ∧ rf = mrf) (g2 : (0 ≤ k ∧ k ≤ 5) ∧ 0 ≤ a → rc = 12 → th = 2 ∧ rv = 0 ∧ rl = rc ∧ rk = mrk ∧ rb = mrb ∧ rf = mrf)
    (g3 : (0 ≤ k ∧ k ≤ 5) ∧ 0 ≤ a → rc < 12 → th = 0 ∧ rv = rc ∧ rl = rc + 1 ∧ rk = gu mrk rc k ∧ rb = gu mrb rc a ∧ rf = gu mrf rc b) : (th = kk ∧ inR kk ∧ inR rv ∧ (kk = 0 → z = rv)) ∧ rl = rc2 ∧ iRx rc2 fc kd2 fl2 lm2 fs rk rb rf mfr mfm := by
  obtain ⟨⟨-, hr, hf⟩, hc, hk, hfl, hlm, hrb, hrf, hfm⟩ := H
  rcases hl with ⟨rfl, ho, ho2, ez, rfl, rfl, rfl, rfl⟩ | ⟨hk9, rfl, rfl, rfl, rfl⟩
  · obtain ⟨rfl, er, rfl, rfl, rfl, rfl⟩ := g3 ⟨⟨ho.1.1, by omega⟩, ho.2⟩ ho2
    refine ⟨⟨rfl, ⟨by omega, by omega⟩, ⟨by omega, by omega⟩, fun _ => ez.trans er.symm⟩, rfl, ⟨⟨rfl, rfl⟩, fun r r0 r1 => ?_, fun i i0 i1 => ?_⟩, ⟨⟨by omega, by omega⟩, hc.2⟩, fun r r0 r1 => ?_, gu_b hfl hb, gu_r hlm ha, gu_r hrb ha, gu_b hrf hb, hfm⟩
    · by_cases e : r = rc
      · subst e
        rw [gu_s, gu_s, gu_s, gu_s, gu_s, gu_s]
        exact ⟨rfl, rfl, rfl⟩
      · rw [gu_w e, gu_w e, gu_w e, gu_w e, gu_w e, gu_w e]
        exact hr r r0 (by omega)
    · obtain ⟨b1, b2, b3, b4⟩ := hf i i0 i1
      rw [gu_w (show mfr i ≠ rc by omega), gu_w (show mfr i ≠ rc by omega)]
      exact ⟨⟨b1.1, by omega⟩, b2, b3, b4⟩
    · by_cases e : r = rc
      · subst e
        rw [gu_s]
        exact ⟨by omega, by omega⟩
      · rw [gu_w e]
        exact hk r r0 (by omega)
  · rcases hk9 with ⟨rfl, ho⟩ | ⟨rfl, ho, ho2⟩
    · obtain ⟨rfl, rfl, rfl, rfl, rfl, rfl⟩ := g1 (fun h9 => ho ⟨⟨h9.1.1, by omega⟩, h9.2⟩)
      exact ⟨⟨rfl, ⟨by omega, by omega⟩, ⟨by omega, by omega⟩, fun h9 => by omega⟩, rfl, ⟨⟨rfl, rfl⟩, hr, hf⟩, hc, hk, hfl, hlm, hrb, hrf, hfm⟩
    · obtain ⟨rfl, rfl, rfl, rfl, rfl, rfl⟩ := g2 ⟨⟨ho.1.1, by omega⟩, ho.2⟩ ho2
      exact ⟨⟨rfl, ⟨by omega, by omega⟩, ⟨by omega, by omega⟩, fun h9 => by omega⟩, rfl, ⟨⟨rfl, rfl⟩, hr, hf⟩, hc, hk, hfl, hlm, hrb, hrf, hfm⟩
theorem iRx_fs {rc fc : Int} {kd fl lm fs mrk mrb mrf mfr mfm : Int → Int} (H : iRx rc fc kd fl lm fs mrk mrb mrf mfr mfm) {i k : Int} (h : (0 ≤ i ∧ i < fc) ∧ 0 ≤ k ∧ k < 3) : inR (fs (i * 3 + k)) := by
  obtain ⟨⟨-, hr, hf⟩, hc, hk, hfl, hlm, hrb, hrf, hfm⟩ := H
  obtain ⟨b1, b2, b3, b4⟩ := hf i h.1.1 h.1.2
  have h5 : k = 0 ∨ k = 1 ∨ k = 2 := by omega
  rcases h5 with rfl | rfl | rfl
  · rw [Int.add_zero, b2]
    exact ⟨by omega, by omega⟩
  · rw [b3, (hr _ b1.1 b1.2).1]
    have := hk _ b1.1 b1.2
    split <;> exact ⟨by omega, by omega⟩
  · rw [b4]
    exact hfm i h.1.1 h.1.2
theorem q_fault {rc fc : Int} {kd fl lm fs mrk mrb mrf mfr mfm : Int → Int} (H : iRx rc fc kd fl lm fs mrk mrb mrf mfr mfm) {i k z kk : Int} (hl : l_fault rc fc kd fl lm fs i k z kk) {rv th : Int} (g1 : ¬ ((0 ≤ i ∧ i < fc) ∧ 0 ≤ k ∧ k ≤ 2) → th = 1 ∧ rv = 0) (g2 : ((0 ≤ i ∧ i < fc) ∧ 0 ≤ k ∧ k ≤ 2) → th = 0 ∧ (k = 0 → rv = mfr i) ∧ (k = 1 → rv = if mrf (mfr i) = 0 then mrk (mfr i) else -1) ∧ (k = 2 → rv = mfm i)) : th = kk ∧ inR kk ∧ inR rv ∧ (kk = 0 → z = rv) := by
  rcases hl with ⟨rfl, ho, rfl⟩ | ⟨rfl, ho⟩
  · have hin := iRx_fs H ho
    obtain ⟨⟨-, hr, hf⟩, -⟩ := H
    obtain ⟨b1, b2, b3, b4⟩ := hf i ho.1.1 ho.1.2
    obtain ⟨rfl, a1, a2, a3⟩ := g2 ⟨ho.1, ho.2.1, by omega⟩
    have h5 : k = 0 ∨ k = 1 ∨ k = 2 := by omega
    have e9 : fs (i * 3 + k) = rv := by
      rcases h5 with rfl | rfl | rfl
      · rw [a1 rfl, Int.add_zero]
        exact b2
      · rw [a2 rfl]
        exact b3
      · rw [a3 rfl]
        exact b4
    rw [← e9]
    exact ⟨rfl, ⟨by omega, by omega⟩, hin, fun _ => rfl⟩
  · obtain ⟨rfl, rfl⟩ := g1 (fun h9 => ho ⟨h9.1, h9.2.1, by omega⟩)
    exact ⟨rfl, ⟨by omega, by omega⟩, ⟨by omega, by omega⟩, fun h9 => by omega⟩
theorem q_check {rc fc : Int} {kd fl lm fs mrk mrb mrf mfr mfm : Int → Int} (H : iRx rc fc kd fl lm fs mrk mrb mrf mfr mfm) {fc2 fl2 : Int} {fv fu fs2 fr2 fm2 : Int → Int} (hc : cCk kd lm fl fv rc fc2 fs2) (hfc : 0 ≤ fc2 ∧ fc2 ≤ 12) (hm : mCk mrb mrf fu rc fl2 fr2 fm2) (hv : ∀ r, 0 ≤ r → r < rc → fl r = 0 → fv r = fu r ∧ inR (fv r)) : fl2 = fc2 ∧ iRx rc fc2 kd fl lm fs2 mrk mrb mrf fr2 fm2 := by
  obtain ⟨⟨-, hr, hf⟩, hb, hk, hfl, hlm, hrb, hrf, hfm⟩ := H
  obtain ⟨e1, e2⟩ := iCk hb.1.1 hr hfl (fun r r0 r1 r2 => (hv r r0 r1 r2).1) hc hm
  refine ⟨e1, ⟨⟨rfl, rfl⟩, hr, e2⟩, ⟨hb.1, hfc⟩, hk, hfl, hlm, hrb, hrf, fun i i0 i1 => ?_⟩
  obtain ⟨a1, a2⟩ := hc
  rw [a1] at i1
  obtain ⟨r, r0, r1, r2, r3⟩ := gsm_sur (f := fun r => fl r = 1 ∨ lm r < fv r) rc.toNat i i0 i1
  obtain ⟨-, -, b3⟩ := a2 r r0 (by omega) r2
  have b4 := (e2 i i0 (by rw [a1]; exact i1)).2.2.2
  rw [r3, b4] at b3
  rw [b3]
  by_cases h9 : fl r = 0
  · rw [if_pos h9]
    exact (hv r r0 (by omega) h9).2
  · rw [if_neg h9]
    exact ⟨by omega, by omega⟩
/-! approvals -/
def iAx (ct ed : Int → Int) (ppl : Int → Int → Int) (med map mwh : Int → Int) : Prop := (∀ p, 0 ≤ p → p < 20 → map p = ct p ∧ (ct p = 0 → med p = -1) ∧ (0 < ct p → med p = ed p ∧ 0 ≤ ed p) ∧ ∀ j, 0 ≤ j → j < ct p → mwh (6 * p + j) = ppl p j) ∧ (∀ q, 0 ≤ ct q ∧ ct q ≤ 6) ∧ (∀ q, 0 ≤ map q ∧ map q ≤ 6) ∧ (∀ q, inR (ed q)) ∧ (∀ q, inR (med q) ∧ inR (mwh q)) ∧ ∀ p j, inR (ppl p j)
theorem q_approve {ct ed : Int → Int} {ppl : Int → Int → Int} {med map mwh : Int → Int} (H : iAx ct ed ppl med map mwh) {p e who z kk : Int} {ct2 ed2 : Int → Int} {ppl2 : Int → Int → Int} (he : inR e) (hwho : inR who) (hl : l_approve ct ed ppl p e who z kk ct2 ed2 ppl2) {rv th : Int} {ed3 wh3 ap3 : Int → Int} (g1 : ¬ (0 ≤ p ∧ p ≤ 19) → th = 1 ∧ rv = 0 ∧ ed3 = med ∧ wh3 = mwh ∧ ap3 = map) (g2 : 0 ≤ p ∧ p ≤ 19 → e < 0 → th = 2 ∧ rv = 0 ∧ ed3 = med ∧ wh3 = mwh ∧ ap3 = map)
    (g3 : 0 ≤ p ∧ p ≤ 19 → 0 ≤ e → (e < med p ∨ ∃ j : Int, 0 ≤ j ∧ j < (if e = med p then map p else 0) ∧ mwh (6 * p + j) = who) → th = 0 ∧ rv = 0 ∧ ed3 = med ∧ wh3 = mwh ∧ ap3 = map) (g4 : 0 ≤ p ∧ p ≤ 19 → 0 ≤ e → ¬ (e < med p ∨ ∃ j : Int, 0 ≤ j ∧ j < (if e = med p then map p else 0) ∧ mwh (6 * p + j) = who) → (if e = med p then map p else 0) = 6 → th = 3 ∧ rv = 0 ∧ ed3 = med ∧ wh3 = mwh ∧ ap3 = map)
    (g5 : 0 ≤ p ∧ p ≤ 19 → 0 ≤ e → ¬ (e < med p ∨ ∃ j : Int, 0 ≤ j ∧ j < (if e = med p then map p else 0) ∧ mwh (6 * p + j) = who) → (if e = med p then map p else 0) ≠ 6 → th = 0 ∧ rv = 1 ∧ ed3 = gu med p e ∧ wh3 = gu mwh (6 * p + (if e = med p then map p else 0)) who ∧ ap3 = gu map p ((if e = med p then map p else 0) + 1)) :
    (th = kk ∧ inR kk ∧ inR rv ∧ (kk = 0 → z = rv)) ∧ iAx ct2 ed2 ppl2 ed3 ap3 wh3 := by
  obtain ⟨ha, hct, hmp, hed, hmw, hpp⟩ := H
  have key : 0 ≤ p → p < 20 → 0 ≤ e → (if e = med p then map p else 0) = (if gb (gLt ct ed p e) = 1 then ct p else 0) ∧ ((e < med p ∨ ∃ j : Int, 0 ≤ j ∧ j < (if e = med p then map p else 0) ∧ mwh (6 * p + j) = who) ↔ ((0 < ct p ∧ e < ed p) ∨ (gLt ct ed p e ∧ ∃ j : Int, 0 ≤ j ∧ j < ct p ∧ ppl p j = who))) ∧ (gLt ct ed p e → (if gb (gLt ct ed p e) = 1 then ct p else 0) = ct p) := by
    intro p0 p1 e0
    obtain ⟨a1, a2, a3, a4⟩ := ha p p0 p1
    have hc := hct p
    by_cases hz : ct p = 0
    · have hn : ¬ gLt ct ed p e := fun h9 => by
        have := h9.1
        omega
      have hm := a2 hz
      rw [gb_f hn, if_neg (show ¬ e = med p by omega), if_neg (show ¬ ((0 : Int) = 1) by omega)]
      refine ⟨rfl, ⟨fun h9 => ?_, fun h9 => ?_⟩, fun h9 => absurd h9 hn⟩
      · rcases h9 with h9 | ⟨j, j0, j1, -⟩ <;> omega
      · rcases h9 with h9 | ⟨h9, -⟩
        · omega
        · exact absurd h9 hn
    · obtain ⟨b1, b2⟩ := a3 (by omega)
      by_cases he2 : e = ed p
      · have hy : gLt ct ed p e := ⟨by omega, he2.symm⟩
        rw [gb_t hy, if_pos (show e = med p by omega), if_pos rfl, a1]
        refine ⟨rfl, ⟨fun h9 => ?_, fun h9 => ?_⟩, fun _ => rfl⟩
        · rcases h9 with h9 | ⟨j, j0, j1, j2⟩
          · omega
          · exact Or.inr ⟨hy, j, j0, j1, by rw [← a4 j j0 j1]; exact j2⟩
        · rcases h9 with h9 | ⟨-, j, j0, j1, j2⟩
          · omega
          · exact Or.inr ⟨j, j0, j1, by rw [a4 j j0 j1]; exact j2⟩
      · have hn : ¬ gLt ct ed p e := fun h9 => he2 h9.2.symm
        rw [gb_f hn, if_neg (show ¬ e = med p by omega), if_neg (show ¬ ((0 : Int) = 1) by omega)]
        refine ⟨rfl, ⟨fun h9 => ?_, fun h9 => ?_⟩, fun h9 => absurd h9 hn⟩
        · rcases h9 with h9 | ⟨j, j0, j1, -⟩
          · exact Or.inl ⟨by omega, by omega⟩
          · omega
        · rcases h9 with h9 | ⟨h9, -⟩
          · exact Or.inl (by omega)
          · exact absurd h9 hn
  rcases hl with ⟨rfl, ho, hold, rfl, rfl, rfl, rfl⟩ | ⟨rfl, ho, hold, hfull, rfl, rfl, rfl, rfl⟩ | ⟨hk, rfl, rfl, rfl⟩
  · obtain ⟨k1, k2, k3⟩ := key ho.1.1 ho.1.2 ho.2
    obtain ⟨rfl, rfl, rfl, rfl, rfl⟩ := g3 ⟨ho.1.1, by omega⟩ ho.2 (k2.mpr hold)
    exact ⟨⟨rfl, ⟨by omega, by omega⟩, ⟨by omega, by omega⟩, fun _ => rfl⟩, ha, hct, hmp, hed, hmw, hpp⟩
  · obtain ⟨k1, k2, k3⟩ := key ho.1.1 ho.1.2 ho.2
    have hK : 0 ≤ (if gb (gLt ct ed p e) = 1 then ct p else 0) ∧ (if gb (gLt ct ed p e) = 1 then ct p else 0) < 6 ∧ ((if gb (gLt ct ed p e) = 1 then ct p else 0) = 0 ∨ (if gb (gLt ct ed p e) = 1 then ct p else 0) = ct p) := by
      have hc := hct p
      rcases gb_01 (gLt ct ed p e) with h9 | h9
      · rw [h9, if_neg (show ¬ ((0 : Int) = 1) by omega)]
        exact ⟨by omega, by omega, Or.inl rfl⟩
      · rw [h9, if_pos rfl]
        have h8 : ¬ 6 ≤ ct p := fun h7 => hfull ⟨gb_1.mp h9, h7⟩
        exact ⟨by omega, by omega, Or.inr rfl⟩
    obtain ⟨rfl, rfl, rfl, rfl, rfl⟩ := g5 ⟨ho.1.1, by omega⟩ ho.2 (fun h9 => hold (k2.mp h9)) (by rw [k1]; omega)
    rw [k1]
    generalize (if gb (gLt ct ed p e) = 1 then ct p else 0) = K at hK ⊢
    refine ⟨⟨rfl, ⟨by omega, by omega⟩, ⟨by omega, by omega⟩, fun _ => rfl⟩, fun q q0 q1 => ?_, gu_g hct ⟨by omega, by omega⟩, gu_g hmp ⟨by omega, by omega⟩, gu_r hed he, fun q => ⟨gu_r (fun q => (hmw q).1) he q, gu_r (fun q => (hmw q).2) hwho q⟩, fun q j => ?_⟩
    · obtain ⟨a1, a2, a3, a4⟩ := ha q q0 q1
      by_cases e9 : q = p
      · subst e9
        rw [gu_s, gu_s, gu_s, gu_s]
        refine ⟨rfl, fun h9 => by omega, fun _ => ⟨rfl, ho.2⟩, fun j j0 j1 => ?_⟩
        show _ = gu2 ppl q K who q j
        unfold gu2
        rw [if_pos rfl]
        by_cases e8 : j = K
        · subst e8
          rw [gu_s, gu_s]
        · rw [gu_w (show 6 * q + j ≠ 6 * q + K by omega), gu_w e8]
          exact a4 j j0 (by omega)
      · rw [gu_w e9, gu_w e9, gu_w e9, gu_w e9]
        refine ⟨a1, a2, a3, fun j j0 j1 => ?_⟩
        have hc := hct q
        rw [gu_w (show 6 * q + j ≠ 6 * p + K by omega)]
        show _ = gu2 ppl p K who q j
        unfold gu2
        rw [if_neg e9]
        exact a4 j j0 j1
    · show inR (gu2 ppl p K who q j)
      unfold gu2
      by_cases e9 : q = p
      · rw [if_pos e9]
        exact gu_r (hpp p) hwho j
      · rw [if_neg e9]
        exact hpp q j
  · rcases hk with ⟨rfl, hk⟩ | ⟨rfl, hk, hk2⟩ | ⟨rfl, hk, hk2, hold, hlt, h6⟩
    · obtain ⟨rfl, rfl, rfl, rfl, rfl⟩ := g1 (by omega)
      exact ⟨⟨rfl, ⟨by omega, by omega⟩, ⟨by omega, by omega⟩, fun h9 => by omega⟩, ha, hct, hmp, hed, hmw, hpp⟩
    · obtain ⟨rfl, rfl, rfl, rfl, rfl⟩ := g2 (by omega) hk2
      exact ⟨⟨rfl, ⟨by omega, by omega⟩, ⟨by omega, by omega⟩, fun h9 => by omega⟩, ha, hct, hmp, hed, hmw, hpp⟩
    · obtain ⟨k1, k2, k3⟩ := key hk.1 hk.2 hk2
      have hc := hct p
      obtain ⟨rfl, rfl, rfl, rfl, rfl⟩ := g4 (by omega) hk2 (fun h9 => hold (k2.mp h9)) (by rw [k1, k3 hlt]; omega)
      exact ⟨⟨rfl, ⟨by omega, by omega⟩, ⟨by omega, by omega⟩, fun h9 => by omega⟩, ha, hct, hmp, hed, hmw, hpp⟩
theorem q_approved {ct ed : Int → Int} {ppl : Int → Int → Int} {med map mwh : Int → Int} (H : iAx ct ed ppl med map mwh) {p z kk : Int} (hl : l_approved ct ed ppl p z kk) {rv th : Int} (g1 : ¬ (0 ≤ p ∧ p ≤ 19) → th = 1 ∧ rv = 0) (g2 : (0 ≤ p ∧ p ≤ 19) → th = 0 ∧ rv = gb (2 ≤ map p)) : th = kk ∧ inR kk ∧ (rv = 0 ∨ rv = 1) ∧ (kk = 0 → z = rv) := by
  rcases hl with ⟨rfl, ho, rfl⟩ | ⟨rfl, ho⟩
  · obtain ⟨rfl, rfl⟩ := g2 (by omega)
    exact ⟨rfl, ⟨by omega, by omega⟩, gb_01 _, fun _ => by rw [(H.1 p ho.1 ho.2).1]⟩
  · obtain ⟨rfl, rfl⟩ := g1 (by omega)
    exact ⟨rfl, ⟨by omega, by omega⟩, Or.inl rfl, fun h9 => by omega⟩
