abbrev ruW (rc fc : Int) (kd fl lm fs : Int → Int) : gW := [(31, gob 4 [gi rc, gi fc, gr 32, gr 33, gr 34, gr 35]), (32, gai 0 12 kd), (33, gai 1 12 fl), (34, gai 0 12 lm), (35, gai 0 36 fs)]
set_option maxHeartbeats 4000000 in
set_option maxRecDepth 100000 in
theorem c_X3_add (l : Launch) (D : va_G) (cA : Nat → ClassId) (rc : Int) (fc : Int) (kd : Int → Int) (fl : Int → Int) (lm : Int → Int) (fs : Int → Int) (k : Int) (a : Int) (f : Int) (hrc : 0 ≤ rc ∧ rc < 12) (hf : f = 0 ∨ f = 1) :
    gC l D cA yX3_add mX3_add (some .int) 0 0 [gr 31, gi k, gi a, gi f] (ruW rc fc kd fl lm fs) (fun r9 w9 => r9 = some (gi rc) ∧ w9 = ruW (rc + 1) fc (gu kd rc k) (gu fl rc f) (gu lm rc a) fs) := by
  refine gC_of rfl kX3_add rfl rfl (Nat.le_of_ble_eq_true rfl) (fun X ad hX hE => ?_)
  refine G.go hX 25 (ruW (rc + 1) fc (gu kd rc k) (gu fl rc f) (gu lm rc a) fs, 42, [(0, gr 31), (1, gi k), (2, gi a), (3, gi f), (4, gi rc)], [gi rc]) rfl ?_ ?_
  · refine ⟨?_, ?_, ?_, trivial⟩
    · omega
    · omega
    · omega
  exact g_iret hX hE rfl ⟨rfl, rfl⟩
set_option maxHeartbeats 4000000 in
set_option maxRecDepth 100000 in
theorem c_X3_tellFault (l : Launch) (D : va_G) (cA : Nat → ClassId) (rc : Int) (fc : Int) (kd : Int → Int) (fl : Int → Int) (lm : Int → Int) (fs : Int → Int) (i : Int) (k : Int) (hi : 0 ≤ i * 3 + k ∧ i * 3 + k < 36) :
    gC l D cA yX3_tellFault mX3_tellFault (some .int) 0 0 [gr 31, gi i, gi k] (ruW rc fc kd fl lm fs) (fun r9 w9 => r9 = some (gi (fs (i * 3 + k))) ∧ w9 = ruW rc fc kd fl lm fs) := by
  refine gC_of rfl kX3_tellFault rfl rfl (Nat.le_of_ble_eq_true rfl) (fun X ad hX hE => ?_)
  refine G.go hX 8 (ruW rc fc kd fl lm fs, 10, [(0, gr 31), (1, gi i), (2, gi k)], [gi (fs ((i * 3) + k))]) rfl ?_ ?_
  · refine ⟨?_, trivial⟩
    · omega
  exact g_iret hX hE rfl ⟨(congrArg (fun z => some (gi z)) (by first | rfl | (omega))), rfl⟩
set_option maxHeartbeats 4000000 in
set_option maxRecDepth 100000 in
theorem c_X3_forgetFaults (l : Launch) (D : va_G) (cA : Nat → ClassId) (rc : Int) (fc : Int) (kd : Int → Int) (fl : Int → Int) (lm : Int → Int) (fs : Int → Int)  :
    gC l D cA yX3_forgetFaults mX3_forgetFaults none 0 0 [gr 31] (ruW rc fc kd fl lm fs) (fun r9 w9 => r9 = none ∧ w9 = ruW rc 0 kd fl lm fs) := by
  refine gC_of rfl kX3_forgetFaults rfl rfl (Nat.le_of_ble_eq_true rfl) (fun X ad hX hE => ?_)
  refine G.go hX 3 (ruW rc 0 kd fl lm fs, 5, [(0, gr 31)], []) rfl trivial ?_
  exact g_vret hX hE rfl ⟨rfl, rfl⟩
set_option maxHeartbeats 4000000 in
set_option maxRecDepth 100000 in
theorem c_X3_append (l : Launch) (D : va_G) (cA : Nat → ClassId) (rc : Int) (fc : Int) (kd : Int → Int) (fl : Int → Int) (lm : Int → Int) (fs : Int → Int) (n : Int) (k : Int) (v : Int) (hfc : 0 ≤ fc ∧ fc < 12) :
    gC l D cA yX3_append mX3_append none 0 0 [gr 31, gi n, gi k, gi v] (ruW rc fc kd fl lm fs) (fun r9 w9 => r9 = none ∧ w9 = ruW rc (fc + 1) kd fl lm (gu (gu (gu fs (fc * 3) n) (fc * 3 + 1) k) (fc * 3 + 2) v)) := by
  refine gC_of rfl kX3_append rfl rfl (Nat.le_of_ble_eq_true rfl) (fun X ad hX hE => ?_)
  refine G.go hX 3 (ruW rc fc kd fl lm fs, 6, [(0, gr 31), (1, gi n), (2, gi k), (3, gi v)], [gi 12, gi fc]) rfl trivial ?_
  refine g_icmp_ge hX 55 rfl rfl ⟨by omega, by omega⟩ ⟨by omega, by omega⟩ (fun b6 => ?_) (fun b6 => ?_)
  ·
    exfalso
    omega
  ·
    refine G.go hX 30 (ruW rc (fc + 1) kd fl lm (gu (gu (gu fs (fc * 3) n) ((fc * 3) + 1) k) ((fc * 3) + 2) v), 55, [(0, gr 31), (1, gi n), (2, gi k), (3, gi v), (4, gi (fc * 3))], []) rfl ?_ ?_
    · refine ⟨?_, ?_, ?_, trivial⟩
      · omega
      · omega
      · omega
    exact g_vret hX hE rfl ⟨rfl, (by first | rfl | (omega))⟩
set_option maxHeartbeats 4000000 in
set_option maxRecDepth 100000 in
theorem c_X3_noteFailure (l : Launch) (D : va_G) (cA : Nat → ClassId) (rc : Int) (fc : Int) (kd : Int → Int) (fl : Int → Int) (lm : Int → Int) (fs : Int → Int) (n : Int) (hfc : 0 ≤ fc ∧ fc < 12) :
    gC l D cA yX3_noteFailure mX3_noteFailure none 0 0 [gr 31, gi n] (ruW rc fc kd fl lm fs) (fun r9 w9 => r9 = none ∧ w9 = ruW rc (fc + 1) kd fl lm (gu (gu (gu fs (fc * 3) n) (fc * 3 + 1) (-1)) (fc * 3 + 2) 0)) := by
  refine gC_of rfl kX3_noteFailure rfl rfl (Nat.le_of_ble_eq_true rfl) (fun X ad hX hE => ?_)
  refine G.go hX 4 (ruW rc fc kd fl lm fs, 4, [(0, gr 31), (1, gi n)], [gi 0, gi (-1), gi n, gr 31]) rfl trivial ?_
  refine G.callV (av := [gi n, gi (-1), gi 0]) (o := 31) (st := []) hX rfl (fun l D cA => c_X3_append l D cA rc fc kd fl lm fs n (-1) 0 (by first | assumption | omega)) (by decide +kernel) aX3_append rfl rfl rfl ⟨rfl, rfl⟩ (by decide) (Nat.le_of_ble_eq_true rfl) [0, 1, 2, 3, 4] [] [] rfl rfl rfl (fun r w' hp => ?_)
  obtain ⟨rfl, rfl⟩ := hp
  show G X mX3_noteFailure ad 0 0 (ruW rc (fc + 1) kd fl lm (gu (gu (gu fs (fc * 3) n) (fc * 3 + 1) (-1)) (fc * 3 + 2) 0), 7, [(0, gr 31), (1, gi n)], [])
  exact g_vret hX hE rfl ⟨rfl, rfl⟩
set_option maxHeartbeats 4000000 in
set_option maxRecDepth 100000 in
theorem c_X3_judge (l : Launch) (D : va_G) (cA : Nat → ClassId) (rc : Int) (fc : Int) (kd : Int → Int) (fl : Int → Int) (lm : Int → Int) (fs : Int → Int) (n : Int) (v : Int) (hfc : 0 ≤ fc ∧ fc < 12) (hn : 0 ≤ n ∧ n < 12) (hv : inR v) (hlm : ∀ q, inR (lm q)) :
    gC l D cA yX3_judge mX3_judge none 0 0 [gr 31, gi n, gi v] (ruW rc fc kd fl lm fs) (fun r9 w9 => ∃ (fc2 : Int) (fs2 : Int → Int), r9 = none ∧ w9 = ruW rc fc2 kd fl lm fs2 ∧ (lm n < v → fc2 = fc + 1 ∧ fs2 = gu (gu (gu fs (fc * 3) n) (fc * 3 + 1) (kd n)) (fc * 3 + 2) v) ∧ (¬ lm n < v → fc2 = fc ∧ fs2 = fs)) := by
  refine gC_of rfl kX3_judge rfl rfl (Nat.le_of_ble_eq_true rfl) (fun X ad hX hE => ?_)
  refine G.go hX 5 (ruW rc fc kd fl lm fs, 7, [(0, gr 31), (1, gi n), (2, gi v)], [gi (lm n), gi v]) rfl ?_ ?_
  · refine ⟨?_, trivial⟩
    · omega
  refine g_icmp_le hX 22 rfl rfl (by first | exact hlm _ | assumption) (by first | exact hlm _ | assumption) (fun b7 => ?_) (fun b7 => ?_)
  ·
    exact g_vret hX hE rfl ⟨fc, fs, rfl, rfl, fun h9 => by omega, fun _ => ⟨rfl, rfl⟩⟩
  ·
    refine G.go hX 7 (ruW rc fc kd fl lm fs, 19, [(0, gr 31), (1, gi n), (2, gi v)], [gi v, gi (kd n), gi n, gr 31]) rfl ?_ ?_
    · refine ⟨?_, trivial⟩
      · omega
    refine G.callV (av := [gi n, gi (kd n), gi v]) (o := 31) (st := []) hX rfl (fun l D cA => c_X3_append l D cA rc fc kd fl lm fs n (kd n) v (by first | assumption | omega)) (by decide +kernel) aX3_append rfl rfl rfl ⟨rfl, rfl⟩ (by decide) (Nat.le_of_ble_eq_true rfl) [0, 1, 2, 3, 4] [] [] rfl rfl rfl (fun r w' hp => ?_)
    obtain ⟨rfl, rfl⟩ := hp
    show G X mX3_judge ad 0 0 (ruW rc (fc + 1) kd fl lm (gu (gu (gu fs (fc * 3) n) (fc * 3 + 1) (kd n)) (fc * 3 + 2) v), 22, [(0, gr 31), (1, gi n), (2, gi v)], [])
    exact g_vret hX hE rfl ⟨_, _, rfl, rfl, fun _ => ⟨rfl, rfl⟩, fun h9 => by omega⟩
