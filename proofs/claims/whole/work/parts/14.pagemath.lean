/-! pages, rules: pure words -/
def wdq (z : Int) : Option Nat := if z = 0 then some 26 else some 27
def htq (z : Int) : Option Nat := if z = 0 then some 29 else some 30
/-- page p is on one side alone; it has other sizes -/
def gms (w0 w1 : Int → Int) (p : Int) : Prop := ¬ (0 < w0 p ↔ 0 < w1 p)
def gos (w0 w1 h0 h1 : Int → Int) (p : Int) : Prop := 0 < w0 p ∧ 0 < w1 p ∧ (w0 p ≠ w1 p ∨ h0 p ≠ h1 p)
theorem gsm_next (f : Int → Int) {p d : Int} (hp : 0 ≤ p) (hd : d = gsm f p.toNat) : d + f p = gsm f (p + 1).toNat := by
  rw [show (p + 1).toNat = p.toNat + 1 by omega]
  show _ = gsm f p.toNat + f ((p.toNat : Nat) : Int)
  rw [show ((p.toNat : Nat) : Int) = p by omega, hd]
theorem gsm_gb (f : Int → Prop) (n : Nat) : 0 ≤ gsm (fun q => gb (f q)) n ∧ gsm (fun q => gb (f q)) n ≤ n := gsm_nn (fun _ => gb_01 _) n
theorem gsm_mono {f : Int → Int} (h : ∀ q, f q = 0 ∨ f q = 1) : ∀ (n m : Nat), n ≤ m → gsm f n ≤ gsm f m
  | n, 0, hl => by
    have : n = 0 := by omega
    subst this
    exact Int.le_refl _
  | n, m + 1, hl => by
    by_cases e : n = m + 1
    · subst e
      exact Int.le_refl _
    · have := gsm_mono h n m (by omega)
      have h2 := h m
      show gsm f n ≤ gsm f m + f m
      omega
/-- the k-th of those that hold is one place -/
theorem gsm_kth {f : Int → Prop} {a b k : Int} (a0 : 0 ≤ a) (b0 : 0 ≤ b) (ha : f a) (hb : f b) (ka : gsm (fun q => gb (f q)) a.toNat = k) (kb : gsm (fun q => gb (f q)) b.toNat = k) : a = b := by
  have key : ∀ a b : Int, 0 ≤ a → 0 ≤ b → f a → gsm (fun q => gb (f q)) a.toNat = k → gsm (fun q => gb (f q)) b.toNat = k → ¬ a < b := fun a b a0 b0 ha ka kb hl => by
    have h1 := gsm_mono (f := fun q => gb (f q)) (fun _ => gb_01 _) (a.toNat + 1) b.toNat (by omega)
    have h2 : gsm (fun q => gb (f q)) (a.toNat + 1) = gsm (fun q => gb (f q)) a.toNat + gb (f ((a.toNat : Nat) : Int)) := rfl
    rw [show ((a.toNat : Nat) : Int) = a by omega, gb_t ha] at h2
    omega
  have h1 := key a b a0 b0 ha ka kb
  have h2 := key b a b0 a0 hb kb ka
  omega
