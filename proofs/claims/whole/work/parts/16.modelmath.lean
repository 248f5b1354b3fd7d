/-! the model's look: met points, labels -/
def mMt (W H : Nat) (ne fa : Int) (pt : Int → Int) (s x y : Int) : Prop := ∃ a b : Int, (0 ≤ a ∧ a < W) ∧ (0 ≤ b ∧ b < H) ∧ (x - ne ≤ a ∧ a ≤ x + ne) ∧ (y - ne ≤ b ∧ b ≤ y + ne) ∧ gcl fa (pt (1024 * s + 32 * y + x)) (pt (1024 - 1024 * s + 32 * b + a))
def mMs (W H : Nat) (ne fa : Int) (pt : Int → Int) (s x y dy dx : Int) : Prop := ∃ a b : Int, (0 ≤ a ∧ a < W) ∧ (0 ≤ b ∧ b < H) ∧ (x - ne ≤ a ∧ a ≤ x + ne) ∧ (y - ne ≤ b ∧ b ≤ y + ne) ∧ gcl fa (pt (1024 * s + 32 * y + x)) (pt (1024 - 1024 * s + 32 * b + a)) ∧ (b < y + dy ∨ (b = y + dy ∧ a < x + dx))
theorem mMs_out {W H : Nat} {ne fa : Int} {pt : Int → Int} {s x y dy dx : Int} (h : ¬ ((0 ≤ x + dx ∧ x + dx < W) ∧ 0 ≤ y + dy ∧ y + dy < H)) : mMs W H ne fa pt s x y dy dx ↔ mMs W H ne fa pt s x y dy (dx + 1) := by
  refine ⟨fun ⟨a, b, h1, h2, h3, h4, h5, h6⟩ => ⟨a, b, h1, h2, h3, h4, h5, by omega⟩, fun ⟨a, b, h1, h2, h3, h4, h5, h6⟩ => ⟨a, b, h1, h2, h3, h4, h5, ?_⟩⟩
  by_cases e : b = y + dy ∧ a = x + dx
  · exact absurd ⟨⟨by omega, by omega⟩, by omega, by omega⟩ h
  · omega
theorem mMs_in {W H : Nat} {ne fa : Int} {pt : Int → Int} {s x y dy dx : Int} (h : (0 ≤ x + dx ∧ x + dx < W) ∧ 0 ≤ y + dy ∧ y + dy < H) (hx : -ne ≤ dx ∧ dx ≤ ne) (hy : -ne ≤ dy ∧ dy ≤ ne) : mMs W H ne fa pt s x y dy (dx + 1) ↔ (mMs W H ne fa pt s x y dy dx ∨ gcl fa (pt (1024 * s + 32 * y + x)) (pt (1024 - 1024 * s + 32 * (y + dy) + (x + dx)))) := by
  refine ⟨fun ⟨a, b, h1, h2, h3, h4, h5, h6⟩ => ?_, fun h9 => ?_⟩
  · by_cases e : b = y + dy ∧ a = x + dx
    · rw [e.1, e.2] at h5
      exact Or.inr h5
    · exact Or.inl ⟨a, b, h1, h2, h3, h4, h5, by omega⟩
  · rcases h9 with ⟨a, b, h1, h2, h3, h4, h5, h6⟩ | h9
    · exact ⟨a, b, h1, h2, h3, h4, h5, by omega⟩
    · exact ⟨x + dx, y + dy, h.1, h.2, by omega, by omega, h9, by omega⟩
theorem mMs_row {W H : Nat} {ne fa : Int} {pt : Int → Int} {s x y dy dx : Int} (h : ne < dx) : mMs W H ne fa pt s x y dy dx ↔ mMs W H ne fa pt s x y (dy + 1) (-ne) := by
  refine ⟨fun ⟨a, b, h1, h2, h3, h4, h5, h6⟩ => ⟨a, b, h1, h2, h3, h4, h5, by omega⟩, fun ⟨a, b, h1, h2, h3, h4, h5, h6⟩ => ⟨a, b, h1, h2, h3, h4, h5, by omega⟩⟩
theorem mMs_end {W H : Nat} {ne fa : Int} {pt : Int → Int} {s x y dy dx : Int} (h : ne < dy) : mMs W H ne fa pt s x y dy dx ↔ mMt W H ne fa pt s x y := by
  refine ⟨fun ⟨a, b, h1, h2, h3, h4, h5, h6⟩ => ⟨a, b, h1, h2, h3, h4, h5⟩, fun ⟨a, b, h1, h2, h3, h4, h5⟩ => ⟨a, b, h1, h2, h3, h4, h5, by omega⟩⟩
theorem mMs_0 {W H : Nat} {ne fa : Int} {pt : Int → Int} {s x y : Int} : ¬ mMs W H ne fa pt s x y (-ne) (-ne) := fun ⟨a, b, h1, h2, h3, h4, h5, h6⟩ => by omega
/-- (u, v) is a place that is near enough to (x, y) to belong together -/
def mwin (W H : Nat) (ne x y u v : Int) : Prop := (0 ≤ u ∧ u < W) ∧ (0 ≤ v ∧ v < H) ∧ (x - ne - 1 ≤ u ∧ u ≤ x + ne + 1) ∧ y - ne - 1 ≤ v ∧ v ≤ y + ne + 1
/-- the places before (row y, column x) have the least label round them -/
def mfx (W H : Nat) (ne : Int) (df lb : Int → Int) (y x : Int) : Prop := ∀ a b u v : Int, (0 ≤ a ∧ a < W) → (0 ≤ b ∧ b < H) → (b < y ∨ (b = y ∧ a < x)) → mwin W H ne a b u v → df (32 * b + a) = 1 → df (32 * v + u) = 1 → lb (32 * b + a) ≤ lb (32 * v + u)
theorem gu_id {f : Int → Int} {k : Int} : gu f k (f k) = f := by
  funext j
  unfold gu
  split
  · next h => rw [h]
  · rfl
theorem gsm_le0 {f : Int → Int} (h : ∀ q, 0 ≤ f q) : ∀ n : Nat, 0 ≤ gsm f n
  | 0 => Int.le_refl _
  | n + 1 => by
    have := gsm_le0 h n
    have := h n
    show 0 ≤ gsm f n + f n
    omega
