theorem c_X0_isOlder_x (l : Launch) (D : va_G) (cA : Nat → ClassId) (ct ed : Int → Int) (ppl : Int → Int → Int) (p e : Int) (hp : 0 ≤ p ∧ p < 20) (hct : ∀ q : Int, 0 ≤ ct q ∧ ct q ≤ 6) (hed : ∀ q : Int, inR (ed q)) (he : inR e) :
    gC l D cA yX0_isOlder mX0_isOlder (some .boolean) 0 0 [gr 36, gi p, gi e] (apX ct ed ppl) (fun r9 w9 => r9 = some (gi (gb (0 < ct p ∧ e < ed p))) ∧ w9 = apX ct ed ppl) := c_X0_isOlder l D cA ct ed (ppl 0) (ppl 1) (ppl 2) (ppl 3) (ppl 4) (ppl 5) (ppl 6) (ppl 7) (ppl 8) (ppl 9) (ppl 10) (ppl 11) (ppl 12) (ppl 13) (ppl 14) (ppl 15) (ppl 16) (ppl 17) (ppl 18) (ppl 19) p e hp hct hed he
theorem c_X0_isFull_x (l : Launch) (D : va_G) (cA : Nat → ClassId) (ct ed : Int → Int) (ppl : Int → Int → Int) (p e : Int) (hp : 0 ≤ p ∧ p < 20) (hct : ∀ q : Int, 0 ≤ ct q ∧ ct q ≤ 6) (hed : ∀ q : Int, inR (ed q)) (he : inR e) :
    gC l D cA yX0_isFull mX0_isFull (some .boolean) 0 0 [gr 36, gi p, gi e] (apX ct ed ppl) (fun r9 w9 => r9 = some (gi (gb (gLt ct ed p e ∧ 6 ≤ ct p))) ∧ w9 = apX ct ed ppl) := c_X0_isFull l D cA ct ed (ppl 0) (ppl 1) (ppl 2) (ppl 3) (ppl 4) (ppl 5) (ppl 6) (ppl 7) (ppl 8) (ppl 9) (ppl 10) (ppl 11) (ppl 12) (ppl 13) (ppl 14) (ppl 15) (ppl 16) (ppl 17) (ppl 18) (ppl 19) p e hp hct hed he
set_option maxHeartbeats 4000000 in
theorem c_X0_has_x (l : Launch) (D : va_G) (cA : Nat → ClassId) (ct ed : Int → Int) (ppl : Int → Int → Int) (p e who : Int) (hp : 0 ≤ p ∧ p < 20) (hct : ∀ q : Int, 0 ≤ ct q ∧ ct q ≤ 6) (hed : ∀ q : Int, inR (ed q)) (he : inR e) (hq : ∀ p j : Int, inR (ppl p j)) (hw : inR who) :
    gC l D cA yX0_has mX0_has (some .boolean) 0 0 [gr 36, gi p, gi e, gi who] (apX ct ed ppl) (fun r9 w9 => r9 = some (gi (gb (gLt ct ed p e ∧ ∃ j : Int, 0 ≤ j ∧ j < ct p ∧ ppl p j = who))) ∧ w9 = apX ct ed ppl) := by
  rcases (show p = 0 ∨ p = 1 ∨ p = 2 ∨ p = 3 ∨ p = 4 ∨ p = 5 ∨ p = 6 ∨ p = 7 ∨ p = 8 ∨ p = 9 ∨ p = 10 ∨ p = 11 ∨ p = 12 ∨ p = 13 ∨ p = 14 ∨ p = 15 ∨ p = 16 ∨ p = 17 ∨ p = 18 ∨ p = 19 by omega) with rfl | rfl | rfl | rfl | rfl | rfl | rfl | rfl | rfl | rfl | rfl | rfl | rfl | rfl | rfl | rfl | rfl | rfl | rfl | rfl
  · exact c_X0_has_0 l D cA ct ed (ppl 0) (ppl 1) (ppl 2) (ppl 3) (ppl 4) (ppl 5) (ppl 6) (ppl 7) (ppl 8) (ppl 9) (ppl 10) (ppl 11) (ppl 12) (ppl 13) (ppl 14) (ppl 15) (ppl 16) (ppl 17) (ppl 18) (ppl 19) e who hct hed he (hq 0) hw
  · exact c_X0_has_1 l D cA ct ed (ppl 0) (ppl 1) (ppl 2) (ppl 3) (ppl 4) (ppl 5) (ppl 6) (ppl 7) (ppl 8) (ppl 9) (ppl 10) (ppl 11) (ppl 12) (ppl 13) (ppl 14) (ppl 15) (ppl 16) (ppl 17) (ppl 18) (ppl 19) e who hct hed he (hq 1) hw
  · exact c_X0_has_2 l D cA ct ed (ppl 0) (ppl 1) (ppl 2) (ppl 3) (ppl 4) (ppl 5) (ppl 6) (ppl 7) (ppl 8) (ppl 9) (ppl 10) (ppl 11) (ppl 12) (ppl 13) (ppl 14) (ppl 15) (ppl 16) (ppl 17) (ppl 18) (ppl 19) e who hct hed he (hq 2) hw
  · exact c_X0_has_3 l D cA ct ed (ppl 0) (ppl 1) (ppl 2) (ppl 3) (ppl 4) (ppl 5) (ppl 6) (ppl 7) (ppl 8) (ppl 9) (ppl 10) (ppl 11) (ppl 12) (ppl 13) (ppl 14) (ppl 15) (ppl 16) (ppl 17) (ppl 18) (ppl 19) e who hct hed he (hq 3) hw
  · exact c_X0_has_4 l D cA ct ed (ppl 0) (ppl 1) (ppl 2) (ppl 3) (ppl 4) (ppl 5) (ppl 6) (ppl 7) (ppl 8) (ppl 9) (ppl 10) (ppl 11) (ppl 12) (ppl 13) (ppl 14) (ppl 15) (ppl 16) (ppl 17) (ppl 18) (ppl 19) e who hct hed he (hq 4) hw
  · exact c_X0_has_5 l D cA ct ed (ppl 0) (ppl 1) (ppl 2) (ppl 3) (ppl 4) (ppl 5) (ppl 6) (ppl 7) (ppl 8) (ppl 9) (ppl 10) (ppl 11) (ppl 12) (ppl 13) (ppl 14) (ppl 15) (ppl 16) (ppl 17) (ppl 18) (ppl 19) e who hct hed he (hq 5) hw
  · exact c_X0_has_6 l D cA ct ed (ppl 0) (ppl 1) (ppl 2) (ppl 3) (ppl 4) (ppl 5) (ppl 6) (ppl 7) (ppl 8) (ppl 9) (ppl 10) (ppl 11) (ppl 12) (ppl 13) (ppl 14) (ppl 15) (ppl 16) (ppl 17) (ppl 18) (ppl 19) e who hct hed he (hq 6) hw
  · exact c_X0_has_7 l D cA ct ed (ppl 0) (ppl 1) (ppl 2) (ppl 3) (ppl 4) (ppl 5) (ppl 6) (ppl 7) (ppl 8) (ppl 9) (ppl 10) (ppl 11) (ppl 12) (ppl 13) (ppl 14) (ppl 15) (ppl 16) (ppl 17) (ppl 18) (ppl 19) e who hct hed he (hq 7) hw
  · exact c_X0_has_8 l D cA ct ed (ppl 0) (ppl 1) (ppl 2) (ppl 3) (ppl 4) (ppl 5) (ppl 6) (ppl 7) (ppl 8) (ppl 9) (ppl 10) (ppl 11) (ppl 12) (ppl 13) (ppl 14) (ppl 15) (ppl 16) (ppl 17) (ppl 18) (ppl 19) e who hct hed he (hq 8) hw
  · exact c_X0_has_9 l D cA ct ed (ppl 0) (ppl 1) (ppl 2) (ppl 3) (ppl 4) (ppl 5) (ppl 6) (ppl 7) (ppl 8) (ppl 9) (ppl 10) (ppl 11) (ppl 12) (ppl 13) (ppl 14) (ppl 15) (ppl 16) (ppl 17) (ppl 18) (ppl 19) e who hct hed he (hq 9) hw
  · exact c_X0_has_10 l D cA ct ed (ppl 0) (ppl 1) (ppl 2) (ppl 3) (ppl 4) (ppl 5) (ppl 6) (ppl 7) (ppl 8) (ppl 9) (ppl 10) (ppl 11) (ppl 12) (ppl 13) (ppl 14) (ppl 15) (ppl 16) (ppl 17) (ppl 18) (ppl 19) e who hct hed he (hq 10) hw
  · exact c_X0_has_11 l D cA ct ed (ppl 0) (ppl 1) (ppl 2) (ppl 3) (ppl 4) (ppl 5) (ppl 6) (ppl 7) (ppl 8) (ppl 9) (ppl 10) (ppl 11) (ppl 12) (ppl 13) (ppl 14) (ppl 15) (ppl 16) (ppl 17) (ppl 18) (ppl 19) e who hct hed he (hq 11) hw
  · exact c_X0_has_12 l D cA ct ed (ppl 0) (ppl 1) (ppl 2) (ppl 3) (ppl 4) (ppl 5) (ppl 6) (ppl 7) (ppl 8) (ppl 9) (ppl 10) (ppl 11) (ppl 12) (ppl 13) (ppl 14) (ppl 15) (ppl 16) (ppl 17) (ppl 18) (ppl 19) e who hct hed he (hq 12) hw
  · exact c_X0_has_13 l D cA ct ed (ppl 0) (ppl 1) (ppl 2) (ppl 3) (ppl 4) (ppl 5) (ppl 6) (ppl 7) (ppl 8) (ppl 9) (ppl 10) (ppl 11) (ppl 12) (ppl 13) (ppl 14) (ppl 15) (ppl 16) (ppl 17) (ppl 18) (ppl 19) e who hct hed he (hq 13) hw
  · exact c_X0_has_14 l D cA ct ed (ppl 0) (ppl 1) (ppl 2) (ppl 3) (ppl 4) (ppl 5) (ppl 6) (ppl 7) (ppl 8) (ppl 9) (ppl 10) (ppl 11) (ppl 12) (ppl 13) (ppl 14) (ppl 15) (ppl 16) (ppl 17) (ppl 18) (ppl 19) e who hct hed he (hq 14) hw
  · exact c_X0_has_15 l D cA ct ed (ppl 0) (ppl 1) (ppl 2) (ppl 3) (ppl 4) (ppl 5) (ppl 6) (ppl 7) (ppl 8) (ppl 9) (ppl 10) (ppl 11) (ppl 12) (ppl 13) (ppl 14) (ppl 15) (ppl 16) (ppl 17) (ppl 18) (ppl 19) e who hct hed he (hq 15) hw
  · exact c_X0_has_16 l D cA ct ed (ppl 0) (ppl 1) (ppl 2) (ppl 3) (ppl 4) (ppl 5) (ppl 6) (ppl 7) (ppl 8) (ppl 9) (ppl 10) (ppl 11) (ppl 12) (ppl 13) (ppl 14) (ppl 15) (ppl 16) (ppl 17) (ppl 18) (ppl 19) e who hct hed he (hq 16) hw
  · exact c_X0_has_17 l D cA ct ed (ppl 0) (ppl 1) (ppl 2) (ppl 3) (ppl 4) (ppl 5) (ppl 6) (ppl 7) (ppl 8) (ppl 9) (ppl 10) (ppl 11) (ppl 12) (ppl 13) (ppl 14) (ppl 15) (ppl 16) (ppl 17) (ppl 18) (ppl 19) e who hct hed he (hq 17) hw
  · exact c_X0_has_18 l D cA ct ed (ppl 0) (ppl 1) (ppl 2) (ppl 3) (ppl 4) (ppl 5) (ppl 6) (ppl 7) (ppl 8) (ppl 9) (ppl 10) (ppl 11) (ppl 12) (ppl 13) (ppl 14) (ppl 15) (ppl 16) (ppl 17) (ppl 18) (ppl 19) e who hct hed he (hq 18) hw
  · exact c_X0_has_19 l D cA ct ed (ppl 0) (ppl 1) (ppl 2) (ppl 3) (ppl 4) (ppl 5) (ppl 6) (ppl 7) (ppl 8) (ppl 9) (ppl 10) (ppl 11) (ppl 12) (ppl 13) (ppl 14) (ppl 15) (ppl 16) (ppl 17) (ppl 18) (ppl 19) e who hct hed he (hq 19) hw
/-- row p of the people, with w at k -/
def gu2 (f : Int → Int → Int) (p k w : Int) : Int → Int → Int := fun a => if a = p then gu (f p) k w else f a
theorem gC_post {l : Launch} {D : va_G} {cA : Nat → ClassId} {y : MethodName} {mm : gM} {ret : Option FieldType} {mc ms : Nat} {av : List gV} {w : gW} {post post' : Option gV → gW → Prop} (h : gC l D cA y mm ret mc ms av w post) (hp : ∀ r w', post r w' → post' r w') : gC l D cA y mm ret mc ms av w post' := by
  intro ad sz
  have h1 := h ad sz
  unfold Met at *
  intro p e ha hc hk s m args below hf happ hP hK
  obtain ⟨t, o, a1, a2, a3, ⟨⟨r, w1, b1, b2, b3⟩, b4⟩, b5⟩ := h1 p e ha hc hk s m args below hf happ hP hK
  exact ⟨t, o, a1, a2, a3, ⟨⟨r, w1, b1, hp r w1 b2, b3⟩, b4⟩, b5⟩
set_option maxHeartbeats 4000000 in
theorem c_X0_add_x (l : Launch) (D : va_G) (cA : Nat → ClassId) (ct ed : Int → Int) (ppl : Int → Int → Int) (p e who : Int) (hp : 0 ≤ p ∧ p < 20) (hct : ∀ q : Int, 0 ≤ ct q ∧ ct q ≤ 6) (hed : ∀ q : Int, inR (ed q)) (he : inR e) (hl : gLt ct ed p e → ct p < 6) :
    gC l D cA yX0_add mX0_add none 0 0 [gr 36, gi p, gi e, gi who] (apX ct ed ppl) (fun r9 w9 => ∃ k2 : Int, r9 = none ∧ w9 = apX (gu ct p (k2 + 1)) (gu ed p e) (gu2 ppl p k2 who) ∧ k2 = (if gb (gLt ct ed p e) = 1 then ct p else 0)) := by
  rcases (show p = 0 ∨ p = 1 ∨ p = 2 ∨ p = 3 ∨ p = 4 ∨ p = 5 ∨ p = 6 ∨ p = 7 ∨ p = 8 ∨ p = 9 ∨ p = 10 ∨ p = 11 ∨ p = 12 ∨ p = 13 ∨ p = 14 ∨ p = 15 ∨ p = 16 ∨ p = 17 ∨ p = 18 ∨ p = 19 by omega) with rfl | rfl | rfl | rfl | rfl | rfl | rfl | rfl | rfl | rfl | rfl | rfl | rfl | rfl | rfl | rfl | rfl | rfl | rfl | rfl
  · refine gC_post (c_X0_add_0 l D cA ct ed (ppl 0) (ppl 1) (ppl 2) (ppl 3) (ppl 4) (ppl 5) (ppl 6) (ppl 7) (ppl 8) (ppl 9) (ppl 10) (ppl 11) (ppl 12) (ppl 13) (ppl 14) (ppl 15) (ppl 16) (ppl 17) (ppl 18) (ppl 19) e who hct hed he hl) (fun r w' ⟨ct2, ed2, k2, h1, h2, h3, h4, h5⟩ => ⟨k2, h1, ?_, h3⟩)
    rw [h2, h4, h5]
    rfl
  · refine gC_post (c_X0_add_1 l D cA ct ed (ppl 0) (ppl 1) (ppl 2) (ppl 3) (ppl 4) (ppl 5) (ppl 6) (ppl 7) (ppl 8) (ppl 9) (ppl 10) (ppl 11) (ppl 12) (ppl 13) (ppl 14) (ppl 15) (ppl 16) (ppl 17) (ppl 18) (ppl 19) e who hct hed he hl) (fun r w' ⟨ct2, ed2, k2, h1, h2, h3, h4, h5⟩ => ⟨k2, h1, ?_, h3⟩)
    rw [h2, h4, h5]
    rfl
  · refine gC_post (c_X0_add_2 l D cA ct ed (ppl 0) (ppl 1) (ppl 2) (ppl 3) (ppl 4) (ppl 5) (ppl 6) (ppl 7) (ppl 8) (ppl 9) (ppl 10) (ppl 11) (ppl 12) (ppl 13) (ppl 14) (ppl 15) (ppl 16) (ppl 17) (ppl 18) (ppl 19) e who hct hed he hl) (fun r w' ⟨ct2, ed2, k2, h1, h2, h3, h4, h5⟩ => ⟨k2, h1, ?_, h3⟩)
    rw [h2, h4, h5]
    rfl
  · refine gC_post (c_X0_add_3 l D cA ct ed (ppl 0) (ppl 1) (ppl 2) (ppl 3) (ppl 4) (ppl 5) (ppl 6) (ppl 7) (ppl 8) (ppl 9) (ppl 10) (ppl 11) (ppl 12) (ppl 13) (ppl 14) (ppl 15) (ppl 16) (ppl 17) (ppl 18) (ppl 19) e who hct hed he hl) (fun r w' ⟨ct2, ed2, k2, h1, h2, h3, h4, h5⟩ => ⟨k2, h1, ?_, h3⟩)
    rw [h2, h4, h5]
    rfl
  · refine gC_post (c_X0_add_4 l D cA ct ed (ppl 0) (ppl 1) (ppl 2) (ppl 3) (ppl 4) (ppl 5) (ppl 6) (ppl 7) (ppl 8) (ppl 9) (ppl 10) (ppl 11) (ppl 12) (ppl 13) (ppl 14) (ppl 15) (ppl 16) (ppl 17) (ppl 18) (ppl 19) e who hct hed he hl) (fun r w' ⟨ct2, ed2, k2, h1, h2, h3, h4, h5⟩ => ⟨k2, h1, ?_, h3⟩)
    rw [h2, h4, h5]
    rfl
  · refine gC_post (c_X0_add_5 l D cA ct ed (ppl 0) (ppl 1) (ppl 2) (ppl 3) (ppl 4) (ppl 5) (ppl 6) (ppl 7) (ppl 8) (ppl 9) (ppl 10) (ppl 11) (ppl 12) (ppl 13) (ppl 14) (ppl 15) (ppl 16) (ppl 17) (ppl 18) (ppl 19) e who hct hed he hl) (fun r w' ⟨ct2, ed2, k2, h1, h2, h3, h4, h5⟩ => ⟨k2, h1, ?_, h3⟩)
    rw [h2, h4, h5]
    rfl
  · refine gC_post (c_X0_add_6 l D cA ct ed (ppl 0) (ppl 1) (ppl 2) (ppl 3) (ppl 4) (ppl 5) (ppl 6) (ppl 7) (ppl 8) (ppl 9) (ppl 10) (ppl 11) (ppl 12) (ppl 13) (ppl 14) (ppl 15) (ppl 16) (ppl 17) (ppl 18) (ppl 19) e who hct hed he hl) (fun r w' ⟨ct2, ed2, k2, h1, h2, h3, h4, h5⟩ => ⟨k2, h1, ?_, h3⟩)
    rw [h2, h4, h5]
    rfl
  · refine gC_post (c_X0_add_7 l D cA ct ed (ppl 0) (ppl 1) (ppl 2) (ppl 3) (ppl 4) (ppl 5) (ppl 6) (ppl 7) (ppl 8) (ppl 9) (ppl 10) (ppl 11) (ppl 12) (ppl 13) (ppl 14) (ppl 15) (ppl 16) (ppl 17) (ppl 18) (ppl 19) e who hct hed he hl) (fun r w' ⟨ct2, ed2, k2, h1, h2, h3, h4, h5⟩ => ⟨k2, h1, ?_, h3⟩)
    rw [h2, h4, h5]
    rfl
  · refine gC_post (c_X0_add_8 l D cA ct ed (ppl 0) (ppl 1) (ppl 2) (ppl 3) (ppl 4) (ppl 5) (ppl 6) (ppl 7) (ppl 8) (ppl 9) (ppl 10) (ppl 11) (ppl 12) (ppl 13) (ppl 14) (ppl 15) (ppl 16) (ppl 17) (ppl 18) (ppl 19) e who hct hed he hl) (fun r w' ⟨ct2, ed2, k2, h1, h2, h3, h4, h5⟩ => ⟨k2, h1, ?_, h3⟩)
    rw [h2, h4, h5]
    rfl
  · refine gC_post (c_X0_add_9 l D cA ct ed (ppl 0) (ppl 1) (ppl 2) (ppl 3) (ppl 4) (ppl 5) (ppl 6) (ppl 7) (ppl 8) (ppl 9) (ppl 10) (ppl 11) (ppl 12) (ppl 13) (ppl 14) (ppl 15) (ppl 16) (ppl 17) (ppl 18) (ppl 19) e who hct hed he hl) (fun r w' ⟨ct2, ed2, k2, h1, h2, h3, h4, h5⟩ => ⟨k2, h1, ?_, h3⟩)
    rw [h2, h4, h5]
    rfl
  · refine gC_post (c_X0_add_10 l D cA ct ed (ppl 0) (ppl 1) (ppl 2) (ppl 3) (ppl 4) (ppl 5) (ppl 6) (ppl 7) (ppl 8) (ppl 9) (ppl 10) (ppl 11) (ppl 12) (ppl 13) (ppl 14) (ppl 15) (ppl 16) (ppl 17) (ppl 18) (ppl 19) e who hct hed he hl) (fun r w' ⟨ct2, ed2, k2, h1, h2, h3, h4, h5⟩ => ⟨k2, h1, ?_, h3⟩)
    rw [h2, h4, h5]
    rfl
  · refine gC_post (c_X0_add_11 l D cA ct ed (ppl 0) (ppl 1) (ppl 2) (ppl 3) (ppl 4) (ppl 5) (ppl 6) (ppl 7) (ppl 8) (ppl 9) (ppl 10) (ppl 11) (ppl 12) (ppl 13) (ppl 14) (ppl 15) (ppl 16) (ppl 17) (ppl 18) (ppl 19) e who hct hed he hl) (fun r w' ⟨ct2, ed2, k2, h1, h2, h3, h4, h5⟩ => ⟨k2, h1, ?_, h3⟩)
    rw [h2, h4, h5]
    rfl
  · refine gC_post (c_X0_add_12 l D cA ct ed (ppl 0) (ppl 1) (ppl 2) (ppl 3) (ppl 4) (ppl 5) (ppl 6) (ppl 7) (ppl 8) (ppl 9) (ppl 10) (ppl 11) (ppl 12) (ppl 13) (ppl 14) (ppl 15) (ppl 16) (ppl 17) (ppl 18) (ppl 19) e who hct hed he hl) (fun r w' ⟨ct2, ed2, k2, h1, h2, h3, h4, h5⟩ => ⟨k2, h1, ?_, h3⟩)
    rw [h2, h4, h5]
    rfl
  · refine gC_post (c_X0_add_13 l D cA ct ed (ppl 0) (ppl 1) (ppl 2) (ppl 3) (ppl 4) (ppl 5) (ppl 6) (ppl 7) (ppl 8) (ppl 9) (ppl 10) (ppl 11) (ppl 12) (ppl 13) (ppl 14) (ppl 15) (ppl 16) (ppl 17) (ppl 18) (ppl 19) e who hct hed he hl) (fun r w' ⟨ct2, ed2, k2, h1, h2, h3, h4, h5⟩ => ⟨k2, h1, ?_, h3⟩)
    rw [h2, h4, h5]
    rfl
  · refine gC_post (c_X0_add_14 l D cA ct ed (ppl 0) (ppl 1) (ppl 2) (ppl 3) (ppl 4) (ppl 5) (ppl 6) (ppl 7) (ppl 8) (ppl 9) (ppl 10) (ppl 11) (ppl 12) (ppl 13) (ppl 14) (ppl 15) (ppl 16) (ppl 17) (ppl 18) (ppl 19) e who hct hed he hl) (fun r w' ⟨ct2, ed2, k2, h1, h2, h3, h4, h5⟩ => ⟨k2, h1, ?_, h3⟩)
    rw [h2, h4, h5]
    rfl
  · refine gC_post (c_X0_add_15 l D cA ct ed (ppl 0) (ppl 1) (ppl 2) (ppl 3) (ppl 4) (ppl 5) (ppl 6) (ppl 7) (ppl 8) (ppl 9) (ppl 10) (ppl 11) (ppl 12) (ppl 13) (ppl 14) (ppl 15) (ppl 16) (ppl 17) (ppl 18) (ppl 19) e who hct hed he hl) (fun r w' ⟨ct2, ed2, k2, h1, h2, h3, h4, h5⟩ => ⟨k2, h1, ?_, h3⟩)
    rw [h2, h4, h5]
    rfl
  · refine gC_post (c_X0_add_16 l D cA ct ed (ppl 0) (ppl 1) (ppl 2) (ppl 3) (ppl 4) (ppl 5) (ppl 6) (ppl 7) (ppl 8) (ppl 9) (ppl 10) (ppl 11) (ppl 12) (ppl 13) (ppl 14) (ppl 15) (ppl 16) (ppl 17) (ppl 18) (ppl 19) e who hct hed he hl) (fun r w' ⟨ct2, ed2, k2, h1, h2, h3, h4, h5⟩ => ⟨k2, h1, ?_, h3⟩)
    rw [h2, h4, h5]
    rfl
  · refine gC_post (c_X0_add_17 l D cA ct ed (ppl 0) (ppl 1) (ppl 2) (ppl 3) (ppl 4) (ppl 5) (ppl 6) (ppl 7) (ppl 8) (ppl 9) (ppl 10) (ppl 11) (ppl 12) (ppl 13) (ppl 14) (ppl 15) (ppl 16) (ppl 17) (ppl 18) (ppl 19) e who hct hed he hl) (fun r w' ⟨ct2, ed2, k2, h1, h2, h3, h4, h5⟩ => ⟨k2, h1, ?_, h3⟩)
    rw [h2, h4, h5]
    rfl
  · refine gC_post (c_X0_add_18 l D cA ct ed (ppl 0) (ppl 1) (ppl 2) (ppl 3) (ppl 4) (ppl 5) (ppl 6) (ppl 7) (ppl 8) (ppl 9) (ppl 10) (ppl 11) (ppl 12) (ppl 13) (ppl 14) (ppl 15) (ppl 16) (ppl 17) (ppl 18) (ppl 19) e who hct hed he hl) (fun r w' ⟨ct2, ed2, k2, h1, h2, h3, h4, h5⟩ => ⟨k2, h1, ?_, h3⟩)
    rw [h2, h4, h5]
    rfl
  · refine gC_post (c_X0_add_19 l D cA ct ed (ppl 0) (ppl 1) (ppl 2) (ppl 3) (ppl 4) (ppl 5) (ppl 6) (ppl 7) (ppl 8) (ppl 9) (ppl 10) (ppl 11) (ppl 12) (ppl 13) (ppl 14) (ppl 15) (ppl 16) (ppl 17) (ppl 18) (ppl 19) e who hct hed he hl) (fun r w' ⟨ct2, ed2, k2, h1, h2, h3, h4, h5⟩ => ⟨k2, h1, ?_, h3⟩)
    rw [h2, h4, h5]
    rfl
