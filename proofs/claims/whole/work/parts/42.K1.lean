/-! letters: every letter is a small number, or -1 -/
theorem c_cases {T : Nat → Int32} {w : Nat → Int32} {n : Nat} (hT : T = zT w n) (k : Nat) : (n ≤ k ∧ T k = -1) ∨ (k < n ∧ ∃ v, v < 256 ∧ T k = nI v) := by
  subst hT
  by_cases h : k < n
  · exact Or.inr ⟨h, zT_in h⟩
  · exact Or.inl ⟨by omega, zT_out (by omega)⟩
/-- a letter or -1 -/
def z_c (c : Int32) : Prop := c = -1 ∨ ∃ v, v < 256 ∧ c = nI v
theorem z_cT {w : Nat → Int32} {n : Nat} (k : Nat) : z_c (zT w n k) := by
  rcases c_cases (T := zT w n) (w := w) (n := n) rfl k with ⟨-, h⟩ | ⟨-, h⟩
  · exact Or.inl h
  · exact Or.inr h
/-- the test that both programs make, in the class's words -/
def z_dg (b c : Int32) : Bool := if c < 48 then (decide (b = 16) && ((!decide (c < 97) && decide (c ≤ 102)) || (!decide (c < 65) && !decide (70 < c)))) else if 57 < c then (decide (b = 16) && ((!decide (c < 97) && decide (c ≤ 102)) || (!decide (c < 65) && !decide (70 < c)))) else !decide (b ≤ c - 48)
def z_nm (c : Int32) : Bool := (!decide (c < 97) && decide (c ≤ 122)) || (!decide (c < 65) && decide (c ≤ 90)) || decide (c = 95)
def bI (b : Bool) : Int32 := if b = true then 1 else 0
theorem bI_0 {b : Bool} : bI b = 0 ↔ b = false := by cases b <;> decide
theorem vB_bI (b : Bool) : vB (bI b) := by cases b <;> rfl
theorem p_isDigit {a b : Int32} {σ : KS} {post : Int32 → KS → Prop} (h : post (bI (z_dg b a)) σ) : wp_Shapes_isDigit a b σ post := by
  unfold wp_Shapes_isDigit L_Shapes_isDigit_26 L_Shapes_isDigit_44 L_Shapes_isDigit_56
  unfold z_dg bI at h
  rcases Decidable.em (b = 16) with rfl | h3
  · by_cases h8 : 16 ≤ a - 48 <;> by_cases h1 : a < 48 <;> by_cases h2 : 57 < a <;> by_cases h4 : a < 97 <;> by_cases h5 : a ≤ 102 <;> by_cases h6 : a < 65 <;> by_cases h7 : 70 < a <;> simp only [h1, h2, h4, h5, h6, h7, h8, not_true_eq_false, not_false_eq_true, true_implies, false_implies, implies_true, and_true, true_and, and_false, false_and, or_true, true_or, or_false, false_or, if_true, if_false, decide_true, decide_false, Bool.not_true, Bool.not_false, Bool.true_and, Bool.and_true, Bool.false_and, Bool.and_false, Bool.or_true, Bool.true_or, Bool.or_false, Bool.false_or, Bool.false_eq_true, reduceCtorEq, ↓reduceIte, eq_self] at h ⊢ <;> exact h
  · by_cases h8 : b ≤ a - 48 <;> by_cases h1 : a < 48 <;> by_cases h2 : 57 < a <;> by_cases h4 : a < 97 <;> by_cases h5 : a ≤ 102 <;> by_cases h6 : a < 65 <;> by_cases h7 : 70 < a <;> simp only [h1, h2, h3, h4, h5, h6, h7, h8, not_true_eq_false, not_false_eq_true, true_implies, false_implies, implies_true, and_true, true_and, and_false, false_and, or_true, true_or, or_false, false_or, if_true, if_false, decide_true, decide_false, Bool.not_true, Bool.not_false, Bool.true_and, Bool.and_true, Bool.false_and, Bool.and_false, Bool.or_true, Bool.true_or, Bool.or_false, Bool.false_or, Bool.false_eq_true, reduceCtorEq, ↓reduceIte, eq_self] at h ⊢ <;> exact h
theorem p_beginsName {a : Int32} {σ : KS} {post : Int32 → KS → Prop} (h : post (bI (z_nm a)) σ) : wp_Shapes_beginsName a σ post := by
  unfold wp_Shapes_beginsName L_Shapes_beginsName_12 L_Shapes_beginsName_24 L_Shapes_beginsName_30
  unfold z_nm bI at h
  by_cases h1 : a < 97 <;> by_cases h2 : a ≤ 122 <;> by_cases h3 : a < 65 <;> by_cases h4 : a ≤ 90 <;> by_cases h5 : a = 95 <;> simp [h1, h2, h3, h4, h5] at h ⊢ <;> exact h
theorem p_continuesName {a : Int32} {σ : KS} {post : Int32 → KS → Prop} (h : post (bI (z_nm a || z_dg 10 a)) σ) : wp_Shapes_continuesName a σ post := by
  unfold wp_Shapes_continuesName L_Shapes_continuesName_16
  refine p_beginsName ⟨fun h1 => ?_, fun h1 => p_isDigit ⟨fun h2 => ?_, fun h2 => ?_⟩⟩
  · rw [bI_0] at h1
    cases e : z_nm a with
    | false => exact absurd e h1
    | true => rw [e] at h; exact h
  · rw [bI_0] at h1 h2
    rw [h1, h2] at h; exact h
  · rw [bI_0] at h1 h2
    cases e : z_dg 10 a with
    | false => exact absurd e h2
    | true => rw [h1, e] at h; exact h
/-! the reference's -/
theorem q_isDigit {a : Int32} {σ : MS} {post : Int32 → MS → Prop} (h : post (bI (!decide (a < 48) && !decide (57 < a))) σ) : wp_Mod_isDigit a σ post := by
  unfold wp_Mod_isDigit
  unfold bI at h
  by_cases h1 : a < 48 <;> by_cases h2 : 57 < a <;> simp [h1, h2] at h ⊢ <;> exact h
theorem q_isLetter {a : Int32} {σ : MS} {post : Int32 → MS → Prop} (h : post (bI (z_nm a)) σ) : wp_Mod_isLetter a σ post := by
  unfold wp_Mod_isLetter L_Mod_isLetter_12 L_Mod_isLetter_24 L_Mod_isLetter_30
  unfold z_nm bI at h
  by_cases h1 : a < 97 <;> by_cases h2 : a ≤ 122 <;> by_cases h3 : a < 65 <;> by_cases h4 : a ≤ 90 <;> by_cases h5 : a = 95 <;> simp [h1, h2, h3, h4, h5] at h ⊢ <;> exact h
def z_val (c : Int32) : Int32 := if c < 48 ∨ 57 < c then (if c < 97 ∨ 102 < c then (if c < 65 ∨ 70 < c then 99 else c - 65 + 10) else c - 97 + 10) else c - 48
theorem q_value {a : Int32} {σ : MS} {post : Int32 → MS → Prop} (h : post (z_val a) σ) : wp_Mod_value a σ post := by
  unfold wp_Mod_value L_Mod_value_36
  unfold z_val at h
  refine q_isDigit ?_
  by_cases h1 : a < 48 <;> by_cases h2 : 57 < a <;> by_cases h3 : a < 97 <;> by_cases h4 : 102 < a <;> by_cases h5 : a < 65 <;> by_cases h6 : 70 < a <;> simp [bI, h1, h2, h3, h4, h5, h6] at h ⊢ <;> exact h
/-- the two tests are one -/
theorem z_val_dg : ∀ v, v < 256 → ∀ b ∈ ([2, 8, 10, 16] : List Int32), decide (z_val (nI v) < b) = z_dg b (nI v) := by decide +kernel
theorem z_val_m1 : ∀ b ∈ ([2, 8, 10, 16] : List Int32), decide (z_val (-1) < b) = z_dg b (-1) := by decide +kernel
theorem z_val_c {c b : Int32} (hc : z_c c) (hb : b ∈ ([2, 8, 10, 16] : List Int32)) : decide (z_val c < b) = z_dg b c := by
  rcases hc with rfl | ⟨v, hv, rfl⟩
  · exact z_val_m1 b hb
  · exact z_val_dg v hv b hb
theorem z_dg10 : ∀ v, v < 256 → z_dg 10 (nI v) = (!decide (nI v < 48) && !decide (57 < nI v)) := by decide +kernel
theorem z_dg10_c {c : Int32} (hc : z_c c) : z_dg 10 c = (!decide (c < 48) && !decide (57 < c)) := by
  rcases hc with rfl | ⟨v, hv, rfl⟩
  · decide +kernel
  · exact z_dg10 v hv
theorem q_dig {a : Int32} {σ : MS} {post : Int32 → MS → Prop} (hc : z_c a) (h : post (bI (z_dg 10 a)) σ) : wp_Mod_isDigit a σ post := q_isDigit (by rw [← z_dg10_c hc]; exact h)
