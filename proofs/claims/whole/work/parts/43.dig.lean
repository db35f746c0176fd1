/-! the reference's text -/
def mTx (σ : MS) (T : Nat → Int32) (n : Nat) : Prop := n ≤ 4096 ∧ m_let σ = nI n ∧ (∀ k, n ≤ k → T k = -1) ∧ (∀ k, k < n → m_tx σ k = T k) ∧ ∀ k, z_c (T k)
theorem q_c {σ : MS} {T : Nat → Int32} {n k : Nat} {post : Int32 → MS → Prop} (hT : mTx σ T n) (hk : k < 2 ^ 31) (h : post (T k) σ) : wp_Mod_c (nI k) σ post := by
  obtain ⟨hn, hl, ho, hi, -⟩ := hT
  unfold wp_Mod_c
  rw [hl]
  refine ⟨fun h1 => ?_, fun h1 => ⟨?_, ?_⟩⟩
  · rw [nI_leI (by omega) hk] at h1
    rw [ho k h1] at h; exact h
  · rw [nI_leI (by omega) hk] at h1
    exact vp_in_nI (by omega) (by omega)
  · rw [nI_leI (by omega) hk] at h1
    rw [nI_clamp (by omega), hi k (by omega)]
    exact h
/-- the class's text likewise, any state -/
theorem kTx_c {σ : KS} {T : Nat → Int32} {n : Nat} (hT : kTx σ T n) (k : Nat) : z_c (T k) := by
  obtain ⟨-, -, rfl⟩ := hT
  exact z_cT k
theorem kTx_o {σ : KS} {T : Nat → Int32} {n : Nat} (hT : kTx σ T n) (k : Nat) (h : n ≤ k) : T k = -1 := by
  obtain ⟨-, -, rfl⟩ := hT
  exact zT_out h
theorem p_let_neg {σ : KS} {post : Int32 → KS → Prop} (h : post (-1) σ) : wp_Text_letterAt (-1) σ post := by
  unfold wp_Text_letterAt
  exact ⟨fun _ => h, fun h1 => absurd (by decide) h1⟩
theorem z_dg_m1 : ∀ b ∈ ([2, 8, 10, 16] : List Int32), z_dg b (-1) = false := by decide +kernel
theorem z_dg_95 : ∀ b ∈ ([2, 8, 10, 16] : List Int32), z_dg b 95 = false := by decide +kernel
/-- does the run of digits that begins at k0 go on at j -/
def z_dP (T : Nat → Int32) (b : Int32) (k0 j : Nat) : Bool := z_dg b (T j) || (decide (T j = 95) && decide (k0 < j) && z_dg b (T (j + 1)))
def z_dE (T : Nat → Int32) (n : Nat) (b : Int32) (k0 : Nat) : Nat := z_run (z_dP T b k0) (n - k0) k0
theorem z_dP_t {T : Nat → Int32} {b : Int32} {k0 j : Nat} (h : z_dg b (T j) = true) : z_dP T b k0 j = true := by unfold z_dP; rw [h]; rfl
theorem z_dP_u {T : Nat → Int32} {b : Int32} {k0 j : Nat} (h : T j = 95) (h1 : k0 < j) (h2 : z_dg b (T (j + 1)) = true) : z_dP T b k0 j = true := by unfold z_dP; simp [h, h1, h2]
theorem z_dP_f {T : Nat → Int32} {b : Int32} {k0 j : Nat} (h : z_dg b (T j) = false) (h1 : ¬ T j = 95 ∨ j ≤ k0 ∨ z_dg b (T (j + 1)) = false) : z_dP T b k0 j = false := by
  unfold z_dP
  rcases h1 with h1 | h1 | h1
  · simp [h, h1]
  · simp [h, Nat.not_lt.mpr h1]
  · simp [h, h1]
theorem bI_n0 {b : Bool} : ¬ bI b = 0 ↔ b = true := by cases b <;> decide
theorem p_digitsEnd_l {σ : KS} {T : Nat → Int32} {n : Nat} {b : Int32} {k0 : Nat} {post : Int32 → KS → Prop} (hT : kTx σ T n) : ∀ (f k : Nat), k + f = n ∨ (f = 0 ∧ n ≤ k ∧ k < 2 ^ 30) → k0 ≤ k → post (nI (z_run (z_dP T b k0) f k)) σ → L_Shapes_digitsEnd_2 post (f + 1) (nI k0) b (nI k) σ := by
  have hn := hT.1
  intro f
  induction f with
  | zero =>
    intro k hk h0 h
    unfold L_Shapes_digitsEnd_2 wp_Text_size
    rw [hT.2.1]
    exact ⟨fun _ => h, fun h1 => absurd (nI_le (by omega) (by omega)) h1⟩
  | succ f ih =>
    intro k hk h0 h
    have go : z_dP T b k0 k = true → L_Shapes_digitsEnd_76 post (fun x1 x2 x3 σ => L_Shapes_digitsEnd_2 post (f + 1) x1 x2 x3 σ) (nI k0) b (nI k) σ := by
      intro hp
      show L_Shapes_digitsEnd_2 post (f + 1) (nI k0) b (nI k + 1) σ
      rw [nI_1]
      rw [z_run_t hp] at h
      exact ih (k + 1) (by omega) (by omega) h
    have stop : z_dP T b k0 k = false → post (nI k) σ := by
      intro hp
      rw [z_run_f hp] at h
      exact h
    have j56 : (¬ T k = 95 ∨ k ≤ k0 ∨ z_dg b (T (k + 1)) = false) → L_Shapes_digitsEnd_56 post (fun x1 x2 x3 σ => L_Shapes_digitsEnd_2 post (f + 1) x1 x2 x3 σ) (nI k0) b (nI k) (T k) σ := by
      intro hc
      unfold L_Shapes_digitsEnd_56 L_Shapes_digitsEnd_57
      refine ⟨fun q => absurd rfl q, fun _ => p_isDigit ⟨fun h1 => go (z_dP_t (bI_n0.mp h1)), fun h1 => stop (z_dP_f (bI_0.mp h1) hc)⟩⟩
    unfold L_Shapes_digitsEnd_2 wp_Text_size
    rw [hT.2.1]
    refine ⟨fun h1 => absurd h1 (nI_ge (by omega) (by omega)), fun _ => p_let hT (by omega) ⟨fun h2 => j56 (Or.inl h2), fun h2 => ⟨fun h3 => j56 (Or.inr (Or.inl ((nI_leI (by omega) (by omega)).mp h3))), fun h3 => ?_⟩⟩⟩
    rw [nI_1]
    refine p_let hT (by omega) (p_isDigit ⟨fun h4 => j56 (Or.inr (Or.inr (bI_0.mp h4))), fun h4 => ?_⟩)
    unfold L_Shapes_digitsEnd_57
    rw [nI_leI (by omega) (by omega)] at h3
    exact ⟨fun _ => go (z_dP_u h2 (by omega) (bI_n0.mp h4)), fun q => absurd q (by decide)⟩
theorem p_digitsEnd {σ : KS} {T : Nat → Int32} {n k : Nat} {b : Int32} {post : Int32 → KS → Prop} (hT : kTx σ T n) (hk : k < 2 ^ 30) (h : post (nI (z_dE T n b k)) σ) : wp_Shapes_digitsEnd (nI k) b σ post := ⟨n - k + 1, p_digitsEnd_l hT (n - k) k (by omega) (Nat.le_refl _) h⟩
theorem q_digits_l {σ : MS} {T : Nat → Int32} {n : Nat} {b : Int32} {k0 : Nat} {post : Int32 → MS → Prop} (hT : mTx σ T n) (hb : b ∈ ([2, 8, 10, 16] : List Int32)) : ∀ (f k : Nat), k + f = n ∨ (f = 0 ∧ n ≤ k ∧ k < 2 ^ 30) → k0 ≤ k → (k = k0 ∨ z_dg b (T (k - 1)) = true ∨ z_dg b (T k) = true) → post (nI (z_run (z_dP T b k0) f k)) σ → L_Mod_digits_2 post (f + 1) (nI k0) b (nI k) σ := by
  have hn := hT.1
  have hc := hT.2.2.2.2
  have hz : ∀ j, (z_val (T j) < b) ↔ z_dg b (T j) = true := fun j => by rw [← z_val_c (hc j) hb, decide_eq_true_iff]
  have hy : ∀ j, (b ≤ z_val (T j)) ↔ z_dg b (T j) = false := fun j => by rw [← z_val_c (hc j) hb, decide_eq_false_iff_not, Int32.not_lt]
  intro f
  induction f with
  | zero =>
    intro k hk h0 _ h
    have e1 : T k = -1 := hT.2.2.1 k (by omega)
    unfold L_Mod_digits_2
    refine q_c hT (by omega) (q_value ⟨fun h1 => ?_, fun h1 => q_c hT (by omega) ⟨fun _ => h, fun h2 => ?_⟩⟩)
    · rw [hz, e1, z_dg_m1 b hb] at h1; cases h1
    · rw [e1] at h2; exact absurd h2 (by decide)
  | succ f ih =>
    intro k hk h0 hi h
    have go : z_dP T b k0 k = true → (z_dg b (T k) = true ∨ z_dg b (T (k + 1)) = true) → L_Mod_digits_57 post (fun x1 x2 x3 σ => L_Mod_digits_2 post (f + 1) x1 x2 x3 σ) (nI k0) b (nI k) σ := by
      intro hp hq
      show L_Mod_digits_2 post (f + 1) (nI k0) b (nI k + 1) σ
      rw [nI_1]
      rw [z_run_t hp] at h
      exact ih (k + 1) (by omega) (by omega) (Or.inr hq) h
    have stop : z_dP T b k0 k = false → post (nI k) σ := by
      intro hp
      rw [z_run_f hp] at h
      exact h
    unfold L_Mod_digits_2
    refine q_c hT (by omega) (q_value ⟨fun h1 => go (z_dP_t ((hz k).mp h1)) (Or.inl ((hz k).mp h1)), fun h1 => ?_⟩)
    rw [Int32.not_lt, hy] at h1
    refine q_c hT (by omega) ⟨fun h2 => stop (z_dP_f h1 (Or.inl h2)), fun h2 => ⟨fun h3 => stop (z_dP_f h1 (Or.inr (Or.inl ((nI_leI (by omega) (by omega)).mp h3)))), fun h3 => ?_⟩⟩
    rw [nI_leI (by omega) (by omega)] at h3
    have e1 : nI k - 1 = nI (k - 1) := pk_sub (a := k) (b := 1) (by omega)
    rw [e1]
    refine q_c hT (by omega) (q_value ⟨fun h4 => ?_, fun _ => ?_⟩)
    · rw [hy] at h4
      rcases hi with r | r | r
      · omega
      · rw [h4] at r; cases r
      · rw [h1] at r; cases r
    · rw [nI_1]
      refine q_c hT (by omega) (q_value ⟨fun h4 => stop (z_dP_f h1 (Or.inr (Or.inr ((hy _).mp h4)))), fun h4 => ?_⟩)
      rw [Int32.not_le, hz] at h4
      exact go (z_dP_u h2 (by omega) h4) (Or.inr h4)
theorem q_digits {σ : MS} {T : Nat → Int32} {n k : Nat} {b : Int32} {post : Int32 → MS → Prop} (hT : mTx σ T n) (hb : b ∈ ([2, 8, 10, 16] : List Int32)) (hk : k < 2 ^ 30) (h : post (nI (z_dE T n b k)) σ) : wp_Mod_digits (nI k) b σ post := ⟨n - k + 1, q_digits_l hT hb (n - k) k (by omega) (Nat.le_refl _) (Or.inl rfl) h⟩
/-! the end of a name -/
def z_nP (T : Nat → Int32) (j : Nat) : Bool := z_nm (T j) || z_dg 10 (T j)
def z_nE (T : Nat → Int32) (n k : Nat) : Nat := z_run (z_nP T) (n - k) k
theorem p_nameEnd_l {σ : KS} {T : Nat → Int32} {n : Nat} {post : Int32 → KS → Prop} (hT : kTx σ T n) : ∀ (f k : Nat), k + f = n → post (nI (z_run (z_nP T) f k)) σ → L_Shapes_nameEnd_2 post (f + 1) (nI k) σ := by
  have hn := hT.1
  intro f
  induction f with
  | zero =>
    intro k hk h
    unfold L_Shapes_nameEnd_2 wp_Text_size
    rw [hT.2.1]
    exact ⟨fun _ => h, fun h1 => absurd (nI_le (by omega) (by omega)) h1⟩
  | succ f ih =>
    intro k hk h
    unfold L_Shapes_nameEnd_2 wp_Text_size
    rw [hT.2.1]
    refine ⟨fun h1 => absurd h1 (nI_ge (by omega) (by omega)), fun _ => p_let hT (by omega) (p_continuesName ⟨fun h2 => ?_, fun h2 => ?_⟩)⟩
    · rw [bI_0] at h2
      rw [z_run_f (P := z_nP T) h2] at h
      exact h
    · rw [bI_n0] at h2
      rw [z_run_t (P := z_nP T) h2] at h
      show L_Shapes_nameEnd_2 post (f + 1) (nI k + 1) σ
      rw [nI_1]
      exact ih (k + 1) (by omega) h
theorem p_nameEnd {σ : KS} {T : Nat → Int32} {n k : Nat} {post : Int32 → KS → Prop} (hT : kTx σ T n) (hk : k ≤ n) (h : post (nI (z_nE T n k)) σ) : wp_Shapes_nameEnd (nI k) σ post := ⟨n - k + 1, p_nameEnd_l hT (n - k) k (by omega) h⟩
