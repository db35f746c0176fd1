/-! numbers -/
theorem z_dE_le {T : Nat → Int32} {n : Nat} {b : Int32} {k : Nat} (h : k ≤ n) : k ≤ z_dE T n b k ∧ z_dE T n b k ≤ n := by
  have := z_run_le (z_dP T b k) (n - k) k
  unfold z_dE
  omega
theorem z_dE_gt {T : Nat → Int32} {n : Nat} {b : Int32} {k : Nat} (h : k < n) (hd : z_dg b (T k) = true) : k < z_dE T n b k := by
  have e : z_dE T n b k = z_run (z_dP T b k) (n - k - 1) (k + 1) := by
    unfold z_dE
    rw [show n - k = (n - k - 1) + 1 by omega, z_run_t (z_dP_t hd)]
    rfl
  have := z_run_le (z_dP T b k) (n - k - 1) (k + 1)
  omega
theorem z_dE_same {T : Nat → Int32} {n : Nat} {b : Int32} {k : Nat} (hd : z_dg b (T k) = false) : z_dE T n b k = k := by
  unfold z_dE
  cases e : n - k with
  | zero => rfl
  | succ m => exact z_run_f (z_dP_f hd (Or.inr (Or.inl (Nat.le_refl _))))
def z_base (T : Nat → Int32) (a : Nat) : Int32 := if T a = 48 then (if T (a + 1) = 66 then 2 else if T (a + 1) = 79 then 8 else if T (a + 1) = 88 then 16 else if T (a + 1) = 98 then 2 else if T (a + 1) = 111 then 8 else if T (a + 1) = 120 then 16 else 10) else 10
theorem z_base_in (T : Nat → Int32) (a : Nat) : z_base T a ∈ ([2, 8, 10, 16] : List Int32) := by
  unfold z_base
  split
  · split
    · decide
    · split
      · decide
      · split
        · decide
        · split
          · decide
          · split
            · decide
            · split <;> decide
  · decide
theorem p_baseAt {σ : KS} {T : Nat → Int32} {n a : Nat} {post : Int32 → KS → Prop} (hT : kTx σ T n) (ha : a < 2 ^ 30) (h : post (z_base T a) σ) : wp_Shapes_baseAt (nI a) σ post := by
  unfold z_base at h
  unfold wp_Shapes_baseAt
  rw [nI_1]
  refine p_let hT (by omega) ⟨fun h0 => p_let hT (by omega) ?_, fun h0 => ?_⟩
  · rw [if_pos h0] at h
    refine ⟨fun q => by rw [if_pos q] at h; exact h, fun q => ?_⟩
    rw [if_neg q] at h
    refine ⟨fun q => by rw [if_pos q] at h; exact h, fun q => ?_⟩
    rw [if_neg q] at h
    refine ⟨fun q => by rw [if_pos q] at h; exact h, fun q => ?_⟩
    rw [if_neg q] at h
    refine ⟨fun q => by rw [if_pos q] at h; exact h, fun q => ?_⟩
    rw [if_neg q] at h
    refine ⟨fun q => by rw [if_pos q] at h; exact h, fun q => ?_⟩
    rw [if_neg q] at h
    refine ⟨fun q => by rw [if_pos q] at h; exact h, fun q => ?_⟩
    rw [if_neg q] at h
    exact h
  · simp only [h0, not_true_eq_false, not_false_eq_true, true_implies, false_implies, implies_true, and_true, true_and, and_false, false_and, or_true, true_or, or_false, false_or, if_true, if_false, decide_true, decide_false, Bool.not_true, Bool.not_false, Bool.true_and, Bool.and_true, Bool.false_and, Bool.and_false, Bool.or_true, Bool.true_or, Bool.or_false, Bool.false_or, Bool.false_eq_true, reduceCtorEq, ↓reduceIte, eq_self] at h; exact h
def z_bs (T : Nat → Int32) (a : Nat) : Nat := if T (a + 2) = 95 then a + 3 else a + 2
def z_exS (T : Nat → Int32) (e : Nat) : Nat := if T (e + 1) = 43 ∨ T (e + 1) = 45 then e + 2 else e + 1
def z_exp (T : Nat → Int32) (n e : Nat) : Nat := if (T e = 101 ∨ T e = 69) ∧ z_dg 10 (T (z_exS T e)) = true then z_dE T n 10 (z_exS T e) else e
def z_fr (T : Nat → Int32) (n e : Nat) : Nat := if T e = 46 then z_dE T n 10 (e + 1) else e
def z_0 (T : Nat → Int32) (j : Nat) : Bool := decide (T j = 48) || decide (T j = 95)
def z_idle (T : Nat → Int32) (a e : Nat) : Bool := decide (T a = 48) && decide (z_run (z_0 T) (e - a) a < e)
def z_num (T : Nat → Int32) (n a : Nat) : Option (Int32 × Nat) :=
  if z_base T a = 10 then
    (if z_exp T n (z_fr T n (z_dE T n 10 a)) = z_dE T n 10 a ∧ z_idle T a (z_dE T n 10 a) = true then none
     else if z_nP T (z_exp T n (z_fr T n (z_dE T n 10 a))) = true then none
     else some (if z_exp T n (z_fr T n (z_dE T n 10 a)) = z_dE T n 10 a then 5 else 6, z_exp T n (z_fr T n (z_dE T n 10 a))))
  else
    (if z_dE T n (z_base T a) (z_bs T a) = z_bs T a then none
     else if z_nP T (z_dE T n (z_base T a) (z_bs T a)) = true then none
     else some (5, z_dE T n (z_base T a) (z_bs T a)))
/-- what both texts have -/
def tX (T : Nat → Int32) (n : Nat) : Prop := n ≤ 4096 ∧ (∀ k, n ≤ k → T k = -1) ∧ ∀ k, z_c (T k)
theorem kTx_t {σ : KS} {T : Nat → Int32} {n : Nat} (h : kTx σ T n) : tX T n := ⟨h.1, kTx_o h, kTx_c h⟩
theorem mTx_t {σ : MS} {T : Nat → Int32} {n : Nat} (h : mTx σ T n) : tX T n := ⟨h.1, h.2.2.1, h.2.2.2.2⟩
theorem tX_in {T : Nat → Int32} {n k : Nat} (h : tX T n) {c : Int32} (hc : T k = c) (h1 : c ≠ -1) : k < n := by
  by_cases q : k < n
  · exact q
  · exact absurd (h.2.1 k (by omega)) (by rw [hc]; exact h1)
theorem tX_dg {T : Nat → Int32} {n k : Nat} {b : Int32} (h : tX T n) (hb : b ∈ ([2, 8, 10, 16] : List Int32)) (hd : z_dg b (T k) = true) : k < n := by
  by_cases q : k < n
  · exact q
  · rw [h.2.1 k (by omega), z_dg_m1 b hb] at hd
    cases hd
theorem z_fr_le {T : Nat → Int32} {n e : Nat} (hT : tX T n) (h : e ≤ n) : e ≤ z_fr T n e ∧ z_fr T n e ≤ n := by
  unfold z_fr
  split
  · rename_i q
    have := tX_in hT q (by decide)
    have := z_dE_le (T := T) (b := 10) (show e + 1 ≤ n by omega)
    omega
  · omega
theorem z_exS_le {T : Nat → Int32} {n e : Nat} (hT : tX T n) (h : e < n) : e < z_exS T e ∧ z_exS T e ≤ n := by
  unfold z_exS
  split
  · rename_i q
    rcases q with q | q
    · have := tX_in hT q (by decide); omega
    · have := tX_in hT q (by decide); omega
  · omega
theorem z_exp_le {T : Nat → Int32} {n e : Nat} (hT : tX T n) (h : e ≤ n) : e ≤ z_exp T n e ∧ z_exp T n e ≤ n := by
  unfold z_exp
  split
  · rename_i q
    have h1 : e < n := by
      rcases q.1 with r | r
      · exact tX_in hT r (by decide)
      · exact tX_in hT r (by decide)
    have h2 := z_exS_le hT h1
    have := z_dE_le (T := T) (b := 10) h2.2
    omega
  · omega
theorem p_realEnd {σ : KS} {T : Nat → Int32} {n e : Nat} {post : Int32 → KS → Prop} (hT : kTx σ T n) (he : e ≤ n) (h : post (nI (z_exp T n (z_fr T n e))) σ) : wp_Shapes_realEnd (nI e) σ post := by
  have hn := hT.1
  have ht := kTx_t hT
  have h85 : ∀ e s, e < n → s = z_exS T e → (T e = 101 ∨ T e = 69) → post (nI (z_exp T n e)) σ → L_Shapes_realEnd_85 post (nI e) (nI s) σ := by
    intro e s he hs hc h
    have hl := z_exS_le ht he
    have hd := z_dE_le (T := T) (b := 10) hl.2
    subst hs
    refine p_digitsEnd hT (by omega) ?_
    unfold z_exp at h
    cases q : z_dg 10 (T (z_exS T e)) with
    | false =>
      rw [if_neg (by rw [q]; simp)] at h
      rw [z_dE_same q]
      exact ⟨fun r => absurd rfl r, fun _ => h⟩
    | true =>
      rw [if_pos ⟨hc, q⟩] at h
      have hg := z_dE_gt (n := n) (tX_dg ht (by decide) q) q
      refine ⟨fun _ => h, fun r => ?_⟩
      rw [nI_eq (by omega) (by omega)] at r
      omega
  have h26 : ∀ e, e ≤ n → post (nI (z_exp T n e)) σ → L_Shapes_realEnd_26 post (nI e) σ := by
    intro e he h
    have h50 : (T e = 101 ∨ T e = 69) → L_Shapes_realEnd_50 post (nI e) σ := by
      intro hc
      have h1 : e < n := by
        rcases hc with r | r
        · exact tX_in ht r (by decide)
        · exact tX_in ht r (by decide)
      unfold L_Shapes_realEnd_50 L_Shapes_realEnd_76
      rw [nI_1, nI_p2]
      refine p_let hT (by omega) ⟨fun h2 => h85 e _ h1 (by unfold z_exS; rw [if_pos (Or.inl h2)]) hc h, fun h2 => ⟨fun h3 => h85 e _ h1 (by unfold z_exS; rw [if_neg (fun q => q.elim h2 h3)]) hc h, fun h3 => h85 e _ h1 (by unfold z_exS; rw [if_pos (Or.inr h3)]) hc h⟩⟩
    unfold L_Shapes_realEnd_26
    refine p_let hT (by omega) ⟨fun h1 => h50 (Or.inl h1), fun h1 => ⟨fun h2 => h50 (Or.inr h2), fun h2 => ?_⟩⟩
    unfold z_exp at h
    rw [if_neg (fun q => q.1.elim h1 h2)] at h
    exact h
  have hf := z_fr_le ht he
  unfold wp_Shapes_realEnd
  rw [nI_1]
  refine p_let hT (by omega) ⟨fun h1 => h26 e he ?_, fun h1 => p_digitsEnd hT (by omega) (h26 _ ?_ ?_)⟩
  · unfold z_fr at h; rw [if_neg h1] at h; exact h
  · unfold z_fr at hf; rw [if_pos h1] at hf; exact hf.2
  · unfold z_fr at h; rw [if_pos h1] at h; exact h
theorem p_idle_l {σ : KS} {T : Nat → Int32} {n : Nat} {post : Int32 → KS → Prop} (hT : kTx σ T n) {e : Nat} (he : e ≤ n) : ∀ (f k : Nat), k + f = e → post (bI (decide (z_run (z_0 T) f k < e))) σ → L_Shapes_hasIdleZero_17 post (f + 1) (nI e) (nI k) σ := by
  have hn := hT.1
  intro f
  induction f with
  | zero =>
    intro k hk h
    unfold L_Shapes_hasIdleZero_17
    rw [z_run, decide_eq_false (by omega)] at h
    exact ⟨fun _ => h, fun h1 => absurd (nI_le (by omega) (by omega)) h1⟩
  | succ f ih =>
    intro k hk h
    have go : z_0 T k = true → L_Shapes_hasIdleZero_48 post (fun x2 x3 σ => L_Shapes_hasIdleZero_17 post (f + 1) x2 x3 σ) (nI e) (nI k) σ := by
      intro q
      show L_Shapes_hasIdleZero_17 post (f + 1) (nI e) (nI k + 1) σ
      rw [nI_1]
      rw [z_run_t q] at h
      exact ih (k + 1) (by omega) h
    unfold L_Shapes_hasIdleZero_17
    refine ⟨fun h1 => absurd h1 (nI_ge (by omega) (by omega)), fun _ => p_let hT (by omega) ⟨fun h2 => go (by unfold z_0; simp [h2]), fun h2 => ⟨fun h3 => go (by unfold z_0; simp [h3]), fun h3 => ?_⟩⟩⟩
    rw [z_run_f (P := z_0 T) (by unfold z_0; simp [h2, h3]), decide_eq_true (by omega)] at h
    exact h
theorem p_idle {σ : KS} {T : Nat → Int32} {n a e : Nat} {post : Int32 → KS → Prop} (hT : kTx σ T n) (ha : a ≤ e) (he : e ≤ n) (h : post (bI (z_idle T a e)) σ) : wp_Shapes_hasIdleZero (nI a) (nI e) σ post := by
  have hn := hT.1
  unfold wp_Shapes_hasIdleZero
  unfold z_idle at h
  refine p_let hT (by omega) ⟨fun h1 => ⟨e - a + 1, p_idle_l hT he (e - a) a (by omega) ?_⟩, fun h1 => ?_⟩
  · rw [decide_eq_true h1, Bool.true_and] at h; exact h
  · rw [decide_eq_false h1, Bool.false_and] at h; exact h
def oI : Option (Int32 × Nat) → Int32
  | none => -1
  | some (_, e) => nI e
theorem p_nE62 {σ : KS} {T : Nat → Int32} {n e : Nat} {post : Int32 → KS → Prop} (hT : kTx σ T n) (he : e ≤ n) (h1 : z_nP T e = true → post (-1) σ) (h2 : z_nP T e = false → post (nI e) σ) : L_Shapes_numberEnd_62 post (nI e) σ := by
  have hn := hT.1
  unfold L_Shapes_numberEnd_62
  exact p_let hT (by omega) (p_continuesName ⟨fun q => h2 (bI_0.mp q), fun q => h1 (bI_n0.mp q)⟩)
theorem z_bs_le {T : Nat → Int32} {n a : Nat} (hT : tX T n) (h : ¬ z_base T a = 10) : a + 2 ≤ z_bs T a ∧ z_bs T a ≤ n ∧ a + 1 < n := by
  have h1 : a + 1 < n := by
    refine Nat.lt_of_not_le (fun q => h ?_)
    unfold z_base
    rw [hT.2.1 (a + 1) q]
    split <;> decide
  unfold z_bs
  split
  · rename_i q
    have := tX_in hT q (by decide)
    omega
  · omega
theorem p_numberEnd {σ : KS} {T : Nat → Int32} {n a : Nat} {post : Int32 → KS → Prop} (hT : kTx σ T n) (ha : a ≤ n) (h : post (oI (z_num T n a)) σ) : wp_Shapes_numberEnd (nI a) σ post := by
  have hn := hT.1
  have ht := kTx_t hT
  unfold wp_Shapes_numberEnd
  refine p_baseAt hT (by omega) ⟨fun h1 => ?_, fun h1 => ?_⟩
  · have hb := z_bs_le ht h1
    have hd := z_dE_le (T := T) (b := z_base T a) hb.2.1
    unfold z_num at h
    rw [if_neg h1] at h
    have h24 : L_Shapes_basedEnd_24 (fun r3 σ4 => L_Shapes_numberEnd_28 post (nI a) (z_base T a) r3 σ4) (z_base T a) (nI (z_bs T a)) σ := by
      unfold L_Shapes_basedEnd_24
      refine p_digitsEnd hT (by omega) ⟨fun q => ?_, fun q => ?_⟩
      · rw [nI_eq (by omega) (by omega)] at q
        rw [if_neg q] at h
        refine ⟨fun _ => p_nE62 hT hd.2 (fun r => ?_) (fun r => ?_), fun r => absurd r h1⟩
        · rw [if_pos r] at h; exact h
        · rw [if_neg (by rw [r]; decide)] at h; exact h
      · rw [nI_eq (by omega) (by omega)] at q
        rw [if_pos q] at h
        refine ⟨fun _ => ?_, fun r => absurd r h1⟩
        unfold L_Shapes_numberEnd_62
        refine p_let_neg (p_continuesName ⟨fun _ => h, fun r => absurd r (by decide +kernel)⟩)
    unfold wp_Shapes_basedEnd
    rw [nI_p2, nI_p3]
    refine p_let hT (by omega) ⟨fun q => ?_, fun q => ?_⟩
    · unfold z_bs at h24; rw [if_neg q] at h24; exact h24
    · unfold z_bs at h24; rw [if_pos q] at h24; exact h24
  · unfold z_num at h
    rw [if_pos h1] at h
    have hd := z_dE_le (T := T) (b := 10) ha
    have hf := z_fr_le ht hd.2
    have hx := z_exp_le ht hf.2
    refine p_digitsEnd hT (by omega) ⟨fun q => absurd h1 q, fun _ => p_realEnd hT hd.2 ⟨fun q => ?_, fun q => ?_⟩⟩
    · rw [nI_eq (by omega) (by omega)] at q
      rw [if_neg (fun r => q r.1), if_neg q] at h
      refine p_nE62 hT hx.2 (fun r => ?_) (fun r => ?_)
      · rw [if_pos r] at h; exact h
      · rw [if_neg (by rw [r]; decide)] at h; exact h
    · rw [nI_eq (by omega) (by omega)] at q
      rw [q] at h ⊢
      refine p_idle hT hd.1 hd.2 ⟨fun r => ?_, fun r => ?_⟩
      · rw [bI_0] at r
        rw [if_neg (by rw [r]; simp)] at h
        refine p_nE62 hT hd.2 (fun s => ?_) (fun s => ?_)
        · rw [if_pos s] at h; exact h
        · rw [if_neg (by rw [s]; decide)] at h; exact h
      · rw [bI_n0] at r
        rw [if_pos ⟨rfl, r⟩] at h
        exact h
theorem p_numberKind {σ : KS} {T : Nat → Int32} {n a : Nat} {r : Int32} {post : Int32 → KS → Prop} (hT : kTx σ T n) (ha : a ≤ n) (h : post (if z_base T a = 10 ∧ ¬ nI (z_dE T n 10 a) = r then 6 else 5) σ) : wp_Shapes_numberKind (nI a) r σ post := by
  have hn := hT.1
  unfold wp_Shapes_numberKind L_Shapes_numberKind_21 L_Shapes_numberKind_26
  refine p_baseAt hT (by omega) ⟨fun h1 => ⟨fun q => absurd q (by decide), fun _ => ?_⟩, fun h1 => p_digitsEnd hT (by omega) ⟨fun h2 => ⟨fun _ => ?_, fun q => absurd rfl q⟩, fun h2 => ⟨fun q => absurd q (by decide), fun _ => ?_⟩⟩⟩
  · rw [if_neg (fun q => h1 q.1)] at h; exact h
  · rw [if_pos ⟨h1, h2⟩] at h; exact h
  · rw [if_neg (fun q => q.2 h2)] at h; exact h
/-- the class's two steps as one -/
theorem p_num {σ : KS} {T : Nat → Int32} {n a : Nat} {post : Int32 → Int32 → KS → Prop} (hT : kTx σ T n) (ha : a ≤ n) (h0 : z_num T n a = none → ∀ k, post k (-1) σ) (h1 : ∀ k e, z_num T n a = some (k, e) → post k (nI e) σ) : wp_Shapes_numberKind (nI a) (oI (z_num T n a)) σ (fun k s' => post k (oI (z_num T n a)) s') := by
  have hn := hT.1
  have ht := kTx_t hT
  refine p_numberKind hT ha ?_
  cases e : z_num T n a with
  | none => exact h0 e _
  | some x =>
    obtain ⟨k, e1⟩ := x
    have h2 := h1 k e1 e
    show post _ (nI e1) σ
    unfold z_num at e
    by_cases hb : z_base T a = 10
    · rw [if_pos hb] at e
      have hd := z_dE_le (T := T) (b := 10) ha
      have hf := z_fr_le ht hd.2
      have hx := z_exp_le ht hf.2
      split at e
      · cases e
      · split at e
        · cases e
        · cases e
          by_cases q : z_exp T n (z_fr T n (z_dE T n 10 a)) = z_dE T n 10 a
          · rw [if_pos q] at h2
            rw [if_neg (fun r => r.2 (by show nI _ = nI _; rw [q]))]
            exact h2
          · rw [if_neg q] at h2
            rw [if_pos ⟨hb, fun r => q ((nI_eq (by omega) (by omega)).mp r).symm⟩]
            exact h2
    · rw [if_neg hb] at e
      rw [if_neg (fun r => hb r.1)]
      split at e
      · cases e
      · split at e
        · cases e
        · cases e
          exact h2
