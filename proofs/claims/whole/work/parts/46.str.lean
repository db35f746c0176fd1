/-! strings -/
def z_pl (T : Nat → Int32) (a : Nat) : Nat := if T a = 114 then (if T (a + 1) = 102 then 2 else 1) else if T a = 102 then (if T (a + 1) = 114 then 2 else 1) else 0
theorem z_pl_le (T : Nat → Int32) (a : Nat) : z_pl T a ≤ 2 := by
  unfold z_pl
  repeat' split
  all_goals omega
def z_isq (c : Int32) : Bool := decide (c = 39) || decide (c = 34)
theorem p_quote {σ : KS} {T : Nat → Int32} {n a : Nat} {post : Int32 → KS → Prop} (hT : kTx σ T n) (ha : a < 2 ^ 30) (h : post (if z_isq (T (a + z_pl T a)) = true then nI (a + z_pl T a) else -1) σ) : wp_Shapes_quoteOfStringAt (nI a) σ post := by
  have hl := z_pl_le T a
  have key : ∀ m, m = z_pl T a → wp_Text_letterAt (nI a + nI m) σ (fun r7 σ8 => ((r7 = 39 → L_Shapes_quoteOfStringAt_45 post (nI a + nI m) σ8) ∧ (¬ (r7 = 39) → ((¬ r7 = 34 → post (-1) σ8) ∧ (r7 = 34 → L_Shapes_quoteOfStringAt_45 post (nI a + nI m) σ8))))) := by
    intro m hm
    subst hm
    rw [nI_add]
    refine p_let hT (by omega) ⟨fun q => ?_, fun q => ⟨fun r => ?_, fun r => ?_⟩⟩
    · rw [if_pos (by unfold z_isq; simp [q])] at h; exact h
    · rw [if_neg (by unfold z_isq; simp [q, r])] at h; exact h
    · rw [if_pos (by unfold z_isq; simp [r])] at h; exact h
  unfold wp_Shapes_quoteOfStringAt wp_Shapes_prefixLength
  rw [nI_1]
  refine p_let hT (by omega) (p_let hT (by omega) ⟨fun q => ⟨fun r => key 0 ?_, fun r => ⟨fun s => key 1 ?_, fun s => key 2 ?_⟩⟩, fun q => ⟨fun r => key 1 ?_, fun r => key 2 ?_⟩⟩)
  · unfold z_pl; rw [if_neg q, if_neg r]
  · unfold z_pl; rw [if_neg q, if_pos r, if_neg s]
  · unfold z_pl; rw [if_neg q, if_pos r, if_pos s]
  · unfold z_pl; rw [if_pos q, if_neg r]
  · unfold z_pl; rw [if_pos q, if_pos r]
def z_thr (T : Nat → Int32) (c : Int32) (k : Nat) : Bool := decide (T k = c) && decide (T (k + 1) = c) && decide (T (k + 2) = c)
theorem p_thrice {σ : KS} {T : Nat → Int32} {n k : Nat} {c : Int32} {post : Int32 → KS → Prop} (hT : kTx σ T n) (hk : k < 2 ^ 30) (h : post (bI (z_thr T c k)) σ) : wp_Shapes_standsThrice c (nI k) σ post := by
  unfold z_thr bI at h
  unfold wp_Shapes_standsThrice
  rw [nI_1, nI_p2]
  refine p_let hT (by omega) ⟨fun q => ?_, fun q => p_let hT (by omega) ⟨fun r => ?_, fun r => p_let hT (by omega) ⟨fun s => ?_, fun s => ?_⟩⟩⟩
  · rw [if_neg (by simp [q])] at h; exact h
  · rw [if_neg (by simp [r])] at h; exact h
  · rw [if_neg (by simp [s])] at h; exact h
  · rw [if_pos (by simp [q, r, s])] at h; exact h
/-- is the string closed at j -/
def z_cl (T : Nat → Int32) (c : Int32) (m j : Nat) : Bool := decide (T j = c) && (decide (m = 1) || z_thr T c j)
def z_sE (T : Nat → Int32) (n : Nat) (c : Int32) (m : Nat) : Nat → Nat → Option Nat
  | 0, _ => none
  | f + 1, j => if n ≤ j then none else if z_cl T c m j = true then some (j + m) else if T j = 10 ∧ m = 1 then none else if T j = 92 then z_sE T n c m f (j + 2) else z_sE T n c m f (j + 1)
def sI : Option Nat → Int32
  | none => -1
  | some e => nI e
theorem p_strE_l {σ : KS} {T : Nat → Int32} {n m : Nat} {c : Int32} {post : Int32 → KS → Prop} (hT : kTx σ T n) (hm : m = 1 ∨ m = 3) (hc : ¬ c = 92) : ∀ (f j : Nat), n ≤ j + f → j ≤ n + 5 → post (sI (z_sE T n c m f j)) σ → L_Shapes_stringEnd_29 post (f + 1) c (nI m) (nI j) σ := by
  have hn := hT.1
  have e1 : (nI m = 1) ↔ m = 1 := by rcases hm with rfl | rfl <;> decide
  intro f
  induction f with
  | zero =>
    intro j hj hj2 h
    unfold L_Shapes_stringEnd_29 wp_Text_size
    rw [hT.2.1]
    exact ⟨fun _ => h, fun q => absurd (nI_le (by omega) (by omega)) q⟩
  | succ f ih =>
    intro j hj hj2 h
    unfold L_Shapes_stringEnd_29 wp_Text_size
    rw [hT.2.1]
    unfold z_sE at h
    refine ⟨fun q => ?_, fun q => ?_⟩
    · rw [nI_leI (by omega) (by omega)] at q
      rw [if_pos q] at h; exact h
    · rw [nI_leI (by omega) (by omega)] at q
      rw [if_neg q] at h
      have n91 : z_cl T c m j = false → ¬ T j = 92 → L_Shapes_stringEnd_91 post (fun x2 x3 x4 σ => L_Shapes_stringEnd_29 post (f + 1) x2 x3 x4 σ) c (nI m) (nI j) (T j) σ := by
        intro g1 g2
        rw [if_neg (by rw [g1]; decide)] at h
        have nx : ¬ (T j = 10 ∧ m = 1) → L_Shapes_stringEnd_105 post (fun x2 x3 x4 σ => L_Shapes_stringEnd_29 post (f + 1) x2 x3 x4 σ) c (nI m) (nI j) σ := by
          intro g
          rw [if_neg g, if_neg g2] at h
          show L_Shapes_stringEnd_29 post (f + 1) c (nI m) (nI j + 1) σ
          rw [nI_1]
          exact ih (j + 1) (by omega) (by omega) h
        refine ⟨fun r => nx (fun t => r t.1), fun r => ⟨fun s => nx (fun t => s (e1.mpr t.2)), fun s => ?_⟩⟩
        rw [if_pos ⟨r, e1.mp s⟩] at h
        exact h
      refine p_let hT (by omega) ⟨fun r => ⟨fun s => n91 (by unfold z_cl; simp [s]) r, fun s => ⟨fun t => ?_, fun t => p_thrice hT (by omega) ⟨fun u => n91 ?_ r, fun u => ?_⟩⟩⟩, fun r => ?_⟩
      · rw [if_pos (by unfold z_cl; simp [s, e1.mp t])] at h
        rw [nI_add]
        exact h
      · rw [bI_0] at u
        unfold z_cl; rw [u]
        have : ¬ m = 1 := fun v => t (e1.mpr v)
        simp [this]
      · rw [bI_n0] at u
        rw [if_pos (by unfold z_cl; simp [s, u])] at h
        rw [nI_add]
        exact h
      · rw [if_neg (by unfold z_cl; rw [r]; simp [Ne.symm hc]), if_neg (fun t => absurd (r.symm.trans t.1) (by decide)), if_pos r] at h
        show L_Shapes_stringEnd_29 post (f + 1) c (nI m) (nI j + 1 + 1) σ
        rw [nI_1, nI_1]
        exact ih (j + 2) (by omega) (by omega) h
def z_m (T : Nat → Int32) (q : Nat) : Nat := if z_thr T (T q) q = true then 3 else 1
theorem z_m_in (T : Nat → Int32) (q : Nat) : z_m T q = 1 ∨ z_m T q = 3 := by unfold z_m; split <;> omega
/-- where the string ends whose first quote stands at q -/
def z_str (T : Nat → Int32) (n q : Nat) : Option Nat := z_sE T n (T q) (z_m T q) n (q + z_m T q)
theorem p_stringEnd {σ : KS} {T : Nat → Int32} {n q : Nat} {post : Int32 → KS → Prop} (hT : kTx σ T n) (hq : q < n) (hc : z_isq (T q) = true) (h : post (sI (z_str T n q)) σ) : wp_Shapes_stringEnd (nI q) σ post := by
  have hn := hT.1
  have hc' : ¬ T q = 92 := by
    intro e
    rw [e] at hc
    exact absurd hc (by decide)
  have key : ∀ m, m = z_m T q → L_Shapes_stringEnd_23 post (nI q) (T q) (nI m) σ := by
    intro m hm
    subst hm
    have hi := z_m_in T q
    refine ⟨n + 1, ?_⟩
    rw [nI_add]
    exact p_strE_l hT hi hc' n _ (by omega) (by omega) h
  unfold wp_Shapes_stringEnd
  refine p_let hT (by omega) (p_thrice hT (by omega) ⟨fun r => key 1 ?_, fun r => key 3 ?_⟩)
  · rw [bI_0] at r; unfold z_m; rw [if_neg (by rw [r]; decide)]
  · rw [bI_n0] at r; unfold z_m; rw [if_pos r]
theorem z_sE_le {T : Nat → Int32} {n m : Nat} {c : Int32} (hT : tX T n) (hm : m = 1 ∨ m = 3) (hc : ¬ c = -1) : ∀ (f j e : Nat), z_sE T n c m f j = some e → j < e ∧ e ≤ n := by
  intro f
  induction f with
  | zero => intro j e h; cases h
  | succ f ih =>
    intro j e h
    unfold z_sE at h
    split at h
    · cases h
    · split at h
      · rename_i h1 h2
        cases h
        unfold z_cl z_thr at h2
        rcases hm with rfl | rfl
        · omega
        · rw [Bool.and_eq_true, Bool.or_eq_true, Bool.and_eq_true, Bool.and_eq_true] at h2
          rcases h2.2 with g | g
          · exact absurd g (by decide)
          · have := tX_in hT (decide_eq_true_iff.mp g.2) hc
            omega
      · split at h
        · cases h
        · split at h
          · have := ih _ _ h; omega
          · have := ih _ _ h; omega
theorem z_str_le {T : Nat → Int32} {n q e : Nat} (hT : tX T n) (hc : z_isq (T q) = true) (h : z_str T n q = some e) : q < e ∧ e ≤ n := by
  have hc' : ¬ T q = -1 := by
    intro e
    rw [e] at hc
    exact absurd hc (by decide)
  have := z_sE_le hT (z_m_in T q) hc' _ _ _ h
  omega
/-! the reference's string -/
theorem q_str_l {σ : MS} {T : Nat → Int32} {n m a : Nat} {c : Int32} {post : Int32 → MS → Prop} (hT : mTx σ T n) (hm : m = 1 ∨ m = 3) (hc : ¬ c = 92) (hw : m_wrong σ = -1) : ∀ (f j : Nat), n ≤ j + f → j ≤ n + 5 → (z_sE T n c m f j = none → post 0 (m_wrong' σ (nI a))) → (∀ e, z_sE T n c m f j = some e → wp_Mod_add 7 (nI a) (nI e) (m_at' σ (nI e)) (fun r s => vB r ∧ post r s)) → L_Mod_string_46 post (f + 1) (nI a) c (nI m) (nI j) σ := by
  have hn := hT.1
  have e1 : (nI m = 1) ↔ m = 1 := by rcases hm with rfl | rfl <;> decide
  intro f
  induction f with
  | zero =>
    intro j hj hj2 h _
    unfold L_Mod_string_46 L_Mod_string_142
    rw [hT.2.1]
    exact ⟨fun _ => ⟨fun q => absurd q (nI_nlt (by omega) (by omega)), fun _ => q_bad hw ⟨vB_bI false, h rfl⟩⟩, fun q => absurd (nI_le (by omega) (by omega)) q⟩
  | succ f ih =>
    intro j hj hj2 h0 h1
    unfold L_Mod_string_46
    rw [hT.2.1]
    unfold z_sE at h0 h1
    refine ⟨fun q => ?_, fun q => ?_⟩
    · rw [nI_leI (by omega) (by omega)] at q
      rw [if_pos q] at h0
      unfold L_Mod_string_142
      rw [hT.2.1]
      exact ⟨fun r => absurd r (nI_nlt (by omega) (by omega)), fun _ => q_bad hw ⟨vB_bI false, h0 rfl⟩⟩
    · rw [nI_leI (by omega) (by omega)] at q
      rw [if_neg q] at h0 h1
      have c142 : z_cl T c m j = true → L_Mod_string_142 post (nI a) (nI m) (nI j) σ := by
        intro g
        unfold L_Mod_string_142
        rw [hT.2.1, nI_add]
        refine ⟨fun _ s hs => ?_, fun r => absurd (nI_lt (by omega) (by omega)) r⟩
        subst hs
        exact h1 (j + m) (by rw [if_pos g])
      have n95 : z_cl T c m j = false → L_Mod_string_95 post (fun x2 x3 x4 x5 σ => L_Mod_string_46 post (f + 1) x2 x3 x4 x5 σ) (nI a) c (nI m) (nI j) σ := by
        intro g1
        rw [if_neg (by rw [g1]; decide)] at h0 h1
        have nx : ¬ (T j = 10 ∧ m = 1) → L_Mod_string_118 post (fun x2 x3 x4 x5 σ => L_Mod_string_46 post (f + 1) x2 x3 x4 x5 σ) (nI a) c (nI m) (nI j) σ := by
          intro g
          rw [if_neg g] at h0 h1
          unfold L_Mod_string_118 L_Mod_string_136
          rw [nI_1, nI_p2]
          refine q_c hT (by omega) ⟨fun r => ?_, fun r => ?_⟩
          · rw [if_neg r] at h0 h1
            exact ih (j + 1) (by omega) (by omega) h0 h1
          · rw [if_pos r] at h0 h1
            exact ih (j + 2) (by omega) (by omega) h0 h1
        refine ⟨fun r => nx (fun t => r (e1.mpr t.2)), fun r => q_c hT (by omega) ⟨fun s => nx (fun t => s t.1), fun s => q_bad hw ⟨vB_bI false, h0 ?_⟩⟩⟩
        rw [if_pos ⟨s, e1.mp r⟩]
      refine q_c hT (by omega) ⟨fun r => n95 (by unfold z_cl; simp [r]), fun r => ⟨fun s => c142 (by unfold z_cl; simp [r, e1.mp s]), fun s => ?_⟩⟩
      have s' : ¬ m = 1 := fun v => s (e1.mpr v)
      rw [nI_1, nI_p2]
      refine q_c hT (by omega) ⟨fun t => n95 (by unfold z_cl z_thr; simp [t, s']), fun t => q_c hT (by omega) ⟨fun u => c142 (by unfold z_cl z_thr; simp [r, t, u]), fun u => n95 (by unfold z_cl z_thr; simp [u, s'])⟩⟩
theorem q_string {σ : MS} {T : Nat → Int32} {n a q : Nat} {post : Int32 → MS → Prop} (hT : mTx σ T n) (hq : q < n) (hat : m_at σ = nI a) (hc : z_isq (T q) = true) (hw : m_wrong σ = -1) (h0 : z_str T n q = none → post 0 (m_wrong' σ (nI a))) (h1 : ∀ e, z_str T n q = some e → wp_Mod_add 7 (nI a) (nI e) (m_at' σ (nI e)) (fun r s => vB r ∧ post r s)) : wp_Mod_string (nI q) σ post := by
  have hn := hT.1
  have hc' : ¬ T q = 92 := by
    intro e
    rw [e] at hc
    exact absurd hc (by decide)
  have key : ∀ m, m = z_m T q → L_Mod_string_38 post (nI q) (nI a) (T q) (nI m) σ := by
    intro m hm
    subst hm
    have hi := z_m_in T q
    refine ⟨n + 1, ?_⟩
    rw [nI_add]
    exact q_str_l hT hi hc' hw n _ (by omega) (by omega) h0 h1
  unfold wp_Mod_string L_Mod_string_37
  rw [hat, nI_1, nI_p2]
  refine q_c hT (by omega) (q_c hT (by omega) ⟨fun r => key 1 ?_, fun r => q_c hT (by omega) ⟨fun s => key 1 ?_, fun s => key 3 ?_⟩⟩)
  · unfold z_m z_thr; rw [if_neg (by simp [r])]
  · unfold z_m z_thr; rw [if_neg (by simp [s])]
  · unfold z_m z_thr; rw [if_pos (by simp [r, s])]
