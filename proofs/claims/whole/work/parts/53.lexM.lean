/-! the reference reads the same -/
def xR (T : Nat → Int32) (n : Nat) : Nat → Nat → Nat → Bool → Nat → (Nat → Nat) → List Tk → Nat ⊕ List Tk := xF T n n
theorem xR_eq {T : Nat → Int32} {n a p op : Nat} {lht : Bool} {d : Nat} {lv : Nat → Nat} {tk : List Tk} (hT : tX T n) : xR T n a p op lht d lv tk = xB T n (xR T n) a p op lht d lv tk := (xF_fuel hT n a p op lht d lv tk (by omega)).symm
theorem xR_end {T : Nat → Int32} {n a p op : Nat} {lht : Bool} {d : Nat} {lv : Nat → Nat} {tk : List Tk} (h : n ≤ a) : xR T n a p op lht d lv tk = .inr (z_fin n lht d lv tk) := xF_end h
theorem xR_32 {T : Nat → Int32} {n a p op : Nat} {lht : Bool} {d : Nat} {lv : Nat → Nat} {tk : List Tk} (hT : tX T n) (h : T a = 32) : xR T n a p op lht d lv tk = xR T n (a + 1) p op lht d lv tk := by
  have := tX_in hT h (by decide)
  rw [xR_eq hT]; unfold xB; rw [if_neg (by omega), if_pos h]
theorem xR_35 {T : Nat → Int32} {n a p op : Nat} {lht : Bool} {d : Nat} {lv : Nat → Nat} {tk : List Tk} (hT : tX T n) (h : T a = 35) : xR T n a p op lht d lv tk = xR T n (z_lf T n a) p op lht d lv tk := by
  have := tX_in hT h (by decide)
  rw [xR_eq hT]; unfold xB; rw [if_neg (by omega), if_neg (by rw [h]; decide), if_pos h]
theorem xR_10 {T : Nat → Int32} {n a p op : Nat} {lht : Bool} {d : Nat} {lv : Nat → Nat} {tk : List Tk} (hT : tX T n) (h : T a = 10) (ho : ¬ op = 0) : xR T n a p op lht d lv tk = xR T n (a + 1) p op lht d lv tk := by
  have := tX_in hT h (by decide)
  rw [xR_eq hT]; unfold xB; rw [if_neg (by omega), if_neg (by rw [h]; decide), if_neg (by rw [h]; decide), if_pos h, if_neg ho]
theorem xR_nl {T : Nat → Int32} {n a p : Nat} {lht : Bool} {d : Nat} {lv : Nat → Nat} {tk : List Tk} (hT : tX T n) (h : T a = 10) : xR T n a p 0 lht d lv tk = xR T n (a + 1) (a + 1) 0 false d lv (z_eol a lht tk) := by
  have := tX_in hT h (by decide)
  rw [xR_eq hT]; unfold xB; rw [if_neg (by omega), if_neg (by rw [h]; decide), if_neg (by rw [h]; decide), if_pos h, if_pos rfl]
theorem xR_92 {T : Nat → Int32} {n a p op : Nat} {lht : Bool} {d : Nat} {lv : Nat → Nat} {tk : List Tk} (hT : tX T n) (h : T a = 92 ∧ T (a + 1) = 10) : xR T n a p op lht d lv tk = xR T n (a + 2) p op lht d lv tk := by
  have := tX_in hT h.1 (by decide)
  rw [xR_eq hT]; unfold xB; rw [if_neg (by omega), if_neg (by rw [h.1]; decide), if_neg (by rw [h.1]; decide), if_neg (by rw [h.1]; decide), if_pos h]
/-- a token begins at a -/
def atTok (T : Nat → Int32) (a : Nat) : Prop := ¬ T a = 32 ∧ ¬ T a = 35 ∧ ¬ T a = 10 ∧ ¬ (T a = 92 ∧ T (a + 1) = 10)
theorem xR_tok0 {T : Nat → Int32} {n a p op : Nat} {d : Nat} {lv : Nat → Nat} {tk : List Tk} (hT : tX T n) (ha : a < n) (h : atTok T a) (hz : z_tok T n a = none) : xR T n a p op true d lv tk = .inl a := by
  rw [xR_eq hT]; unfold xB; rw [if_neg (by omega), if_neg h.1, if_neg h.2.1, if_neg h.2.2.1, if_neg h.2.2.2, if_pos rfl, hz]
theorem xR_tok1 {T : Nat → Int32} {n a p op e : Nat} {k : Int32} {d : Nat} {lv : Nat → Nat} {tk : List Tk} (hT : tX T n) (ha : a < n) (h : atTok T a) (hz : z_tok T n a = some (k, e)) : xR T n a p op true d lv tk = xR T n e p (z_dep (T a) op) true d lv (tk ++ [(k, a, e)]) := by
  rw [xR_eq hT]; unfold xB; rw [if_neg (by omega), if_neg h.1, if_neg h.2.1, if_neg h.2.2.1, if_neg h.2.2.2, if_pos rfl, hz]
theorem xR_set0 {T : Nat → Int32} {n a p op : Nat} {d : Nat} {lv : Nat → Nat} {tk : List Tk} (hT : tX T n) (ha : a < n) (h : atTok T a) (hz : z_set T n a p d lv tk = none) : xR T n a p op false d lv tk = .inl a := by
  rw [xR_eq hT]; unfold xB; rw [if_neg (by omega), if_neg h.1, if_neg h.2.1, if_neg h.2.2.1, if_neg h.2.2.2, if_neg (by decide), hz]
theorem xR_set1 {T : Nat → Int32} {n a p op d' : Nat} {lv' : Nat → Nat} {tk' : List Tk} {d : Nat} {lv : Nat → Nat} {tk : List Tk} (hT : tX T n) (ha : a < n) (h : atTok T a) (hz : z_set T n a p d lv tk = some (d', lv', tk')) : xR T n a p op false d lv tk = xR T n a p op true d' lv' tk' := by
  rw [xR_eq hT, xR_eq hT]; unfold xB; rw [if_neg (by omega), if_neg h.1, if_neg h.2.1, if_neg h.2.2.1, if_neg h.2.2.2, if_neg (by decide), hz, if_neg (by omega), if_neg h.1, if_neg h.2.1, if_neg h.2.2.1, if_neg h.2.2.2, if_pos rfl]
/-! the reference's state -/
def mTk (σ : MS) (tk : List Tk) : Prop := m_many σ = nI tk.length ∧ ∀ i t, tk[i]? = some t → m_kd σ i = t.1 ∧ m_fr σ i = nI t.2.1 ∧ m_to σ i = nI t.2.2
def mB (T : Nat → Int32) (n : Nat) (σ : MS) (a d : Nat) (lv : Nat → Nat) (tk : List Tk) : Prop :=
  mTx σ T n ∧ m_at σ = nI a ∧ m_open σ = nI d ∧ (∀ i, i ≤ d → m_ins σ i = nI (lv i)) ∧ m_wrong σ = -1 ∧ m_fed σ = 0 ∧ m_err σ = 0 ∧ mTk σ tk
theorem mB_at {T : Nat → Int32} {n a a' d : Nat} {lv : Nat → Nat} {tk : List Tk} {σ : MS} (h : mB T n σ a d lv tk) : mB T n (m_at' σ (nI a')) a' d lv tk := ⟨h.1, rfl, h.2.2.1, h.2.2.2.1, h.2.2.2.2.1, h.2.2.2.2.2.1, h.2.2.2.2.2.2.1, h.2.2.2.2.2.2.2⟩
theorem q_addM {T : Nat → Int32} {n a d f e : Nat} {lv : Nat → Nat} {tk : List Tk} {σ : MS} {k : Int32} {post : Int32 → MS → Prop} (hB : mB T n σ a d lv tk) (hl : tk.length < 9000) (h : ∀ σ', mB T n σ' a d lv (tk ++ [(k, f, e)]) → m_depth σ' = m_depth σ → post 1 σ') : wp_Mod_add k (nI f) (nI e) σ post := by
  obtain ⟨h1, h2, h3, h4, h5, h6, h7, h8, h9⟩ := hB
  unfold wp_Mod_add
  rw [h8]
  refine ⟨vp_in_nI hl (by omega), fun s1 e1 => ?_⟩
  have q1 : m_many s1 = nI tk.length := by subst e1; exact h8
  rw [q1]
  refine ⟨vp_in_nI hl (by omega), fun s2 e2 s3 e3 => ?_⟩
  have q2 : m_many s2 = nI tk.length := by subst e2; exact q1
  rw [q2] at e3 ⊢
  refine ⟨vp_in_nI hl (by omega), fun s4 e4 => ?_⟩
  rw [nI_clamp (by omega)] at e1 e2 e4
  rw [nI_1] at e3
  subst e4
  subst e3
  subst e2
  subst e1
  refine h _ ⟨h1, h2, h3, h4, h5, h6, h7, ?_, ?_⟩ rfl
  · show nI (tk.length + 1) = _
    rw [List.length_append, List.length_singleton]
  · intro i t hi
    show upd (m_kd σ) tk.length k i = _ ∧ upd (m_fr σ) tk.length (nI f) i = _ ∧ upd (m_to σ) tk.length (nI e) i = _
    unfold upd
    rcases app_get hi with ⟨g1, g2⟩ | ⟨g1, g2⟩
    · rw [if_neg (by omega), if_neg (by omega), if_neg (by omega)]
      exact h9 i t g2
    · rw [if_pos g1, if_pos g1, if_pos g1, g2]
      exact ⟨rfl, rfl, rfl⟩
theorem q_joined {T : Nat → Int32} {n p op : Nat} {lht : Bool} {d : Nat} {lv : Nat → Nat} {tk : List Tk} {post : MS → Prop} : ∀ (f : Nat) (σ : MS) (a : Nat), n ≤ a + f → a ≤ n → mB T n σ a d lv tk → (∀ a' σ', a ≤ a' → a' ≤ n → mB T n σ' a' d lv tk → m_depth σ' = m_depth σ → xR T n a p op lht d lv tk = xR T n a' p op lht d lv tk → ¬ T a' = 32 → ¬ (T a' = 92 ∧ T (a' + 1) = 10) → post σ') → L_Mod_joined_0 post (f + 1) σ := by
  intro f
  induction f with
  | zero =>
    intro σ a hf ha hB h
    have hT := hB.1
    have hn := hT.1
    have ha' : a = n := by omega
    have e1 : T a = -1 := hT.2.2.1 a (by omega)
    unfold L_Mod_joined_0
    rw [hB.2.1]
    refine q_c hT (by omega) ⟨fun q => absurd (e1.symm.trans q) (by decide), fun q => ?_⟩
    rw [hB.2.1]
    refine q_c hT (by omega) ⟨fun r => h a σ (Nat.le_refl _) ha hB rfl rfl q (fun t => r t.1), fun r => absurd (e1.symm.trans r) (by decide)⟩
  | succ f ih =>
    intro σ a hf ha hB h
    have hT := hB.1
    have hn := hT.1
    have ht := mTx_t hT
    unfold L_Mod_joined_0
    rw [hB.2.1]
    refine q_c hT (by omega) ⟨fun q => ?_, fun q => ?_⟩
    · have hin := tX_in ht q (by decide)
      unfold L_Mod_joined_41
      rw [hB.2.1]
      refine q_c hT (by omega) ⟨fun r => absurd q r, fun _ s hs => ?_⟩
      rw [nI_1] at hs
      subst hs
      refine ih _ (a + 1) (by omega) (by omega) (mB_at hB) (fun a' σ' k1 k2 k3 k4 k5 k6 k7 => h a' σ' (by omega) k2 k3 k4 ?_ k6 k7)
      rw [xR_32 ht q]; exact k5
    · rw [hB.2.1]
      refine q_c hT (by omega) ⟨fun r => h a σ (Nat.le_refl _) ha hB rfl rfl q (fun t => r t.1), fun r => ?_⟩
      rw [hB.2.1, nI_1]
      refine q_c hT (by omega) ⟨fun t => h a σ (Nat.le_refl _) ha hB rfl rfl q (fun u => t u.2), fun t => ?_⟩
      have hin := tX_in ht t (by decide)
      unfold L_Mod_joined_41
      rw [hB.2.1]
      refine q_c hT (by omega) ⟨fun _ s hs => ?_, fun u => absurd u q⟩
      rw [nI_p2] at hs
      subst hs
      refine ih _ (a + 2) (by omega) (by omega) (mB_at hB) (fun a' σ' k1 k2 k3 k4 k5 k6 k7 => h a' σ' (by omega) k2 k3 k4 ?_ k6 k7)
      rw [xR_92 ht ⟨r, t⟩]; exact k5
theorem q_comment_l {T : Nat → Int32} {n : Nat} {d : Nat} {lv : Nat → Nat} {tk : List Tk} {post : MS → Prop} : ∀ (f : Nat) (σ : MS) (a : Nat), a + f = n → mB T n σ a d lv tk → (∀ σ', mB T n σ' (z_lf T n a) d lv tk → m_depth σ' = m_depth σ → post σ') → L_Mod_comment_0 post (f + 1) σ := by
  intro f
  induction f with
  | zero =>
    intro σ a hf hB h
    have hn := hB.1.1
    unfold L_Mod_comment_0
    rw [hB.1.2.1, hB.2.1]
    have e : z_lf T n a = a := by unfold z_lf; rw [show n - a = 0 by omega]; rfl
    rw [e] at h
    exact ⟨fun _ => h σ hB rfl, fun q => absurd (nI_le (by omega) (by omega)) q⟩
  | succ f ih =>
    intro σ a hf hB h
    have hn := hB.1.1
    have e : z_lf T n a = if T a = 10 then a else z_lf T n (a + 1) := by
      unfold z_lf
      rw [show n - a = (n - (a + 1)) + 1 by omega, z_run]
      by_cases c : T a = 10
      · rw [if_neg (by simp [c]), if_pos c]
      · rw [if_pos (by simp [c]), if_neg c]
    unfold L_Mod_comment_0
    rw [hB.1.2.1, hB.2.1]
    refine ⟨fun q => absurd q (nI_ge (by omega) (by omega)), fun _ => q_c hB.1 (by omega) ⟨fun q => ?_, fun q s hs => ?_⟩⟩
    · rw [e, if_pos q] at h
      exact h σ hB rfl
    · rw [e, if_neg q] at h
      rw [hB.2.1, nI_1] at hs
      subst hs
      exact ih _ (a + 1) (by omega) (mB_at hB) h
theorem q_comment {T : Nat → Int32} {n : Nat} {d : Nat} {lv : Nat → Nat} {tk : List Tk} {post : MS → Prop} {σ : MS} {a : Nat} (ha : a ≤ n) (hB : mB T n σ a d lv tk) (h : ∀ σ', mB T n σ' (z_lf T n a) d lv tk → m_depth σ' = m_depth σ → post σ') : wp_Mod_comment σ post := ⟨n - a + 1, q_comment_l (n - a) σ a (by omega) hB h⟩
theorem z_lf_10 {T : Nat → Int32} {n a : Nat} (ha : a ≤ n) (h : z_lf T n a < n) : T (z_lf T n a) = 10 := by
  have := z_run_stop (fun j => decide (¬ T j = 10)) (n - a) a (by show z_lf T n a < _; omega)
  have := of_decide_eq_false this
  exact Decidable.not_not.mp this
/-- one turn of between's loop -/
theorem q_btw1 {T : Nat → Int32} {n p op : Nat} {lht : Bool} {d : Nat} {lv : Nat → Nat} {tk : List Tk} {post k0 : MS → Prop} {σ : MS} {a : Nat} (ha : a ≤ n) (hB : mB T n σ a d lv tk) (hd : m_depth σ = nI op) (hop : op ≤ 4096) (h : ∀ σ', mB T n σ' a d lv tk → m_depth σ' = nI op → (a < n → ¬ T a = 32 ∧ ¬ T a = 35 ∧ (T a = 10 → op = 0) ∧ ¬ (T a = 92 ∧ T (a + 1) = 10)) → post σ') (hk : ∀ a' σ', a < a' → a' ≤ n → mB T n σ' a' d lv tk → m_depth σ' = nI op → xR T n a p op lht d lv tk = xR T n a' p op lht d lv tk → k0 σ') : wp_Mod_joined σ (fun σ1 => wp_Mod_c (m_at σ1) σ1 (fun r2 σ3 => ((¬ r2 = 35 → L_Mod_between_26 post k0 (m_at σ) σ3) ∧ (r2 = 35 → wp_Mod_comment σ3 (fun σ4 => L_Mod_between_26 post k0 (m_at σ) σ4))))) := by
  have hn := hB.1.1
  have ht := mTx_t hB.1
  rw [hB.2.1]
  refine ⟨n + 1, q_joined (p := p) (op := op) (lht := lht) n σ a (by omega) ha hB (fun a1 σ1 j1 j2 j3 j4 j5 j6 j7 => ?_)⟩
  have d1 : m_depth σ1 = nI op := j4.trans hd
  have j26 : ∀ a2 σ2, a1 ≤ a2 → a2 ≤ n → mB T n σ2 a2 d lv tk → m_depth σ2 = nI op → xR T n a p op lht d lv tk = xR T n a2 p op lht d lv tk → (a2 = a → ¬ T a = 35) → L_Mod_between_26 post k0 (nI a) σ2 := by
    intro a2 σ2 i1 i2 i3 i4 i5 i6
    have stay : (T a2 = 10 → op = 0) → L_Mod_between_56 post k0 (nI a) σ2 := by
      intro g
      unfold L_Mod_between_56
      rw [i3.2.1]
      refine ⟨fun q => hk a2 σ2 ?_ i2 i3 i4 i5, fun q => ?_⟩
      · rw [nI_eq (by omega) (by omega)] at q; omega
      · rw [nI_eq (by omega) (by omega)] at q
        subst q
        have : a1 = a2 := by omega
        subst this
        exact h σ2 i3 i4 (fun _ => ⟨j6, i6 rfl, g, j7⟩)
    unfold L_Mod_between_26
    rw [i3.2.1]
    refine q_c i3.1 (by omega) ⟨fun q => stay (fun t => absurd t q), fun q => ?_⟩
    rw [i4, i3.2.1, nI_1]
    refine ⟨fun r => stay (fun _ => ?_), fun r s hs => ?_⟩
    · rw [show (0 : Int32) = nI 0 from rfl, nI_leI (by omega) (by omega)] at r; omega
    · rw [show (0 : Int32) = nI 0 from rfl, nI_leI (by omega) (by omega)] at r
      have hin := tX_in ht q (by decide)
      subst hs
      unfold L_Mod_between_56
      rw [show m_at (m_at' σ2 (nI (a2 + 1))) = nI (a2 + 1) from rfl]
      refine ⟨fun _ => hk (a2 + 1) _ (by omega) (by omega) (mB_at i3) i4 (i5.trans (xR_10 ht q (by omega))), fun t => ?_⟩
      rw [nI_eq (by omega) (by omega)] at t
      omega
  rw [j3.2.1]
  refine q_c j3.1 (by omega) ⟨fun q => j26 a1 σ1 (Nat.le_refl _) j2 j3 d1 j5 (fun t => by rw [← t]; exact q), fun q => ?_⟩
  have hin := tX_in ht q (by decide)
  have hlf := z_lf_le (T := T) (show a1 ≤ n by omega)
  have hgt := z_lf_gt (T := T) hin (by rw [q]; decide)
  refine q_comment j2 j3 (fun σ2 i3 i4 => j26 (z_lf T n a1) σ2 hlf.1 hlf.2 i3 (i4.trans d1) (j5.trans (xR_35 ht q)) (fun t => by omega))
theorem q_between {T : Nat → Int32} {n p op : Nat} {lht : Bool} {d : Nat} {lv : Nat → Nat} {tk : List Tk} {post : MS → Prop} (hop : op ≤ 4096) : ∀ (f : Nat) (σ : MS) (a : Nat), n ≤ a + f → a ≤ n → mB T n σ a d lv tk → m_depth σ = nI op → (∀ a' σ', a ≤ a' → a' ≤ n → mB T n σ' a' d lv tk → m_depth σ' = nI op → xR T n a p op lht d lv tk = xR T n a' p op lht d lv tk → (a' < n → ¬ T a' = 32 ∧ ¬ T a' = 35 ∧ (T a' = 10 → op = 0) ∧ ¬ (T a' = 92 ∧ T (a' + 1) = 10)) → post σ') → L_Mod_between_0 post (f + 1) σ := by
  intro f
  induction f with
  | zero =>
    intro σ a hf ha hB hd h
    exact q_btw1 (p := p) (lht := lht) ha hB hd hop (fun σ' k1 k2 k3 => h a σ' (Nat.le_refl _) ha k1 k2 rfl k3) (fun a' σ' k1 k2 _ _ _ => by omega)
  | succ f ih =>
    intro σ a hf ha hB hd h
    exact q_btw1 (p := p) (lht := lht) ha hB hd hop (fun σ' k1 k2 k3 => h a σ' (Nat.le_refl _) ha k1 k2 rfl k3) (fun a' σ' k1 k2 k3 k4 k5 => ih σ' a' (by omega) k2 k3 k4 (fun a2 σ2 i1 i2 i3 i4 i5 i6 => h a2 σ2 (by omega) i2 i3 i4 (k5.trans i5) i6))
