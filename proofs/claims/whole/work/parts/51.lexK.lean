/-! the class's Reader is the lexer -/
theorem z_cnt_add (T : Nat → Int32) : ∀ (f g k : Nat), z_cnt T (f + g) k = z_cnt T f k + z_cnt T g (k + f) := by
  intro f
  induction f with
  | zero => intro g k; rw [Nat.zero_add, z_cnt, Nat.zero_add, Nat.add_zero]
  | succ f ih =>
    intro g k
    rw [show f + 1 + g = (f + g) + 1 by omega, z_cnt, z_cnt, ih, show k + 1 + f = k + (f + 1) by omega]
    omega
theorem z_cnt_le (T : Nat → Int32) : ∀ (f k : Nat), z_cnt T f k ≤ f := by
  intro f
  induction f with
  | zero => intro k; exact Nat.le_refl _
  | succ f ih => intro k; rw [z_cnt]; have := ih (k + 1); split <;> omega
theorem z_cnt_0 (T : Nat → Int32) : ∀ (f k : Nat), (∀ j, k ≤ j → j < k + f → ¬ T j = 10) → z_cnt T f k = 0 := by
  intro f
  induction f with
  | zero => intro k _; rfl
  | succ f ih =>
    intro k h
    rw [z_cnt, if_neg (h k (by omega) (by omega)), ih (k + 1) (fun j h1 h2 => h j (by omega) (by omega))]
theorem z_cnt_to {T : Nat → Int32} {a e : Nat} (h : a ≤ e) : z_cnt T e 0 = z_cnt T a 0 + z_cnt T (e - a) a := by
  have := z_cnt_add T a (e - a) 0
  rw [show a + (e - a) = e by omega, Nat.zero_add] at this
  exact this
theorem z_cnt_s (T : Nat → Int32) (a : Nat) : z_cnt T (a + 1) 0 = z_cnt T a 0 + (if T a = 10 then 1 else 0) := by
  have := z_cnt_to (T := T) (show a ≤ a + 1 by omega)
  rw [show a + 1 - a = 1 by omega, z_cnt, z_cnt] at this
  exact this
theorem z_cnt_lf {T : Nat → Int32} {n a : Nat} (ha : a ≤ n) : z_cnt T (z_lf T n a) 0 = z_cnt T a 0 := by
  have hl := z_lf_le (T := T) ha
  have e0 : z_cnt T (z_lf T n a - a) a = 0 := by
    refine z_cnt_0 T _ _ (fun j h1 h2 => ?_)
    have := z_run_all (fun j => decide (¬ T j = 10)) (n - a) a j h1 (by show j < z_lf T n a; omega)
    exact decide_eq_true_iff.mp this
  rw [z_cnt_to hl.1, e0, Nat.add_zero]
def zpk (T : Nat → Int32) (t : Tk) : Int64 := ((t.1.toInt64 ||| (((nI t.2.1).toInt64 <<< ((16 : Int32).toInt64 &&& 63)) ||| ((nI t.2.2).toInt64 <<< ((32 : Int32).toInt64 &&& 63)))) ||| ((nI (1 + z_cnt T t.2.1 0)).toInt64 <<< ((48 : Int32).toInt64 &&& 63)))
def tkOk (n : Nat) (t : Tk) : Prop := (∃ m, m < 100 ∧ t.1 = nI m) ∧ t.2.1 ≤ n ∧ t.2.2 ≤ n
def kTk (T : Nat → Int32) (n : Nat) (σ : KS) (tk : List Tk) : Prop := tk.length ≤ 5463 ∧ k_cnt σ = nI tk.length ∧ ∀ i t, tk[i]? = some t → k_pk σ i = zpk T t ∧ tkOk n t
theorem app_get {tk : List Tk} {t u : Tk} {i : Nat} (h : (tk ++ [t])[i]? = some u) : (i < tk.length ∧ tk[i]? = some u) ∨ (i = tk.length ∧ u = t) := by
  by_cases q : i < tk.length
  · rw [List.getElem?_append_left q] at h
    exact Or.inl ⟨q, h⟩
  · rw [List.getElem?_append_right (by omega)] at h
    cases e : i - tk.length with
    | zero =>
      rw [e] at h
      simp at h
      exact Or.inr ⟨by omega, h.symm⟩
    | succ m =>
      rw [e] at h
      simp at h
theorem p_addT {σ : KS} {T : Nat → Int32} {n a e : Nat} {k : Int32} {tk : List Tk} {post : KS → Prop} (hk : kTk T n σ tk) (hl : tk.length < 5463) (ht : tkOk n (k, a, e)) (h : ∀ pk c, kTk T n (k_cnt' (k_pk' σ pk) c) (tk ++ [(k, a, e)]) → post (k_cnt' (k_pk' σ pk) c)) : wp_Tokens_add k (nI a) (nI e) (nI (1 + z_cnt T a 0)) σ post := by
  unfold wp_Tokens_add
  rw [hk.2.1]
  refine ⟨fun q => absurd q (show ¬ nI 5463 ≤ nI tk.length from nI_ge hl (by omega)), fun _ => ⟨vp_in_nI hl (by omega), fun s1 e1 s2 e2 => ?_⟩⟩
  subst e1
  subst e2
  rw [nI_clamp (by omega)]
  refine h _ _ ⟨?_, ?_, ?_⟩
  · rw [List.length_append, List.length_singleton]; omega
  · show k_cnt σ + 1 = _
    rw [hk.2.1, nI_1, List.length_append, List.length_singleton]
  · intro i t hi
    show vp_updL (k_pk σ) tk.length _ i = _ ∧ _
    unfold vp_updL
    rcases app_get hi with ⟨h1, h2⟩ | ⟨h1, h2⟩
    · rw [if_neg (by omega)]
      exact hk.2.2 i t h2
    · rw [if_pos h1, h2]
      exact ⟨rfl, ht⟩
def kC (T : Nat → Int32) (n : Nat) (σ : KS) (a p op : Nat) (lht : Bool) (d : Nat) (lv : Nat → Nat) (tk : List Tk) : Prop :=
  kTx σ T n ∧ k_at σ = nI a ∧ k_line σ = nI (1 + z_cnt T a 0) ∧ k_open σ = nI op ∧ k_lin σ = nI (z_bl T n p) ∧ k_lht σ = bI lht ∧ k_deep σ = nI d ∧ (∀ i, i ≤ d → k_lv σ i = nI (lv i)) ∧ kTk T n σ tk
theorem kC_line {T : Nat → Int32} {n : Nat} {σ : KS} {a p op : Nat} {lht : Bool} {d : Nat} {lv : Nat → Nat} {tk : List Tk} (h : kC T n σ a p op lht d lv tk) : k_line σ = nI (1 + z_cnt T a 0) := h.2.2.1
theorem p_addC {σ : KS} {T : Nat → Int32} {n a p op : Nat} {lht : Bool} {d : Nat} {lv : Nat → Nat} {tk : List Tk} {k : Int32} {m : Nat} {post : KS → Prop} (hC : kC T n σ a p op lht d lv tk) (ha : a ≤ n) (hl : tk.length < 5463) (hm : m < 100) (hk : k = nI m) (h : ∀ σ', kC T n σ' a p op lht d lv (tk ++ [(k, a, a)]) → post σ') : wp_Tokens_add k (k_at σ) (k_at σ) (k_line σ) σ post := by
  obtain ⟨h1, h2, h3, h4, h5, h6, h7, h8, h9⟩ := hC
  rw [h2, h3]
  exact p_addT h9 hl ⟨⟨m, hm, hk⟩, ha, ha⟩ (fun pk c g => h _ ⟨h1, h2, h3, h4, h5, h6, h7, h8, g⟩)
theorem p_comeOut_l {T : Nat → Int32} {n a p op : Nat} {lht : Bool} {lv : Nat → Nat} {lin : Nat} {post : KS → Prop} (hn : n ≤ 4096) (ha : a ≤ n) (hlin : lin ≤ n) : ∀ (d : Nat) (tk : List Tk) (σ : KS), kC T n σ a p op lht d lv tk → iL n d lv → d < 100 → tk.length + d ≤ 5463 → (∀ σ', kC T n σ' a p op lht (z_out lv lin a d tk).1 lv (z_out lv lin a d tk).2 → post σ') → L_Reader_comeOutTo_0 post (d + 1) (nI lin) σ := by
  intro d
  induction d with
  | zero =>
    intro tk σ hC _ _ _ h
    unfold L_Reader_comeOutTo_0
    rw [hC.2.2.2.2.2.2.1]
    exact ⟨fun _ => h σ hC, fun q => absurd (by decide) q⟩
  | succ d ih =>
    intro tk σ hC hL hd hl h
    have hC' := hC
    obtain ⟨h1, h2, h3, h4, h5, h6, h7, h8, h9⟩ := hC
    have hv := hL.2 (d + 1) (Nat.le_refl _)
    unfold L_Reader_comeOutTo_0
    rw [h7, nI_clamp (by omega), h8 (d + 1) (Nat.le_refl _)]
    refine ⟨fun q => absurd q (nI_nle (by omega) (by omega)), fun _ => ⟨vp_in_nI (by omega) (by omega), fun q => ?_, fun q => ?_⟩⟩
    · rw [nI_leI (by omega) (by omega)] at q
      rw [z_out, if_pos q] at h
      exact h σ hC'
    · rw [nI_leI (by omega) (by omega)] at q
      rw [z_out, if_neg q] at h
      intro s hs
      rw [nI_pred] at hs
      subst hs
      refine p_addC (k := 3) (m := 3) (σ := k_deep' σ (nI d)) (T := T) (n := n) (p := p) (op := op) (lht := lht) (d := d) (lv := lv) (tk := tk) (a := a) ⟨h1, h2, h3, h4, h5, h6, rfl, fun i hi => h8 i (by omega), h9⟩ ha (by omega) (by omega) rfl (fun σ' hC2 => ?_)
      exact ih (tk ++ [(3, a, a)]) σ' hC2 ⟨hL.1, fun i hi => hL.2 i (by omega)⟩ (by omega) (by rw [List.length_append, List.length_singleton]; omega) h
theorem p_settle {σ : KS} {T : Nat → Int32} {n a p op : Nat} {d : Nat} {lv : Nat → Nat} {tk : List Tk} {post : Int32 → KS → Prop} (hC : kC T n σ a p op false d lv tk) (hn : n ≤ 4096) (ha : a ≤ n) (hp : p ≤ n) (hL : iL n d lv) (h1 : d * (d + 1) ≤ 2 * p) (h2 : 3 * (tk.length + d) ≤ 4 * p) (h0 : z_set T n a p d lv tk = none → ∀ σ', k_at σ' = nI a → post 0 σ') (hs : ∀ d' lv' tk', z_set T n a p d lv tk = some (d', lv', tk') → ∀ σ', kC T n σ' a p op false d' lv' tk' → post 1 σ') : wp_Reader_settleLevel σ post := by
  have hd := sq_90 (show d * (d + 1) ≤ 8192 by omega)
  have hb := z_bl_le (T := T) hp
  have hC' := hC
  obtain ⟨g1, g2, g3, g4, g5, g6, g7, g8, g9⟩ := hC
  have hv := hL.2 d (Nat.le_refl _)
  unfold wp_Reader_settleLevel
  rw [g7, nI_clamp (by omega), g8 d (Nat.le_refl _), g5]
  refine ⟨vp_in_nI (by omega) (by omega), fun q => ?_, fun q => ?_⟩
  · rw [nI_leI (by omega) (by omega)] at q
    refine ⟨d + 1, p_comeOut_l hn ha (by omega) d tk σ hC' hL (by omega) (by omega) (fun σ' hC2 => ?_)⟩
    have hi := z_out_inv lv (z_bl T n p) a d tk
    have hv' := hL.2 _ hi.1
    have c2 := hC2
    obtain ⟨k1, k2, k3, k4, k5, k6, k7, k8, k9⟩ := hC2
    rw [k7, nI_clamp (by omega), k8 _ (Nat.le_refl _), k5]
    refine ⟨vp_in_nI (by omega) (by omega), fun r => h0 ?_ σ' k2, fun r => hs _ _ _ ?_ σ' c2⟩
    · rw [nI_eq (by omega) (by omega)] at r
      unfold z_set
      rw [if_pos q, if_neg r]
    · rw [nI_eq (by omega) (by omega)] at r
      unfold z_set
      rw [if_pos q, if_pos r]
  · rw [nI_leI (by omega) (by omega)] at q
    unfold wp_Reader_goIn wp_Tokens_size L_Reader_goIn_15
    rw [g9.2.1]
    refine ⟨fun r => ⟨fun t => absurd rfl t, fun _ => ?_⟩, fun r => ⟨fun _ => ⟨vB_bI false, h0 ?_ σ g2⟩, fun t => absurd t (by decide)⟩⟩
    · rw [g7, nI_1]
      refine ⟨fun _ s3 e3 => ?_, fun t => absurd (show nI (d + 1) < nI 100 from nI_lt (by omega) (by omega)) t⟩
      subst e3
      refine ⟨vp_in_nI (by omega) (by omega), fun s4 e4 => ?_⟩
      rw [show k_deep (k_deep' σ (nI (d + 1))) = nI (d + 1) from rfl, nI_clamp (by omega)] at e4
      have hC4 : kC T n s4 a p op false (d + 1) (nupd lv (d + 1) (z_bl T n p)) tk := by
        subst e4
        refine ⟨g1, g2, g3, g4, g5, g6, rfl, fun i hi => ?_, g9⟩
        show upd (k_lv σ) (d + 1) (k_lin σ) i = _
        unfold upd nupd
        by_cases t : i = d + 1
        · rw [if_pos t, if_pos t]; exact g5
        · rw [if_neg t, if_neg t]; exact g8 i (by omega)
      refine p_addC (m := 2) hC4 ha (by omega) (by omega) rfl (fun σ' hC5 => ⟨vB_bI true, hs _ _ _ ?_ σ' hC5⟩)
      unfold z_set
      rw [if_neg q, if_neg]
      intro t
      rw [t] at r
      exact r rfl
    · unfold z_set
      rw [if_neg q, if_pos]
      rw [show (0 : Int32) = nI 0 from rfl, nI_eq (by omega) (by omega)] at r
      exact r
theorem p_countOpen {σ : KS} {c : Int32} {op : Nat} {post : KS → Prop} (ho : k_open σ = nI op) (hb : op ≤ 4096) (h : post (k_open' σ (nI (z_dep c op)))) : wp_Reader_countOpen c σ post := by
  have up : (c = 40 ∨ c = 91 ∨ c = 123) → L_Reader_countOpen_18 post σ := by
    intro q s hs
    rw [ho, nI_1] at hs
    subst hs
    unfold z_dep at h
    rw [if_pos q] at h
    exact h
  have same : z_dep c op = op → post σ := by
    intro q
    rw [q, ← ho] at h
    exact h
  unfold wp_Reader_countOpen
  rw [ho]
  refine ⟨fun q => up (Or.inl q), fun q => ⟨fun r => up (Or.inr (Or.inl r)), fun r => ⟨fun s => ?_, fun s => up (Or.inr (Or.inr s))⟩⟩⟩
  have q0 : ¬ (c = 40 ∨ c = 91 ∨ c = 123) := fun t => t.elim q (fun t => t.elim r s)
  refine ⟨fun t => same ?_, fun t => ?_⟩
  · rw [show (0 : Int32) = nI 0 from rfl, nI_leI (by omega) (by omega)] at t
    unfold z_dep
    rw [if_neg q0]
    split <;> omega
  · rw [show (0 : Int32) = nI 0 from rfl, nI_leI (by omega) (by omega)] at t
    have down : (c = 41 ∨ c = 93 ∨ c = 125) → L_Reader_countOpen_56 post σ := by
      intro q s hs
      rw [ho, show nI op - 1 = nI (op - 1) from pk_sub (a := op) (b := 1) (by omega)] at hs
      subst hs
      unfold z_dep at h
      rw [if_neg q0, if_pos q] at h
      exact h
    refine ⟨fun u => down (Or.inl u), fun u => ⟨fun v => down (Or.inr (Or.inl v)), fun v => ⟨fun w => same ?_, fun w => down (Or.inr (Or.inr w))⟩⟩⟩
    unfold z_dep
    rw [if_neg q0, if_neg (fun x => x.elim u (fun x => x.elim v w))]
theorem nI_nm1 {e : Nat} (h : e < 2 ^ 31) : ¬ nI e = -1 := fun q => absurd (q ▸ nI_pos' h) (by decide)
theorem p_take {σ : KS} {T : Nat → Int32} {n a p op e : Nat} {lht : Bool} {d : Nat} {lv : Nat → Nat} {tk : List Tk} {k : Int32} {post : Int32 → KS → Prop} (hC : kC T n σ a p op lht d lv tk) (ha : a < n) (he : a < e ∧ e ≤ n) (hk : ∃ m, m < 100 ∧ k = nI m) (hl : tk.length < 5463) (hop : op ≤ a) (h : ∀ σ', kC T n σ' e p (z_dep (T a) op) lht d lv (tk ++ [(k, a, e)]) → post 1 σ') : wp_Reader_take k (nI e) σ post := by
  obtain ⟨g1, g2, g3, g4, g5, g6, g7, g8, g9⟩ := hC
  have hn := g1.1
  have hc1 := z_cnt_le T a 0
  refine ⟨fun _ => ?_, fun q => absurd q (nI_nm1 (by omega))⟩
  rw [g2, g3]
  refine p_addT g9 hl ⟨hk, show a ≤ n by omega, show e ≤ n by omega⟩ (fun pk c gt => ?_)
  generalize hs : k_cnt' (k_pk' σ pk) c = s1 at gt
  have t1 : kTx s1 T n := by subst hs; exact g1
  have t2 : k_at s1 = nI a := by subst hs; exact g2
  have t3 : k_line s1 = nI (1 + z_cnt T a 0) := by subst hs; exact g3
  have t4 : k_open s1 = nI op := by subst hs; exact g4
  have t5 : k_lin s1 = nI (z_bl T n p) := by subst hs; exact g5
  have t6 : k_lht s1 = bI lht := by subst hs; exact g6
  have t7 : k_deep s1 = nI d := by subst hs; exact g7
  have t8 : ∀ i, i ≤ d → k_lv s1 i = nI (lv i) := by subst hs; exact g8
  rw [t2]
  refine p_lineFeedsIn t1 (by omega) he.2 (fun s4 e4 => ?_)
  rw [t3, nI_add, show 1 + z_cnt T a 0 + z_cnt T (e - a) a = 1 + z_cnt T e 0 by rw [z_cnt_to (T := T) (show a ≤ e by omega)]; omega] at e4
  subst e4
  rw [show k_at (k_line' s1 (nI (1 + z_cnt T e 0))) = nI a from t2]
  refine p_let (σ := k_line' s1 (nI (1 + z_cnt T e 0))) (T := T) (n := n) t1 (by omega) (p_countOpen (op := op) t4 (by omega) (fun s8 e8 => ?_))
  subst e8
  exact h _ ⟨t1, rfl, rfl, rfl, t5, t6, t7, t8, gt⟩
