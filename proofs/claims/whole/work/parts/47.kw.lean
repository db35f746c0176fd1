/-! words and signs -/
/-- the letter j of the String i -/
def sC (i j : Nat) : Int32 := (sB i).getD j 0
def z_mP (T : Nat → Int32) (a i j : Nat) : Bool := decide (T (a + j) = sC i j)
/-- do the letters of String i stand at a -/
def z_mt (T : Nat → Int32) (a i : Nat) : Bool := decide (z_run (z_mP T a i) (sL i) 0 = sL i)
theorem sL_le : ∀ i, i < 115 → sL i ≤ 132 := by decide +kernel
theorem sL_w : ∀ k, k < 35 → sB (80 + k) = sB k := by decide +kernel
theorem g_len {S : Type} {i : Nat} {σ : S} {post : Int32 → S → Prop} (hi : i < 115) (h : post (nI (sL i)) σ) : wp_Str_length i σ post := ⟨hi, h⟩
theorem g_chr {S : Type} {i j : Nat} {σ : S} {post : Int32 → S → Prop} (hi : i < 115) (hj : j < sL i) (h : post (sC i j) σ) : wp_Str_charAt i (nI j) σ post := by
  have := sL_le i hi
  refine ⟨hi, vp_in_nI hj (by omega), ?_⟩
  rw [nI_clamp (by omega)]
  exact h
theorem z_mt_t {T : Nat → Int32} {a i : Nat} (h : z_mt T a i = true) : ∀ j, j < sL i → T (a + j) = sC i j := by
  intro j hj
  unfold z_mt at h
  rw [decide_eq_true_iff] at h
  have := z_run_all (z_mP T a i) (sL i) 0 j (by omega) (by omega)
  unfold z_mP at this
  exact decide_eq_true_iff.mp this
theorem p_spell_l {σ : KS} {T : Nat → Int32} {n a i : Nat} {post : Int32 → KS → Prop} (hT : kTx σ T n) (ha : a < 2 ^ 30) (hi : i < 115) : ∀ (f j : Nat), j + f = sL i → post (bI (decide (z_run (z_mP T a i) f j = sL i))) σ → L_Shapes_isSpelled_15 i post (f + 1) (nI a) (nI j) σ := by
  have hl := sL_le i hi
  intro f
  induction f with
  | zero =>
    intro j hj h
    unfold L_Shapes_isSpelled_15
    rw [z_run, decide_eq_true (by omega)] at h
    exact g_len hi ⟨fun _ => h, fun q => absurd (nI_le (by omega) (by omega)) q⟩
  | succ f ih =>
    intro j hj h
    unfold L_Shapes_isSpelled_15
    rw [nI_add]
    refine g_len hi ⟨fun q => absurd q (nI_ge (by omega) (by omega)), fun _ => g_chr hi (by omega) (p_let hT (by omega) ⟨fun q => ?_, fun q => ?_⟩)⟩
    · show L_Shapes_isSpelled_15 i post (f + 1) (nI a) (nI j + 1) σ
      rw [nI_1]
      rw [z_run_t (P := z_mP T a i) (by unfold z_mP; exact decide_eq_true q.symm)] at h
      exact ih (j + 1) (by omega) h
    · rw [z_run_f (P := z_mP T a i) (by unfold z_mP; exact decide_eq_false (fun r => q r.symm)), decide_eq_false (by omega)] at h
      exact h
theorem q_stands_l {σ : MS} {T : Nat → Int32} {n a i : Nat} {post : Int32 → MS → Prop} (hT : mTx σ T n) (ha : a < 2 ^ 30) (hi : i < 115) : ∀ (f j : Nat), j + f = sL i → post (bI (decide (z_run (z_mP T a i) f j = sL i))) σ → L_Mod_stands_2 i post (f + 1) (nI a) (nI j) σ := by
  have hl := sL_le i hi
  intro f
  induction f with
  | zero =>
    intro j hj h
    unfold L_Mod_stands_2
    rw [z_run, decide_eq_true (by omega)] at h
    exact g_len hi ⟨fun _ => h, fun q => absurd (nI_le (by omega) (by omega)) q⟩
  | succ f ih =>
    intro j hj h
    unfold L_Mod_stands_2
    rw [nI_add]
    refine g_len hi ⟨fun q => absurd q (nI_ge (by omega) (by omega)), fun _ => q_c hT (by omega) (g_chr hi (by omega) ⟨fun q => ?_, fun q => ?_⟩)⟩
    · show L_Mod_stands_2 i post (f + 1) (nI a) (nI j + 1) σ
      rw [nI_1]
      rw [z_run_t (P := z_mP T a i) (by unfold z_mP; exact decide_eq_true q)] at h
      exact ih (j + 1) (by omega) h
    · rw [z_run_f (P := z_mP T a i) (by unfold z_mP; exact decide_eq_false q), decide_eq_false (by omega)] at h
      exact h
theorem q_stands {σ : MS} {T : Nat → Int32} {n a i : Nat} {post : Int32 → MS → Prop} (hT : mTx σ T n) (ha : a < 2 ^ 30) (hi : i < 115) (h : post (bI (z_mt T a i)) σ) : wp_Mod_stands (nI a) i σ post := ⟨sL i + 1, q_stands_l hT ha hi (sL i) 0 (by omega) h⟩
/-- is the word k what stands from a to e -/
def z_sp (T : Nat → Int32) (a e k : Nat) : Bool := decide (sL k = e - a) && z_mt T a k
def z_kw (T : Nat → Int32) (a e : Nat) : Nat → Nat → Int32
  | 0, _ => 4
  | f + 1, k => if z_sp T a e k = true then nI (8 + k) else z_kw T a e f (k + 1)
theorem p_isSpelled {σ : KS} {T : Nat → Int32} {n a e k : Nat} {post : Int32 → KS → Prop} (hT : kTx σ T n) (ha : a ≤ e) (he : e ≤ n) (hk : k < 35) (h : post (bI (z_sp T a e k)) σ) : wp_Shapes_isSpelled (kwI k) (nI a) (nI e) σ post := by
  have hn := hT.1
  have hs : sB (kwI k) = sB k := sL_w k hk
  have hl : sL (kwI k) = sL k := by unfold sL; rw [hs]
  have hm : z_mt T a (kwI k) = z_mt T a k := by unfold z_mt z_mP sC; rw [hl, hs]
  have hi : kwI k < 115 := by unfold kwI; omega
  have := sL_le (kwI k) hi
  unfold z_sp at h
  unfold wp_Shapes_isSpelled
  rw [pk_sub ha]
  refine g_len hi ⟨fun q => ?_, fun q => ?_⟩
  · rw [nI_eq (by omega) (by omega), hl] at q
    rw [decide_eq_true q, Bool.true_and, ← hm] at h
    exact ⟨sL (kwI k) + 1, p_spell_l hT (by omega) hi (sL (kwI k)) 0 (by omega) h⟩
  · rw [nI_eq (by omega) (by omega), hl] at q
    rw [decide_eq_false q, Bool.false_and] at h
    exact h
theorem p_nameKind_l {σ : KS} {T : Nat → Int32} {n a e : Nat} {post : Int32 → KS → Prop} (hT : kTx σ T n) (ha : a ≤ e) (he : e ≤ n) : ∀ (f k : Nat), k + f = 35 → post (z_kw T a e f k) σ → L_Shapes_nameKind_2 post (f + 1) (nI a) (nI e) (nI k) σ := by
  intro f
  induction f with
  | zero =>
    intro k hk h
    unfold L_Shapes_nameKind_2
    exact ⟨fun _ => h, fun q => absurd (show nI 35 ≤ nI k from nI_le (by omega) (by omega)) q⟩
  | succ f ih =>
    intro k hk h
    unfold L_Shapes_nameKind_2
    refine ⟨fun q => absurd q (show ¬ nI 35 ≤ nI k from nI_ge (by omega) (by omega)), fun _ => ⟨vp_in_nI (by omega) (by omega), ?_⟩⟩
    rw [nI_clamp (by omega)]
    refine p_isSpelled hT ha he (by omega) ⟨fun q => ?_, fun q => ?_⟩
    · rw [bI_0] at q
      rw [z_kw, if_neg (by rw [q]; decide)] at h
      show L_Shapes_nameKind_2 post (f + 1) (nI a) (nI e) (nI k + 1) σ
      rw [nI_1]
      exact ih (k + 1) (by omega) h
    · rw [bI_n0] at q
      rw [z_kw, if_pos q] at h
      rw [show (8 : Int32) + nI k = nI (8 + k) from nI_add 8 k]
      exact h
theorem p_nameKind {σ : KS} {T : Nat → Int32} {n a e : Nat} {post : Int32 → KS → Prop} (hT : kTx σ T n) (ha : a ≤ e) (he : e ≤ n) (h : post (z_kw T a e 35 0) σ) : wp_Shapes_nameKind (nI a) (nI e) σ post := ⟨36, p_nameKind_l hT ha he 35 0 (by omega) h⟩
theorem sB_inj : ∀ k, k < 35 → ∀ k', k' < 35 → sB k = sB k' → k = k' := by decide +kernel
theorem z_sp_one {T : Nat → Int32} {a e k k' : Nat} (hk : k < 35) (hk' : k' < 35) (h : z_sp T a e k = true) (h' : z_sp T a e k' = true) : k = k' := by
  unfold z_sp at h h'
  rw [Bool.and_eq_true, decide_eq_true_iff] at h h'
  refine sB_inj k hk k' hk' (List.ext_getElem (by show sL k = sL k'; omega) (fun j h1 h2 => ?_))
  have a1 := z_mt_t h.2 j h1
  have a2 := z_mt_t h'.2 j h2
  rw [a1] at a2
  unfold sC at a2
  rw [List.getD_eq_getElem?_getD, List.getD_eq_getElem?_getD, List.getElem?_eq_getElem h1, List.getElem?_eq_getElem h2] at a2
  exact a2
/-- the last that stands there -/
def z_kl (T : Nat → Int32) (a e : Nat) : Nat → Nat → Int32 → Int32
  | 0, _, v => v
  | f + 1, k, v => z_kl T a e f (k + 1) (if z_sp T a e k = true then nI (8 + k) else v)
theorem z_kl_no {T : Nat → Int32} {a e : Nat} {v : Int32} : ∀ (f k : Nat), (∀ j, k ≤ j → j < k + f → z_sp T a e j = false) → z_kl T a e f k v = v := by
  intro f
  induction f with
  | zero => intro k _; rfl
  | succ f ih =>
    intro k h
    rw [z_kl, if_neg (by rw [h k (by omega) (by omega)]; decide)]
    exact ih (k + 1) (fun j h1 h2 => h j (by omega) (by omega))
theorem z_kl_kw {T : Nat → Int32} {a e : Nat} : ∀ (f k : Nat), k + f = 35 → z_kl T a e f k 4 = z_kw T a e f k := by
  intro f
  induction f with
  | zero => intro k _; rfl
  | succ f ih =>
    intro k hk
    rw [z_kl, z_kw]
    by_cases q : z_sp T a e k = true
    · rw [if_pos q, if_pos q]
      refine z_kl_no f (k + 1) (fun j h1 h2 => ?_)
      cases r : z_sp T a e j with
      | false => rfl
      | true => have := z_sp_one (by omega) (by omega) q r; omega
    · rw [if_neg q, if_neg q]
      exact ih (k + 1) (by omega)
theorem q_190 {σ : MS} {T : Nat → Int32} {n a e : Nat} {post : Int32 → MS → Prop} (hT : mTx σ T n) (ha : a ≤ e) (he : e ≤ n) (hat : m_at σ = nI e) : ∀ (f k : Nat) (v : Int32), k + f = 35 → wp_Mod_add (z_kl T a e f k v) (nI a) (nI e) σ (fun r s => vB r ∧ post r s) → L_Mod_token_190 post (f + 1) (nI a) v (nI k) σ := by
  have hn := hT.1
  intro f
  induction f with
  | zero =>
    intro k v hk h
    unfold L_Mod_token_190
    rw [hat]
    exact ⟨fun _ => h, fun q => absurd (show nI 35 ≤ nI k from nI_le (by omega) (by omega)) q⟩
  | succ f ih =>
    intro k v hk h
    have hl := sL_le k (by omega)
    have nx : ∀ v', (if z_sp T a e k = true then nI (8 + k) else v) = v' → L_Mod_token_238 post (fun x2 x4 x5 σ => L_Mod_token_190 post (f + 1) x2 x4 x5 σ) (nI a) v' (nI k) σ := by
      intro v' q
      rw [z_kl, q] at h
      show L_Mod_token_190 post (f + 1) (nI a) v' (nI k + 1) σ
      rw [nI_1]
      exact ih (k + 1) v' (by omega) h
    unfold L_Mod_token_190
    refine ⟨fun q => absurd q (show ¬ nI 35 ≤ nI k from nI_ge (by omega) (by omega)), fun _ => ⟨vp_in_nI (by omega) (by omega), ?_⟩⟩
    rw [nI_clamp (by omega), hat, pk_sub ha]
    show wp_Str_length k σ _
    refine g_len (by omega) ⟨fun q => nx v ?_, fun q => ⟨vp_in_nI (by omega) (by omega), ?_⟩⟩
    · rw [nI_eq (by omega) (by omega)] at q
      unfold z_sp
      rw [decide_eq_false (fun r => q r.symm), Bool.false_and, if_neg (by decide)]
    · rw [nI_eq (by omega) (by omega)] at q
      show wp_Mod_stands (nI a) k σ _
      refine q_stands hT (by omega) (by omega) ⟨fun r => nx v ?_, fun r => ?_⟩
      · rw [bI_0] at r
        unfold z_sp
        rw [r, Bool.and_false, if_neg (by decide)]
      · rw [bI_n0] at r
        rw [show (8 : Int32) + nI k = nI (8 + k) from nI_add 8 k]
        refine nx _ ?_
        unfold z_sp
        rw [r, decide_eq_true q.symm, if_pos (by rfl)]
theorem z_nP_m1 {T : Nat → Int32} {k : Nat} (h : T k = -1) : z_nP T k = false := by
  unfold z_nP
  rw [h]
  decide +kernel
theorem q_143s {σ : MS} {T : Nat → Int32} {n k f : Nat} {x2 : Int32} {post : Int32 → MS → Prop} (hT : mTx σ T n) (hk : k < 2 ^ 31) (hat : m_at σ = nI k) (h1 : z_nP T k = true → L_Mod_token_171 post (fun x2 σ => L_Mod_token_143 post f x2 σ) x2 σ) (h2 : z_nP T k = false → ∃ n, L_Mod_token_190 post n x2 4 0 σ) : L_Mod_token_143 post (f + 1) x2 σ := by
  have hc := hT.2.2.2.2 k
  unfold L_Mod_token_143
  rw [hat]
  refine q_c hT hk (q_isLetter ⟨fun q => h1 ?_, fun q => ?_⟩)
  · unfold z_nP; rw [bI_n0.mp q]; rfl
  · rw [hat]
    refine q_c hT hk (q_dig hc ⟨fun r => h2 ?_, fun r => h1 ?_⟩)
    · unfold z_nP; rw [bI_0.mp q, bI_0.mp r]; rfl
    · unfold z_nP; rw [bI_n0.mp r, Bool.or_true]
/-- a name, from its first letter on -/
theorem q_143 {T : Nat → Int32} {n a : Nat} {post : Int32 → MS → Prop} (ha : a ≤ n) : ∀ (f k : Nat) (σ : MS), mTx σ T n → a ≤ k → k + f = n → m_at σ = nI k → wp_Mod_add (z_kw T a (z_run (z_nP T) f k) 35 0) (nI a) (nI (z_run (z_nP T) f k)) (m_at' σ (nI (z_run (z_nP T) f k))) (fun r s => vB r ∧ post r s) → L_Mod_token_143 post (f + 1) (nI a) σ := by
  intro f
  induction f with
  | zero =>
    intro k σ hT hk hf hat h
    have hn := hT.1
    have hz := z_nP_m1 (hT.2.2.1 k (by omega))
    rw [z_run, ← hat, show m_at' σ (m_at σ) = σ from rfl, hat] at h
    refine q_143s hT (by omega) hat (fun q => by rw [hz] at q; cases q) (fun _ => ⟨36, q_190 hT hk (by omega) hat 35 0 4 (by omega) ?_⟩)
    rw [z_kl_kw 35 0 (by omega)]
    exact h
  | succ f ih =>
    intro k σ hT hk hf hat h
    have hn := hT.1
    refine q_143s hT (by omega) hat (fun q => ?_) (fun q => ⟨36, q_190 hT hk (by omega) hat 35 0 4 (by omega) ?_⟩)
    · intro s hs
      rw [hat, nI_1] at hs
      subst hs
      rw [z_run_t q] at h
      exact ih (k + 1) (m_at' σ (nI (k + 1))) hT (by omega) (by omega) rfl h
    · rw [z_kl_kw 35 0 (by omega)]
      rw [z_run_f q, ← hat, show m_at' σ (m_at σ) = σ from rfl, hat] at h
      exact h
