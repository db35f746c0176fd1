/-! a token -/
def z_bn (T : Nat → Int32) (a : Nat) : Bool := z_dg 10 (T a) || (decide (T a = 46) && z_dg 10 (T (a + 1)))
def z_tok (T : Nat → Int32) (n a : Nat) : Option (Int32 × Nat) :=
  if z_isq (T (a + z_pl T a)) = true then (z_str T n (a + z_pl T a)).map (fun e => (7, e))
  else if z_nm (T a) = true then some (z_kw T a (z_nE T n a) 35 0, z_nE T n a)
  else if z_bn T a = true then z_num T n a
  else (z_sg T a 44 0).map (fun k => (nI (43 + k), a + sL (35 + k)))
theorem p_beginsNumber {σ : KS} {T : Nat → Int32} {n a : Nat} {post : Int32 → KS → Prop} (hT : kTx σ T n) (ha : a < 2 ^ 30) (h : post (bI (z_bn T a)) σ) : wp_Shapes_beginsNumber (nI a) σ post := by
  unfold wp_Shapes_beginsNumber L_Shapes_beginsNumber_42
  unfold z_bn at h
  rw [nI_1]
  refine p_let hT (by omega) (p_isDigit ⟨fun q => ?_, fun q => ⟨fun r => ?_, fun r => p_let hT (by omega) (p_isDigit ⟨fun s => ?_, fun s => ?_⟩)⟩⟩)
  · rw [bI_n0] at q; rw [q] at h; exact h
  · rw [bI_0] at q; rw [q, decide_eq_false r] at h; exact h
  · rw [bI_0] at q s; rw [q, s, Bool.and_false] at h; exact h
  · rw [bI_0] at q; rw [bI_n0] at s; rw [q, s, decide_eq_true r] at h; exact h
theorem z_nE_le {T : Nat → Int32} {n a : Nat} (ha : a ≤ n) : a ≤ z_nE T n a ∧ z_nE T n a ≤ n := by
  have := z_run_le (z_nP T) (n - a) a
  unfold z_nE
  omega
theorem z_nE_gt {T : Nat → Int32} {n a : Nat} (ha : a < n) (h : z_nm (T a) = true) : a < z_nE T n a := by
  have e : z_nE T n a = z_run (z_nP T) (n - a - 1) (a + 1) := by
    unfold z_nE
    rw [show n - a = (n - a - 1) + 1 by omega, z_run_t (by unfold z_nP; rw [h]; rfl)]
    rfl
  have := z_run_le (z_nP T) (n - a - 1) (a + 1)
  omega
theorem z_isq_in {T : Nat → Int32} {n q : Nat} (hT : tX T n) (h : z_isq (T q) = true) : q < n := by
  unfold z_isq at h
  rw [Bool.or_eq_true, decide_eq_true_iff, decide_eq_true_iff] at h
  rcases h with r | r
  · exact tX_in hT r (by decide)
  · exact tX_in hT r (by decide)
theorem z_kw_lt {T : Nat → Int32} {a e : Nat} : ∀ (f k : Nat), k + f = 35 → ∃ m, m < 100 ∧ z_kw T a e f k = nI m := by
  intro f
  induction f with
  | zero => intro k _; exact ⟨4, by omega, rfl⟩
  | succ f ih =>
    intro k hk
    rw [z_kw]
    split
    · exact ⟨8 + k, by omega, rfl⟩
    · exact ih (k + 1) (by omega)
theorem z_num_le {T : Nat → Int32} {n a e : Nat} {k : Int32} (hT : tX T n) (ha : a < n) (hb : z_bn T a = true) (h : z_num T n a = some (k, e)) : a < e ∧ e ≤ n ∧ (k = 5 ∨ k = 6) := by
  unfold z_num at h
  by_cases hs : z_base T a = 10
  · rw [if_pos hs] at h
    have hd := z_dE_le (T := T) (b := 10) (show a ≤ n by omega)
    have hf := z_fr_le hT hd.2
    have hx := z_exp_le hT hf.2
    split at h
    · cases h
    · split at h
      · cases h
      · cases h
        refine ⟨?_, hx.2, by split <;> simp⟩
        unfold z_bn at hb
        cases q : z_dg 10 (T a) with
        | true =>
          have := z_dE_gt ha q
          omega
        | false =>
          rw [q, Bool.false_or, Bool.and_eq_true, decide_eq_true_iff] at hb
          have e1 : z_dE T n 10 a = a := z_dE_same q
          rw [e1] at hf hx ⊢
          have e2 : z_fr T n a = z_dE T n 10 (a + 1) := by unfold z_fr; rw [if_pos hb.1]
          have := z_dE_le (T := T) (b := 10) (show a + 1 ≤ n by omega)
          omega
  · rw [if_neg hs] at h
    have hl := z_bs_le hT hs
    have hd := z_dE_le (T := T) (b := z_base T a) hl.2.1
    split at h
    · cases h
    · split at h
      · cases h
      · cases h
        exact ⟨by omega, hd.2, Or.inl rfl⟩
theorem z_tok_le {T : Nat → Int32} {n a e : Nat} {k : Int32} (hT : tX T n) (ha : a < n) (h : z_tok T n a = some (k, e)) : a < e ∧ e ≤ n ∧ ∃ m, m < 100 ∧ k = nI m := by
  unfold z_tok at h
  split at h
  · rename_i hq
    cases e1 : z_str T n (a + z_pl T a) with
    | none => rw [e1] at h; cases h
    | some x =>
      rw [e1] at h
      cases h
      have := z_str_le hT hq e1
      exact ⟨by omega, by omega, 7, by omega, rfl⟩
  · split at h
    · rename_i hm
      cases h
      have := z_nE_le (T := T) (show a ≤ n by omega)
      have := z_nE_gt ha hm
      exact ⟨by omega, by omega, z_kw_lt 35 0 (by omega)⟩
    · split at h
      · rename_i hb
        obtain ⟨h1, h2, h3⟩ := z_num_le hT ha hb h
        refine ⟨h1, h2, ?_⟩
        rcases h3 with r | r
        · exact ⟨5, by omega, r⟩
        · exact ⟨6, by omega, r⟩
      · cases e1 : z_sg T a 44 0 with
        | none => rw [e1] at h; cases h
        | some x =>
          rw [e1] at h
          cases h
          have := z_sg_in hT e1
          exact ⟨by omega, by omega, 43 + x, by omega, rfl⟩
theorem p_take0 {k : Int32} {σ : KS} {post : Int32 → KS → Prop} (h : post 0 σ) : wp_Reader_take k (-1) σ post := ⟨fun q => absurd rfl q, fun _ => h⟩
theorem p_tok {σ : KS} {T : Nat → Int32} {n a : Nat} {post : Int32 → KS → Prop} (hT : kTx σ T n) (ha : a < n) (hat : k_at σ = nI a) (h0 : z_tok T n a = none → post 0 (k_lht' σ 1)) (h1 : ∀ k e, z_tok T n a = some (k, e) → wp_Reader_take k (nI e) (k_lht' σ 1) (fun r s => vB r ∧ post r s)) : L_Reader_passToken_16 post σ := by
  intro s hs
  rw [← hs] at h0 h1
  have hT : kTx s T n := by subst hs; exact hT
  have hat : k_at s = nI a := by subst hs; exact hat
  have hn := hT.1
  have ht := kTx_t hT
  have hl := z_pl_le T a
  rw [hat]
  refine p_quote hT (by omega) ?_
  cases hq : z_isq (T (a + z_pl T a)) with
  | true =>
    have hin := z_isq_in ht hq
    rw [if_pos rfl]
    refine ⟨fun q => absurd (q ▸ nI_pos' (n := a + z_pl T a) (by omega)) (by decide), fun _ => p_stringEnd hT hin hq ?_⟩
    cases e1 : z_str T n (a + z_pl T a) with
    | none => exact p_take0 ⟨vB_bI false, h0 (by unfold z_tok; rw [if_pos hq, e1]; rfl)⟩
    | some x => exact h1 7 x (by unfold z_tok; rw [if_pos hq, e1]; rfl)
  | false =>
    have hq' : ¬ z_isq (T (a + z_pl T a)) = true := by rw [hq]; decide
    rw [if_neg (by decide)]
    refine ⟨fun _ => ?_, fun q => absurd rfl q⟩
    rw [hat]
    refine p_let hT (by omega) (p_beginsName ⟨fun q => ?_, fun q => ?_⟩)
    · rw [bI_0] at q
      have q' : ¬ z_nm (T a) = true := by rw [q]; decide
      rw [hat]
      refine p_beginsNumber hT (by omega) ⟨fun r => ?_, fun r => ?_⟩
      · rw [bI_0] at r
        have r' : ¬ z_bn T a = true := by rw [r]; decide
        rw [hat]
        refine p_signKind hT (by omega) ?_
        rw [hat]
        exact p_sign (post := fun k e s' => wp_Reader_take k e s' (fun r s => vB r ∧ post r s)) hT (show a ≤ n by omega) (fun e1 => p_take0 ⟨vB_bI false, h0 (by unfold z_tok; rw [if_neg hq', if_neg q', if_neg r', e1]; rfl)⟩) (fun k e1 => h1 _ _ (by unfold z_tok; rw [if_neg hq', if_neg q', if_neg r', e1]; rfl))
      · rw [bI_n0] at r
        rw [hat]
        have hz : z_tok T n a = z_num T n a := by unfold z_tok; rw [if_neg hq', if_neg q', if_pos r]
        refine p_numberEnd hT (by omega) ?_
        rw [hat]
        exact p_num (post := fun k e s' => wp_Reader_take k e s' (fun r s => vB r ∧ post r s)) hT (show a ≤ n by omega) (fun e1 k => p_take0 ⟨vB_bI false, h0 (hz.trans e1)⟩) (fun k e e1 => h1 k e (hz.trans e1))
    · rw [bI_n0] at q
      rw [hat]
      have hle := z_nE_le (T := T) (show a ≤ n by omega)
      refine p_nameEnd hT (by omega) ?_
      rw [hat]
      refine p_nameKind hT hle.1 hle.2 ?_
      exact h1 _ _ (by unfold z_tok; rw [if_neg hq', if_pos q])
/-! the reference's token -/
theorem z_first : ∀ v, v < 256 → (z_dg 10 (nI v) = true ∨ nI v = 46 → z_nm (nI v) = false ∧ z_isq (nI v) = false ∧ ¬ nI v = 114 ∧ ¬ nI v = 102) ∧ (z_nm (nI v) = true ∨ z_dg 10 (nI v) = true ∨ nI v = 46 ∨ z_isq (nI v) = true → ¬ (nI v = 40 ∨ nI v = 91 ∨ nI v = 123) ∧ ¬ (nI v = 41 ∨ nI v = 93 ∨ nI v = 125)) ∧ (nI v = 114 ∨ nI v = 102 → z_nm (nI v) = true) := by decide +kernel
theorem z_first_m : (z_dg 10 (-1) = true ∨ (-1 : Int32) = 46 → z_nm (-1) = false ∧ z_isq (-1) = false ∧ ¬ (-1 : Int32) = 114 ∧ ¬ (-1 : Int32) = 102) ∧ (z_nm (-1) = true ∨ z_dg 10 (-1) = true ∨ (-1 : Int32) = 46 ∨ z_isq (-1) = true → ¬ ((-1 : Int32) = 40 ∨ (-1 : Int32) = 91 ∨ (-1 : Int32) = 123) ∧ ¬ ((-1 : Int32) = 41 ∨ (-1 : Int32) = 93 ∨ (-1 : Int32) = 125)) ∧ ((-1 : Int32) = 114 ∨ (-1 : Int32) = 102 → z_nm (-1) = true) := by decide +kernel
theorem z_first_c {c : Int32} (hc : z_c c) : (z_dg 10 c = true ∨ c = 46 → z_nm c = false ∧ z_isq c = false ∧ ¬ c = 114 ∧ ¬ c = 102) ∧ (z_nm c = true ∨ z_dg 10 c = true ∨ c = 46 ∨ z_isq c = true → ¬ (c = 40 ∨ c = 91 ∨ c = 123) ∧ ¬ (c = 41 ∨ c = 93 ∨ c = 125)) ∧ (c = 114 ∨ c = 102 → z_nm c = true) := by
  rcases hc with rfl | ⟨v, hv, rfl⟩
  · exact z_first_m
  · exact z_first v hv
theorem z_dep_same {c : Int32} {d : Nat} (hc : z_c c) (h : z_nm c = true ∨ z_dg 10 c = true ∨ c = 46 ∨ z_isq c = true) : z_dep c d = d := by
  have := (z_first_c hc).2.1 h
  unfold z_dep
  rw [if_neg this.1, if_neg this.2]
theorem q_add_mono {a1 a2 a3 : Int32} {σ : MS} {P Q : Int32 → MS → Prop} (h : wp_Mod_add a1 a2 a3 σ P) (hPQ : ∀ r s, P r s → Q r s) : wp_Mod_add a1 a2 a3 σ Q :=
  ⟨h.1, fun s1 e1 => ⟨(h.2 s1 e1).1, fun s2 e2 s3 e3 => ⟨((h.2 s1 e1).2 s2 e2 s3 e3).1, fun s4 e4 => hPQ _ _ (((h.2 s1 e1).2 s2 e2 s3 e3).2 s4 e4)⟩⟩⟩
theorem q_add_vB {a1 a2 a3 : Int32} {σ : MS} {P : Int32 → MS → Prop} (h : wp_Mod_add a1 a2 a3 σ (fun r s => vB r ∧ P r s)) : wp_Mod_add a1 a2 a3 σ (fun r s => vB r ∧ (vB r ∧ P r s)) := q_add_mono h (fun _ _ q => ⟨q.1, q⟩)
theorem q_token {σ : MS} {T : Nat → Int32} {n a d : Nat} {post : Int32 → MS → Prop} (hT : mTx σ T n) (ha : a < n) (hd : d ≤ 4096) (hat : m_at σ = nI a) (hdp : m_depth σ = nI d) (hw : m_wrong σ = -1) (h0 : z_tok T n a = none → ∀ x, post 0 (m_wrong' (m_at' σ x) (nI a))) (h1 : ∀ k e, z_tok T n a = some (k, e) → wp_Mod_add k (nI a) (nI e) (m_at' (m_depth' σ (nI (z_dep (T a) d))) (nI e)) (fun r s => vB r ∧ post r s)) : wp_Mod_token σ post := by
  have hn := hT.1
  have ht := mTx_t hT
  have hc := hT.2.2.2.2
  have hl := z_pl_le T a
  have hf := z_first_c (hc a)
  have h1s : (z_nm (T a) = true ∨ z_dg 10 (T a) = true ∨ T a = 46 ∨ z_isq (T a) = true) → ∀ k e, z_tok T n a = some (k, e) → wp_Mod_add k (nI a) (nI e) (m_at' σ (nI e)) (fun r s => vB r ∧ post r s) := by
    intro q k e h
    have := h1 k e h
    rw [z_dep_same (hc a) q, ← hdp] at this
    exact this
  have h0' : z_tok T n a = none → post 0 (m_wrong' σ (nI a)) := fun q => h0 q (m_at σ)
  have num : z_bn T a = true → L_Mod_token_48 post σ := by
    intro hb
    have hb' : z_dg 10 (T a) = true ∨ T a = 46 := by
      unfold z_bn at hb
      rw [Bool.or_eq_true, Bool.and_eq_true, decide_eq_true_iff] at hb
      exact hb.imp id (fun r => r.1)
    have hg := hf.1 hb'
    have hp : z_pl T a = 0 := by unfold z_pl; rw [if_neg hg.2.2.1, if_neg hg.2.2.2]
    have hz : z_tok T n a = z_num T n a := by
      unfold z_tok
      rw [hp, Nat.add_zero, if_neg (by rw [hg.2.1]; decide), if_neg (by rw [hg.1]; decide), if_pos hb]
    refine q_number hT (by omega) hat hw (fun q x => ⟨vB_bI false, h0 (hz.trans q) x⟩) (fun k e q => ?_)
    have := h1s (Or.inr (hb'.imp id Or.inl)) k e (hz.trans q)
    exact q_add_vB this
  have h110 : z_bn T a = false → L_Mod_token_110 post (T a) (nI a) (nI (a + z_pl T a)) σ := by
    intro hb
    have str : z_isq (T (a + z_pl T a)) = true → L_Mod_token_130 post (nI (a + z_pl T a)) σ := by
      intro hq
      have hz : z_tok T n a = (z_str T n (a + z_pl T a)).map (fun e => (7, e)) := by unfold z_tok; rw [if_pos hq]
      have hfl : z_nm (T a) = true ∨ z_dg 10 (T a) = true ∨ T a = 46 ∨ z_isq (T a) = true := by
        by_cases r : T a = 114 ∨ T a = 102
        · exact Or.inl (hf.2.2 r)
        · have hp : z_pl T a = 0 := by unfold z_pl; rw [if_neg (fun t => r (Or.inl t)), if_neg (fun t => r (Or.inr t))]
          rw [hp, Nat.add_zero] at hq
          exact Or.inr (Or.inr (Or.inr hq))
      refine q_string hT (z_isq_in ht hq) hat hq hw (fun q => ⟨vB_bI false, h0' (by rw [hz, q]; rfl)⟩) (fun e q => ?_)
      have := h1s hfl 7 e (by rw [hz, q]; rfl)
      exact q_add_vB this
    have nost : z_isq (T (a + z_pl T a)) = false → wp_Mod_isLetter (T a) σ (fun r15 σ16 => ((r15 = 0 → ∃ n, L_Mod_token_262 post n (T a) (nI a) (-1) 0 σ16) ∧ (¬ (r15 = 0) → ∃ n, L_Mod_token_143 post n (nI a) σ16))) := by
      intro hq
      have hq' : ¬ z_isq (T (a + z_pl T a)) = true := by rw [hq]; decide
      refine q_isLetter ⟨fun q => ?_, fun q => ?_⟩
      · rw [bI_0] at q
        have hz : z_tok T n a = (z_sg T a 44 0).map (fun k => (nI (43 + k), a + sL (35 + k))) := by unfold z_tok; rw [if_neg hq', if_neg (by rw [q]; decide), if_neg (by rw [hb]; decide)]
        refine ⟨45, q_262 hT (by omega) hd hat hdp hw 44 0 none (by omega) (fun b q => by cases q) (fun q => ?_) (fun b q => ?_)⟩
        · rw [z_sm_sg 44 0 (by omega)] at q
          exact h0' (by rw [hz, q]; rfl)
        · rw [z_sm_sg 44 0 (by omega)] at q
          exact h1 _ _ (by rw [hz, q]; rfl)
      · rw [bI_n0] at q
        have hz : z_tok T n a = some (z_kw T a (z_nE T n a) 35 0, z_nE T n a) := by unfold z_tok; rw [if_neg hq', if_pos q]
        exact ⟨n - a + 1, q_143 (by omega) (n - a) a σ hT (by omega) (by omega) hat (h1s (Or.inl q) _ _ hz)⟩
    unfold L_Mod_token_110
    refine q_c hT (by omega) ⟨fun q => str (by unfold z_isq; simp [q]), fun q => q_c hT (by omega) ⟨fun r => nost (by unfold z_isq; simp [q, r]), fun r => str (by unfold z_isq; simp [r])⟩⟩
  have h53 : z_bn T a = false → L_Mod_token_53 post (T a) (nI a) (nI a) σ := by
    intro hb
    have k0 := h110 hb
    have k1 : ∀ p, p = z_pl T a → L_Mod_token_110 post (T a) (nI a) (nI (a + p)) σ := fun p q => by rw [q]; exact k0
    unfold L_Mod_token_53
    rw [nI_1]
    have j95 : (T a = 114 → ¬ T (a + 1) = 102) → (T a = 102 → ¬ T (a + 1) = 114) → L_Mod_token_95 post (T a) (nI a) (nI a) σ := by
      intro g1 g2
      unfold L_Mod_token_95 L_Mod_token_107
      rw [nI_1]
      refine ⟨fun q => k1 1 ?_, fun q => ⟨fun r => k1 0 ?_, fun r => k1 1 ?_⟩⟩
      · unfold z_pl; rw [if_pos q, if_neg (g1 q)]
      · unfold z_pl; rw [if_neg q, if_neg r]
      · unfold z_pl; rw [if_neg q, if_pos r, if_neg (g2 r)]
    have j71 : (T a = 114 → ¬ T (a + 1) = 102) → L_Mod_token_71 post (T a) (nI a) (nI a) σ := by
      intro g1
      unfold L_Mod_token_71 L_Mod_token_89
      rw [nI_1, nI_p2]
      refine ⟨fun q => j95 g1 (fun t => absurd t q), fun q => q_c hT (by omega) ⟨fun r => j95 g1 (fun _ => r), fun r => k1 2 ?_⟩⟩
      unfold z_pl
      rw [if_neg (by rw [q]; decide), if_pos q, if_pos r]
    refine ⟨fun q => j71 (fun t => absurd t q), fun q => q_c hT (by omega) ⟨fun r => ?_, fun r => j71 (fun _ => r)⟩⟩
    unfold L_Mod_token_89
    rw [nI_p2]
    refine k1 2 ?_
    unfold z_pl
    rw [if_pos q, if_pos r]
  unfold wp_Mod_token
  rw [hat]
  refine q_c hT (by omega) (q_dig (hc a) ⟨fun q => num ?_, fun q => ⟨fun r => ?_, fun r => ?_⟩⟩)
  · rw [bI_n0] at q; unfold z_bn; rw [q]; rfl
  · rw [bI_0] at q
    rw [hat]
    refine h53 ?_
    unfold z_bn; rw [q, decide_eq_false r]; rfl
  · rw [bI_0] at q
    rw [hat, nI_1]
    refine q_c hT (by omega) (q_dig (hc (a + 1)) ⟨fun s => h53 ?_, fun s => num ?_⟩)
    · rw [bI_0] at s
      unfold z_bn; rw [q, s, Bool.and_false]; rfl
    · rw [bI_n0] at s
      unfold z_bn; rw [s, decide_eq_true r, Bool.and_self, Bool.or_true]
