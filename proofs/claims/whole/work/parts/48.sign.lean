/-! signs -/
theorem sg_f : ∀ k, k < 44 → 1 ≤ sL (35 + k) ∧ sL (35 + k) ≤ 3 ∧ (∀ j, j < 3 → j < sL (35 + k) → sC 79 (3 * k + j) = sC (35 + k) j ∧ ¬ sC 79 (3 * k + j) = 32) ∧ (sL (35 + k) < 3 → sC 79 (3 * k + sL (35 + k)) = 32) := by decide +kernel
theorem sL_79 : sL 79 = 132 := by decide +kernel
theorem sg_i : ∀ k, k < 44 → (nI (43 + k) - 43) * 3 = nI (3 * k) ∧ (43 : Int32) + nI (3 * k) / 3 = nI (43 + k) ∧ ¬ nI (43 + k) = -1 := by decide +kernel
theorem sg_max : ∀ k, k < 44 → ∀ j, j < 44 → k < j → sL (35 + k) < sL (35 + j) → ¬ ∀ i, i < sL (35 + k) → sC (35 + k) i = sC (35 + j) i := by decide +kernel
theorem p_signLength_l {σ : KS} {k : Nat} {post : Int32 → KS → Prop} (hk : k < 44) (h : post (nI (sL (35 + k))) σ) : ∀ (f x : Nat), x + f = sL (35 + k) → L_Shapes_signLength_2 post (f + 1) (nI (3 * k)) (nI x) σ := by
  obtain ⟨h1, h2, h3, h4⟩ := sg_f k hk
  intro f
  induction f with
  | zero =>
    intro x hx
    rw [Nat.add_zero] at hx
    subst hx
    unfold L_Shapes_signLength_2
    refine ⟨fun _ => h, fun q => ⟨fun _ => h, fun _ => ?_⟩⟩
    have q' : sL (35 + k) < 3 := by
      refine Nat.lt_of_not_le (fun r => q ?_)
      exact nI_le (a := 3) r (by omega)
    rw [nI_add]
    refine g_len (by omega) ⟨fun _ => h, fun _ => g_chr (by omega) (by rw [sL_79]; omega) ⟨fun _ => h, fun r => absurd (h4 q') r⟩⟩
  | succ f ih =>
    intro x hx
    unfold L_Shapes_signLength_2
    rw [nI_add]
    refine ⟨fun q => absurd q (show ¬ nI 3 ≤ nI x from nI_ge (by omega) (by omega)), fun _ => ⟨fun q => absurd q (nI_pos (by omega)), fun _ => g_len (by omega) ⟨fun q => ?_, fun _ => g_chr (by omega) (by rw [sL_79]; omega) ⟨fun r => absurd r (h3 x (by omega) (by omega)).2, fun _ => ?_⟩⟩⟩⟩
    · rw [sL_79] at q
      exact absurd q (nI_ge (by omega) (by omega))
    · show L_Shapes_signLength_2 post (f + 1) (nI (3 * k)) (nI x + 1) σ
      rw [nI_1]
      exact ih (x + 1) (by omega)
theorem p_signLength {σ : KS} {k : Nat} {post : Int32 → KS → Prop} (hk : k < 44) (h : post (nI (sL (35 + k))) σ) : wp_Shapes_signLength (nI (3 * k)) σ post := ⟨sL (35 + k) + 1, p_signLength_l hk h (sL (35 + k)) 0 (by omega)⟩
theorem p_isSign_l {σ : KS} {T : Nat → Int32} {n a k : Nat} {post : Int32 → KS → Prop} (hT : kTx σ T n) (ha : a < 2 ^ 30) (hk : k < 44) : ∀ (f j : Nat), j + f = sL (35 + k) → post (bI (decide (z_run (z_mP T a (35 + k)) f j = sL (35 + k)))) σ → L_Shapes_isSign_8 post (f + 1) (nI (3 * k)) (nI a) (nI (sL (35 + k))) (nI j) σ := by
  obtain ⟨h1, h2, h3, h4⟩ := sg_f k hk
  intro f
  induction f with
  | zero =>
    intro j hj h
    unfold L_Shapes_isSign_8
    rw [z_run, decide_eq_true (by omega)] at h
    exact ⟨fun _ => h, fun q => absurd (nI_le (by omega) (by omega)) q⟩
  | succ f ih =>
    intro j hj h
    unfold L_Shapes_isSign_8
    rw [nI_add, nI_add]
    refine ⟨fun q => absurd q (nI_ge (by omega) (by omega)), fun _ => g_chr (by omega) (by rw [sL_79]; omega) (p_let hT (by omega) ?_)⟩
    rw [(h3 j (by omega) (by omega)).1]
    refine ⟨fun q => ?_, fun q => ?_⟩
    · show L_Shapes_isSign_8 post (f + 1) (nI (3 * k)) (nI a) (nI (sL (35 + k))) (nI j + 1) σ
      rw [nI_1]
      rw [z_run_t (P := z_mP T a (35 + k)) (by unfold z_mP; exact decide_eq_true q.symm)] at h
      exact ih (j + 1) (by omega) h
    · rw [z_run_f (P := z_mP T a (35 + k)) (by unfold z_mP; exact decide_eq_false (fun r => q r.symm)), decide_eq_false (by omega)] at h
      exact h
theorem p_isSign {σ : KS} {T : Nat → Int32} {n a k : Nat} {post : Int32 → KS → Prop} (hT : kTx σ T n) (ha : a < 2 ^ 30) (hk : k < 44) (h : post (bI (z_mt T a (35 + k))) σ) : wp_Shapes_isSign (nI (3 * k)) (nI a) σ post := p_signLength hk ⟨sL (35 + k) + 1, p_isSign_l hT ha hk (sL (35 + k)) 0 (by omega) h⟩
def z_sg (T : Nat → Int32) (a : Nat) : Nat → Nat → Option Nat
  | 0, _ => none
  | f + 1, k => if z_mt T a (35 + k) = true then some k else z_sg T a f (k + 1)
def gI : Option Nat → Int32
  | none => -1
  | some k => nI (43 + k)
theorem p_signKind_l {σ : KS} {T : Nat → Int32} {n a : Nat} {post : Int32 → KS → Prop} (hT : kTx σ T n) (ha : a < 2 ^ 30) : ∀ (f k : Nat), k + f = 44 → post (gI (z_sg T a f k)) σ → L_Shapes_signKind_2 post (f + 1) (nI a) (nI (3 * k)) σ := by
  intro f
  induction f with
  | zero =>
    intro k hk h
    unfold L_Shapes_signKind_2
    rw [nI_p3]
    refine g_len (by omega) ⟨fun _ => h, fun q => ?_⟩
    rw [sL_79] at q
    exact absurd (nI_lt (by omega) (by omega)) q
  | succ f ih =>
    intro k hk h
    unfold L_Shapes_signKind_2
    rw [nI_p3]
    refine g_len (by omega) ⟨fun q => ?_, fun _ => p_isSign hT ha (by omega) ⟨fun q => ?_, fun q => ?_⟩⟩
    · rw [sL_79] at q
      exact absurd q (nI_nlt (by omega) (by omega))
    · rw [bI_0] at q
      rw [z_sg, if_neg (by rw [q]; decide)] at h
      exact ih (k + 1) (by omega) h
    · rw [bI_n0] at q
      rw [z_sg, if_pos q] at h
      rw [(sg_i k (by omega)).2.1]
      exact h
theorem z_sg_lt {T : Nat → Int32} {a : Nat} : ∀ (f k i : Nat), z_sg T a f k = some i → k ≤ i ∧ i < k + f ∧ z_mt T a (35 + i) = true := by
  intro f
  induction f with
  | zero => intro k i h; cases h
  | succ f ih =>
    intro k i h
    rw [z_sg] at h
    split at h
    · rename_i q
      cases h
      exact ⟨Nat.le_refl _, by omega, q⟩
    · have := ih _ _ h
      exact ⟨by omega, by omega, this.2.2⟩
/-- the class's two steps as one -/
theorem p_signKind {σ : KS} {T : Nat → Int32} {n a : Nat} {post : Int32 → KS → Prop} (hT : kTx σ T n) (ha : a ≤ n) (h : post (gI (z_sg T a 44 0)) σ) : wp_Shapes_signKind (nI a) σ post := by
  have hn := hT.1
  exact ⟨45, p_signKind_l hT (by omega) 44 0 (by omega) h⟩
theorem p_sign {σ : KS} {T : Nat → Int32} {n a : Nat} {post : Int32 → Int32 → KS → Prop} (hT : kTx σ T n) (ha : a ≤ n) (h0 : z_sg T a 44 0 = none → post (-1) (-1) σ) (h1 : ∀ k, z_sg T a 44 0 = some k → post (nI (43 + k)) (nI (a + sL (35 + k))) σ) : wp_Shapes_signEnd (nI a) (gI (z_sg T a 44 0)) σ (fun e s' => post (gI (z_sg T a 44 0)) e s') := by
  have hn := hT.1
  cases e : z_sg T a 44 0 with
  | none => exact ⟨fun q => absurd rfl q, fun _ => h0 e⟩
  | some k =>
    have hk := z_sg_lt 44 0 k e
    have hi := sg_i k (by omega)
    refine ⟨fun _ => ?_, fun q => absurd q hi.2.2⟩
    show wp_Shapes_signLength ((nI (43 + k) - 43) * 3) σ _
    rw [hi.1]
    refine p_signLength (by omega) ?_
    rw [nI_add]
    exact h1 k e
theorem z_sg_in {T : Nat → Int32} {n a k : Nat} (hT : tX T n) (h : z_sg T a 44 0 = some k) : k < 44 ∧ a < a + sL (35 + k) ∧ a + sL (35 + k) ≤ n := by
  have hk := z_sg_lt 44 0 k h
  obtain ⟨h1, h2, h3, -⟩ := sg_f k (by omega)
  refine ⟨by omega, by omega, ?_⟩
  have hm := z_mt_t hk.2.2 (sL (35 + k) - 1) (by omega)
  have hc := h3 (sL (35 + k) - 1) (by omega) (by omega)
  have sc : ∀ k, k < 44 → ∀ j, j < 3 → ¬ sC (35 + k) j = -1 := by decide +kernel
  have := tX_in hT hm (sc k (by omega) _ (by omega))
  omega
/-! the reference's -/
def z_sm (T : Nat → Int32) (a : Nat) : Nat → Nat → Option Nat → Option Nat
  | 0, _, o => o
  | f + 1, k, o => z_sm T a f (k + 1) (if z_mt T a (35 + k) = true then (match o with | none => some k | some b => if sL (35 + k) ≤ sL (35 + b) then some b else some k) else o)
theorem z_sm_stay {T : Nat → Int32} {a b : Nat} (hb : b < 44) (hm : z_mt T a (35 + b) = true) : ∀ (f k : Nat), b < k → k + f = 44 → z_sm T a f k (some b) = some b := by
  intro f
  induction f with
  | zero => intro k _ _; rfl
  | succ f ih =>
    intro k hk hf
    rw [z_sm]
    have e : (if z_mt T a (35 + k) = true then (match some b with | none => some k | some b => if sL (35 + k) ≤ sL (35 + b) then some b else some k) else some b) = some b := by
      split
      · rename_i q
        show (if sL (35 + k) ≤ sL (35 + b) then some b else some k) = some b
        refine if_pos (Nat.le_of_not_lt (fun r => ?_))
        refine sg_max b hb k (by omega) hk r (fun i hi => ?_)
        rw [← z_mt_t hm i hi, z_mt_t q i (by omega)]
      · rfl
    rw [e]
    exact ih (k + 1) (by omega) (by omega)
theorem z_sm_sg {T : Nat → Int32} {a : Nat} : ∀ (f k : Nat), k + f = 44 → z_sm T a f k none = z_sg T a f k := by
  intro f
  induction f with
  | zero => intro k _; rfl
  | succ f ih =>
    intro k hk
    rw [z_sm, z_sg]
    by_cases q : z_mt T a (35 + k) = true
    · rw [if_pos q, if_pos q]
      exact z_sm_stay (by omega) q f (k + 1) (by omega) (by omega)
    · rw [if_neg q, if_neg q]
      exact ih (k + 1) (by omega)
def zxI : Option Nat → Int32
  | none => -1
  | some k => nI k
/-- how deep in brackets, behind a token whose first letter is c -/
def z_dep (c : Int32) (d : Nat) : Nat := if c = 40 ∨ c = 91 ∨ c = 123 then d + 1 else if c = 41 ∨ c = 93 ∨ c = 125 then d - 1 else d
theorem q_262 {σ : MS} {T : Nat → Int32} {n a d : Nat} {post : Int32 → MS → Prop} (hT : mTx σ T n) (ha : a ≤ n) (hd : d ≤ 4096) (hat : m_at σ = nI a) (hdp : m_depth σ = nI d) (hw : m_wrong σ = -1) : ∀ (f k : Nat) (o : Option Nat), k + f = 44 → (∀ b, o = some b → b < 44) → (z_sm T a f k o = none → post 0 (m_wrong' σ (nI a))) → (∀ b, z_sm T a f k o = some b → wp_Mod_add (nI (43 + b)) (nI a) (nI (a + sL (35 + b))) (m_at' (m_depth' σ (nI (z_dep (T a) d))) (nI (a + sL (35 + b)))) (fun r s => vB r ∧ post r s)) → L_Mod_token_262 post (f + 1) (T a) (nI a) (zxI o) (nI k) σ := by
  have hn := hT.1
  intro f
  induction f with
  | zero =>
    intro k o hk ho h0 h1
    unfold L_Mod_token_262
    refine ⟨fun _ => ?_, fun q => absurd (show nI 44 ≤ nI k from nI_le (by omega) (by omega)) q⟩
    cases o with
    | none => exact ⟨fun q => absurd q (by decide), fun _ => q_bad hw ⟨vB_bI false, h0 rfl⟩⟩
    | some b =>
      have hb := ho b rfl
      have hs := sg_f b hb
      have hadd := h1 b rfl
      refine ⟨fun _ => ?_, fun q => absurd (nI_pos' (n := b) (by omega)) q⟩
      have h396 : L_Mod_token_396 post (nI a) (nI b) (m_depth' σ (nI (z_dep (T a) d))) := by
        refine ⟨vp_in_nI (by omega) (by omega), ?_⟩
        rw [nI_clamp (by omega)]
        refine g_len (by unfold msI; omega) (fun s hs => ?_)
        subst hs
        rw [show (43 : Int32) + nI b = nI (43 + b) from nI_add 43 b]
        rw [show m_at (m_depth' σ (nI (z_dep (T a) d))) = nI a from hat]
        show wp_Mod_add _ _ (nI a + nI (sL (35 + b))) (m_at' _ (nI a + nI (sL (35 + b)))) _
        rw [nI_add]
        exact hadd
      have same : z_dep (T a) d = d → L_Mod_token_396 post (nI a) (nI b) σ := by
        intro q
        rw [q, ← hdp] at h396
        exact h396
      have up : (T a = 40 ∨ T a = 91 ∨ T a = 123) → L_Mod_token_351 post (T a) (nI a) (nI b) σ := by
        intro q s hs
        rw [hdp, nI_1] at hs
        subst hs
        unfold z_dep at h396
        rw [if_pos q] at h396
        refine ⟨fun r => ?_, fun _ => ⟨fun r => ?_, fun _ => ⟨fun _ => h396, fun r => ?_⟩⟩⟩
        · rw [r] at q; exact absurd q (by decide)
        · rw [r] at q; exact absurd q (by decide)
        · rw [r] at q; exact absurd q (by decide)
      have down : ¬ (T a = 40 ∨ T a = 91 ∨ T a = 123) → (T a = 41 ∨ T a = 93 ∨ T a = 125) → L_Mod_token_379 post (nI a) (nI b) σ := by
        intro q0 q
        unfold L_Mod_token_379
        rw [hdp]
        refine ⟨fun r => same ?_, fun r s hs => ?_⟩
        · rw [show (0 : Int32) = nI 0 from rfl, nI_leI (by omega) (by omega)] at r
          unfold z_dep
          rw [if_neg q0, if_pos q]
          omega
        · rw [show (0 : Int32) = nI 0 from rfl, nI_leI (by omega) (by omega)] at r
          unfold z_dep at h396
          rw [if_neg q0, if_pos q] at h396
          rw [show nI d - 1 = nI (d - 1) from pk_sub (a := d) (b := 1) (by omega)] at hs
          subst hs
          exact h396
      refine ⟨fun q => up (Or.inl q), fun q => ⟨fun r => up (Or.inr (Or.inl r)), fun r => ⟨fun s => ?_, fun s => up (Or.inr (Or.inr s))⟩⟩⟩
      have q0 : ¬ (T a = 40 ∨ T a = 91 ∨ T a = 123) := fun t => t.elim q (fun t => t.elim r s)
      refine ⟨fun t => down q0 (Or.inl t), fun t => ⟨fun u => down q0 (Or.inr (Or.inl u)), fun u => ⟨fun v => same ?_, fun v => down q0 (Or.inr (Or.inr v))⟩⟩⟩
      unfold z_dep
      rw [if_neg q0, if_neg (fun w => w.elim t (fun w => w.elim u v))]
  | succ f ih =>
    intro k o hk ho h0 h1
    have hl := sL_le (35 + k) (by omega)
    have nx : ∀ o', (if z_mt T a (35 + k) = true then (match o with | none => some k | some b => if sL (35 + k) ≤ sL (35 + b) then some b else some k) else o) = o' → (∀ b, o' = some b → b < 44) → L_Mod_token_316 post (fun x1 x2 x4 x5 σ => L_Mod_token_262 post (f + 1) x1 x2 x4 x5 σ) (T a) (nI a) (zxI o') (nI k) σ := by
      intro o' q ho'
      have h0' : z_sm T a f (k + 1) o' = none → post 0 (m_wrong' σ (nI a)) := fun hb => h0 (by show z_sm T a f (k + 1) _ = _; rw [q]; exact hb)
      have h1' : ∀ b, z_sm T a f (k + 1) o' = some b → wp_Mod_add (nI (43 + b)) (nI a) (nI (a + sL (35 + b))) (m_at' (m_depth' σ (nI (z_dep (T a) d))) (nI (a + sL (35 + b)))) (fun r s => vB r ∧ post r s) := by
        intro b hb
        exact h1 b (by show z_sm T a f (k + 1) _ = _; rw [q]; exact hb)
      show L_Mod_token_262 post (f + 1) (T a) (nI a) (zxI o') (nI k + 1) σ
      rw [nI_1]
      exact ih (k + 1) o' (by omega) ho' h0' h1'
    unfold L_Mod_token_262
    refine ⟨fun q => absurd q (show ¬ nI 44 ≤ nI k from nI_ge (by omega) (by omega)), fun _ => ⟨vp_in_nI (by omega) (by omega), ?_⟩⟩
    rw [nI_clamp (by omega)]
    refine q_stands hT (by omega) (by unfold msI; omega) ⟨fun q => nx o ?_ ho, fun q => ?_⟩
    · rw [bI_0] at q
      exact if_neg (by show ¬ z_mt T a (msI k) = true; rw [q]; decide)
    · rw [bI_n0] at q
      have q' : z_mt T a (35 + k) = true := q
      cases o with
      | none =>
        refine ⟨fun _ => nx (some k) (by rw [if_pos q']) (fun b hb => by cases hb; omega), fun r => absurd (show zxI none < 0 by decide) r⟩
      | some b =>
        have hb := ho b rfl
        have hlb := sL_le (35 + b) (by omega)
        refine ⟨fun r => absurd r (nI_pos (by omega)), fun _ => ⟨vp_in_nI (by omega) (by omega), g_len (by unfold msI; omega) ⟨vp_in_nI (by omega) (by omega), ?_⟩⟩⟩
        rw [show (zxI (some b)).toNatClampNeg = b from nI_clamp (by omega)]
        refine g_len (by unfold msI; omega) ⟨fun r => nx (some b) ?_ ho, fun r => nx (some k) ?_ (fun b hb => by cases hb; omega)⟩
        · rw [if_pos q']
          have r' : sL (35 + k) ≤ sL (35 + b) := (nI_leI (by omega) (by omega)).mp r
          exact if_pos r'
        · rw [if_pos q']
          have r' : ¬ sL (35 + k) ≤ sL (35 + b) := fun t => r (show nI (sL (35 + k)) ≤ nI (sL (35 + b)) from (nI_leI (by omega) (by omega)).mpr t)
          exact if_neg r'
