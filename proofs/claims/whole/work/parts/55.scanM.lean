/-! the reference's scan -/
def scW (R : Nat ⊕ List Tk) (post : Int32 → MS → Prop) : Prop := ∀ q σ', R = .inl q → m_wrong σ' = nI q → m_fed σ' = 0 → m_many σ' = 0 → m_err σ' = 2 → post 0 σ'
def scG (T : Nat → Int32) (n : Nat) (R : Nat ⊕ List Tk) (post : Int32 → MS → Prop) : Prop := ∀ tk' σ', R = .inr tk' → mTx σ' T n → m_wrong σ' = -1 → m_fed σ' = 0 → m_err σ' = 0 → mTk σ' tk' → post (nI tk'.length) σ'
theorem q_171 {T : Nat → Int32} {n a d : Nat} {lv : Nat → Nat} {R : Nat ⊕ List Tk} {post : Int32 → MS → Prop} (hG : scG T n R post) (hd : d ≤ 5000) : ∀ (r j : Nat) (tk : List Tk) (σ : MS), j + r = d → mB T n σ a d lv tk → iL n d lv → tk.length + r ≤ 8500 → R = .inr ((z_out lv 0 n r tk).2 ++ [(0, n, n)]) → L_Mod_scan_171 post (r + 1) (nI n) (nI j) σ := by
  intro r
  induction r with
  | zero =>
    intro j tk σ hj hB hL hl hR
    unfold L_Mod_scan_171
    rw [hB.2.2.1]
    refine ⟨fun _ => q_addM hB (by omega) (fun σ1 hB1 _ => ?_), fun q => absurd (nI_le (by omega) (by omega)) q⟩
    rw [hB1.2.2.2.2.2.2.2.1]
    exact hG _ σ1 hR hB1.1 hB1.2.2.2.2.1 hB1.2.2.2.2.2.1 hB1.2.2.2.2.2.2.1 hB1.2.2.2.2.2.2.2
  | succ r ih =>
    intro j tk σ hj hB hL hl hR
    have hv := hL.2 (r + 1) (by omega)
    unfold L_Mod_scan_171
    rw [hB.2.2.1]
    refine ⟨fun q => absurd q (nI_ge (by omega) (by omega)), fun _ => q_addM hB (by omega) (fun σ1 hB1 _ => ?_)⟩
    show L_Mod_scan_171 post (r + 1) (nI n) (nI j + 1) σ1
    rw [nI_1]
    refine ih (j + 1) _ σ1 (by omega) hB1 hL (by rw [List.length_append, List.length_singleton]; omega) ?_
    rw [hR, z_out, if_neg (by omega)]
theorem q_165w {R : Nat ⊕ List Tk} {post : Int32 → MS → Prop} {σ : MS} {x1 : Int32} {q : Nat} (hW : scW R post) (hR : R = .inl q) (h1 : m_wrong σ = nI q) (h2 : m_fed σ = 0) : L_Mod_scan_165 post x1 0 σ := by
  refine ⟨fun _ s1 e1 s2 e2 => ?_, fun t => absurd rfl t⟩
  subst e2
  subst e1
  exact hW q _ hR h1 h2 rfl rfl
theorem q_145 {T : Nat → Int32} {n : Nat} {R : Nat ⊕ List Tk} {post : Int32 → MS → Prop} (hn : n ≤ 4096) (hW : scW R post) (hG : scG T n R post) : ∀ (f : Nat) (σ : MS) (a d : Nat) (lv : Nat → Nat) (tk : List Tk), n ≤ a + f → a ≤ n + 1 → mB T n σ a d lv tk → iL n d lv → d ≤ a → tk.length + d ≤ 2 * a → (a < n → R = xR T n a a 0 false d lv tk) → (n ≤ a → R = .inr ((z_out lv 0 n d tk).2 ++ [(0, n, n)])) → L_Mod_scan_145 post (f + 2) (nI n) 1 σ := by
  have fin : ∀ (σ : MS) (a d : Nat) (lv : Nat → Nat) (tk : List Tk), a ≤ n + 1 → mB T n σ a d lv tk → iL n d lv → d ≤ a → tk.length + d ≤ 2 * a → R = .inr ((z_out lv 0 n d tk).2 ++ [(0, n, n)]) → L_Mod_scan_165 post (nI n) 1 σ := by
    intro σ a d lv tk ha hB hL hd hl hR
    exact ⟨fun t => absurd t (by decide), fun _ => ⟨d + 1, q_171 hG (by omega) d 0 tk σ (by omega) hB hL (by omega) hR⟩⟩
  intro f
  induction f with
  | zero =>
    intro σ a d lv tk hf ha hB hL hd hl h1 h2
    unfold L_Mod_scan_145
    rw [hB.2.1]
    refine ⟨fun t => absurd t (by decide), fun _ => ⟨fun _ => fin σ a d lv tk ha hB hL hd hl (h2 (by omega)), fun q => ?_⟩⟩
    exact absurd (nI_le (by omega) (by omega)) q
  | succ f ih =>
    intro σ a d lv tk hf ha hB hL hd hl h1 h2
    unfold L_Mod_scan_145
    rw [hB.2.1]
    refine ⟨fun t => absurd t (by decide), fun _ => ⟨fun q => ?_, fun q => ?_⟩⟩
    · rw [nI_leI (by omega) (by omega)] at q
      exact fin σ a d lv tk ha hB hL hd hl (h2 q)
    · rw [nI_leI (by omega) (by omega)] at q
      refine q_line (R := R) (fun q' σ' g1 g2 g3 => ?_) (fun a' d' lv' tk' σ' g1 g2 g3 g4 g5 g6 g7 g8 => ?_) (by omega) hL hd hl hB (h1 (by omega))
      · show L_Mod_scan_145 post (f + 2) (nI n) 0 σ'
        unfold L_Mod_scan_145
        exact ⟨fun _ => q_165w hW g1 g2 g3, fun t => absurd rfl t⟩
      · exact ih σ' a' d' lv' tk' (by omega) g2 g3 g4 g5 g6 g7 g8
/-- the first octet that no text has -/
def z_fb (T : Nat → Int32) (n : Nat) : Nat := z_run (fun j => !z_bad (T j)) n 0
theorem z_fb_le (T : Nat → Int32) (n : Nat) : z_fb T n ≤ n := by
  have := z_run_le (fun j => !z_bad (T j)) n 0
  unfold z_fb
  omega
theorem z_fb_b {T : Nat → Int32} {n : Nat} (h : z_fb T n < n) : z_bad (T (z_fb T n)) = true := by
  have := z_run_stop (fun j => !z_bad (T j)) n 0 (by show z_fb T n < _; omega)
  have e : (!z_bad (T (z_fb T n))) = false := this
  cases q : z_bad (T (z_fb T n)) with
  | true => rfl
  | false => rw [q] at e; cases e
theorem z_fb_g {T : Nat → Int32} {n j : Nat} (h : j < z_fb T n) : z_bad (T j) = false := by
  have := z_run_all (fun j => !z_bad (T j)) n 0 j (by omega) h
  have e : (!z_bad (T j)) = true := this
  cases q : z_bad (T j) with
  | true => rw [q] at e; cases e
  | false => rfl
def xS (T : Nat → Int32) (n : Nat) : Nat ⊕ List Tk := if z_fb T n < n then .inl (z_fb T n) else xR T n 0 0 0 false 0 (fun _ => 0) []
def sB0 (T : Nat → Int32) (n : Nat) (σ : MS) (k : Nat) : Prop := m_let σ = nI n ∧ (∀ j, j < n → m_oc σ j = T j) ∧ (∀ j, j < k → m_tx σ j = T j) ∧ m_wrong σ = (if z_fb T n < k then nI (z_fb T n) else -1) ∧ m_fed σ = 0 ∧ m_err σ = 0 ∧ m_many σ = 0
theorem q_53 {T : Nat → Int32} {n : Nat} {post : Int32 → MS → Prop} (hT : tX T n) (hW : scW (xS T n) post) (hG : scG T n (xS T n) post) : ∀ (f k : Nat) (σ : MS), k + f = n → sB0 T n σ k → L_Mod_scan_53 post (f + 1) (nI n) (nI k) σ := by
  have hn := hT.1
  have hfb := z_fb_le T n
  intro f
  induction f with
  | zero =>
    intro k σ hk hS
    obtain ⟨s1, s2, s3, s4, s5, s6, s7⟩ := hS
    have hkn : k = n := by omega
    subst hkn
    unfold L_Mod_scan_53
    refine ⟨fun _ t1 e1 t2 e2 => ⟨vp_in_nI (n := 0) (N := 4098) (by omega) (by omega), fun t3 e3 => ?_⟩, fun q => absurd (nI_le (Nat.le_refl _) (by omega)) q⟩
    rw [show (0 : Int32).toNatClampNeg = 0 from nI_clamp (n := 0) (by omega)] at e3
    have w3 : m_wrong t3 = (if z_fb T k < k then nI (z_fb T k) else -1) := by subst e3; subst e2; subst e1; exact s4
    have hf3 : m_fed t3 = 0 := by subst e3; subst e2; subst e1; exact s5
    refine ⟨fun q => ?_, fun q => ?_⟩
    · have hb : z_fb T k < k := by
        refine Decidable.byContradiction (fun r => ?_)
        rw [w3, if_neg r] at q
        exact absurd q (by decide)
      rw [if_pos hb] at w3
      refine ⟨1, ⟨fun _ => q_165w hW (by unfold xS; rw [if_pos hb]) w3 hf3, fun t => absurd rfl t⟩⟩
    · have hb : ¬ z_fb T k < k := by
        intro r
        rw [w3, if_pos r] at q
        exact q (nI_pos' (by omega))
      rw [if_neg hb] at w3
      have hx : xS T k = xR T k 0 0 0 false 0 (fun _ => 0) [] := by unfold xS; rw [if_neg hb]
      have hB3 : mB T k t3 0 0 (fun _ => 0) [] := by
        refine ⟨⟨hn, ?_, hT.2.1, ?_, hT.2.2⟩, ?_, ?_, fun i hi => ?_, w3, hf3, ?_, ?_, fun i t hi => ?_⟩
        · subst e3; subst e2; subst e1; exact s1
        · subst e3; subst e2; subst e1; exact s3
        · subst e3; subst e2; subst e1; rfl
        · subst e3; subst e2; subst e1; rfl
        · have hi0 : i = 0 := by omega
          subst hi0
          subst e3
          show upd (m_ins t2) 0 0 0 = _
          unfold upd
          rw [if_pos rfl]
          rfl
        · subst e3; subst e2; subst e1; exact s6
        · subst e3; subst e2; subst e1; exact s7
        · simp at hi
      refine ⟨k + 2, q_145 hn hW hG k t3 0 0 (fun _ => 0) [] (by omega) (by omega) hB3 ⟨rfl, fun i hi => ⟨by show i ≤ 0; omega, by show 0 ≤ k; omega⟩⟩ (Nat.le_refl _) (Nat.le_refl _) (fun _ => hx) (fun r => ?_)⟩
      rw [hx, xR_end r]
      rfl
  | succ f ih =>
    intro k σ hk hS
    obtain ⟨s1, s2, s3, s4, s5, s6, s7⟩ := hS
    unfold L_Mod_scan_53
    refine ⟨fun q => absurd q (nI_ge (by omega) (by omega)), fun _ => ⟨vp_in_nI (by omega) (by omega), vp_in_nI (by omega) (by omega), fun t9 e9 => ⟨vp_in_nI (by omega) (by omega), ?_⟩⟩⟩
    rw [nI_clamp (by omega)] at e9 ⊢
    have hx : m_tx t9 k = T k := by
      subst e9
      show upd (m_tx σ) k (m_oc σ k) k = _
      unfold upd
      rw [if_pos rfl]
      exact s2 k (by omega)
    have hS9 : ∀ s, (s = t9 ∨ s = m_wrong' t9 (nI k)) → m_wrong s = (if z_fb T n < k + 1 then nI (z_fb T n) else -1) → sB0 T n s (k + 1) := by
      intro s hs hw
      have htx : ∀ j, j < k + 1 → m_tx t9 j = T j := by
        intro j hj
        by_cases q : j = k
        · rw [q]; exact hx
        · subst e9
          show upd (m_tx σ) k (m_oc σ k) j = _
          unfold upd
          rw [if_neg q]
          exact s3 j (by omega)
      rcases hs with hs | hs
      · subst hs
        refine ⟨?_, ?_, htx, hw, ?_, ?_, ?_⟩
        · subst e9; exact s1
        · subst e9; exact s2
        · subst e9; exact s5
        · subst e9; exact s6
        · subst e9; exact s7
      · subst hs
        refine ⟨?_, ?_, htx, hw, ?_, ?_, ?_⟩
        · subst e9; exact s1
        · subst e9; exact s2
        · subst e9; exact s5
        · subst e9; exact s6
        · subst e9; exact s7
    have w9 : m_wrong t9 = (if z_fb T n < k then nI (z_fb T n) else -1) := by subst e9; exact s4
    have good : z_bad (T k) = false → L_Mod_scan_109 post (fun x1 x2 σ => L_Mod_scan_53 post (f + 1) x1 x2 σ) (nI n) (nI k) t9 := by
      intro g
      show L_Mod_scan_53 post (f + 1) (nI n) (nI k + 1) t9
      rw [nI_1]
      refine ih (k + 1) t9 (by omega) (hS9 t9 (Or.inl rfl) ?_)
      have hne : ¬ z_fb T n = k := by
        intro r
        have := z_fb_b (T := T) (n := n) (by omega)
        rw [r, g] at this
        cases this
      rw [w9]
      by_cases r : z_fb T n < k
      · rw [if_pos r, if_pos (by omega)]
      · rw [if_neg r, if_neg (by omega)]
    have bad : z_bad (T k) = true → L_Mod_scan_103 post (fun x1 x2 σ => L_Mod_scan_53 post (f + 1) x1 x2 σ) (nI n) (nI k) t9 := by
      intro g
      have hle : z_fb T n ≤ k := by
        refine Nat.le_of_not_lt (fun r => ?_)
        have := z_fb_g r
        rw [g] at this
        cases this
      unfold L_Mod_scan_103 wp_Mod_bad
      rw [w9]
      refine ⟨fun q => ?_, fun q s hs => ?_⟩
      · have r : z_fb T n < k := by
          refine Decidable.byContradiction (fun r => ?_)
          rw [if_neg r] at q
          exact absurd q (by decide)
        show L_Mod_scan_53 post (f + 1) (nI n) (nI k + 1) t9
        rw [nI_1]
        refine ih (k + 1) t9 (by omega) (hS9 t9 (Or.inl rfl) ?_)
        rw [w9, if_pos r, if_pos (by omega)]
      · have r : ¬ z_fb T n < k := by
          intro r
          rw [if_pos r] at q
          exact q (nI_pos' (by omega))
        show L_Mod_scan_53 post (f + 1) (nI n) (nI k + 1) s
        rw [nI_1]
        refine ih (k + 1) s (by omega) (hS9 s (Or.inr hs) ?_)
        rw [if_pos (by omega), show z_fb T n = k by omega, hs]
        rfl
    rw [hx]
    refine ⟨fun q => good (by unfold z_bad; exact decide_eq_false (fun t => t.1 q)), fun q => ⟨vp_in_nI (by omega) (by omega), ?_⟩⟩
    refine ⟨fun r => bad (by unfold z_bad; exact decide_eq_true ⟨q, Or.inl r⟩), fun r => ⟨vp_in_nI (by omega) (by omega), ?_⟩⟩
    exact ⟨fun t => good (by unfold z_bad; exact decide_eq_false (fun u => u.2.elim r (fun v => v t))), fun t => bad (by unfold z_bad; exact decide_eq_true ⟨q, Or.inr t⟩)⟩
