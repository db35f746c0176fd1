/-! the class's scan -/
theorem p_readText {σ : KS} {T : Nat → Int32} {n : Nat} {post : Int32 → KS → Prop} (hT : kTx σ T n) (hk : kTk T n σ []) (hw : ∀ q, xS T n = .inl q → ∀ σ', post (nI q) σ') (hr : ∀ tk', xS T n = .inr tk' → ∀ σ', kTk T n σ' tk' → post (-1) σ') : wp_Reader_readText σ post := by
  have hn := hT.1
  have hfb := z_fb_le T n
  unfold wp_Reader_readText
  refine p_firstBad hT ?_
  show ((if z_fb T n < n then nI (z_fb T n) else -1) = -1 → _) ∧ _
  by_cases hb : z_fb T n < n
  · rw [if_pos hb]
    refine ⟨fun q => absurd q (nI_nm1 (by omega)), fun _ => ?_⟩
    show post (if z_fb T n < n then nI (z_fb T n) else -1) σ
    rw [if_pos hb]
    exact hw _ (by unfold xS; rw [if_pos hb]) σ
  · rw [if_neg hb]
    refine ⟨fun _ s1 e1 => ⟨vp_in_nI (n := 0) (N := 100) (by omega) (by omega), fun s2 e2 s3 e3 s4 e4 s5 e5 => ?_⟩, fun q => absurd (if_neg hb) q⟩
    have hx : xS T n = xF T n n 0 0 0 false 0 (fun _ => 0) [] := by unfold xS; rw [if_neg hb]; rfl
    rw [show (0 : Int32).toNatClampNeg = 0 from nI_clamp (n := 0) (by omega)] at e2
    have t1 : kTx s5 T n := by subst e5; subst e4; subst e3; subst e2; subst e1; exact hT
    show wp_Text_blanksFrom (nI 0) s5 _
    refine p_blanksFrom t1 (by omega) (fun s6 e6 s7 e7 => ⟨n + 1, ?_⟩)
    rw [hx] at hw hr
    refine p_loop n s7 0 0 0 false 0 (fun _ => 0) [] 0 (by omega) (by omega) ⟨by omega, by omega, by omega, ⟨rfl, fun i hi => ⟨by show i ≤ 0; omega, by show 0 ≤ n; omega⟩⟩, fun _ => ⟨Nat.le_refl _, Nat.le_refl _⟩, fun t => (by cases t)⟩ ?_ hw hr
    have hk7 : kTk T n s7 [] := by subst e7; subst e6; subst e5; subst e4; subst e3; subst e2; subst e1; exact hk
    refine ⟨by subst e7; subst e6; exact t1, ?_, ?_, ?_, ?_, ?_, ?_, fun i hi => ?_, hk7⟩
    · subst e7; subst e6; subst e5; subst e4; rfl
    · subst e7; subst e6; subst e5; subst e4; subst e3; rfl
    · subst e7; subst e6; subst e5; rfl
    · subst e7; subst e6; rfl
    · subst e7; rfl
    · subst e7; subst e6; subst e5; subst e4; subst e3; subst e2; subst e1; rfl
    · have hi0 : i = 0 := by omega
      subst hi0
      subst e7; subst e6; subst e5; subst e4; subst e3; subst e2
      show upd (k_lv s1) 0 0 0 = _
      unfold upd
      rw [if_pos rfl]
      rfl
theorem xF_lt {T : Nat → Int32} {n : Nat} (hT : tX T n) : ∀ (f a p op : Nat) (lht : Bool) (d : Nat) (lv : Nat → Nat) (tk : List Tk) (q : Nat), xF T n f a p op lht d lv tk = .inl q → q < n := by
  intro f
  induction f with
  | zero => intro a p op lht d lv tk q h; cases h
  | succ f ih =>
    intro a p op lht d lv tk q h
    have h' : xB T n (xF T n f) a p op lht d lv tk = .inl q := h
    unfold xB at h'
    split at h'
    · cases h'
    · rename_i h0
      split at h'
      · exact ih _ _ _ _ _ _ _ _ h'
      · split at h'
        · exact ih _ _ _ _ _ _ _ _ h'
        · split at h'
          · split at h'
            · exact ih _ _ _ _ _ _ _ _ h'
            · exact ih _ _ _ _ _ _ _ _ h'
          · split at h'
            · exact ih _ _ _ _ _ _ _ _ h'
            · split at h'
              · cases h'; omega
              · split at h'
                · cases h'; omega
                · exact ih _ _ _ _ _ _ _ _ h'
theorem xS_lt {T : Nat → Int32} {n q : Nat} (hT : tX T n) (h : xS T n = .inl q) : q ≤ 4096 := by
  have hn := hT.1
  unfold xS at h
  split at h
  · cases h; omega
  · have := xF_lt hT n _ _ _ _ _ _ _ _ h
    omega
theorem q_scan {τ : MS} {T : Nat → Int32} {n f : Nat} {post : Int32 → MS → Prop} (hT : tX T n) (ho : ∀ j, j < n → m_oc τ j = T j) (hf : m_fed τ = nI (4 * f)) (hf2 : f ≤ 1025) (hn : n ≤ 4 * f) (hW : scW (xS T n) post) (hG : scG T n (xS T n) post) : wp_Mod_scan (nI n) τ post := by
  have hn4 := hT.1
  intro s1 e1
  have q1 : m_fed s1 = nI (4 * f) := by subst e1; exact hf
  rw [q1]
  refine ⟨fun q => absurd q (nI_pos (by omega)), fun _ => ⟨fun q => absurd q (show ¬ nI 4096 < nI n from nI_nlt (by omega) (by omega)), fun _ => ⟨fun _ s2 e2 s3 e3 s4 e4 s5 e5 => ⟨n + 1, ?_⟩, fun q => absurd (nI_le hn (by omega)) q⟩⟩⟩
  refine q_53 hT hW hG n 0 s5 (by omega) ⟨?_, ?_, fun j hj => by omega, ?_, ?_, ?_, ?_⟩
  · subst e5; rfl
  · subst e5; subst e4; subst e3; subst e2; subst e1; exact ho
  · rw [if_neg (by omega)]; subst e5; subst e4; rfl
  · subst e5; subst e4; subst e3; subst e2; rfl
  · subst e5; subst e4; subst e3; subst e2; subst e1; rfl
  · subst e5; subst e4; subst e3; rfl
/-! what ties the two -/
def RL (σ : KS) (τ : MS) : Prop :=
  (∃ f, f ≤ 1025 ∧ k_fed σ = nI f ∧ m_fed τ = nI (4 * f) ∧ ∀ j, j < 4 * f → m_oc τ j = oct (k_w σ) j) ∧ k_wr σ = m_wrong τ ∧ ∃ T n tk, kTk T n σ tk ∧ mTk τ tk ∧ (tk = [] ∨ mTx τ T n)
theorem RL_err {σ : KS} {τ : MS} {x : Int32} (h : RL σ τ) : RL σ (m_err' τ x) := h
theorem q_scanE {a1 : Int32} {τ : MS} {post : Int32 → MS → Prop} (h : a1 < 0 ∨ 4096 < a1 ∨ ¬ a1 ≤ m_fed τ) (hp : post 0 (m_err' (m_err' τ 0) 1)) : wp_Mod_scan a1 τ post := by
  intro s1 e1
  have l24 : L_Mod_scan_24 post s1 := by
    intro s2 e2
    subst e2
    subst e1
    exact hp
  have q1 : m_fed s1 = m_fed τ := by subst e1; rfl
  rw [q1]
  refine ⟨fun _ => l24, fun r1 => ⟨fun _ => l24, fun r2 => ⟨fun r3 => ?_, fun _ => l24⟩⟩⟩
  exact absurd h (fun w => w.elim r1 (fun w => w.elim r2 (fun w => w r3)))
theorem st_scan (σ : KS) (o : Nat → Int64) (τ : MS) (hR : RL σ τ) (a1 : Int32) : stScan RL σ o τ a1 := by
  obtain ⟨⟨f, hf, kf, mf, hoc⟩, hwr, htk⟩ := hR
  have hR : RL σ τ := ⟨⟨f, hf, kf, mf, hoc⟩, hwr, htk⟩
  have err : (a1 < 0 ∨ 4096 < a1 ∨ ¬ a1 ≤ m_fed τ) → L_Desk_scan_22 (fun E σ1 => (E = "java/lang/IndexOutOfBoundsException" ∧ (fun k u => wp_Mod_scan a1 τ (fun b τ1 => wp_Mod_thrown τ1 (fun e τ2 => e = k ∧ (k = 0 → u.2 0 = b.toInt64) ∧ RL u.1 τ2))) (1 : Int32) (σ1, (σ, o).2)) ∨ (E = "java/lang/IllegalArgumentException" ∧ (fun k u => wp_Mod_scan a1 τ (fun b τ1 => wp_Mod_thrown τ1 (fun e τ2 => e = k ∧ (k = 0 → u.2 0 = b.toInt64) ∧ RL u.1 τ2))) (2 : Int32) (σ1, (σ, o).2))) (fun r σ1 => (fun k u => wp_Mod_scan a1 τ (fun b τ1 => wp_Mod_thrown τ1 (fun e τ2 => e = k ∧ (k = 0 → u.2 0 = b.toInt64) ∧ RL u.1 τ2))) (0 : Int32) (σ1, vp_updL (σ, o).2 0 r.toInt64)) σ := by
    intro q
    exact Or.inl ⟨rfl, q_scanE q ⟨rfl, fun t => absurd t (by decide), RL_err (RL_err hR)⟩⟩
  unfold stScan wp_Law_scan wp_Desk_scan wp_Text_fedOctets
  refine ⟨fun q => err (Or.inl q), fun q0 => ⟨fun q => err (Or.inr (Or.inl q)), fun q1 => ?_⟩⟩
  have e4 : k_fed σ * 4 = nI (4 * f) := by
    rw [kf, show (4 : Int32) = nI 4 from rfl, pk_mul, Nat.mul_comm]
  show (a1 ≤ k_fed σ * 4 → _) ∧ (¬ a1 ≤ k_fed σ * 4 → _)
  rw [e4]
  refine ⟨fun q2 => ?_, fun q2 => err (Or.inr (Or.inr (by rw [mf]; exact q2)))⟩
  obtain ⟨n, hn, rfl⟩ := nI_of2 (M := 4096) (n := 4096) (by decide) q0 (Int32.not_lt.mp q1)
  rw [nI_leI (by omega) (by omega)] at q2
  have hX : tX (zT (k_w σ) n) n := ⟨hn, fun k hk => zT_out hk, fun k => z_cT k⟩
  have hoT : ∀ j, j < n → m_oc τ j = zT (k_w σ) n j := by
    intro j hj
    unfold zT
    rw [if_pos hj]
    exact hoc j (by omega)
  intro s3 e3 s4 e4'
  have hT4 : kTx s4 (zT (k_w σ) n) n := ⟨hn, by subst e4'; rfl, by subst e4'; subst e3; rfl⟩
  have hk4 : kTk (zT (k_w σ) n) n s4 [] := ⟨Nat.zero_le _, by subst e4'; subst e3; rfl, fun i t hi => by simp at hi⟩
  refine p_readText hT4 hk4 (fun q hq σ' s7 e7 sa ea s8 e8 => ?_) (fun tk' hq σ' hk' s7 e7 sa ea s8 e8 => ?_)
  · have w8 : k_wr s8 = nI q := by subst e8; subst ea; subst e7; rfl
    have hqn : q < 2 ^ 31 := by
      have := xS_lt hX hq
      omega
    refine ⟨fun t => absurd (w8.symm.trans t) (nI_nm1 hqn), fun _ s11 e11 => Or.inr ⟨rfl, ?_⟩⟩
    refine q_scan hX hoT mf hf q2 (fun q' τ' g1 g2 g3 g4 g5 => ?_) (fun tk' τ' g1 => ?_)
    · rw [hq] at g1
      cases g1
      refine ⟨g5, fun t => absurd t (by decide), ⟨0, by omega, ?_, g3, fun j hj => by omega⟩, ?_, zT (k_w σ) n, n, [], ⟨Nat.zero_le _, ?_, fun i t hi => by simp at hi⟩, ⟨g4, fun i t hi => by simp at hi⟩, Or.inl rfl⟩
      · subst e11; subst e8; subst ea; rfl
      · rw [g2]; subst e11; exact w8
      · subst e11; rfl
    · rw [hq] at g1
      cases g1
  · have w8 : k_wr s8 = -1 := by subst e8; subst ea; subst e7; rfl
    have hk8 : kTk (zT (k_w σ) n) n s8 tk' := by subst e8; subst ea; subst e7; exact hk'
    refine ⟨fun _ => ?_, fun t => absurd w8 t⟩
    refine q_scan hX hoT mf hf q2 (fun q' τ' g1 => ?_) (fun tk2 τ' g1 g2 g3 g4 g5 g6 => ?_)
    · rw [hq] at g1
      cases g1
    · rw [hq] at g1
      cases g1
      refine ⟨g5, fun _ => ?_, ⟨0, by omega, ?_, g4, fun j hj => by omega⟩, ?_, zT (k_w σ) n, n, tk', hk8, g6, Or.inr g2⟩
      · show (if (0 : Nat) = 0 then (k_cnt s8).toInt64 else o 0) = _
        rw [if_pos rfl, hk8.2.1]
      · subst e8; subst ea; rfl
      · rw [g3]; exact w8
