/-! feed -/
theorem oct_at {w : Nat → Int32} {f i : Nat} (h : 4 * f + i < 2 ^ 31) : oct w (4 * f + i) = (((w (f + i / 4)).toUInt32 >>> ((24 - 8 * (nI i &&& 3)).toUInt32 &&& Int32.toUInt32 31)).toInt32) &&& 255 := by
  unfold oct
  rw [show (4 * f + i) / 4 = f + i / 4 by omega, pk_andN (n := 4 * f + i) (by omega) (m := 3) 2 (by decide), pk_andN (n := i) (by omega) (m := 3) 2 (by decide), show (4 * f + i) % 2 ^ 2 = i % 2 ^ 2 by omega]
theorem p_addWord {σ : KS} {f : Nat} {a : Int32} {post : KS → Prop} (hf : k_fed σ = nI f) (h : f < 1025) (hp : ∀ σ', σ' = k_fed' (k_w' σ (upd (k_w σ) f a)) (nI (f + 1)) → post σ') : wp_Text_addWord a σ post := by
  unfold wp_Text_addWord
  rw [hf]
  refine ⟨fun q => absurd q (show ¬ nI 1025 ≤ nI f from nI_ge (by omega) (by omega)), fun _ => ⟨vp_in_nI (by omega) (by omega), fun s1 e1 s2 e2 => hp s2 ?_⟩⟩
  rw [nI_clamp (by omega)] at e1
  have q1 : k_fed s1 = nI f := by subst e1; exact hf
  rw [q1, nI_1] at e2
  rw [e2, e1]
theorem q_feed_l {w : Nat → Int32} {f : Nat} {a1 a2 a3 a4 a5 : Int32} {post : Int32 → MS → Prop} (hf : f + 5 ≤ 1025) (w1 : w f = a1) (w2 : w (f + 1) = a2) (w3 : w (f + 2) = a3) (w4 : w (f + 3) = a4) (w5 : w (f + 4) = a5) (τ0 : MS) (hp : ∀ τ', (∃ x oc, τ' = m_oc' (m_fed' τ0 x) oc) → m_fed τ' = nI (4 * (f + 5)) → (∀ j, j < 4 * (f + 5) → m_oc τ' j = oct w j) → post (nI (4 * (f + 5))) τ') : ∀ (g i : Nat) (τ : MS), i + g = 20 → (∃ x oc, τ = m_oc' (m_fed' τ0 x) oc) → m_fed τ = nI (4 * f + i) → (∀ j, j < 4 * f + i → m_oc τ j = oct w j) → L_Mod_feed_28 post (g + 1) a1 a2 a3 a4 a5 (nI i) τ := by
  intro g
  induction g with
  | zero =>
    intro i τ hi ht hm ho
    have hi' : i = 20 := by omega
    subst hi'
    unfold L_Mod_feed_28
    rw [hm]
    refine ⟨fun _ => ?_, fun q => absurd (nI_le (a := 20) (Nat.le_refl _) (by omega)) q⟩
    rw [show 4 * f + 20 = 4 * (f + 5) by omega] at hm ho ⊢
    exact hp τ ht hm ho
  | succ g ih =>
    intro i τ hi ht hm ho
    have step : ∀ s0, s0 = w (f + i / 4) → L_Mod_feed_81 post (fun x1 x2 x3 x4 x5 x6 σ => L_Mod_feed_28 post (g + 1) x1 x2 x3 x4 x5 x6 σ) a1 a2 a3 a4 a5 (nI i) s0 τ := by
      intro s0 hs t3 e3
      rw [hm]
      refine ⟨vp_in_nI (by omega) (by omega), fun t4 e4 => ?_⟩
      rw [nI_clamp (by omega)] at e4
      rw [hm, nI_1] at e3
      show L_Mod_feed_28 post (g + 1) a1 a2 a3 a4 a5 (nI i + 1) t4
      rw [nI_1]
      refine ih (i + 1) t4 (by omega) ?_ ?_ ?_
      · obtain ⟨x, oc, hx⟩ := ht
        subst e4; subst e3; subst hx
        exact ⟨_, _, rfl⟩
      · subst e4; subst e3
        show nI (4 * f + i + 1) = _
        rw [show 4 * f + i + 1 = 4 * f + (i + 1) by omega]
      · intro j hj
        subst e4; subst e3
        show upd (m_oc τ) (4 * f + i) _ j = _
        unfold upd
        by_cases q : j = 4 * f + i
        · rw [if_pos q, q, oct_at (by omega), hs]
        · rw [if_neg q]
          exact ho j (by omega)
    unfold L_Mod_feed_28
    refine ⟨fun q => absurd q (show ¬ nI 20 ≤ nI i from nI_ge (by omega) (by omega)), fun _ => ⟨fun q4 => ⟨fun q8 => ⟨fun q12 => ⟨fun q16 => step _ ?_, fun q16 => step _ ?_⟩, fun q12 => step _ ?_⟩, fun q8 => step _ ?_⟩, fun q4 => step _ ?_⟩⟩
    · have := (nI_leI (a := 16) (by omega) (by omega)).mp q16
      rw [show f + i / 4 = f + 4 by omega, w5]
    · have h1 := (nI_leI (a := 12) (by omega) (by omega)).mp q12
      have h2 : ¬ 16 ≤ i := fun t => q16 (nI_le (a := 16) t (by omega))
      rw [show f + i / 4 = f + 3 by omega, w4]
    · have h1 := (nI_leI (a := 8) (by omega) (by omega)).mp q8
      have h2 : ¬ 12 ≤ i := fun t => q12 (nI_le (a := 12) t (by omega))
      rw [show f + i / 4 = f + 2 by omega, w3]
    · have h1 := (nI_leI (a := 4) (by omega) (by omega)).mp q4
      have h2 : ¬ 8 ≤ i := fun t => q8 (nI_le (a := 8) t (by omega))
      rw [show f + i / 4 = f + 1 by omega, w2]
    · have h2 : ¬ 4 ≤ i := fun t => q4 (nI_le (a := 4) t (by omega))
      rw [show f + i / 4 = f by omega, w1]
theorem st_feed (σ : KS) (o : Nat → Int64) (τ : MS) (hR : RL σ τ) (a1 a2 a3 a4 a5 : Int32) : stFeed RL σ o τ a1 a2 a3 a4 a5 := by
  obtain ⟨⟨f, hf, kf, mf, hoc⟩, hwr, htk⟩ := hR
  have hR : RL σ τ := ⟨⟨f, hf, kf, mf, hoc⟩, hwr, htk⟩
  have e5 : k_fed σ + 5 = nI (f + 5) := by rw [kf]; exact nI_add f 5
  unfold stFeed wp_Law_feed wp_Desk_feed wp_Text_hasRoom
  show (1025 < k_fed σ + 5 → _) ∧ (¬ 1025 < k_fed σ + 5 → _)
  rw [e5]
  have e20 : nI (4 * f) + 20 = nI (4 * f + 20) := nI_add (4 * f) 20
  refine ⟨fun q => ⟨fun t => absurd rfl t, fun _ => ⟨rfl, ?_⟩⟩, fun q => ⟨fun _ => ?_, fun t => absurd t (by decide)⟩⟩
  · have q' : ¬ f + 5 ≤ 1025 := fun t => absurd q (show ¬ nI 1025 < nI (f + 5) from nI_nlt t (by omega))
    intro s1 e1
    have m1 : m_fed s1 = nI (4 * f) := by subst e1; exact mf
    rw [m1, e20]
    refine ⟨fun t => ?_, fun _ s2 e2 => ?_⟩
    · have := (nI_leI (b := 4100) (by omega) (by omega)).mp t
      omega
    · subst e2; subst e1
      exact ⟨rfl, fun t => absurd t (by decide), RL_err (RL_err hR)⟩
  · have q' : f + 5 ≤ 1025 := Nat.le_of_not_lt (fun t => q (nI_lt (a := 1025) t (by omega)))
    refine p_addWord kf (by omega) (fun s1 h1 => ?_)
    have f1 : k_fed s1 = nI (f + 1) := by rw [h1]; rfl
    refine p_addWord f1 (by omega) (fun s2 h2 => ?_)
    have f2 : k_fed s2 = nI (f + 2) := by rw [h2]; rfl
    refine p_addWord f2 (by omega) (fun s3 h3 => ?_)
    have f3 : k_fed s3 = nI (f + 3) := by rw [h3]; rfl
    refine p_addWord f3 (by omega) (fun s4 h4 => ?_)
    have f4 : k_fed s4 = nI (f + 4) := by rw [h4]; rfl
    refine p_addWord f4 (by omega) (fun s5 h5 => ?_)
    have f5 : k_fed s5 = nI (f + 5) := by rw [h5]; rfl
    have x1 : k_w s1 = upd (k_w σ) f a1 := by rw [h1]; rfl
    have x2 : k_w s2 = upd (k_w s1) (f + 1) a2 := by rw [h2]; rfl
    have x3 : k_w s3 = upd (k_w s2) (f + 2) a3 := by rw [h3]; rfl
    have x4 : k_w s4 = upd (k_w s3) (f + 3) a4 := by rw [h4]; rfl
    have x5 : k_w s5 = upd (k_w s4) (f + 4) a5 := by rw [h5]; rfl
    have xw : ∀ i, k_w s5 i = if i = f + 4 then a5 else if i = f + 3 then a4 else if i = f + 2 then a3 else if i = f + 1 then a2 else if i = f then a1 else k_w σ i := by
      intro i
      rw [x5, x4, x3, x2, x1]
      rfl
    have c1 : k_cnt s1 = k_cnt σ := by rw [h1]; rfl
    have p1 : k_pk s1 = k_pk σ := by rw [h1]; rfl
    have v1 : k_wr s1 = k_wr σ := by rw [h1]; rfl
    have c2 : k_cnt s2 = k_cnt s1 := by rw [h2]; rfl
    have p2 : k_pk s2 = k_pk s1 := by rw [h2]; rfl
    have v2 : k_wr s2 = k_wr s1 := by rw [h2]; rfl
    have c3 : k_cnt s3 = k_cnt s2 := by rw [h3]; rfl
    have p3 : k_pk s3 = k_pk s2 := by rw [h3]; rfl
    have v3 : k_wr s3 = k_wr s2 := by rw [h3]; rfl
    have c4 : k_cnt s4 = k_cnt s3 := by rw [h4]; rfl
    have p4 : k_pk s4 = k_pk s3 := by rw [h4]; rfl
    have v4 : k_wr s4 = k_wr s3 := by rw [h4]; rfl
    have c5 : k_cnt s5 = k_cnt s4 := by rw [h5]; rfl
    have p5 : k_pk s5 = k_pk s4 := by rw [h5]; rfl
    have v5 : k_wr s5 = k_wr s4 := by rw [h5]; rfl
    have kw : k_wr s5 = k_wr σ := by rw [v5, v4, v3, v2, v1]
    have kt : ∀ T n tk, kTk T n σ tk → kTk T n s5 tk := by
      intro T n tk h
      refine ⟨h.1, ?_, ?_⟩
      · rw [c5, c4, c3, c2, c1]; exact h.2.1
      · rw [p5, p4, p3, p2, p1]; exact h.2.2
    have r9 : k_fed s5 * 4 = nI (4 * (f + 5)) := by
      rw [f5, show (4 : Int32) = nI 4 from rfl, pk_mul, Nat.mul_comm]
    show wp_Mod_feed a1 a2 a3 a4 a5 τ _
    intro t1 e1
    have m1 : m_fed t1 = nI (4 * f) := by subst e1; exact mf
    rw [m1, e20]
    refine ⟨fun _ => ⟨21, ?_⟩, fun t => absurd (nI_le (b := 4100) (by omega) (by omega)) t⟩
    refine q_feed_l (w := k_w s5) q' ?_ ?_ ?_ ?_ ?_ t1 (fun τ' ht hm ho => ?_) 20 0 t1 (by omega) ⟨m_fed t1, m_oc t1, rfl⟩ m1 (fun j hj => ?_)
    · rw [xw, if_neg (by omega), if_neg (by omega), if_neg (by omega), if_neg (by omega), if_pos rfl]
    · rw [xw, if_neg (by omega), if_neg (by omega), if_neg (by omega), if_pos rfl]
    · rw [xw, if_neg (by omega), if_neg (by omega), if_pos rfl]
    · rw [xw, if_neg (by omega), if_pos rfl]
    · rw [xw, if_pos rfl]
    · obtain ⟨x, oc, hx⟩ := ht
      have me : m_err τ' = 0 := by subst hx; subst e1; rfl
      have mw : m_wrong τ' = m_wrong τ := by subst hx; subst e1; rfl
      have mt : ∀ tk, mTk τ tk → mTk τ' tk := by intro tk h; subst hx; subst e1; exact h
      have mx : ∀ T n, mTx τ T n → mTx τ' T n := by intro T n h; subst hx; subst e1; exact h
      obtain ⟨T, n, tk, g1, g2, g3⟩ := htk
      refine ⟨me, fun _ => ?_, ⟨f + 5, q', f5, hm, ho⟩, ?_, T, n, tk, kt T n tk g1, mt tk g2, g3.imp id (mx T n)⟩
      · show (if (0 : Nat) = 0 then (k_fed s5 * 4).toInt64 else o 0) = _
        rw [if_pos rfl, r9]
      · show k_wr s5 = m_wrong τ'
        rw [kw, mw]
        exact hwr
    · have hj' : j < 4 * f := by omega
      subst e1
      show m_oc τ j = _
      rw [hoc j hj']
      unfold oct
      rw [xw, if_neg (by omega), if_neg (by omega), if_neg (by omega), if_neg (by omega), if_neg (by omega)]
