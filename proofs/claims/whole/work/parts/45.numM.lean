/-! the reference's number -/
theorem q_bad {σ : MS} {p : Int32} {post : Int32 → MS → Prop} (hw : m_wrong σ = -1) (h : post 0 (m_wrong' σ p)) : wp_Mod_bad p σ post := by
  unfold wp_Mod_bad
  rw [hw]
  exact ⟨fun q => absurd q (by decide), fun _ s hs => by subst hs; exact h⟩
theorem or32_v : ∀ v, v < 256 → (decide (nI v ||| 32 = 101) = (decide (nI v = 101) || decide (nI v = 69))) ∧ (decide (nI v ||| 32 = 120) = (decide (nI v = 120) || decide (nI v = 88))) ∧ (decide (nI v ||| 32 = 111) = (decide (nI v = 111) || decide (nI v = 79))) ∧ (decide (nI v ||| 32 = 98) = (decide (nI v = 98) || decide (nI v = 66))) := by decide +kernel
theorem or32_m : (decide ((-1 : Int32) ||| 32 = 101) = (decide ((-1 : Int32) = 101) || decide ((-1 : Int32) = 69))) ∧ (decide ((-1 : Int32) ||| 32 = 120) = (decide ((-1 : Int32) = 120) || decide ((-1 : Int32) = 88))) ∧ (decide ((-1 : Int32) ||| 32 = 111) = (decide ((-1 : Int32) = 111) || decide ((-1 : Int32) = 79))) ∧ (decide ((-1 : Int32) ||| 32 = 98) = (decide ((-1 : Int32) = 98) || decide ((-1 : Int32) = 66))) := by decide +kernel
theorem or32 {c : Int32} (hc : z_c c) : ((c ||| 32 = 101) ↔ (c = 101 ∨ c = 69)) ∧ ((c ||| 32 = 120) ↔ (c = 120 ∨ c = 88)) ∧ ((c ||| 32 = 111) ↔ (c = 111 ∨ c = 79)) ∧ ((c ||| 32 = 98) ↔ (c = 98 ∨ c = 66)) := by
  have h : (decide (c ||| 32 = 101) = (decide (c = 101) || decide (c = 69))) ∧ (decide (c ||| 32 = 120) = (decide (c = 120) || decide (c = 88))) ∧ (decide (c ||| 32 = 111) = (decide (c = 111) || decide (c = 79))) ∧ (decide (c ||| 32 = 98) = (decide (c = 98) || decide (c = 66))) := by
    rcases hc with rfl | ⟨v, hv, rfl⟩
    · exact or32_m
    · exact or32_v v hv
  have k : ∀ {A B C : Prop} [Decidable A] [Decidable B] [Decidable C], decide A = (decide B || decide C) → (A ↔ (B ∨ C)) := by
    intro A B C _ _ _ q
    by_cases a : A <;> by_cases b : B <;> by_cases c : C <;> simp_all
  exact ⟨k h.1, k h.2.1, k h.2.2.1, k h.2.2.2⟩
theorem q_nP {σ : MS} {T : Nat → Int32} {n e : Nat} {post : MS → Prop} {bad : MS → Prop} (hT : mTx σ T n) (he : e < 2 ^ 31) (h1 : z_nP T e = true → bad σ) (h2 : z_nP T e = false → post σ) : wp_Mod_c (nI e) σ (fun r18 σ19 => wp_Mod_isLetter r18 σ19 (fun r20 σ21 => ((¬ r20 = 0 → bad σ21) ∧ (r20 = 0 → wp_Mod_c (nI e) σ21 (fun r22 σ23 => wp_Mod_isDigit r22 σ23 (fun r24 σ25 => ((r24 = 0 → post σ25) ∧ (¬ (r24 = 0) → bad σ25)))))))) := by
  have hc := hT.2.2.2.2 e
  refine q_c hT he (q_isLetter ⟨fun q => h1 ?_, fun q => q_c hT he (q_dig hc ⟨fun r => h2 ?_, fun r => h1 ?_⟩)⟩)
  · unfold z_nP; rw [bI_n0.mp q]; rfl
  · unfold z_nP; rw [bI_0.mp q, bI_0.mp r]; rfl
  · unfold z_nP; rw [bI_n0.mp r, Bool.or_true]
theorem q_248 {σ : MS} {T : Nat → Int32} {n a e : Nat} {k : Int32} {post : Int32 → MS → Prop} (hT : mTx σ T n) (ha : a ≤ n) (he : e ≤ n) (hw : m_wrong σ = -1) : ∀ (f j : Nat) (v : Bool), j + f = e → ((¬ k = 5 ∨ ¬ T a = 48 ∨ (v && decide (z_run (z_0 T) f j = j + f)) = true) → L_Mod_number_320 post (nI a) k (nI e) σ) → (k = 5 → T a = 48 → (v && decide (z_run (z_0 T) f j = j + f)) = false → post 0 (m_wrong' σ (nI a))) → L_Mod_number_248 post (f + 1) (nI a) k (nI e) (bI v) (nI j) σ := by
  have hn := hT.1
  intro f
  induction f with
  | zero =>
    intro j v hj h1 h2
    rw [z_run, Nat.add_zero, decide_eq_true rfl, Bool.and_true] at h1 h2
    unfold L_Mod_number_248
    refine ⟨fun _ => ⟨fun q => h1 (Or.inl q), fun q => q_c hT (by omega) ⟨fun r => h1 (Or.inr (Or.inl r)), fun r => ⟨fun s => h1 (Or.inr (Or.inr (bI_n0.mp s))), fun s => q_bad hw ⟨vB_bI false, h2 q r (bI_0.mp s)⟩⟩⟩⟩, fun q => absurd (nI_le (by omega) (by omega)) q⟩
  | succ f ih =>
    intro j v hj h1 h2
    have e1 : bI v &&& 1 = bI v := by cases v <;> decide
    have e0 : bI v &&& 0 = bI false := by cases v <;> decide
    have go : z_0 T j = true → L_Mod_number_279 post (fun x1 x4 x5 x7 x8 σ => L_Mod_number_248 post (f + 1) x1 x4 x5 x7 x8 σ) (nI a) k (nI e) (nI j) (bI v) σ := by
      intro q
      show L_Mod_number_248 post (f + 1) (nI a) k (nI e) (bI v &&& 1) (nI j + 1) σ
      rw [nI_1, e1]
      rw [z_run_t q, show j + (f + 1) = j + 1 + f by omega] at h1 h2
      exact ih (j + 1) v (by omega) h1 h2
    have stop : z_0 T j = false → L_Mod_number_284 post (fun x1 x4 x5 x7 x8 σ => L_Mod_number_248 post (f + 1) x1 x4 x5 x7 x8 σ) (nI a) k (nI e) (nI j) 0 (bI v) σ := by
      intro q
      show L_Mod_number_248 post (f + 1) (nI a) k (nI e) (bI v &&& 0) (nI j + 1) σ
      rw [nI_1, e0]
      rw [z_run_f q, decide_eq_false (show ¬ j = j + (f + 1) by omega), Bool.and_false] at h1 h2
      refine ih (j + 1) false (by omega) ?_ ?_
      · rw [Bool.false_and]; exact h1
      · rw [Bool.false_and]; exact h2
    unfold L_Mod_number_248
    refine ⟨fun q => absurd q (nI_ge (by omega) (by omega)), fun _ => q_c hT (by omega) ⟨fun q => go (by unfold z_0; simp [q]), fun q => q_c hT (by omega) ⟨fun r => stop (by unfold z_0; simp [q, r]), fun r => go (by unfold z_0; simp [r])⟩⟩⟩
theorem q_number {σ : MS} {T : Nat → Int32} {n a : Nat} {post : Int32 → MS → Prop} (hT : mTx σ T n) (ha : a ≤ n) (hat : m_at σ = nI a) (hw : m_wrong σ = -1) (h0 : z_num T n a = none → ∀ x, post 0 (m_wrong' (m_at' σ x) (nI a))) (h1 : ∀ k e, z_num T n a = some (k, e) → wp_Mod_add k (nI a) (nI e) (m_at' σ (nI e)) (fun r s => vB r ∧ post r s)) : wp_Mod_number σ post := by
  have hn := hT.1
  have ht := mTx_t hT
  have hc := hT.2.2.2.2
  have hb0 : z_num T n a = none → post 0 (m_wrong' σ (nI a)) := fun q => h0 q (m_at σ)
  have h320 : ∀ k e, e ≤ n → (z_nP T e = true → z_num T n a = none) → (z_nP T e = false → z_num T n a = some (k, e)) → L_Mod_number_320 post (nI a) k (nI e) σ := by
    intro k e he g1 g2
    intro s hs
    subst hs
    refine q_nP (σ := m_at' σ (nI e)) (T := T) (n := n) hT (by omega) (bad := fun s => L_Mod_number_350 post (nI a) s) (fun q => ?_) (fun q => h1 k e (g2 q))
    exact q_bad hw ⟨vB_bI false, h0 (g1 q) (nI e)⟩
  have h65 : L_Mod_number_65 post (nI a) (z_base T a) σ := by
    by_cases hb : z_base T a = 10
    · have hd := z_dE_le (T := T) (b := 10) ha
      have hf := z_fr_le ht hd.2
      have hx := z_exp_le ht hf.2
      have h242 : ∀ k, (k = 5 ∧ z_exp T n (z_fr T n (z_dE T n 10 a)) = z_dE T n 10 a) ∨ (k = 6 ∧ ¬ z_exp T n (z_fr T n (z_dE T n 10 a)) = z_dE T n 10 a) → L_Mod_number_242 post (nI a) k (nI (z_exp T n (z_fr T n (z_dE T n 10 a)))) σ := by
        intro k hk
        refine ⟨_, q_248 hT ha hx.2 hw (z_exp T n (z_fr T n (z_dE T n 10 a)) - a) a true (by omega) ?_ ?_⟩
        · intro g
          rw [Bool.true_and, decide_eq_true_iff] at g
          have hni : ¬ (z_exp T n (z_fr T n (z_dE T n 10 a)) = z_dE T n 10 a ∧ z_idle T a (z_dE T n 10 a) = true) := by
            intro q
            unfold z_idle at q
            rw [Bool.and_eq_true, decide_eq_true_iff, decide_eq_true_iff] at q
            rcases g with g | g | g
            · rcases hk with r | r
              · exact g r.1
              · exact r.2 q.1
            · exact g q.2.1
            · rw [q.1] at g
              omega
          refine h320 k _ hx.2 (fun q => ?_) (fun q => ?_)
          · unfold z_num; rw [if_pos hb, if_neg hni, if_pos q]
          · unfold z_num
            rw [if_pos hb, if_neg hni, if_neg (by rw [q]; decide)]
            rcases hk with r | r
            · rw [if_pos r.2, r.1]
            · rw [if_neg r.2, r.1]
        · intro g1 g2 g3
          rw [Bool.true_and, decide_eq_false_iff_not] at g3
          refine hb0 ?_
          have hr : z_exp T n (z_fr T n (z_dE T n 10 a)) = z_dE T n 10 a := by
            rcases hk with r | r
            · exact r.2
            · exact absurd (r.1.symm.trans g1) (by decide)
          unfold z_num
          rw [if_pos hb, if_pos]
          refine ⟨hr, ?_⟩
          unfold z_idle
          rw [hr] at g3
          have := z_run_le (z_0 T) (z_dE T n 10 a - a) a
          rw [Bool.and_eq_true, decide_eq_true_iff, decide_eq_true_iff]
          exact ⟨g2, by omega⟩
      have h200 : ∀ k s, s = z_exS T (z_fr T n (z_dE T n 10 a)) → (k = 5 ∧ z_fr T n (z_dE T n 10 a) = z_dE T n 10 a) ∨ (k = 6 ∧ ¬ z_fr T n (z_dE T n 10 a) = z_dE T n 10 a) → L_Mod_number_200 post (nI a) k (nI (z_fr T n (z_dE T n 10 a))) (nI s) σ := by
        intro k s hs hk
        have hs2 : s ≤ z_fr T n (z_dE T n 10 a) + 2 := by rw [hs]; unfold z_exS; split <;> omega
        have no : z_exp T n (z_fr T n (z_dE T n 10 a)) = z_fr T n (z_dE T n 10 a) → L_Mod_number_242 post (nI a) k (nI (z_fr T n (z_dE T n 10 a))) σ := by
          intro q
          have := h242 k (by rw [q]; exact hk)
          rw [q] at this
          exact this
        refine q_c hT (by omega) ⟨fun q => no ?_, fun q => q_c hT (by omega) (q_dig (hc s) ⟨fun r => no ?_, fun r => q_digits hT (by decide) (by omega) ?_⟩)⟩
        · unfold z_exp; rw [if_neg (fun r => q ((or32 (hc _)).1.mpr r.1))]
        · unfold z_exp; rw [← hs, if_neg (fun t => by rw [bI_0] at r; rw [r] at t; exact absurd t.2 (by decide))]
        · rw [bI_n0] at r
          have ee : z_exp T n (z_fr T n (z_dE T n 10 a)) = z_dE T n 10 s := by unfold z_exp; rw [← hs, if_pos ⟨(or32 (hc _)).1.mp q, r⟩]
          have hin := tX_dg ht (by decide) r
          have hg := z_dE_gt (n := n) hin r
          have hl : z_fr T n (z_dE T n 10 a) < s := by rw [hs]; unfold z_exS; split <;> omega
          have := h242 6 (Or.inr ⟨rfl, by omega⟩)
          rw [ee] at this
          exact this
      have h163 : ∀ k, (k = 5 ∧ z_fr T n (z_dE T n 10 a) = z_dE T n 10 a) ∨ (k = 6 ∧ ¬ z_fr T n (z_dE T n 10 a) = z_dE T n 10 a) → L_Mod_number_163 post (nI a) k (nI (z_fr T n (z_dE T n 10 a))) σ := by
        intro k hk
        unfold L_Mod_number_163 L_Mod_number_189
        rw [nI_1, nI_p2]
        refine q_c hT (by omega) ⟨fun q => h200 k _ ?_ hk, fun q => q_c hT (by omega) ⟨fun r => h200 k _ ?_ hk, fun r => h200 k _ ?_ hk⟩⟩
        · unfold z_exS; rw [if_pos (Or.inl q)]
        · unfold z_exS; rw [if_neg (fun t => t.elim q r)]
        · unfold z_exS; rw [if_pos (Or.inr r)]
      rw [hb]
      unfold L_Mod_number_65
      refine ⟨fun _ => q_digits hT (by decide) (by omega) (q_c hT (by omega) ⟨fun q => ?_, fun q => ?_⟩), fun q => absurd rfl q⟩
      · have ee : z_fr T n (z_dE T n 10 a) = z_dE T n 10 a := by unfold z_fr; rw [if_neg q]
        have := h163 5 (Or.inl ⟨rfl, ee⟩)
        rw [ee] at this
        exact this
      · rw [nI_1]
        have ee : z_fr T n (z_dE T n 10 a) = z_dE T n 10 (z_dE T n 10 a + 1) := by unfold z_fr; rw [if_pos q]
        have hin := tX_in ht q (by decide)
        have hl := z_dE_le (T := T) (b := 10) (show z_dE T n 10 a + 1 ≤ n by omega)
        refine q_digits hT (by decide) (by omega) ?_
        have := h163 6 (Or.inr ⟨rfl, by omega⟩)
        rw [ee] at this
        exact this
    · have hs := z_bs_le ht hb
      have hd := z_dE_le (T := T) (b := z_base T a) hs.2.1
      have h96 : L_Mod_number_96 post (nI a) (z_base T a) 5 (nI (z_bs T a)) σ := by
        refine q_digits hT (z_base_in T a) (by omega) ⟨fun q => ?_, fun q => q_bad hw ⟨vB_bI false, hb0 ?_⟩⟩
        · rw [nI_eq (by omega) (by omega)] at q
          refine h320 5 _ hd.2 (fun r => ?_) (fun r => ?_)
          · unfold z_num; rw [if_neg hb, if_neg q, if_pos r]
          · unfold z_num; rw [if_neg hb, if_neg q, if_neg (by rw [r]; decide)]
        · rw [nI_eq (by omega) (by omega)] at q
          unfold z_num; rw [if_neg hb, if_pos q]
      unfold L_Mod_number_65
      refine ⟨fun q => absurd q hb, fun _ => ?_⟩
      rw [nI_p2, nI_p3]
      refine q_c hT (by omega) ⟨fun q => ?_, fun q => ?_⟩
      · unfold z_bs at h96; rw [if_neg q] at h96; exact h96
      · unfold z_bs at h96; rw [if_pos q] at h96; exact h96
  have hz : ∀ b, z_base T a = b → L_Mod_number_65 post (nI a) b σ := fun b q => by rw [← q]; exact h65
  have ho := or32 (hc (a + 1))
  unfold wp_Mod_number
  rw [hat, nI_1]
  refine q_c hT (by omega) (q_c hT (by omega) ⟨fun h48 => ⟨fun q1 => ⟨fun q2 => ⟨fun q3 => hz 10 ?_, fun q3 => hz 2 ?_⟩, fun q2 => hz 8 ?_⟩, fun q1 => hz 16 ?_⟩, fun h48 => hz 10 ?_⟩)
  · rw [ho.2.1] at q1
    rw [ho.2.2.1] at q2
    rw [ho.2.2.2] at q3
    unfold z_base
    rw [if_pos h48, if_neg (fun r => q3 (Or.inr r)), if_neg (fun r => q2 (Or.inr r)), if_neg (fun r => q1 (Or.inr r)), if_neg (fun r => q3 (Or.inl r)), if_neg (fun r => q2 (Or.inl r)), if_neg (fun r => q1 (Or.inl r))]
  · rw [ho.2.2.2] at q3
    unfold z_base
    rw [if_pos h48]
    rcases q3 with q | q <;> rw [q] <;> decide
  · rw [ho.2.2.1] at q2
    unfold z_base
    rw [if_pos h48]
    rcases q2 with q | q <;> rw [q] <;> decide
  · rw [ho.2.1] at q1
    unfold z_base
    rw [if_pos h48]
    rcases q1 with q | q <;> rw [q] <;> decide
  · unfold z_base; rw [if_neg h48]
