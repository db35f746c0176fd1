/-! the reference's lines -/
def lnW (R : Nat ⊕ List Tk) (post : Int32 → MS → Prop) : Prop := ∀ q σ', R = .inl q → m_wrong σ' = nI q → m_fed σ' = 0 → post 0 σ'
def lnG (T : Nat → Int32) (n p0 : Nat) (R : Nat ⊕ List Tk) (post : Int32 → MS → Prop) : Prop := ∀ a' d' lv' tk' σ', p0 < a' → a' ≤ n + 1 → mB T n σ' a' d' lv' tk' → iL n d' lv' → d' ≤ a' → tk'.length + d' ≤ 2 * a' → (a' < n → R = xR T n a' a' 0 false d' lv' tk') → (n ≤ a' → R = .inr ((z_out lv' 0 n d' tk').2 ++ [(0, n, n)])) → post 1 σ'
theorem q_245 {T : Nat → Int32} {n p0 p a op d : Nat} {lv : Nat → Nat} {tk : List Tk} {R : Nat ⊕ List Tk} {post : Int32 → MS → Prop} {k217 : MS → Prop} {σ : MS} (hp : p0 ≤ a) (ha : a ≤ n) (hB : mB T n σ a d lv tk) (hL : iL n d lv) (hd : d ≤ a) (hl : tk.length + d ≤ 2 * a) (hR : R = xR T n a p op true d lv tk) (hx : a = n ∨ (T a = 10 ∧ op = 0)) (hG : lnG T n p0 R post) : L_Mod_line_245 post k217 σ := by
  have hn := hB.1.1
  have ht := mTx_t hB.1
  unfold L_Mod_line_245
  rw [hB.2.1]
  refine q_addM hB (by omega) (fun σ1 hB1 _ s hs => ?_)
  rw [hB1.2.1, nI_1] at hs
  subst hs
  refine hG (a + 1) d lv _ _ (by omega) (by omega) (mB_at hB1) hL (by omega) (by rw [List.length_append, List.length_singleton]; omega) (fun q => ?_) (fun q => ?_)
  · rcases hx with r | ⟨r, rfl⟩
    · omega
    · rw [hR, xR_nl ht r]; rfl
  · rcases hx with r | ⟨r, rfl⟩
    · rw [hR, xR_end (by omega), r]; rfl
    · rw [hR, xR_nl ht r, xR_end q]; rfl
theorem q_217 {T : Nat → Int32} {n p0 p : Nat} {R : Nat ⊕ List Tk} {post : Int32 → MS → Prop} (hW : lnW R post) (hG : lnG T n p0 R post) : ∀ (f : Nat) (σ : MS) (a op d : Nat) (lv : Nat → Nat) (tk : List Tk), n ≤ a + f → a ≤ n → p0 ≤ a → mB T n σ a d lv tk → m_depth σ = nI op → op ≤ a → iL n d lv → d ≤ a → tk.length + d ≤ 2 * a → R = xR T n a p op true d lv tk → L_Mod_line_217 post (f + 1) σ := by
  intro f
  induction f with
  | zero =>
    intro σ a op d lv tk hf ha hp hB hdp hop hL hd hl hR
    have hn := hB.1.1
    unfold L_Mod_line_217
    refine ⟨n + 1, q_between (p := p) (op := op) (lht := true) (by omega) n σ a (by omega) ha hB hdp (fun a' σ' k1 k2 k3 k4 k5 k6 => ?_)⟩
    rw [k3.1.2.1, k3.2.1]
    refine ⟨fun _ => q_245 (p := p) (op := op) (by omega) k2 k3 hL (by omega) (by omega) (hR.trans k5) (Or.inl (by omega)) hG, fun q => absurd (nI_le (by omega) (by omega)) q⟩
  | succ f ih =>
    intro σ a op d lv tk hf ha hp hB hdp hop hL hd hl hR
    have hn := hB.1.1
    unfold L_Mod_line_217
    refine ⟨n + 1, q_between (p := p) (op := op) (lht := true) (by omega) n σ a (by omega) ha hB hdp (fun a' σ' k1 k2 k3 k4 k5 k6 => ?_)⟩
    have ht := mTx_t k3.1
    rw [k3.1.2.1, k3.2.1]
    refine ⟨fun q => ?_, fun q => ?_⟩
    · rw [nI_leI (by omega) (by omega)] at q
      exact q_245 (p := p) (op := op) (by omega) k2 k3 hL (by omega) (by omega) (hR.trans k5) (Or.inl (by omega)) hG
    · rw [nI_leI (by omega) (by omega)] at q
      have k7 := k6 (by omega)
      refine q_c k3.1 (by omega) ⟨fun r => ?_, fun r => q_245 (p := p) (op := op) (by omega) k2 k3 hL (by omega) (by omega) (hR.trans k5) (Or.inr ⟨r, k7.2.2.1 r⟩) hG⟩
      have htok : atTok T a' := ⟨k7.1, k7.2.1, r, k7.2.2.2⟩
      refine q_token (n := n) (d := op) k3.1 (by omega) (by omega) k3.2.1 k4 k3.2.2.2.2.1 (fun z x => ⟨fun t => absurd rfl t, fun _ => ?_⟩) (fun k e z => ?_)
      · exact hW a' _ ((hR.trans k5).trans (xR_tok0 ht (by omega) htok z)) rfl k3.2.2.2.2.2.1
      · have he := z_tok_le ht (by omega) z
        have hdep : z_dep (T a') op ≤ op + 1 := by unfold z_dep; split; omega; split <;> omega
        refine q_addM (T := T) (n := n) (a := e) (d := d) (lv := lv) (tk := tk) (σ := m_at' (m_depth' σ' (nI (z_dep (T a') op))) (nI e)) ⟨k3.1, rfl, k3.2.2.1, k3.2.2.2.1, k3.2.2.2.2.1, k3.2.2.2.2.2.1, k3.2.2.2.2.2.2.1, k3.2.2.2.2.2.2.2⟩ (by omega) (fun σ2 hB2 hd2 => ⟨vB_bI true, fun _ => ?_, fun t => absurd t (by decide)⟩)
        exact ih σ2 e (z_dep (T a') op) d lv _ (by omega) he.2.1 (by omega) hB2 (hd2.trans rfl) (by omega) hL (by omega) (by rw [List.length_append, List.length_singleton]; omega) ((hR.trans k5).trans (xR_tok1 ht (by omega) htok z))
theorem q_150 {T : Nat → Int32} {n a : Nat} {lv : Nat → Nat} {lin : Nat} {post : Int32 → MS → Prop} (hlin : lin ≤ n) : ∀ (d : Nat) (tk : List Tk) (σ : MS), mB T n σ a d lv tk → iL n d lv → d ≤ n → tk.length + d ≤ 8200 → (lv (z_out lv lin a d tk).1 = lin → ∀ σ', mB T n σ' a (z_out lv lin a d tk).1 lv (z_out lv lin a d tk).2 → ∃ m, L_Mod_line_217 post m (m_depth' σ' 0)) → (¬ lv (z_out lv lin a d tk).1 = lin → ∀ σ', mB T n σ' a (z_out lv lin a d tk).1 lv (z_out lv lin a d tk).2 → post 0 (m_wrong' σ' (nI a))) → L_Mod_line_150 post (d + 1) (nI lin) σ := by
  intro d
  induction d with
  | zero =>
    intro tk σ hB hL hd hl h1 h2
    have hn := hB.1.1
    unfold L_Mod_line_150
    rw [hB.2.2.1, nI_clamp (by omega), hB.2.2.2.1 0 (Nat.le_refl _), hL.1]
    refine ⟨vp_in_nI (by omega) (by omega), fun _ => ⟨vp_in_nI (by omega) (by omega), fun q s hs => ?_, fun q => ?_⟩, fun q => absurd (nI_le (by omega) (by omega)) q⟩
    · rw [nI_eq (by omega) (by omega)] at q
      subst hs
      exact h1 (by show lv 0 = lin; rw [hL.1]; exact q.symm) σ hB
    · rw [nI_eq (by omega) (by omega)] at q
      rw [hB.2.1]
      exact q_bad hB.2.2.2.2.1 ⟨vB_bI false, h2 (by show ¬ lv 0 = lin; rw [hL.1]; exact fun t => q t.symm) σ hB⟩
  | succ d ih =>
    intro tk σ hB hL hd hl h1 h2
    have hn := hB.1.1
    have hv := hL.2 (d + 1) (Nat.le_refl _)
    unfold L_Mod_line_150
    rw [hB.2.2.1, nI_clamp (by omega), hB.2.2.2.1 (d + 1) (Nat.le_refl _)]
    rw [z_out] at h1 h2
    refine ⟨vp_in_nI (by omega) (by omega), fun r => ⟨vp_in_nI (by omega) (by omega), fun q s hs => ?_, fun q => ?_⟩, fun r s hs => ?_⟩
    · rw [nI_leI (by omega) (by omega)] at r
      rw [nI_eq (by omega) (by omega)] at q
      rw [if_pos r] at h1
      subst hs
      exact h1 q.symm σ hB
    · rw [nI_leI (by omega) (by omega)] at r
      rw [nI_eq (by omega) (by omega)] at q
      rw [if_pos r] at h2
      rw [hB.2.1]
      exact q_bad hB.2.2.2.2.1 ⟨vB_bI false, h2 (fun t => q t.symm) σ hB⟩
    · rw [nI_leI (by omega) (by omega)] at r
      rw [if_neg r] at h1 h2
      rw [nI_pred] at hs
      have hB2 : mB T n s a d lv tk := by
        subst hs
        exact ⟨hB.1, hB.2.1, rfl, fun i hi => hB.2.2.2.1 i (by omega), hB.2.2.2.2.1, hB.2.2.2.2.2.1, hB.2.2.2.2.2.2.1, hB.2.2.2.2.2.2.2⟩
      rw [hB2.2.1]
      refine q_addM hB2 (by omega) (fun σ2 hB3 _ => ?_)
      exact ih (tk ++ [(3, a, a)]) σ2 hB3 ⟨hL.1, fun i hi => hL.2 i (by omega)⟩ (by omega) (by rw [List.length_append, List.length_singleton]; omega) h1 h2
theorem q_52 {T : Nat → Int32} {n p a d : Nat} {lv : Nat → Nat} {tk : List Tk} {R : Nat ⊕ List Tk} {post : Int32 → MS → Prop} {σ : MS} (hW : lnW R post) (hG : lnG T n p R post) (hpn : p < n) (hp : p ≤ a) (ha : a ≤ n) (hB : mB T n σ a d lv tk) (hL : iL n d lv) (hd : d ≤ p) (hl : tk.length + d ≤ 2 * p) (hR : R = xR T n a p 0 false d lv tk) (hF : a < n → T a = 10 ∨ atTok T a) : L_Mod_line_52 post (nI (z_bl T n p)) σ := by
  have hn := hB.1.1
  have ht := mTx_t hB.1
  have hb := z_bl_le (T := T) (show p ≤ n by omega)
  have hv := hL.2 d (Nat.le_refl _)
  unfold L_Mod_line_52
  rw [hB.1.2.1, hB.2.1]
  refine ⟨fun q => ?_, fun q => ?_⟩
  · rw [nI_ltI (by omega) (by omega)] at q
    refine q_c hB.1 (by omega) ⟨fun r => ?_, fun r s hs => ?_⟩
    · have htok : atTok T a := (hF q).elim (fun t => absurd t r) id
      have hba := z_bl_at (n := n) hp htok.1
      have hend : ∀ d' lv' tk', z_set T n a p d lv tk = some (d', lv', tk') → iL n d' lv' → d' ≤ a → tk'.length + d' ≤ 2 * a → ∀ σ', mB T n σ' a d' lv' tk' → ∃ m, L_Mod_line_217 post m (m_depth' σ' 0) := by
        intro d' lv' tk' hz hL' hd' hl' σ' hB'
        refine ⟨n + 1, q_217 (p := p) hW hG n (m_depth' σ' 0) a 0 d' lv' tk' (by omega) (by omega) hp ⟨hB'.1, hB'.2.1, hB'.2.2.1, hB'.2.2.2.1, hB'.2.2.2.2.1, hB'.2.2.2.2.2.1, hB'.2.2.2.2.2.2.1, hB'.2.2.2.2.2.2.2⟩ rfl (by omega) hL' hd' hl' ?_⟩
        rw [hR]
        exact xR_set1 ht q htok hz
      rw [hB.2.2.1, nI_clamp (by omega), hB.2.2.2.1 d (Nat.le_refl _)]
      refine ⟨vp_in_nI (by omega) (by omega), fun t => ⟨d + 1, ?_⟩, fun t => ⟨fun u s hs => ?_, fun u => ?_⟩⟩
      · rw [nI_leI (by omega) (by omega)] at t
        have hi := z_out_inv lv (z_bl T n p) a d tk
        refine q_150 (by omega) d tk σ hB hL (by omega) (by omega) (fun z => hend _ _ _ ?_ ⟨hL.1, fun i hi' => hL.2 i (by omega)⟩ (by omega) (by omega)) (fun z σ' hB' => hW a _ ?_ rfl hB'.2.2.2.2.2.1)
        · unfold z_set; rw [if_pos t, if_pos z]
        · rw [hR]
          refine xR_set0 ht q htok ?_
          unfold z_set; rw [if_pos t, if_neg z]
      · rw [nI_leI (by omega) (by omega)] at t
        rw [nI_1] at hs ⊢
        refine ⟨vp_in_nI (by omega) (by omega), fun s2 hs2 => ?_⟩
        rw [nI_clamp (by omega)] at hs2
        have hz : z_set T n a p d lv tk = some (d + 1, nupd lv (d + 1) (z_bl T n p), tk ++ [(2, a, a)]) := by
          unfold z_set
          rw [if_neg t, if_neg]
          intro w
          rw [hB.2.2.2.2.2.2.2.1, w] at u
          exact u rfl
        have hB2 : mB T n s2 a (d + 1) (nupd lv (d + 1) (z_bl T n p)) tk := by
          subst hs2
          subst hs
          refine ⟨hB.1, hB.2.1, rfl, fun i hi => ?_, hB.2.2.2.2.1, hB.2.2.2.2.2.1, hB.2.2.2.2.2.2.1, hB.2.2.2.2.2.2.2⟩
          show upd (m_ins σ) (d + 1) (nI (z_bl T n p)) i = _
          unfold upd nupd
          by_cases w : i = d + 1
          · rw [if_pos w, if_pos w]
          · rw [if_neg w, if_neg w]; exact hB.2.2.2.1 i (by omega)
        have hL2 : iL n (d + 1) (nupd lv (d + 1) (z_bl T n p)) := by
          refine ⟨?_, fun i hi => ?_⟩
          · unfold nupd; rw [if_neg (by omega)]; exact hL.1
          · unfold nupd
            split
            · omega
            · exact hL.2 i (by omega)
        have e1 : nupd lv (d + 1) (z_bl T n p) (d + 1) = z_bl T n p := by unfold nupd; rw [if_pos rfl]
        have e2 : z_out (nupd lv (d + 1) (z_bl T n p)) (z_bl T n p) a (d + 1) (tk ++ [(2, a, a)]) = (d + 1, tk ++ [(2, a, a)]) := by rw [z_out, if_pos (by rw [e1]; exact Nat.le_refl _)]
        rw [hB2.2.1]
        refine q_addM hB2 (by omega) (fun σ3 hB3 _ => ⟨d + 1 + 1, q_150 (by omega) (d + 1) _ σ3 hB3 hL2 (by omega) (by rw [List.length_append, List.length_singleton]; omega) (fun _ => ?_) (fun z => ?_)⟩)
        · rw [e2]
          exact hend _ _ _ hz hL2 (by omega) (by rw [List.length_append, List.length_singleton]; omega)
        · rw [e2] at z
          exact absurd e1 z
      · rw [nI_leI (by omega) (by omega)] at t
        rw [hB.2.1]
        refine q_bad hB.2.2.2.2.1 ⟨vB_bI false, hW a _ ?_ rfl hB.2.2.2.2.2.1⟩
        rw [hR]
        refine xR_set0 ht q htok ?_
        unfold z_set
        rw [if_neg t, if_pos]
        rw [hB.2.2.2.2.2.2.2.1, show (0 : Int32) = nI 0 from rfl, nI_eq (by omega) (by omega)] at u
        exact u
    · rw [hB.2.1, nI_1] at hs
      subst hs
      refine hG (a + 1) d lv tk _ (by omega) (by omega) (mB_at hB) hL (by omega) (by omega) (fun _ => ?_) (fun w => ?_)
      · rw [hR, xR_nl ht r]; rfl
      · rw [hR, xR_nl ht r, xR_end w]; rfl
  · rw [nI_ltI (by omega) (by omega)] at q
    refine hG a d lv tk σ (by omega) (by omega) hB hL (by omega) (by omega) (fun w => absurd w q) (fun w => ?_)
    rw [hR, xR_end w]; rfl
theorem q_line_l {T : Nat → Int32} {n p d : Nat} {lv : Nat → Nat} {tk : List Tk} {R : Nat ⊕ List Tk} {post : Int32 → MS → Prop} (hW : lnW R post) (hG : lnG T n p R post) (hpn : p < n) (hL : iL n d lv) (hd : d ≤ p) (hl : tk.length + d ≤ 2 * p) : ∀ (f : Nat) (σ : MS) (a : Nat), a + f = n → p ≤ a → mB T n σ a d lv tk → z_run (fun j => decide (T j = 32)) (n - p) p = z_run (fun j => decide (T j = 32)) f a → R = xR T n a p 0 false d lv tk → L_Mod_line_2 post (f + 1) (nI (a - p)) σ := by
  have rest : ∀ (σ : MS) (a : Nat), p ≤ a → a ≤ n → mB T n σ a d lv tk → z_bl T n p = a - p → R = xR T n a p 0 false d lv tk → wp_Mod_joined σ (fun σ3 => wp_Mod_c (m_at σ3) σ3 (fun r4 σ5 => ((¬ r4 = 35 → L_Mod_line_52 post (nI (a - p)) σ5) ∧ (r4 = 35 → wp_Mod_comment σ5 (fun σ6 => L_Mod_line_52 post (nI (a - p)) σ6))))) := by
    intro σ a hp ha hB hz hR
    have hn := hB.1.1
    have ht := mTx_t hB.1
    refine ⟨n + 1, q_joined (p := p) (op := 0) (lht := false) n σ a (by omega) ha hB (fun a1 σ1 j1 j2 j3 j4 j5 j6 j7 => ?_)⟩
    rw [j3.2.1, ← hz]
    refine q_c j3.1 (by omega) ⟨fun q => q_52 hW hG hpn (by omega) j2 j3 hL hd hl (hR.trans j5) (fun _ => ?_), fun q => ?_⟩
    · by_cases w : T a1 = 10
      · exact Or.inl w
      · exact Or.inr ⟨j6, q, w, j7⟩
    · have hlf := z_lf_le (T := T) (show a1 ≤ n by omega)
      refine q_comment j2 j3 (fun σ2 i3 _ => q_52 hW hG hpn (by omega) hlf.2 i3 hL hd hl ((hR.trans j5).trans (xR_35 ht q)) (fun w => Or.inl (z_lf_10 j2 w)))
  intro f
  induction f with
  | zero =>
    intro σ a hf hp hB hz hR
    have hn := hB.1.1
    have e1 : T a = -1 := hB.1.2.2.1 a (by omega)
    unfold L_Mod_line_2
    rw [hB.2.1]
    refine q_c hB.1 (by omega) ⟨fun _ => rest σ a hp (by omega) hB ?_ hR, fun q => absurd (e1.symm.trans q) (by decide)⟩
    unfold z_bl
    rw [hz]
    rfl
  | succ f ih =>
    intro σ a hf hp hB hz hR
    have hn := hB.1.1
    have ht := mTx_t hB.1
    unfold L_Mod_line_2
    rw [hB.2.1]
    refine q_c hB.1 (by omega) ⟨fun q => rest σ a hp (by omega) hB ?_ hR, fun q s hs => ?_⟩
    · unfold z_bl
      rw [hz, z_run_f (by simp [q])]
    · rw [hB.2.1, nI_1] at hs
      subst hs
      rw [nI_1, show a - p + 1 = a + 1 - p by omega]
      refine ih _ (a + 1) (by omega) (by omega) (mB_at hB) ?_ (hR.trans (xR_32 ht q))
      rw [hz, z_run_t (by simp [q])]
theorem q_line {T : Nat → Int32} {n p d : Nat} {lv : Nat → Nat} {tk : List Tk} {R : Nat ⊕ List Tk} {post : Int32 → MS → Prop} {σ : MS} (hW : lnW R post) (hG : lnG T n p R post) (hpn : p < n) (hL : iL n d lv) (hd : d ≤ p) (hl : tk.length + d ≤ 2 * p) (hB : mB T n σ p d lv tk) (hR : R = xR T n p p 0 false d lv tk) : wp_Mod_line σ post := by
  have := q_line_l hW hG hpn hL hd hl (n - p) σ p (by omega) (Nat.le_refl _) hB rfl hR
  rw [Nat.sub_self] at this
  exact ⟨n - p + 1, this⟩
