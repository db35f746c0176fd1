/-! the class's loop -/
theorem p_endLine {σ : KS} {T : Nat → Int32} {n a p op : Nat} {lht : Bool} {d : Nat} {lv : Nat → Nat} {tk : List Tk} {post : KS → Prop} (hC : kC T n σ a p op lht d lv tk) (ha : a ≤ n) (hl : tk.length < 5463) (h : ∀ σ', kC T n σ' a p op lht d lv (z_eol a lht tk) → post σ') : wp_Reader_endLine σ post := by
  have h6 := hC.2.2.2.2.2.1
  unfold wp_Reader_endLine
  rw [h6]
  cases lht with
  | false => exact ⟨fun _ => h σ hC, fun q => absurd rfl q⟩
  | true => exact ⟨fun q => absurd q (by decide), fun _ => p_addC (m := 1) hC ha hl (by omega) rfl h⟩
theorem p_end {σ : KS} {T : Nat → Int32} {n p op : Nat} {lht : Bool} {d : Nat} {lv : Nat → Nat} {tk : List Tk} {post : KS → Prop} (hC : kC T n σ n p op lht d lv tk) (hV : iV n n p op lht d lv tk) (h : ∀ σ', kTk T n σ' (z_fin n lht d lv tk) → post σ') : wp_Reader_end σ post := by
  have hn := hC.1.1
  obtain ⟨v1, v2, v3, v4, v5, v6⟩ := hV
  have hd : d * (d + 1) ≤ 8192 ∧ tk.length + d ≤ 5461 := by
    cases lht with
    | false => have := v5 rfl; omega
    | true => have := v6 rfl; omega
  have hd9 := sq_90 hd.1
  have hel : (z_eol n lht tk).length ≤ tk.length + 1 := by
    unfold z_eol
    split
    · rw [List.length_append, List.length_singleton]; omega
    · omega
  refine p_endLine hC (Nat.le_refl _) (by omega) (fun σ1 hC1 => ⟨d + 1, p_comeOut_l (lin := 0) hn (Nat.le_refl _) (by omega) d _ σ1 hC1 v4 (by omega) (by omega) (fun σ2 hC2 => ?_)⟩)
  have hi := z_out_inv lv 0 n d (z_eol n lht tk)
  exact p_addC (m := 0) hC2 (Nat.le_refl _) (by omega) (by omega) rfl (fun σ3 hC3 => h σ3 hC3.2.2.2.2.2.2.2.2)
theorem xF_end {T : Nat → Int32} {n f a p op : Nat} {lht : Bool} {d : Nat} {lv : Nat → Nat} {tk : List Tk} (h : n ≤ a) : xF T n f a p op lht d lv tk = .inr (z_fin n lht d lv tk) := by
  cases f with
  | zero => rfl
  | succ f => show xB T n _ _ _ _ _ _ _ _ = _; unfold xB; rw [if_pos h]
theorem p_newline {σ : KS} {T : Nat → Int32} {n a p : Nat} {lht : Bool} {d : Nat} {lv : Nat → Nat} {tk : List Tk} {post : KS → Prop} (hC : kC T n σ a p 0 lht d lv tk) (ha : a < n) (h10 : T a = 10) (hl : tk.length < 5463) (h : ∀ σ', kC T n σ' (a + 1) (a + 1) 0 false d lv (z_eol a lht tk) → post σ') : wp_Reader_passLineFeed σ post := by
  unfold wp_Reader_passLineFeed
  rw [hC.2.2.2.1]
  refine ⟨fun _ => p_endLine hC (by omega) hl (fun σ1 hC1 => ?_), fun q => absurd (by decide) q⟩
  obtain ⟨g1, g2, g3, g4, g5, g6, g7, g8, g9⟩ := hC1
  rw [g2, nI_1]
  intro s1 e1 s2 e2
  have t1 : kTx s2 T n := by subst e2; subst e1; exact g1
  refine p_blanksFrom t1 (by omega) (fun s5 e5 s6 e6 s7 e7 => ?_)
  have q1 : k_line s6 = nI (1 + z_cnt T a 0) := by subst e6; subst e5; subst e2; subst e1; exact g3
  rw [q1, nI_1, show 1 + z_cnt T a 0 + 1 = 1 + z_cnt T (a + 1) 0 by rw [z_cnt_s, if_pos h10]; omega] at e7
  refine h s7 ?_
  subst e7
  subst e6
  subst e5
  subst e2
  subst e1
  exact ⟨g1, rfl, rfl, rfl, rfl, rfl, g7, g8, g9⟩
theorem p_loop {T : Nat → Int32} {n : Nat} {post : Int32 → KS → Prop} : ∀ (f : Nat) (σ : KS) (a p op : Nat) (lht : Bool) (d : Nat) (lv : Nat → Nat) (tk : List Tk) (s : Nat), n ≤ a + f → s ≤ a → iV n a p op lht d lv tk → kC T n σ a p op lht d lv tk → (∀ q, xF T n f a p op lht d lv tk = .inl q → ∀ σ', post (nI q) σ') → (∀ tk', xF T n f a p op lht d lv tk = .inr tk' → ∀ σ', kTk T n σ' tk' → post (-1) σ') → L_Reader_readText_21 post (f + 1) (nI s) σ := by
  intro f
  induction f with
  | zero =>
    intro σ a p op lht d lv tk s hf hs hV hC hw hr
    have hn := hC.1.1
    have ha : a = n := by have := hV.1; omega
    subst ha
    have fin : L_Reader_readText_169 post σ := p_end hC hV (fun σ' h => hr _ rfl σ' h)
    unfold L_Reader_readText_21 wp_Text_size
    refine ⟨fun _ => fin, fun _ => ⟨fun _ => fin, fun q => ?_⟩⟩
    rw [hC.1.2.1, hC.2.1] at q
    exact absurd (nI_le (Nat.le_refl _) (by omega)) q
  | succ f ih =>
    intro σ a p op lht d lv tk s hf hs hV hC hw hr
    have hn := hC.1.1
    have ht := kTx_t hC.1
    have fin : n ≤ a → L_Reader_readText_169 post σ := by
      intro q
      have ha : a = n := by have := hV.1; omega
      subst ha
      exact p_end hC hV (fun σ' h => hr _ (xF_end (Nat.le_refl _)) σ' h)
    have hV' := hV
    obtain ⟨v1, v2, v3, v4, v5, v6⟩ := hV
    have hC' := hC
    obtain ⟨g1, g2, g3, g4, g5, g6, g7, g8, g9⟩ := hC
    unfold L_Reader_readText_21 wp_Text_size
    rw [g1.2.1]
    refine ⟨fun q => fin ?_, fun _ => ?_⟩
    · rw [nI_leI (by omega) (by omega)] at q; omega
    rw [g1.2.1, g2]
    refine ⟨fun q => fin ((nI_leI (by omega) (by omega)).mp q), fun q => ?_⟩
    rw [nI_leI (by omega) (by omega)] at q
    have hbody : xF T n (f + 1) a p op lht d lv tk = xB T n (xF T n f) a p op lht d lv tk := rfl
    rw [hbody] at hw hr
    unfold xB at hw hr
    rw [if_neg q] at hw hr
    have hl : tk.length < 5463 ∧ 3 * (tk.length + d) ≤ 4 * a + 1 ∧ d * (d + 1) ≤ 2 * a := by
      cases lht with
      | false => have := v5 rfl; omega
      | true => have := v6 rfl; omega
    have go : ∀ (σ' : KS) (a' p' op' : Nat) (lht' : Bool) (d' : Nat) (lv' : Nat → Nat) (tk' : List Tk), a < a' → iV n a' p' op' lht' d' lv' tk' → kC T n σ' a' p' op' lht' d' lv' tk' → (∀ q, xF T n f a' p' op' lht' d' lv' tk' = .inl q → ∀ σ', post (nI q) σ') → (∀ tk2, xF T n f a' p' op' lht' d' lv' tk' = .inr tk2 → ∀ σ', kTk T n σ' tk2 → post (-1) σ') → L_Reader_readText_163 post (fun x2 σ => L_Reader_readText_21 post (f + 1) x2 σ) (nI s) σ' := by
      intro σ' a' p' op' lht' d' lv' tk' h1 h2 h3 h4 h5
      show L_Reader_readText_21 post (f + 1) (nI s + 1) σ'
      rw [nI_1]
      exact ih σ' a' p' op' lht' d' lv' tk' (s + 1) (by omega) (by omega) h2 h3 h4 h5
    have iS : ∀ a', a < a' → a' ≤ n → iV n a' p op lht d lv tk := fun a' h1 h2 => ⟨h2, by omega, by omega, v4, v5, fun r => by have := v6 r; omega⟩
    rw [g2]
    refine p_let g1 (by omega) ⟨fun c1 => ⟨fun c2 => ⟨fun c3 => ?_, fun c3 => ?_⟩, fun c2 => ?_⟩, fun c1 => ?_⟩
    · rw [if_neg c1, if_neg c2, if_neg c3] at hw hr
      rw [g2]
      refine p_joins g1 (by omega) ?_
      by_cases c4 : T a = 92 ∧ T (a + 1) = 10
      · rw [if_pos c4] at hw hr ⊢
        have hin := tX_in ht c4.2 (by decide)
        refine ⟨fun r => absurd r (by decide), fun _ s14 e14 s15 e15 => ?_⟩
        rw [g2, nI_p2] at e14
        have q1 : k_line s14 = nI (1 + z_cnt T a 0) := by subst e14; exact g3
        rw [q1, nI_1, show 1 + z_cnt T a 0 + 1 = 1 + z_cnt T (a + 2) 0 by rw [show a + 2 = a + 1 + 1 by omega, z_cnt_s, z_cnt_s, if_neg c3, if_pos c4.2]; omega] at e15
        refine go s15 (a + 2) p op lht d lv tk (by omega) (iS _ (by omega) (by omega)) ?_ hw hr
        subst e15
        subst e14
        exact ⟨g1, rfl, rfl, g4, g5, g6, g7, g8, g9⟩
      · rw [if_neg c4] at hw hr ⊢
        refine ⟨fun _ => ?_, fun r => absurd rfl r⟩
        have tok : ∀ (σ1 : KS) (d' : Nat) (lv' : Nat → Nat) (tk' : List Tk) (b : Bool), kC T n σ1 a p op b d' lv' tk' → (if lht = true then some (d, lv, tk) else z_set T n a p d lv tk) = some (d', lv', tk') → iL n d' lv' → d' * (d' + 1) ≤ 2 * a → 3 * (tk'.length + d') ≤ 4 * a + 2 → L_Reader_passToken_16 (fun r12 σ13 => ((¬ r12 = 0 → L_Reader_readText_163 post (fun x2 σ => L_Reader_readText_21 post (f + 1) x2 σ) (nI s) σ13) ∧ (r12 = 0 → post (k_at σ13) σ13))) σ1 := by
          intro σ1 d' lv' tk' b hC1 hz hL hd hlen
          rw [hz] at hw hr
          obtain ⟨m1, m2, m3, m4, m5, m6, m7, m8, m9⟩ := hC1
          refine p_tok m1 (by omega) m2 (fun r => ⟨fun t => absurd rfl t, fun _ => ?_⟩) (fun k e r => ?_)
          · rw [show k_at (k_lht' σ1 1) = nI a from m2]
            exact hw a (by rw [r]) _
          · have he := z_tok_le ht (by omega) r
            refine p_take (σ := k_lht' σ1 1) (T := T) (n := n) (a := a) (p := p) (op := op) (lht := true) (d := d') (lv := lv') (tk := tk') ⟨m1, m2, m3, m4, m5, rfl, m7, m8, m9⟩ (by omega) ⟨he.1, he.2.1⟩ he.2.2 (by omega) v3 (fun σ2 hC2 => ⟨vB_bI true, fun _ => ?_, fun t => absurd t (by decide)⟩)
            have hdep : z_dep (T a) op ≤ op + 1 := by unfold z_dep; split; omega; split <;> omega
            refine go σ2 e p _ true d' lv' _ he.1 ⟨he.2.1, by omega, by omega, hL, fun t => (by cases t), fun _ => ⟨by omega, by rw [List.length_append, List.length_singleton]; omega⟩⟩ hC2 (fun q hq => hw q (by rw [r]; exact hq)) (fun tk2 hq => hr tk2 (by rw [r]; exact hq))
        unfold wp_Reader_passToken
        rw [g6]
        cases lht with
        | true => exact ⟨fun _ => tok σ d lv tk true hC' (if_pos rfl) v4 hl.2.2 (by omega), fun r => absurd r (by decide)⟩
        | false =>
          have w5 := v5 rfl
          refine ⟨fun r => absurd rfl r, fun _ => p_settle hC' hn (by omega) (by omega) v4 w5.1 w5.2 (fun r σ' hat => ?_) (fun d' lv' tk' r σ' hC2 => ?_)⟩
          · refine ⟨fun t => absurd rfl t, fun _ => ⟨fun t => absurd rfl t, fun _ => ?_⟩⟩
            rw [hat]
            exact hw a (by rw [if_neg (by decide), r]) σ'
          · have hi := z_set_inv (by omega) v2 c1 v4 w5.1 w5.2 r
            exact ⟨fun _ => tok σ' d' lv' tk' false hC2 (by rw [if_neg (by decide)]; exact r) hi.1 hi.2.1 hi.2.2, fun t => absurd t (by decide)⟩
    · rw [if_neg c1, if_neg c2, if_pos c3] at hw hr
      by_cases c4 : op = 0
      · rw [if_pos c4] at hw hr
        subst c4
        refine p_newline hC' (by omega) c3 hl.1 (fun σ' hC2 => ?_)
        refine go σ' (a + 1) (a + 1) 0 false d lv _ (by omega) ⟨by omega, Nat.le_refl _, by omega, v4, fun _ => ⟨by omega, ?_⟩, fun t => (by cases t)⟩ hC2 hw hr
        unfold z_eol
        cases lht with
        | false => have := v5 rfl; rw [if_neg (by decide)]; omega
        | true => rw [if_pos rfl, List.length_append, List.length_singleton]; omega
      · rw [if_neg c4] at hw hr
        unfold wp_Reader_passLineFeed
        rw [g4, g2, nI_1]
        refine ⟨fun r => ?_, fun _ s3 e3 s4 e4 => ?_⟩
        · rw [show (0 : Int32) = nI 0 from rfl, nI_leI (by omega) (by omega)] at r; omega
        · have q1 : k_line s3 = nI (1 + z_cnt T a 0) := by subst e3; exact g3
          rw [q1, nI_1, show 1 + z_cnt T a 0 + 1 = 1 + z_cnt T (a + 1) 0 by rw [z_cnt_s, if_pos c3]; omega] at e4
          refine go s4 (a + 1) p op lht d lv tk (by omega) (iS _ (by omega) (by omega)) ?_ hw hr
          subst e4
          subst e3
          exact ⟨g1, rfl, rfl, g4, g5, g6, g7, g8, g9⟩
    · rw [if_neg c1, if_pos c2] at hw hr
      have hlf := z_lf_le (T := T) (show a ≤ n by omega)
      have hgt := z_lf_gt (T := T) (show a < n by omega) (by rw [c2]; decide)
      rw [g2]
      refine p_lineFeedFrom g1 (by omega) (fun s19 e19 => ?_)
      refine go s19 (z_lf T n a) p op lht d lv tk hgt (iS _ hgt hlf.2) ?_ hw hr
      subst e19
      exact ⟨g1, rfl, by rw [z_cnt_lf (show a ≤ n by omega)]; exact g3, g4, g5, g6, g7, g8, g9⟩
    · rw [if_pos c1] at hw hr
      intro s20 e20
      rw [g2, nI_1] at e20
      refine go s20 (a + 1) p op lht d lv tk (by omega) (iS _ (by omega) (by omega)) ?_ hw hr
      subst e20
      exact ⟨g1, rfl, by rw [z_cnt_s, if_neg (by rw [c1]; decide)]; exact g3, g4, g5, g6, g7, g8, g9⟩
