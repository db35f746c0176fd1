/-! the class's Text over a text T of n letters -/
theorem nI_p2 (a : Nat) : nI a + 2 = nI (a + 2) := nI_add a 2
theorem nI_p3 (a : Nat) : nI a + 3 = nI (a + 3) := nI_add a 3
def oct (w : Nat → Int32) (k : Nat) : Int32 := (((w (k / 4)).toUInt32 >>> ((24 - 8 * (nI k &&& 3)).toUInt32 &&& Int32.toUInt32 31)).toInt32) &&& 255
def zT (w : Nat → Int32) (n : Nat) : Nat → Int32 := fun k => if k < n then oct w k else -1
def kTx (σ : KS) (T : Nat → Int32) (n : Nat) : Prop := n ≤ 4096 ∧ k_len σ = nI n ∧ T = zT (k_w σ) n
theorem zT_out {w : Nat → Int32} {n k : Nat} (h : n ≤ k) : zT w n k = -1 := if_neg (by omega)
theorem zT_in {w : Nat → Int32} {n k : Nat} (h : k < n) : ∃ v, v < 256 ∧ zT w n k = nI v := by
  obtain ⟨v, hv, e⟩ := pk_andE (((w (k / 4)).toUInt32 >>> ((24 - 8 * (nI k &&& 3)).toUInt32 &&& Int32.toUInt32 31)).toInt32) (m := 255) 8 (by decide)
  exact ⟨v, hv, by unfold zT; rw [if_pos h]; exact e⟩
theorem p_let {σ : KS} {T : Nat → Int32} {n k : Nat} {post : Int32 → KS → Prop} (hT : kTx σ T n) (hk : k < 2 ^ 31) (h : post (T k) σ) : wp_Text_letterAt (nI k) σ post := by
  obtain ⟨hn, hl, rfl⟩ := hT
  have e0 : nI k >>> ((2 : Int32) &&& 31) = nI (k / 4) := pk_shrN hk _ 2 (by decide)
  unfold wp_Text_letterAt
  rw [hl, e0]
  refine ⟨fun h1 => absurd h1 (nI_pos hk), fun _ => ⟨fun h1 => ?_, fun h1 => ⟨fun h2 => ⟨?_, ?_⟩, fun h2 => ?_⟩⟩⟩
  · rw [nI_leI (by omega) hk] at h1
    rw [zT_out h1] at h; exact h
  · rw [nI_leI (by omega) hk] at h1
    exact vp_in_nI (by omega) (by omega)
  · rw [nI_leI (by omega) hk] at h1
    rw [nI_clamp (by omega)]
    unfold zT at h
    rw [if_pos (by omega)] at h
    exact h
  · rw [nI_leI (by omega) hk] at h1
    exact absurd (show nI k < nI 4096 from nI_lt (by omega) (by decide)) h2
/-- how many 10s stand in f letters from k on -/
theorem p_lineFeedFrom_l {σ : KS} {T : Nat → Int32} {n : Nat} {post : Int32 → KS → Prop} (hT : kTx σ T n) : ∀ (f k : Nat), k + f = n → post (nI (z_lf T n k)) σ → L_Text_lineFeedFrom_2 post (f + 1) (nI k) σ := by
  have hn := hT.1
  intro f
  induction f with
  | zero =>
    intro k hk h
    unfold L_Text_lineFeedFrom_2
    rw [hT.2.1]
    have e : z_lf T n k = k := by unfold z_lf; rw [show n - k = 0 by omega]; rfl
    rw [e] at h
    refine ⟨fun _ => by rw [← hk]; exact h, fun h1 => absurd (nI_le (by omega) (by omega)) h1⟩
  | succ f ih =>
    intro k hk h
    unfold L_Text_lineFeedFrom_2
    rw [hT.2.1]
    have e : z_lf T n k = if T k = 10 then k else z_lf T n (k + 1) := by
      unfold z_lf
      rw [show n - k = (n - (k + 1)) + 1 by omega, z_run]
      by_cases c : T k = 10
      · rw [if_neg (by simp [c]), if_pos c]
      · rw [if_pos (by simp [c]), if_neg c]
    refine ⟨fun h1 => absurd h1 (nI_ge (by omega) (by omega)), fun _ => p_let hT (by omega) ⟨fun h2 => ?_, fun h2 => ?_⟩⟩
    · show L_Text_lineFeedFrom_2 post (f + 1) (nI k + 1) σ
      rw [nI_1]
      rw [e, if_neg h2] at h
      exact ih (k + 1) (by omega) h
    · rw [e, if_pos h2] at h
      exact h
theorem p_lineFeedFrom {σ : KS} {T : Nat → Int32} {n k : Nat} {post : Int32 → KS → Prop} (hT : kTx σ T n) (hk : k ≤ n) (h : post (nI (z_lf T n k)) σ) : wp_Text_lineFeedFrom (nI k) σ post := ⟨n - k + 1, p_lineFeedFrom_l hT (n - k) k (by omega) h⟩
theorem p_lineFeedsIn_l {σ : KS} {T : Nat → Int32} {n : Nat} {post : Int32 → KS → Prop} (hT : kTx σ T n) {e : Nat} (he : e ≤ n) : ∀ (f k c : Nat), k + f = e → post (nI (c + z_cnt T f k)) σ → L_Text_lineFeedsIn_5 post (f + 1) (nI e) (nI c) (nI k) σ := by
  have hn := hT.1
  intro f
  induction f with
  | zero =>
    intro k c hk h
    unfold L_Text_lineFeedsIn_5
    exact ⟨fun _ => h, fun h1 => absurd (nI_le (by omega) (by omega)) h1⟩
  | succ f ih =>
    intro k c hk h
    unfold L_Text_lineFeedsIn_5
    refine ⟨fun h1 => absurd h1 (nI_ge (by omega) (by omega)), fun _ => p_let hT (by omega) ⟨fun h2 => ?_, fun h2 => ?_⟩⟩
    · show L_Text_lineFeedsIn_5 post (f + 1) (nI e) (nI c) (nI k + 1) σ
      rw [nI_1]
      rw [z_cnt, if_neg h2, Nat.zero_add] at h
      exact ih (k + 1) c (by omega) h
    · show L_Text_lineFeedsIn_5 post (f + 1) (nI e) (nI c + 1) (nI k + 1) σ
      rw [nI_1, nI_1]
      rw [z_cnt, if_pos h2] at h
      exact ih (k + 1) (c + 1) (by omega) (by rw [show c + 1 + z_cnt T f (k + 1) = c + (1 + z_cnt T f (k + 1)) by omega]; exact h)
theorem p_lineFeedsIn {σ : KS} {T : Nat → Int32} {n k e : Nat} {post : Int32 → KS → Prop} (hT : kTx σ T n) (hk : k ≤ e) (he : e ≤ n) (h : post (nI (z_cnt T (e - k) k)) σ) : wp_Text_lineFeedsIn (nI k) (nI e) σ post := ⟨e - k + 1, p_lineFeedsIn_l hT he (e - k) k 0 (by omega) (by rw [Nat.zero_add]; exact h)⟩
/-- how many blanks stand from k on -/
def z_bl (T : Nat → Int32) (n k : Nat) : Nat := z_run (fun j => decide (T j = 32)) (n - k) k - k
theorem p_blanksFrom_l {σ : KS} {T : Nat → Int32} {n : Nat} {post : Int32 → KS → Prop} (hT : kTx σ T n) {k0 : Nat} : ∀ (f k : Nat), k0 ≤ k → k + f = n → post (nI (z_run (fun j => decide (T j = 32)) f k - k0)) σ → L_Text_blanksFrom_2 post (f + 1) (nI k0) (nI k) σ := by
  have hn := hT.1
  intro f
  induction f with
  | zero =>
    intro k h0 hk h
    unfold L_Text_blanksFrom_2
    rw [hT.2.1]
    rw [z_run] at h
    refine ⟨fun _ => ?_, fun h1 => absurd (nI_le (by omega) (by omega)) h1⟩
    rw [pk_sub (by omega), ← hk]
    exact h
  | succ f ih =>
    intro k h0 hk h
    unfold L_Text_blanksFrom_2
    rw [hT.2.1]
    refine ⟨fun h1 => absurd h1 (nI_ge (by omega) (by omega)), fun _ => p_let hT (by omega) ⟨fun h2 => ?_, fun h2 => ?_⟩⟩
    · show L_Text_blanksFrom_2 post (f + 1) (nI k0) (nI k + 1) σ
      rw [nI_1]
      rw [z_run, if_pos (by simp [h2])] at h
      exact ih (k + 1) (by omega) (by omega) h
    · rw [z_run, if_neg (by simp [h2])] at h
      rw [pk_sub (by omega)]
      exact h
theorem p_blanksFrom {σ : KS} {T : Nat → Int32} {n k : Nat} {post : Int32 → KS → Prop} (hT : kTx σ T n) (hk : k ≤ n) (h : post (nI (z_bl T n k)) σ) : wp_Text_blanksFrom (nI k) σ post := ⟨n - k + 1, p_blanksFrom_l hT (n - k) k (Nat.le_refl _) (by omega) h⟩
theorem p_joins {σ : KS} {T : Nat → Int32} {n k : Nat} {post : Int32 → KS → Prop} (hT : kTx σ T n) (hk : k < 2 ^ 30) (h : post (if T k = 92 ∧ T (k + 1) = 10 then 1 else 0) σ) : wp_Text_joinsLinesAt (nI k) σ post := by
  unfold wp_Text_joinsLinesAt
  rw [nI_1]
  refine p_let hT (by omega) ⟨fun h1 => ?_, fun h1 => p_let hT (by omega) ⟨fun h2 => ?_, fun h2 => ?_⟩⟩
  · rw [if_neg (by simp [h1])] at h; exact h
  · rw [if_neg (by simp [h2])] at h; exact h
  · rw [if_pos ⟨h1, h2⟩] at h; exact h
/-- an octet that no text has -/
def z_bad (c : Int32) : Bool := decide (¬ c = 10 ∧ (c < 32 ∨ ¬ c ≤ 126))
theorem p_firstBad_l {σ : KS} {T : Nat → Int32} {n : Nat} {post : Int32 → KS → Prop} (hT : kTx σ T n) : ∀ (f k : Nat), k + f = n → post (if z_run (fun j => !z_bad (T j)) f k < n then nI (z_run (fun j => !z_bad (T j)) f k) else -1) σ → L_Text_firstBadOctet_2 post (f + 1) (nI k) σ := by
  have hn := hT.1
  intro f
  induction f with
  | zero =>
    intro k hk h
    unfold L_Text_firstBadOctet_2
    rw [hT.2.1]
    rw [z_run, if_neg (by omega)] at h
    exact ⟨fun _ => h, fun h1 => absurd (nI_le (by omega) (by omega)) h1⟩
  | succ f ih =>
    intro k hk h
    unfold L_Text_firstBadOctet_2
    rw [hT.2.1]
    have good : z_bad (T k) = false → L_Text_firstBadOctet_36 post (fun x1 σ => L_Text_firstBadOctet_2 post (f + 1) x1 σ) (nI k) σ := by
      intro hb
      show L_Text_firstBadOctet_2 post (f + 1) (nI k + 1) σ
      rw [nI_1]
      rw [z_run_t (P := fun j => !z_bad (T j)) (by simp [hb])] at h
      exact ih (k + 1) (by omega) h
    have bad : z_bad (T k) = true → post (nI k) σ := by
      intro hb
      rw [z_run_f (P := fun j => !z_bad (T j)) (by simp [hb]), if_pos (by omega)] at h
      exact h
    refine ⟨fun h1 => absurd h1 (nI_ge (by omega) (by omega)), fun _ => p_let hT (by omega) ⟨fun h2 => good (by simp [z_bad, h2]), fun h2 => ⟨fun h3 => bad (by simp [z_bad, h2, h3]), fun h3 => ⟨fun h4 => good ?_, fun h4 => bad (by simp only [z_bad, h2, h3, h4]; decide)⟩⟩⟩⟩
    have e : ¬ (¬ T k = 10 ∧ (T k < 32 ∨ ¬ T k ≤ 126)) := fun q => q.2.elim h3 (fun z => z h4)
    unfold z_bad
    exact decide_eq_false e
theorem p_firstBad {σ : KS} {T : Nat → Int32} {n : Nat} {post : Int32 → KS → Prop} (hT : kTx σ T n) (h : post (if z_run (fun j => !z_bad (T j)) n 0 < n then nI (z_run (fun j => !z_bad (T j)) n 0) else -1) σ) : wp_Text_firstBadOctet σ post := ⟨n + 1, p_firstBad_l hT n 0 (by omega) h⟩
