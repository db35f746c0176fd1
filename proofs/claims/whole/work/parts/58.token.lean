theorem wb_tb (n : Nat) : (lN n).toBitVec = BitVec.ofNat 64 n := rfl
theorem wb_inj {a b : Int64} (h : a.toBitVec = b.toBitVec) : a = b := Int64.toBitVec_inj.mp h
theorem wb_tn {n : Nat} (h : n < 2 ^ 64) : (lN n).toBitVec.toNat = n := by rw [wb_tb, BitVec.toNat_ofNat, Nat.mod_eq_of_lt h]
theorem wb_c : ∀ k, k < 64 → ((nI k).toInt64 &&& 63) = lN k := by decide +kernel
theorem wb_cu : ∀ k, k < 64 → ((nI k).toInt64.toUInt64 &&& Int64.toUInt64 63) = UInt64.ofNat k := by decide +kernel
theorem wb_sm : ∀ k, k < 64 → (BitVec.ofNat 64 k).smod 64 = BitVec.ofNat 64 k := by decide +kernel
theorem wb_shr {n k : Nat} (hn : n < 2 ^ 64) (hk : k < 64) : ((lN n).toUInt64 >>> ((nI k).toInt64.toUInt64 &&& Int64.toUInt64 63)).toInt64 = lN (n / 2 ^ k) := by
  rw [wb_cu k hk]
  apply wb_inj
  apply BitVec.eq_of_toNat_eq
  show ((lN n).toUInt64 >>> UInt64.ofNat k).toNat = (BitVec.ofNat 64 _).toNat
  have h1 : (UInt64.ofNat k).toNat = k := by
    show (BitVec.ofNat 64 k).toNat = k
    rw [BitVec.toNat_ofNat, Nat.mod_eq_of_lt (by omega)]
  have h2 : (lN n).toUInt64.toNat = n := wb_tn hn
  rw [UInt64.toNat_shiftRight, h1, h2, Nat.mod_eq_of_lt hk, Nat.shiftRight_eq_div_pow, BitVec.toNat_ofNat, Nat.mod_eq_of_lt (Nat.lt_of_le_of_lt (Nat.div_le_self _ _) hn)]
theorem wb_shl (n : Nat) {k : Nat} (hk : k < 64) : lN n <<< ((nI k).toInt64 &&& 63) = lN (n * 2 ^ k) := by
  rw [wb_c k hk]
  apply wb_inj
  rw [Int64.toBitVec_shiftLeft, wb_tb, wb_tb, wb_tb, wb_sm k hk]
  apply BitVec.eq_of_toNat_eq
  rw [BitVec.shiftLeft_eq', BitVec.toNat_shiftLeft, BitVec.toNat_ofNat, BitVec.toNat_ofNat, BitVec.toNat_ofNat, Nat.mod_eq_of_lt (show k < 2 ^ 64 by omega), Nat.shiftLeft_eq, Nat.mul_mod, Nat.mod_mod, ← Nat.mul_mod]
theorem wb_or {a b : Nat} (ha : a < 2 ^ 64) (hb : b < 2 ^ 64) : lN a ||| lN b = lN (a ||| b) := by
  apply wb_inj
  rw [Int64.toBitVec_or, wb_tb, wb_tb, wb_tb]
  apply BitVec.eq_of_toNat_eq
  rw [BitVec.toNat_or, BitVec.toNat_ofNat, BitVec.toNat_ofNat, BitVec.toNat_ofNat, Nat.mod_eq_of_lt ha, Nat.mod_eq_of_lt hb, Nat.mod_eq_of_lt (Nat.or_lt_two_pow ha hb)]
/-! token -/
theorem y_or {a b : Nat} (k : Nat) (ha : a < 2 ^ k) (h1 : a < 2 ^ 64) (h2 : b * 2 ^ k < 2 ^ 64) : lN a ||| lN (b * 2 ^ k) = lN (a + b * 2 ^ k) := by
  rw [wb_or h1 h2, Nat.or_comm, ← Nat.shiftLeft_eq, ← Nat.shiftLeft_add_eq_or_of_lt ha, Nat.add_comm]
theorem zpk_lN {T : Nat → Int32} {m a e : Nat} (hm : m < 100) (ha : a ≤ 4096) (he : e ≤ 4096) : zpk T (nI m, a, e) = lN (m + (a + e * 65536) * 65536 + (1 + z_cnt T a 0) * 281474976710656) := by
  have hc := z_cnt_le T a 0
  unfold zpk
  show (((nI m).toInt64 ||| (((nI a).toInt64 <<< ((nI 16).toInt64 &&& 63)) ||| ((nI e).toInt64 <<< ((nI 32).toInt64 &&& 63)))) ||| ((nI (1 + z_cnt T a 0)).toInt64 <<< ((nI 48).toInt64 &&& 63))) = _
  have i1 : (nI m).toInt64 = lN m := nI_l (by omega)
  have i2 : (nI a).toInt64 = lN a := nI_l (by omega)
  have i3 : (nI e).toInt64 = lN e := nI_l (by omega)
  have i4 : (nI (1 + z_cnt T a 0)).toInt64 = lN (1 + z_cnt T a 0) := nI_l (by omega)
  have j2 : lN a <<< ((nI 16).toInt64 &&& 63) = lN (a * 2 ^ 16) := wb_shl _ (by omega)
  have j3 : lN e <<< ((nI 32).toInt64 &&& 63) = lN (e * 2 ^ 32) := wb_shl _ (by omega)
  have j4 : lN (1 + z_cnt T a 0) <<< ((nI 48).toInt64 &&& 63) = lN ((1 + z_cnt T a 0) * 2 ^ 48) := wb_shl _ (by omega)
  rw [i1, i2, i3, i4, j2, j3, j4]
  rw [y_or (a := a * 2 ^ 16) (b := e) 32 (by omega) (by omega) (by omega)]
  rw [show a * 2 ^ 16 + e * 2 ^ 32 = (a + e * 65536) * 2 ^ 16 by omega]
  rw [y_or (a := m) (b := a + e * 65536) 16 (by omega) (by omega) (by omega)]
  rw [y_or (a := m + (a + e * 65536) * 2 ^ 16) (b := 1 + z_cnt T a 0) 48 (by omega) (by omega) (by omega)]
theorem un_pk {N w : Nat} (hN : N < 2 ^ 64) (hw : w < 4) : ((((lN N).toUInt64 >>> (((nI w * 16) : Int32).toInt64.toUInt64 &&& Int64.toUInt64 63)).toInt64).toInt32 &&& 65535) = nI (N / 2 ^ (w * 16) % 65536) := by
  rw [show (16 : Int32) = nI 16 from rfl, pk_mul, wb_shr hN (by omega), lN_i]
  have h := pk_and (nI (N / 2 ^ (w * 16))) (m := 65535) 16 (by decide)
  rw [h]
  have e1 : (nI (N / 2 ^ (w * 16))).toBitVec.toNat = (N / 2 ^ (w * 16)) % 2 ^ 32 := BitVec.toNat_ofNat _ _
  rw [e1]
  congr 1
  omega
/-- the four parts of a token -/
def z_part (T : Nat → Int32) (t : Tk) (w : Nat) : Int32 := if w = 0 then t.1 else if w = 1 then nI t.2.1 else if w = 2 then nI t.2.2 else nI (1 + z_cnt T t.2.1 0)
theorem z_part_eq {T : Nat → Int32} {n : Nat} {t : Tk} {w : Nat} (ht : tkOk n t) (hn : n ≤ 4096) (hw : w < 4) : ((((zpk T t).toUInt64 >>> (((nI w * 16) : Int32).toInt64.toUInt64 &&& Int64.toUInt64 63)).toInt64).toInt32 &&& 65535) = z_part T t w := by
  obtain ⟨k, a, e⟩ := t
  obtain ⟨⟨m, hm, hk⟩, ha, he⟩ := ht
  have ha' : a ≤ n := ha
  have he' : e ≤ n := he
  have hk' : k = nI m := hk
  subst hk'
  have hc := z_cnt_le T a 0
  generalize hL : 1 + z_cnt T a 0 = L
  rw [zpk_lN hm (by omega) (by omega), hL, un_pk (by omega) hw]
  unfold z_part
  rcases (show w = 0 ∨ w = 1 ∨ w = 2 ∨ w = 3 by omega) with rfl | rfl | rfl | rfl
  · rw [if_pos rfl]
    show nI _ = nI m
    congr 1
    omega
  · rw [if_neg (by omega), if_pos rfl]
    show nI _ = nI a
    congr 1
    omega
  · rw [if_neg (by omega), if_neg (by omega), if_pos rfl]
    show nI _ = nI e
    congr 1
    omega
  · rw [if_neg (by omega), if_neg (by omega), if_neg (by omega)]
    show nI _ = nI (1 + z_cnt T a 0)
    rw [hL]
    congr 1
    omega
theorem q_84 {T : Nat → Int32} {n i e : Nat} {τ : MS} {post : Int32 → MS → Prop} (hT : mTx τ T n) (hi : i < 9000) (he : e ≤ n) (hfr : m_fr τ i = nI e) : ∀ (g j c : Nat), j + g = e → post (nI (c + z_cnt T g j)) τ → L_Mod_tokenAt_84 post (g + 1) (nI i) (nI c) (nI j) τ := by
  have hn := hT.1
  intro g
  induction g with
  | zero =>
    intro j c hj h
    unfold L_Mod_tokenAt_84
    rw [nI_clamp (by omega), hfr]
    refine ⟨vp_in_nI hi (by omega), fun _ => h, fun q => absurd (nI_le (by omega) (by omega)) q⟩
  | succ g ih =>
    intro j c hj h
    unfold L_Mod_tokenAt_84
    rw [nI_clamp (by omega), hfr, hT.2.1, nI_clamp (by omega), hT.2.2.2.1 j (by omega)]
    refine ⟨vp_in_nI hi (by omega), fun q => absurd q (nI_ge (by omega) (by omega)), fun _ => ⟨fun q => absurd q (nI_ge (by omega) (by omega)), fun _ => ⟨vp_in_nI (by omega) (by omega), fun q => ?_, fun q => ?_⟩⟩⟩
    · show L_Mod_tokenAt_84 post (g + 1) (nI i) (nI c) (nI j + 1) τ
      rw [nI_1]
      rw [z_cnt, if_neg q, Nat.zero_add] at h
      exact ih (j + 1) c (by omega) h
    · show L_Mod_tokenAt_84 post (g + 1) (nI i) (nI c + 1) (nI j + 1) τ
      rw [nI_1, nI_1]
      rw [z_cnt, if_pos q] at h
      exact ih (j + 1) (c + 1) (by omega) (by rw [show c + 1 + z_cnt T g (j + 1) = c + (1 + z_cnt T g (j + 1)) by omega]; exact h)
theorem q_tokenAt {T : Nat → Int32} {n i w : Nat} {t : Tk} {τ : MS} {post : Int32 → MS → Prop} (hT : mTx τ T n) (hi : i < 5463) (hw : w < 4) (hl : nI i < m_many τ) (ht : tkOk n t) (hm : m_kd τ i = t.1 ∧ m_fr τ i = nI t.2.1 ∧ m_to τ i = nI t.2.2) (h : post (z_part T t w) (m_err' τ 0)) : wp_Mod_tokenAt (nI i) (nI w) τ post := by
  have hn := hT.1
  have ht1 := ht.2.1
  intro s1 e1
  have q1 : m_many s1 = m_many τ := by subst e1; rfl
  have hT1 : mTx s1 T n := by subst e1; exact hT
  have k1 : m_kd s1 i = t.1 := by subst e1; exact hm.1
  have k2 : m_fr s1 i = nI t.2.1 := by subst e1; exact hm.2.1
  have k3 : m_to s1 i = nI t.2.2 := by subst e1; exact hm.2.2
  rw [← e1] at h
  unfold z_part at h
  rw [q1, nI_clamp (by omega), k1, k2, k3]
  refine ⟨fun q => absurd q (nI_pos (by omega)), fun _ => ⟨fun _ => ⟨fun q => absurd q (nI_pos (by omega)), fun _ => ⟨fun _ => ⟨fun q => ?_, fun q => ?_⟩, fun q => absurd hl q⟩⟩, fun q => absurd (nI_le (b := 3) (by omega) (by omega)) q⟩⟩
  · have q' := (nI_leI (a := 3) (by omega) (by omega)).mp q
    rw [if_neg (by omega), if_neg (by omega), if_neg (by omega)] at h
    exact ⟨t.2.1 + 1, q_84 hT1 (by omega) ht1 k2 t.2.1 0 1 (by omega) h⟩
  · have q' : ¬ 3 ≤ w := fun r => q (nI_le (a := 3) r (by omega))
    refine ⟨fun r => ⟨fun u => ⟨vp_in_nI (by omega) (by omega), ?_⟩, fun u => ⟨vp_in_nI (by omega) (by omega), ?_⟩⟩, fun r => ⟨vp_in_nI (by omega) (by omega), ?_⟩⟩
    · have r' : ¬ w = 0 := fun x => r (by rw [x]; rfl)
      have u' : ¬ w = 1 := fun x => u (by rw [x]; rfl)
      rw [if_neg r', if_neg u', if_pos (by omega)] at h
      exact h
    · have u' : w = 1 := (nI_eq (b := 1) (by omega) (by omega)).mp u
      rw [if_neg (by omega), if_pos u'] at h
      exact h
    · have r' : w = 0 := (nI_eq (b := 0) (by omega) (by omega)).mp r
      rw [if_pos r'] at h
      exact h
theorem st_token (σ : KS) (o : Nat → Int64) (τ : MS) (hR : RL σ τ) (a1 a2 : Int32) : stToken RL σ o τ a1 a2 := by
  have hR' := hR
  obtain ⟨-, hwr, T, n, tk, hk, hm, hx⟩ := hR'
  have lt4 : ∀ x : Int32, x < 4 ↔ x ≤ 3 := by
    intro x
    rw [Int32.lt_iff_toInt_lt, Int32.le_iff_toInt_le]
    have e4 : (4 : Int32).toInt = 4 := by decide
    have e3 : (3 : Int32).toInt = 3 := by decide
    rw [e4, e3]
    omega
  have err1 : (a2 < 0 ∨ ¬ a2 ≤ 3) → ∀ P : Int32 → MS → Prop, P 0 (m_err' (m_err' τ 0) 1) → wp_Mod_tokenAt a1 a2 τ P := by
    intro q P hP s1 e1
    have l14 : L_Mod_tokenAt_14 P s1 := by
      intro s2 e2
      subst e2; subst e1
      exact hP
    exact ⟨fun _ => l14, fun r1 => ⟨fun r2 => absurd q (fun w => w.elim r1 (fun w => w r2)), fun _ => l14⟩⟩
  have err2 : ¬ a2 < 0 → a2 ≤ 3 → (a1 < 0 ∨ ¬ a1 < m_many τ) → ∀ P : Int32 → MS → Prop, P 0 (m_err' (m_err' τ 0) 2) → wp_Mod_tokenAt a1 a2 τ P := by
    intro g1 g2 q P hP s1 e1
    have l33 : L_Mod_tokenAt_33 P s1 := by
      intro s2 e2
      subst e2; subst e1
      exact hP
    have q1 : m_many s1 = m_many τ := by subst e1; rfl
    rw [q1]
    exact ⟨fun r => absurd r g1, fun _ => ⟨fun _ => ⟨fun _ => l33, fun r1 => ⟨fun r2 => absurd q (fun w => w.elim r1 (fun w => w r2)), fun _ => l33⟩⟩, fun r => absurd g2 r⟩⟩
  have hcm : k_cnt σ = m_many τ := by rw [hk.2.1, hm.1]
  unfold stToken wp_Law_token wp_Desk_token L_Desk_token_9 L_Desk_token_34 wp_Tokens_size
  refine ⟨fun q => Or.inl ⟨rfl, err1 (Or.inl q) _ ⟨rfl, fun t => absurd t (by decide), RL_err (RL_err hR)⟩⟩, fun q0 => ⟨fun q => ⟨fun r => Or.inr ⟨rfl, err2 q0 ((lt4 _).mp q) (Or.inl r) _ ⟨rfl, fun t => absurd t (by decide), RL_err (RL_err hR)⟩⟩, fun r0 => ⟨fun r => ?_, fun r => Or.inr ⟨rfl, err2 q0 ((lt4 _).mp q) (Or.inr (by rw [← hcm]; exact r)) _ ⟨rfl, fun t => absurd t (by decide), RL_err (RL_err hR)⟩⟩⟩⟩, fun q => Or.inl ⟨rfl, err1 (Or.inr (fun t => q ((lt4 _).mpr t))) _ ⟨rfl, fun t => absurd t (by decide), RL_err (RL_err hR)⟩⟩⟩⟩
  obtain ⟨w, hw31, rfl⟩ := nI_of q0
  obtain ⟨i, hi31, rfl⟩ := nI_of r0
  have hw : w < 4 := (nI_ltI (b := 4) hw31 (by omega)).mp q
  have hlen := hk.1
  have r' : nI i < nI tk.length := by rw [← hk.2.1]; exact r
  have hi : i < tk.length := (nI_ltI hi31 (by omega)).mp r'
  have hget : tk[i]? = some tk[i] := List.getElem?_eq_getElem hi
  have hpk := hk.2.2 i _ hget
  have hmk := hm.2 i _ hget
  have hX : mTx τ T n := by
    rcases hx with hx | hx
    · rw [hx] at hi; exact absurd hi (Nat.not_lt_zero _)
    · exact hx
  unfold wp_Tokens_part
  refine ⟨fun t => absurd t r0, fun _ => ⟨fun _ => ⟨vp_in_nI (by omega) (by omega), ?_⟩, fun t => absurd r t⟩⟩
  refine q_tokenAt hX (by omega) hw (by rw [hm.1]; exact r') hpk.2 hmk ?_
  refine ⟨rfl, fun _ => ?_, RL_err hR⟩
  show (if (0 : Nat) = 0 then ((((k_pk σ (nI i).toNatClampNeg).toUInt64 >>> (((nI w * 16) : Int32).toInt64.toUInt64 &&& Int64.toUInt64 63)).toInt64).toInt32 &&& 65535).toInt64 else o 0) = _
  rw [if_pos rfl, nI_clamp (by omega), hpk.1, z_part_eq hpk.2 hX.1 hw]
