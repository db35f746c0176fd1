set_option maxHeartbeats 4000000 in
set_option maxRecDepth 100000 in
theorem c_Mod_thrown {l : Launch} {D : va_G} {ad : Nat → Nat} {ty : Nat → ClassId} {cd : Nat → Nat → Nat} {σ : MS} {post : Int32 → MS → Prop} (h : wp_Mod_thrown σ post) : g_Meti l y_Mod_thrown (Cond.code y_Mod_thrown b_Mod_thrown 1 (some .int) :: gW) ({ frames := 0, cells := 0, slots := 0, locals := 0 }) D vwCl (gT ty) (mW ad ty cd) (cX cd) [.ref (ad 0)] σ post := by
  refine g_starti (cc := b_Mod_thrown) (maxL := 1) (by decide) rfl (Nat.le_of_ble_eq_true rfl) ?_
  intro p e s m args below meth c A Q R ls hR hx hb hts hown hml hA hS hP hD hK hCx hl hret
  unfold wp_Mod_thrown at h
  have hown : s.vm.findClass "TokenDeskModel" = some m.cls := hown
  have hl : lv_has ls 1 [(0, .ref (ad 0))] := hl
  refine lv_aload_n hx hb d_Mod_thrown_0 rfl (lv_at hl 0 rfl) ?_
  refine va_get (D := D) (v := .int (m_err σ)) (C := R_Mod) (T := T_Mod) (N := 16) hx hb hts in_Mod hown hK hP 0 rfl rfl 2 (by decide) (hts _ q_f_Mod_198) (fun _ h9 => h9) rfl d_Mod_thrown_1 ?_
  exact hret _ _ _ _ _ _ h hP hD hS d_Mod_thrown_4
set_option maxHeartbeats 4000000 in
set_option maxRecDepth 100000 in
theorem c_Mod_feed {l : Launch} {D : va_G} {ad : Nat → Nat} {ty : Nat → ClassId} {cd : Nat → Nat → Nat} {a1 : Int32} {a2 : Int32} {a3 : Int32} {a4 : Int32} {a5 : Int32} {σ : MS} {post : Int32 → MS → Prop} (h : wp_Mod_feed a1 a2 a3 a4 a5 σ post) : g_Meti l y_Mod_feed (Cond.code y_Mod_feed b_Mod_feed 8 (some .int) :: gW) ({ frames := 0, cells := 0, slots := 0, locals := 0 }) D vwCl (gT ty) (mW ad ty cd) (cX cd) [.ref (ad 0), .int a1, .int a2, .int a3, .int a4, .int a5] σ post := by
  refine g_starti (cc := b_Mod_feed) (maxL := 8) (by decide) rfl (Nat.le_of_ble_eq_true rfl) ?_
  intro p e s m args below meth c A Q R ls hR hx hb hts hown hml hA hS hP hD hK hCx hl hret
  unfold wp_Mod_feed at h
  have hown : s.vm.findClass "TokenDeskModel" = some m.cls := hown
  have hl : lv_has ls 8 [(0, .ref (ad 0)), (1, .int a1), (2, .int a2), (3, .int a3), (4, .int a4), (5, .int a5)] := hl
  have L28 : ∀ n : Nat, ∀ (x1 : Int32) (x2 : Int32) (x3 : Int32) (x4 : Int32) (x5 : Int32) (x6 : Int32) (σ : MS) (H : Heap) (locs : List Loc) (ls : Array Slot), L_Mod_feed_28 post n x1 x2 x3 x4 x5 x6 σ → va_P D vwCl (mW ad ty cd σ) H → va_D A (mW ad ty cd σ) → va_S A s.heap H locs → lv_has ls 8 [(0, .ref (ad 0)), (1, .int x1), (2, .int x2), (3, .int x3), (4, .int x4), (5, .int x5), (6, .int x6)] → W p l e R s m args below meth c H locs 0 0 Q (F0 m 28 ls []) := by
    intro n28
    induction n28 with
    | zero => intro x1 x2 x3 x4 x5 x6 σ H locs ls h hP hD hS hl; exact h.elim
    | succ n28 ih28 =>
      have L81 : ∀ (x1 : Int32) (x2 : Int32) (x3 : Int32) (x4 : Int32) (x5 : Int32) (x6 : Int32) (s0 : Int32) (σ : MS) (H : Heap) (locs : List Loc) (ls : Array Slot), L_Mod_feed_81 post (fun x1 x2 x3 x4 x5 x6 σ => L_Mod_feed_28 post n28 x1 x2 x3 x4 x5 x6 σ) x1 x2 x3 x4 x5 x6 s0 σ → va_P D vwCl (mW ad ty cd σ) H → va_D A (mW ad ty cd σ) → va_S A s.heap H locs → lv_has ls 8 [(0, .ref (ad 0)), (1, .int x1), (2, .int x2), (3, .int x3), (4, .int x4), (5, .int x5), (6, .int x6)] → W p l e R s m args below meth c H locs 0 0 Q (F0 m 81 ls [.int s0]) := by
        intro x1 x2 x3 x4 x5 x6 s0 σ H locs ls h hP hD hS hl
        unfold L_Mod_feed_81 at h
        refine lv_istore hx hb d_Mod_feed_81 hl (by decide) rfl (fun ls hl => ?_)
        refine lv_aload_n hx hb d_Mod_feed_83 rfl (lv_at hl 1 rfl) ?_
        refine va_get (D := D) (v := .ref (ad 3)) (C := R_Mod) (T := T_Mod) (N := 16) hx hb hts in_Mod hown hK hP 0 rfl rfl 10 (by decide) (hts _ q_f_Mod_180) (fun _ h9 => h9) rfl d_Mod_feed_84 ?_
        refine lv_aload_n hx hb d_Mod_feed_87 rfl (lv_at hl 1 rfl) ?_
        refine lv_dup hx hb d_Mod_feed_88 rfl ?_
        refine va_get (D := D) (v := .int (m_fed σ)) (C := R_Mod) (T := T_Mod) (N := 16) hx hb hts in_Mod hown hK hP 0 rfl rfl 3 (by decide) (hts _ q_f_Mod_201) (fun _ h9 => h9) rfl d_Mod_feed_89 ?_
        refine lv_dup_x1 hx hb d_Mod_feed_92 rfl rfl ?_
        refine lv_iconst (v := 1) hx hb d_Mod_feed_93 (by decide) ?_
        refine lv_iadd hx hb d_Mod_feed_94 ?_
        refine va_put (D := D) (v := .int ((m_fed σ) + 1)) (ty := .int) (C := R_Mod) (T := T_Mod) (N := 16) hx hb hts in_Mod t_Mod tk_Mod n_Mod hown hK hP hD hS 0 rfl rfl 3 (by decide) (hts _ q_f_Mod_201) (fun _ h9 => h9) rfl (by decide +kernel) rfl rfl (Nat.le_of_ble_eq_true rfl) d_Mod_feed_95 (fun H locs hP hD hS => ?_)
        have hP : va_P D vwCl (mW ad ty cd (m_fed' σ ((m_fed σ) + 1))) H := hP
        have hD : va_D A (mW ad ty cd (m_fed' σ ((m_fed σ) + 1))) := hD
        obtain ⟨σ3, eσ3⟩ : ∃ z, z = (m_fed' σ ((m_fed σ) + 1)) := ⟨_, rfl⟩
        rw [← eσ3] at hP hD
        have h := h σ3 eσ3
        refine lv_iload hx hb d_Mod_feed_98 (lv_at hl 0 rfl) ?_
        refine lv_bipush (v := 24) hx hb d_Mod_feed_100 (by decide) ?_
        refine lv_bipush (v := 8) hx hb d_Mod_feed_102 (by decide) ?_
        refine lv_iload hx hb d_Mod_feed_104 (lv_at hl 7 rfl) ?_
        refine lv_iconst (v := 3) hx hb d_Mod_feed_106 (by decide) ?_
        refine lv_iand hx hb d_Mod_feed_107 ?_
        refine lv_imul hx hb d_Mod_feed_108 ?_
        refine lv_isub hx hb d_Mod_feed_109 ?_
        refine lv_iushr hx hb d_Mod_feed_110 rfl ?_
        refine lv_sipush (v := 255) hx hb d_Mod_feed_111 (by decide) ?_
        refine lv_iand hx hb d_Mod_feed_114 ?_
        refine va_iast (D := D) hx hb hK hP hD hS 3 0 rfl rfl h.1 d_Mod_feed_115 (fun H locs hP hD hS => ?_)
        have h := h.2
        have hP : va_P D vwCl (mW ad ty cd (m_oc' σ3 (upd (m_oc σ3) ((m_fed σ) : Int32).toNatClampNeg (((s0.toUInt32 >>> (((24 - (8 * (x6 &&& 3))) : Int32).toUInt32 &&& Int32.toUInt32 31)).toInt32) &&& 255)))) H := hP
        have hD : va_D A (mW ad ty cd (m_oc' σ3 (upd (m_oc σ3) ((m_fed σ) : Int32).toNatClampNeg (((s0.toUInt32 >>> (((24 - (8 * (x6 &&& 3))) : Int32).toUInt32 &&& Int32.toUInt32 31)).toInt32) &&& 255)))) := hD
        obtain ⟨σ4, eσ4⟩ : ∃ z, z = (m_oc' σ3 (upd (m_oc σ3) ((m_fed σ) : Int32).toNatClampNeg (((s0.toUInt32 >>> (((24 - (8 * (x6 &&& 3))) : Int32).toUInt32 &&& Int32.toUInt32 31)).toInt32) &&& 255))) := ⟨_, rfl⟩
        rw [← eσ4] at hP hD
        have h := h σ4 eσ4
        refine lv_iinc (v := (x6 + 1)) hx hb d_Mod_feed_116 hl (k := 7) rfl rfl (by decide) rfl (fun ls hl => ?_)
        refine lv_goto hx hb d_Mod_feed_119 (tgt := 28) rfl ?_
        exact ih28 x1 x2 x3 x4 x5 (x6 + 1) σ4 _ _ _ h hP hD hS (lv_sub hl [2, 3, 4, 5, 6, 7, 0] rfl)
      intro x1 x2 x3 x4 x5 x6 σ H locs ls h hP hD hS hl
      unfold L_Mod_feed_28 at h
      refine lv_iload hx hb d_Mod_feed_28 (lv_at hl 6 rfl) ?_
      refine lv_bipush (v := 20) hx hb d_Mod_feed_30 (by decide) ?_
      refine lv_icmp_ge hx hb d_Mod_feed_32 (tgt := 122) rfl (fun hc => ?_) (fun hc => ?_)
      · have h := h.1 hc
        refine lv_aload_n hx hb d_Mod_feed_122 rfl (lv_at hl 0 rfl) ?_
        refine va_get (D := D) (v := .int (m_fed σ)) (C := R_Mod) (T := T_Mod) (N := 16) hx hb hts in_Mod hown hK hP 0 rfl rfl 3 (by decide) (hts _ q_f_Mod_201) (fun _ h9 => h9) rfl d_Mod_feed_123 ?_
        exact hret _ _ _ _ _ _ h hP hD hS d_Mod_feed_126
      · have h := h.2 hc
        refine lv_iload hx hb d_Mod_feed_35 (lv_at hl 6 rfl) ?_
        refine lv_iconst (v := 4) hx hb d_Mod_feed_37 (by decide) ?_
        refine lv_icmp_ge hx hb d_Mod_feed_38 (tgt := 45) rfl (fun hc => ?_) (fun hc => ?_)
        · have h := h.1 hc
          refine lv_iload hx hb d_Mod_feed_45 (lv_at hl 6 rfl) ?_
          refine lv_bipush (v := 8) hx hb d_Mod_feed_47 (by decide) ?_
          refine lv_icmp_ge hx hb d_Mod_feed_49 (tgt := 56) rfl (fun hc => ?_) (fun hc => ?_)
          · have h := h.1 hc
            refine lv_iload hx hb d_Mod_feed_56 (lv_at hl 6 rfl) ?_
            refine lv_bipush (v := 12) hx hb d_Mod_feed_58 (by decide) ?_
            refine lv_icmp_ge hx hb d_Mod_feed_60 (tgt := 67) rfl (fun hc => ?_) (fun hc => ?_)
            · have h := h.1 hc
              refine lv_iload hx hb d_Mod_feed_67 (lv_at hl 6 rfl) ?_
              refine lv_bipush (v := 16) hx hb d_Mod_feed_69 (by decide) ?_
              refine lv_icmp_ge hx hb d_Mod_feed_71 (tgt := 79) rfl (fun hc => ?_) (fun hc => ?_)
              · have h := h.1 hc
                refine lv_iload hx hb d_Mod_feed_79 (lv_at hl 5 rfl) ?_
                exact L81 x1 x2 x3 x4 x5 x6 x5 σ _ _ _ h hP hD hS hl
              · have h := h.2 hc
                refine lv_iload hx hb d_Mod_feed_74 (lv_at hl 4 rfl) ?_
                refine lv_goto hx hb d_Mod_feed_76 (tgt := 81) rfl ?_
                exact L81 x1 x2 x3 x4 x5 x6 x4 σ _ _ _ h hP hD hS hl
            · have h := h.2 hc
              refine lv_iload_n hx hb d_Mod_feed_63 rfl (lv_at hl 3 rfl) ?_
              refine lv_goto hx hb d_Mod_feed_64 (tgt := 81) rfl ?_
              exact L81 x1 x2 x3 x4 x5 x6 x3 σ _ _ _ h hP hD hS hl
          · have h := h.2 hc
            refine lv_iload_n hx hb d_Mod_feed_52 rfl (lv_at hl 2 rfl) ?_
            refine lv_goto hx hb d_Mod_feed_53 (tgt := 81) rfl ?_
            exact L81 x1 x2 x3 x4 x5 x6 x2 σ _ _ _ h hP hD hS hl
        · have h := h.2 hc
          refine lv_iload_n hx hb d_Mod_feed_41 rfl (lv_at hl 1 rfl) ?_
          refine lv_goto hx hb d_Mod_feed_42 (tgt := 81) rfl ?_
          exact L81 x1 x2 x3 x4 x5 x6 x1 σ _ _ _ h hP hD hS hl
  refine lv_aload_n hx hb d_Mod_feed_0 rfl (lv_at hl 0 rfl) ?_
  refine lv_iconst (v := 0) hx hb d_Mod_feed_1 (by decide) ?_
  refine va_put (D := D) (v := .int 0) (ty := .int) (C := R_Mod) (T := T_Mod) (N := 16) hx hb hts in_Mod t_Mod tk_Mod n_Mod hown hK hP hD hS 0 rfl rfl 2 (by decide) (hts _ q_f_Mod_198) (fun _ h9 => h9) rfl (by decide +kernel) rfl rfl (Nat.le_of_ble_eq_true rfl) d_Mod_feed_2 (fun H locs hP hD hS => ?_)
  have hP : va_P D vwCl (mW ad ty cd (m_err' σ 0)) H := hP
  have hD : va_D A (mW ad ty cd (m_err' σ 0)) := hD
  obtain ⟨σ1, eσ1⟩ : ∃ z, z = (m_err' σ 0) := ⟨_, rfl⟩
  rw [← eσ1] at hP hD
  have h := h σ1 eσ1
  refine lv_aload_n hx hb d_Mod_feed_5 rfl (lv_at hl 0 rfl) ?_
  refine va_get (D := D) (v := .int (m_fed σ1)) (C := R_Mod) (T := T_Mod) (N := 16) hx hb hts in_Mod hown hK hP 0 rfl rfl 3 (by decide) (hts _ q_f_Mod_201) (fun _ h9 => h9) rfl d_Mod_feed_6 ?_
  refine lv_bipush (v := 20) hx hb d_Mod_feed_9 (by decide) ?_
  refine lv_iadd hx hb d_Mod_feed_11 ?_
  refine lv_sipush (v := 4100) hx hb d_Mod_feed_12 (by decide) ?_
  refine lv_icmp_le hx hb d_Mod_feed_15 (tgt := 25) rfl (fun hc => ?_) (fun hc => ?_)
  · have h := h.1 hc
    refine lv_iconst (v := 0) hx hb d_Mod_feed_25 (by decide) ?_
    refine lv_istore hx hb d_Mod_feed_26 hl (by decide) rfl (fun ls hl => ?_)
    obtain ⟨n, h⟩ := h
    exact L28 n a1 a2 a3 a4 a5 0 σ1 _ _ _ h hP hD hS (lv_sub hl [1, 2, 3, 4, 5, 6, 0] rfl)
  · have h := h.2 hc
    refine lv_aload_n hx hb d_Mod_feed_18 rfl (lv_at hl 0 rfl) ?_
    refine lv_iconst (v := 1) hx hb d_Mod_feed_19 (by decide) ?_
    refine va_put (D := D) (v := .int 1) (ty := .int) (C := R_Mod) (T := T_Mod) (N := 16) hx hb hts in_Mod t_Mod tk_Mod n_Mod hown hK hP hD hS 0 rfl rfl 2 (by decide) (hts _ q_f_Mod_198) (fun _ h9 => h9) rfl (by decide +kernel) rfl rfl (Nat.le_of_ble_eq_true rfl) d_Mod_feed_20 (fun H locs hP hD hS => ?_)
    have hP : va_P D vwCl (mW ad ty cd (m_err' σ1 1)) H := hP
    have hD : va_D A (mW ad ty cd (m_err' σ1 1)) := hD
    obtain ⟨σ2, eσ2⟩ : ∃ z, z = (m_err' σ1 1) := ⟨_, rfl⟩
    rw [← eσ2] at hP hD
    have h := h σ2 eσ2
    refine lv_iconst (v := 0) hx hb d_Mod_feed_23 (by decide) ?_
    exact hret _ _ _ _ _ _ h hP hD hS d_Mod_feed_24
set_option maxHeartbeats 4000000 in
set_option maxRecDepth 100000 in
theorem c_Mod_bad {l : Launch} {D : va_G} {ad : Nat → Nat} {ty : Nat → ClassId} {cd : Nat → Nat → Nat} {a1 : Int32} {σ : MS} {post : Int32 → MS → Prop} (h : wp_Mod_bad a1 σ post) : g_Meti l y_Mod_bad (Cond.code y_Mod_bad b_Mod_bad 2 (some .boolean) :: gW) ({ frames := 0, cells := 0, slots := 0, locals := 0 }) D vwCl (gT ty) (mW ad ty cd) (cX cd) [.ref (ad 0), .int a1] σ post := by
  refine g_startz (cc := b_Mod_bad) (maxL := 2) (by decide) rfl (Nat.le_of_ble_eq_true rfl) ?_
  intro p e s m args below meth c A Q R ls hR hx hb hts hown hml hA hS hP hD hK hCx hl hret
  unfold wp_Mod_bad at h
  have hown : s.vm.findClass "TokenDeskModel" = some m.cls := hown
  have hl : lv_has ls 2 [(0, .ref (ad 0)), (1, .int a1)] := hl
  refine lv_aload_n hx hb d_Mod_bad_0 rfl (lv_at hl 0 rfl) ?_
  refine va_get (D := D) (v := .int (m_wrong σ)) (C := R_Mod) (T := T_Mod) (N := 16) hx hb hts in_Mod hown hK hP 0 rfl rfl 5 (by decide) (hts _ q_f_Mod_176) (fun _ h9 => h9) rfl d_Mod_bad_1 ?_
  refine lv_if_ge hx hb d_Mod_bad_4 (tgt := 12) rfl (fun hc => ?_) (fun hc => ?_)
  · have h := h.1 hc
    refine lv_iconst (v := 0) hx hb d_Mod_bad_12 (by decide) ?_
    exact hret _ _ _ _ _ _ h rfl hP hD hS d_Mod_bad_13
  · have h := h.2 hc
    refine lv_aload_n hx hb d_Mod_bad_7 rfl (lv_at hl 0 rfl) ?_
    refine lv_iload_n hx hb d_Mod_bad_8 rfl (lv_at hl 1 rfl) ?_
    refine va_put (D := D) (v := .int a1) (ty := .int) (C := R_Mod) (T := T_Mod) (N := 16) hx hb hts in_Mod t_Mod tk_Mod n_Mod hown hK hP hD hS 0 rfl rfl 5 (by decide) (hts _ q_f_Mod_176) (fun _ h9 => h9) rfl (by decide +kernel) rfl rfl (Nat.le_of_ble_eq_true rfl) d_Mod_bad_9 (fun H locs hP hD hS => ?_)
    have hP : va_P D vwCl (mW ad ty cd (m_wrong' σ a1)) H := hP
    have hD : va_D A (mW ad ty cd (m_wrong' σ a1)) := hD
    obtain ⟨σ1, eσ1⟩ : ∃ z, z = (m_wrong' σ a1) := ⟨_, rfl⟩
    rw [← eσ1] at hP hD
    have h := h σ1 eσ1
    refine lv_iconst (v := 0) hx hb d_Mod_bad_12 (by decide) ?_
    exact hret _ _ _ _ _ _ h rfl hP hD hS d_Mod_bad_13
set_option maxHeartbeats 4000000 in
set_option maxRecDepth 100000 in
theorem c_Mod_add {l : Launch} {D : va_G} {ad : Nat → Nat} {ty : Nat → ClassId} {cd : Nat → Nat → Nat} {a1 : Int32} {a2 : Int32} {a3 : Int32} {σ : MS} {post : Int32 → MS → Prop} (h : wp_Mod_add a1 a2 a3 σ post) : g_Meti l y_Mod_add (Cond.code y_Mod_add b_Mod_add 4 (some .boolean) :: gW) ({ frames := 0, cells := 0, slots := 0, locals := 0 }) D vwCl (gT ty) (mW ad ty cd) (cX cd) [.ref (ad 0), .int a1, .int a2, .int a3] σ post := by
  refine g_startz (cc := b_Mod_add) (maxL := 4) (by decide) rfl (Nat.le_of_ble_eq_true rfl) ?_
  intro p e s m args below meth c A Q R ls hR hx hb hts hown hml hA hS hP hD hK hCx hl hret
  unfold wp_Mod_add at h
  have hown : s.vm.findClass "TokenDeskModel" = some m.cls := hown
  have hl : lv_has ls 4 [(0, .ref (ad 0)), (1, .int a1), (2, .int a2), (3, .int a3)] := hl
  refine lv_aload_n hx hb d_Mod_add_0 rfl (lv_at hl 0 rfl) ?_
  refine va_get (D := D) (v := .ref (ad 5)) (C := R_Mod) (T := T_Mod) (N := 16) hx hb hts in_Mod hown hK hP 0 rfl rfl 12 (by decide) (hts _ q_f_Mod_187) (fun _ h9 => h9) rfl d_Mod_add_1 ?_
  refine lv_aload_n hx hb d_Mod_add_4 rfl (lv_at hl 0 rfl) ?_
  refine va_get (D := D) (v := .int (m_many σ)) (C := R_Mod) (T := T_Mod) (N := 16) hx hb hts in_Mod hown hK hP 0 rfl rfl 4 (by decide) (hts _ q_f_Mod_204) (fun _ h9 => h9) rfl d_Mod_add_5 ?_
  refine lv_iload_n hx hb d_Mod_add_8 rfl (lv_at hl 1 rfl) ?_
  refine va_iast (D := D) hx hb hK hP hD hS 5 0 rfl rfl h.1 d_Mod_add_9 (fun H locs hP hD hS => ?_)
  have h := h.2
  have hP : va_P D vwCl (mW ad ty cd (m_kd' σ (upd (m_kd σ) ((m_many σ) : Int32).toNatClampNeg a1))) H := hP
  have hD : va_D A (mW ad ty cd (m_kd' σ (upd (m_kd σ) ((m_many σ) : Int32).toNatClampNeg a1))) := hD
  obtain ⟨σ1, eσ1⟩ : ∃ z, z = (m_kd' σ (upd (m_kd σ) ((m_many σ) : Int32).toNatClampNeg a1)) := ⟨_, rfl⟩
  rw [← eσ1] at hP hD
  have h := h σ1 eσ1
  refine lv_aload_n hx hb d_Mod_add_10 rfl (lv_at hl 0 rfl) ?_
  refine va_get (D := D) (v := .ref (ad 6)) (C := R_Mod) (T := T_Mod) (N := 16) hx hb hts in_Mod hown hK hP 0 rfl rfl 13 (by decide) (hts _ q_f_Mod_190) (fun _ h9 => h9) rfl d_Mod_add_11 ?_
  refine lv_aload_n hx hb d_Mod_add_14 rfl (lv_at hl 0 rfl) ?_
  refine va_get (D := D) (v := .int (m_many σ1)) (C := R_Mod) (T := T_Mod) (N := 16) hx hb hts in_Mod hown hK hP 0 rfl rfl 4 (by decide) (hts _ q_f_Mod_204) (fun _ h9 => h9) rfl d_Mod_add_15 ?_
  refine lv_iload_n hx hb d_Mod_add_18 rfl (lv_at hl 2 rfl) ?_
  refine va_iast (D := D) hx hb hK hP hD hS 6 0 rfl rfl h.1 d_Mod_add_19 (fun H locs hP hD hS => ?_)
  have h := h.2
  have hP : va_P D vwCl (mW ad ty cd (m_fr' σ1 (upd (m_fr σ1) ((m_many σ1) : Int32).toNatClampNeg a2))) H := hP
  have hD : va_D A (mW ad ty cd (m_fr' σ1 (upd (m_fr σ1) ((m_many σ1) : Int32).toNatClampNeg a2))) := hD
  obtain ⟨σ2, eσ2⟩ : ∃ z, z = (m_fr' σ1 (upd (m_fr σ1) ((m_many σ1) : Int32).toNatClampNeg a2)) := ⟨_, rfl⟩
  rw [← eσ2] at hP hD
  have h := h σ2 eσ2
  refine lv_aload_n hx hb d_Mod_add_20 rfl (lv_at hl 0 rfl) ?_
  refine va_get (D := D) (v := .ref (ad 7)) (C := R_Mod) (T := T_Mod) (N := 16) hx hb hts in_Mod hown hK hP 0 rfl rfl 14 (by decide) (hts _ q_f_Mod_192) (fun _ h9 => h9) rfl d_Mod_add_21 ?_
  refine lv_aload_n hx hb d_Mod_add_24 rfl (lv_at hl 0 rfl) ?_
  refine lv_dup hx hb d_Mod_add_25 rfl ?_
  refine va_get (D := D) (v := .int (m_many σ2)) (C := R_Mod) (T := T_Mod) (N := 16) hx hb hts in_Mod hown hK hP 0 rfl rfl 4 (by decide) (hts _ q_f_Mod_204) (fun _ h9 => h9) rfl d_Mod_add_26 ?_
  refine lv_dup_x1 hx hb d_Mod_add_29 rfl rfl ?_
  refine lv_iconst (v := 1) hx hb d_Mod_add_30 (by decide) ?_
  refine lv_iadd hx hb d_Mod_add_31 ?_
  refine va_put (D := D) (v := .int ((m_many σ2) + 1)) (ty := .int) (C := R_Mod) (T := T_Mod) (N := 16) hx hb hts in_Mod t_Mod tk_Mod n_Mod hown hK hP hD hS 0 rfl rfl 4 (by decide) (hts _ q_f_Mod_204) (fun _ h9 => h9) rfl (by decide +kernel) rfl rfl (Nat.le_of_ble_eq_true rfl) d_Mod_add_32 (fun H locs hP hD hS => ?_)
  have hP : va_P D vwCl (mW ad ty cd (m_many' σ2 ((m_many σ2) + 1))) H := hP
  have hD : va_D A (mW ad ty cd (m_many' σ2 ((m_many σ2) + 1))) := hD
  obtain ⟨σ3, eσ3⟩ : ∃ z, z = (m_many' σ2 ((m_many σ2) + 1)) := ⟨_, rfl⟩
  rw [← eσ3] at hP hD
  have h := h σ3 eσ3
  refine lv_iload_n hx hb d_Mod_add_35 rfl (lv_at hl 3 rfl) ?_
  refine va_iast (D := D) hx hb hK hP hD hS 7 0 rfl rfl h.1 d_Mod_add_36 (fun H locs hP hD hS => ?_)
  have h := h.2
  have hP : va_P D vwCl (mW ad ty cd (m_to' σ3 (upd (m_to σ3) ((m_many σ2) : Int32).toNatClampNeg a3))) H := hP
  have hD : va_D A (mW ad ty cd (m_to' σ3 (upd (m_to σ3) ((m_many σ2) : Int32).toNatClampNeg a3))) := hD
  obtain ⟨σ4, eσ4⟩ : ∃ z, z = (m_to' σ3 (upd (m_to σ3) ((m_many σ2) : Int32).toNatClampNeg a3)) := ⟨_, rfl⟩
  rw [← eσ4] at hP hD
  have h := h σ4 eσ4
  refine lv_iconst (v := 1) hx hb d_Mod_add_37 (by decide) ?_
  exact hret _ _ _ _ _ _ h rfl hP hD hS d_Mod_add_38
set_option maxHeartbeats 4000000 in
set_option maxRecDepth 100000 in
theorem c_Mod_c {l : Launch} {D : va_G} {ad : Nat → Nat} {ty : Nat → ClassId} {cd : Nat → Nat → Nat} {a1 : Int32} {σ : MS} {post : Int32 → MS → Prop} (h : wp_Mod_c a1 σ post) : g_Meti l y_Mod_c (Cond.code y_Mod_c b_Mod_c 2 (some .int) :: gW) ({ frames := 0, cells := 0, slots := 0, locals := 0 }) D vwCl (gT ty) (mW ad ty cd) (cX cd) [.ref (ad 0), .int a1] σ post := by
  refine g_starti (cc := b_Mod_c) (maxL := 2) (by decide) rfl (Nat.le_of_ble_eq_true rfl) ?_
  intro p e s m args below meth c A Q R ls hR hx hb hts hown hml hA hS hP hD hK hCx hl hret
  unfold wp_Mod_c at h
  have hown : s.vm.findClass "TokenDeskModel" = some m.cls := hown
  have hl : lv_has ls 2 [(0, .ref (ad 0)), (1, .int a1)] := hl
  refine lv_iload_n hx hb d_Mod_c_0 rfl (lv_at hl 1 rfl) ?_
  refine lv_aload_n hx hb d_Mod_c_1 rfl (lv_at hl 0 rfl) ?_
  refine va_get (D := D) (v := .int (m_let σ)) (C := R_Mod) (T := T_Mod) (N := 16) hx hb hts in_Mod hown hK hP 0 rfl rfl 6 (by decide) (hts _ q_f_Mod_207) (fun _ h9 => h9) rfl d_Mod_c_2 ?_
  refine lv_icmp_ge hx hb d_Mod_c_5 (tgt := 17) rfl (fun hc => ?_) (fun hc => ?_)
  · have h := h.1 hc
    refine lv_iconst (v := (-1)) hx hb d_Mod_c_17 (by decide) ?_
    exact hret _ _ _ _ _ _ h hP hD hS d_Mod_c_18
  · have h := h.2 hc
    refine lv_aload_n hx hb d_Mod_c_8 rfl (lv_at hl 0 rfl) ?_
    refine va_get (D := D) (v := .ref (ad 4)) (C := R_Mod) (T := T_Mod) (N := 16) hx hb hts in_Mod hown hK hP 0 rfl rfl 11 (by decide) (hts _ q_f_Mod_184) (fun _ h9 => h9) rfl d_Mod_c_9 ?_
    refine lv_iload_n hx hb d_Mod_c_12 rfl (lv_at hl 1 rfl) ?_
    refine va_iald (D := D) hx hb hK hP 4 0 rfl rfl h.1 d_Mod_c_13 ?_
    have h := h.2
    refine lv_goto hx hb d_Mod_c_14 (tgt := 18) rfl ?_
    exact hret _ _ _ _ _ _ h hP hD hS d_Mod_c_18
set_option maxHeartbeats 4000000 in
set_option maxRecDepth 100000 in
theorem c_Mod_comment {l : Launch} {D : va_G} {ad : Nat → Nat} {ty : Nat → ClassId} {cd : Nat → Nat → Nat} {σ : MS} {post : MS → Prop} (h : wp_Mod_comment σ post) : g_Metv l y_Mod_comment (Cond.code y_Mod_comment b_Mod_comment 1 none :: gW) ({ frames := 1, cells := 0, slots := 0, locals := 21 }) D vwCl (gT ty) (mW ad ty cd) (cX cd) [.ref (ad 0)] σ post := by
  refine g_startv (cc := b_Mod_comment) (maxL := 1) (by decide) rfl (Nat.le_of_ble_eq_true rfl) ?_
  intro p e s m args below meth c A Q R ls hR hx hb hts hown hml hA hS hP hD hK hCx hl hret
  unfold wp_Mod_comment at h
  have hown : s.vm.findClass "TokenDeskModel" = some m.cls := hown
  have hl : lv_has ls 1 [(0, .ref (ad 0))] := hl
  have L0 : ∀ n : Nat, ∀ (σ : MS) (H : Heap) (locs : List Loc) (ls : Array Slot), L_Mod_comment_0 post n σ → va_P D vwCl (mW ad ty cd σ) H → va_D A (mW ad ty cd σ) → va_S A s.heap H locs → lv_has ls 1 [(0, .ref (ad 0))] → W p l e R s m args below meth c H locs 0 0 Q (F0 m 0 ls []) := by
    intro n0
    induction n0 with
    | zero => intro σ H locs ls h hP hD hS hl; exact h.elim
    | succ n0 ih0 =>
      intro σ H locs ls h hP hD hS hl
      unfold L_Mod_comment_0 at h
      refine lv_aload_n hx hb d_Mod_comment_0 rfl (lv_at hl 0 rfl) ?_
      refine va_get (D := D) (v := .int (m_at σ)) (C := R_Mod) (T := T_Mod) (N := 16) hx hb hts in_Mod hown hK hP 0 rfl rfl 7 (by decide) (hts _ q_f_Mod_214) (fun _ h9 => h9) rfl d_Mod_comment_1 ?_
      refine lv_aload_n hx hb d_Mod_comment_4 rfl (lv_at hl 0 rfl) ?_
      refine va_get (D := D) (v := .int (m_let σ)) (C := R_Mod) (T := T_Mod) (N := 16) hx hb hts in_Mod hown hK hP 0 rfl rfl 6 (by decide) (hts _ q_f_Mod_207) (fun _ h9 => h9) rfl d_Mod_comment_5 ?_
      refine lv_icmp_ge hx hb d_Mod_comment_8 (tgt := 37) rfl (fun hc => ?_) (fun hc => ?_)
      · have h := h.1 hc
        exact hret _ _ _ _ _ h hP hD hS d_Mod_comment_37
      · have h := h.2 hc
        refine lv_aload_n hx hb d_Mod_comment_11 rfl (lv_at hl 0 rfl) ?_
        refine lv_aload_n hx hb d_Mod_comment_12 rfl (lv_at hl 0 rfl) ?_
        refine va_get (D := D) (v := .int (m_at σ)) (C := R_Mod) (T := T_Mod) (N := 16) hx hb hts in_Mod hown hK hP 0 rfl rfl 7 (by decide) (hts _ q_f_Mod_214) (fun _ h9 => h9) rfl d_Mod_comment_13 ?_
        refine g_callVi ⟨hx, hb, hml, hown, hts⟩ (c_Mod_c h) (g_cwV 1 hts q_l_Mod_228 q_m_Mod_c q_s_Mod_c q_i_TokenDeskModel q_k_Mod_c (by decide +kernel) rfl rfl (by rw [hR]; exact ⟨Nat.le_of_ble_eq_true rfl, Nat.le_of_ble_eq_true rfl⟩)) (va_recv hK hP (q0 := 0) rfl rfl) cX_g hK hP hD hS hA hCx rfl hl.1 rfl (Nat.le_of_ble_eq_true rfl) d_Mod_comment_16 ⟨Nat.zero_le _, Nat.zero_le _⟩ (fun r1 σ2 H locs h hP hD hS => ?_)
        refine lv_bipush (v := 10) hx hb d_Mod_comment_19 (by decide) ?_
        refine lv_icmp_eq hx hb d_Mod_comment_21 (tgt := 37) rfl (fun hc => ?_) (fun hc => ?_)
        · have h := h.1 hc
          exact hret _ _ _ _ _ h hP hD hS d_Mod_comment_37
        · have h := h.2 hc
          refine lv_aload_n hx hb d_Mod_comment_24 rfl (lv_at hl 0 rfl) ?_
          refine lv_dup hx hb d_Mod_comment_25 rfl ?_
          refine va_get (D := D) (v := .int (m_at σ2)) (C := R_Mod) (T := T_Mod) (N := 16) hx hb hts in_Mod hown hK hP 0 rfl rfl 7 (by decide) (hts _ q_f_Mod_214) (fun _ h9 => h9) rfl d_Mod_comment_26 ?_
          refine lv_iconst (v := 1) hx hb d_Mod_comment_29 (by decide) ?_
          refine lv_iadd hx hb d_Mod_comment_30 ?_
          refine va_put (D := D) (v := .int ((m_at σ2) + 1)) (ty := .int) (C := R_Mod) (T := T_Mod) (N := 16) hx hb hts in_Mod t_Mod tk_Mod n_Mod hown hK hP hD hS 0 rfl rfl 7 (by decide) (hts _ q_f_Mod_214) (fun _ h9 => h9) rfl (by decide +kernel) rfl rfl (Nat.le_of_ble_eq_true rfl) d_Mod_comment_31 (fun H locs hP hD hS => ?_)
          have hP : va_P D vwCl (mW ad ty cd (m_at' σ2 ((m_at σ2) + 1))) H := hP
          have hD : va_D A (mW ad ty cd (m_at' σ2 ((m_at σ2) + 1))) := hD
          obtain ⟨σ3, eσ3⟩ : ∃ z, z = (m_at' σ2 ((m_at σ2) + 1)) := ⟨_, rfl⟩
          rw [← eσ3] at hP hD
          have h := h σ3 eσ3
          refine lv_goto hx hb d_Mod_comment_34 (tgt := 0) rfl ?_
          exact ih0 σ3 _ _ _ h hP hD hS hl
  obtain ⟨n, h⟩ := h
  exact L0 n σ _ _ _ h hP hD hS hl
set_option maxHeartbeats 4000000 in
set_option maxRecDepth 100000 in
theorem c_Mod_joined {l : Launch} {D : va_G} {ad : Nat → Nat} {ty : Nat → ClassId} {cd : Nat → Nat → Nat} {σ : MS} {post : MS → Prop} (h : wp_Mod_joined σ post) : g_Metv l y_Mod_joined (Cond.code y_Mod_joined b_Mod_joined 1 none :: gW) ({ frames := 1, cells := 0, slots := 0, locals := 21 }) D vwCl (gT ty) (mW ad ty cd) (cX cd) [.ref (ad 0)] σ post := by
  refine g_startv (cc := b_Mod_joined) (maxL := 1) (by decide) rfl (Nat.le_of_ble_eq_true rfl) ?_
  intro p e s m args below meth c A Q R ls hR hx hb hts hown hml hA hS hP hD hK hCx hl hret
  unfold wp_Mod_joined at h
  have hown : s.vm.findClass "TokenDeskModel" = some m.cls := hown
  have hl : lv_has ls 1 [(0, .ref (ad 0))] := hl
  have L0 : ∀ n : Nat, ∀ (σ : MS) (H : Heap) (locs : List Loc) (ls : Array Slot), L_Mod_joined_0 post n σ → va_P D vwCl (mW ad ty cd σ) H → va_D A (mW ad ty cd σ) → va_S A s.heap H locs → lv_has ls 1 [(0, .ref (ad 0))] → W p l e R s m args below meth c H locs 0 0 Q (F0 m 0 ls []) := by
    intro n0
    induction n0 with
    | zero => intro σ H locs ls h hP hD hS hl; exact h.elim
    | succ n0 ih0 =>
      have L64 : ∀ (s0 : Int32) (s1 : Int32) (σ : MS) (H : Heap) (locs : List Loc) (ls : Array Slot), L_Mod_joined_64 post (fun σ => L_Mod_joined_0 post n0 σ) s0 s1 σ → va_P D vwCl (mW ad ty cd σ) H → va_D A (mW ad ty cd σ) → va_S A s.heap H locs → lv_has ls 1 [(0, .ref (ad 0))] → W p l e R s m args below meth c H locs 0 0 Q (F0 m 64 ls [.int s0, .int s1, .ref (ad 0)]) := by
        intro s0 s1 σ H locs ls h hP hD hS hl
        unfold L_Mod_joined_64 at h
        refine lv_iadd hx hb d_Mod_joined_64 ?_
        refine va_put (D := D) (v := .int (s1 + s0)) (ty := .int) (C := R_Mod) (T := T_Mod) (N := 16) hx hb hts in_Mod t_Mod tk_Mod n_Mod hown hK hP hD hS 0 rfl rfl 7 (by decide) (hts _ q_f_Mod_214) (fun _ h9 => h9) rfl (by decide +kernel) rfl rfl (Nat.le_of_ble_eq_true rfl) d_Mod_joined_65 (fun H locs hP hD hS => ?_)
        have hP : va_P D vwCl (mW ad ty cd (m_at' σ (s1 + s0))) H := hP
        have hD : va_D A (mW ad ty cd (m_at' σ (s1 + s0))) := hD
        obtain ⟨σ9, eσ9⟩ : ∃ z, z = (m_at' σ (s1 + s0)) := ⟨_, rfl⟩
        rw [← eσ9] at hP hD
        have h := h σ9 eσ9
        refine lv_goto hx hb d_Mod_joined_68 (tgt := 0) rfl ?_
        exact ih0 σ9 _ _ _ h hP hD hS hl
      have L41 : ∀ (σ : MS) (H : Heap) (locs : List Loc) (ls : Array Slot), L_Mod_joined_41 post (fun σ => L_Mod_joined_0 post n0 σ) σ → va_P D vwCl (mW ad ty cd σ) H → va_D A (mW ad ty cd σ) → va_S A s.heap H locs → lv_has ls 1 [(0, .ref (ad 0))] → W p l e R s m args below meth c H locs 0 0 Q (F0 m 41 ls []) := by
        intro σ H locs ls h hP hD hS hl
        unfold L_Mod_joined_41 at h
        refine lv_aload_n hx hb d_Mod_joined_41 rfl (lv_at hl 0 rfl) ?_
        refine lv_dup hx hb d_Mod_joined_42 rfl ?_
        refine va_get (D := D) (v := .int (m_at σ)) (C := R_Mod) (T := T_Mod) (N := 16) hx hb hts in_Mod hown hK hP 0 rfl rfl 7 (by decide) (hts _ q_f_Mod_214) (fun _ h9 => h9) rfl d_Mod_joined_43 ?_
        refine lv_aload_n hx hb d_Mod_joined_46 rfl (lv_at hl 0 rfl) ?_
        refine lv_aload_n hx hb d_Mod_joined_47 rfl (lv_at hl 0 rfl) ?_
        refine va_get (D := D) (v := .int (m_at σ)) (C := R_Mod) (T := T_Mod) (N := 16) hx hb hts in_Mod hown hK hP 0 rfl rfl 7 (by decide) (hts _ q_f_Mod_214) (fun _ h9 => h9) rfl d_Mod_joined_48 ?_
        refine g_callVi ⟨hx, hb, hml, hown, hts⟩ (c_Mod_c h) (g_cwV 1 hts q_l_Mod_228 q_m_Mod_c q_s_Mod_c q_i_TokenDeskModel q_k_Mod_c (by decide +kernel) rfl rfl (by rw [hR]; exact ⟨Nat.le_of_ble_eq_true rfl, Nat.le_of_ble_eq_true rfl⟩)) (va_recv hK hP (q0 := 0) rfl rfl) cX_g hK hP hD hS hA hCx rfl hl.1 rfl (Nat.le_of_ble_eq_true rfl) d_Mod_joined_51 ⟨Nat.zero_le _, Nat.zero_le _⟩ (fun r7 σ8 H locs h hP hD hS => ?_)
        refine lv_bipush (v := 32) hx hb d_Mod_joined_54 (by decide) ?_
        refine lv_icmp_ne hx hb d_Mod_joined_56 (tgt := 63) rfl (fun hc => ?_) (fun hc => ?_)
        · have h := h.1 hc
          refine lv_iconst (v := 2) hx hb d_Mod_joined_63 (by decide) ?_
          exact L64 2 (m_at σ) σ8 _ _ _ h hP hD hS hl
        · have h := h.2 hc
          refine lv_iconst (v := 1) hx hb d_Mod_joined_59 (by decide) ?_
          refine lv_goto hx hb d_Mod_joined_60 (tgt := 64) rfl ?_
          exact L64 1 (m_at σ) σ8 _ _ _ h hP hD hS hl
      intro σ H locs ls h hP hD hS hl
      unfold L_Mod_joined_0 at h
      refine lv_aload_n hx hb d_Mod_joined_0 rfl (lv_at hl 0 rfl) ?_
      refine lv_aload_n hx hb d_Mod_joined_1 rfl (lv_at hl 0 rfl) ?_
      refine va_get (D := D) (v := .int (m_at σ)) (C := R_Mod) (T := T_Mod) (N := 16) hx hb hts in_Mod hown hK hP 0 rfl rfl 7 (by decide) (hts _ q_f_Mod_214) (fun _ h9 => h9) rfl d_Mod_joined_2 ?_
      refine g_callVi ⟨hx, hb, hml, hown, hts⟩ (c_Mod_c h) (g_cwV 1 hts q_l_Mod_228 q_m_Mod_c q_s_Mod_c q_i_TokenDeskModel q_k_Mod_c (by decide +kernel) rfl rfl (by rw [hR]; exact ⟨Nat.le_of_ble_eq_true rfl, Nat.le_of_ble_eq_true rfl⟩)) (va_recv hK hP (q0 := 0) rfl rfl) cX_g hK hP hD hS hA hCx rfl hl.1 rfl (Nat.le_of_ble_eq_true rfl) d_Mod_joined_5 ⟨Nat.zero_le _, Nat.zero_le _⟩ (fun r1 σ2 H locs h hP hD hS => ?_)
      refine lv_bipush (v := 32) hx hb d_Mod_joined_8 (by decide) ?_
      refine lv_icmp_eq hx hb d_Mod_joined_10 (tgt := 41) rfl (fun hc => ?_) (fun hc => ?_)
      · have h := h.1 hc
        exact L41 σ2 _ _ _ h hP hD hS hl
      · have h := h.2 hc
        refine lv_aload_n hx hb d_Mod_joined_13 rfl (lv_at hl 0 rfl) ?_
        refine lv_aload_n hx hb d_Mod_joined_14 rfl (lv_at hl 0 rfl) ?_
        refine va_get (D := D) (v := .int (m_at σ2)) (C := R_Mod) (T := T_Mod) (N := 16) hx hb hts in_Mod hown hK hP 0 rfl rfl 7 (by decide) (hts _ q_f_Mod_214) (fun _ h9 => h9) rfl d_Mod_joined_15 ?_
        refine g_callVi ⟨hx, hb, hml, hown, hts⟩ (c_Mod_c h) (g_cwV 1 hts q_l_Mod_228 q_m_Mod_c q_s_Mod_c q_i_TokenDeskModel q_k_Mod_c (by decide +kernel) rfl rfl (by rw [hR]; exact ⟨Nat.le_of_ble_eq_true rfl, Nat.le_of_ble_eq_true rfl⟩)) (va_recv hK hP (q0 := 0) rfl rfl) cX_g hK hP hD hS hA hCx rfl hl.1 rfl (Nat.le_of_ble_eq_true rfl) d_Mod_joined_18 ⟨Nat.zero_le _, Nat.zero_le _⟩ (fun r3 σ4 H locs h hP hD hS => ?_)
        refine lv_bipush (v := 92) hx hb d_Mod_joined_21 (by decide) ?_
        refine lv_icmp_ne hx hb d_Mod_joined_23 (tgt := 71) rfl (fun hc => ?_) (fun hc => ?_)
        · have h := h.1 hc
          exact hret _ _ _ _ _ h hP hD hS d_Mod_joined_71
        · have h := h.2 hc
          refine lv_aload_n hx hb d_Mod_joined_26 rfl (lv_at hl 0 rfl) ?_
          refine lv_aload_n hx hb d_Mod_joined_27 rfl (lv_at hl 0 rfl) ?_
          refine va_get (D := D) (v := .int (m_at σ4)) (C := R_Mod) (T := T_Mod) (N := 16) hx hb hts in_Mod hown hK hP 0 rfl rfl 7 (by decide) (hts _ q_f_Mod_214) (fun _ h9 => h9) rfl d_Mod_joined_28 ?_
          refine lv_iconst (v := 1) hx hb d_Mod_joined_31 (by decide) ?_
          refine lv_iadd hx hb d_Mod_joined_32 ?_
          refine g_callVi ⟨hx, hb, hml, hown, hts⟩ (c_Mod_c h) (g_cwV 1 hts q_l_Mod_228 q_m_Mod_c q_s_Mod_c q_i_TokenDeskModel q_k_Mod_c (by decide +kernel) rfl rfl (by rw [hR]; exact ⟨Nat.le_of_ble_eq_true rfl, Nat.le_of_ble_eq_true rfl⟩)) (va_recv hK hP (q0 := 0) rfl rfl) cX_g hK hP hD hS hA hCx rfl hl.1 rfl (Nat.le_of_ble_eq_true rfl) d_Mod_joined_33 ⟨Nat.zero_le _, Nat.zero_le _⟩ (fun r5 σ6 H locs h hP hD hS => ?_)
          refine lv_bipush (v := 10) hx hb d_Mod_joined_36 (by decide) ?_
          refine lv_icmp_ne hx hb d_Mod_joined_38 (tgt := 71) rfl (fun hc => ?_) (fun hc => ?_)
          · have h := h.1 hc
            exact hret _ _ _ _ _ h hP hD hS d_Mod_joined_71
          · have h := h.2 hc
            exact L41 σ6 _ _ _ h hP hD hS hl
  obtain ⟨n, h⟩ := h
  exact L0 n σ _ _ _ h hP hD hS hl
set_option maxHeartbeats 4000000 in
set_option maxRecDepth 100000 in
theorem c_Mod_between {l : Launch} {D : va_G} {ad : Nat → Nat} {ty : Nat → ClassId} {cd : Nat → Nat → Nat} {σ : MS} {post : MS → Prop} (h : wp_Mod_between σ post) : g_Metv l y_Mod_between (Cond.code y_Mod_between b_Mod_between 2 none :: gW) ({ frames := 2, cells := 0, slots := 0, locals := 41 }) D vwCl (gT ty) (mW ad ty cd) (cX cd) [.ref (ad 0)] σ post := by
  refine g_startv (cc := b_Mod_between) (maxL := 2) (by decide) rfl (Nat.le_of_ble_eq_true rfl) ?_
  intro p e s m args below meth c A Q R ls hR hx hb hts hown hml hA hS hP hD hK hCx hl hret
  unfold wp_Mod_between at h
  have hown : s.vm.findClass "TokenDeskModel" = some m.cls := hown
  have hl : lv_has ls 2 [(0, .ref (ad 0))] := hl
  have L0 : ∀ n : Nat, ∀ (σ : MS) (H : Heap) (locs : List Loc) (ls : Array Slot), L_Mod_between_0 post n σ → va_P D vwCl (mW ad ty cd σ) H → va_D A (mW ad ty cd σ) → va_S A s.heap H locs → lv_has ls 2 [(0, .ref (ad 0))] → W p l e R s m args below meth c H locs 0 0 Q (F0 m 0 ls []) := by
    intro n0
    induction n0 with
    | zero => intro σ H locs ls h hP hD hS hl; exact h.elim
    | succ n0 ih0 =>
      have L56 : ∀ (x1 : Int32) (σ : MS) (H : Heap) (locs : List Loc) (ls : Array Slot), L_Mod_between_56 post (fun σ => L_Mod_between_0 post n0 σ) x1 σ → va_P D vwCl (mW ad ty cd σ) H → va_D A (mW ad ty cd σ) → va_S A s.heap H locs → lv_has ls 2 [(0, .ref (ad 0)), (1, .int x1)] → W p l e R s m args below meth c H locs 0 0 Q (F0 m 56 ls []) := by
        intro x1 σ H locs ls h hP hD hS hl
        unfold L_Mod_between_56 at h
        refine lv_aload_n hx hb d_Mod_between_56 rfl (lv_at hl 0 rfl) ?_
        refine va_get (D := D) (v := .int (m_at σ)) (C := R_Mod) (T := T_Mod) (N := 16) hx hb hts in_Mod hown hK hP 0 rfl rfl 7 (by decide) (hts _ q_f_Mod_214) (fun _ h9 => h9) rfl d_Mod_between_57 ?_
        refine lv_iload_n hx hb d_Mod_between_60 rfl (lv_at hl 1 rfl) ?_
        refine lv_icmp_ne hx hb d_Mod_between_61 (tgt := 65) rfl (fun hc => ?_) (fun hc => ?_)
        · have h := h.1 hc
          refine lv_goto hx hb d_Mod_between_65 (tgt := 0) rfl ?_
          exact ih0 σ _ _ _ h hP hD hS (lv_sub hl [0] rfl)
        · have h := h.2 hc
          exact hret _ _ _ _ _ h hP hD hS d_Mod_between_64
      have L26 : ∀ (x1 : Int32) (σ : MS) (H : Heap) (locs : List Loc) (ls : Array Slot), L_Mod_between_26 post (fun σ => L_Mod_between_0 post n0 σ) x1 σ → va_P D vwCl (mW ad ty cd σ) H → va_D A (mW ad ty cd σ) → va_S A s.heap H locs → lv_has ls 2 [(0, .ref (ad 0)), (1, .int x1)] → W p l e R s m args below meth c H locs 0 0 Q (F0 m 26 ls []) := by
        intro x1 σ H locs ls h hP hD hS hl
        unfold L_Mod_between_26 at h
        refine lv_aload_n hx hb d_Mod_between_26 rfl (lv_at hl 0 rfl) ?_
        refine lv_aload_n hx hb d_Mod_between_27 rfl (lv_at hl 0 rfl) ?_
        refine va_get (D := D) (v := .int (m_at σ)) (C := R_Mod) (T := T_Mod) (N := 16) hx hb hts in_Mod hown hK hP 0 rfl rfl 7 (by decide) (hts _ q_f_Mod_214) (fun _ h9 => h9) rfl d_Mod_between_28 ?_
        refine g_callVi ⟨hx, hb, hml, hown, hts⟩ (c_Mod_c h) (g_cwV 1 hts q_l_Mod_228 q_m_Mod_c q_s_Mod_c q_i_TokenDeskModel q_k_Mod_c (by decide +kernel) rfl rfl (by rw [hR]; exact ⟨Nat.le_of_ble_eq_true rfl, Nat.le_of_ble_eq_true rfl⟩)) (va_recv hK hP (q0 := 0) rfl rfl) cX_g hK hP hD hS hA hCx rfl hl.1 rfl (Nat.le_of_ble_eq_true rfl) d_Mod_between_31 ⟨Nat.zero_le _, Nat.zero_le _⟩ (fun r5 σ6 H locs h hP hD hS => ?_)
        refine lv_bipush (v := 10) hx hb d_Mod_between_34 (by decide) ?_
        refine lv_icmp_ne hx hb d_Mod_between_36 (tgt := 56) rfl (fun hc => ?_) (fun hc => ?_)
        · have h := h.1 hc
          exact L56 x1 σ6 _ _ _ h hP hD hS hl
        · have h := h.2 hc
          refine lv_aload_n hx hb d_Mod_between_39 rfl (lv_at hl 0 rfl) ?_
          refine va_get (D := D) (v := .int (m_depth σ6)) (C := R_Mod) (T := T_Mod) (N := 16) hx hb hts in_Mod hown hK hP 0 rfl rfl 8 (by decide) (hts _ q_f_Mod_238) (fun _ h9 => h9) rfl d_Mod_between_40 ?_
          refine lv_if_le hx hb d_Mod_between_43 (tgt := 56) rfl (fun hc => ?_) (fun hc => ?_)
          · have h := h.1 hc
            exact L56 x1 σ6 _ _ _ h hP hD hS hl
          · have h := h.2 hc
            refine lv_aload_n hx hb d_Mod_between_46 rfl (lv_at hl 0 rfl) ?_
            refine lv_dup hx hb d_Mod_between_47 rfl ?_
            refine va_get (D := D) (v := .int (m_at σ6)) (C := R_Mod) (T := T_Mod) (N := 16) hx hb hts in_Mod hown hK hP 0 rfl rfl 7 (by decide) (hts _ q_f_Mod_214) (fun _ h9 => h9) rfl d_Mod_between_48 ?_
            refine lv_iconst (v := 1) hx hb d_Mod_between_51 (by decide) ?_
            refine lv_iadd hx hb d_Mod_between_52 ?_
            refine va_put (D := D) (v := .int ((m_at σ6) + 1)) (ty := .int) (C := R_Mod) (T := T_Mod) (N := 16) hx hb hts in_Mod t_Mod tk_Mod n_Mod hown hK hP hD hS 0 rfl rfl 7 (by decide) (hts _ q_f_Mod_214) (fun _ h9 => h9) rfl (by decide +kernel) rfl rfl (Nat.le_of_ble_eq_true rfl) d_Mod_between_53 (fun H locs hP hD hS => ?_)
            have hP : va_P D vwCl (mW ad ty cd (m_at' σ6 ((m_at σ6) + 1))) H := hP
            have hD : va_D A (mW ad ty cd (m_at' σ6 ((m_at σ6) + 1))) := hD
            obtain ⟨σ7, eσ7⟩ : ∃ z, z = (m_at' σ6 ((m_at σ6) + 1)) := ⟨_, rfl⟩
            rw [← eσ7] at hP hD
            have h := h σ7 eσ7
            exact L56 x1 σ7 _ _ _ h hP hD hS hl
      intro σ H locs ls h hP hD hS hl
      unfold L_Mod_between_0 at h
      refine lv_aload_n hx hb d_Mod_between_0 rfl (lv_at hl 0 rfl) ?_
      refine va_get (D := D) (v := .int (m_at σ)) (C := R_Mod) (T := T_Mod) (N := 16) hx hb hts in_Mod hown hK hP 0 rfl rfl 7 (by decide) (hts _ q_f_Mod_214) (fun _ h9 => h9) rfl d_Mod_between_1 ?_
      refine lv_istore_n hx hb d_Mod_between_4 rfl hl (by decide) rfl (fun ls hl => ?_)
      refine lv_aload_n hx hb d_Mod_between_5 rfl (lv_at hl 1 rfl) ?_
      refine g_callVv ⟨hx, hb, hml, hown, hts⟩ (c_Mod_joined h) (g_cwV 0 hts q_l_Mod_232 q_m_Mod_joined q_s_Mod_joined q_i_TokenDeskModel q_k_Mod_joined (by decide +kernel) rfl rfl (by rw [hR]; exact ⟨Nat.le_of_ble_eq_true rfl, Nat.le_of_ble_eq_true rfl⟩)) (va_recv hK hP (q0 := 0) rfl rfl) cX_g hK hP hD hS hA hCx rfl hl.1 rfl (Nat.le_of_ble_eq_true rfl) d_Mod_between_6 ⟨Nat.zero_le _, Nat.zero_le _⟩ (fun σ1 H locs h hP hD hS => ?_)
      refine lv_aload_n hx hb d_Mod_between_9 rfl (lv_at hl 1 rfl) ?_
      refine lv_aload_n hx hb d_Mod_between_10 rfl (lv_at hl 1 rfl) ?_
      refine va_get (D := D) (v := .int (m_at σ1)) (C := R_Mod) (T := T_Mod) (N := 16) hx hb hts in_Mod hown hK hP 0 rfl rfl 7 (by decide) (hts _ q_f_Mod_214) (fun _ h9 => h9) rfl d_Mod_between_11 ?_
      refine g_callVi ⟨hx, hb, hml, hown, hts⟩ (c_Mod_c h) (g_cwV 1 hts q_l_Mod_228 q_m_Mod_c q_s_Mod_c q_i_TokenDeskModel q_k_Mod_c (by decide +kernel) rfl rfl (by rw [hR]; exact ⟨Nat.le_of_ble_eq_true rfl, Nat.le_of_ble_eq_true rfl⟩)) (va_recv hK hP (q0 := 0) rfl rfl) cX_g hK hP hD hS hA hCx rfl hl.1 rfl (Nat.le_of_ble_eq_true rfl) d_Mod_between_14 ⟨Nat.zero_le _, Nat.zero_le _⟩ (fun r2 σ3 H locs h hP hD hS => ?_)
      refine lv_bipush (v := 35) hx hb d_Mod_between_17 (by decide) ?_
      refine lv_icmp_ne hx hb d_Mod_between_19 (tgt := 26) rfl (fun hc => ?_) (fun hc => ?_)
      · have h := h.1 hc
        exact L26 (m_at σ) σ3 _ _ _ h hP hD hS (lv_sub hl [1, 0] rfl)
      · have h := h.2 hc
        refine lv_aload_n hx hb d_Mod_between_22 rfl (lv_at hl 1 rfl) ?_
        refine g_callVv ⟨hx, hb, hml, hown, hts⟩ (c_Mod_comment h) (g_cwV 0 hts q_l_Mod_235 q_m_Mod_comment q_s_Mod_comment q_i_TokenDeskModel q_k_Mod_comment (by decide +kernel) rfl rfl (by rw [hR]; exact ⟨Nat.le_of_ble_eq_true rfl, Nat.le_of_ble_eq_true rfl⟩)) (va_recv hK hP (q0 := 0) rfl rfl) cX_g hK hP hD hS hA hCx rfl hl.1 rfl (Nat.le_of_ble_eq_true rfl) d_Mod_between_23 ⟨Nat.zero_le _, Nat.zero_le _⟩ (fun σ4 H locs h hP hD hS => ?_)
        exact L26 (m_at σ) σ4 _ _ _ h hP hD hS (lv_sub hl [1, 0] rfl)
  obtain ⟨n, h⟩ := h
  exact L0 n σ _ _ _ h hP hD hS hl
set_option maxHeartbeats 4000000 in
set_option maxRecDepth 100000 in
theorem c_Mod_isDigit {l : Launch} {D : va_G} {ad : Nat → Nat} {ty : Nat → ClassId} {cd : Nat → Nat → Nat} {a1 : Int32} {σ : MS} {post : Int32 → MS → Prop} (h : wp_Mod_isDigit a1 σ post) : g_Meti l y_Mod_isDigit (Cond.code y_Mod_isDigit b_Mod_isDigit 1 (some .boolean) :: gW) ({ frames := 0, cells := 0, slots := 0, locals := 0 }) D vwCl (gT ty) (mW ad ty cd) (cX cd) [.int a1] σ post := by
  refine g_startz (cc := b_Mod_isDigit) (maxL := 1) (by decide) rfl (Nat.le_of_ble_eq_true rfl) ?_
  intro p e s m args below meth c A Q R ls hR hx hb hts hown hml hA hS hP hD hK hCx hl hret
  unfold wp_Mod_isDigit at h
  have hown : s.vm.findClass "TokenDeskModel" = some m.cls := hown
  have hl : lv_has ls 1 [(0, .int a1)] := hl
  refine lv_iload_n hx hb d_Mod_isDigit_0 rfl (lv_at hl 0 rfl) ?_
  refine lv_bipush (v := 48) hx hb d_Mod_isDigit_1 (by decide) ?_
  refine lv_icmp_lt hx hb d_Mod_isDigit_3 (tgt := 16) rfl (fun hc => ?_) (fun hc => ?_)
  · have h := h.1 hc
    refine lv_iconst (v := 0) hx hb d_Mod_isDigit_16 (by decide) ?_
    exact hret _ _ _ _ _ _ h rfl hP hD hS d_Mod_isDigit_17
  · have h := h.2 hc
    refine lv_iload_n hx hb d_Mod_isDigit_6 rfl (lv_at hl 0 rfl) ?_
    refine lv_bipush (v := 57) hx hb d_Mod_isDigit_7 (by decide) ?_
    refine lv_icmp_gt hx hb d_Mod_isDigit_9 (tgt := 16) rfl (fun hc => ?_) (fun hc => ?_)
    · have h := h.1 hc
      refine lv_iconst (v := 0) hx hb d_Mod_isDigit_16 (by decide) ?_
      exact hret _ _ _ _ _ _ h rfl hP hD hS d_Mod_isDigit_17
    · have h := h.2 hc
      refine lv_iconst (v := 1) hx hb d_Mod_isDigit_12 (by decide) ?_
      refine lv_goto hx hb d_Mod_isDigit_13 (tgt := 17) rfl ?_
      exact hret _ _ _ _ _ _ h rfl hP hD hS d_Mod_isDigit_17
set_option maxHeartbeats 4000000 in
set_option maxRecDepth 100000 in
theorem c_Mod_isLetter {l : Launch} {D : va_G} {ad : Nat → Nat} {ty : Nat → ClassId} {cd : Nat → Nat → Nat} {a1 : Int32} {σ : MS} {post : Int32 → MS → Prop} (h : wp_Mod_isLetter a1 σ post) : g_Meti l y_Mod_isLetter (Cond.code y_Mod_isLetter b_Mod_isLetter 1 (some .boolean) :: gW) ({ frames := 0, cells := 0, slots := 0, locals := 0 }) D vwCl (gT ty) (mW ad ty cd) (cX cd) [.int a1] σ post := by
  refine g_startz (cc := b_Mod_isLetter) (maxL := 1) (by decide) rfl (Nat.le_of_ble_eq_true rfl) ?_
  intro p e s m args below meth c A Q R ls hR hx hb hts hown hml hA hS hP hD hK hCx hl hret
  unfold wp_Mod_isLetter at h
  have hown : s.vm.findClass "TokenDeskModel" = some m.cls := hown
  have hl : lv_has ls 1 [(0, .int a1)] := hl
  have L30 : ∀ (σ : MS) (H : Heap) (locs : List Loc) (ls : Array Slot), L_Mod_isLetter_30 post σ → va_P D vwCl (mW ad ty cd σ) H → va_D A (mW ad ty cd σ) → va_S A s.heap H locs → lv_has ls 1 [] → W p l e R s m args below meth c H locs 0 0 Q (F0 m 30 ls []) := by
    intro σ H locs ls h hP hD hS hl
    unfold L_Mod_isLetter_30 at h
    refine lv_iconst (v := 1) hx hb d_Mod_isLetter_30 (by decide) ?_
    refine lv_goto hx hb d_Mod_isLetter_31 (tgt := 35) rfl ?_
    exact hret _ _ _ _ _ _ h rfl hP hD hS d_Mod_isLetter_35
  have L24 : ∀ (x0 : Int32) (σ : MS) (H : Heap) (locs : List Loc) (ls : Array Slot), L_Mod_isLetter_24 post x0 σ → va_P D vwCl (mW ad ty cd σ) H → va_D A (mW ad ty cd σ) → va_S A s.heap H locs → lv_has ls 1 [(0, .int x0)] → W p l e R s m args below meth c H locs 0 0 Q (F0 m 24 ls []) := by
    intro x0 σ H locs ls h hP hD hS hl
    unfold L_Mod_isLetter_24 at h
    refine lv_iload_n hx hb d_Mod_isLetter_24 rfl (lv_at hl 0 rfl) ?_
    refine lv_bipush (v := 95) hx hb d_Mod_isLetter_25 (by decide) ?_
    refine lv_icmp_ne hx hb d_Mod_isLetter_27 (tgt := 34) rfl (fun hc => ?_) (fun hc => ?_)
    · have h := h.1 hc
      refine lv_iconst (v := 0) hx hb d_Mod_isLetter_34 (by decide) ?_
      exact hret _ _ _ _ _ _ h rfl hP hD hS d_Mod_isLetter_35
    · have h := h.2 hc
      exact L30 σ _ _ _ h hP hD hS (lv_sub hl [] rfl)
  have L12 : ∀ (x0 : Int32) (σ : MS) (H : Heap) (locs : List Loc) (ls : Array Slot), L_Mod_isLetter_12 post x0 σ → va_P D vwCl (mW ad ty cd σ) H → va_D A (mW ad ty cd σ) → va_S A s.heap H locs → lv_has ls 1 [(0, .int x0)] → W p l e R s m args below meth c H locs 0 0 Q (F0 m 12 ls []) := by
    intro x0 σ H locs ls h hP hD hS hl
    unfold L_Mod_isLetter_12 at h
    refine lv_iload_n hx hb d_Mod_isLetter_12 rfl (lv_at hl 0 rfl) ?_
    refine lv_bipush (v := 65) hx hb d_Mod_isLetter_13 (by decide) ?_
    refine lv_icmp_lt hx hb d_Mod_isLetter_15 (tgt := 24) rfl (fun hc => ?_) (fun hc => ?_)
    · have h := h.1 hc
      exact L24 x0 σ _ _ _ h hP hD hS hl
    · have h := h.2 hc
      refine lv_iload_n hx hb d_Mod_isLetter_18 rfl (lv_at hl 0 rfl) ?_
      refine lv_bipush (v := 90) hx hb d_Mod_isLetter_19 (by decide) ?_
      refine lv_icmp_le hx hb d_Mod_isLetter_21 (tgt := 30) rfl (fun hc => ?_) (fun hc => ?_)
      · have h := h.1 hc
        exact L30 σ _ _ _ h hP hD hS (lv_sub hl [] rfl)
      · have h := h.2 hc
        exact L24 x0 σ _ _ _ h hP hD hS hl
  refine lv_iload_n hx hb d_Mod_isLetter_0 rfl (lv_at hl 0 rfl) ?_
  refine lv_bipush (v := 97) hx hb d_Mod_isLetter_1 (by decide) ?_
  refine lv_icmp_lt hx hb d_Mod_isLetter_3 (tgt := 12) rfl (fun hc => ?_) (fun hc => ?_)
  · have h := h.1 hc
    exact L12 a1 σ _ _ _ h hP hD hS hl
  · have h := h.2 hc
    refine lv_iload_n hx hb d_Mod_isLetter_6 rfl (lv_at hl 0 rfl) ?_
    refine lv_bipush (v := 122) hx hb d_Mod_isLetter_7 (by decide) ?_
    refine lv_icmp_le hx hb d_Mod_isLetter_9 (tgt := 30) rfl (fun hc => ?_) (fun hc => ?_)
    · have h := h.1 hc
      exact L30 σ _ _ _ h hP hD hS (lv_sub hl [] rfl)
    · have h := h.2 hc
      exact L12 a1 σ _ _ _ h hP hD hS hl
set_option maxHeartbeats 4000000 in
set_option maxRecDepth 100000 in
theorem c_Mod_value {l : Launch} {D : va_G} {ad : Nat → Nat} {ty : Nat → ClassId} {cd : Nat → Nat → Nat} {a1 : Int32} {σ : MS} {post : Int32 → MS → Prop} (h : wp_Mod_value a1 σ post) : g_Meti l y_Mod_value (Cond.code y_Mod_value b_Mod_value 1 (some .int) :: gW) ({ frames := 1, cells := 0, slots := 0, locals := 20 }) D vwCl (gT ty) (mW ad ty cd) (cX cd) [.int a1] σ post := by
  refine g_starti (cc := b_Mod_value) (maxL := 1) (by decide) rfl (Nat.le_of_ble_eq_true rfl) ?_
  intro p e s m args below meth c A Q R ls hR hx hb hts hown hml hA hS hP hD hK hCx hl hret
  unfold wp_Mod_value at h
  have hown : s.vm.findClass "TokenDeskModel" = some m.cls := hown
  have hl : lv_has ls 1 [(0, .int a1)] := hl
  have L36 : ∀ (x0 : Int32) (σ : MS) (H : Heap) (locs : List Loc) (ls : Array Slot), L_Mod_value_36 post x0 σ → va_P D vwCl (mW ad ty cd σ) H → va_D A (mW ad ty cd σ) → va_S A s.heap H locs → lv_has ls 1 [(0, .int x0)] → W p l e R s m args below meth c H locs 0 0 Q (F0 m 36 ls []) := by
    intro x0 σ H locs ls h hP hD hS hl
    unfold L_Mod_value_36 at h
    refine lv_iload_n hx hb d_Mod_value_36 rfl (lv_at hl 0 rfl) ?_
    refine lv_bipush (v := 65) hx hb d_Mod_value_37 (by decide) ?_
    refine lv_icmp_lt hx hb d_Mod_value_39 (tgt := 58) rfl (fun hc => ?_) (fun hc => ?_)
    · have h := h.1 hc
      refine lv_bipush (v := 99) hx hb d_Mod_value_58 (by decide) ?_
      exact hret _ _ _ _ _ _ h hP hD hS d_Mod_value_60
    · have h := h.2 hc
      refine lv_iload_n hx hb d_Mod_value_42 rfl (lv_at hl 0 rfl) ?_
      refine lv_bipush (v := 70) hx hb d_Mod_value_43 (by decide) ?_
      refine lv_icmp_gt hx hb d_Mod_value_45 (tgt := 58) rfl (fun hc => ?_) (fun hc => ?_)
      · have h := h.1 hc
        refine lv_bipush (v := 99) hx hb d_Mod_value_58 (by decide) ?_
        exact hret _ _ _ _ _ _ h hP hD hS d_Mod_value_60
      · have h := h.2 hc
        refine lv_iload_n hx hb d_Mod_value_48 rfl (lv_at hl 0 rfl) ?_
        refine lv_bipush (v := 65) hx hb d_Mod_value_49 (by decide) ?_
        refine lv_isub hx hb d_Mod_value_51 ?_
        refine lv_bipush (v := 10) hx hb d_Mod_value_52 (by decide) ?_
        refine lv_iadd hx hb d_Mod_value_54 ?_
        refine lv_goto hx hb d_Mod_value_55 (tgt := 60) rfl ?_
        exact hret _ _ _ _ _ _ h hP hD hS d_Mod_value_60
  refine lv_iload_n hx hb d_Mod_value_0 rfl (lv_at hl 0 rfl) ?_
  refine g_callSi ⟨hx, hb, hml, hown, hts⟩ (c_Mod_isDigit h) (g_cwS 1 hts q_l_Mod_247 q_t_Mod_isDigit q_i_TokenDeskModel q_k_Mod_isDigit (by decide +kernel) rfl rfl (by rw [hR]; exact ⟨Nat.le_of_ble_eq_true rfl, Nat.le_of_ble_eq_true rfl⟩)) cX_g hK hP hD hS hA hCx rfl hl.1 rfl (Nat.le_of_ble_eq_true rfl) d_Mod_value_1 ⟨Nat.zero_le _, Nat.zero_le _⟩ (fun r1 σ2 H locs h hP hD hS => ?_)
  refine lv_if_eq hx hb d_Mod_value_4 (tgt := 14) rfl (fun hc => ?_) (fun hc => ?_)
  · have h := h.1 hc
    refine lv_iload_n hx hb d_Mod_value_14 rfl (lv_at hl 0 rfl) ?_
    refine lv_bipush (v := 97) hx hb d_Mod_value_15 (by decide) ?_
    refine lv_icmp_lt hx hb d_Mod_value_17 (tgt := 36) rfl (fun hc => ?_) (fun hc => ?_)
    · have h := h.1 hc
      exact L36 a1 σ2 _ _ _ h hP hD hS hl
    · have h := h.2 hc
      refine lv_iload_n hx hb d_Mod_value_20 rfl (lv_at hl 0 rfl) ?_
      refine lv_bipush (v := 102) hx hb d_Mod_value_21 (by decide) ?_
      refine lv_icmp_gt hx hb d_Mod_value_23 (tgt := 36) rfl (fun hc => ?_) (fun hc => ?_)
      · have h := h.1 hc
        exact L36 a1 σ2 _ _ _ h hP hD hS hl
      · have h := h.2 hc
        refine lv_iload_n hx hb d_Mod_value_26 rfl (lv_at hl 0 rfl) ?_
        refine lv_bipush (v := 97) hx hb d_Mod_value_27 (by decide) ?_
        refine lv_isub hx hb d_Mod_value_29 ?_
        refine lv_bipush (v := 10) hx hb d_Mod_value_30 (by decide) ?_
        refine lv_iadd hx hb d_Mod_value_32 ?_
        refine lv_goto hx hb d_Mod_value_33 (tgt := 60) rfl ?_
        exact hret _ _ _ _ _ _ h hP hD hS d_Mod_value_60
  · have h := h.2 hc
    refine lv_iload_n hx hb d_Mod_value_7 rfl (lv_at hl 0 rfl) ?_
    refine lv_bipush (v := 48) hx hb d_Mod_value_8 (by decide) ?_
    refine lv_isub hx hb d_Mod_value_10 ?_
    refine lv_goto hx hb d_Mod_value_11 (tgt := 60) rfl ?_
    exact hret _ _ _ _ _ _ h hP hD hS d_Mod_value_60
set_option maxHeartbeats 4000000 in
set_option maxRecDepth 100000 in
theorem c_Mod_digits {l : Launch} {D : va_G} {ad : Nat → Nat} {ty : Nat → ClassId} {cd : Nat → Nat → Nat} {a1 : Int32} {a2 : Int32} {σ : MS} {post : Int32 → MS → Prop} (h : wp_Mod_digits a1 a2 σ post) : g_Meti l y_Mod_digits (Cond.code y_Mod_digits b_Mod_digits 4 (some .int) :: gW) ({ frames := 2, cells := 0, slots := 0, locals := 40 }) D vwCl (gT ty) (mW ad ty cd) (cX cd) [.ref (ad 0), .int a1, .int a2] σ post := by
  refine g_starti (cc := b_Mod_digits) (maxL := 4) (by decide) rfl (Nat.le_of_ble_eq_true rfl) ?_
  intro p e s m args below meth c A Q R ls hR hx hb hts hown hml hA hS hP hD hK hCx hl hret
  unfold wp_Mod_digits at h
  have hown : s.vm.findClass "TokenDeskModel" = some m.cls := hown
  have hl : lv_has ls 4 [(0, .ref (ad 0)), (1, .int a1), (2, .int a2)] := hl
  have L2 : ∀ n : Nat, ∀ (x1 : Int32) (x2 : Int32) (x3 : Int32) (σ : MS) (H : Heap) (locs : List Loc) (ls : Array Slot), L_Mod_digits_2 post n x1 x2 x3 σ → va_P D vwCl (mW ad ty cd σ) H → va_D A (mW ad ty cd σ) → va_S A s.heap H locs → lv_has ls 4 [(0, .ref (ad 0)), (1, .int x1), (2, .int x2), (3, .int x3)] → W p l e R s m args below meth c H locs 0 0 Q (F0 m 2 ls []) := by
    intro n2
    induction n2 with
    | zero => intro x1 x2 x3 σ H locs ls h hP hD hS hl; exact h.elim
    | succ n2 ih2 =>
      have L57 : ∀ (x1 : Int32) (x2 : Int32) (x3 : Int32) (σ : MS) (H : Heap) (locs : List Loc) (ls : Array Slot), L_Mod_digits_57 post (fun x1 x2 x3 σ => L_Mod_digits_2 post n2 x1 x2 x3 σ) x1 x2 x3 σ → va_P D vwCl (mW ad ty cd σ) H → va_D A (mW ad ty cd σ) → va_S A s.heap H locs → lv_has ls 4 [(0, .ref (ad 0)), (1, .int x1), (2, .int x2), (3, .int x3)] → W p l e R s m args below meth c H locs 0 0 Q (F0 m 57 ls []) := by
        intro x1 x2 x3 σ H locs ls h hP hD hS hl
        unfold L_Mod_digits_57 at h
        refine lv_iinc (v := (x3 + 1)) hx hb d_Mod_digits_57 hl (k := 3) rfl rfl (by decide) rfl (fun ls hl => ?_)
        refine lv_goto hx hb d_Mod_digits_60 (tgt := 2) rfl ?_
        exact ih2 x1 x2 (x3 + 1) σ _ _ _ h hP hD hS (lv_sub hl [1, 2, 3, 0] rfl)
      intro x1 x2 x3 σ H locs ls h hP hD hS hl
      unfold L_Mod_digits_2 at h
      refine lv_aload_n hx hb d_Mod_digits_2 rfl (lv_at hl 0 rfl) ?_
      refine lv_iload_n hx hb d_Mod_digits_3 rfl (lv_at hl 3 rfl) ?_
      refine g_callVi ⟨hx, hb, hml, hown, hts⟩ (c_Mod_c h) (g_cwV 1 hts q_l_Mod_228 q_m_Mod_c q_s_Mod_c q_i_TokenDeskModel q_k_Mod_c (by decide +kernel) rfl rfl (by rw [hR]; exact ⟨Nat.le_of_ble_eq_true rfl, Nat.le_of_ble_eq_true rfl⟩)) (va_recv hK hP (q0 := 0) rfl rfl) cX_g hK hP hD hS hA hCx rfl hl.1 rfl (Nat.le_of_ble_eq_true rfl) d_Mod_digits_4 ⟨Nat.zero_le _, Nat.zero_le _⟩ (fun r1 σ2 H locs h hP hD hS => ?_)
      refine g_callSi ⟨hx, hb, hml, hown, hts⟩ (c_Mod_value h) (g_cwS 1 hts q_l_Mod_271 q_t_Mod_value q_i_TokenDeskModel q_k_Mod_value (by decide +kernel) rfl rfl (by rw [hR]; exact ⟨Nat.le_of_ble_eq_true rfl, Nat.le_of_ble_eq_true rfl⟩)) cX_g hK hP hD hS hA hCx rfl hl.1 rfl (Nat.le_of_ble_eq_true rfl) d_Mod_digits_7 ⟨Nat.zero_le _, Nat.zero_le _⟩ (fun r3 σ4 H locs h hP hD hS => ?_)
      refine lv_iload_n hx hb d_Mod_digits_10 rfl (lv_at hl 2 rfl) ?_
      refine lv_icmp_lt hx hb d_Mod_digits_11 (tgt := 57) rfl (fun hc => ?_) (fun hc => ?_)
      · have h := h.1 hc
        exact L57 x1 x2 x3 σ4 _ _ _ h hP hD hS hl
      · have h := h.2 hc
        refine lv_aload_n hx hb d_Mod_digits_14 rfl (lv_at hl 0 rfl) ?_
        refine lv_iload_n hx hb d_Mod_digits_15 rfl (lv_at hl 3 rfl) ?_
        refine g_callVi ⟨hx, hb, hml, hown, hts⟩ (c_Mod_c h) (g_cwV 1 hts q_l_Mod_228 q_m_Mod_c q_s_Mod_c q_i_TokenDeskModel q_k_Mod_c (by decide +kernel) rfl rfl (by rw [hR]; exact ⟨Nat.le_of_ble_eq_true rfl, Nat.le_of_ble_eq_true rfl⟩)) (va_recv hK hP (q0 := 0) rfl rfl) cX_g hK hP hD hS hA hCx rfl hl.1 rfl (Nat.le_of_ble_eq_true rfl) d_Mod_digits_16 ⟨Nat.zero_le _, Nat.zero_le _⟩ (fun r5 σ6 H locs h hP hD hS => ?_)
        refine lv_bipush (v := 95) hx hb d_Mod_digits_19 (by decide) ?_
        refine lv_icmp_ne hx hb d_Mod_digits_21 (tgt := 63) rfl (fun hc => ?_) (fun hc => ?_)
        · have h := h.1 hc
          refine lv_iload_n hx hb d_Mod_digits_63 rfl (lv_at hl 3 rfl) ?_
          exact hret _ _ _ _ _ _ h hP hD hS d_Mod_digits_64
        · have h := h.2 hc
          refine lv_iload_n hx hb d_Mod_digits_24 rfl (lv_at hl 3 rfl) ?_
          refine lv_iload_n hx hb d_Mod_digits_25 rfl (lv_at hl 1 rfl) ?_
          refine lv_icmp_le hx hb d_Mod_digits_26 (tgt := 63) rfl (fun hc => ?_) (fun hc => ?_)
          · have h := h.1 hc
            refine lv_iload_n hx hb d_Mod_digits_63 rfl (lv_at hl 3 rfl) ?_
            exact hret _ _ _ _ _ _ h hP hD hS d_Mod_digits_64
          · have h := h.2 hc
            refine lv_aload_n hx hb d_Mod_digits_29 rfl (lv_at hl 0 rfl) ?_
            refine lv_iload_n hx hb d_Mod_digits_30 rfl (lv_at hl 3 rfl) ?_
            refine lv_iconst (v := 1) hx hb d_Mod_digits_31 (by decide) ?_
            refine lv_isub hx hb d_Mod_digits_32 ?_
            refine g_callVi ⟨hx, hb, hml, hown, hts⟩ (c_Mod_c h) (g_cwV 1 hts q_l_Mod_228 q_m_Mod_c q_s_Mod_c q_i_TokenDeskModel q_k_Mod_c (by decide +kernel) rfl rfl (by rw [hR]; exact ⟨Nat.le_of_ble_eq_true rfl, Nat.le_of_ble_eq_true rfl⟩)) (va_recv hK hP (q0 := 0) rfl rfl) cX_g hK hP hD hS hA hCx rfl hl.1 rfl (Nat.le_of_ble_eq_true rfl) d_Mod_digits_33 ⟨Nat.zero_le _, Nat.zero_le _⟩ (fun r7 σ8 H locs h hP hD hS => ?_)
            refine g_callSi ⟨hx, hb, hml, hown, hts⟩ (c_Mod_value h) (g_cwS 1 hts q_l_Mod_271 q_t_Mod_value q_i_TokenDeskModel q_k_Mod_value (by decide +kernel) rfl rfl (by rw [hR]; exact ⟨Nat.le_of_ble_eq_true rfl, Nat.le_of_ble_eq_true rfl⟩)) cX_g hK hP hD hS hA hCx rfl hl.1 rfl (Nat.le_of_ble_eq_true rfl) d_Mod_digits_36 ⟨Nat.zero_le _, Nat.zero_le _⟩ (fun r9 σ10 H locs h hP hD hS => ?_)
            refine lv_iload_n hx hb d_Mod_digits_39 rfl (lv_at hl 2 rfl) ?_
            refine lv_icmp_ge hx hb d_Mod_digits_40 (tgt := 63) rfl (fun hc => ?_) (fun hc => ?_)
            · have h := h.1 hc
              refine lv_iload_n hx hb d_Mod_digits_63 rfl (lv_at hl 3 rfl) ?_
              exact hret _ _ _ _ _ _ h hP hD hS d_Mod_digits_64
            · have h := h.2 hc
              refine lv_aload_n hx hb d_Mod_digits_43 rfl (lv_at hl 0 rfl) ?_
              refine lv_iload_n hx hb d_Mod_digits_44 rfl (lv_at hl 3 rfl) ?_
              refine lv_iconst (v := 1) hx hb d_Mod_digits_45 (by decide) ?_
              refine lv_iadd hx hb d_Mod_digits_46 ?_
              refine g_callVi ⟨hx, hb, hml, hown, hts⟩ (c_Mod_c h) (g_cwV 1 hts q_l_Mod_228 q_m_Mod_c q_s_Mod_c q_i_TokenDeskModel q_k_Mod_c (by decide +kernel) rfl rfl (by rw [hR]; exact ⟨Nat.le_of_ble_eq_true rfl, Nat.le_of_ble_eq_true rfl⟩)) (va_recv hK hP (q0 := 0) rfl rfl) cX_g hK hP hD hS hA hCx rfl hl.1 rfl (Nat.le_of_ble_eq_true rfl) d_Mod_digits_47 ⟨Nat.zero_le _, Nat.zero_le _⟩ (fun r11 σ12 H locs h hP hD hS => ?_)
              refine g_callSi ⟨hx, hb, hml, hown, hts⟩ (c_Mod_value h) (g_cwS 1 hts q_l_Mod_271 q_t_Mod_value q_i_TokenDeskModel q_k_Mod_value (by decide +kernel) rfl rfl (by rw [hR]; exact ⟨Nat.le_of_ble_eq_true rfl, Nat.le_of_ble_eq_true rfl⟩)) cX_g hK hP hD hS hA hCx rfl hl.1 rfl (Nat.le_of_ble_eq_true rfl) d_Mod_digits_50 ⟨Nat.zero_le _, Nat.zero_le _⟩ (fun r13 σ14 H locs h hP hD hS => ?_)
              refine lv_iload_n hx hb d_Mod_digits_53 rfl (lv_at hl 2 rfl) ?_
              refine lv_icmp_ge hx hb d_Mod_digits_54 (tgt := 63) rfl (fun hc => ?_) (fun hc => ?_)
              · have h := h.1 hc
                refine lv_iload_n hx hb d_Mod_digits_63 rfl (lv_at hl 3 rfl) ?_
                exact hret _ _ _ _ _ _ h hP hD hS d_Mod_digits_64
              · have h := h.2 hc
                exact L57 x1 x2 x3 σ14 _ _ _ h hP hD hS hl
  refine lv_iload_n hx hb d_Mod_digits_0 rfl (lv_at hl 1 rfl) ?_
  refine lv_istore_n hx hb d_Mod_digits_1 rfl hl (by decide) rfl (fun ls hl => ?_)
  obtain ⟨n, h⟩ := h
  exact L2 n a1 a2 a1 σ _ _ _ h hP hD hS (lv_sub hl [1, 2, 3, 0] rfl)
set_option maxHeartbeats 4000000 in
set_option maxRecDepth 100000 in
theorem c_Mod_number {l : Launch} {D : va_G} {ad : Nat → Nat} {ty : Nat → ClassId} {cd : Nat → Nat → Nat} {σ : MS} {post : Int32 → MS → Prop} (h : wp_Mod_number σ post) : g_Meti l y_Mod_number (Cond.code y_Mod_number b_Mod_number 9 (some .boolean) :: gW) ({ frames := 3, cells := 0, slots := 0, locals := 63 }) D vwCl (gT ty) (mW ad ty cd) (cX cd) [.ref (ad 0)] σ post := by
  refine g_startz (cc := b_Mod_number) (maxL := 9) (by decide) rfl (Nat.le_of_ble_eq_true rfl) ?_
  intro p e s m args below meth c A Q R ls hR hx hb hts hown hml hA hS hP hD hK hCx hl hret
  unfold wp_Mod_number at h
  have hown : s.vm.findClass "TokenDeskModel" = some m.cls := hown
  have hl : lv_has ls 9 [(0, .ref (ad 0))] := hl
  have L350 : ∀ (x1 : Int32) (σ : MS) (H : Heap) (locs : List Loc) (ls : Array Slot), L_Mod_number_350 post x1 σ → va_P D vwCl (mW ad ty cd σ) H → va_D A (mW ad ty cd σ) → va_S A s.heap H locs → lv_has ls 9 [(0, .ref (ad 0)), (1, .int x1)] → W p l e R s m args below meth c H locs 0 0 Q (F0 m 350 ls []) := by
    intro x1 σ H locs ls h hP hD hS hl
    unfold L_Mod_number_350 at h
    refine lv_aload_n hx hb d_Mod_number_350 rfl (lv_at hl 0 rfl) ?_
    refine lv_iload_n hx hb d_Mod_number_351 rfl (lv_at hl 1 rfl) ?_
    refine g_callVi ⟨hx, hb, hml, hown, hts⟩ (c_Mod_bad h) (g_cwV 1 hts q_l_Mod_210 q_m_Mod_bad q_s_Mod_bad q_i_TokenDeskModel q_k_Mod_bad (by decide +kernel) rfl rfl (by rw [hR]; exact ⟨Nat.le_of_ble_eq_true rfl, Nat.le_of_ble_eq_true rfl⟩)) (va_recv hK hP (q0 := 0) rfl rfl) cX_g hK hP hD hS hA hCx rfl hl.1 rfl (Nat.le_of_ble_eq_true rfl) d_Mod_number_352 ⟨Nat.zero_le _, Nat.zero_le _⟩ (fun r28 σ29 H locs h hP hD hS => ?_)
    refine lv_goto hx hb d_Mod_number_355 (tgt := 367) rfl ?_
    exact hret _ _ _ _ _ _ h.2 h.1 hP hD hS d_Mod_number_367
  have L320 : ∀ (x1 : Int32) (x4 : Int32) (x5 : Int32) (σ : MS) (H : Heap) (locs : List Loc) (ls : Array Slot), L_Mod_number_320 post x1 x4 x5 σ → va_P D vwCl (mW ad ty cd σ) H → va_D A (mW ad ty cd σ) → va_S A s.heap H locs → lv_has ls 9 [(0, .ref (ad 0)), (1, .int x1), (4, .int x4), (5, .int x5)] → W p l e R s m args below meth c H locs 0 0 Q (F0 m 320 ls []) := by
    intro x1 x4 x5 σ H locs ls h hP hD hS hl
    unfold L_Mod_number_320 at h
    refine lv_aload_n hx hb d_Mod_number_320 rfl (lv_at hl 0 rfl) ?_
    refine lv_iload hx hb d_Mod_number_321 (lv_at hl 3 rfl) ?_
    refine va_put (D := D) (v := .int x5) (ty := .int) (C := R_Mod) (T := T_Mod) (N := 16) hx hb hts in_Mod t_Mod tk_Mod n_Mod hown hK hP hD hS 0 rfl rfl 7 (by decide) (hts _ q_f_Mod_214) (fun _ h9 => h9) rfl (by decide +kernel) rfl rfl (Nat.le_of_ble_eq_true rfl) d_Mod_number_323 (fun H locs hP hD hS => ?_)
    have hP : va_P D vwCl (mW ad ty cd (m_at' σ x5)) H := hP
    have hD : va_D A (mW ad ty cd (m_at' σ x5)) := hD
    obtain ⟨σ17, eσ17⟩ : ∃ z, z = (m_at' σ x5) := ⟨_, rfl⟩
    rw [← eσ17] at hP hD
    have h := h σ17 eσ17
    refine lv_aload_n hx hb d_Mod_number_326 rfl (lv_at hl 0 rfl) ?_
    refine lv_iload hx hb d_Mod_number_327 (lv_at hl 3 rfl) ?_
    refine g_callVi ⟨hx, hb, hml, hown, hts⟩ (c_Mod_c h) (g_cwV 1 hts q_l_Mod_228 q_m_Mod_c q_s_Mod_c q_i_TokenDeskModel q_k_Mod_c (by decide +kernel) rfl rfl (by rw [hR]; exact ⟨Nat.le_of_ble_eq_true rfl, Nat.le_of_ble_eq_true rfl⟩)) (va_recv hK hP (q0 := 0) rfl rfl) cX_g hK hP hD hS hA hCx rfl hl.1 rfl (Nat.le_of_ble_eq_true rfl) d_Mod_number_329 ⟨Nat.zero_le _, Nat.zero_le _⟩ (fun r18 σ19 H locs h hP hD hS => ?_)
    refine g_callSi ⟨hx, hb, hml, hown, hts⟩ (c_Mod_isLetter h) (g_cwS 1 hts q_l_Mod_256 q_t_Mod_isLetter q_i_TokenDeskModel q_k_Mod_isLetter (by decide +kernel) rfl rfl (by rw [hR]; exact ⟨Nat.le_of_ble_eq_true rfl, Nat.le_of_ble_eq_true rfl⟩)) cX_g hK hP hD hS hA hCx rfl hl.1 rfl (Nat.le_of_ble_eq_true rfl) d_Mod_number_332 ⟨Nat.zero_le _, Nat.zero_le _⟩ (fun r20 σ21 H locs h hP hD hS => ?_)
    refine lv_if_ne hx hb d_Mod_number_335 (tgt := 350) rfl (fun hc => ?_) (fun hc => ?_)
    · have h := h.1 hc
      exact L350 x1 σ21 _ _ _ h hP hD hS (lv_sub hl [0, 1] rfl)
    · have h := h.2 hc
      refine lv_aload_n hx hb d_Mod_number_338 rfl (lv_at hl 0 rfl) ?_
      refine lv_iload hx hb d_Mod_number_339 (lv_at hl 3 rfl) ?_
      refine g_callVi ⟨hx, hb, hml, hown, hts⟩ (c_Mod_c h) (g_cwV 1 hts q_l_Mod_228 q_m_Mod_c q_s_Mod_c q_i_TokenDeskModel q_k_Mod_c (by decide +kernel) rfl rfl (by rw [hR]; exact ⟨Nat.le_of_ble_eq_true rfl, Nat.le_of_ble_eq_true rfl⟩)) (va_recv hK hP (q0 := 0) rfl rfl) cX_g hK hP hD hS hA hCx rfl hl.1 rfl (Nat.le_of_ble_eq_true rfl) d_Mod_number_341 ⟨Nat.zero_le _, Nat.zero_le _⟩ (fun r22 σ23 H locs h hP hD hS => ?_)
      refine g_callSi ⟨hx, hb, hml, hown, hts⟩ (c_Mod_isDigit h) (g_cwS 1 hts q_l_Mod_247 q_t_Mod_isDigit q_i_TokenDeskModel q_k_Mod_isDigit (by decide +kernel) rfl rfl (by rw [hR]; exact ⟨Nat.le_of_ble_eq_true rfl, Nat.le_of_ble_eq_true rfl⟩)) cX_g hK hP hD hS hA hCx rfl hl.1 rfl (Nat.le_of_ble_eq_true rfl) d_Mod_number_344 ⟨Nat.zero_le _, Nat.zero_le _⟩ (fun r24 σ25 H locs h hP hD hS => ?_)
      refine lv_if_eq hx hb d_Mod_number_347 (tgt := 358) rfl (fun hc => ?_) (fun hc => ?_)
      · have h := h.1 hc
        refine lv_aload_n hx hb d_Mod_number_358 rfl (lv_at hl 0 rfl) ?_
        refine lv_iload hx hb d_Mod_number_359 (lv_at hl 2 rfl) ?_
        refine lv_iload_n hx hb d_Mod_number_361 rfl (lv_at hl 1 rfl) ?_
        refine lv_iload hx hb d_Mod_number_362 (lv_at hl 3 rfl) ?_
        refine g_callVi ⟨hx, hb, hml, hown, hts⟩ (c_Mod_add h) (g_cwV 3 hts q_l_Mod_224 q_m_Mod_add q_s_Mod_add q_i_TokenDeskModel q_k_Mod_add (by decide +kernel) rfl rfl (by rw [hR]; exact ⟨Nat.le_of_ble_eq_true rfl, Nat.le_of_ble_eq_true rfl⟩)) (va_recv hK hP (q0 := 0) rfl rfl) cX_g hK hP hD hS hA hCx rfl hl.1 rfl (Nat.le_of_ble_eq_true rfl) d_Mod_number_364 ⟨Nat.zero_le _, Nat.zero_le _⟩ (fun r26 σ27 H locs h hP hD hS => ?_)
        exact hret _ _ _ _ _ _ h.2 h.1 hP hD hS d_Mod_number_367
      · have h := h.2 hc
        exact L350 x1 σ25 _ _ _ h hP hD hS (lv_sub hl [0, 1] rfl)
  have L248 : ∀ n : Nat, ∀ (x1 : Int32) (x4 : Int32) (x5 : Int32) (x7 : Int32) (x8 : Int32) (σ : MS) (H : Heap) (locs : List Loc) (ls : Array Slot), L_Mod_number_248 post n x1 x4 x5 x7 x8 σ → va_P D vwCl (mW ad ty cd σ) H → va_D A (mW ad ty cd σ) → va_S A s.heap H locs → lv_has ls 9 [(0, .ref (ad 0)), (1, .int x1), (4, .int x4), (5, .int x5), (7, .int x7), (8, .int x8)] → W p l e R s m args below meth c H locs 0 0 Q (F0 m 248 ls []) := by
    intro n248
    induction n248 with
    | zero => intro x1 x4 x5 x7 x8 σ H locs ls h hP hD hS hl; exact h.elim
    | succ n248 ih248 =>
      have L284 : ∀ (x1 : Int32) (x4 : Int32) (x5 : Int32) (x8 : Int32) (s0 : Int32) (s1 : Int32) (σ : MS) (H : Heap) (locs : List Loc) (ls : Array Slot), L_Mod_number_284 post (fun x1 x4 x5 x7 x8 σ => L_Mod_number_248 post n248 x1 x4 x5 x7 x8 σ) x1 x4 x5 x8 s0 s1 σ → va_P D vwCl (mW ad ty cd σ) H → va_D A (mW ad ty cd σ) → va_S A s.heap H locs → lv_has ls 9 [(0, .ref (ad 0)), (1, .int x1), (4, .int x4), (5, .int x5), (8, .int x8)] → W p l e R s m args below meth c H locs 0 0 Q (F0 m 284 ls [.int s0, .int s1]) := by
        intro x1 x4 x5 x8 s0 s1 σ H locs ls h hP hD hS hl
        unfold L_Mod_number_284 at h
        refine lv_iand hx hb d_Mod_number_284 ?_
        refine lv_istore hx hb d_Mod_number_285 hl (by decide) rfl (fun ls hl => ?_)
        refine lv_iinc (v := (x8 + 1)) hx hb d_Mod_number_287 hl (k := 5) rfl rfl (by decide) rfl (fun ls hl => ?_)
        refine lv_goto hx hb d_Mod_number_290 (tgt := 248) rfl ?_
        exact ih248 x1 x4 x5 (s1 &&& s0) (x8 + 1) σ _ _ _ h hP hD hS (lv_sub hl [2, 3, 4, 5, 1, 0] rfl)
      have L279 : ∀ (x1 : Int32) (x4 : Int32) (x5 : Int32) (x8 : Int32) (s0 : Int32) (σ : MS) (H : Heap) (locs : List Loc) (ls : Array Slot), L_Mod_number_279 post (fun x1 x4 x5 x7 x8 σ => L_Mod_number_248 post n248 x1 x4 x5 x7 x8 σ) x1 x4 x5 x8 s0 σ → va_P D vwCl (mW ad ty cd σ) H → va_D A (mW ad ty cd σ) → va_S A s.heap H locs → lv_has ls 9 [(0, .ref (ad 0)), (1, .int x1), (4, .int x4), (5, .int x5), (8, .int x8)] → W p l e R s m args below meth c H locs 0 0 Q (F0 m 279 ls [.int s0]) := by
        intro x1 x4 x5 x8 s0 σ H locs ls h hP hD hS hl
        unfold L_Mod_number_279 at h
        refine lv_iconst (v := 1) hx hb d_Mod_number_279 (by decide) ?_
        refine lv_goto hx hb d_Mod_number_280 (tgt := 284) rfl ?_
        exact L284 x1 x4 x5 x8 1 s0 σ _ _ _ h hP hD hS hl
      intro x1 x4 x5 x7 x8 σ H locs ls h hP hD hS hl
      unfold L_Mod_number_248 at h
      refine lv_iload hx hb d_Mod_number_248 (lv_at hl 5 rfl) ?_
      refine lv_iload hx hb d_Mod_number_250 (lv_at hl 3 rfl) ?_
      refine lv_icmp_ge hx hb d_Mod_number_252 (tgt := 293) rfl (fun hc => ?_) (fun hc => ?_)
      · have h := h.1 hc
        refine lv_iload hx hb d_Mod_number_293 (lv_at hl 2 rfl) ?_
        refine lv_iconst (v := 5) hx hb d_Mod_number_295 (by decide) ?_
        refine lv_icmp_ne hx hb d_Mod_number_296 (tgt := 320) rfl (fun hc => ?_) (fun hc => ?_)
        · have h := h.1 hc
          exact L320 x1 x4 x5 σ _ _ _ h hP hD hS (lv_sub hl [0, 1, 2, 3] rfl)
        · have h := h.2 hc
          refine lv_aload_n hx hb d_Mod_number_299 rfl (lv_at hl 0 rfl) ?_
          refine lv_iload_n hx hb d_Mod_number_300 rfl (lv_at hl 1 rfl) ?_
          refine g_callVi ⟨hx, hb, hml, hown, hts⟩ (c_Mod_c h) (g_cwV 1 hts q_l_Mod_228 q_m_Mod_c q_s_Mod_c q_i_TokenDeskModel q_k_Mod_c (by decide +kernel) rfl rfl (by rw [hR]; exact ⟨Nat.le_of_ble_eq_true rfl, Nat.le_of_ble_eq_true rfl⟩)) (va_recv hK hP (q0 := 0) rfl rfl) cX_g hK hP hD hS hA hCx rfl hl.1 rfl (Nat.le_of_ble_eq_true rfl) d_Mod_number_301 ⟨Nat.zero_le _, Nat.zero_le _⟩ (fun r42 σ43 H locs h hP hD hS => ?_)
          refine lv_bipush (v := 48) hx hb d_Mod_number_304 (by decide) ?_
          refine lv_icmp_ne hx hb d_Mod_number_306 (tgt := 320) rfl (fun hc => ?_) (fun hc => ?_)
          · have h := h.1 hc
            exact L320 x1 x4 x5 σ43 _ _ _ h hP hD hS (lv_sub hl [0, 1, 2, 3] rfl)
          · have h := h.2 hc
            refine lv_iload hx hb d_Mod_number_309 (lv_at hl 4 rfl) ?_
            refine lv_if_ne hx hb d_Mod_number_311 (tgt := 320) rfl (fun hc => ?_) (fun hc => ?_)
            · have h := h.1 hc
              exact L320 x1 x4 x5 σ43 _ _ _ h hP hD hS (lv_sub hl [0, 1, 2, 3] rfl)
            · have h := h.2 hc
              refine lv_aload_n hx hb d_Mod_number_314 rfl (lv_at hl 0 rfl) ?_
              refine lv_iload_n hx hb d_Mod_number_315 rfl (lv_at hl 1 rfl) ?_
              refine g_callVi ⟨hx, hb, hml, hown, hts⟩ (c_Mod_bad h) (g_cwV 1 hts q_l_Mod_210 q_m_Mod_bad q_s_Mod_bad q_i_TokenDeskModel q_k_Mod_bad (by decide +kernel) rfl rfl (by rw [hR]; exact ⟨Nat.le_of_ble_eq_true rfl, Nat.le_of_ble_eq_true rfl⟩)) (va_recv hK hP (q0 := 0) rfl rfl) cX_g hK hP hD hS hA hCx rfl hl.1 rfl (Nat.le_of_ble_eq_true rfl) d_Mod_number_316 ⟨Nat.zero_le _, Nat.zero_le _⟩ (fun r44 σ45 H locs h hP hD hS => ?_)
              exact hret _ _ _ _ _ _ h.2 h.1 hP hD hS d_Mod_number_319
      · have h := h.2 hc
        refine lv_iload hx hb d_Mod_number_255 (lv_at hl 4 rfl) ?_
        refine lv_aload_n hx hb d_Mod_number_257 rfl (lv_at hl 0 rfl) ?_
        refine lv_iload hx hb d_Mod_number_258 (lv_at hl 5 rfl) ?_
        refine g_callVi ⟨hx, hb, hml, hown, hts⟩ (c_Mod_c h) (g_cwV 1 hts q_l_Mod_228 q_m_Mod_c q_s_Mod_c q_i_TokenDeskModel q_k_Mod_c (by decide +kernel) rfl rfl (by rw [hR]; exact ⟨Nat.le_of_ble_eq_true rfl, Nat.le_of_ble_eq_true rfl⟩)) (va_recv hK hP (q0 := 0) rfl rfl) cX_g hK hP hD hS hA hCx rfl hl.1 rfl (Nat.le_of_ble_eq_true rfl) d_Mod_number_260 ⟨Nat.zero_le _, Nat.zero_le _⟩ (fun r46 σ47 H locs h hP hD hS => ?_)
        refine lv_bipush (v := 48) hx hb d_Mod_number_263 (by decide) ?_
        refine lv_icmp_eq hx hb d_Mod_number_265 (tgt := 279) rfl (fun hc => ?_) (fun hc => ?_)
        · have h := h.1 hc
          exact L279 x1 x4 x5 x8 x7 σ47 _ _ _ h hP hD hS (lv_sub hl [0, 1, 2, 3, 5] rfl)
        · have h := h.2 hc
          refine lv_aload_n hx hb d_Mod_number_268 rfl (lv_at hl 0 rfl) ?_
          refine lv_iload hx hb d_Mod_number_269 (lv_at hl 5 rfl) ?_
          refine g_callVi ⟨hx, hb, hml, hown, hts⟩ (c_Mod_c h) (g_cwV 1 hts q_l_Mod_228 q_m_Mod_c q_s_Mod_c q_i_TokenDeskModel q_k_Mod_c (by decide +kernel) rfl rfl (by rw [hR]; exact ⟨Nat.le_of_ble_eq_true rfl, Nat.le_of_ble_eq_true rfl⟩)) (va_recv hK hP (q0 := 0) rfl rfl) cX_g hK hP hD hS hA hCx rfl hl.1 rfl (Nat.le_of_ble_eq_true rfl) d_Mod_number_271 ⟨Nat.zero_le _, Nat.zero_le _⟩ (fun r48 σ49 H locs h hP hD hS => ?_)
          refine lv_bipush (v := 95) hx hb d_Mod_number_274 (by decide) ?_
          refine lv_icmp_ne hx hb d_Mod_number_276 (tgt := 283) rfl (fun hc => ?_) (fun hc => ?_)
          · have h := h.1 hc
            refine lv_iconst (v := 0) hx hb d_Mod_number_283 (by decide) ?_
            exact L284 x1 x4 x5 x8 0 x7 σ49 _ _ _ h hP hD hS (lv_sub hl [0, 1, 2, 3, 5] rfl)
          · have h := h.2 hc
            exact L279 x1 x4 x5 x8 x7 σ49 _ _ _ h hP hD hS (lv_sub hl [0, 1, 2, 3, 5] rfl)
  have L242 : ∀ (x1 : Int32) (x4 : Int32) (x5 : Int32) (σ : MS) (H : Heap) (locs : List Loc) (ls : Array Slot), L_Mod_number_242 post x1 x4 x5 σ → va_P D vwCl (mW ad ty cd σ) H → va_D A (mW ad ty cd σ) → va_S A s.heap H locs → lv_has ls 9 [(0, .ref (ad 0)), (1, .int x1), (4, .int x4), (5, .int x5)] → W p l e R s m args below meth c H locs 0 0 Q (F0 m 242 ls []) := by
    intro x1 x4 x5 σ H locs ls h hP hD hS hl
    unfold L_Mod_number_242 at h
    refine lv_iconst (v := 1) hx hb d_Mod_number_242 (by decide) ?_
    refine lv_istore hx hb d_Mod_number_243 hl (by decide) rfl (fun ls hl => ?_)
    refine lv_iload_n hx hb d_Mod_number_245 rfl (lv_at hl 2 rfl) ?_
    refine lv_istore hx hb d_Mod_number_246 hl (by decide) rfl (fun ls hl => ?_)
    obtain ⟨n, h⟩ := h
    exact L248 n x1 x4 x5 1 x1 σ _ _ _ h hP hD hS (lv_sub hl [2, 3, 4, 5, 1, 0] rfl)
  have L200 : ∀ (x1 : Int32) (x4 : Int32) (x5 : Int32) (s0 : Int32) (σ : MS) (H : Heap) (locs : List Loc) (ls : Array Slot), L_Mod_number_200 post x1 x4 x5 s0 σ → va_P D vwCl (mW ad ty cd σ) H → va_D A (mW ad ty cd σ) → va_S A s.heap H locs → lv_has ls 9 [(0, .ref (ad 0)), (1, .int x1), (4, .int x4), (5, .int x5)] → W p l e R s m args below meth c H locs 0 0 Q (F0 m 200 ls [.int s0]) := by
    intro x1 x4 x5 s0 σ H locs ls h hP hD hS hl
    unfold L_Mod_number_200 at h
    refine lv_istore hx hb d_Mod_number_200 hl (by decide) rfl (fun ls hl => ?_)
    refine lv_aload_n hx hb d_Mod_number_202 rfl (lv_at hl 1 rfl) ?_
    refine lv_iload hx hb d_Mod_number_203 (lv_at hl 4 rfl) ?_
    refine g_callVi ⟨hx, hb, hml, hown, hts⟩ (c_Mod_c h) (g_cwV 1 hts q_l_Mod_228 q_m_Mod_c q_s_Mod_c q_i_TokenDeskModel q_k_Mod_c (by decide +kernel) rfl rfl (by rw [hR]; exact ⟨Nat.le_of_ble_eq_true rfl, Nat.le_of_ble_eq_true rfl⟩)) (va_recv hK hP (q0 := 0) rfl rfl) cX_g hK hP hD hS hA hCx rfl hl.1 rfl (Nat.le_of_ble_eq_true rfl) d_Mod_number_205 ⟨Nat.zero_le _, Nat.zero_le _⟩ (fun r34 σ35 H locs h hP hD hS => ?_)
    refine lv_bipush (v := 32) hx hb d_Mod_number_208 (by decide) ?_
    refine lv_ior hx hb d_Mod_number_210 ?_
    refine lv_bipush (v := 101) hx hb d_Mod_number_211 (by decide) ?_
    refine lv_icmp_ne hx hb d_Mod_number_213 (tgt := 242) rfl (fun hc => ?_) (fun hc => ?_)
    · have h := h.1 hc
      exact L242 x1 x4 x5 σ35 _ _ _ h hP hD hS (lv_sub hl [1, 2, 3, 4] rfl)
    · have h := h.2 hc
      refine lv_aload_n hx hb d_Mod_number_216 rfl (lv_at hl 1 rfl) ?_
      refine lv_iload hx hb d_Mod_number_217 (lv_at hl 0 rfl) ?_
      refine g_callVi ⟨hx, hb, hml, hown, hts⟩ (c_Mod_c h) (g_cwV 1 hts q_l_Mod_228 q_m_Mod_c q_s_Mod_c q_i_TokenDeskModel q_k_Mod_c (by decide +kernel) rfl rfl (by rw [hR]; exact ⟨Nat.le_of_ble_eq_true rfl, Nat.le_of_ble_eq_true rfl⟩)) (va_recv hK hP (q0 := 0) rfl rfl) cX_g hK hP hD hS hA hCx rfl hl.1 rfl (Nat.le_of_ble_eq_true rfl) d_Mod_number_219 ⟨Nat.zero_le _, Nat.zero_le _⟩ (fun r36 σ37 H locs h hP hD hS => ?_)
      refine g_callSi ⟨hx, hb, hml, hown, hts⟩ (c_Mod_isDigit h) (g_cwS 1 hts q_l_Mod_247 q_t_Mod_isDigit q_i_TokenDeskModel q_k_Mod_isDigit (by decide +kernel) rfl rfl (by rw [hR]; exact ⟨Nat.le_of_ble_eq_true rfl, Nat.le_of_ble_eq_true rfl⟩)) cX_g hK hP hD hS hA hCx rfl hl.1 rfl (Nat.le_of_ble_eq_true rfl) d_Mod_number_222 ⟨Nat.zero_le _, Nat.zero_le _⟩ (fun r38 σ39 H locs h hP hD hS => ?_)
      refine lv_if_eq hx hb d_Mod_number_225 (tgt := 242) rfl (fun hc => ?_) (fun hc => ?_)
      · have h := h.1 hc
        exact L242 x1 x4 x5 σ39 _ _ _ h hP hD hS (lv_sub hl [1, 2, 3, 4] rfl)
      · have h := h.2 hc
        refine lv_bipush (v := 6) hx hb d_Mod_number_228 (by decide) ?_
        refine lv_istore hx hb d_Mod_number_230 hl (by decide) rfl (fun ls hl => ?_)
        refine lv_aload_n hx hb d_Mod_number_232 rfl (lv_at hl 2 rfl) ?_
        refine lv_iload hx hb d_Mod_number_233 (lv_at hl 1 rfl) ?_
        refine lv_bipush (v := 10) hx hb d_Mod_number_235 (by decide) ?_
        refine g_callVi ⟨hx, hb, hml, hown, hts⟩ (c_Mod_digits h) (g_cwV 2 hts q_l_Mod_274 q_m_Mod_digits q_s_Mod_digits q_i_TokenDeskModel q_k_Mod_digits (by decide +kernel) rfl rfl (by rw [hR]; exact ⟨Nat.le_of_ble_eq_true rfl, Nat.le_of_ble_eq_true rfl⟩)) (va_recv hK hP (q0 := 0) rfl rfl) cX_g hK hP hD hS hA hCx rfl hl.1 rfl (Nat.le_of_ble_eq_true rfl) d_Mod_number_237 ⟨Nat.zero_le _, Nat.zero_le _⟩ (fun r40 σ41 H locs h hP hD hS => ?_)
        refine lv_istore hx hb d_Mod_number_240 hl (by decide) rfl (fun ls hl => ?_)
        exact L242 x1 6 r40 σ41 _ _ _ h hP hD hS (lv_sub hl [3, 4, 1, 0] rfl)
  have L189 : ∀ (x1 : Int32) (x4 : Int32) (x5 : Int32) (σ : MS) (H : Heap) (locs : List Loc) (ls : Array Slot), L_Mod_number_189 post x1 x4 x5 σ → va_P D vwCl (mW ad ty cd σ) H → va_D A (mW ad ty cd σ) → va_S A s.heap H locs → lv_has ls 9 [(0, .ref (ad 0)), (1, .int x1), (4, .int x4), (5, .int x5)] → W p l e R s m args below meth c H locs 0 0 Q (F0 m 189 ls []) := by
    intro x1 x4 x5 σ H locs ls h hP hD hS hl
    unfold L_Mod_number_189 at h
    refine lv_iload hx hb d_Mod_number_189 (lv_at hl 3 rfl) ?_
    refine lv_iconst (v := 2) hx hb d_Mod_number_191 (by decide) ?_
    refine lv_iadd hx hb d_Mod_number_192 ?_
    refine lv_goto hx hb d_Mod_number_193 (tgt := 200) rfl ?_
    exact L200 x1 x4 x5 (x5 + 2) σ _ _ _ h hP hD hS hl
  have L163 : ∀ (x1 : Int32) (x4 : Int32) (x5 : Int32) (σ : MS) (H : Heap) (locs : List Loc) (ls : Array Slot), L_Mod_number_163 post x1 x4 x5 σ → va_P D vwCl (mW ad ty cd σ) H → va_D A (mW ad ty cd σ) → va_S A s.heap H locs → lv_has ls 9 [(0, .ref (ad 0)), (1, .int x1), (4, .int x4), (5, .int x5)] → W p l e R s m args below meth c H locs 0 0 Q (F0 m 163 ls []) := by
    intro x1 x4 x5 σ H locs ls h hP hD hS hl
    unfold L_Mod_number_163 at h
    refine lv_aload_n hx hb d_Mod_number_163 rfl (lv_at hl 0 rfl) ?_
    refine lv_iload hx hb d_Mod_number_164 (lv_at hl 3 rfl) ?_
    refine lv_iconst (v := 1) hx hb d_Mod_number_166 (by decide) ?_
    refine lv_iadd hx hb d_Mod_number_167 ?_
    refine g_callVi ⟨hx, hb, hml, hown, hts⟩ (c_Mod_c h) (g_cwV 1 hts q_l_Mod_228 q_m_Mod_c q_s_Mod_c q_i_TokenDeskModel q_k_Mod_c (by decide +kernel) rfl rfl (by rw [hR]; exact ⟨Nat.le_of_ble_eq_true rfl, Nat.le_of_ble_eq_true rfl⟩)) (va_recv hK hP (q0 := 0) rfl rfl) cX_g hK hP hD hS hA hCx rfl hl.1 rfl (Nat.le_of_ble_eq_true rfl) d_Mod_number_168 ⟨Nat.zero_le _, Nat.zero_le _⟩ (fun r30 σ31 H locs h hP hD hS => ?_)
    refine lv_bipush (v := 43) hx hb d_Mod_number_171 (by decide) ?_
    refine lv_icmp_eq hx hb d_Mod_number_173 (tgt := 189) rfl (fun hc => ?_) (fun hc => ?_)
    · have h := h.1 hc
      exact L189 x1 x4 x5 σ31 _ _ _ h hP hD hS hl
    · have h := h.2 hc
      refine lv_aload_n hx hb d_Mod_number_176 rfl (lv_at hl 0 rfl) ?_
      refine lv_iload hx hb d_Mod_number_177 (lv_at hl 3 rfl) ?_
      refine lv_iconst (v := 1) hx hb d_Mod_number_179 (by decide) ?_
      refine lv_iadd hx hb d_Mod_number_180 ?_
      refine g_callVi ⟨hx, hb, hml, hown, hts⟩ (c_Mod_c h) (g_cwV 1 hts q_l_Mod_228 q_m_Mod_c q_s_Mod_c q_i_TokenDeskModel q_k_Mod_c (by decide +kernel) rfl rfl (by rw [hR]; exact ⟨Nat.le_of_ble_eq_true rfl, Nat.le_of_ble_eq_true rfl⟩)) (va_recv hK hP (q0 := 0) rfl rfl) cX_g hK hP hD hS hA hCx rfl hl.1 rfl (Nat.le_of_ble_eq_true rfl) d_Mod_number_181 ⟨Nat.zero_le _, Nat.zero_le _⟩ (fun r32 σ33 H locs h hP hD hS => ?_)
      refine lv_bipush (v := 45) hx hb d_Mod_number_184 (by decide) ?_
      refine lv_icmp_ne hx hb d_Mod_number_186 (tgt := 196) rfl (fun hc => ?_) (fun hc => ?_)
      · have h := h.1 hc
        refine lv_iload hx hb d_Mod_number_196 (lv_at hl 3 rfl) ?_
        refine lv_iconst (v := 1) hx hb d_Mod_number_198 (by decide) ?_
        refine lv_iadd hx hb d_Mod_number_199 ?_
        exact L200 x1 x4 x5 (x5 + 1) σ33 _ _ _ h hP hD hS hl
      · have h := h.2 hc
        exact L189 x1 x4 x5 σ33 _ _ _ h hP hD hS hl
  have L96 : ∀ (x1 : Int32) (x3 : Int32) (x4 : Int32) (s0 : Int32) (σ : MS) (H : Heap) (locs : List Loc) (ls : Array Slot), L_Mod_number_96 post x1 x3 x4 s0 σ → va_P D vwCl (mW ad ty cd σ) H → va_D A (mW ad ty cd σ) → va_S A s.heap H locs → lv_has ls 9 [(0, .ref (ad 0)), (1, .int x1), (3, .int x3), (4, .int x4)] → W p l e R s m args below meth c H locs 0 0 Q (F0 m 96 ls [.int s0]) := by
    intro x1 x3 x4 s0 σ H locs ls h hP hD hS hl
    unfold L_Mod_number_96 at h
    refine lv_istore hx hb d_Mod_number_96 hl (by decide) rfl (fun ls hl => ?_)
    refine lv_aload_n hx hb d_Mod_number_98 rfl (lv_at hl 1 rfl) ?_
    refine lv_iload hx hb d_Mod_number_99 (lv_at hl 0 rfl) ?_
    refine lv_iload_n hx hb d_Mod_number_101 rfl (lv_at hl 3 rfl) ?_
    refine g_callVi ⟨hx, hb, hml, hown, hts⟩ (c_Mod_digits h) (g_cwV 2 hts q_l_Mod_274 q_m_Mod_digits q_s_Mod_digits q_i_TokenDeskModel q_k_Mod_digits (by decide +kernel) rfl rfl (by rw [hR]; exact ⟨Nat.le_of_ble_eq_true rfl, Nat.le_of_ble_eq_true rfl⟩)) (va_recv hK hP (q0 := 0) rfl rfl) cX_g hK hP hD hS hA hCx rfl hl.1 rfl (Nat.le_of_ble_eq_true rfl) d_Mod_number_102 ⟨Nat.zero_le _, Nat.zero_le _⟩ (fun r13 σ14 H locs h hP hD hS => ?_)
    refine lv_istore hx hb d_Mod_number_105 hl (by decide) rfl (fun ls hl => ?_)
    refine lv_iload hx hb d_Mod_number_107 (lv_at hl 0 rfl) ?_
    refine lv_iload hx hb d_Mod_number_109 (lv_at hl 1 rfl) ?_
    refine lv_icmp_ne hx hb d_Mod_number_111 (tgt := 120) rfl (fun hc => ?_) (fun hc => ?_)
    · have h := h.1 hc
      refine lv_iload hx hb d_Mod_number_120 (lv_at hl 0 rfl) ?_
      refine lv_istore hx hb d_Mod_number_122 hl (by decide) rfl (fun ls hl => ?_)
      refine lv_goto hx hb d_Mod_number_124 (tgt := 320) rfl ?_
      exact L320 x1 x4 r13 σ14 _ _ _ h hP hD hS (lv_sub hl [2, 3, 5, 0] rfl)
    · have h := h.2 hc
      refine lv_aload_n hx hb d_Mod_number_114 rfl (lv_at hl 2 rfl) ?_
      refine lv_iload_n hx hb d_Mod_number_115 rfl (lv_at hl 3 rfl) ?_
      refine g_callVi ⟨hx, hb, hml, hown, hts⟩ (c_Mod_bad h) (g_cwV 1 hts q_l_Mod_210 q_m_Mod_bad q_s_Mod_bad q_i_TokenDeskModel q_k_Mod_bad (by decide +kernel) rfl rfl (by rw [hR]; exact ⟨Nat.le_of_ble_eq_true rfl, Nat.le_of_ble_eq_true rfl⟩)) (va_recv hK hP (q0 := 0) rfl rfl) cX_g hK hP hD hS hA hCx rfl hl.1 rfl (Nat.le_of_ble_eq_true rfl) d_Mod_number_116 ⟨Nat.zero_le _, Nat.zero_le _⟩ (fun r15 σ16 H locs h hP hD hS => ?_)
      exact hret _ _ _ _ _ _ h.2 h.1 hP hD hS d_Mod_number_119
  have L65 : ∀ (x1 : Int32) (s0 : Int32) (σ : MS) (H : Heap) (locs : List Loc) (ls : Array Slot), L_Mod_number_65 post x1 s0 σ → va_P D vwCl (mW ad ty cd σ) H → va_D A (mW ad ty cd σ) → va_S A s.heap H locs → lv_has ls 9 [(0, .ref (ad 0)), (1, .int x1)] → W p l e R s m args below meth c H locs 0 0 Q (F0 m 65 ls [.int s0]) := by
    intro x1 s0 σ H locs ls h hP hD hS hl
    unfold L_Mod_number_65 at h
    refine lv_istore_n hx hb d_Mod_number_65 rfl hl (by decide) rfl (fun ls hl => ?_)
    refine lv_iconst (v := 5) hx hb d_Mod_number_66 (by decide) ?_
    refine lv_istore hx hb d_Mod_number_67 hl (by decide) rfl (fun ls hl => ?_)
    refine lv_iload_n hx hb d_Mod_number_69 rfl (lv_at hl 1 rfl) ?_
    refine lv_bipush (v := 10) hx hb d_Mod_number_70 (by decide) ?_
    refine lv_icmp_eq hx hb d_Mod_number_72 (tgt := 127) rfl (fun hc => ?_) (fun hc => ?_)
    · have h := h.1 hc
      refine lv_aload_n hx hb d_Mod_number_127 rfl (lv_at hl 2 rfl) ?_
      refine lv_iload_n hx hb d_Mod_number_128 rfl (lv_at hl 3 rfl) ?_
      refine lv_bipush (v := 10) hx hb d_Mod_number_129 (by decide) ?_
      refine g_callVi ⟨hx, hb, hml, hown, hts⟩ (c_Mod_digits h) (g_cwV 2 hts q_l_Mod_274 q_m_Mod_digits q_s_Mod_digits q_i_TokenDeskModel q_k_Mod_digits (by decide +kernel) rfl rfl (by rw [hR]; exact ⟨Nat.le_of_ble_eq_true rfl, Nat.le_of_ble_eq_true rfl⟩)) (va_recv hK hP (q0 := 0) rfl rfl) cX_g hK hP hD hS hA hCx rfl hl.1 rfl (Nat.le_of_ble_eq_true rfl) d_Mod_number_131 ⟨Nat.zero_le _, Nat.zero_le _⟩ (fun r5 σ6 H locs h hP hD hS => ?_)
      refine lv_istore hx hb d_Mod_number_134 hl (by decide) rfl (fun ls hl => ?_)
      refine lv_aload_n hx hb d_Mod_number_136 rfl (lv_at hl 3 rfl) ?_
      refine lv_iload hx hb d_Mod_number_137 (lv_at hl 0 rfl) ?_
      refine g_callVi ⟨hx, hb, hml, hown, hts⟩ (c_Mod_c h) (g_cwV 1 hts q_l_Mod_228 q_m_Mod_c q_s_Mod_c q_i_TokenDeskModel q_k_Mod_c (by decide +kernel) rfl rfl (by rw [hR]; exact ⟨Nat.le_of_ble_eq_true rfl, Nat.le_of_ble_eq_true rfl⟩)) (va_recv hK hP (q0 := 0) rfl rfl) cX_g hK hP hD hS hA hCx rfl hl.1 rfl (Nat.le_of_ble_eq_true rfl) d_Mod_number_139 ⟨Nat.zero_le _, Nat.zero_le _⟩ (fun r7 σ8 H locs h hP hD hS => ?_)
      refine lv_bipush (v := 46) hx hb d_Mod_number_142 (by decide) ?_
      refine lv_icmp_ne hx hb d_Mod_number_144 (tgt := 163) rfl (fun hc => ?_) (fun hc => ?_)
      · have h := h.1 hc
        exact L163 x1 5 r5 σ8 _ _ _ h hP hD hS (lv_sub hl [3, 4, 1, 0] rfl)
      · have h := h.2 hc
        refine lv_bipush (v := 6) hx hb d_Mod_number_147 (by decide) ?_
        refine lv_istore hx hb d_Mod_number_149 hl (by decide) rfl (fun ls hl => ?_)
        refine lv_aload_n hx hb d_Mod_number_151 rfl (lv_at hl 3 rfl) ?_
        refine lv_iload hx hb d_Mod_number_152 (lv_at hl 1 rfl) ?_
        refine lv_iconst (v := 1) hx hb d_Mod_number_154 (by decide) ?_
        refine lv_iadd hx hb d_Mod_number_155 ?_
        refine lv_bipush (v := 10) hx hb d_Mod_number_156 (by decide) ?_
        refine g_callVi ⟨hx, hb, hml, hown, hts⟩ (c_Mod_digits h) (g_cwV 2 hts q_l_Mod_274 q_m_Mod_digits q_s_Mod_digits q_i_TokenDeskModel q_k_Mod_digits (by decide +kernel) rfl rfl (by rw [hR]; exact ⟨Nat.le_of_ble_eq_true rfl, Nat.le_of_ble_eq_true rfl⟩)) (va_recv hK hP (q0 := 0) rfl rfl) cX_g hK hP hD hS hA hCx rfl hl.1 rfl (Nat.le_of_ble_eq_true rfl) d_Mod_number_158 ⟨Nat.zero_le _, Nat.zero_le _⟩ (fun r9 σ10 H locs h hP hD hS => ?_)
        refine lv_istore hx hb d_Mod_number_161 hl (by decide) rfl (fun ls hl => ?_)
        exact L163 x1 6 r9 σ10 _ _ _ h hP hD hS (lv_sub hl [3, 4, 1, 0] rfl)
    · have h := h.2 hc
      refine lv_aload_n hx hb d_Mod_number_75 rfl (lv_at hl 2 rfl) ?_
      refine lv_iload_n hx hb d_Mod_number_76 rfl (lv_at hl 3 rfl) ?_
      refine lv_iconst (v := 2) hx hb d_Mod_number_77 (by decide) ?_
      refine lv_iadd hx hb d_Mod_number_78 ?_
      refine g_callVi ⟨hx, hb, hml, hown, hts⟩ (c_Mod_c h) (g_cwV 1 hts q_l_Mod_228 q_m_Mod_c q_s_Mod_c q_i_TokenDeskModel q_k_Mod_c (by decide +kernel) rfl rfl (by rw [hR]; exact ⟨Nat.le_of_ble_eq_true rfl, Nat.le_of_ble_eq_true rfl⟩)) (va_recv hK hP (q0 := 0) rfl rfl) cX_g hK hP hD hS hA hCx rfl hl.1 rfl (Nat.le_of_ble_eq_true rfl) d_Mod_number_79 ⟨Nat.zero_le _, Nat.zero_le _⟩ (fun r11 σ12 H locs h hP hD hS => ?_)
      refine lv_bipush (v := 95) hx hb d_Mod_number_82 (by decide) ?_
      refine lv_icmp_ne hx hb d_Mod_number_84 (tgt := 93) rfl (fun hc => ?_) (fun hc => ?_)
      · have h := h.1 hc
        refine lv_iload_n hx hb d_Mod_number_93 rfl (lv_at hl 3 rfl) ?_
        refine lv_iconst (v := 2) hx hb d_Mod_number_94 (by decide) ?_
        refine lv_iadd hx hb d_Mod_number_95 ?_
        exact L96 x1 s0 5 (x1 + 2) σ12 _ _ _ h hP hD hS (lv_sub hl [2, 3, 1, 0] rfl)
      · have h := h.2 hc
        refine lv_iload_n hx hb d_Mod_number_87 rfl (lv_at hl 3 rfl) ?_
        refine lv_iconst (v := 3) hx hb d_Mod_number_88 (by decide) ?_
        refine lv_iadd hx hb d_Mod_number_89 ?_
        refine lv_goto hx hb d_Mod_number_90 (tgt := 96) rfl ?_
        exact L96 x1 s0 5 (x1 + 3) σ12 _ _ _ h hP hD hS (lv_sub hl [2, 3, 1, 0] rfl)
  refine lv_aload_n hx hb d_Mod_number_0 rfl (lv_at hl 0 rfl) ?_
  refine va_get (D := D) (v := .int (m_at σ)) (C := R_Mod) (T := T_Mod) (N := 16) hx hb hts in_Mod hown hK hP 0 rfl rfl 7 (by decide) (hts _ q_f_Mod_214) (fun _ h9 => h9) rfl d_Mod_number_1 ?_
  refine lv_istore_n hx hb d_Mod_number_4 rfl hl (by decide) rfl (fun ls hl => ?_)
  refine lv_aload_n hx hb d_Mod_number_5 rfl (lv_at hl 1 rfl) ?_
  refine lv_iload_n hx hb d_Mod_number_6 rfl (lv_at hl 0 rfl) ?_
  refine lv_iconst (v := 1) hx hb d_Mod_number_7 (by decide) ?_
  refine lv_iadd hx hb d_Mod_number_8 ?_
  refine g_callVi ⟨hx, hb, hml, hown, hts⟩ (c_Mod_c h) (g_cwV 1 hts q_l_Mod_228 q_m_Mod_c q_s_Mod_c q_i_TokenDeskModel q_k_Mod_c (by decide +kernel) rfl rfl (by rw [hR]; exact ⟨Nat.le_of_ble_eq_true rfl, Nat.le_of_ble_eq_true rfl⟩)) (va_recv hK hP (q0 := 0) rfl rfl) cX_g hK hP hD hS hA hCx rfl hl.1 rfl (Nat.le_of_ble_eq_true rfl) d_Mod_number_9 ⟨Nat.zero_le _, Nat.zero_le _⟩ (fun r1 σ2 H locs h hP hD hS => ?_)
  refine lv_bipush (v := 32) hx hb d_Mod_number_12 (by decide) ?_
  refine lv_ior hx hb d_Mod_number_14 ?_
  refine lv_istore_n hx hb d_Mod_number_15 rfl hl (by decide) rfl (fun ls hl => ?_)
  refine lv_aload_n hx hb d_Mod_number_16 rfl (lv_at hl 2 rfl) ?_
  refine lv_iload_n hx hb d_Mod_number_17 rfl (lv_at hl 1 rfl) ?_
  refine g_callVi ⟨hx, hb, hml, hown, hts⟩ (c_Mod_c h) (g_cwV 1 hts q_l_Mod_228 q_m_Mod_c q_s_Mod_c q_i_TokenDeskModel q_k_Mod_c (by decide +kernel) rfl rfl (by rw [hR]; exact ⟨Nat.le_of_ble_eq_true rfl, Nat.le_of_ble_eq_true rfl⟩)) (va_recv hK hP (q0 := 0) rfl rfl) cX_g hK hP hD hS hA hCx rfl hl.1 rfl (Nat.le_of_ble_eq_true rfl) d_Mod_number_18 ⟨Nat.zero_le _, Nat.zero_le _⟩ (fun r3 σ4 H locs h hP hD hS => ?_)
  refine lv_bipush (v := 48) hx hb d_Mod_number_21 (by decide) ?_
  refine lv_icmp_eq hx hb d_Mod_number_23 (tgt := 31) rfl (fun hc => ?_) (fun hc => ?_)
  · have h := h.1 hc
    refine lv_iload_n hx hb d_Mod_number_31 rfl (lv_at hl 0 rfl) ?_
    refine lv_bipush (v := 120) hx hb d_Mod_number_32 (by decide) ?_
    refine lv_icmp_ne hx hb d_Mod_number_34 (tgt := 42) rfl (fun hc => ?_) (fun hc => ?_)
    · have h := h.1 hc
      refine lv_iload_n hx hb d_Mod_number_42 rfl (lv_at hl 0 rfl) ?_
      refine lv_bipush (v := 111) hx hb d_Mod_number_43 (by decide) ?_
      refine lv_icmp_ne hx hb d_Mod_number_45 (tgt := 53) rfl (fun hc => ?_) (fun hc => ?_)
      · have h := h.1 hc
        refine lv_iload_n hx hb d_Mod_number_53 rfl (lv_at hl 0 rfl) ?_
        refine lv_bipush (v := 98) hx hb d_Mod_number_54 (by decide) ?_
        refine lv_icmp_ne hx hb d_Mod_number_56 (tgt := 63) rfl (fun hc => ?_) (fun hc => ?_)
        · have h := h.1 hc
          refine lv_bipush (v := 10) hx hb d_Mod_number_63 (by decide) ?_
          exact L65 (m_at σ) 10 σ4 _ _ _ h hP hD hS (lv_sub hl [2, 1] rfl)
        · have h := h.2 hc
          refine lv_iconst (v := 2) hx hb d_Mod_number_59 (by decide) ?_
          refine lv_goto hx hb d_Mod_number_60 (tgt := 65) rfl ?_
          exact L65 (m_at σ) 2 σ4 _ _ _ h hP hD hS (lv_sub hl [2, 1] rfl)
      · have h := h.2 hc
        refine lv_bipush (v := 8) hx hb d_Mod_number_48 (by decide) ?_
        refine lv_goto hx hb d_Mod_number_50 (tgt := 65) rfl ?_
        exact L65 (m_at σ) 8 σ4 _ _ _ h hP hD hS (lv_sub hl [2, 1] rfl)
    · have h := h.2 hc
      refine lv_bipush (v := 16) hx hb d_Mod_number_37 (by decide) ?_
      refine lv_goto hx hb d_Mod_number_39 (tgt := 65) rfl ?_
      exact L65 (m_at σ) 16 σ4 _ _ _ h hP hD hS (lv_sub hl [2, 1] rfl)
  · have h := h.2 hc
    refine lv_bipush (v := 10) hx hb d_Mod_number_26 (by decide) ?_
    refine lv_goto hx hb d_Mod_number_28 (tgt := 65) rfl ?_
    exact L65 (m_at σ) 10 σ4 _ _ _ h hP hD hS (lv_sub hl [2, 1] rfl)
set_option maxHeartbeats 4000000 in
set_option maxRecDepth 100000 in
theorem c_Mod_stands {l : Launch} {D : va_G} {ad : Nat → Nat} {ty : Nat → ClassId} {cd : Nat → Nat → Nat} {a1 : Int32} {i2 : Nat} {σ : MS} {post : Int32 → MS → Prop} (h : wp_Mod_stands a1 i2 σ post) : g_Meti l y_Mod_stands (Cond.code y_Mod_stands b_Mod_stands 4 (some .boolean) :: gW) ({ frames := 4, cells := 0, slots := 0, locals := 85 }) D vwCl (gT ty) (mW ad ty cd) (cX cd) [.ref (ad 0), .int a1, .ref (cd 0 i2)] σ post := by
  refine g_startz (cc := b_Mod_stands) (maxL := 4) (by decide) rfl (Nat.le_of_ble_eq_true rfl) ?_
  intro p e s m args below meth c A Q R ls hR hx hb hts hown hml hA hS hP hD hK hCx hl hret
  unfold wp_Mod_stands at h
  have hown : s.vm.findClass "TokenDeskModel" = some m.cls := hown
  have hl : lv_has ls 4 [(0, .ref (ad 0)), (1, .int a1), (2, .ref (cd 0 i2))] := hl
  have L2 : ∀ n : Nat, ∀ (x1 : Int32) (x3 : Int32) (σ : MS) (H : Heap) (locs : List Loc) (ls : Array Slot), L_Mod_stands_2 i2 post n x1 x3 σ → va_P D vwCl (mW ad ty cd σ) H → va_D A (mW ad ty cd σ) → va_S A s.heap H locs → lv_has ls 4 [(0, .ref (ad 0)), (1, .int x1), (2, .ref (cd 0 i2)), (3, .int x3)] → W p l e R s m args below meth c H locs 0 0 Q (F0 m 2 ls []) := by
    intro n2
    induction n2 with
    | zero => intro x1 x3 σ H locs ls h hP hD hS hl; exact h.elim
    | succ n2 ih2 =>
      intro x1 x3 σ H locs ls h hP hD hS hl
      unfold L_Mod_stands_2 at h
      refine lv_iload_n hx hb d_Mod_stands_2 rfl (lv_at hl 3 rfl) ?_
      refine lv_aload_n hx hb d_Mod_stands_3 rfl (lv_at hl 2 rfl) ?_
      refine g_callVi ⟨hx, hb, hml, hown, hts⟩ (c_Str_length h) (g_cwV 0 hts q_l_Mod_259 q_m_Str_length q_s_Str_length q_i_java_lang_String q_k_Str_length (by decide +kernel) rfl rfl (by rw [hR]; exact ⟨Nat.le_of_ble_eq_true rfl, Nat.le_of_ble_eq_true rfl⟩)) (cX_recv hCx h.1 hS) cX_g hK hP hD hS hA hCx rfl hl.1 rfl (Nat.le_of_ble_eq_true rfl) d_Mod_stands_4 ⟨Nat.zero_le _, Nat.zero_le _⟩ (fun r1 σ2 H locs h hP hD hS => ?_)
      refine lv_icmp_ge hx hb d_Mod_stands_7 (tgt := 33) rfl (fun hc => ?_) (fun hc => ?_)
      · have h := h.1 hc
        refine lv_iconst (v := 1) hx hb d_Mod_stands_33 (by decide) ?_
        exact hret _ _ _ _ _ _ h rfl hP hD hS d_Mod_stands_34
      · have h := h.2 hc
        refine lv_aload_n hx hb d_Mod_stands_10 rfl (lv_at hl 0 rfl) ?_
        refine lv_iload_n hx hb d_Mod_stands_11 rfl (lv_at hl 1 rfl) ?_
        refine lv_iload_n hx hb d_Mod_stands_12 rfl (lv_at hl 3 rfl) ?_
        refine lv_iadd hx hb d_Mod_stands_13 ?_
        refine g_callVi ⟨hx, hb, hml, hown, hts⟩ (c_Mod_c h) (g_cwV 1 hts q_l_Mod_228 q_m_Mod_c q_s_Mod_c q_i_TokenDeskModel q_k_Mod_c (by decide +kernel) rfl rfl (by rw [hR]; exact ⟨Nat.le_of_ble_eq_true rfl, Nat.le_of_ble_eq_true rfl⟩)) (va_recv hK hP (q0 := 0) rfl rfl) cX_g hK hP hD hS hA hCx rfl hl.1 rfl (Nat.le_of_ble_eq_true rfl) d_Mod_stands_14 ⟨Nat.zero_le _, Nat.zero_le _⟩ (fun r3 σ4 H locs h hP hD hS => ?_)
        refine lv_aload_n hx hb d_Mod_stands_17 rfl (lv_at hl 2 rfl) ?_
        refine lv_iload_n hx hb d_Mod_stands_18 rfl (lv_at hl 3 rfl) ?_
        refine g_callVi ⟨hx, hb, hml, hown, hts⟩ (c_Str_charAt h) (g_cwV 1 hts q_l_Mod_267 q_m_Str_charAt q_s_Str_charAt q_i_java_lang_String q_k_Str_charAt (by decide +kernel) rfl rfl (by rw [hR]; exact ⟨Nat.le_of_ble_eq_true rfl, Nat.le_of_ble_eq_true rfl⟩)) (cX_recv hCx h.1 hS) cX_g hK hP hD hS hA hCx rfl hl.1 rfl (Nat.le_of_ble_eq_true rfl) d_Mod_stands_19 ⟨Nat.zero_le _, Nat.zero_le _⟩ (fun r5 σ6 H locs h hP hD hS => ?_)
        refine lv_icmp_eq hx hb d_Mod_stands_22 (tgt := 27) rfl (fun hc => ?_) (fun hc => ?_)
        · have h := h.1 hc
          refine lv_iinc (v := (x3 + 1)) hx hb d_Mod_stands_27 hl (k := 3) rfl rfl (by decide) rfl (fun ls hl => ?_)
          refine lv_goto hx hb d_Mod_stands_30 (tgt := 2) rfl ?_
          exact ih2 x1 (x3 + 1) σ6 _ _ _ h hP hD hS (lv_sub hl [1, 2, 3, 0] rfl)
        · have h := h.2 hc
          refine lv_iconst (v := 0) hx hb d_Mod_stands_25 (by decide) ?_
          exact hret _ _ _ _ _ _ h rfl hP hD hS d_Mod_stands_26
  refine lv_iconst (v := 0) hx hb d_Mod_stands_0 (by decide) ?_
  refine lv_istore_n hx hb d_Mod_stands_1 rfl hl (by decide) rfl (fun ls hl => ?_)
  obtain ⟨n, h⟩ := h
  exact L2 n a1 0 σ _ _ _ h hP hD hS (lv_sub hl [1, 2, 3, 0] rfl)
set_option maxHeartbeats 4000000 in
set_option maxRecDepth 100000 in
theorem c_Mod_string {l : Launch} {D : va_G} {ad : Nat → Nat} {ty : Nat → ClassId} {cd : Nat → Nat → Nat} {a1 : Int32} {σ : MS} {post : Int32 → MS → Prop} (h : wp_Mod_string a1 σ post) : g_Meti l y_Mod_string (Cond.code y_Mod_string b_Mod_string 6 (some .boolean) :: gW) ({ frames := 1, cells := 0, slots := 0, locals := 23 }) D vwCl (gT ty) (mW ad ty cd) (cX cd) [.ref (ad 0), .int a1] σ post := by
  refine g_startz (cc := b_Mod_string) (maxL := 6) (by decide) rfl (Nat.le_of_ble_eq_true rfl) ?_
  intro p e s m args below meth c A Q R ls hR hx hb hts hown hml hA hS hP hD hK hCx hl hret
  unfold wp_Mod_string at h
  have hown : s.vm.findClass "TokenDeskModel" = some m.cls := hown
  have hl : lv_has ls 6 [(0, .ref (ad 0)), (1, .int a1)] := hl
  have L142 : ∀ (x2 : Int32) (x4 : Int32) (x5 : Int32) (σ : MS) (H : Heap) (locs : List Loc) (ls : Array Slot), L_Mod_string_142 post x2 x4 x5 σ → va_P D vwCl (mW ad ty cd σ) H → va_D A (mW ad ty cd σ) → va_S A s.heap H locs → lv_has ls 6 [(0, .ref (ad 0)), (2, .int x2), (4, .int x4), (5, .int x5)] → W p l e R s m args below meth c H locs 0 0 Q (F0 m 142 ls []) := by
    intro x2 x4 x5 σ H locs ls h hP hD hS hl
    unfold L_Mod_string_142 at h
    refine lv_iload hx hb d_Mod_string_142 (lv_at hl 3 rfl) ?_
    refine lv_aload_n hx hb d_Mod_string_144 rfl (lv_at hl 0 rfl) ?_
    refine va_get (D := D) (v := .int (m_let σ)) (C := R_Mod) (T := T_Mod) (N := 16) hx hb hts in_Mod hown hK hP 0 rfl rfl 6 (by decide) (hts _ q_f_Mod_207) (fun _ h9 => h9) rfl d_Mod_string_145 ?_
    refine lv_icmp_lt hx hb d_Mod_string_148 (tgt := 157) rfl (fun hc => ?_) (fun hc => ?_)
    · have h := h.1 hc
      refine lv_aload_n hx hb d_Mod_string_157 rfl (lv_at hl 0 rfl) ?_
      refine lv_iload hx hb d_Mod_string_158 (lv_at hl 3 rfl) ?_
      refine lv_iload hx hb d_Mod_string_160 (lv_at hl 2 rfl) ?_
      refine lv_iadd hx hb d_Mod_string_162 ?_
      refine va_put (D := D) (v := .int (x5 + x4)) (ty := .int) (C := R_Mod) (T := T_Mod) (N := 16) hx hb hts in_Mod t_Mod tk_Mod n_Mod hown hK hP hD hS 0 rfl rfl 7 (by decide) (hts _ q_f_Mod_214) (fun _ h9 => h9) rfl (by decide +kernel) rfl rfl (Nat.le_of_ble_eq_true rfl) d_Mod_string_163 (fun H locs hP hD hS => ?_)
      have hP : va_P D vwCl (mW ad ty cd (m_at' σ (x5 + x4))) H := hP
      have hD : va_D A (mW ad ty cd (m_at' σ (x5 + x4))) := hD
      obtain ⟨σ19, eσ19⟩ : ∃ z, z = (m_at' σ (x5 + x4)) := ⟨_, rfl⟩
      rw [← eσ19] at hP hD
      have h := h σ19 eσ19
      refine lv_aload_n hx hb d_Mod_string_166 rfl (lv_at hl 0 rfl) ?_
      refine lv_bipush (v := 7) hx hb d_Mod_string_167 (by decide) ?_
      refine lv_iload_n hx hb d_Mod_string_169 rfl (lv_at hl 1 rfl) ?_
      refine lv_aload_n hx hb d_Mod_string_170 rfl (lv_at hl 0 rfl) ?_
      refine va_get (D := D) (v := .int (m_at σ19)) (C := R_Mod) (T := T_Mod) (N := 16) hx hb hts in_Mod hown hK hP 0 rfl rfl 7 (by decide) (hts _ q_f_Mod_214) (fun _ h9 => h9) rfl d_Mod_string_171 ?_
      refine g_callVi ⟨hx, hb, hml, hown, hts⟩ (c_Mod_add h) (g_cwV 3 hts q_l_Mod_224 q_m_Mod_add q_s_Mod_add q_i_TokenDeskModel q_k_Mod_add (by decide +kernel) rfl rfl (by rw [hR]; exact ⟨Nat.le_of_ble_eq_true rfl, Nat.le_of_ble_eq_true rfl⟩)) (va_recv hK hP (q0 := 0) rfl rfl) cX_g hK hP hD hS hA hCx rfl hl.1 rfl (Nat.le_of_ble_eq_true rfl) d_Mod_string_174 ⟨Nat.zero_le _, Nat.zero_le _⟩ (fun r20 σ21 H locs h hP hD hS => ?_)
      exact hret _ _ _ _ _ _ h.2 h.1 hP hD hS d_Mod_string_177
    · have h := h.2 hc
      refine lv_aload_n hx hb d_Mod_string_151 rfl (lv_at hl 0 rfl) ?_
      refine lv_iload_n hx hb d_Mod_string_152 rfl (lv_at hl 1 rfl) ?_
      refine g_callVi ⟨hx, hb, hml, hown, hts⟩ (c_Mod_bad h) (g_cwV 1 hts q_l_Mod_210 q_m_Mod_bad q_s_Mod_bad q_i_TokenDeskModel q_k_Mod_bad (by decide +kernel) rfl rfl (by rw [hR]; exact ⟨Nat.le_of_ble_eq_true rfl, Nat.le_of_ble_eq_true rfl⟩)) (va_recv hK hP (q0 := 0) rfl rfl) cX_g hK hP hD hS hA hCx rfl hl.1 rfl (Nat.le_of_ble_eq_true rfl) d_Mod_string_153 ⟨Nat.zero_le _, Nat.zero_le _⟩ (fun r22 σ23 H locs h hP hD hS => ?_)
      exact hret _ _ _ _ _ _ h.2 h.1 hP hD hS d_Mod_string_156
  have L46 : ∀ n : Nat, ∀ (x2 : Int32) (x3 : Int32) (x4 : Int32) (x5 : Int32) (σ : MS) (H : Heap) (locs : List Loc) (ls : Array Slot), L_Mod_string_46 post n x2 x3 x4 x5 σ → va_P D vwCl (mW ad ty cd σ) H → va_D A (mW ad ty cd σ) → va_S A s.heap H locs → lv_has ls 6 [(0, .ref (ad 0)), (2, .int x2), (3, .int x3), (4, .int x4), (5, .int x5)] → W p l e R s m args below meth c H locs 0 0 Q (F0 m 46 ls []) := by
    intro n46
    induction n46 with
    | zero => intro x2 x3 x4 x5 σ H locs ls h hP hD hS hl; exact h.elim
    | succ n46 ih46 =>
      have L136 : ∀ (x2 : Int32) (x3 : Int32) (x4 : Int32) (s0 : Int32) (s1 : Int32) (σ : MS) (H : Heap) (locs : List Loc) (ls : Array Slot), L_Mod_string_136 post (fun x2 x3 x4 x5 σ => L_Mod_string_46 post n46 x2 x3 x4 x5 σ) x2 x3 x4 s0 s1 σ → va_P D vwCl (mW ad ty cd σ) H → va_D A (mW ad ty cd σ) → va_S A s.heap H locs → lv_has ls 6 [(0, .ref (ad 0)), (2, .int x2), (3, .int x3), (4, .int x4)] → W p l e R s m args below meth c H locs 0 0 Q (F0 m 136 ls [.int s0, .int s1]) := by
        intro x2 x3 x4 s0 s1 σ H locs ls h hP hD hS hl
        unfold L_Mod_string_136 at h
        refine lv_iadd hx hb d_Mod_string_136 ?_
        refine lv_istore hx hb d_Mod_string_137 hl (by decide) rfl (fun ls hl => ?_)
        refine lv_goto hx hb d_Mod_string_139 (tgt := 46) rfl ?_
        exact ih46 x2 x3 x4 (s1 + s0) σ _ _ _ h hP hD hS (lv_sub hl [1, 2, 3, 4, 0] rfl)
      have L118 : ∀ (x2 : Int32) (x3 : Int32) (x4 : Int32) (x5 : Int32) (σ : MS) (H : Heap) (locs : List Loc) (ls : Array Slot), L_Mod_string_118 post (fun x2 x3 x4 x5 σ => L_Mod_string_46 post n46 x2 x3 x4 x5 σ) x2 x3 x4 x5 σ → va_P D vwCl (mW ad ty cd σ) H → va_D A (mW ad ty cd σ) → va_S A s.heap H locs → lv_has ls 6 [(0, .ref (ad 0)), (2, .int x2), (3, .int x3), (4, .int x4), (5, .int x5)] → W p l e R s m args below meth c H locs 0 0 Q (F0 m 118 ls []) := by
        intro x2 x3 x4 x5 σ H locs ls h hP hD hS hl
        unfold L_Mod_string_118 at h
        refine lv_iload hx hb d_Mod_string_118 (lv_at hl 4 rfl) ?_
        refine lv_aload_n hx hb d_Mod_string_120 rfl (lv_at hl 0 rfl) ?_
        refine lv_iload hx hb d_Mod_string_121 (lv_at hl 4 rfl) ?_
        refine g_callVi ⟨hx, hb, hml, hown, hts⟩ (c_Mod_c h) (g_cwV 1 hts q_l_Mod_228 q_m_Mod_c q_s_Mod_c q_i_TokenDeskModel q_k_Mod_c (by decide +kernel) rfl rfl (by rw [hR]; exact ⟨Nat.le_of_ble_eq_true rfl, Nat.le_of_ble_eq_true rfl⟩)) (va_recv hK hP (q0 := 0) rfl rfl) cX_g hK hP hD hS hA hCx rfl hl.1 rfl (Nat.le_of_ble_eq_true rfl) d_Mod_string_123 ⟨Nat.zero_le _, Nat.zero_le _⟩ (fun r17 σ18 H locs h hP hD hS => ?_)
        refine lv_bipush (v := 92) hx hb d_Mod_string_126 (by decide) ?_
        refine lv_icmp_ne hx hb d_Mod_string_128 (tgt := 135) rfl (fun hc => ?_) (fun hc => ?_)
        · have h := h.1 hc
          refine lv_iconst (v := 1) hx hb d_Mod_string_135 (by decide) ?_
          exact L136 x2 x3 x4 1 x5 σ18 _ _ _ h hP hD hS (lv_sub hl [0, 1, 2, 3] rfl)
        · have h := h.2 hc
          refine lv_iconst (v := 2) hx hb d_Mod_string_131 (by decide) ?_
          refine lv_goto hx hb d_Mod_string_132 (tgt := 136) rfl ?_
          exact L136 x2 x3 x4 2 x5 σ18 _ _ _ h hP hD hS (lv_sub hl [0, 1, 2, 3] rfl)
      have L95 : ∀ (x2 : Int32) (x3 : Int32) (x4 : Int32) (x5 : Int32) (σ : MS) (H : Heap) (locs : List Loc) (ls : Array Slot), L_Mod_string_95 post (fun x2 x3 x4 x5 σ => L_Mod_string_46 post n46 x2 x3 x4 x5 σ) x2 x3 x4 x5 σ → va_P D vwCl (mW ad ty cd σ) H → va_D A (mW ad ty cd σ) → va_S A s.heap H locs → lv_has ls 6 [(0, .ref (ad 0)), (2, .int x2), (3, .int x3), (4, .int x4), (5, .int x5)] → W p l e R s m args below meth c H locs 0 0 Q (F0 m 95 ls []) := by
        intro x2 x3 x4 x5 σ H locs ls h hP hD hS hl
        unfold L_Mod_string_95 at h
        refine lv_iload hx hb d_Mod_string_95 (lv_at hl 3 rfl) ?_
        refine lv_iconst (v := 1) hx hb d_Mod_string_97 (by decide) ?_
        refine lv_icmp_ne hx hb d_Mod_string_98 (tgt := 118) rfl (fun hc => ?_) (fun hc => ?_)
        · have h := h.1 hc
          exact L118 x2 x3 x4 x5 σ _ _ _ h hP hD hS hl
        · have h := h.2 hc
          refine lv_aload_n hx hb d_Mod_string_101 rfl (lv_at hl 0 rfl) ?_
          refine lv_iload hx hb d_Mod_string_102 (lv_at hl 4 rfl) ?_
          refine g_callVi ⟨hx, hb, hml, hown, hts⟩ (c_Mod_c h) (g_cwV 1 hts q_l_Mod_228 q_m_Mod_c q_s_Mod_c q_i_TokenDeskModel q_k_Mod_c (by decide +kernel) rfl rfl (by rw [hR]; exact ⟨Nat.le_of_ble_eq_true rfl, Nat.le_of_ble_eq_true rfl⟩)) (va_recv hK hP (q0 := 0) rfl rfl) cX_g hK hP hD hS hA hCx rfl hl.1 rfl (Nat.le_of_ble_eq_true rfl) d_Mod_string_104 ⟨Nat.zero_le _, Nat.zero_le _⟩ (fun r13 σ14 H locs h hP hD hS => ?_)
          refine lv_bipush (v := 10) hx hb d_Mod_string_107 (by decide) ?_
          refine lv_icmp_ne hx hb d_Mod_string_109 (tgt := 118) rfl (fun hc => ?_) (fun hc => ?_)
          · have h := h.1 hc
            exact L118 x2 x3 x4 x5 σ14 _ _ _ h hP hD hS hl
          · have h := h.2 hc
            refine lv_aload_n hx hb d_Mod_string_112 rfl (lv_at hl 0 rfl) ?_
            refine lv_iload_n hx hb d_Mod_string_113 rfl (lv_at hl 1 rfl) ?_
            refine g_callVi ⟨hx, hb, hml, hown, hts⟩ (c_Mod_bad h) (g_cwV 1 hts q_l_Mod_210 q_m_Mod_bad q_s_Mod_bad q_i_TokenDeskModel q_k_Mod_bad (by decide +kernel) rfl rfl (by rw [hR]; exact ⟨Nat.le_of_ble_eq_true rfl, Nat.le_of_ble_eq_true rfl⟩)) (va_recv hK hP (q0 := 0) rfl rfl) cX_g hK hP hD hS hA hCx rfl hl.1 rfl (Nat.le_of_ble_eq_true rfl) d_Mod_string_114 ⟨Nat.zero_le _, Nat.zero_le _⟩ (fun r15 σ16 H locs h hP hD hS => ?_)
            exact hret _ _ _ _ _ _ h.2 h.1 hP hD hS d_Mod_string_117
      intro x2 x3 x4 x5 σ H locs ls h hP hD hS hl
      unfold L_Mod_string_46 at h
      refine lv_iload hx hb d_Mod_string_46 (lv_at hl 4 rfl) ?_
      refine lv_aload_n hx hb d_Mod_string_48 rfl (lv_at hl 0 rfl) ?_
      refine va_get (D := D) (v := .int (m_let σ)) (C := R_Mod) (T := T_Mod) (N := 16) hx hb hts in_Mod hown hK hP 0 rfl rfl 6 (by decide) (hts _ q_f_Mod_207) (fun _ h9 => h9) rfl d_Mod_string_49 ?_
      refine lv_icmp_ge hx hb d_Mod_string_52 (tgt := 142) rfl (fun hc => ?_) (fun hc => ?_)
      · have h := h.1 hc
        exact L142 x2 x4 x5 σ _ _ _ h hP hD hS (lv_sub hl [0, 1, 3, 4] rfl)
      · have h := h.2 hc
        refine lv_aload_n hx hb d_Mod_string_55 rfl (lv_at hl 0 rfl) ?_
        refine lv_iload hx hb d_Mod_string_56 (lv_at hl 4 rfl) ?_
        refine g_callVi ⟨hx, hb, hml, hown, hts⟩ (c_Mod_c h) (g_cwV 1 hts q_l_Mod_228 q_m_Mod_c q_s_Mod_c q_i_TokenDeskModel q_k_Mod_c (by decide +kernel) rfl rfl (by rw [hR]; exact ⟨Nat.le_of_ble_eq_true rfl, Nat.le_of_ble_eq_true rfl⟩)) (va_recv hK hP (q0 := 0) rfl rfl) cX_g hK hP hD hS hA hCx rfl hl.1 rfl (Nat.le_of_ble_eq_true rfl) d_Mod_string_58 ⟨Nat.zero_le _, Nat.zero_le _⟩ (fun r7 σ8 H locs h hP hD hS => ?_)
        refine lv_iload_n hx hb d_Mod_string_61 rfl (lv_at hl 2 rfl) ?_
        refine lv_icmp_ne hx hb d_Mod_string_62 (tgt := 95) rfl (fun hc => ?_) (fun hc => ?_)
        · have h := h.1 hc
          exact L95 x2 x3 x4 x5 σ8 _ _ _ h hP hD hS hl
        · have h := h.2 hc
          refine lv_iload hx hb d_Mod_string_65 (lv_at hl 3 rfl) ?_
          refine lv_iconst (v := 1) hx hb d_Mod_string_67 (by decide) ?_
          refine lv_icmp_eq hx hb d_Mod_string_68 (tgt := 142) rfl (fun hc => ?_) (fun hc => ?_)
          · have h := h.1 hc
            exact L142 x2 x4 x5 σ8 _ _ _ h hP hD hS (lv_sub hl [0, 1, 3, 4] rfl)
          · have h := h.2 hc
            refine lv_aload_n hx hb d_Mod_string_71 rfl (lv_at hl 0 rfl) ?_
            refine lv_iload hx hb d_Mod_string_72 (lv_at hl 4 rfl) ?_
            refine lv_iconst (v := 1) hx hb d_Mod_string_74 (by decide) ?_
            refine lv_iadd hx hb d_Mod_string_75 ?_
            refine g_callVi ⟨hx, hb, hml, hown, hts⟩ (c_Mod_c h) (g_cwV 1 hts q_l_Mod_228 q_m_Mod_c q_s_Mod_c q_i_TokenDeskModel q_k_Mod_c (by decide +kernel) rfl rfl (by rw [hR]; exact ⟨Nat.le_of_ble_eq_true rfl, Nat.le_of_ble_eq_true rfl⟩)) (va_recv hK hP (q0 := 0) rfl rfl) cX_g hK hP hD hS hA hCx rfl hl.1 rfl (Nat.le_of_ble_eq_true rfl) d_Mod_string_76 ⟨Nat.zero_le _, Nat.zero_le _⟩ (fun r9 σ10 H locs h hP hD hS => ?_)
            refine lv_iload_n hx hb d_Mod_string_79 rfl (lv_at hl 2 rfl) ?_
            refine lv_icmp_ne hx hb d_Mod_string_80 (tgt := 95) rfl (fun hc => ?_) (fun hc => ?_)
            · have h := h.1 hc
              exact L95 x2 x3 x4 x5 σ10 _ _ _ h hP hD hS hl
            · have h := h.2 hc
              refine lv_aload_n hx hb d_Mod_string_83 rfl (lv_at hl 0 rfl) ?_
              refine lv_iload hx hb d_Mod_string_84 (lv_at hl 4 rfl) ?_
              refine lv_iconst (v := 2) hx hb d_Mod_string_86 (by decide) ?_
              refine lv_iadd hx hb d_Mod_string_87 ?_
              refine g_callVi ⟨hx, hb, hml, hown, hts⟩ (c_Mod_c h) (g_cwV 1 hts q_l_Mod_228 q_m_Mod_c q_s_Mod_c q_i_TokenDeskModel q_k_Mod_c (by decide +kernel) rfl rfl (by rw [hR]; exact ⟨Nat.le_of_ble_eq_true rfl, Nat.le_of_ble_eq_true rfl⟩)) (va_recv hK hP (q0 := 0) rfl rfl) cX_g hK hP hD hS hA hCx rfl hl.1 rfl (Nat.le_of_ble_eq_true rfl) d_Mod_string_88 ⟨Nat.zero_le _, Nat.zero_le _⟩ (fun r11 σ12 H locs h hP hD hS => ?_)
              refine lv_iload_n hx hb d_Mod_string_91 rfl (lv_at hl 2 rfl) ?_
              refine lv_icmp_eq hx hb d_Mod_string_92 (tgt := 142) rfl (fun hc => ?_) (fun hc => ?_)
              · have h := h.1 hc
                exact L142 x2 x4 x5 σ12 _ _ _ h hP hD hS (lv_sub hl [0, 1, 3, 4] rfl)
              · have h := h.2 hc
                exact L95 x2 x3 x4 x5 σ12 _ _ _ h hP hD hS hl
  have L38 : ∀ (x1 : Int32) (x2 : Int32) (x3 : Int32) (s0 : Int32) (σ : MS) (H : Heap) (locs : List Loc) (ls : Array Slot), L_Mod_string_38 post x1 x2 x3 s0 σ → va_P D vwCl (mW ad ty cd σ) H → va_D A (mW ad ty cd σ) → va_S A s.heap H locs → lv_has ls 6 [(0, .ref (ad 0)), (1, .int x1), (2, .int x2), (3, .int x3)] → W p l e R s m args below meth c H locs 0 0 Q (F0 m 38 ls [.int s0]) := by
    intro x1 x2 x3 s0 σ H locs ls h hP hD hS hl
    unfold L_Mod_string_38 at h
    refine lv_istore hx hb d_Mod_string_38 hl (by decide) rfl (fun ls hl => ?_)
    refine lv_iload_n hx hb d_Mod_string_40 rfl (lv_at hl 2 rfl) ?_
    refine lv_iload hx hb d_Mod_string_41 (lv_at hl 0 rfl) ?_
    refine lv_iadd hx hb d_Mod_string_43 ?_
    refine lv_istore hx hb d_Mod_string_44 hl (by decide) rfl (fun ls hl => ?_)
    obtain ⟨n, h⟩ := h
    exact L46 n x2 x3 s0 (x1 + s0) σ _ _ _ h hP hD hS (lv_sub hl [2, 4, 5, 1, 0] rfl)
  have L37 : ∀ (x1 : Int32) (x2 : Int32) (x3 : Int32) (σ : MS) (H : Heap) (locs : List Loc) (ls : Array Slot), L_Mod_string_37 post x1 x2 x3 σ → va_P D vwCl (mW ad ty cd σ) H → va_D A (mW ad ty cd σ) → va_S A s.heap H locs → lv_has ls 6 [(0, .ref (ad 0)), (1, .int x1), (2, .int x2), (3, .int x3)] → W p l e R s m args below meth c H locs 0 0 Q (F0 m 37 ls []) := by
    intro x1 x2 x3 σ H locs ls h hP hD hS hl
    unfold L_Mod_string_37 at h
    refine lv_iconst (v := 1) hx hb d_Mod_string_37 (by decide) ?_
    exact L38 x1 x2 x3 1 σ _ _ _ h hP hD hS hl
  refine lv_aload_n hx hb d_Mod_string_0 rfl (lv_at hl 0 rfl) ?_
  refine va_get (D := D) (v := .int (m_at σ)) (C := R_Mod) (T := T_Mod) (N := 16) hx hb hts in_Mod hown hK hP 0 rfl rfl 7 (by decide) (hts _ q_f_Mod_214) (fun _ h9 => h9) rfl d_Mod_string_1 ?_
  refine lv_istore_n hx hb d_Mod_string_4 rfl hl (by decide) rfl (fun ls hl => ?_)
  refine lv_aload_n hx hb d_Mod_string_5 rfl (lv_at hl 1 rfl) ?_
  refine lv_iload_n hx hb d_Mod_string_6 rfl (lv_at hl 2 rfl) ?_
  refine g_callVi ⟨hx, hb, hml, hown, hts⟩ (c_Mod_c h) (g_cwV 1 hts q_l_Mod_228 q_m_Mod_c q_s_Mod_c q_i_TokenDeskModel q_k_Mod_c (by decide +kernel) rfl rfl (by rw [hR]; exact ⟨Nat.le_of_ble_eq_true rfl, Nat.le_of_ble_eq_true rfl⟩)) (va_recv hK hP (q0 := 0) rfl rfl) cX_g hK hP hD hS hA hCx rfl hl.1 rfl (Nat.le_of_ble_eq_true rfl) d_Mod_string_7 ⟨Nat.zero_le _, Nat.zero_le _⟩ (fun r1 σ2 H locs h hP hD hS => ?_)
  refine lv_istore_n hx hb d_Mod_string_10 rfl hl (by decide) rfl (fun ls hl => ?_)
  refine lv_aload_n hx hb d_Mod_string_11 rfl (lv_at hl 2 rfl) ?_
  refine lv_iload_n hx hb d_Mod_string_12 rfl (lv_at hl 3 rfl) ?_
  refine lv_iconst (v := 1) hx hb d_Mod_string_13 (by decide) ?_
  refine lv_iadd hx hb d_Mod_string_14 ?_
  refine g_callVi ⟨hx, hb, hml, hown, hts⟩ (c_Mod_c h) (g_cwV 1 hts q_l_Mod_228 q_m_Mod_c q_s_Mod_c q_i_TokenDeskModel q_k_Mod_c (by decide +kernel) rfl rfl (by rw [hR]; exact ⟨Nat.le_of_ble_eq_true rfl, Nat.le_of_ble_eq_true rfl⟩)) (va_recv hK hP (q0 := 0) rfl rfl) cX_g hK hP hD hS hA hCx rfl hl.1 rfl (Nat.le_of_ble_eq_true rfl) d_Mod_string_15 ⟨Nat.zero_le _, Nat.zero_le _⟩ (fun r3 σ4 H locs h hP hD hS => ?_)
  refine lv_iload_n hx hb d_Mod_string_18 rfl (lv_at hl 0 rfl) ?_
  refine lv_icmp_ne hx hb d_Mod_string_19 (tgt := 37) rfl (fun hc => ?_) (fun hc => ?_)
  · have h := h.1 hc
    exact L37 a1 (m_at σ) r1 σ4 _ _ _ h hP hD hS (lv_sub hl [2, 3, 1, 0] rfl)
  · have h := h.2 hc
    refine lv_aload_n hx hb d_Mod_string_22 rfl (lv_at hl 2 rfl) ?_
    refine lv_iload_n hx hb d_Mod_string_23 rfl (lv_at hl 3 rfl) ?_
    refine lv_iconst (v := 2) hx hb d_Mod_string_24 (by decide) ?_
    refine lv_iadd hx hb d_Mod_string_25 ?_
    refine g_callVi ⟨hx, hb, hml, hown, hts⟩ (c_Mod_c h) (g_cwV 1 hts q_l_Mod_228 q_m_Mod_c q_s_Mod_c q_i_TokenDeskModel q_k_Mod_c (by decide +kernel) rfl rfl (by rw [hR]; exact ⟨Nat.le_of_ble_eq_true rfl, Nat.le_of_ble_eq_true rfl⟩)) (va_recv hK hP (q0 := 0) rfl rfl) cX_g hK hP hD hS hA hCx rfl hl.1 rfl (Nat.le_of_ble_eq_true rfl) d_Mod_string_26 ⟨Nat.zero_le _, Nat.zero_le _⟩ (fun r5 σ6 H locs h hP hD hS => ?_)
    refine lv_iload_n hx hb d_Mod_string_29 rfl (lv_at hl 0 rfl) ?_
    refine lv_icmp_ne hx hb d_Mod_string_30 (tgt := 37) rfl (fun hc => ?_) (fun hc => ?_)
    · have h := h.1 hc
      exact L37 a1 (m_at σ) r1 σ6 _ _ _ h hP hD hS (lv_sub hl [2, 3, 1, 0] rfl)
    · have h := h.2 hc
      refine lv_iconst (v := 3) hx hb d_Mod_string_33 (by decide) ?_
      refine lv_goto hx hb d_Mod_string_34 (tgt := 38) rfl ?_
      exact L38 a1 (m_at σ) r1 3 σ6 _ _ _ h hP hD hS (lv_sub hl [2, 3, 1, 0] rfl)
set_option maxHeartbeats 4000000 in
set_option maxRecDepth 100000 in
theorem c_Mod_token {l : Launch} {D : va_G} {ad : Nat → Nat} {ty : Nat → ClassId} {cd : Nat → Nat → Nat} {σ : MS} {post : Int32 → MS → Prop} (h : wp_Mod_token σ post) : g_Meti l y_Mod_token (Cond.code y_Mod_token b_Mod_token 6 (some .boolean) :: gW) ({ frames := 5, cells := 0, slots := 0, locals := 108 }) D vwCl (gT ty) (mW ad ty cd) (cX cd) [.ref (ad 0)] σ post := by
  refine g_startz (cc := b_Mod_token) (maxL := 6) (by decide) rfl (Nat.le_of_ble_eq_true rfl) ?_
  intro p e s m args below meth c A Q R ls hR hx hb hts hown hml hA hS hP hD hK hCx hl hret
  unfold wp_Mod_token at h
  have hown : s.vm.findClass "TokenDeskModel" = some m.cls := hown
  have hl : lv_has ls 6 [(0, .ref (ad 0))] := hl
  have L396 : ∀ (x2 : Int32) (x4 : Int32) (σ : MS) (H : Heap) (locs : List Loc) (ls : Array Slot), L_Mod_token_396 post x2 x4 σ → va_P D vwCl (mW ad ty cd σ) H → va_D A (mW ad ty cd σ) → va_S A s.heap H locs → lv_has ls 6 [(0, .ref (ad 0)), (2, .int x2), (4, .int x4)] → W p l e R s m args below meth c H locs 0 0 Q (F0 m 396 ls []) := by
    intro x2 x4 σ H locs ls h hP hD hS hl
    unfold L_Mod_token_396 at h
    refine lv_aload_n hx hb d_Mod_token_396 rfl (lv_at hl 0 rfl) ?_
    refine lv_dup hx hb d_Mod_token_397 rfl ?_
    refine va_get (D := D) (v := .int (m_at σ)) (C := R_Mod) (T := T_Mod) (N := 16) hx hb hts in_Mod hown hK hP 0 rfl rfl 7 (by decide) (hts _ q_f_Mod_214) (fun _ h9 => h9) rfl d_Mod_token_398 ?_
    refine lv_aload_n hx hb d_Mod_token_401 rfl (lv_at hl 0 rfl) ?_
    refine va_get (D := D) (v := .ref (ad 2)) (C := R_Mod) (T := T_Mod) (N := 16) hx hb hts in_Mod hown hK hP 0 rfl rfl 1 (by decide) (hts _ q_f_Mod_173) (fun _ h9 => h9) rfl d_Mod_token_402 ?_
    refine lv_iload hx hb d_Mod_token_405 (lv_at hl 2 rfl) ?_
    refine va_aldq (D := D) hx hb hK hP 2 2 rfl rfl h.1 d_Mod_token_407 ?_
    have h := h.2
    refine g_callVi ⟨hx, hb, hml, hown, hts⟩ (c_Str_length h) (g_cwV 0 hts q_l_Mod_259 q_m_Str_length q_s_Str_length q_i_java_lang_String q_k_Str_length (by decide +kernel) rfl rfl (by rw [hR]; exact ⟨Nat.le_of_ble_eq_true rfl, Nat.le_of_ble_eq_true rfl⟩)) (cX_recv hCx h.1 hS) cX_g hK hP hD hS hA hCx rfl hl.1 rfl (Nat.le_of_ble_eq_true rfl) d_Mod_token_408 ⟨Nat.zero_le _, Nat.zero_le _⟩ (fun r40 σ41 H locs h hP hD hS => ?_)
    refine lv_iadd hx hb d_Mod_token_411 ?_
    refine va_put (D := D) (v := .int ((m_at σ) + r40)) (ty := .int) (C := R_Mod) (T := T_Mod) (N := 16) hx hb hts in_Mod t_Mod tk_Mod n_Mod hown hK hP hD hS 0 rfl rfl 7 (by decide) (hts _ q_f_Mod_214) (fun _ h9 => h9) rfl (by decide +kernel) rfl rfl (Nat.le_of_ble_eq_true rfl) d_Mod_token_412 (fun H locs hP hD hS => ?_)
    have hP : va_P D vwCl (mW ad ty cd (m_at' σ41 ((m_at σ) + r40))) H := hP
    have hD : va_D A (mW ad ty cd (m_at' σ41 ((m_at σ) + r40))) := hD
    obtain ⟨σ42, eσ42⟩ : ∃ z, z = (m_at' σ41 ((m_at σ) + r40)) := ⟨_, rfl⟩
    rw [← eσ42] at hP hD
    have h := h σ42 eσ42
    refine lv_aload_n hx hb d_Mod_token_415 rfl (lv_at hl 0 rfl) ?_
    refine lv_bipush (v := 43) hx hb d_Mod_token_416 (by decide) ?_
    refine lv_iload hx hb d_Mod_token_418 (lv_at hl 2 rfl) ?_
    refine lv_iadd hx hb d_Mod_token_420 ?_
    refine lv_iload_n hx hb d_Mod_token_421 rfl (lv_at hl 1 rfl) ?_
    refine lv_aload_n hx hb d_Mod_token_422 rfl (lv_at hl 0 rfl) ?_
    refine va_get (D := D) (v := .int (m_at σ42)) (C := R_Mod) (T := T_Mod) (N := 16) hx hb hts in_Mod hown hK hP 0 rfl rfl 7 (by decide) (hts _ q_f_Mod_214) (fun _ h9 => h9) rfl d_Mod_token_423 ?_
    refine g_callVi ⟨hx, hb, hml, hown, hts⟩ (c_Mod_add h) (g_cwV 3 hts q_l_Mod_224 q_m_Mod_add q_s_Mod_add q_i_TokenDeskModel q_k_Mod_add (by decide +kernel) rfl rfl (by rw [hR]; exact ⟨Nat.le_of_ble_eq_true rfl, Nat.le_of_ble_eq_true rfl⟩)) (va_recv hK hP (q0 := 0) rfl rfl) cX_g hK hP hD hS hA hCx rfl hl.1 rfl (Nat.le_of_ble_eq_true rfl) d_Mod_token_426 ⟨Nat.zero_le _, Nat.zero_le _⟩ (fun r43 σ44 H locs h hP hD hS => ?_)
    exact hret _ _ _ _ _ _ h.2 h.1 hP hD hS d_Mod_token_429
  have L379 : ∀ (x2 : Int32) (x4 : Int32) (σ : MS) (H : Heap) (locs : List Loc) (ls : Array Slot), L_Mod_token_379 post x2 x4 σ → va_P D vwCl (mW ad ty cd σ) H → va_D A (mW ad ty cd σ) → va_S A s.heap H locs → lv_has ls 6 [(0, .ref (ad 0)), (2, .int x2), (4, .int x4)] → W p l e R s m args below meth c H locs 0 0 Q (F0 m 379 ls []) := by
    intro x2 x4 σ H locs ls h hP hD hS hl
    unfold L_Mod_token_379 at h
    refine lv_aload_n hx hb d_Mod_token_379 rfl (lv_at hl 0 rfl) ?_
    refine va_get (D := D) (v := .int (m_depth σ)) (C := R_Mod) (T := T_Mod) (N := 16) hx hb hts in_Mod hown hK hP 0 rfl rfl 8 (by decide) (hts _ q_f_Mod_238) (fun _ h9 => h9) rfl d_Mod_token_380 ?_
    refine lv_if_le hx hb d_Mod_token_383 (tgt := 396) rfl (fun hc => ?_) (fun hc => ?_)
    · have h := h.1 hc
      exact L396 x2 x4 σ _ _ _ h hP hD hS hl
    · have h := h.2 hc
      refine lv_aload_n hx hb d_Mod_token_386 rfl (lv_at hl 0 rfl) ?_
      refine lv_dup hx hb d_Mod_token_387 rfl ?_
      refine va_get (D := D) (v := .int (m_depth σ)) (C := R_Mod) (T := T_Mod) (N := 16) hx hb hts in_Mod hown hK hP 0 rfl rfl 8 (by decide) (hts _ q_f_Mod_238) (fun _ h9 => h9) rfl d_Mod_token_388 ?_
      refine lv_iconst (v := 1) hx hb d_Mod_token_391 (by decide) ?_
      refine lv_isub hx hb d_Mod_token_392 ?_
      refine va_put (D := D) (v := .int ((m_depth σ) - 1)) (ty := .int) (C := R_Mod) (T := T_Mod) (N := 16) hx hb hts in_Mod t_Mod tk_Mod n_Mod hown hK hP hD hS 0 rfl rfl 8 (by decide) (hts _ q_f_Mod_238) (fun _ h9 => h9) rfl (by decide +kernel) rfl rfl (Nat.le_of_ble_eq_true rfl) d_Mod_token_393 (fun H locs hP hD hS => ?_)
      have hP : va_P D vwCl (mW ad ty cd (m_depth' σ ((m_depth σ) - 1))) H := hP
      have hD : va_D A (mW ad ty cd (m_depth' σ ((m_depth σ) - 1))) := hD
      obtain ⟨σ45, eσ45⟩ : ∃ z, z = (m_depth' σ ((m_depth σ) - 1)) := ⟨_, rfl⟩
      rw [← eσ45] at hP hD
      have h := h σ45 eσ45
      exact L396 x2 x4 σ45 _ _ _ h hP hD hS hl
  have L361 : ∀ (x1 : Int32) (x2 : Int32) (x4 : Int32) (σ : MS) (H : Heap) (locs : List Loc) (ls : Array Slot), L_Mod_token_361 post x1 x2 x4 σ → va_P D vwCl (mW ad ty cd σ) H → va_D A (mW ad ty cd σ) → va_S A s.heap H locs → lv_has ls 6 [(0, .ref (ad 0)), (1, .int x1), (2, .int x2), (4, .int x4)] → W p l e R s m args below meth c H locs 0 0 Q (F0 m 361 ls []) := by
    intro x1 x2 x4 σ H locs ls h hP hD hS hl
    unfold L_Mod_token_361 at h
    refine lv_iload_n hx hb d_Mod_token_361 rfl (lv_at hl 1 rfl) ?_
    refine lv_bipush (v := 41) hx hb d_Mod_token_362 (by decide) ?_
    refine lv_icmp_eq hx hb d_Mod_token_364 (tgt := 379) rfl (fun hc => ?_) (fun hc => ?_)
    · have h := h.1 hc
      exact L379 x2 x4 σ _ _ _ h hP hD hS (lv_sub hl [0, 2, 3] rfl)
    · have h := h.2 hc
      refine lv_iload_n hx hb d_Mod_token_367 rfl (lv_at hl 1 rfl) ?_
      refine lv_bipush (v := 93) hx hb d_Mod_token_368 (by decide) ?_
      refine lv_icmp_eq hx hb d_Mod_token_370 (tgt := 379) rfl (fun hc => ?_) (fun hc => ?_)
      · have h := h.1 hc
        exact L379 x2 x4 σ _ _ _ h hP hD hS (lv_sub hl [0, 2, 3] rfl)
      · have h := h.2 hc
        refine lv_iload_n hx hb d_Mod_token_373 rfl (lv_at hl 1 rfl) ?_
        refine lv_bipush (v := 125) hx hb d_Mod_token_374 (by decide) ?_
        refine lv_icmp_ne hx hb d_Mod_token_376 (tgt := 396) rfl (fun hc => ?_) (fun hc => ?_)
        · have h := h.1 hc
          exact L396 x2 x4 σ _ _ _ h hP hD hS (lv_sub hl [0, 2, 3] rfl)
        · have h := h.2 hc
          exact L379 x2 x4 σ _ _ _ h hP hD hS (lv_sub hl [0, 2, 3] rfl)
  have L351 : ∀ (x1 : Int32) (x2 : Int32) (x4 : Int32) (σ : MS) (H : Heap) (locs : List Loc) (ls : Array Slot), L_Mod_token_351 post x1 x2 x4 σ → va_P D vwCl (mW ad ty cd σ) H → va_D A (mW ad ty cd σ) → va_S A s.heap H locs → lv_has ls 6 [(0, .ref (ad 0)), (1, .int x1), (2, .int x2), (4, .int x4)] → W p l e R s m args below meth c H locs 0 0 Q (F0 m 351 ls []) := by
    intro x1 x2 x4 σ H locs ls h hP hD hS hl
    unfold L_Mod_token_351 at h
    refine lv_aload_n hx hb d_Mod_token_351 rfl (lv_at hl 0 rfl) ?_
    refine lv_dup hx hb d_Mod_token_352 rfl ?_
    refine va_get (D := D) (v := .int (m_depth σ)) (C := R_Mod) (T := T_Mod) (N := 16) hx hb hts in_Mod hown hK hP 0 rfl rfl 8 (by decide) (hts _ q_f_Mod_238) (fun _ h9 => h9) rfl d_Mod_token_353 ?_
    refine lv_iconst (v := 1) hx hb d_Mod_token_356 (by decide) ?_
    refine lv_iadd hx hb d_Mod_token_357 ?_
    refine va_put (D := D) (v := .int ((m_depth σ) + 1)) (ty := .int) (C := R_Mod) (T := T_Mod) (N := 16) hx hb hts in_Mod t_Mod tk_Mod n_Mod hown hK hP hD hS 0 rfl rfl 8 (by decide) (hts _ q_f_Mod_238) (fun _ h9 => h9) rfl (by decide +kernel) rfl rfl (Nat.le_of_ble_eq_true rfl) d_Mod_token_358 (fun H locs hP hD hS => ?_)
    have hP : va_P D vwCl (mW ad ty cd (m_depth' σ ((m_depth σ) + 1))) H := hP
    have hD : va_D A (mW ad ty cd (m_depth' σ ((m_depth σ) + 1))) := hD
    obtain ⟨σ46, eσ46⟩ : ∃ z, z = (m_depth' σ ((m_depth σ) + 1)) := ⟨_, rfl⟩
    rw [← eσ46] at hP hD
    have h := h σ46 eσ46
    exact L361 x1 x2 x4 σ46 _ _ _ h hP hD hS hl
  have L262 : ∀ n : Nat, ∀ (x1 : Int32) (x2 : Int32) (x4 : Int32) (x5 : Int32) (σ : MS) (H : Heap) (locs : List Loc) (ls : Array Slot), L_Mod_token_262 post n x1 x2 x4 x5 σ → va_P D vwCl (mW ad ty cd σ) H → va_D A (mW ad ty cd σ) → va_S A s.heap H locs → lv_has ls 6 [(0, .ref (ad 0)), (1, .int x1), (2, .int x2), (4, .int x4), (5, .int x5)] → W p l e R s m args below meth c H locs 0 0 Q (F0 m 262 ls []) := by
    intro n262
    induction n262 with
    | zero => intro x1 x2 x4 x5 σ H locs ls h hP hD hS hl; exact h.elim
    | succ n262 ih262 =>
      have L316 : ∀ (x1 : Int32) (x2 : Int32) (x4 : Int32) (x5 : Int32) (σ : MS) (H : Heap) (locs : List Loc) (ls : Array Slot), L_Mod_token_316 post (fun x1 x2 x4 x5 σ => L_Mod_token_262 post n262 x1 x2 x4 x5 σ) x1 x2 x4 x5 σ → va_P D vwCl (mW ad ty cd σ) H → va_D A (mW ad ty cd σ) → va_S A s.heap H locs → lv_has ls 6 [(0, .ref (ad 0)), (1, .int x1), (2, .int x2), (4, .int x4), (5, .int x5)] → W p l e R s m args below meth c H locs 0 0 Q (F0 m 316 ls []) := by
        intro x1 x2 x4 x5 σ H locs ls h hP hD hS hl
        unfold L_Mod_token_316 at h
        refine lv_iinc (v := (x5 + 1)) hx hb d_Mod_token_316 hl (k := 4) rfl rfl (by decide) rfl (fun ls hl => ?_)
        refine lv_goto hx hb d_Mod_token_319 (tgt := 262) rfl ?_
        exact ih262 x1 x2 x4 (x5 + 1) σ _ _ _ h hP hD hS (lv_sub hl [1, 2, 3, 4, 0] rfl)
      have L312 : ∀ (x1 : Int32) (x2 : Int32) (x5 : Int32) (σ : MS) (H : Heap) (locs : List Loc) (ls : Array Slot), L_Mod_token_312 post (fun x1 x2 x4 x5 σ => L_Mod_token_262 post n262 x1 x2 x4 x5 σ) x1 x2 x5 σ → va_P D vwCl (mW ad ty cd σ) H → va_D A (mW ad ty cd σ) → va_S A s.heap H locs → lv_has ls 6 [(0, .ref (ad 0)), (1, .int x1), (2, .int x2), (5, .int x5)] → W p l e R s m args below meth c H locs 0 0 Q (F0 m 312 ls []) := by
        intro x1 x2 x5 σ H locs ls h hP hD hS hl
        unfold L_Mod_token_312 at h
        refine lv_iload hx hb d_Mod_token_312 (lv_at hl 3 rfl) ?_
        refine lv_istore hx hb d_Mod_token_314 hl (by decide) rfl (fun ls hl => ?_)
        exact L316 x1 x2 x5 x5 σ _ _ _ h hP hD hS (lv_sub hl [1, 2, 3, 0, 4] rfl)
      intro x1 x2 x4 x5 σ H locs ls h hP hD hS hl
      unfold L_Mod_token_262 at h
      refine lv_iload hx hb d_Mod_token_262 (lv_at hl 4 rfl) ?_
      refine lv_bipush (v := 44) hx hb d_Mod_token_264 (by decide) ?_
      refine lv_icmp_ge hx hb d_Mod_token_266 (tgt := 322) rfl (fun hc => ?_) (fun hc => ?_)
      · have h := h.1 hc
        refine lv_iload hx hb d_Mod_token_322 (lv_at hl 3 rfl) ?_
        refine lv_if_ge hx hb d_Mod_token_324 (tgt := 333) rfl (fun hc => ?_) (fun hc => ?_)
        · have h := h.1 hc
          refine lv_iload_n hx hb d_Mod_token_333 rfl (lv_at hl 1 rfl) ?_
          refine lv_bipush (v := 40) hx hb d_Mod_token_334 (by decide) ?_
          refine lv_icmp_eq hx hb d_Mod_token_336 (tgt := 351) rfl (fun hc => ?_) (fun hc => ?_)
          · have h := h.1 hc
            exact L351 x1 x2 x4 σ _ _ _ h hP hD hS (lv_sub hl [0, 1, 2, 3] rfl)
          · have h := h.2 hc
            refine lv_iload_n hx hb d_Mod_token_339 rfl (lv_at hl 1 rfl) ?_
            refine lv_bipush (v := 91) hx hb d_Mod_token_340 (by decide) ?_
            refine lv_icmp_eq hx hb d_Mod_token_342 (tgt := 351) rfl (fun hc => ?_) (fun hc => ?_)
            · have h := h.1 hc
              exact L351 x1 x2 x4 σ _ _ _ h hP hD hS (lv_sub hl [0, 1, 2, 3] rfl)
            · have h := h.2 hc
              refine lv_iload_n hx hb d_Mod_token_345 rfl (lv_at hl 1 rfl) ?_
              refine lv_bipush (v := 123) hx hb d_Mod_token_346 (by decide) ?_
              refine lv_icmp_ne hx hb d_Mod_token_348 (tgt := 361) rfl (fun hc => ?_) (fun hc => ?_)
              · have h := h.1 hc
                exact L361 x1 x2 x4 σ _ _ _ h hP hD hS (lv_sub hl [0, 1, 2, 3] rfl)
              · have h := h.2 hc
                exact L351 x1 x2 x4 σ _ _ _ h hP hD hS (lv_sub hl [0, 1, 2, 3] rfl)
        · have h := h.2 hc
          refine lv_aload_n hx hb d_Mod_token_327 rfl (lv_at hl 0 rfl) ?_
          refine lv_iload_n hx hb d_Mod_token_328 rfl (lv_at hl 2 rfl) ?_
          refine g_callVi ⟨hx, hb, hml, hown, hts⟩ (c_Mod_bad h) (g_cwV 1 hts q_l_Mod_210 q_m_Mod_bad q_s_Mod_bad q_i_TokenDeskModel q_k_Mod_bad (by decide +kernel) rfl rfl (by rw [hR]; exact ⟨Nat.le_of_ble_eq_true rfl, Nat.le_of_ble_eq_true rfl⟩)) (va_recv hK hP (q0 := 0) rfl rfl) cX_g hK hP hD hS hA hCx rfl hl.1 rfl (Nat.le_of_ble_eq_true rfl) d_Mod_token_329 ⟨Nat.zero_le _, Nat.zero_le _⟩ (fun r32 σ33 H locs h hP hD hS => ?_)
          exact hret _ _ _ _ _ _ h.2 h.1 hP hD hS d_Mod_token_332
      · have h := h.2 hc
        refine lv_aload_n hx hb d_Mod_token_269 rfl (lv_at hl 0 rfl) ?_
        refine lv_iload_n hx hb d_Mod_token_270 rfl (lv_at hl 2 rfl) ?_
        refine lv_aload_n hx hb d_Mod_token_271 rfl (lv_at hl 0 rfl) ?_
        refine va_get (D := D) (v := .ref (ad 2)) (C := R_Mod) (T := T_Mod) (N := 16) hx hb hts in_Mod hown hK hP 0 rfl rfl 1 (by decide) (hts _ q_f_Mod_173) (fun _ h9 => h9) rfl d_Mod_token_272 ?_
        refine lv_iload hx hb d_Mod_token_275 (lv_at hl 4 rfl) ?_
        refine va_aldq (D := D) hx hb hK hP 2 2 rfl rfl h.1 d_Mod_token_277 ?_
        have h := h.2
        refine g_callVi ⟨hx, hb, hml, hown, hts⟩ (c_Mod_stands h) (g_cwV 2 hts q_l_Mod_263 q_m_Mod_stands q_s_Mod_stands q_i_TokenDeskModel q_k_Mod_stands (by decide +kernel) rfl rfl (by rw [hR]; exact ⟨Nat.le_of_ble_eq_true rfl, Nat.le_of_ble_eq_true rfl⟩)) (va_recv hK hP (q0 := 0) rfl rfl) cX_g hK hP hD hS hA hCx rfl hl.1 rfl (Nat.le_of_ble_eq_true rfl) d_Mod_token_278 ⟨Nat.zero_le _, Nat.zero_le _⟩ (fun r34 σ35 H locs h hP hD hS => ?_)
        refine lv_if_eq hx hb d_Mod_token_281 (tgt := 316) rfl (fun hc => ?_) (fun hc => ?_)
        · have h := h.1 hc
          exact L316 x1 x2 x4 x5 σ35 _ _ _ h hP hD hS hl
        · have h := h.2 hc
          refine lv_iload hx hb d_Mod_token_284 (lv_at hl 3 rfl) ?_
          refine lv_if_lt hx hb d_Mod_token_286 (tgt := 312) rfl (fun hc => ?_) (fun hc => ?_)
          · have h := h.1 hc
            exact L312 x1 x2 x5 σ35 _ _ _ h hP hD hS (lv_sub hl [0, 1, 2, 4] rfl)
          · have h := h.2 hc
            refine lv_aload_n hx hb d_Mod_token_289 rfl (lv_at hl 0 rfl) ?_
            refine va_get (D := D) (v := .ref (ad 2)) (C := R_Mod) (T := T_Mod) (N := 16) hx hb hts in_Mod hown hK hP 0 rfl rfl 1 (by decide) (hts _ q_f_Mod_173) (fun _ h9 => h9) rfl d_Mod_token_290 ?_
            refine lv_iload hx hb d_Mod_token_293 (lv_at hl 4 rfl) ?_
            refine va_aldq (D := D) hx hb hK hP 2 2 rfl rfl h.1 d_Mod_token_295 ?_
            have h := h.2
            refine g_callVi ⟨hx, hb, hml, hown, hts⟩ (c_Str_length h) (g_cwV 0 hts q_l_Mod_259 q_m_Str_length q_s_Str_length q_i_java_lang_String q_k_Str_length (by decide +kernel) rfl rfl (by rw [hR]; exact ⟨Nat.le_of_ble_eq_true rfl, Nat.le_of_ble_eq_true rfl⟩)) (cX_recv hCx h.1 hS) cX_g hK hP hD hS hA hCx rfl hl.1 rfl (Nat.le_of_ble_eq_true rfl) d_Mod_token_296 ⟨Nat.zero_le _, Nat.zero_le _⟩ (fun r36 σ37 H locs h hP hD hS => ?_)
            refine lv_aload_n hx hb d_Mod_token_299 rfl (lv_at hl 0 rfl) ?_
            refine va_get (D := D) (v := .ref (ad 2)) (C := R_Mod) (T := T_Mod) (N := 16) hx hb hts in_Mod hown hK hP 0 rfl rfl 1 (by decide) (hts _ q_f_Mod_173) (fun _ h9 => h9) rfl d_Mod_token_300 ?_
            refine lv_iload hx hb d_Mod_token_303 (lv_at hl 3 rfl) ?_
            refine va_aldq (D := D) hx hb hK hP 2 2 rfl rfl h.1 d_Mod_token_305 ?_
            have h := h.2
            refine g_callVi ⟨hx, hb, hml, hown, hts⟩ (c_Str_length h) (g_cwV 0 hts q_l_Mod_259 q_m_Str_length q_s_Str_length q_i_java_lang_String q_k_Str_length (by decide +kernel) rfl rfl (by rw [hR]; exact ⟨Nat.le_of_ble_eq_true rfl, Nat.le_of_ble_eq_true rfl⟩)) (cX_recv hCx h.1 hS) cX_g hK hP hD hS hA hCx rfl hl.1 rfl (Nat.le_of_ble_eq_true rfl) d_Mod_token_306 ⟨Nat.zero_le _, Nat.zero_le _⟩ (fun r38 σ39 H locs h hP hD hS => ?_)
            refine lv_icmp_le hx hb d_Mod_token_309 (tgt := 316) rfl (fun hc => ?_) (fun hc => ?_)
            · have h := h.1 hc
              exact L316 x1 x2 x4 x5 σ39 _ _ _ h hP hD hS hl
            · have h := h.2 hc
              exact L312 x1 x2 x5 σ39 _ _ _ h hP hD hS (lv_sub hl [0, 1, 2, 4] rfl)
  have L190 : ∀ n : Nat, ∀ (x2 : Int32) (x4 : Int32) (x5 : Int32) (σ : MS) (H : Heap) (locs : List Loc) (ls : Array Slot), L_Mod_token_190 post n x2 x4 x5 σ → va_P D vwCl (mW ad ty cd σ) H → va_D A (mW ad ty cd σ) → va_S A s.heap H locs → lv_has ls 6 [(0, .ref (ad 0)), (2, .int x2), (4, .int x4), (5, .int x5)] → W p l e R s m args below meth c H locs 0 0 Q (F0 m 190 ls []) := by
    intro n190
    induction n190 with
    | zero => intro x2 x4 x5 σ H locs ls h hP hD hS hl; exact h.elim
    | succ n190 ih190 =>
      have L238 : ∀ (x2 : Int32) (x4 : Int32) (x5 : Int32) (σ : MS) (H : Heap) (locs : List Loc) (ls : Array Slot), L_Mod_token_238 post (fun x2 x4 x5 σ => L_Mod_token_190 post n190 x2 x4 x5 σ) x2 x4 x5 σ → va_P D vwCl (mW ad ty cd σ) H → va_D A (mW ad ty cd σ) → va_S A s.heap H locs → lv_has ls 6 [(0, .ref (ad 0)), (2, .int x2), (4, .int x4), (5, .int x5)] → W p l e R s m args below meth c H locs 0 0 Q (F0 m 238 ls []) := by
        intro x2 x4 x5 σ H locs ls h hP hD hS hl
        unfold L_Mod_token_238 at h
        refine lv_iinc (v := (x5 + 1)) hx hb d_Mod_token_238 hl (k := 3) rfl rfl (by decide) rfl (fun ls hl => ?_)
        refine lv_goto hx hb d_Mod_token_241 (tgt := 190) rfl ?_
        exact ih190 x2 x4 (x5 + 1) σ _ _ _ h hP hD hS (lv_sub hl [1, 2, 3, 0] rfl)
      intro x2 x4 x5 σ H locs ls h hP hD hS hl
      unfold L_Mod_token_190 at h
      refine lv_iload hx hb d_Mod_token_190 (lv_at hl 3 rfl) ?_
      refine lv_bipush (v := 35) hx hb d_Mod_token_192 (by decide) ?_
      refine lv_icmp_ge hx hb d_Mod_token_194 (tgt := 244) rfl (fun hc => ?_) (fun hc => ?_)
      · have h := h.1 hc
        refine lv_aload_n hx hb d_Mod_token_244 rfl (lv_at hl 0 rfl) ?_
        refine lv_iload hx hb d_Mod_token_245 (lv_at hl 2 rfl) ?_
        refine lv_iload_n hx hb d_Mod_token_247 rfl (lv_at hl 1 rfl) ?_
        refine lv_aload_n hx hb d_Mod_token_248 rfl (lv_at hl 0 rfl) ?_
        refine va_get (D := D) (v := .int (m_at σ)) (C := R_Mod) (T := T_Mod) (N := 16) hx hb hts in_Mod hown hK hP 0 rfl rfl 7 (by decide) (hts _ q_f_Mod_214) (fun _ h9 => h9) rfl d_Mod_token_249 ?_
        refine g_callVi ⟨hx, hb, hml, hown, hts⟩ (c_Mod_add h) (g_cwV 3 hts q_l_Mod_224 q_m_Mod_add q_s_Mod_add q_i_TokenDeskModel q_k_Mod_add (by decide +kernel) rfl rfl (by rw [hR]; exact ⟨Nat.le_of_ble_eq_true rfl, Nat.le_of_ble_eq_true rfl⟩)) (va_recv hK hP (q0 := 0) rfl rfl) cX_g hK hP hD hS hA hCx rfl hl.1 rfl (Nat.le_of_ble_eq_true rfl) d_Mod_token_252 ⟨Nat.zero_le _, Nat.zero_le _⟩ (fun r25 σ26 H locs h hP hD hS => ?_)
        exact hret _ _ _ _ _ _ h.2 h.1 hP hD hS d_Mod_token_255
      · have h := h.2 hc
        refine lv_aload_n hx hb d_Mod_token_197 rfl (lv_at hl 0 rfl) ?_
        refine va_get (D := D) (v := .int (m_at σ)) (C := R_Mod) (T := T_Mod) (N := 16) hx hb hts in_Mod hown hK hP 0 rfl rfl 7 (by decide) (hts _ q_f_Mod_214) (fun _ h9 => h9) rfl d_Mod_token_198 ?_
        refine lv_iload_n hx hb d_Mod_token_201 rfl (lv_at hl 1 rfl) ?_
        refine lv_isub hx hb d_Mod_token_202 ?_
        refine lv_aload_n hx hb d_Mod_token_203 rfl (lv_at hl 0 rfl) ?_
        refine va_get (D := D) (v := .ref (ad 1)) (C := R_Mod) (T := T_Mod) (N := 16) hx hb hts in_Mod hown hK hP 0 rfl rfl 0 (by decide) (hts _ q_f_Mod_79) (fun _ h9 => h9) rfl d_Mod_token_204 ?_
        refine lv_iload hx hb d_Mod_token_207 (lv_at hl 3 rfl) ?_
        refine va_aldq (D := D) hx hb hK hP 1 2 rfl rfl h.1 d_Mod_token_209 ?_
        have h := h.2
        refine g_callVi ⟨hx, hb, hml, hown, hts⟩ (c_Str_length h) (g_cwV 0 hts q_l_Mod_259 q_m_Str_length q_s_Str_length q_i_java_lang_String q_k_Str_length (by decide +kernel) rfl rfl (by rw [hR]; exact ⟨Nat.le_of_ble_eq_true rfl, Nat.le_of_ble_eq_true rfl⟩)) (cX_recv hCx h.1 hS) cX_g hK hP hD hS hA hCx rfl hl.1 rfl (Nat.le_of_ble_eq_true rfl) d_Mod_token_210 ⟨Nat.zero_le _, Nat.zero_le _⟩ (fun r27 σ28 H locs h hP hD hS => ?_)
        refine lv_icmp_ne hx hb d_Mod_token_213 (tgt := 238) rfl (fun hc => ?_) (fun hc => ?_)
        · have h := h.1 hc
          exact L238 x2 x4 x5 σ28 _ _ _ h hP hD hS hl
        · have h := h.2 hc
          refine lv_aload_n hx hb d_Mod_token_216 rfl (lv_at hl 0 rfl) ?_
          refine lv_iload_n hx hb d_Mod_token_217 rfl (lv_at hl 1 rfl) ?_
          refine lv_aload_n hx hb d_Mod_token_218 rfl (lv_at hl 0 rfl) ?_
          refine va_get (D := D) (v := .ref (ad 1)) (C := R_Mod) (T := T_Mod) (N := 16) hx hb hts in_Mod hown hK hP 0 rfl rfl 0 (by decide) (hts _ q_f_Mod_79) (fun _ h9 => h9) rfl d_Mod_token_219 ?_
          refine lv_iload hx hb d_Mod_token_222 (lv_at hl 3 rfl) ?_
          refine va_aldq (D := D) hx hb hK hP 1 2 rfl rfl h.1 d_Mod_token_224 ?_
          have h := h.2
          refine g_callVi ⟨hx, hb, hml, hown, hts⟩ (c_Mod_stands h) (g_cwV 2 hts q_l_Mod_263 q_m_Mod_stands q_s_Mod_stands q_i_TokenDeskModel q_k_Mod_stands (by decide +kernel) rfl rfl (by rw [hR]; exact ⟨Nat.le_of_ble_eq_true rfl, Nat.le_of_ble_eq_true rfl⟩)) (va_recv hK hP (q0 := 0) rfl rfl) cX_g hK hP hD hS hA hCx rfl hl.1 rfl (Nat.le_of_ble_eq_true rfl) d_Mod_token_225 ⟨Nat.zero_le _, Nat.zero_le _⟩ (fun r29 σ30 H locs h hP hD hS => ?_)
          refine lv_if_eq hx hb d_Mod_token_228 (tgt := 238) rfl (fun hc => ?_) (fun hc => ?_)
          · have h := h.1 hc
            exact L238 x2 x4 x5 σ30 _ _ _ h hP hD hS hl
          · have h := h.2 hc
            refine lv_bipush (v := 8) hx hb d_Mod_token_231 (by decide) ?_
            refine lv_iload hx hb d_Mod_token_233 (lv_at hl 3 rfl) ?_
            refine lv_iadd hx hb d_Mod_token_235 ?_
            refine lv_istore hx hb d_Mod_token_236 hl (by decide) rfl (fun ls hl => ?_)
            exact L238 x2 (8 + x5) x5 σ30 _ _ _ h hP hD hS (lv_sub hl [1, 2, 0, 3] rfl)
  have L143 : ∀ n : Nat, ∀ (x2 : Int32) (σ : MS) (H : Heap) (locs : List Loc) (ls : Array Slot), L_Mod_token_143 post n x2 σ → va_P D vwCl (mW ad ty cd σ) H → va_D A (mW ad ty cd σ) → va_S A s.heap H locs → lv_has ls 6 [(0, .ref (ad 0)), (2, .int x2)] → W p l e R s m args below meth c H locs 0 0 Q (F0 m 143 ls []) := by
    intro n143
    induction n143 with
    | zero => intro x2 σ H locs ls h hP hD hS hl; exact h.elim
    | succ n143 ih143 =>
      have L171 : ∀ (x2 : Int32) (σ : MS) (H : Heap) (locs : List Loc) (ls : Array Slot), L_Mod_token_171 post (fun x2 σ => L_Mod_token_143 post n143 x2 σ) x2 σ → va_P D vwCl (mW ad ty cd σ) H → va_D A (mW ad ty cd σ) → va_S A s.heap H locs → lv_has ls 6 [(0, .ref (ad 0)), (2, .int x2)] → W p l e R s m args below meth c H locs 0 0 Q (F0 m 171 ls []) := by
        intro x2 σ H locs ls h hP hD hS hl
        unfold L_Mod_token_171 at h
        refine lv_aload_n hx hb d_Mod_token_171 rfl (lv_at hl 0 rfl) ?_
        refine lv_dup hx hb d_Mod_token_172 rfl ?_
        refine va_get (D := D) (v := .int (m_at σ)) (C := R_Mod) (T := T_Mod) (N := 16) hx hb hts in_Mod hown hK hP 0 rfl rfl 7 (by decide) (hts _ q_f_Mod_214) (fun _ h9 => h9) rfl d_Mod_token_173 ?_
        refine lv_iconst (v := 1) hx hb d_Mod_token_176 (by decide) ?_
        refine lv_iadd hx hb d_Mod_token_177 ?_
        refine va_put (D := D) (v := .int ((m_at σ) + 1)) (ty := .int) (C := R_Mod) (T := T_Mod) (N := 16) hx hb hts in_Mod t_Mod tk_Mod n_Mod hown hK hP hD hS 0 rfl rfl 7 (by decide) (hts _ q_f_Mod_214) (fun _ h9 => h9) rfl (by decide +kernel) rfl rfl (Nat.le_of_ble_eq_true rfl) d_Mod_token_178 (fun H locs hP hD hS => ?_)
        have hP : va_P D vwCl (mW ad ty cd (m_at' σ ((m_at σ) + 1))) H := hP
        have hD : va_D A (mW ad ty cd (m_at' σ ((m_at σ) + 1))) := hD
        obtain ⟨σ31, eσ31⟩ : ∃ z, z = (m_at' σ ((m_at σ) + 1)) := ⟨_, rfl⟩
        rw [← eσ31] at hP hD
        have h := h σ31 eσ31
        refine lv_goto hx hb d_Mod_token_181 (tgt := 143) rfl ?_
        exact ih143 x2 σ31 _ _ _ h hP hD hS hl
      intro x2 σ H locs ls h hP hD hS hl
      unfold L_Mod_token_143 at h
      refine lv_aload_n hx hb d_Mod_token_143 rfl (lv_at hl 0 rfl) ?_
      refine lv_aload_n hx hb d_Mod_token_144 rfl (lv_at hl 0 rfl) ?_
      refine va_get (D := D) (v := .int (m_at σ)) (C := R_Mod) (T := T_Mod) (N := 16) hx hb hts in_Mod hown hK hP 0 rfl rfl 7 (by decide) (hts _ q_f_Mod_214) (fun _ h9 => h9) rfl d_Mod_token_145 ?_
      refine g_callVi ⟨hx, hb, hml, hown, hts⟩ (c_Mod_c h) (g_cwV 1 hts q_l_Mod_228 q_m_Mod_c q_s_Mod_c q_i_TokenDeskModel q_k_Mod_c (by decide +kernel) rfl rfl (by rw [hR]; exact ⟨Nat.le_of_ble_eq_true rfl, Nat.le_of_ble_eq_true rfl⟩)) (va_recv hK hP (q0 := 0) rfl rfl) cX_g hK hP hD hS hA hCx rfl hl.1 rfl (Nat.le_of_ble_eq_true rfl) d_Mod_token_148 ⟨Nat.zero_le _, Nat.zero_le _⟩ (fun r17 σ18 H locs h hP hD hS => ?_)
      refine g_callSi ⟨hx, hb, hml, hown, hts⟩ (c_Mod_isLetter h) (g_cwS 1 hts q_l_Mod_256 q_t_Mod_isLetter q_i_TokenDeskModel q_k_Mod_isLetter (by decide +kernel) rfl rfl (by rw [hR]; exact ⟨Nat.le_of_ble_eq_true rfl, Nat.le_of_ble_eq_true rfl⟩)) cX_g hK hP hD hS hA hCx rfl hl.1 rfl (Nat.le_of_ble_eq_true rfl) d_Mod_token_151 ⟨Nat.zero_le _, Nat.zero_le _⟩ (fun r19 σ20 H locs h hP hD hS => ?_)
      refine lv_if_ne hx hb d_Mod_token_154 (tgt := 171) rfl (fun hc => ?_) (fun hc => ?_)
      · have h := h.1 hc
        exact L171 x2 σ20 _ _ _ h hP hD hS hl
      · have h := h.2 hc
        refine lv_aload_n hx hb d_Mod_token_157 rfl (lv_at hl 0 rfl) ?_
        refine lv_aload_n hx hb d_Mod_token_158 rfl (lv_at hl 0 rfl) ?_
        refine va_get (D := D) (v := .int (m_at σ20)) (C := R_Mod) (T := T_Mod) (N := 16) hx hb hts in_Mod hown hK hP 0 rfl rfl 7 (by decide) (hts _ q_f_Mod_214) (fun _ h9 => h9) rfl d_Mod_token_159 ?_
        refine g_callVi ⟨hx, hb, hml, hown, hts⟩ (c_Mod_c h) (g_cwV 1 hts q_l_Mod_228 q_m_Mod_c q_s_Mod_c q_i_TokenDeskModel q_k_Mod_c (by decide +kernel) rfl rfl (by rw [hR]; exact ⟨Nat.le_of_ble_eq_true rfl, Nat.le_of_ble_eq_true rfl⟩)) (va_recv hK hP (q0 := 0) rfl rfl) cX_g hK hP hD hS hA hCx rfl hl.1 rfl (Nat.le_of_ble_eq_true rfl) d_Mod_token_162 ⟨Nat.zero_le _, Nat.zero_le _⟩ (fun r21 σ22 H locs h hP hD hS => ?_)
        refine g_callSi ⟨hx, hb, hml, hown, hts⟩ (c_Mod_isDigit h) (g_cwS 1 hts q_l_Mod_247 q_t_Mod_isDigit q_i_TokenDeskModel q_k_Mod_isDigit (by decide +kernel) rfl rfl (by rw [hR]; exact ⟨Nat.le_of_ble_eq_true rfl, Nat.le_of_ble_eq_true rfl⟩)) cX_g hK hP hD hS hA hCx rfl hl.1 rfl (Nat.le_of_ble_eq_true rfl) d_Mod_token_165 ⟨Nat.zero_le _, Nat.zero_le _⟩ (fun r23 σ24 H locs h hP hD hS => ?_)
        refine lv_if_eq hx hb d_Mod_token_168 (tgt := 184) rfl (fun hc => ?_) (fun hc => ?_)
        · have h := h.1 hc
          refine lv_iconst (v := 4) hx hb d_Mod_token_184 (by decide) ?_
          refine lv_istore hx hb d_Mod_token_185 hl (by decide) rfl (fun ls hl => ?_)
          refine lv_iconst (v := 0) hx hb d_Mod_token_187 (by decide) ?_
          refine lv_istore hx hb d_Mod_token_188 hl (by decide) rfl (fun ls hl => ?_)
          obtain ⟨n, h⟩ := h
          exact L190 n x2 4 0 σ24 _ _ _ h hP hD hS (lv_sub hl [2, 3, 1, 0] rfl)
        · have h := h.2 hc
          exact L171 x2 σ24 _ _ _ h hP hD hS hl
  have L130 : ∀ (x3 : Int32) (σ : MS) (H : Heap) (locs : List Loc) (ls : Array Slot), L_Mod_token_130 post x3 σ → va_P D vwCl (mW ad ty cd σ) H → va_D A (mW ad ty cd σ) → va_S A s.heap H locs → lv_has ls 6 [(0, .ref (ad 0)), (3, .int x3)] → W p l e R s m args below meth c H locs 0 0 Q (F0 m 130 ls []) := by
    intro x3 σ H locs ls h hP hD hS hl
    unfold L_Mod_token_130 at h
    refine lv_aload_n hx hb d_Mod_token_130 rfl (lv_at hl 0 rfl) ?_
    refine lv_iload_n hx hb d_Mod_token_131 rfl (lv_at hl 1 rfl) ?_
    refine g_callVi ⟨hx, hb, hml, hown, hts⟩ (c_Mod_string h) (g_cwV 1 hts q_l_Mod_253 q_m_Mod_string q_s_Mod_string q_i_TokenDeskModel q_k_Mod_string (by decide +kernel) rfl rfl (by rw [hR]; exact ⟨Nat.le_of_ble_eq_true rfl, Nat.le_of_ble_eq_true rfl⟩)) (va_recv hK hP (q0 := 0) rfl rfl) cX_g hK hP hD hS hA hCx rfl hl.1 rfl (Nat.le_of_ble_eq_true rfl) d_Mod_token_132 ⟨Nat.zero_le _, Nat.zero_le _⟩ (fun r47 σ48 H locs h hP hD hS => ?_)
    exact hret _ _ _ _ _ _ h.2 h.1 hP hD hS d_Mod_token_135
  have L110 : ∀ (x1 : Int32) (x2 : Int32) (x3 : Int32) (σ : MS) (H : Heap) (locs : List Loc) (ls : Array Slot), L_Mod_token_110 post x1 x2 x3 σ → va_P D vwCl (mW ad ty cd σ) H → va_D A (mW ad ty cd σ) → va_S A s.heap H locs → lv_has ls 6 [(0, .ref (ad 0)), (1, .int x1), (2, .int x2), (3, .int x3)] → W p l e R s m args below meth c H locs 0 0 Q (F0 m 110 ls []) := by
    intro x1 x2 x3 σ H locs ls h hP hD hS hl
    unfold L_Mod_token_110 at h
    refine lv_aload_n hx hb d_Mod_token_110 rfl (lv_at hl 0 rfl) ?_
    refine lv_iload_n hx hb d_Mod_token_111 rfl (lv_at hl 3 rfl) ?_
    refine g_callVi ⟨hx, hb, hml, hown, hts⟩ (c_Mod_c h) (g_cwV 1 hts q_l_Mod_228 q_m_Mod_c q_s_Mod_c q_i_TokenDeskModel q_k_Mod_c (by decide +kernel) rfl rfl (by rw [hR]; exact ⟨Nat.le_of_ble_eq_true rfl, Nat.le_of_ble_eq_true rfl⟩)) (va_recv hK hP (q0 := 0) rfl rfl) cX_g hK hP hD hS hA hCx rfl hl.1 rfl (Nat.le_of_ble_eq_true rfl) d_Mod_token_112 ⟨Nat.zero_le _, Nat.zero_le _⟩ (fun r11 σ12 H locs h hP hD hS => ?_)
    refine lv_bipush (v := 39) hx hb d_Mod_token_115 (by decide) ?_
    refine lv_icmp_eq hx hb d_Mod_token_117 (tgt := 130) rfl (fun hc => ?_) (fun hc => ?_)
    · have h := h.1 hc
      exact L130 x3 σ12 _ _ _ h hP hD hS (lv_sub hl [0, 3] rfl)
    · have h := h.2 hc
      refine lv_aload_n hx hb d_Mod_token_120 rfl (lv_at hl 0 rfl) ?_
      refine lv_iload_n hx hb d_Mod_token_121 rfl (lv_at hl 3 rfl) ?_
      refine g_callVi ⟨hx, hb, hml, hown, hts⟩ (c_Mod_c h) (g_cwV 1 hts q_l_Mod_228 q_m_Mod_c q_s_Mod_c q_i_TokenDeskModel q_k_Mod_c (by decide +kernel) rfl rfl (by rw [hR]; exact ⟨Nat.le_of_ble_eq_true rfl, Nat.le_of_ble_eq_true rfl⟩)) (va_recv hK hP (q0 := 0) rfl rfl) cX_g hK hP hD hS hA hCx rfl hl.1 rfl (Nat.le_of_ble_eq_true rfl) d_Mod_token_122 ⟨Nat.zero_le _, Nat.zero_le _⟩ (fun r13 σ14 H locs h hP hD hS => ?_)
      refine lv_bipush (v := 34) hx hb d_Mod_token_125 (by decide) ?_
      refine lv_icmp_ne hx hb d_Mod_token_127 (tgt := 136) rfl (fun hc => ?_) (fun hc => ?_)
      · have h := h.1 hc
        refine lv_iload_n hx hb d_Mod_token_136 rfl (lv_at hl 1 rfl) ?_
        refine g_callSi ⟨hx, hb, hml, hown, hts⟩ (c_Mod_isLetter h) (g_cwS 1 hts q_l_Mod_256 q_t_Mod_isLetter q_i_TokenDeskModel q_k_Mod_isLetter (by decide +kernel) rfl rfl (by rw [hR]; exact ⟨Nat.le_of_ble_eq_true rfl, Nat.le_of_ble_eq_true rfl⟩)) cX_g hK hP hD hS hA hCx rfl hl.1 rfl (Nat.le_of_ble_eq_true rfl) d_Mod_token_137 ⟨Nat.zero_le _, Nat.zero_le _⟩ (fun r15 σ16 H locs h hP hD hS => ?_)
        refine lv_if_eq hx hb d_Mod_token_140 (tgt := 256) rfl (fun hc => ?_) (fun hc => ?_)
        · have h := h.1 hc
          refine lv_iconst (v := (-1)) hx hb d_Mod_token_256 (by decide) ?_
          refine lv_istore hx hb d_Mod_token_257 hl (by decide) rfl (fun ls hl => ?_)
          refine lv_iconst (v := 0) hx hb d_Mod_token_259 (by decide) ?_
          refine lv_istore hx hb d_Mod_token_260 hl (by decide) rfl (fun ls hl => ?_)
          obtain ⟨n, h⟩ := h
          exact L262 n x1 x2 (-1) 0 σ16 _ _ _ h hP hD hS (lv_sub hl [2, 3, 4, 1, 0] rfl)
        · have h := h.2 hc
          obtain ⟨n, h⟩ := h
          exact L143 n x2 σ16 _ _ _ h hP hD hS (lv_sub hl [0, 2] rfl)
      · have h := h.2 hc
        exact L130 x3 σ14 _ _ _ h hP hD hS (lv_sub hl [0, 3] rfl)
  have L107 : ∀ (x1 : Int32) (x2 : Int32) (x3 : Int32) (σ : MS) (H : Heap) (locs : List Loc) (ls : Array Slot), L_Mod_token_107 post x1 x2 x3 σ → va_P D vwCl (mW ad ty cd σ) H → va_D A (mW ad ty cd σ) → va_S A s.heap H locs → lv_has ls 6 [(0, .ref (ad 0)), (1, .int x1), (2, .int x2), (3, .int x3)] → W p l e R s m args below meth c H locs 0 0 Q (F0 m 107 ls []) := by
    intro x1 x2 x3 σ H locs ls h hP hD hS hl
    unfold L_Mod_token_107 at h
    refine lv_iinc (v := (x3 + 1)) hx hb d_Mod_token_107 hl (k := 3) rfl rfl (by decide) rfl (fun ls hl => ?_)
    exact L110 x1 x2 (x3 + 1) σ _ _ _ h hP hD hS (lv_sub hl [1, 2, 3, 0] rfl)
  have L95 : ∀ (x1 : Int32) (x2 : Int32) (x3 : Int32) (σ : MS) (H : Heap) (locs : List Loc) (ls : Array Slot), L_Mod_token_95 post x1 x2 x3 σ → va_P D vwCl (mW ad ty cd σ) H → va_D A (mW ad ty cd σ) → va_S A s.heap H locs → lv_has ls 6 [(0, .ref (ad 0)), (1, .int x1), (2, .int x2), (3, .int x3)] → W p l e R s m args below meth c H locs 0 0 Q (F0 m 95 ls []) := by
    intro x1 x2 x3 σ H locs ls h hP hD hS hl
    unfold L_Mod_token_95 at h
    refine lv_iload_n hx hb d_Mod_token_95 rfl (lv_at hl 1 rfl) ?_
    refine lv_bipush (v := 114) hx hb d_Mod_token_96 (by decide) ?_
    refine lv_icmp_eq hx hb d_Mod_token_98 (tgt := 107) rfl (fun hc => ?_) (fun hc => ?_)
    · have h := h.1 hc
      exact L107 x1 x2 x3 σ _ _ _ h hP hD hS hl
    · have h := h.2 hc
      refine lv_iload_n hx hb d_Mod_token_101 rfl (lv_at hl 1 rfl) ?_
      refine lv_bipush (v := 102) hx hb d_Mod_token_102 (by decide) ?_
      refine lv_icmp_ne hx hb d_Mod_token_104 (tgt := 110) rfl (fun hc => ?_) (fun hc => ?_)
      · have h := h.1 hc
        exact L110 x1 x2 x3 σ _ _ _ h hP hD hS hl
      · have h := h.2 hc
        exact L107 x1 x2 x3 σ _ _ _ h hP hD hS hl
  have L89 : ∀ (x1 : Int32) (x2 : Int32) (x3 : Int32) (σ : MS) (H : Heap) (locs : List Loc) (ls : Array Slot), L_Mod_token_89 post x1 x2 x3 σ → va_P D vwCl (mW ad ty cd σ) H → va_D A (mW ad ty cd σ) → va_S A s.heap H locs → lv_has ls 6 [(0, .ref (ad 0)), (1, .int x1), (2, .int x2), (3, .int x3)] → W p l e R s m args below meth c H locs 0 0 Q (F0 m 89 ls []) := by
    intro x1 x2 x3 σ H locs ls h hP hD hS hl
    unfold L_Mod_token_89 at h
    refine lv_iinc (v := (x3 + 2)) hx hb d_Mod_token_89 hl (k := 3) rfl rfl (by decide) rfl (fun ls hl => ?_)
    refine lv_goto hx hb d_Mod_token_92 (tgt := 110) rfl ?_
    exact L110 x1 x2 (x3 + 2) σ _ _ _ h hP hD hS (lv_sub hl [1, 2, 3, 0] rfl)
  have L71 : ∀ (x1 : Int32) (x2 : Int32) (x3 : Int32) (σ : MS) (H : Heap) (locs : List Loc) (ls : Array Slot), L_Mod_token_71 post x1 x2 x3 σ → va_P D vwCl (mW ad ty cd σ) H → va_D A (mW ad ty cd σ) → va_S A s.heap H locs → lv_has ls 6 [(0, .ref (ad 0)), (1, .int x1), (2, .int x2), (3, .int x3)] → W p l e R s m args below meth c H locs 0 0 Q (F0 m 71 ls []) := by
    intro x1 x2 x3 σ H locs ls h hP hD hS hl
    unfold L_Mod_token_71 at h
    refine lv_iload_n hx hb d_Mod_token_71 rfl (lv_at hl 1 rfl) ?_
    refine lv_bipush (v := 102) hx hb d_Mod_token_72 (by decide) ?_
    refine lv_icmp_ne hx hb d_Mod_token_74 (tgt := 95) rfl (fun hc => ?_) (fun hc => ?_)
    · have h := h.1 hc
      exact L95 x1 x2 x3 σ _ _ _ h hP hD hS hl
    · have h := h.2 hc
      refine lv_aload_n hx hb d_Mod_token_77 rfl (lv_at hl 0 rfl) ?_
      refine lv_iload_n hx hb d_Mod_token_78 rfl (lv_at hl 3 rfl) ?_
      refine lv_iconst (v := 1) hx hb d_Mod_token_79 (by decide) ?_
      refine lv_iadd hx hb d_Mod_token_80 ?_
      refine g_callVi ⟨hx, hb, hml, hown, hts⟩ (c_Mod_c h) (g_cwV 1 hts q_l_Mod_228 q_m_Mod_c q_s_Mod_c q_i_TokenDeskModel q_k_Mod_c (by decide +kernel) rfl rfl (by rw [hR]; exact ⟨Nat.le_of_ble_eq_true rfl, Nat.le_of_ble_eq_true rfl⟩)) (va_recv hK hP (q0 := 0) rfl rfl) cX_g hK hP hD hS hA hCx rfl hl.1 rfl (Nat.le_of_ble_eq_true rfl) d_Mod_token_81 ⟨Nat.zero_le _, Nat.zero_le _⟩ (fun r49 σ50 H locs h hP hD hS => ?_)
      refine lv_bipush (v := 114) hx hb d_Mod_token_84 (by decide) ?_
      refine lv_icmp_ne hx hb d_Mod_token_86 (tgt := 95) rfl (fun hc => ?_) (fun hc => ?_)
      · have h := h.1 hc
        exact L95 x1 x2 x3 σ50 _ _ _ h hP hD hS hl
      · have h := h.2 hc
        exact L89 x1 x2 x3 σ50 _ _ _ h hP hD hS hl
  have L53 : ∀ (x1 : Int32) (x2 : Int32) (x3 : Int32) (σ : MS) (H : Heap) (locs : List Loc) (ls : Array Slot), L_Mod_token_53 post x1 x2 x3 σ → va_P D vwCl (mW ad ty cd σ) H → va_D A (mW ad ty cd σ) → va_S A s.heap H locs → lv_has ls 6 [(0, .ref (ad 0)), (1, .int x1), (2, .int x2), (3, .int x3)] → W p l e R s m args below meth c H locs 0 0 Q (F0 m 53 ls []) := by
    intro x1 x2 x3 σ H locs ls h hP hD hS hl
    unfold L_Mod_token_53 at h
    refine lv_iload_n hx hb d_Mod_token_53 rfl (lv_at hl 1 rfl) ?_
    refine lv_bipush (v := 114) hx hb d_Mod_token_54 (by decide) ?_
    refine lv_icmp_ne hx hb d_Mod_token_56 (tgt := 71) rfl (fun hc => ?_) (fun hc => ?_)
    · have h := h.1 hc
      exact L71 x1 x2 x3 σ _ _ _ h hP hD hS hl
    · have h := h.2 hc
      refine lv_aload_n hx hb d_Mod_token_59 rfl (lv_at hl 0 rfl) ?_
      refine lv_iload_n hx hb d_Mod_token_60 rfl (lv_at hl 3 rfl) ?_
      refine lv_iconst (v := 1) hx hb d_Mod_token_61 (by decide) ?_
      refine lv_iadd hx hb d_Mod_token_62 ?_
      refine g_callVi ⟨hx, hb, hml, hown, hts⟩ (c_Mod_c h) (g_cwV 1 hts q_l_Mod_228 q_m_Mod_c q_s_Mod_c q_i_TokenDeskModel q_k_Mod_c (by decide +kernel) rfl rfl (by rw [hR]; exact ⟨Nat.le_of_ble_eq_true rfl, Nat.le_of_ble_eq_true rfl⟩)) (va_recv hK hP (q0 := 0) rfl rfl) cX_g hK hP hD hS hA hCx rfl hl.1 rfl (Nat.le_of_ble_eq_true rfl) d_Mod_token_63 ⟨Nat.zero_le _, Nat.zero_le _⟩ (fun r9 σ10 H locs h hP hD hS => ?_)
      refine lv_bipush (v := 102) hx hb d_Mod_token_66 (by decide) ?_
      refine lv_icmp_eq hx hb d_Mod_token_68 (tgt := 89) rfl (fun hc => ?_) (fun hc => ?_)
      · have h := h.1 hc
        exact L89 x1 x2 x3 σ10 _ _ _ h hP hD hS hl
      · have h := h.2 hc
        exact L71 x1 x2 x3 σ10 _ _ _ h hP hD hS hl
  have L48 : ∀ (σ : MS) (H : Heap) (locs : List Loc) (ls : Array Slot), L_Mod_token_48 post σ → va_P D vwCl (mW ad ty cd σ) H → va_D A (mW ad ty cd σ) → va_S A s.heap H locs → lv_has ls 6 [(0, .ref (ad 0))] → W p l e R s m args below meth c H locs 0 0 Q (F0 m 48 ls []) := by
    intro σ H locs ls h hP hD hS hl
    unfold L_Mod_token_48 at h
    refine lv_aload_n hx hb d_Mod_token_48 rfl (lv_at hl 0 rfl) ?_
    refine g_callVi ⟨hx, hb, hml, hown, hts⟩ (c_Mod_number h) (g_cwV 0 hts q_l_Mod_250 q_m_Mod_number q_s_Mod_number q_i_TokenDeskModel q_k_Mod_number (by decide +kernel) rfl rfl (by rw [hR]; exact ⟨Nat.le_of_ble_eq_true rfl, Nat.le_of_ble_eq_true rfl⟩)) (va_recv hK hP (q0 := 0) rfl rfl) cX_g hK hP hD hS hA hCx rfl hl.1 rfl (Nat.le_of_ble_eq_true rfl) d_Mod_token_49 ⟨Nat.zero_le _, Nat.zero_le _⟩ (fun r51 σ52 H locs h hP hD hS => ?_)
    exact hret _ _ _ _ _ _ h.2 h.1 hP hD hS d_Mod_token_52
  refine lv_aload_n hx hb d_Mod_token_0 rfl (lv_at hl 0 rfl) ?_
  refine lv_aload_n hx hb d_Mod_token_1 rfl (lv_at hl 0 rfl) ?_
  refine va_get (D := D) (v := .int (m_at σ)) (C := R_Mod) (T := T_Mod) (N := 16) hx hb hts in_Mod hown hK hP 0 rfl rfl 7 (by decide) (hts _ q_f_Mod_214) (fun _ h9 => h9) rfl d_Mod_token_2 ?_
  refine g_callVi ⟨hx, hb, hml, hown, hts⟩ (c_Mod_c h) (g_cwV 1 hts q_l_Mod_228 q_m_Mod_c q_s_Mod_c q_i_TokenDeskModel q_k_Mod_c (by decide +kernel) rfl rfl (by rw [hR]; exact ⟨Nat.le_of_ble_eq_true rfl, Nat.le_of_ble_eq_true rfl⟩)) (va_recv hK hP (q0 := 0) rfl rfl) cX_g hK hP hD hS hA hCx rfl hl.1 rfl (Nat.le_of_ble_eq_true rfl) d_Mod_token_5 ⟨Nat.zero_le _, Nat.zero_le _⟩ (fun r1 σ2 H locs h hP hD hS => ?_)
  refine lv_istore_n hx hb d_Mod_token_8 rfl hl (by decide) rfl (fun ls hl => ?_)
  refine lv_aload_n hx hb d_Mod_token_9 rfl (lv_at hl 1 rfl) ?_
  refine va_get (D := D) (v := .int (m_at σ2)) (C := R_Mod) (T := T_Mod) (N := 16) hx hb hts in_Mod hown hK hP 0 rfl rfl 7 (by decide) (hts _ q_f_Mod_214) (fun _ h9 => h9) rfl d_Mod_token_10 ?_
  refine lv_istore_n hx hb d_Mod_token_13 rfl hl (by decide) rfl (fun ls hl => ?_)
  refine lv_aload_n hx hb d_Mod_token_14 rfl (lv_at hl 2 rfl) ?_
  refine va_get (D := D) (v := .int (m_at σ2)) (C := R_Mod) (T := T_Mod) (N := 16) hx hb hts in_Mod hown hK hP 0 rfl rfl 7 (by decide) (hts _ q_f_Mod_214) (fun _ h9 => h9) rfl d_Mod_token_15 ?_
  refine lv_istore_n hx hb d_Mod_token_18 rfl hl (by decide) rfl (fun ls hl => ?_)
  refine lv_iload_n hx hb d_Mod_token_19 rfl (lv_at hl 2 rfl) ?_
  refine g_callSi ⟨hx, hb, hml, hown, hts⟩ (c_Mod_isDigit h) (g_cwS 1 hts q_l_Mod_247 q_t_Mod_isDigit q_i_TokenDeskModel q_k_Mod_isDigit (by decide +kernel) rfl rfl (by rw [hR]; exact ⟨Nat.le_of_ble_eq_true rfl, Nat.le_of_ble_eq_true rfl⟩)) cX_g hK hP hD hS hA hCx rfl hl.1 rfl (Nat.le_of_ble_eq_true rfl) d_Mod_token_20 ⟨Nat.zero_le _, Nat.zero_le _⟩ (fun r3 σ4 H locs h hP hD hS => ?_)
  refine lv_if_ne hx hb d_Mod_token_23 (tgt := 48) rfl (fun hc => ?_) (fun hc => ?_)
  · have h := h.1 hc
    exact L48 σ4 _ _ _ h hP hD hS (lv_sub hl [3] rfl)
  · have h := h.2 hc
    refine lv_iload_n hx hb d_Mod_token_26 rfl (lv_at hl 2 rfl) ?_
    refine lv_bipush (v := 46) hx hb d_Mod_token_27 (by decide) ?_
    refine lv_icmp_ne hx hb d_Mod_token_29 (tgt := 53) rfl (fun hc => ?_) (fun hc => ?_)
    · have h := h.1 hc
      exact L53 r1 (m_at σ2) (m_at σ2) σ4 _ _ _ h hP hD hS (lv_sub hl [3, 2, 1, 0] rfl)
    · have h := h.2 hc
      refine lv_aload_n hx hb d_Mod_token_32 rfl (lv_at hl 3 rfl) ?_
      refine lv_aload_n hx hb d_Mod_token_33 rfl (lv_at hl 3 rfl) ?_
      refine va_get (D := D) (v := .int (m_at σ4)) (C := R_Mod) (T := T_Mod) (N := 16) hx hb hts in_Mod hown hK hP 0 rfl rfl 7 (by decide) (hts _ q_f_Mod_214) (fun _ h9 => h9) rfl d_Mod_token_34 ?_
      refine lv_iconst (v := 1) hx hb d_Mod_token_37 (by decide) ?_
      refine lv_iadd hx hb d_Mod_token_38 ?_
      refine g_callVi ⟨hx, hb, hml, hown, hts⟩ (c_Mod_c h) (g_cwV 1 hts q_l_Mod_228 q_m_Mod_c q_s_Mod_c q_i_TokenDeskModel q_k_Mod_c (by decide +kernel) rfl rfl (by rw [hR]; exact ⟨Nat.le_of_ble_eq_true rfl, Nat.le_of_ble_eq_true rfl⟩)) (va_recv hK hP (q0 := 0) rfl rfl) cX_g hK hP hD hS hA hCx rfl hl.1 rfl (Nat.le_of_ble_eq_true rfl) d_Mod_token_39 ⟨Nat.zero_le _, Nat.zero_le _⟩ (fun r5 σ6 H locs h hP hD hS => ?_)
      refine g_callSi ⟨hx, hb, hml, hown, hts⟩ (c_Mod_isDigit h) (g_cwS 1 hts q_l_Mod_247 q_t_Mod_isDigit q_i_TokenDeskModel q_k_Mod_isDigit (by decide +kernel) rfl rfl (by rw [hR]; exact ⟨Nat.le_of_ble_eq_true rfl, Nat.le_of_ble_eq_true rfl⟩)) cX_g hK hP hD hS hA hCx rfl hl.1 rfl (Nat.le_of_ble_eq_true rfl) d_Mod_token_42 ⟨Nat.zero_le _, Nat.zero_le _⟩ (fun r7 σ8 H locs h hP hD hS => ?_)
      refine lv_if_eq hx hb d_Mod_token_45 (tgt := 53) rfl (fun hc => ?_) (fun hc => ?_)
      · have h := h.1 hc
        exact L53 r1 (m_at σ2) (m_at σ2) σ8 _ _ _ h hP hD hS (lv_sub hl [3, 2, 1, 0] rfl)
      · have h := h.2 hc
        exact L48 σ8 _ _ _ h hP hD hS (lv_sub hl [3] rfl)
set_option maxHeartbeats 4000000 in
set_option maxRecDepth 100000 in
theorem c_Mod_line {l : Launch} {D : va_G} {ad : Nat → Nat} {ty : Nat → ClassId} {cd : Nat → Nat → Nat} {σ : MS} {post : Int32 → MS → Prop} (h : wp_Mod_line σ post) : g_Meti l y_Mod_line (Cond.code y_Mod_line b_Mod_line 2 (some .boolean) :: gW) ({ frames := 6, cells := 0, slots := 0, locals := 133 }) D vwCl (gT ty) (mW ad ty cd) (cX cd) [.ref (ad 0)] σ post := by
  refine g_startz (cc := b_Mod_line) (maxL := 2) (by decide) rfl (Nat.le_of_ble_eq_true rfl) ?_
  intro p e s m args below meth c A Q R ls hR hx hb hts hown hml hA hS hP hD hK hCx hl hret
  unfold wp_Mod_line at h
  have hown : s.vm.findClass "TokenDeskModel" = some m.cls := hown
  have hl : lv_has ls 2 [(0, .ref (ad 0))] := hl
  have L217 : ∀ n : Nat, ∀ (σ : MS) (H : Heap) (locs : List Loc) (ls : Array Slot), L_Mod_line_217 post n σ → va_P D vwCl (mW ad ty cd σ) H → va_D A (mW ad ty cd σ) → va_S A s.heap H locs → lv_has ls 2 [(0, .ref (ad 0))] → W p l e R s m args below meth c H locs 0 0 Q (F0 m 217 ls []) := by
    intro n217
    induction n217 with
    | zero => intro σ H locs ls h hP hD hS hl; exact h.elim
    | succ n217 ih217 =>
      have L245 : ∀ (σ : MS) (H : Heap) (locs : List Loc) (ls : Array Slot), L_Mod_line_245 post (fun σ => L_Mod_line_217 post n217 σ) σ → va_P D vwCl (mW ad ty cd σ) H → va_D A (mW ad ty cd σ) → va_S A s.heap H locs → lv_has ls 2 [(0, .ref (ad 0))] → W p l e R s m args below meth c H locs 0 0 Q (F0 m 245 ls []) := by
        intro σ H locs ls h hP hD hS hl
        unfold L_Mod_line_245 at h
        refine lv_aload_n hx hb d_Mod_line_245 rfl (lv_at hl 0 rfl) ?_
        refine lv_iconst (v := 1) hx hb d_Mod_line_246 (by decide) ?_
        refine lv_aload_n hx hb d_Mod_line_247 rfl (lv_at hl 0 rfl) ?_
        refine va_get (D := D) (v := .int (m_at σ)) (C := R_Mod) (T := T_Mod) (N := 16) hx hb hts in_Mod hown hK hP 0 rfl rfl 7 (by decide) (hts _ q_f_Mod_214) (fun _ h9 => h9) rfl d_Mod_line_248 ?_
        refine lv_aload_n hx hb d_Mod_line_251 rfl (lv_at hl 0 rfl) ?_
        refine va_get (D := D) (v := .int (m_at σ)) (C := R_Mod) (T := T_Mod) (N := 16) hx hb hts in_Mod hown hK hP 0 rfl rfl 7 (by decide) (hts _ q_f_Mod_214) (fun _ h9 => h9) rfl d_Mod_line_252 ?_
        refine g_callVi ⟨hx, hb, hml, hown, hts⟩ (c_Mod_add h) (g_cwV 3 hts q_l_Mod_224 q_m_Mod_add q_s_Mod_add q_i_TokenDeskModel q_k_Mod_add (by decide +kernel) rfl rfl (by rw [hR]; exact ⟨Nat.le_of_ble_eq_true rfl, Nat.le_of_ble_eq_true rfl⟩)) (va_recv hK hP (q0 := 0) rfl rfl) cX_g hK hP hD hS hA hCx rfl hl.1 rfl (Nat.le_of_ble_eq_true rfl) d_Mod_line_255 ⟨Nat.zero_le _, Nat.zero_le _⟩ (fun r28 σ29 H locs h hP hD hS => ?_)
        refine lv_pop hx hb d_Mod_line_258 rfl ?_
        refine lv_aload_n hx hb d_Mod_line_259 rfl (lv_at hl 0 rfl) ?_
        refine lv_dup hx hb d_Mod_line_260 rfl ?_
        refine va_get (D := D) (v := .int (m_at σ29)) (C := R_Mod) (T := T_Mod) (N := 16) hx hb hts in_Mod hown hK hP 0 rfl rfl 7 (by decide) (hts _ q_f_Mod_214) (fun _ h9 => h9) rfl d_Mod_line_261 ?_
        refine lv_iconst (v := 1) hx hb d_Mod_line_264 (by decide) ?_
        refine lv_iadd hx hb d_Mod_line_265 ?_
        refine va_put (D := D) (v := .int ((m_at σ29) + 1)) (ty := .int) (C := R_Mod) (T := T_Mod) (N := 16) hx hb hts in_Mod t_Mod tk_Mod n_Mod hown hK hP hD hS 0 rfl rfl 7 (by decide) (hts _ q_f_Mod_214) (fun _ h9 => h9) rfl (by decide +kernel) rfl rfl (Nat.le_of_ble_eq_true rfl) d_Mod_line_266 (fun H locs hP hD hS => ?_)
        have hP : va_P D vwCl (mW ad ty cd (m_at' σ29 ((m_at σ29) + 1))) H := hP
        have hD : va_D A (mW ad ty cd (m_at' σ29 ((m_at σ29) + 1))) := hD
        obtain ⟨σ30, eσ30⟩ : ∃ z, z = (m_at' σ29 ((m_at σ29) + 1)) := ⟨_, rfl⟩
        rw [← eσ30] at hP hD
        have h := h σ30 eσ30
        refine lv_iconst (v := 1) hx hb d_Mod_line_269 (by decide) ?_
        exact hret _ _ _ _ _ _ h rfl hP hD hS d_Mod_line_270
      intro σ H locs ls h hP hD hS hl
      unfold L_Mod_line_217 at h
      refine lv_aload_n hx hb d_Mod_line_217 rfl (lv_at hl 0 rfl) ?_
      refine g_callVv ⟨hx, hb, hml, hown, hts⟩ (c_Mod_between h) (g_cwV 0 hts q_l_Mod_241 q_m_Mod_between q_s_Mod_between q_i_TokenDeskModel q_k_Mod_between (by decide +kernel) rfl rfl (by rw [hR]; exact ⟨Nat.le_of_ble_eq_true rfl, Nat.le_of_ble_eq_true rfl⟩)) (va_recv hK hP (q0 := 0) rfl rfl) cX_g hK hP hD hS hA hCx rfl hl.1 rfl (Nat.le_of_ble_eq_true rfl) d_Mod_line_218 ⟨Nat.zero_le _, Nat.zero_le _⟩ (fun σ23 H locs h hP hD hS => ?_)
      refine lv_aload_n hx hb d_Mod_line_221 rfl (lv_at hl 0 rfl) ?_
      refine va_get (D := D) (v := .int (m_at σ23)) (C := R_Mod) (T := T_Mod) (N := 16) hx hb hts in_Mod hown hK hP 0 rfl rfl 7 (by decide) (hts _ q_f_Mod_214) (fun _ h9 => h9) rfl d_Mod_line_222 ?_
      refine lv_aload_n hx hb d_Mod_line_225 rfl (lv_at hl 0 rfl) ?_
      refine va_get (D := D) (v := .int (m_let σ23)) (C := R_Mod) (T := T_Mod) (N := 16) hx hb hts in_Mod hown hK hP 0 rfl rfl 6 (by decide) (hts _ q_f_Mod_207) (fun _ h9 => h9) rfl d_Mod_line_226 ?_
      refine lv_icmp_ge hx hb d_Mod_line_229 (tgt := 245) rfl (fun hc => ?_) (fun hc => ?_)
      · have h := h.1 hc
        exact L245 σ23 _ _ _ h hP hD hS hl
      · have h := h.2 hc
        refine lv_aload_n hx hb d_Mod_line_232 rfl (lv_at hl 0 rfl) ?_
        refine lv_aload_n hx hb d_Mod_line_233 rfl (lv_at hl 0 rfl) ?_
        refine va_get (D := D) (v := .int (m_at σ23)) (C := R_Mod) (T := T_Mod) (N := 16) hx hb hts in_Mod hown hK hP 0 rfl rfl 7 (by decide) (hts _ q_f_Mod_214) (fun _ h9 => h9) rfl d_Mod_line_234 ?_
        refine g_callVi ⟨hx, hb, hml, hown, hts⟩ (c_Mod_c h) (g_cwV 1 hts q_l_Mod_228 q_m_Mod_c q_s_Mod_c q_i_TokenDeskModel q_k_Mod_c (by decide +kernel) rfl rfl (by rw [hR]; exact ⟨Nat.le_of_ble_eq_true rfl, Nat.le_of_ble_eq_true rfl⟩)) (va_recv hK hP (q0 := 0) rfl rfl) cX_g hK hP hD hS hA hCx rfl hl.1 rfl (Nat.le_of_ble_eq_true rfl) d_Mod_line_237 ⟨Nat.zero_le _, Nat.zero_le _⟩ (fun r24 σ25 H locs h hP hD hS => ?_)
        refine lv_bipush (v := 10) hx hb d_Mod_line_240 (by decide) ?_
        refine lv_icmp_ne hx hb d_Mod_line_242 (tgt := 271) rfl (fun hc => ?_) (fun hc => ?_)
        · have h := h.1 hc
          refine lv_aload_n hx hb d_Mod_line_271 rfl (lv_at hl 0 rfl) ?_
          refine g_callVi ⟨hx, hb, hml, hown, hts⟩ (c_Mod_token h) (g_cwV 0 hts q_l_Mod_244 q_m_Mod_token q_s_Mod_token q_i_TokenDeskModel q_k_Mod_token (by decide +kernel) rfl rfl (by rw [hR]; exact ⟨Nat.le_of_ble_eq_true rfl, Nat.le_of_ble_eq_true rfl⟩)) (va_recv hK hP (q0 := 0) rfl rfl) cX_g hK hP hD hS hA hCx rfl hl.1 rfl (Nat.le_of_ble_eq_true rfl) d_Mod_line_272 ⟨Nat.zero_le _, Nat.zero_le _⟩ (fun r26 σ27 H locs h hP hD hS => ?_)
          refine lv_if_ne hx hb d_Mod_line_275 (tgt := 217) rfl (fun hc => ?_) (fun hc => ?_)
          · have h := h.1 hc
            exact ih217 σ27 _ _ _ h hP hD hS hl
          · have h := h.2 hc
            refine lv_iconst (v := 0) hx hb d_Mod_line_278 (by decide) ?_
            exact hret _ _ _ _ _ _ h rfl hP hD hS d_Mod_line_279
        · have h := h.2 hc
          exact L245 σ25 _ _ _ h hP hD hS hl
  have L150 : ∀ n : Nat, ∀ (x1 : Int32) (σ : MS) (H : Heap) (locs : List Loc) (ls : Array Slot), L_Mod_line_150 post n x1 σ → va_P D vwCl (mW ad ty cd σ) H → va_D A (mW ad ty cd σ) → va_S A s.heap H locs → lv_has ls 2 [(0, .ref (ad 0)), (1, .int x1)] → W p l e R s m args below meth c H locs 0 0 Q (F0 m 150 ls []) := by
    intro n150
    induction n150 with
    | zero => intro x1 σ H locs ls h hP hD hS hl; exact h.elim
    | succ n150 ih150 =>
      intro x1 σ H locs ls h hP hD hS hl
      unfold L_Mod_line_150 at h
      refine lv_iload_n hx hb d_Mod_line_150 rfl (lv_at hl 1 rfl) ?_
      refine lv_aload_n hx hb d_Mod_line_151 rfl (lv_at hl 0 rfl) ?_
      refine va_get (D := D) (v := .ref (ad 8)) (C := R_Mod) (T := T_Mod) (N := 16) hx hb hts in_Mod hown hK hP 0 rfl rfl 15 (by decide) (hts _ q_f_Mod_195) (fun _ h9 => h9) rfl d_Mod_line_152 ?_
      refine lv_aload_n hx hb d_Mod_line_155 rfl (lv_at hl 0 rfl) ?_
      refine va_get (D := D) (v := .int (m_open σ)) (C := R_Mod) (T := T_Mod) (N := 16) hx hb hts in_Mod hown hK hP 0 rfl rfl 9 (by decide) (hts _ q_f_Mod_217) (fun _ h9 => h9) rfl d_Mod_line_156 ?_
      refine va_iald (D := D) hx hb hK hP 8 0 rfl rfl h.1 d_Mod_line_159 ?_
      have h := h.2
      refine lv_icmp_ge hx hb d_Mod_line_160 (tgt := 190) rfl (fun hc => ?_) (fun hc => ?_)
      · have h := h.1 hc
        refine lv_iload_n hx hb d_Mod_line_190 rfl (lv_at hl 1 rfl) ?_
        refine lv_aload_n hx hb d_Mod_line_191 rfl (lv_at hl 0 rfl) ?_
        refine va_get (D := D) (v := .ref (ad 8)) (C := R_Mod) (T := T_Mod) (N := 16) hx hb hts in_Mod hown hK hP 0 rfl rfl 15 (by decide) (hts _ q_f_Mod_195) (fun _ h9 => h9) rfl d_Mod_line_192 ?_
        refine lv_aload_n hx hb d_Mod_line_195 rfl (lv_at hl 0 rfl) ?_
        refine va_get (D := D) (v := .int (m_open σ)) (C := R_Mod) (T := T_Mod) (N := 16) hx hb hts in_Mod hown hK hP 0 rfl rfl 9 (by decide) (hts _ q_f_Mod_217) (fun _ h9 => h9) rfl d_Mod_line_196 ?_
        refine va_iald (D := D) hx hb hK hP 8 0 rfl rfl h.1 d_Mod_line_199 ?_
        have h := h.2
        refine lv_icmp_eq hx hb d_Mod_line_200 (tgt := 212) rfl (fun hc => ?_) (fun hc => ?_)
        · have h := h.1 hc
          refine lv_aload_n hx hb d_Mod_line_212 rfl (lv_at hl 0 rfl) ?_
          refine lv_iconst (v := 0) hx hb d_Mod_line_213 (by decide) ?_
          refine va_put (D := D) (v := .int 0) (ty := .int) (C := R_Mod) (T := T_Mod) (N := 16) hx hb hts in_Mod t_Mod tk_Mod n_Mod hown hK hP hD hS 0 rfl rfl 8 (by decide) (hts _ q_f_Mod_238) (fun _ h9 => h9) rfl (by decide +kernel) rfl rfl (Nat.le_of_ble_eq_true rfl) d_Mod_line_214 (fun H locs hP hD hS => ?_)
          have hP : va_P D vwCl (mW ad ty cd (m_depth' σ 0)) H := hP
          have hD : va_D A (mW ad ty cd (m_depth' σ 0)) := hD
          obtain ⟨σ17, eσ17⟩ : ∃ z, z = (m_depth' σ 0) := ⟨_, rfl⟩
          rw [← eσ17] at hP hD
          have h := h σ17 eσ17
          obtain ⟨n, h⟩ := h
          exact L217 n σ17 _ _ _ h hP hD hS (lv_sub hl [0] rfl)
        · have h := h.2 hc
          refine lv_aload_n hx hb d_Mod_line_203 rfl (lv_at hl 0 rfl) ?_
          refine lv_aload_n hx hb d_Mod_line_204 rfl (lv_at hl 0 rfl) ?_
          refine va_get (D := D) (v := .int (m_at σ)) (C := R_Mod) (T := T_Mod) (N := 16) hx hb hts in_Mod hown hK hP 0 rfl rfl 7 (by decide) (hts _ q_f_Mod_214) (fun _ h9 => h9) rfl d_Mod_line_205 ?_
          refine g_callVi ⟨hx, hb, hml, hown, hts⟩ (c_Mod_bad h) (g_cwV 1 hts q_l_Mod_210 q_m_Mod_bad q_s_Mod_bad q_i_TokenDeskModel q_k_Mod_bad (by decide +kernel) rfl rfl (by rw [hR]; exact ⟨Nat.le_of_ble_eq_true rfl, Nat.le_of_ble_eq_true rfl⟩)) (va_recv hK hP (q0 := 0) rfl rfl) cX_g hK hP hD hS hA hCx rfl hl.1 rfl (Nat.le_of_ble_eq_true rfl) d_Mod_line_208 ⟨Nat.zero_le _, Nat.zero_le _⟩ (fun r18 σ19 H locs h hP hD hS => ?_)
          exact hret _ _ _ _ _ _ h.2 h.1 hP hD hS d_Mod_line_211
      · have h := h.2 hc
        refine lv_aload_n hx hb d_Mod_line_163 rfl (lv_at hl 0 rfl) ?_
        refine lv_dup hx hb d_Mod_line_164 rfl ?_
        refine va_get (D := D) (v := .int (m_open σ)) (C := R_Mod) (T := T_Mod) (N := 16) hx hb hts in_Mod hown hK hP 0 rfl rfl 9 (by decide) (hts _ q_f_Mod_217) (fun _ h9 => h9) rfl d_Mod_line_165 ?_
        refine lv_iconst (v := 1) hx hb d_Mod_line_168 (by decide) ?_
        refine lv_isub hx hb d_Mod_line_169 ?_
        refine va_put (D := D) (v := .int ((m_open σ) - 1)) (ty := .int) (C := R_Mod) (T := T_Mod) (N := 16) hx hb hts in_Mod t_Mod tk_Mod n_Mod hown hK hP hD hS 0 rfl rfl 9 (by decide) (hts _ q_f_Mod_217) (fun _ h9 => h9) rfl (by decide +kernel) rfl rfl (Nat.le_of_ble_eq_true rfl) d_Mod_line_170 (fun H locs hP hD hS => ?_)
        have hP : va_P D vwCl (mW ad ty cd (m_open' σ ((m_open σ) - 1))) H := hP
        have hD : va_D A (mW ad ty cd (m_open' σ ((m_open σ) - 1))) := hD
        obtain ⟨σ20, eσ20⟩ : ∃ z, z = (m_open' σ ((m_open σ) - 1)) := ⟨_, rfl⟩
        rw [← eσ20] at hP hD
        have h := h σ20 eσ20
        refine lv_aload_n hx hb d_Mod_line_173 rfl (lv_at hl 0 rfl) ?_
        refine lv_iconst (v := 3) hx hb d_Mod_line_174 (by decide) ?_
        refine lv_aload_n hx hb d_Mod_line_175 rfl (lv_at hl 0 rfl) ?_
        refine va_get (D := D) (v := .int (m_at σ20)) (C := R_Mod) (T := T_Mod) (N := 16) hx hb hts in_Mod hown hK hP 0 rfl rfl 7 (by decide) (hts _ q_f_Mod_214) (fun _ h9 => h9) rfl d_Mod_line_176 ?_
        refine lv_aload_n hx hb d_Mod_line_179 rfl (lv_at hl 0 rfl) ?_
        refine va_get (D := D) (v := .int (m_at σ20)) (C := R_Mod) (T := T_Mod) (N := 16) hx hb hts in_Mod hown hK hP 0 rfl rfl 7 (by decide) (hts _ q_f_Mod_214) (fun _ h9 => h9) rfl d_Mod_line_180 ?_
        refine g_callVi ⟨hx, hb, hml, hown, hts⟩ (c_Mod_add h) (g_cwV 3 hts q_l_Mod_224 q_m_Mod_add q_s_Mod_add q_i_TokenDeskModel q_k_Mod_add (by decide +kernel) rfl rfl (by rw [hR]; exact ⟨Nat.le_of_ble_eq_true rfl, Nat.le_of_ble_eq_true rfl⟩)) (va_recv hK hP (q0 := 0) rfl rfl) cX_g hK hP hD hS hA hCx rfl hl.1 rfl (Nat.le_of_ble_eq_true rfl) d_Mod_line_183 ⟨Nat.zero_le _, Nat.zero_le _⟩ (fun r21 σ22 H locs h hP hD hS => ?_)
        refine lv_pop hx hb d_Mod_line_186 rfl ?_
        refine lv_goto hx hb d_Mod_line_187 (tgt := 150) rfl ?_
        exact ih150 x1 σ22 _ _ _ h hP hD hS hl
  have L52 : ∀ (x1 : Int32) (σ : MS) (H : Heap) (locs : List Loc) (ls : Array Slot), L_Mod_line_52 post x1 σ → va_P D vwCl (mW ad ty cd σ) H → va_D A (mW ad ty cd σ) → va_S A s.heap H locs → lv_has ls 2 [(0, .ref (ad 0)), (1, .int x1)] → W p l e R s m args below meth c H locs 0 0 Q (F0 m 52 ls []) := by
    intro x1 σ H locs ls h hP hD hS hl
    unfold L_Mod_line_52 at h
    refine lv_aload_n hx hb d_Mod_line_52 rfl (lv_at hl 0 rfl) ?_
    refine va_get (D := D) (v := .int (m_at σ)) (C := R_Mod) (T := T_Mod) (N := 16) hx hb hts in_Mod hown hK hP 0 rfl rfl 7 (by decide) (hts _ q_f_Mod_214) (fun _ h9 => h9) rfl d_Mod_line_53 ?_
    refine lv_aload_n hx hb d_Mod_line_56 rfl (lv_at hl 0 rfl) ?_
    refine va_get (D := D) (v := .int (m_let σ)) (C := R_Mod) (T := T_Mod) (N := 16) hx hb hts in_Mod hown hK hP 0 rfl rfl 6 (by decide) (hts _ q_f_Mod_207) (fun _ h9 => h9) rfl d_Mod_line_57 ?_
    refine lv_icmp_lt hx hb d_Mod_line_60 (tgt := 65) rfl (fun hc => ?_) (fun hc => ?_)
    · have h := h.1 hc
      refine lv_aload_n hx hb d_Mod_line_65 rfl (lv_at hl 0 rfl) ?_
      refine lv_aload_n hx hb d_Mod_line_66 rfl (lv_at hl 0 rfl) ?_
      refine va_get (D := D) (v := .int (m_at σ)) (C := R_Mod) (T := T_Mod) (N := 16) hx hb hts in_Mod hown hK hP 0 rfl rfl 7 (by decide) (hts _ q_f_Mod_214) (fun _ h9 => h9) rfl d_Mod_line_67 ?_
      refine g_callVi ⟨hx, hb, hml, hown, hts⟩ (c_Mod_c h) (g_cwV 1 hts q_l_Mod_228 q_m_Mod_c q_s_Mod_c q_i_TokenDeskModel q_k_Mod_c (by decide +kernel) rfl rfl (by rw [hR]; exact ⟨Nat.le_of_ble_eq_true rfl, Nat.le_of_ble_eq_true rfl⟩)) (va_recv hK hP (q0 := 0) rfl rfl) cX_g hK hP hD hS hA hCx rfl hl.1 rfl (Nat.le_of_ble_eq_true rfl) d_Mod_line_70 ⟨Nat.zero_le _, Nat.zero_le _⟩ (fun r8 σ9 H locs h hP hD hS => ?_)
      refine lv_bipush (v := 10) hx hb d_Mod_line_73 (by decide) ?_
      refine lv_icmp_ne hx hb d_Mod_line_75 (tgt := 90) rfl (fun hc => ?_) (fun hc => ?_)
      · have h := h.1 hc
        refine lv_iload_n hx hb d_Mod_line_90 rfl (lv_at hl 1 rfl) ?_
        refine lv_aload_n hx hb d_Mod_line_91 rfl (lv_at hl 0 rfl) ?_
        refine va_get (D := D) (v := .ref (ad 8)) (C := R_Mod) (T := T_Mod) (N := 16) hx hb hts in_Mod hown hK hP 0 rfl rfl 15 (by decide) (hts _ q_f_Mod_195) (fun _ h9 => h9) rfl d_Mod_line_92 ?_
        refine lv_aload_n hx hb d_Mod_line_95 rfl (lv_at hl 0 rfl) ?_
        refine va_get (D := D) (v := .int (m_open σ9)) (C := R_Mod) (T := T_Mod) (N := 16) hx hb hts in_Mod hown hK hP 0 rfl rfl 9 (by decide) (hts _ q_f_Mod_217) (fun _ h9 => h9) rfl d_Mod_line_96 ?_
        refine va_iald (D := D) hx hb hK hP 8 0 rfl rfl h.1 d_Mod_line_99 ?_
        have h := h.2
        refine lv_icmp_le hx hb d_Mod_line_100 (tgt := 150) rfl (fun hc => ?_) (fun hc => ?_)
        · have h := h.1 hc
          obtain ⟨n, h⟩ := h
          exact L150 n x1 σ9 _ _ _ h hP hD hS hl
        · have h := h.2 hc
          refine lv_aload_n hx hb d_Mod_line_103 rfl (lv_at hl 0 rfl) ?_
          refine va_get (D := D) (v := .int (m_many σ9)) (C := R_Mod) (T := T_Mod) (N := 16) hx hb hts in_Mod hown hK hP 0 rfl rfl 4 (by decide) (hts _ q_f_Mod_204) (fun _ h9 => h9) rfl d_Mod_line_104 ?_
          refine lv_if_ne hx hb d_Mod_line_107 (tgt := 119) rfl (fun hc => ?_) (fun hc => ?_)
          · have h := h.1 hc
            refine lv_aload_n hx hb d_Mod_line_119 rfl (lv_at hl 0 rfl) ?_
            refine va_get (D := D) (v := .ref (ad 8)) (C := R_Mod) (T := T_Mod) (N := 16) hx hb hts in_Mod hown hK hP 0 rfl rfl 15 (by decide) (hts _ q_f_Mod_195) (fun _ h9 => h9) rfl d_Mod_line_120 ?_
            refine lv_aload_n hx hb d_Mod_line_123 rfl (lv_at hl 0 rfl) ?_
            refine lv_dup hx hb d_Mod_line_124 rfl ?_
            refine va_get (D := D) (v := .int (m_open σ9)) (C := R_Mod) (T := T_Mod) (N := 16) hx hb hts in_Mod hown hK hP 0 rfl rfl 9 (by decide) (hts _ q_f_Mod_217) (fun _ h9 => h9) rfl d_Mod_line_125 ?_
            refine lv_iconst (v := 1) hx hb d_Mod_line_128 (by decide) ?_
            refine lv_iadd hx hb d_Mod_line_129 ?_
            refine lv_dup_x1 hx hb d_Mod_line_130 rfl rfl ?_
            refine va_put (D := D) (v := .int ((m_open σ9) + 1)) (ty := .int) (C := R_Mod) (T := T_Mod) (N := 16) hx hb hts in_Mod t_Mod tk_Mod n_Mod hown hK hP hD hS 0 rfl rfl 9 (by decide) (hts _ q_f_Mod_217) (fun _ h9 => h9) rfl (by decide +kernel) rfl rfl (Nat.le_of_ble_eq_true rfl) d_Mod_line_131 (fun H locs hP hD hS => ?_)
            have hP : va_P D vwCl (mW ad ty cd (m_open' σ9 ((m_open σ9) + 1))) H := hP
            have hD : va_D A (mW ad ty cd (m_open' σ9 ((m_open σ9) + 1))) := hD
            obtain ⟨σ10, eσ10⟩ : ∃ z, z = (m_open' σ9 ((m_open σ9) + 1)) := ⟨_, rfl⟩
            rw [← eσ10] at hP hD
            have h := h σ10 eσ10
            refine lv_iload_n hx hb d_Mod_line_134 rfl (lv_at hl 1 rfl) ?_
            refine va_iast (D := D) hx hb hK hP hD hS 8 0 rfl rfl h.1 d_Mod_line_135 (fun H locs hP hD hS => ?_)
            have h := h.2
            have hP : va_P D vwCl (mW ad ty cd (m_ins' σ10 (upd (m_ins σ10) (((m_open σ9) + 1) : Int32).toNatClampNeg x1))) H := hP
            have hD : va_D A (mW ad ty cd (m_ins' σ10 (upd (m_ins σ10) (((m_open σ9) + 1) : Int32).toNatClampNeg x1))) := hD
            obtain ⟨σ11, eσ11⟩ : ∃ z, z = (m_ins' σ10 (upd (m_ins σ10) (((m_open σ9) + 1) : Int32).toNatClampNeg x1)) := ⟨_, rfl⟩
            rw [← eσ11] at hP hD
            have h := h σ11 eσ11
            refine lv_aload_n hx hb d_Mod_line_136 rfl (lv_at hl 0 rfl) ?_
            refine lv_iconst (v := 2) hx hb d_Mod_line_137 (by decide) ?_
            refine lv_aload_n hx hb d_Mod_line_138 rfl (lv_at hl 0 rfl) ?_
            refine va_get (D := D) (v := .int (m_at σ11)) (C := R_Mod) (T := T_Mod) (N := 16) hx hb hts in_Mod hown hK hP 0 rfl rfl 7 (by decide) (hts _ q_f_Mod_214) (fun _ h9 => h9) rfl d_Mod_line_139 ?_
            refine lv_aload_n hx hb d_Mod_line_142 rfl (lv_at hl 0 rfl) ?_
            refine va_get (D := D) (v := .int (m_at σ11)) (C := R_Mod) (T := T_Mod) (N := 16) hx hb hts in_Mod hown hK hP 0 rfl rfl 7 (by decide) (hts _ q_f_Mod_214) (fun _ h9 => h9) rfl d_Mod_line_143 ?_
            refine g_callVi ⟨hx, hb, hml, hown, hts⟩ (c_Mod_add h) (g_cwV 3 hts q_l_Mod_224 q_m_Mod_add q_s_Mod_add q_i_TokenDeskModel q_k_Mod_add (by decide +kernel) rfl rfl (by rw [hR]; exact ⟨Nat.le_of_ble_eq_true rfl, Nat.le_of_ble_eq_true rfl⟩)) (va_recv hK hP (q0 := 0) rfl rfl) cX_g hK hP hD hS hA hCx rfl hl.1 rfl (Nat.le_of_ble_eq_true rfl) d_Mod_line_146 ⟨Nat.zero_le _, Nat.zero_le _⟩ (fun r12 σ13 H locs h hP hD hS => ?_)
            refine lv_pop hx hb d_Mod_line_149 rfl ?_
            obtain ⟨n, h⟩ := h
            exact L150 n x1 σ13 _ _ _ h hP hD hS hl
          · have h := h.2 hc
            refine lv_aload_n hx hb d_Mod_line_110 rfl (lv_at hl 0 rfl) ?_
            refine lv_aload_n hx hb d_Mod_line_111 rfl (lv_at hl 0 rfl) ?_
            refine va_get (D := D) (v := .int (m_at σ9)) (C := R_Mod) (T := T_Mod) (N := 16) hx hb hts in_Mod hown hK hP 0 rfl rfl 7 (by decide) (hts _ q_f_Mod_214) (fun _ h9 => h9) rfl d_Mod_line_112 ?_
            refine g_callVi ⟨hx, hb, hml, hown, hts⟩ (c_Mod_bad h) (g_cwV 1 hts q_l_Mod_210 q_m_Mod_bad q_s_Mod_bad q_i_TokenDeskModel q_k_Mod_bad (by decide +kernel) rfl rfl (by rw [hR]; exact ⟨Nat.le_of_ble_eq_true rfl, Nat.le_of_ble_eq_true rfl⟩)) (va_recv hK hP (q0 := 0) rfl rfl) cX_g hK hP hD hS hA hCx rfl hl.1 rfl (Nat.le_of_ble_eq_true rfl) d_Mod_line_115 ⟨Nat.zero_le _, Nat.zero_le _⟩ (fun r14 σ15 H locs h hP hD hS => ?_)
            exact hret _ _ _ _ _ _ h.2 h.1 hP hD hS d_Mod_line_118
      · have h := h.2 hc
        refine lv_aload_n hx hb d_Mod_line_78 rfl (lv_at hl 0 rfl) ?_
        refine lv_dup hx hb d_Mod_line_79 rfl ?_
        refine va_get (D := D) (v := .int (m_at σ9)) (C := R_Mod) (T := T_Mod) (N := 16) hx hb hts in_Mod hown hK hP 0 rfl rfl 7 (by decide) (hts _ q_f_Mod_214) (fun _ h9 => h9) rfl d_Mod_line_80 ?_
        refine lv_iconst (v := 1) hx hb d_Mod_line_83 (by decide) ?_
        refine lv_iadd hx hb d_Mod_line_84 ?_
        refine va_put (D := D) (v := .int ((m_at σ9) + 1)) (ty := .int) (C := R_Mod) (T := T_Mod) (N := 16) hx hb hts in_Mod t_Mod tk_Mod n_Mod hown hK hP hD hS 0 rfl rfl 7 (by decide) (hts _ q_f_Mod_214) (fun _ h9 => h9) rfl (by decide +kernel) rfl rfl (Nat.le_of_ble_eq_true rfl) d_Mod_line_85 (fun H locs hP hD hS => ?_)
        have hP : va_P D vwCl (mW ad ty cd (m_at' σ9 ((m_at σ9) + 1))) H := hP
        have hD : va_D A (mW ad ty cd (m_at' σ9 ((m_at σ9) + 1))) := hD
        obtain ⟨σ16, eσ16⟩ : ∃ z, z = (m_at' σ9 ((m_at σ9) + 1)) := ⟨_, rfl⟩
        rw [← eσ16] at hP hD
        have h := h σ16 eσ16
        refine lv_iconst (v := 1) hx hb d_Mod_line_88 (by decide) ?_
        exact hret _ _ _ _ _ _ h rfl hP hD hS d_Mod_line_89
    · have h := h.2 hc
      refine lv_iconst (v := 1) hx hb d_Mod_line_63 (by decide) ?_
      exact hret _ _ _ _ _ _ h rfl hP hD hS d_Mod_line_64
  have L2 : ∀ n : Nat, ∀ (x1 : Int32) (σ : MS) (H : Heap) (locs : List Loc) (ls : Array Slot), L_Mod_line_2 post n x1 σ → va_P D vwCl (mW ad ty cd σ) H → va_D A (mW ad ty cd σ) → va_S A s.heap H locs → lv_has ls 2 [(0, .ref (ad 0)), (1, .int x1)] → W p l e R s m args below meth c H locs 0 0 Q (F0 m 2 ls []) := by
    intro n2
    induction n2 with
    | zero => intro x1 σ H locs ls h hP hD hS hl; exact h.elim
    | succ n2 ih2 =>
      intro x1 σ H locs ls h hP hD hS hl
      unfold L_Mod_line_2 at h
      refine lv_aload_n hx hb d_Mod_line_2 rfl (lv_at hl 0 rfl) ?_
      refine lv_aload_n hx hb d_Mod_line_3 rfl (lv_at hl 0 rfl) ?_
      refine va_get (D := D) (v := .int (m_at σ)) (C := R_Mod) (T := T_Mod) (N := 16) hx hb hts in_Mod hown hK hP 0 rfl rfl 7 (by decide) (hts _ q_f_Mod_214) (fun _ h9 => h9) rfl d_Mod_line_4 ?_
      refine g_callVi ⟨hx, hb, hml, hown, hts⟩ (c_Mod_c h) (g_cwV 1 hts q_l_Mod_228 q_m_Mod_c q_s_Mod_c q_i_TokenDeskModel q_k_Mod_c (by decide +kernel) rfl rfl (by rw [hR]; exact ⟨Nat.le_of_ble_eq_true rfl, Nat.le_of_ble_eq_true rfl⟩)) (va_recv hK hP (q0 := 0) rfl rfl) cX_g hK hP hD hS hA hCx rfl hl.1 rfl (Nat.le_of_ble_eq_true rfl) d_Mod_line_7 ⟨Nat.zero_le _, Nat.zero_le _⟩ (fun r1 σ2 H locs h hP hD hS => ?_)
      refine lv_bipush (v := 32) hx hb d_Mod_line_10 (by decide) ?_
      refine lv_icmp_ne hx hb d_Mod_line_12 (tgt := 31) rfl (fun hc => ?_) (fun hc => ?_)
      · have h := h.1 hc
        refine lv_aload_n hx hb d_Mod_line_31 rfl (lv_at hl 0 rfl) ?_
        refine g_callVv ⟨hx, hb, hml, hown, hts⟩ (c_Mod_joined h) (g_cwV 0 hts q_l_Mod_232 q_m_Mod_joined q_s_Mod_joined q_i_TokenDeskModel q_k_Mod_joined (by decide +kernel) rfl rfl (by rw [hR]; exact ⟨Nat.le_of_ble_eq_true rfl, Nat.le_of_ble_eq_true rfl⟩)) (va_recv hK hP (q0 := 0) rfl rfl) cX_g hK hP hD hS hA hCx rfl hl.1 rfl (Nat.le_of_ble_eq_true rfl) d_Mod_line_32 ⟨Nat.zero_le _, Nat.zero_le _⟩ (fun σ3 H locs h hP hD hS => ?_)
        refine lv_aload_n hx hb d_Mod_line_35 rfl (lv_at hl 0 rfl) ?_
        refine lv_aload_n hx hb d_Mod_line_36 rfl (lv_at hl 0 rfl) ?_
        refine va_get (D := D) (v := .int (m_at σ3)) (C := R_Mod) (T := T_Mod) (N := 16) hx hb hts in_Mod hown hK hP 0 rfl rfl 7 (by decide) (hts _ q_f_Mod_214) (fun _ h9 => h9) rfl d_Mod_line_37 ?_
        refine g_callVi ⟨hx, hb, hml, hown, hts⟩ (c_Mod_c h) (g_cwV 1 hts q_l_Mod_228 q_m_Mod_c q_s_Mod_c q_i_TokenDeskModel q_k_Mod_c (by decide +kernel) rfl rfl (by rw [hR]; exact ⟨Nat.le_of_ble_eq_true rfl, Nat.le_of_ble_eq_true rfl⟩)) (va_recv hK hP (q0 := 0) rfl rfl) cX_g hK hP hD hS hA hCx rfl hl.1 rfl (Nat.le_of_ble_eq_true rfl) d_Mod_line_40 ⟨Nat.zero_le _, Nat.zero_le _⟩ (fun r4 σ5 H locs h hP hD hS => ?_)
        refine lv_bipush (v := 35) hx hb d_Mod_line_43 (by decide) ?_
        refine lv_icmp_ne hx hb d_Mod_line_45 (tgt := 52) rfl (fun hc => ?_) (fun hc => ?_)
        · have h := h.1 hc
          exact L52 x1 σ5 _ _ _ h hP hD hS hl
        · have h := h.2 hc
          refine lv_aload_n hx hb d_Mod_line_48 rfl (lv_at hl 0 rfl) ?_
          refine g_callVv ⟨hx, hb, hml, hown, hts⟩ (c_Mod_comment h) (g_cwV 0 hts q_l_Mod_235 q_m_Mod_comment q_s_Mod_comment q_i_TokenDeskModel q_k_Mod_comment (by decide +kernel) rfl rfl (by rw [hR]; exact ⟨Nat.le_of_ble_eq_true rfl, Nat.le_of_ble_eq_true rfl⟩)) (va_recv hK hP (q0 := 0) rfl rfl) cX_g hK hP hD hS hA hCx rfl hl.1 rfl (Nat.le_of_ble_eq_true rfl) d_Mod_line_49 ⟨Nat.zero_le _, Nat.zero_le _⟩ (fun σ6 H locs h hP hD hS => ?_)
          exact L52 x1 σ6 _ _ _ h hP hD hS hl
      · have h := h.2 hc
        refine lv_aload_n hx hb d_Mod_line_15 rfl (lv_at hl 0 rfl) ?_
        refine lv_dup hx hb d_Mod_line_16 rfl ?_
        refine va_get (D := D) (v := .int (m_at σ2)) (C := R_Mod) (T := T_Mod) (N := 16) hx hb hts in_Mod hown hK hP 0 rfl rfl 7 (by decide) (hts _ q_f_Mod_214) (fun _ h9 => h9) rfl d_Mod_line_17 ?_
        refine lv_iconst (v := 1) hx hb d_Mod_line_20 (by decide) ?_
        refine lv_iadd hx hb d_Mod_line_21 ?_
        refine va_put (D := D) (v := .int ((m_at σ2) + 1)) (ty := .int) (C := R_Mod) (T := T_Mod) (N := 16) hx hb hts in_Mod t_Mod tk_Mod n_Mod hown hK hP hD hS 0 rfl rfl 7 (by decide) (hts _ q_f_Mod_214) (fun _ h9 => h9) rfl (by decide +kernel) rfl rfl (Nat.le_of_ble_eq_true rfl) d_Mod_line_22 (fun H locs hP hD hS => ?_)
        have hP : va_P D vwCl (mW ad ty cd (m_at' σ2 ((m_at σ2) + 1))) H := hP
        have hD : va_D A (mW ad ty cd (m_at' σ2 ((m_at σ2) + 1))) := hD
        obtain ⟨σ7, eσ7⟩ : ∃ z, z = (m_at' σ2 ((m_at σ2) + 1)) := ⟨_, rfl⟩
        rw [← eσ7] at hP hD
        have h := h σ7 eσ7
        refine lv_iinc (v := (x1 + 1)) hx hb d_Mod_line_25 hl (k := 1) rfl rfl (by decide) rfl (fun ls hl => ?_)
        refine lv_goto hx hb d_Mod_line_28 (tgt := 2) rfl ?_
        exact ih2 (x1 + 1) σ7 _ _ _ h hP hD hS (lv_sub hl [1, 0] rfl)
  refine lv_iconst (v := 0) hx hb d_Mod_line_0 (by decide) ?_
  refine lv_istore_n hx hb d_Mod_line_1 rfl hl (by decide) rfl (fun ls hl => ?_)
  obtain ⟨n, h⟩ := h
  exact L2 n 0 σ _ _ _ h hP hD hS (lv_sub hl [1, 0] rfl)
set_option maxHeartbeats 4000000 in
set_option maxRecDepth 100000 in
theorem c_Mod_scan {l : Launch} {D : va_G} {ad : Nat → Nat} {ty : Nat → ClassId} {cd : Nat → Nat → Nat} {a1 : Int32} {σ : MS} {post : Int32 → MS → Prop} (h : wp_Mod_scan a1 σ post) : g_Meti l y_Mod_scan (Cond.code y_Mod_scan b_Mod_scan 4 (some .int) :: gW) ({ frames := 7, cells := 0, slots := 0, locals := 154 }) D vwCl (gT ty) (mW ad ty cd) (cX cd) [.ref (ad 0), .int a1] σ post := by
  refine g_starti (cc := b_Mod_scan) (maxL := 4) (by decide) rfl (Nat.le_of_ble_eq_true rfl) ?_
  intro p e s m args below meth c A Q R ls hR hx hb hts hown hml hA hS hP hD hK hCx hl hret
  unfold wp_Mod_scan at h
  have hown : s.vm.findClass "TokenDeskModel" = some m.cls := hown
  have hl : lv_has ls 4 [(0, .ref (ad 0)), (1, .int a1)] := hl
  have L171 : ∀ n : Nat, ∀ (x1 : Int32) (x3 : Int32) (σ : MS) (H : Heap) (locs : List Loc) (ls : Array Slot), L_Mod_scan_171 post n x1 x3 σ → va_P D vwCl (mW ad ty cd σ) H → va_D A (mW ad ty cd σ) → va_S A s.heap H locs → lv_has ls 4 [(0, .ref (ad 0)), (1, .int x1), (3, .int x3)] → W p l e R s m args below meth c H locs 0 0 Q (F0 m 171 ls []) := by
    intro n171
    induction n171 with
    | zero => intro x1 x3 σ H locs ls h hP hD hS hl; exact h.elim
    | succ n171 ih171 =>
      intro x1 x3 σ H locs ls h hP hD hS hl
      unfold L_Mod_scan_171 at h
      refine lv_iload_n hx hb d_Mod_scan_171 rfl (lv_at hl 2 rfl) ?_
      refine lv_aload_n hx hb d_Mod_scan_172 rfl (lv_at hl 0 rfl) ?_
      refine va_get (D := D) (v := .int (m_open σ)) (C := R_Mod) (T := T_Mod) (N := 16) hx hb hts in_Mod hown hK hP 0 rfl rfl 9 (by decide) (hts _ q_f_Mod_217) (fun _ h9 => h9) rfl d_Mod_scan_173 ?_
      refine lv_icmp_ge hx hb d_Mod_scan_176 (tgt := 193) rfl (fun hc => ?_) (fun hc => ?_)
      · have h := h.1 hc
        refine lv_aload_n hx hb d_Mod_scan_193 rfl (lv_at hl 0 rfl) ?_
        refine lv_iconst (v := 0) hx hb d_Mod_scan_194 (by decide) ?_
        refine lv_iload_n hx hb d_Mod_scan_195 rfl (lv_at hl 1 rfl) ?_
        refine lv_iload_n hx hb d_Mod_scan_196 rfl (lv_at hl 1 rfl) ?_
        refine g_callVi ⟨hx, hb, hml, hown, hts⟩ (c_Mod_add h) (g_cwV 3 hts q_l_Mod_224 q_m_Mod_add q_s_Mod_add q_i_TokenDeskModel q_k_Mod_add (by decide +kernel) rfl rfl (by rw [hR]; exact ⟨Nat.le_of_ble_eq_true rfl, Nat.le_of_ble_eq_true rfl⟩)) (va_recv hK hP (q0 := 0) rfl rfl) cX_g hK hP hD hS hA hCx rfl hl.1 rfl (Nat.le_of_ble_eq_true rfl) d_Mod_scan_197 ⟨Nat.zero_le _, Nat.zero_le _⟩ (fun r16 σ17 H locs h hP hD hS => ?_)
        refine lv_pop hx hb d_Mod_scan_200 rfl ?_
        refine lv_aload_n hx hb d_Mod_scan_201 rfl (lv_at hl 0 rfl) ?_
        refine va_get (D := D) (v := .int (m_many σ17)) (C := R_Mod) (T := T_Mod) (N := 16) hx hb hts in_Mod hown hK hP 0 rfl rfl 4 (by decide) (hts _ q_f_Mod_204) (fun _ h9 => h9) rfl d_Mod_scan_202 ?_
        exact hret _ _ _ _ _ _ h hP hD hS d_Mod_scan_205
      · have h := h.2 hc
        refine lv_aload_n hx hb d_Mod_scan_179 rfl (lv_at hl 0 rfl) ?_
        refine lv_iconst (v := 3) hx hb d_Mod_scan_180 (by decide) ?_
        refine lv_iload_n hx hb d_Mod_scan_181 rfl (lv_at hl 1 rfl) ?_
        refine lv_iload_n hx hb d_Mod_scan_182 rfl (lv_at hl 1 rfl) ?_
        refine g_callVi ⟨hx, hb, hml, hown, hts⟩ (c_Mod_add h) (g_cwV 3 hts q_l_Mod_224 q_m_Mod_add q_s_Mod_add q_i_TokenDeskModel q_k_Mod_add (by decide +kernel) rfl rfl (by rw [hR]; exact ⟨Nat.le_of_ble_eq_true rfl, Nat.le_of_ble_eq_true rfl⟩)) (va_recv hK hP (q0 := 0) rfl rfl) cX_g hK hP hD hS hA hCx rfl hl.1 rfl (Nat.le_of_ble_eq_true rfl) d_Mod_scan_183 ⟨Nat.zero_le _, Nat.zero_le _⟩ (fun r18 σ19 H locs h hP hD hS => ?_)
        refine lv_pop hx hb d_Mod_scan_186 rfl ?_
        refine lv_iinc (v := (x3 + 1)) hx hb d_Mod_scan_187 hl (k := 2) rfl rfl (by decide) rfl (fun ls hl => ?_)
        refine lv_goto hx hb d_Mod_scan_190 (tgt := 171) rfl ?_
        exact ih171 x1 (x3 + 1) σ19 _ _ _ h hP hD hS (lv_sub hl [1, 2, 0] rfl)
  have L165 : ∀ (x1 : Int32) (x2 : Int32) (σ : MS) (H : Heap) (locs : List Loc) (ls : Array Slot), L_Mod_scan_165 post x1 x2 σ → va_P D vwCl (mW ad ty cd σ) H → va_D A (mW ad ty cd σ) → va_S A s.heap H locs → lv_has ls 4 [(0, .ref (ad 0)), (1, .int x1), (2, .int x2)] → W p l e R s m args below meth c H locs 0 0 Q (F0 m 165 ls []) := by
    intro x1 x2 σ H locs ls h hP hD hS hl
    unfold L_Mod_scan_165 at h
    refine lv_iload_n hx hb d_Mod_scan_165 rfl (lv_at hl 2 rfl) ?_
    refine lv_if_eq hx hb d_Mod_scan_166 (tgt := 206) rfl (fun hc => ?_) (fun hc => ?_)
    · have h := h.1 hc
      refine lv_aload_n hx hb d_Mod_scan_206 rfl (lv_at hl 0 rfl) ?_
      refine lv_iconst (v := 0) hx hb d_Mod_scan_207 (by decide) ?_
      refine va_put (D := D) (v := .int 0) (ty := .int) (C := R_Mod) (T := T_Mod) (N := 16) hx hb hts in_Mod t_Mod tk_Mod n_Mod hown hK hP hD hS 0 rfl rfl 4 (by decide) (hts _ q_f_Mod_204) (fun _ h9 => h9) rfl (by decide +kernel) rfl rfl (Nat.le_of_ble_eq_true rfl) d_Mod_scan_208 (fun H locs hP hD hS => ?_)
      have hP : va_P D vwCl (mW ad ty cd (m_many' σ 0)) H := hP
      have hD : va_D A (mW ad ty cd (m_many' σ 0)) := hD
      obtain ⟨σ14, eσ14⟩ : ∃ z, z = (m_many' σ 0) := ⟨_, rfl⟩
      rw [← eσ14] at hP hD
      have h := h σ14 eσ14
      refine lv_aload_n hx hb d_Mod_scan_211 rfl (lv_at hl 0 rfl) ?_
      refine lv_iconst (v := 2) hx hb d_Mod_scan_212 (by decide) ?_
      refine va_put (D := D) (v := .int 2) (ty := .int) (C := R_Mod) (T := T_Mod) (N := 16) hx hb hts in_Mod t_Mod tk_Mod n_Mod hown hK hP hD hS 0 rfl rfl 2 (by decide) (hts _ q_f_Mod_198) (fun _ h9 => h9) rfl (by decide +kernel) rfl rfl (Nat.le_of_ble_eq_true rfl) d_Mod_scan_213 (fun H locs hP hD hS => ?_)
      have hP : va_P D vwCl (mW ad ty cd (m_err' σ14 2)) H := hP
      have hD : va_D A (mW ad ty cd (m_err' σ14 2)) := hD
      obtain ⟨σ15, eσ15⟩ : ∃ z, z = (m_err' σ14 2) := ⟨_, rfl⟩
      rw [← eσ15] at hP hD
      have h := h σ15 eσ15
      refine lv_iconst (v := 0) hx hb d_Mod_scan_216 (by decide) ?_
      exact hret _ _ _ _ _ _ h hP hD hS d_Mod_scan_217
    · have h := h.2 hc
      refine lv_iconst (v := 0) hx hb d_Mod_scan_169 (by decide) ?_
      refine lv_istore_n hx hb d_Mod_scan_170 rfl hl (by decide) rfl (fun ls hl => ?_)
      obtain ⟨n, h⟩ := h
      exact L171 n x1 0 σ _ _ _ h hP hD hS (lv_sub hl [1, 2, 0] rfl)
  have L145 : ∀ n : Nat, ∀ (x1 : Int32) (x2 : Int32) (σ : MS) (H : Heap) (locs : List Loc) (ls : Array Slot), L_Mod_scan_145 post n x1 x2 σ → va_P D vwCl (mW ad ty cd σ) H → va_D A (mW ad ty cd σ) → va_S A s.heap H locs → lv_has ls 4 [(0, .ref (ad 0)), (1, .int x1), (2, .int x2)] → W p l e R s m args below meth c H locs 0 0 Q (F0 m 145 ls []) := by
    intro n145
    induction n145 with
    | zero => intro x1 x2 σ H locs ls h hP hD hS hl; exact h.elim
    | succ n145 ih145 =>
      intro x1 x2 σ H locs ls h hP hD hS hl
      unfold L_Mod_scan_145 at h
      refine lv_iload_n hx hb d_Mod_scan_145 rfl (lv_at hl 2 rfl) ?_
      refine lv_if_eq hx hb d_Mod_scan_146 (tgt := 165) rfl (fun hc => ?_) (fun hc => ?_)
      · have h := h.1 hc
        exact L165 x1 x2 σ _ _ _ h hP hD hS hl
      · have h := h.2 hc
        refine lv_aload_n hx hb d_Mod_scan_149 rfl (lv_at hl 0 rfl) ?_
        refine va_get (D := D) (v := .int (m_at σ)) (C := R_Mod) (T := T_Mod) (N := 16) hx hb hts in_Mod hown hK hP 0 rfl rfl 7 (by decide) (hts _ q_f_Mod_214) (fun _ h9 => h9) rfl d_Mod_scan_150 ?_
        refine lv_iload_n hx hb d_Mod_scan_153 rfl (lv_at hl 1 rfl) ?_
        refine lv_icmp_ge hx hb d_Mod_scan_154 (tgt := 165) rfl (fun hc => ?_) (fun hc => ?_)
        · have h := h.1 hc
          exact L165 x1 x2 σ _ _ _ h hP hD hS hl
        · have h := h.2 hc
          refine lv_aload_n hx hb d_Mod_scan_157 rfl (lv_at hl 0 rfl) ?_
          refine g_callVi ⟨hx, hb, hml, hown, hts⟩ (c_Mod_line h) (g_cwV 0 hts q_l_Mod_220 q_m_Mod_line q_s_Mod_line q_i_TokenDeskModel q_k_Mod_line (by decide +kernel) rfl rfl (by rw [hR]; exact ⟨Nat.le_of_ble_eq_true rfl, Nat.le_of_ble_eq_true rfl⟩)) (va_recv hK hP (q0 := 0) rfl rfl) cX_g hK hP hD hS hA hCx rfl hl.1 rfl (Nat.le_of_ble_eq_true rfl) d_Mod_scan_158 ⟨Nat.zero_le _, Nat.zero_le _⟩ (fun r12 σ13 H locs h hP hD hS => ?_)
          refine lv_istore_n hx hb d_Mod_scan_161 rfl hl (by decide) rfl (fun ls hl => ?_)
          refine lv_goto hx hb d_Mod_scan_162 (tgt := 145) rfl ?_
          exact ih145 x1 r12 σ13 _ _ _ h hP hD hS (lv_sub hl [1, 2, 0] rfl)
  have L144 : ∀ (x1 : Int32) (s0 : Int32) (σ : MS) (H : Heap) (locs : List Loc) (ls : Array Slot), L_Mod_scan_144 post x1 s0 σ → va_P D vwCl (mW ad ty cd σ) H → va_D A (mW ad ty cd σ) → va_S A s.heap H locs → lv_has ls 4 [(0, .ref (ad 0)), (1, .int x1)] → W p l e R s m args below meth c H locs 0 0 Q (F0 m 144 ls [.int s0]) := by
    intro x1 s0 σ H locs ls h hP hD hS hl
    unfold L_Mod_scan_144 at h
    refine lv_istore_n hx hb d_Mod_scan_144 rfl hl (by decide) rfl (fun ls hl => ?_)
    obtain ⟨n, h⟩ := h
    exact L145 n x1 s0 σ _ _ _ h hP hD hS (lv_sub hl [1, 2, 0] rfl)
  have L53 : ∀ n : Nat, ∀ (x1 : Int32) (x2 : Int32) (σ : MS) (H : Heap) (locs : List Loc) (ls : Array Slot), L_Mod_scan_53 post n x1 x2 σ → va_P D vwCl (mW ad ty cd σ) H → va_D A (mW ad ty cd σ) → va_S A s.heap H locs → lv_has ls 4 [(0, .ref (ad 0)), (1, .int x1), (2, .int x2)] → W p l e R s m args below meth c H locs 0 0 Q (F0 m 53 ls []) := by
    intro n53
    induction n53 with
    | zero => intro x1 x2 σ H locs ls h hP hD hS hl; exact h.elim
    | succ n53 ih53 =>
      have L109 : ∀ (x1 : Int32) (x2 : Int32) (σ : MS) (H : Heap) (locs : List Loc) (ls : Array Slot), L_Mod_scan_109 post (fun x1 x2 σ => L_Mod_scan_53 post n53 x1 x2 σ) x1 x2 σ → va_P D vwCl (mW ad ty cd σ) H → va_D A (mW ad ty cd σ) → va_S A s.heap H locs → lv_has ls 4 [(0, .ref (ad 0)), (1, .int x1), (2, .int x2)] → W p l e R s m args below meth c H locs 0 0 Q (F0 m 109 ls []) := by
        intro x1 x2 σ H locs ls h hP hD hS hl
        unfold L_Mod_scan_109 at h
        refine lv_iinc (v := (x2 + 1)) hx hb d_Mod_scan_109 hl (k := 2) rfl rfl (by decide) rfl (fun ls hl => ?_)
        refine lv_goto hx hb d_Mod_scan_112 (tgt := 53) rfl ?_
        exact ih53 x1 (x2 + 1) σ _ _ _ h hP hD hS (lv_sub hl [1, 2, 0] rfl)
      have L103 : ∀ (x1 : Int32) (x2 : Int32) (σ : MS) (H : Heap) (locs : List Loc) (ls : Array Slot), L_Mod_scan_103 post (fun x1 x2 σ => L_Mod_scan_53 post n53 x1 x2 σ) x1 x2 σ → va_P D vwCl (mW ad ty cd σ) H → va_D A (mW ad ty cd σ) → va_S A s.heap H locs → lv_has ls 4 [(0, .ref (ad 0)), (1, .int x1), (2, .int x2)] → W p l e R s m args below meth c H locs 0 0 Q (F0 m 103 ls []) := by
        intro x1 x2 σ H locs ls h hP hD hS hl
        unfold L_Mod_scan_103 at h
        refine lv_aload_n hx hb d_Mod_scan_103 rfl (lv_at hl 0 rfl) ?_
        refine lv_iload_n hx hb d_Mod_scan_104 rfl (lv_at hl 2 rfl) ?_
        refine g_callVi ⟨hx, hb, hml, hown, hts⟩ (c_Mod_bad h) (g_cwV 1 hts q_l_Mod_210 q_m_Mod_bad q_s_Mod_bad q_i_TokenDeskModel q_k_Mod_bad (by decide +kernel) rfl rfl (by rw [hR]; exact ⟨Nat.le_of_ble_eq_true rfl, Nat.le_of_ble_eq_true rfl⟩)) (va_recv hK hP (q0 := 0) rfl rfl) cX_g hK hP hD hS hA hCx rfl hl.1 rfl (Nat.le_of_ble_eq_true rfl) d_Mod_scan_105 ⟨Nat.zero_le _, Nat.zero_le _⟩ (fun r10 σ11 H locs h hP hD hS => ?_)
        refine lv_pop hx hb d_Mod_scan_108 rfl ?_
        exact L109 x1 x2 σ11 _ _ _ h hP hD hS hl
      intro x1 x2 σ H locs ls h hP hD hS hl
      unfold L_Mod_scan_53 at h
      refine lv_iload_n hx hb d_Mod_scan_53 rfl (lv_at hl 2 rfl) ?_
      refine lv_iload_n hx hb d_Mod_scan_54 rfl (lv_at hl 1 rfl) ?_
      refine lv_icmp_ge hx hb d_Mod_scan_55 (tgt := 115) rfl (fun hc => ?_) (fun hc => ?_)
      · have h := h.1 hc
        refine lv_aload_n hx hb d_Mod_scan_115 rfl (lv_at hl 0 rfl) ?_
        refine lv_iconst (v := 0) hx hb d_Mod_scan_116 (by decide) ?_
        refine va_put (D := D) (v := .int 0) (ty := .int) (C := R_Mod) (T := T_Mod) (N := 16) hx hb hts in_Mod t_Mod tk_Mod n_Mod hown hK hP hD hS 0 rfl rfl 7 (by decide) (hts _ q_f_Mod_214) (fun _ h9 => h9) rfl (by decide +kernel) rfl rfl (Nat.le_of_ble_eq_true rfl) d_Mod_scan_117 (fun H locs hP hD hS => ?_)
        have hP : va_P D vwCl (mW ad ty cd (m_at' σ 0)) H := hP
        have hD : va_D A (mW ad ty cd (m_at' σ 0)) := hD
        obtain ⟨σ6, eσ6⟩ : ∃ z, z = (m_at' σ 0) := ⟨_, rfl⟩
        rw [← eσ6] at hP hD
        have h := h σ6 eσ6
        refine lv_aload_n hx hb d_Mod_scan_120 rfl (lv_at hl 0 rfl) ?_
        refine lv_iconst (v := 0) hx hb d_Mod_scan_121 (by decide) ?_
        refine va_put (D := D) (v := .int 0) (ty := .int) (C := R_Mod) (T := T_Mod) (N := 16) hx hb hts in_Mod t_Mod tk_Mod n_Mod hown hK hP hD hS 0 rfl rfl 9 (by decide) (hts _ q_f_Mod_217) (fun _ h9 => h9) rfl (by decide +kernel) rfl rfl (Nat.le_of_ble_eq_true rfl) d_Mod_scan_122 (fun H locs hP hD hS => ?_)
        have hP : va_P D vwCl (mW ad ty cd (m_open' σ6 0)) H := hP
        have hD : va_D A (mW ad ty cd (m_open' σ6 0)) := hD
        obtain ⟨σ7, eσ7⟩ : ∃ z, z = (m_open' σ6 0) := ⟨_, rfl⟩
        rw [← eσ7] at hP hD
        have h := h σ7 eσ7
        refine lv_aload_n hx hb d_Mod_scan_125 rfl (lv_at hl 0 rfl) ?_
        refine va_get (D := D) (v := .ref (ad 8)) (C := R_Mod) (T := T_Mod) (N := 16) hx hb hts in_Mod hown hK hP 0 rfl rfl 15 (by decide) (hts _ q_f_Mod_195) (fun _ h9 => h9) rfl d_Mod_scan_126 ?_
        refine lv_iconst (v := 0) hx hb d_Mod_scan_129 (by decide) ?_
        refine lv_iconst (v := 0) hx hb d_Mod_scan_130 (by decide) ?_
        refine va_iast (D := D) hx hb hK hP hD hS 8 0 rfl rfl h.1 d_Mod_scan_131 (fun H locs hP hD hS => ?_)
        have h := h.2
        have hP : va_P D vwCl (mW ad ty cd (m_ins' σ7 (upd (m_ins σ7) (0 : Int32).toNatClampNeg 0))) H := hP
        have hD : va_D A (mW ad ty cd (m_ins' σ7 (upd (m_ins σ7) (0 : Int32).toNatClampNeg 0))) := hD
        obtain ⟨σ8, eσ8⟩ : ∃ z, z = (m_ins' σ7 (upd (m_ins σ7) (0 : Int32).toNatClampNeg 0)) := ⟨_, rfl⟩
        rw [← eσ8] at hP hD
        have h := h σ8 eσ8
        refine lv_aload_n hx hb d_Mod_scan_132 rfl (lv_at hl 0 rfl) ?_
        refine va_get (D := D) (v := .int (m_wrong σ8)) (C := R_Mod) (T := T_Mod) (N := 16) hx hb hts in_Mod hown hK hP 0 rfl rfl 5 (by decide) (hts _ q_f_Mod_176) (fun _ h9 => h9) rfl d_Mod_scan_133 ?_
        refine lv_if_ge hx hb d_Mod_scan_136 (tgt := 143) rfl (fun hc => ?_) (fun hc => ?_)
        · have h := h.1 hc
          refine lv_iconst (v := 0) hx hb d_Mod_scan_143 (by decide) ?_
          exact L144 x1 0 σ8 _ _ _ h hP hD hS (lv_sub hl [0, 1] rfl)
        · have h := h.2 hc
          refine lv_iconst (v := 1) hx hb d_Mod_scan_139 (by decide) ?_
          refine lv_goto hx hb d_Mod_scan_140 (tgt := 144) rfl ?_
          exact L144 x1 1 σ8 _ _ _ h hP hD hS (lv_sub hl [0, 1] rfl)
      · have h := h.2 hc
        refine lv_aload_n hx hb d_Mod_scan_58 rfl (lv_at hl 0 rfl) ?_
        refine va_get (D := D) (v := .ref (ad 4)) (C := R_Mod) (T := T_Mod) (N := 16) hx hb hts in_Mod hown hK hP 0 rfl rfl 11 (by decide) (hts _ q_f_Mod_184) (fun _ h9 => h9) rfl d_Mod_scan_59 ?_
        refine lv_iload_n hx hb d_Mod_scan_62 rfl (lv_at hl 2 rfl) ?_
        refine lv_aload_n hx hb d_Mod_scan_63 rfl (lv_at hl 0 rfl) ?_
        refine va_get (D := D) (v := .ref (ad 3)) (C := R_Mod) (T := T_Mod) (N := 16) hx hb hts in_Mod hown hK hP 0 rfl rfl 10 (by decide) (hts _ q_f_Mod_180) (fun _ h9 => h9) rfl d_Mod_scan_64 ?_
        refine lv_iload_n hx hb d_Mod_scan_67 rfl (lv_at hl 2 rfl) ?_
        refine va_iald (D := D) hx hb hK hP 3 0 rfl rfl h.1 d_Mod_scan_68 ?_
        have h := h.2
        refine va_iast (D := D) hx hb hK hP hD hS 4 0 rfl rfl h.1 d_Mod_scan_69 (fun H locs hP hD hS => ?_)
        have h := h.2
        have hP : va_P D vwCl (mW ad ty cd (m_tx' σ (upd (m_tx σ) (x2 : Int32).toNatClampNeg (m_oc σ (x2 : Int32).toNatClampNeg)))) H := hP
        have hD : va_D A (mW ad ty cd (m_tx' σ (upd (m_tx σ) (x2 : Int32).toNatClampNeg (m_oc σ (x2 : Int32).toNatClampNeg)))) := hD
        obtain ⟨σ9, eσ9⟩ : ∃ z, z = (m_tx' σ (upd (m_tx σ) (x2 : Int32).toNatClampNeg (m_oc σ (x2 : Int32).toNatClampNeg))) := ⟨_, rfl⟩
        rw [← eσ9] at hP hD
        have h := h σ9 eσ9
        refine lv_aload_n hx hb d_Mod_scan_70 rfl (lv_at hl 0 rfl) ?_
        refine va_get (D := D) (v := .ref (ad 4)) (C := R_Mod) (T := T_Mod) (N := 16) hx hb hts in_Mod hown hK hP 0 rfl rfl 11 (by decide) (hts _ q_f_Mod_184) (fun _ h9 => h9) rfl d_Mod_scan_71 ?_
        refine lv_iload_n hx hb d_Mod_scan_74 rfl (lv_at hl 2 rfl) ?_
        refine va_iald (D := D) hx hb hK hP 4 0 rfl rfl h.1 d_Mod_scan_75 ?_
        have h := h.2
        refine lv_bipush (v := 10) hx hb d_Mod_scan_76 (by decide) ?_
        refine lv_icmp_eq hx hb d_Mod_scan_78 (tgt := 109) rfl (fun hc => ?_) (fun hc => ?_)
        · have h := h.1 hc
          exact L109 x1 x2 σ9 _ _ _ h hP hD hS hl
        · have h := h.2 hc
          refine lv_aload_n hx hb d_Mod_scan_81 rfl (lv_at hl 0 rfl) ?_
          refine va_get (D := D) (v := .ref (ad 4)) (C := R_Mod) (T := T_Mod) (N := 16) hx hb hts in_Mod hown hK hP 0 rfl rfl 11 (by decide) (hts _ q_f_Mod_184) (fun _ h9 => h9) rfl d_Mod_scan_82 ?_
          refine lv_iload_n hx hb d_Mod_scan_85 rfl (lv_at hl 2 rfl) ?_
          refine va_iald (D := D) hx hb hK hP 4 0 rfl rfl h.1 d_Mod_scan_86 ?_
          have h := h.2
          refine lv_bipush (v := 32) hx hb d_Mod_scan_87 (by decide) ?_
          refine lv_icmp_lt hx hb d_Mod_scan_89 (tgt := 103) rfl (fun hc => ?_) (fun hc => ?_)
          · have h := h.1 hc
            exact L103 x1 x2 σ9 _ _ _ h hP hD hS hl
          · have h := h.2 hc
            refine lv_aload_n hx hb d_Mod_scan_92 rfl (lv_at hl 0 rfl) ?_
            refine va_get (D := D) (v := .ref (ad 4)) (C := R_Mod) (T := T_Mod) (N := 16) hx hb hts in_Mod hown hK hP 0 rfl rfl 11 (by decide) (hts _ q_f_Mod_184) (fun _ h9 => h9) rfl d_Mod_scan_93 ?_
            refine lv_iload_n hx hb d_Mod_scan_96 rfl (lv_at hl 2 rfl) ?_
            refine va_iald (D := D) hx hb hK hP 4 0 rfl rfl h.1 d_Mod_scan_97 ?_
            have h := h.2
            refine lv_bipush (v := 126) hx hb d_Mod_scan_98 (by decide) ?_
            refine lv_icmp_le hx hb d_Mod_scan_100 (tgt := 109) rfl (fun hc => ?_) (fun hc => ?_)
            · have h := h.1 hc
              exact L109 x1 x2 σ9 _ _ _ h hP hD hS hl
            · have h := h.2 hc
              exact L103 x1 x2 σ9 _ _ _ h hP hD hS hl
  have L24 : ∀ (σ : MS) (H : Heap) (locs : List Loc) (ls : Array Slot), L_Mod_scan_24 post σ → va_P D vwCl (mW ad ty cd σ) H → va_D A (mW ad ty cd σ) → va_S A s.heap H locs → lv_has ls 4 [(0, .ref (ad 0))] → W p l e R s m args below meth c H locs 0 0 Q (F0 m 24 ls []) := by
    intro σ H locs ls h hP hD hS hl
    unfold L_Mod_scan_24 at h
    refine lv_aload_n hx hb d_Mod_scan_24 rfl (lv_at hl 0 rfl) ?_
    refine lv_iconst (v := 1) hx hb d_Mod_scan_25 (by decide) ?_
    refine va_put (D := D) (v := .int 1) (ty := .int) (C := R_Mod) (T := T_Mod) (N := 16) hx hb hts in_Mod t_Mod tk_Mod n_Mod hown hK hP hD hS 0 rfl rfl 2 (by decide) (hts _ q_f_Mod_198) (fun _ h9 => h9) rfl (by decide +kernel) rfl rfl (Nat.le_of_ble_eq_true rfl) d_Mod_scan_26 (fun H locs hP hD hS => ?_)
    have hP : va_P D vwCl (mW ad ty cd (m_err' σ 1)) H := hP
    have hD : va_D A (mW ad ty cd (m_err' σ 1)) := hD
    obtain ⟨σ20, eσ20⟩ : ∃ z, z = (m_err' σ 1) := ⟨_, rfl⟩
    rw [← eσ20] at hP hD
    have h := h σ20 eσ20
    refine lv_iconst (v := 0) hx hb d_Mod_scan_29 (by decide) ?_
    exact hret _ _ _ _ _ _ h hP hD hS d_Mod_scan_30
  refine lv_aload_n hx hb d_Mod_scan_0 rfl (lv_at hl 0 rfl) ?_
  refine lv_iconst (v := 0) hx hb d_Mod_scan_1 (by decide) ?_
  refine va_put (D := D) (v := .int 0) (ty := .int) (C := R_Mod) (T := T_Mod) (N := 16) hx hb hts in_Mod t_Mod tk_Mod n_Mod hown hK hP hD hS 0 rfl rfl 2 (by decide) (hts _ q_f_Mod_198) (fun _ h9 => h9) rfl (by decide +kernel) rfl rfl (Nat.le_of_ble_eq_true rfl) d_Mod_scan_2 (fun H locs hP hD hS => ?_)
  have hP : va_P D vwCl (mW ad ty cd (m_err' σ 0)) H := hP
  have hD : va_D A (mW ad ty cd (m_err' σ 0)) := hD
  obtain ⟨σ1, eσ1⟩ : ∃ z, z = (m_err' σ 0) := ⟨_, rfl⟩
  rw [← eσ1] at hP hD
  have h := h σ1 eσ1
  refine lv_iload_n hx hb d_Mod_scan_5 rfl (lv_at hl 1 rfl) ?_
  refine lv_if_lt hx hb d_Mod_scan_6 (tgt := 24) rfl (fun hc => ?_) (fun hc => ?_)
  · have h := h.1 hc
    exact L24 σ1 _ _ _ h hP hD hS (lv_sub hl [0] rfl)
  · have h := h.2 hc
    refine lv_iload_n hx hb d_Mod_scan_9 rfl (lv_at hl 1 rfl) ?_
    refine lv_sipush (v := 4096) hx hb d_Mod_scan_10 (by decide) ?_
    refine lv_icmp_gt hx hb d_Mod_scan_13 (tgt := 24) rfl (fun hc => ?_) (fun hc => ?_)
    · have h := h.1 hc
      exact L24 σ1 _ _ _ h hP hD hS (lv_sub hl [0] rfl)
    · have h := h.2 hc
      refine lv_iload_n hx hb d_Mod_scan_16 rfl (lv_at hl 1 rfl) ?_
      refine lv_aload_n hx hb d_Mod_scan_17 rfl (lv_at hl 0 rfl) ?_
      refine va_get (D := D) (v := .int (m_fed σ1)) (C := R_Mod) (T := T_Mod) (N := 16) hx hb hts in_Mod hown hK hP 0 rfl rfl 3 (by decide) (hts _ q_f_Mod_201) (fun _ h9 => h9) rfl d_Mod_scan_18 ?_
      refine lv_icmp_le hx hb d_Mod_scan_21 (tgt := 31) rfl (fun hc => ?_) (fun hc => ?_)
      · have h := h.1 hc
        refine lv_aload_n hx hb d_Mod_scan_31 rfl (lv_at hl 0 rfl) ?_
        refine lv_iconst (v := 0) hx hb d_Mod_scan_32 (by decide) ?_
        refine va_put (D := D) (v := .int 0) (ty := .int) (C := R_Mod) (T := T_Mod) (N := 16) hx hb hts in_Mod t_Mod tk_Mod n_Mod hown hK hP hD hS 0 rfl rfl 3 (by decide) (hts _ q_f_Mod_201) (fun _ h9 => h9) rfl (by decide +kernel) rfl rfl (Nat.le_of_ble_eq_true rfl) d_Mod_scan_33 (fun H locs hP hD hS => ?_)
        have hP : va_P D vwCl (mW ad ty cd (m_fed' σ1 0)) H := hP
        have hD : va_D A (mW ad ty cd (m_fed' σ1 0)) := hD
        obtain ⟨σ2, eσ2⟩ : ∃ z, z = (m_fed' σ1 0) := ⟨_, rfl⟩
        rw [← eσ2] at hP hD
        have h := h σ2 eσ2
        refine lv_aload_n hx hb d_Mod_scan_36 rfl (lv_at hl 0 rfl) ?_
        refine lv_iconst (v := 0) hx hb d_Mod_scan_37 (by decide) ?_
        refine va_put (D := D) (v := .int 0) (ty := .int) (C := R_Mod) (T := T_Mod) (N := 16) hx hb hts in_Mod t_Mod tk_Mod n_Mod hown hK hP hD hS 0 rfl rfl 4 (by decide) (hts _ q_f_Mod_204) (fun _ h9 => h9) rfl (by decide +kernel) rfl rfl (Nat.le_of_ble_eq_true rfl) d_Mod_scan_38 (fun H locs hP hD hS => ?_)
        have hP : va_P D vwCl (mW ad ty cd (m_many' σ2 0)) H := hP
        have hD : va_D A (mW ad ty cd (m_many' σ2 0)) := hD
        obtain ⟨σ3, eσ3⟩ : ∃ z, z = (m_many' σ2 0) := ⟨_, rfl⟩
        rw [← eσ3] at hP hD
        have h := h σ3 eσ3
        refine lv_aload_n hx hb d_Mod_scan_41 rfl (lv_at hl 0 rfl) ?_
        refine lv_iconst (v := (-1)) hx hb d_Mod_scan_42 (by decide) ?_
        refine va_put (D := D) (v := .int (-1)) (ty := .int) (C := R_Mod) (T := T_Mod) (N := 16) hx hb hts in_Mod t_Mod tk_Mod n_Mod hown hK hP hD hS 0 rfl rfl 5 (by decide) (hts _ q_f_Mod_176) (fun _ h9 => h9) rfl (by decide +kernel) rfl rfl (Nat.le_of_ble_eq_true rfl) d_Mod_scan_43 (fun H locs hP hD hS => ?_)
        have hP : va_P D vwCl (mW ad ty cd (m_wrong' σ3 (-1))) H := hP
        have hD : va_D A (mW ad ty cd (m_wrong' σ3 (-1))) := hD
        obtain ⟨σ4, eσ4⟩ : ∃ z, z = (m_wrong' σ3 (-1)) := ⟨_, rfl⟩
        rw [← eσ4] at hP hD
        have h := h σ4 eσ4
        refine lv_aload_n hx hb d_Mod_scan_46 rfl (lv_at hl 0 rfl) ?_
        refine lv_iload_n hx hb d_Mod_scan_47 rfl (lv_at hl 1 rfl) ?_
        refine va_put (D := D) (v := .int a1) (ty := .int) (C := R_Mod) (T := T_Mod) (N := 16) hx hb hts in_Mod t_Mod tk_Mod n_Mod hown hK hP hD hS 0 rfl rfl 6 (by decide) (hts _ q_f_Mod_207) (fun _ h9 => h9) rfl (by decide +kernel) rfl rfl (Nat.le_of_ble_eq_true rfl) d_Mod_scan_48 (fun H locs hP hD hS => ?_)
        have hP : va_P D vwCl (mW ad ty cd (m_let' σ4 a1)) H := hP
        have hD : va_D A (mW ad ty cd (m_let' σ4 a1)) := hD
        obtain ⟨σ5, eσ5⟩ : ∃ z, z = (m_let' σ4 a1) := ⟨_, rfl⟩
        rw [← eσ5] at hP hD
        have h := h σ5 eσ5
        refine lv_iconst (v := 0) hx hb d_Mod_scan_51 (by decide) ?_
        refine lv_istore_n hx hb d_Mod_scan_52 rfl hl (by decide) rfl (fun ls hl => ?_)
        obtain ⟨n, h⟩ := h
        exact L53 n a1 0 σ5 _ _ _ h hP hD hS (lv_sub hl [1, 2, 0] rfl)
      · have h := h.2 hc
        exact L24 σ1 _ _ _ h hP hD hS (lv_sub hl [0] rfl)
set_option maxHeartbeats 4000000 in
set_option maxRecDepth 100000 in
theorem c_Mod_wrong {l : Launch} {D : va_G} {ad : Nat → Nat} {ty : Nat → ClassId} {cd : Nat → Nat → Nat} {σ : MS} {post : Int32 → MS → Prop} (h : wp_Mod_wrong σ post) : g_Meti l y_Mod_wrong (Cond.code y_Mod_wrong b_Mod_wrong 1 (some .int) :: gW) ({ frames := 0, cells := 0, slots := 0, locals := 0 }) D vwCl (gT ty) (mW ad ty cd) (cX cd) [.ref (ad 0)] σ post := by
  refine g_starti (cc := b_Mod_wrong) (maxL := 1) (by decide) rfl (Nat.le_of_ble_eq_true rfl) ?_
  intro p e s m args below meth c A Q R ls hR hx hb hts hown hml hA hS hP hD hK hCx hl hret
  unfold wp_Mod_wrong at h
  have hown : s.vm.findClass "TokenDeskModel" = some m.cls := hown
  have hl : lv_has ls 1 [(0, .ref (ad 0))] := hl
  refine lv_aload_n hx hb d_Mod_wrong_0 rfl (lv_at hl 0 rfl) ?_
  refine lv_iconst (v := 0) hx hb d_Mod_wrong_1 (by decide) ?_
  refine va_put (D := D) (v := .int 0) (ty := .int) (C := R_Mod) (T := T_Mod) (N := 16) hx hb hts in_Mod t_Mod tk_Mod n_Mod hown hK hP hD hS 0 rfl rfl 2 (by decide) (hts _ q_f_Mod_198) (fun _ h9 => h9) rfl (by decide +kernel) rfl rfl (Nat.le_of_ble_eq_true rfl) d_Mod_wrong_2 (fun H locs hP hD hS => ?_)
  have hP : va_P D vwCl (mW ad ty cd (m_err' σ 0)) H := hP
  have hD : va_D A (mW ad ty cd (m_err' σ 0)) := hD
  obtain ⟨σ1, eσ1⟩ : ∃ z, z = (m_err' σ 0) := ⟨_, rfl⟩
  rw [← eσ1] at hP hD
  have h := h σ1 eσ1
  refine lv_aload_n hx hb d_Mod_wrong_5 rfl (lv_at hl 0 rfl) ?_
  refine va_get (D := D) (v := .int (m_wrong σ1)) (C := R_Mod) (T := T_Mod) (N := 16) hx hb hts in_Mod hown hK hP 0 rfl rfl 5 (by decide) (hts _ q_f_Mod_176) (fun _ h9 => h9) rfl d_Mod_wrong_6 ?_
  exact hret _ _ _ _ _ _ h hP hD hS d_Mod_wrong_9
set_option maxHeartbeats 4000000 in
set_option maxRecDepth 100000 in
theorem c_Mod_tokenAt {l : Launch} {D : va_G} {ad : Nat → Nat} {ty : Nat → ClassId} {cd : Nat → Nat → Nat} {a1 : Int32} {a2 : Int32} {σ : MS} {post : Int32 → MS → Prop} (h : wp_Mod_tokenAt a1 a2 σ post) : g_Meti l y_Mod_tokenAt (Cond.code y_Mod_tokenAt b_Mod_tokenAt 5 (some .int) :: gW) ({ frames := 0, cells := 0, slots := 0, locals := 0 }) D vwCl (gT ty) (mW ad ty cd) (cX cd) [.ref (ad 0), .int a1, .int a2] σ post := by
  refine g_starti (cc := b_Mod_tokenAt) (maxL := 5) (by decide) rfl (Nat.le_of_ble_eq_true rfl) ?_
  intro p e s m args below meth c A Q R ls hR hx hb hts hown hml hA hS hP hD hK hCx hl hret
  unfold wp_Mod_tokenAt at h
  have hown : s.vm.findClass "TokenDeskModel" = some m.cls := hown
  have hl : lv_has ls 5 [(0, .ref (ad 0)), (1, .int a1), (2, .int a2)] := hl
  have L84 : ∀ n : Nat, ∀ (x1 : Int32) (x3 : Int32) (x4 : Int32) (σ : MS) (H : Heap) (locs : List Loc) (ls : Array Slot), L_Mod_tokenAt_84 post n x1 x3 x4 σ → va_P D vwCl (mW ad ty cd σ) H → va_D A (mW ad ty cd σ) → va_S A s.heap H locs → lv_has ls 5 [(0, .ref (ad 0)), (1, .int x1), (3, .int x3), (4, .int x4)] → W p l e R s m args below meth c H locs 0 0 Q (F0 m 84 ls []) := by
    intro n84
    induction n84 with
    | zero => intro x1 x3 x4 σ H locs ls h hP hD hS hl; exact h.elim
    | succ n84 ih84 =>
      have L119 : ∀ (x1 : Int32) (x3 : Int32) (x4 : Int32) (σ : MS) (H : Heap) (locs : List Loc) (ls : Array Slot), L_Mod_tokenAt_119 post (fun x1 x3 x4 σ => L_Mod_tokenAt_84 post n84 x1 x3 x4 σ) x1 x3 x4 σ → va_P D vwCl (mW ad ty cd σ) H → va_D A (mW ad ty cd σ) → va_S A s.heap H locs → lv_has ls 5 [(0, .ref (ad 0)), (1, .int x1), (3, .int x3), (4, .int x4)] → W p l e R s m args below meth c H locs 0 0 Q (F0 m 119 ls []) := by
        intro x1 x3 x4 σ H locs ls h hP hD hS hl
        unfold L_Mod_tokenAt_119 at h
        refine lv_iinc (v := (x4 + 1)) hx hb d_Mod_tokenAt_119 hl (k := 3) rfl rfl (by decide) rfl (fun ls hl => ?_)
        refine lv_goto hx hb d_Mod_tokenAt_122 (tgt := 84) rfl ?_
        exact ih84 x1 x3 (x4 + 1) σ _ _ _ h hP hD hS (lv_sub hl [1, 2, 3, 0] rfl)
      intro x1 x3 x4 σ H locs ls h hP hD hS hl
      unfold L_Mod_tokenAt_84 at h
      refine lv_iload hx hb d_Mod_tokenAt_84 (lv_at hl 3 rfl) ?_
      refine lv_aload_n hx hb d_Mod_tokenAt_86 rfl (lv_at hl 0 rfl) ?_
      refine va_get (D := D) (v := .ref (ad 6)) (C := R_Mod) (T := T_Mod) (N := 16) hx hb hts in_Mod hown hK hP 0 rfl rfl 13 (by decide) (hts _ q_f_Mod_190) (fun _ h9 => h9) rfl d_Mod_tokenAt_87 ?_
      refine lv_iload_n hx hb d_Mod_tokenAt_90 rfl (lv_at hl 1 rfl) ?_
      refine va_iald (D := D) hx hb hK hP 6 0 rfl rfl h.1 d_Mod_tokenAt_91 ?_
      have h := h.2
      refine lv_icmp_ge hx hb d_Mod_tokenAt_92 (tgt := 125) rfl (fun hc => ?_) (fun hc => ?_)
      · have h := h.1 hc
        refine lv_iload_n hx hb d_Mod_tokenAt_125 rfl (lv_at hl 2 rfl) ?_
        exact hret _ _ _ _ _ _ h hP hD hS d_Mod_tokenAt_126
      · have h := h.2 hc
        refine lv_iload hx hb d_Mod_tokenAt_95 (lv_at hl 3 rfl) ?_
        refine lv_aload_n hx hb d_Mod_tokenAt_97 rfl (lv_at hl 0 rfl) ?_
        refine va_get (D := D) (v := .int (m_let σ)) (C := R_Mod) (T := T_Mod) (N := 16) hx hb hts in_Mod hown hK hP 0 rfl rfl 6 (by decide) (hts _ q_f_Mod_207) (fun _ h9 => h9) rfl d_Mod_tokenAt_98 ?_
        refine lv_icmp_ge hx hb d_Mod_tokenAt_101 (tgt := 125) rfl (fun hc => ?_) (fun hc => ?_)
        · have h := h.1 hc
          refine lv_iload_n hx hb d_Mod_tokenAt_125 rfl (lv_at hl 2 rfl) ?_
          exact hret _ _ _ _ _ _ h hP hD hS d_Mod_tokenAt_126
        · have h := h.2 hc
          refine lv_aload_n hx hb d_Mod_tokenAt_104 rfl (lv_at hl 0 rfl) ?_
          refine va_get (D := D) (v := .ref (ad 4)) (C := R_Mod) (T := T_Mod) (N := 16) hx hb hts in_Mod hown hK hP 0 rfl rfl 11 (by decide) (hts _ q_f_Mod_184) (fun _ h9 => h9) rfl d_Mod_tokenAt_105 ?_
          refine lv_iload hx hb d_Mod_tokenAt_108 (lv_at hl 3 rfl) ?_
          refine va_iald (D := D) hx hb hK hP 4 0 rfl rfl h.1 d_Mod_tokenAt_110 ?_
          have h := h.2
          refine lv_bipush (v := 10) hx hb d_Mod_tokenAt_111 (by decide) ?_
          refine lv_icmp_ne hx hb d_Mod_tokenAt_113 (tgt := 119) rfl (fun hc => ?_) (fun hc => ?_)
          · have h := h.1 hc
            exact L119 x1 x3 x4 σ _ _ _ h hP hD hS hl
          · have h := h.2 hc
            refine lv_iinc (v := (x3 + 1)) hx hb d_Mod_tokenAt_116 hl (k := 2) rfl rfl (by decide) rfl (fun ls hl => ?_)
            exact L119 x1 (x3 + 1) x4 σ _ _ _ h hP hD hS (lv_sub hl [1, 2, 0, 3] rfl)
  have L33 : ∀ (σ : MS) (H : Heap) (locs : List Loc) (ls : Array Slot), L_Mod_tokenAt_33 post σ → va_P D vwCl (mW ad ty cd σ) H → va_D A (mW ad ty cd σ) → va_S A s.heap H locs → lv_has ls 5 [(0, .ref (ad 0))] → W p l e R s m args below meth c H locs 0 0 Q (F0 m 33 ls []) := by
    intro σ H locs ls h hP hD hS hl
    unfold L_Mod_tokenAt_33 at h
    refine lv_aload_n hx hb d_Mod_tokenAt_33 rfl (lv_at hl 0 rfl) ?_
    refine lv_iconst (v := 2) hx hb d_Mod_tokenAt_34 (by decide) ?_
    refine va_put (D := D) (v := .int 2) (ty := .int) (C := R_Mod) (T := T_Mod) (N := 16) hx hb hts in_Mod t_Mod tk_Mod n_Mod hown hK hP hD hS 0 rfl rfl 2 (by decide) (hts _ q_f_Mod_198) (fun _ h9 => h9) rfl (by decide +kernel) rfl rfl (Nat.le_of_ble_eq_true rfl) d_Mod_tokenAt_35 (fun H locs hP hD hS => ?_)
    have hP : va_P D vwCl (mW ad ty cd (m_err' σ 2)) H := hP
    have hD : va_D A (mW ad ty cd (m_err' σ 2)) := hD
    obtain ⟨σ2, eσ2⟩ : ∃ z, z = (m_err' σ 2) := ⟨_, rfl⟩
    rw [← eσ2] at hP hD
    have h := h σ2 eσ2
    refine lv_iconst (v := 0) hx hb d_Mod_tokenAt_38 (by decide) ?_
    exact hret _ _ _ _ _ _ h hP hD hS d_Mod_tokenAt_39
  have L14 : ∀ (σ : MS) (H : Heap) (locs : List Loc) (ls : Array Slot), L_Mod_tokenAt_14 post σ → va_P D vwCl (mW ad ty cd σ) H → va_D A (mW ad ty cd σ) → va_S A s.heap H locs → lv_has ls 5 [(0, .ref (ad 0))] → W p l e R s m args below meth c H locs 0 0 Q (F0 m 14 ls []) := by
    intro σ H locs ls h hP hD hS hl
    unfold L_Mod_tokenAt_14 at h
    refine lv_aload_n hx hb d_Mod_tokenAt_14 rfl (lv_at hl 0 rfl) ?_
    refine lv_iconst (v := 1) hx hb d_Mod_tokenAt_15 (by decide) ?_
    refine va_put (D := D) (v := .int 1) (ty := .int) (C := R_Mod) (T := T_Mod) (N := 16) hx hb hts in_Mod t_Mod tk_Mod n_Mod hown hK hP hD hS 0 rfl rfl 2 (by decide) (hts _ q_f_Mod_198) (fun _ h9 => h9) rfl (by decide +kernel) rfl rfl (Nat.le_of_ble_eq_true rfl) d_Mod_tokenAt_16 (fun H locs hP hD hS => ?_)
    have hP : va_P D vwCl (mW ad ty cd (m_err' σ 1)) H := hP
    have hD : va_D A (mW ad ty cd (m_err' σ 1)) := hD
    obtain ⟨σ3, eσ3⟩ : ∃ z, z = (m_err' σ 1) := ⟨_, rfl⟩
    rw [← eσ3] at hP hD
    have h := h σ3 eσ3
    refine lv_iconst (v := 0) hx hb d_Mod_tokenAt_19 (by decide) ?_
    exact hret _ _ _ _ _ _ h hP hD hS d_Mod_tokenAt_20
  refine lv_aload_n hx hb d_Mod_tokenAt_0 rfl (lv_at hl 0 rfl) ?_
  refine lv_iconst (v := 0) hx hb d_Mod_tokenAt_1 (by decide) ?_
  refine va_put (D := D) (v := .int 0) (ty := .int) (C := R_Mod) (T := T_Mod) (N := 16) hx hb hts in_Mod t_Mod tk_Mod n_Mod hown hK hP hD hS 0 rfl rfl 2 (by decide) (hts _ q_f_Mod_198) (fun _ h9 => h9) rfl (by decide +kernel) rfl rfl (Nat.le_of_ble_eq_true rfl) d_Mod_tokenAt_2 (fun H locs hP hD hS => ?_)
  have hP : va_P D vwCl (mW ad ty cd (m_err' σ 0)) H := hP
  have hD : va_D A (mW ad ty cd (m_err' σ 0)) := hD
  obtain ⟨σ1, eσ1⟩ : ∃ z, z = (m_err' σ 0) := ⟨_, rfl⟩
  rw [← eσ1] at hP hD
  have h := h σ1 eσ1
  refine lv_iload_n hx hb d_Mod_tokenAt_5 rfl (lv_at hl 2 rfl) ?_
  refine lv_if_lt hx hb d_Mod_tokenAt_6 (tgt := 14) rfl (fun hc => ?_) (fun hc => ?_)
  · have h := h.1 hc
    exact L14 σ1 _ _ _ h hP hD hS (lv_sub hl [0] rfl)
  · have h := h.2 hc
    refine lv_iload_n hx hb d_Mod_tokenAt_9 rfl (lv_at hl 2 rfl) ?_
    refine lv_iconst (v := 3) hx hb d_Mod_tokenAt_10 (by decide) ?_
    refine lv_icmp_le hx hb d_Mod_tokenAt_11 (tgt := 21) rfl (fun hc => ?_) (fun hc => ?_)
    · have h := h.1 hc
      refine lv_iload_n hx hb d_Mod_tokenAt_21 rfl (lv_at hl 1 rfl) ?_
      refine lv_if_lt hx hb d_Mod_tokenAt_22 (tgt := 33) rfl (fun hc => ?_) (fun hc => ?_)
      · have h := h.1 hc
        exact L33 σ1 _ _ _ h hP hD hS (lv_sub hl [0] rfl)
      · have h := h.2 hc
        refine lv_iload_n hx hb d_Mod_tokenAt_25 rfl (lv_at hl 1 rfl) ?_
        refine lv_aload_n hx hb d_Mod_tokenAt_26 rfl (lv_at hl 0 rfl) ?_
        refine va_get (D := D) (v := .int (m_many σ1)) (C := R_Mod) (T := T_Mod) (N := 16) hx hb hts in_Mod hown hK hP 0 rfl rfl 4 (by decide) (hts _ q_f_Mod_204) (fun _ h9 => h9) rfl d_Mod_tokenAt_27 ?_
        refine lv_icmp_lt hx hb d_Mod_tokenAt_30 (tgt := 40) rfl (fun hc => ?_) (fun hc => ?_)
        · have h := h.1 hc
          refine lv_iload_n hx hb d_Mod_tokenAt_40 rfl (lv_at hl 2 rfl) ?_
          refine lv_iconst (v := 3) hx hb d_Mod_tokenAt_41 (by decide) ?_
          refine lv_icmp_ge hx hb d_Mod_tokenAt_42 (tgt := 79) rfl (fun hc => ?_) (fun hc => ?_)
          · have h := h.1 hc
            refine lv_iconst (v := 1) hx hb d_Mod_tokenAt_79 (by decide) ?_
            refine lv_istore_n hx hb d_Mod_tokenAt_80 rfl hl (by decide) rfl (fun ls hl => ?_)
            refine lv_iconst (v := 0) hx hb d_Mod_tokenAt_81 (by decide) ?_
            refine lv_istore hx hb d_Mod_tokenAt_82 hl (by decide) rfl (fun ls hl => ?_)
            obtain ⟨n, h⟩ := h
            exact L84 n a1 1 0 σ1 _ _ _ h hP hD hS (lv_sub hl [2, 3, 1, 0] rfl)
          · have h := h.2 hc
            refine lv_iload_n hx hb d_Mod_tokenAt_45 rfl (lv_at hl 2 rfl) ?_
            refine lv_if_ne hx hb d_Mod_tokenAt_46 (tgt := 58) rfl (fun hc => ?_) (fun hc => ?_)
            · have h := h.1 hc
              refine lv_iload_n hx hb d_Mod_tokenAt_58 rfl (lv_at hl 2 rfl) ?_
              refine lv_iconst (v := 1) hx hb d_Mod_tokenAt_59 (by decide) ?_
              refine lv_icmp_ne hx hb d_Mod_tokenAt_60 (tgt := 72) rfl (fun hc => ?_) (fun hc => ?_)
              · have h := h.1 hc
                refine lv_aload_n hx hb d_Mod_tokenAt_72 rfl (lv_at hl 0 rfl) ?_
                refine va_get (D := D) (v := .ref (ad 7)) (C := R_Mod) (T := T_Mod) (N := 16) hx hb hts in_Mod hown hK hP 0 rfl rfl 14 (by decide) (hts _ q_f_Mod_192) (fun _ h9 => h9) rfl d_Mod_tokenAt_73 ?_
                refine lv_iload_n hx hb d_Mod_tokenAt_76 rfl (lv_at hl 1 rfl) ?_
                refine va_iald (D := D) hx hb hK hP 7 0 rfl rfl h.1 d_Mod_tokenAt_77 ?_
                have h := h.2
                exact hret _ _ _ _ _ _ h hP hD hS d_Mod_tokenAt_78
              · have h := h.2 hc
                refine lv_aload_n hx hb d_Mod_tokenAt_63 rfl (lv_at hl 0 rfl) ?_
                refine va_get (D := D) (v := .ref (ad 6)) (C := R_Mod) (T := T_Mod) (N := 16) hx hb hts in_Mod hown hK hP 0 rfl rfl 13 (by decide) (hts _ q_f_Mod_190) (fun _ h9 => h9) rfl d_Mod_tokenAt_64 ?_
                refine lv_iload_n hx hb d_Mod_tokenAt_67 rfl (lv_at hl 1 rfl) ?_
                refine va_iald (D := D) hx hb hK hP 6 0 rfl rfl h.1 d_Mod_tokenAt_68 ?_
                have h := h.2
                refine lv_goto hx hb d_Mod_tokenAt_69 (tgt := 78) rfl ?_
                exact hret _ _ _ _ _ _ h hP hD hS d_Mod_tokenAt_78
            · have h := h.2 hc
              refine lv_aload_n hx hb d_Mod_tokenAt_49 rfl (lv_at hl 0 rfl) ?_
              refine va_get (D := D) (v := .ref (ad 5)) (C := R_Mod) (T := T_Mod) (N := 16) hx hb hts in_Mod hown hK hP 0 rfl rfl 12 (by decide) (hts _ q_f_Mod_187) (fun _ h9 => h9) rfl d_Mod_tokenAt_50 ?_
              refine lv_iload_n hx hb d_Mod_tokenAt_53 rfl (lv_at hl 1 rfl) ?_
              refine va_iald (D := D) hx hb hK hP 5 0 rfl rfl h.1 d_Mod_tokenAt_54 ?_
              have h := h.2
              refine lv_goto hx hb d_Mod_tokenAt_55 (tgt := 78) rfl ?_
              exact hret _ _ _ _ _ _ h hP hD hS d_Mod_tokenAt_78
        · have h := h.2 hc
          exact L33 σ1 _ _ _ h hP hD hS (lv_sub hl [0] rfl)
    · have h := h.2 hc
      exact L14 σ1 _ _ _ h hP hD hS (lv_sub hl [0] rfl)
set_option maxHeartbeats 4000000 in
set_option maxRecDepth 100000 in
theorem c_Mod_many {l : Launch} {D : va_G} {ad : Nat → Nat} {ty : Nat → ClassId} {cd : Nat → Nat → Nat} {σ : MS} {post : Int32 → MS → Prop} (h : wp_Mod_many σ post) : g_Meti l y_Mod_many (Cond.code y_Mod_many b_Mod_many 1 (some .int) :: gW) ({ frames := 0, cells := 0, slots := 0, locals := 0 }) D vwCl (gT ty) (mW ad ty cd) (cX cd) [.ref (ad 0)] σ post := by
  refine g_starti (cc := b_Mod_many) (maxL := 1) (by decide) rfl (Nat.le_of_ble_eq_true rfl) ?_
  intro p e s m args below meth c A Q R ls hR hx hb hts hown hml hA hS hP hD hK hCx hl hret
  unfold wp_Mod_many at h
  have hown : s.vm.findClass "TokenDeskModel" = some m.cls := hown
  have hl : lv_has ls 1 [(0, .ref (ad 0))] := hl
  refine lv_aload_n hx hb d_Mod_many_0 rfl (lv_at hl 0 rfl) ?_
  refine lv_iconst (v := 0) hx hb d_Mod_many_1 (by decide) ?_
  refine va_put (D := D) (v := .int 0) (ty := .int) (C := R_Mod) (T := T_Mod) (N := 16) hx hb hts in_Mod t_Mod tk_Mod n_Mod hown hK hP hD hS 0 rfl rfl 2 (by decide) (hts _ q_f_Mod_198) (fun _ h9 => h9) rfl (by decide +kernel) rfl rfl (Nat.le_of_ble_eq_true rfl) d_Mod_many_2 (fun H locs hP hD hS => ?_)
  have hP : va_P D vwCl (mW ad ty cd (m_err' σ 0)) H := hP
  have hD : va_D A (mW ad ty cd (m_err' σ 0)) := hD
  obtain ⟨σ1, eσ1⟩ : ∃ z, z = (m_err' σ 0) := ⟨_, rfl⟩
  rw [← eσ1] at hP hD
  have h := h σ1 eσ1
  refine lv_aload_n hx hb d_Mod_many_5 rfl (lv_at hl 0 rfl) ?_
  refine va_get (D := D) (v := .int (m_many σ1)) (C := R_Mod) (T := T_Mod) (N := 16) hx hb hts in_Mod hown hK hP 0 rfl rfl 4 (by decide) (hts _ q_f_Mod_204) (fun _ h9 => h9) rfl d_Mod_many_6 ?_
  exact hret _ _ _ _ _ _ h hP hD hS d_Mod_many_9
