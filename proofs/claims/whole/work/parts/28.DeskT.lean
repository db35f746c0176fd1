set_option maxHeartbeats 4000000 in
set_option maxRecDepth 100000 in
theorem c_Desk_feed {l : Launch} {D : va_G} {ad : Nat → Nat} {ty : Nat → ClassId} {cd : Nat → Nat → Nat} {a1 : Int32} {a2 : Int32} {a3 : Int32} {a4 : Int32} {a5 : Int32} {σ : KS} {post : Int32 → KS → Prop} {px : String → KS → Prop} (htr : l.stackTraces = false) (h : wp_Desk_feed a1 a2 a3 a4 a5 σ post px) : g_MetT l y_Desk_feed (Cond.code y_Desk_feed b_Desk_feed 6 (some .int) :: gW) ({ frames := 6, cells := 1, slots := 6, locals := 90 }) D vwCl (gT ty) (kW ad ty) (cX cd) [.ref (ad 0), .int a1, .int a2, .int a3, .int a4, .int a5] σ post px := by
  refine g_startt (cc := b_Desk_feed) (maxL := 6) htr (by decide) rfl rfl (Nat.le_of_ble_eq_true rfl) (by decide) ?_
  intro p e s m args below meth c A Q R ls hR hx hb hts hown hml hA hS hP hD hK hCx hl hret hthr
  unfold wp_Desk_feed at h
  have hown : s.vm.findClass "TokenDesk" = some m.cls := hown
  have hl : lv_has ls 6 [(0, .ref (ad 0)), (1, .int a1), (2, .int a2), (3, .int a3), (4, .int a4), (5, .int a5)] := hl
  refine lv_aload_n hx hb d_Desk_feed_0 rfl (lv_at hl 0 rfl) ?_
  refine va_get (D := D) (v := .ref (ad 1)) (C := R_Desk) (T := T_Desk) (N := 4) hx hb hts in_Desk hown hK hP 0 rfl rfl 0 (by decide) (hts _ q_f_Desk_10) (fun _ h9 => h9) rfl d_Desk_feed_1 ?_
  refine g_callVi ⟨hx, hb, hml, hown, hts⟩ (c_Text_hasRoom h) (g_cwV 0 hts q_l_Desk_36 q_m_Text_hasRoom q_s_Text_hasRoom q_i_TokenDesk_Text q_k_Text_hasRoom (by decide +kernel) rfl rfl (by rw [hR]; exact ⟨Nat.le_of_ble_eq_true rfl, Nat.le_of_ble_eq_true rfl⟩)) (va_recv hK hP (q0 := 1) rfl rfl) cX_g hK hP hD hS hA hCx rfl hl.1 rfl (Nat.le_of_ble_eq_true rfl) d_Desk_feed_4 ⟨Nat.zero_le _, Nat.zero_le _⟩ (fun r1 σ2 H locs h hP hD hS => ?_)
  refine lv_if_ne hx hb d_Desk_feed_7 (tgt := 20) rfl (fun hc => ?_) (fun hc => ?_)
  · have h := h.1 hc
    refine lv_aload_n hx hb d_Desk_feed_20 rfl (lv_at hl 0 rfl) ?_
    refine va_get (D := D) (v := .ref (ad 1)) (C := R_Desk) (T := T_Desk) (N := 4) hx hb hts in_Desk hown hK hP 0 rfl rfl 0 (by decide) (hts _ q_f_Desk_10) (fun _ h9 => h9) rfl d_Desk_feed_21 ?_
    refine lv_iload_n hx hb d_Desk_feed_24 rfl (lv_at hl 1 rfl) ?_
    refine g_callVv ⟨hx, hb, hml, hown, hts⟩ (c_Text_addWord h) (g_cwV 1 hts q_l_Desk_47 q_m_Text_addWord q_s_Text_addWord q_i_TokenDesk_Text q_k_Text_addWord (by decide +kernel) rfl rfl (by rw [hR]; exact ⟨Nat.le_of_ble_eq_true rfl, Nat.le_of_ble_eq_true rfl⟩)) (va_recv hK hP (q0 := 1) rfl rfl) cX_g hK hP hD hS hA hCx rfl hl.1 rfl (Nat.le_of_ble_eq_true rfl) d_Desk_feed_25 ⟨Nat.zero_le _, Nat.zero_le _⟩ (fun σ3 H locs h hP hD hS => ?_)
    refine lv_aload_n hx hb d_Desk_feed_28 rfl (lv_at hl 0 rfl) ?_
    refine va_get (D := D) (v := .ref (ad 1)) (C := R_Desk) (T := T_Desk) (N := 4) hx hb hts in_Desk hown hK hP 0 rfl rfl 0 (by decide) (hts _ q_f_Desk_10) (fun _ h9 => h9) rfl d_Desk_feed_29 ?_
    refine lv_iload_n hx hb d_Desk_feed_32 rfl (lv_at hl 2 rfl) ?_
    refine g_callVv ⟨hx, hb, hml, hown, hts⟩ (c_Text_addWord h) (g_cwV 1 hts q_l_Desk_47 q_m_Text_addWord q_s_Text_addWord q_i_TokenDesk_Text q_k_Text_addWord (by decide +kernel) rfl rfl (by rw [hR]; exact ⟨Nat.le_of_ble_eq_true rfl, Nat.le_of_ble_eq_true rfl⟩)) (va_recv hK hP (q0 := 1) rfl rfl) cX_g hK hP hD hS hA hCx rfl hl.1 rfl (Nat.le_of_ble_eq_true rfl) d_Desk_feed_33 ⟨Nat.zero_le _, Nat.zero_le _⟩ (fun σ4 H locs h hP hD hS => ?_)
    refine lv_aload_n hx hb d_Desk_feed_36 rfl (lv_at hl 0 rfl) ?_
    refine va_get (D := D) (v := .ref (ad 1)) (C := R_Desk) (T := T_Desk) (N := 4) hx hb hts in_Desk hown hK hP 0 rfl rfl 0 (by decide) (hts _ q_f_Desk_10) (fun _ h9 => h9) rfl d_Desk_feed_37 ?_
    refine lv_iload_n hx hb d_Desk_feed_40 rfl (lv_at hl 3 rfl) ?_
    refine g_callVv ⟨hx, hb, hml, hown, hts⟩ (c_Text_addWord h) (g_cwV 1 hts q_l_Desk_47 q_m_Text_addWord q_s_Text_addWord q_i_TokenDesk_Text q_k_Text_addWord (by decide +kernel) rfl rfl (by rw [hR]; exact ⟨Nat.le_of_ble_eq_true rfl, Nat.le_of_ble_eq_true rfl⟩)) (va_recv hK hP (q0 := 1) rfl rfl) cX_g hK hP hD hS hA hCx rfl hl.1 rfl (Nat.le_of_ble_eq_true rfl) d_Desk_feed_41 ⟨Nat.zero_le _, Nat.zero_le _⟩ (fun σ5 H locs h hP hD hS => ?_)
    refine lv_aload_n hx hb d_Desk_feed_44 rfl (lv_at hl 0 rfl) ?_
    refine va_get (D := D) (v := .ref (ad 1)) (C := R_Desk) (T := T_Desk) (N := 4) hx hb hts in_Desk hown hK hP 0 rfl rfl 0 (by decide) (hts _ q_f_Desk_10) (fun _ h9 => h9) rfl d_Desk_feed_45 ?_
    refine lv_iload hx hb d_Desk_feed_48 (lv_at hl 4 rfl) ?_
    refine g_callVv ⟨hx, hb, hml, hown, hts⟩ (c_Text_addWord h) (g_cwV 1 hts q_l_Desk_47 q_m_Text_addWord q_s_Text_addWord q_i_TokenDesk_Text q_k_Text_addWord (by decide +kernel) rfl rfl (by rw [hR]; exact ⟨Nat.le_of_ble_eq_true rfl, Nat.le_of_ble_eq_true rfl⟩)) (va_recv hK hP (q0 := 1) rfl rfl) cX_g hK hP hD hS hA hCx rfl hl.1 rfl (Nat.le_of_ble_eq_true rfl) d_Desk_feed_50 ⟨Nat.zero_le _, Nat.zero_le _⟩ (fun σ6 H locs h hP hD hS => ?_)
    refine lv_aload_n hx hb d_Desk_feed_53 rfl (lv_at hl 0 rfl) ?_
    refine va_get (D := D) (v := .ref (ad 1)) (C := R_Desk) (T := T_Desk) (N := 4) hx hb hts in_Desk hown hK hP 0 rfl rfl 0 (by decide) (hts _ q_f_Desk_10) (fun _ h9 => h9) rfl d_Desk_feed_54 ?_
    refine lv_iload hx hb d_Desk_feed_57 (lv_at hl 5 rfl) ?_
    refine g_callVv ⟨hx, hb, hml, hown, hts⟩ (c_Text_addWord h) (g_cwV 1 hts q_l_Desk_47 q_m_Text_addWord q_s_Text_addWord q_i_TokenDesk_Text q_k_Text_addWord (by decide +kernel) rfl rfl (by rw [hR]; exact ⟨Nat.le_of_ble_eq_true rfl, Nat.le_of_ble_eq_true rfl⟩)) (va_recv hK hP (q0 := 1) rfl rfl) cX_g hK hP hD hS hA hCx rfl hl.1 rfl (Nat.le_of_ble_eq_true rfl) d_Desk_feed_59 ⟨Nat.zero_le _, Nat.zero_le _⟩ (fun σ7 H locs h hP hD hS => ?_)
    refine lv_aload_n hx hb d_Desk_feed_62 rfl (lv_at hl 0 rfl) ?_
    refine va_get (D := D) (v := .ref (ad 1)) (C := R_Desk) (T := T_Desk) (N := 4) hx hb hts in_Desk hown hK hP 0 rfl rfl 0 (by decide) (hts _ q_f_Desk_10) (fun _ h9 => h9) rfl d_Desk_feed_63 ?_
    refine g_callVi ⟨hx, hb, hml, hown, hts⟩ (c_Text_fedOctets h) (g_cwV 0 hts q_l_Desk_51 q_m_Text_fedOctets q_s_Text_fedOctets q_i_TokenDesk_Text q_k_Text_fedOctets (by decide +kernel) rfl rfl (by rw [hR]; exact ⟨Nat.le_of_ble_eq_true rfl, Nat.le_of_ble_eq_true rfl⟩)) (va_recv hK hP (q0 := 1) rfl rfl) cX_g hK hP hD hS hA hCx rfl hl.1 rfl (Nat.le_of_ble_eq_true rfl) d_Desk_feed_66 ⟨Nat.zero_le _, Nat.zero_le _⟩ (fun r8 σ9 H locs h hP hD hS => ?_)
    exact hret _ _ _ _ _ _ h hP hD hS d_Desk_feed_69
  · have h := h.2 hc
    exact hthr h hP hD hS hl.1 (by decide +kernel) (hts _ q_x_Desk_40) (hts _ q_i_java_lang_IndexOutOfBoundsException) (hCx.2.1 115 (by decide)) at_IOOBE gd_IOOBE d_Desk_feed_10 d_Desk_feed_13 d_Desk_feed_14 d_Desk_feed_16 d_Desk_feed_19
set_option maxHeartbeats 4000000 in
set_option maxRecDepth 100000 in
theorem c_Desk_scan {l : Launch} {D : va_G} {ad : Nat → Nat} {ty : Nat → ClassId} {cd : Nat → Nat → Nat} {a1 : Int32} {σ : KS} {post : Int32 → KS → Prop} {px : String → KS → Prop} (htr : l.stackTraces = false) (h : wp_Desk_scan a1 σ post px) : g_MetT l y_Desk_scan (Cond.code y_Desk_scan b_Desk_scan 2 (some .int) :: gW) ({ frames := 9, cells := 1, slots := 6, locals := 197 }) D vwCl (gT ty) (kW ad ty) (cX cd) [.ref (ad 0), .int a1] σ post px := by
  refine g_startt (cc := b_Desk_scan) (maxL := 2) htr (by decide) rfl rfl (Nat.le_of_ble_eq_true rfl) (by decide) ?_
  intro p e s m args below meth c A Q R ls hR hx hb hts hown hml hA hS hP hD hK hCx hl hret hthr
  unfold wp_Desk_scan at h
  have hown : s.vm.findClass "TokenDesk" = some m.cls := hown
  have hl : lv_has ls 2 [(0, .ref (ad 0)), (1, .int a1)] := hl
  have L22 : ∀ (σ : KS) (H : Heap) (locs : List Loc) (ls : Array Slot), L_Desk_scan_22 px post σ → va_P D vwCl (kW ad ty σ) H → va_D A (kW ad ty σ) → va_S A s.heap H locs → lv_has ls 2 [] → W p l e R s m args below meth c H locs 0 0 Q (F0 m 22 ls []) := by
    intro σ H locs ls h hP hD hS hl
    unfold L_Desk_scan_22 at h
    exact hthr h hP hD hS hl.1 (by decide +kernel) (hts _ q_x_Desk_40) (hts _ q_i_java_lang_IndexOutOfBoundsException) (hCx.2.1 116 (by decide)) at_IOOBE gd_IOOBE d_Desk_scan_22 d_Desk_scan_25 d_Desk_scan_26 d_Desk_scan_28 d_Desk_scan_31
  refine lv_iload_n hx hb d_Desk_scan_0 rfl (lv_at hl 1 rfl) ?_
  refine lv_if_lt hx hb d_Desk_scan_1 (tgt := 22) rfl (fun hc => ?_) (fun hc => ?_)
  · have h := h.1 hc
    exact L22 σ _ _ _ h hP hD hS (lv_sub hl [] rfl)
  · have h := h.2 hc
    refine lv_iload_n hx hb d_Desk_scan_4 rfl (lv_at hl 1 rfl) ?_
    refine lv_sipush (v := 4096) hx hb d_Desk_scan_5 (by decide) ?_
    refine lv_icmp_gt hx hb d_Desk_scan_8 (tgt := 22) rfl (fun hc => ?_) (fun hc => ?_)
    · have h := h.1 hc
      exact L22 σ _ _ _ h hP hD hS (lv_sub hl [] rfl)
    · have h := h.2 hc
      refine lv_iload_n hx hb d_Desk_scan_11 rfl (lv_at hl 1 rfl) ?_
      refine lv_aload_n hx hb d_Desk_scan_12 rfl (lv_at hl 0 rfl) ?_
      refine va_get (D := D) (v := .ref (ad 1)) (C := R_Desk) (T := T_Desk) (N := 4) hx hb hts in_Desk hown hK hP 0 rfl rfl 0 (by decide) (hts _ q_f_Desk_10) (fun _ h9 => h9) rfl d_Desk_scan_13 ?_
      refine g_callVi ⟨hx, hb, hml, hown, hts⟩ (c_Text_fedOctets h) (g_cwV 0 hts q_l_Desk_51 q_m_Text_fedOctets q_s_Text_fedOctets q_i_TokenDesk_Text q_k_Text_fedOctets (by decide +kernel) rfl rfl (by rw [hR]; exact ⟨Nat.le_of_ble_eq_true rfl, Nat.le_of_ble_eq_true rfl⟩)) (va_recv hK hP (q0 := 1) rfl rfl) cX_g hK hP hD hS hA hCx rfl hl.1 rfl (Nat.le_of_ble_eq_true rfl) d_Desk_scan_16 ⟨Nat.zero_le _, Nat.zero_le _⟩ (fun r1 σ2 H locs h hP hD hS => ?_)
      refine lv_icmp_le hx hb d_Desk_scan_19 (tgt := 32) rfl (fun hc => ?_) (fun hc => ?_)
      · have h := h.1 hc
        refine lv_aload_n hx hb d_Desk_scan_32 rfl (lv_at hl 0 rfl) ?_
        refine va_get (D := D) (v := .ref (ad 3)) (C := R_Desk) (T := T_Desk) (N := 4) hx hb hts in_Desk hown hK hP 0 rfl rfl 1 (by decide) (hts _ q_f_Desk_19) (fun _ h9 => h9) rfl d_Desk_scan_33 ?_
        refine g_callVv ⟨hx, hb, hml, hown, hts⟩ (c_Tokens_clear h) (g_cwV 0 hts q_l_Desk_57 q_m_Tokens_clear q_s_Tokens_clear q_i_TokenDesk_Tokens q_k_Tokens_clear (by decide +kernel) rfl rfl (by rw [hR]; exact ⟨Nat.le_of_ble_eq_true rfl, Nat.le_of_ble_eq_true rfl⟩)) (va_recv hK hP (q0 := 3) rfl rfl) cX_g hK hP hD hS hA hCx rfl hl.1 rfl (Nat.le_of_ble_eq_true rfl) d_Desk_scan_36 ⟨Nat.zero_le _, Nat.zero_le _⟩ (fun σ3 H locs h hP hD hS => ?_)
        refine lv_aload_n hx hb d_Desk_scan_39 rfl (lv_at hl 0 rfl) ?_
        refine va_get (D := D) (v := .ref (ad 1)) (C := R_Desk) (T := T_Desk) (N := 4) hx hb hts in_Desk hown hK hP 0 rfl rfl 0 (by decide) (hts _ q_f_Desk_10) (fun _ h9 => h9) rfl d_Desk_scan_40 ?_
        refine lv_iload_n hx hb d_Desk_scan_43 rfl (lv_at hl 1 rfl) ?_
        refine g_callVv ⟨hx, hb, hml, hown, hts⟩ (c_Text_cutTo h) (g_cwV 1 hts q_l_Desk_60 q_m_Text_cutTo q_s_Text_cutTo q_i_TokenDesk_Text q_k_Text_cutTo (by decide +kernel) rfl rfl (by rw [hR]; exact ⟨Nat.le_of_ble_eq_true rfl, Nat.le_of_ble_eq_true rfl⟩)) (va_recv hK hP (q0 := 1) rfl rfl) cX_g hK hP hD hS hA hCx rfl hl.1 rfl (Nat.le_of_ble_eq_true rfl) d_Desk_scan_44 ⟨Nat.zero_le _, Nat.zero_le _⟩ (fun σ4 H locs h hP hD hS => ?_)
        refine lv_aload_n hx hb d_Desk_scan_47 rfl (lv_at hl 0 rfl) ?_
        refine lv_aload_n hx hb d_Desk_scan_48 rfl (lv_at hl 0 rfl) ?_
        refine va_get (D := D) (v := .ref (ad 5)) (C := R_Desk) (T := T_Desk) (N := 4) hx hb hts in_Desk hown hK hP 0 rfl rfl 2 (by decide) (hts _ q_f_Desk_28) (fun _ h9 => h9) rfl d_Desk_scan_49 ?_
        refine g_callVi ⟨hx, hb, hml, hown, hts⟩ (c_Reader_readText h) (g_cwV 0 hts q_l_Desk_63 q_m_Reader_readText q_s_Reader_readText q_i_TokenDesk_Reader q_k_Reader_readText (by decide +kernel) rfl rfl (by rw [hR]; exact ⟨Nat.le_of_ble_eq_true rfl, Nat.le_of_ble_eq_true rfl⟩)) (va_recv hK hP (q0 := 5) rfl rfl) cX_g hK hP hD hS hA hCx rfl hl.1 rfl (Nat.le_of_ble_eq_true rfl) d_Desk_scan_52 ⟨Nat.zero_le _, Nat.zero_le _⟩ (fun r5 σ6 H locs h hP hD hS => ?_)
        refine va_put (D := D) (v := .int r5) (ty := .int) (C := R_Desk) (T := T_Desk) (N := 4) hx hb hts in_Desk t_Desk tk_Desk n_Desk hown hK hP hD hS 0 rfl rfl 3 (by decide) (hts _ q_f_Desk_32) (fun _ h9 => h9) rfl (by decide +kernel) rfl rfl (Nat.le_of_ble_eq_true rfl) d_Desk_scan_55 (fun H locs hP hD hS => ?_)
        have hP : va_P D vwCl (kW ad ty (k_wr' σ6 r5)) H := hP
        have hD : va_D A (kW ad ty (k_wr' σ6 r5)) := hD
        obtain ⟨σ7, eσ7⟩ : ∃ z, z = (k_wr' σ6 r5) := ⟨_, rfl⟩
        rw [← eσ7] at hP hD
        have h := h σ7 eσ7
        refine lv_aload_n hx hb d_Desk_scan_58 rfl (lv_at hl 0 rfl) ?_
        refine va_get (D := D) (v := .ref (ad 1)) (C := R_Desk) (T := T_Desk) (N := 4) hx hb hts in_Desk hown hK hP 0 rfl rfl 0 (by decide) (hts _ q_f_Desk_10) (fun _ h9 => h9) rfl d_Desk_scan_59 ?_
        refine g_callVv ⟨hx, hb, hml, hown, hts⟩ (c_Text_clear h) (g_cwV 0 hts q_l_Desk_66 q_m_Text_clear q_s_Text_clear q_i_TokenDesk_Text q_k_Text_clear (by decide +kernel) rfl rfl (by rw [hR]; exact ⟨Nat.le_of_ble_eq_true rfl, Nat.le_of_ble_eq_true rfl⟩)) (va_recv hK hP (q0 := 1) rfl rfl) cX_g hK hP hD hS hA hCx rfl hl.1 rfl (Nat.le_of_ble_eq_true rfl) d_Desk_scan_62 ⟨Nat.zero_le _, Nat.zero_le _⟩ (fun σ8 H locs h hP hD hS => ?_)
        refine lv_aload_n hx hb d_Desk_scan_65 rfl (lv_at hl 0 rfl) ?_
        refine va_get (D := D) (v := .int (k_wr σ8)) (C := R_Desk) (T := T_Desk) (N := 4) hx hb hts in_Desk hown hK hP 0 rfl rfl 3 (by decide) (hts _ q_f_Desk_32) (fun _ h9 => h9) rfl d_Desk_scan_66 ?_
        refine lv_iconst (v := (-1)) hx hb d_Desk_scan_69 (by decide) ?_
        refine lv_icmp_eq hx hb d_Desk_scan_70 (tgt := 90) rfl (fun hc => ?_) (fun hc => ?_)
        · have h := h.1 hc
          refine lv_aload_n hx hb d_Desk_scan_90 rfl (lv_at hl 0 rfl) ?_
          refine va_get (D := D) (v := .ref (ad 3)) (C := R_Desk) (T := T_Desk) (N := 4) hx hb hts in_Desk hown hK hP 0 rfl rfl 1 (by decide) (hts _ q_f_Desk_19) (fun _ h9 => h9) rfl d_Desk_scan_91 ?_
          refine g_callVi ⟨hx, hb, hml, hown, hts⟩ (c_Tokens_size h) (g_cwV 0 hts q_l_Desk_72 q_m_Tokens_size q_s_Tokens_size q_i_TokenDesk_Tokens q_k_Tokens_size (by decide +kernel) rfl rfl (by rw [hR]; exact ⟨Nat.le_of_ble_eq_true rfl, Nat.le_of_ble_eq_true rfl⟩)) (va_recv hK hP (q0 := 3) rfl rfl) cX_g hK hP hD hS hA hCx rfl hl.1 rfl (Nat.le_of_ble_eq_true rfl) d_Desk_scan_94 ⟨Nat.zero_le _, Nat.zero_le _⟩ (fun r9 σ10 H locs h hP hD hS => ?_)
          exact hret _ _ _ _ _ _ h hP hD hS d_Desk_scan_97
        · have h := h.2 hc
          refine lv_aload_n hx hb d_Desk_scan_73 rfl (lv_at hl 0 rfl) ?_
          refine va_get (D := D) (v := .ref (ad 3)) (C := R_Desk) (T := T_Desk) (N := 4) hx hb hts in_Desk hown hK hP 0 rfl rfl 1 (by decide) (hts _ q_f_Desk_19) (fun _ h9 => h9) rfl d_Desk_scan_74 ?_
          refine g_callVv ⟨hx, hb, hml, hown, hts⟩ (c_Tokens_clear h) (g_cwV 0 hts q_l_Desk_57 q_m_Tokens_clear q_s_Tokens_clear q_i_TokenDesk_Tokens q_k_Tokens_clear (by decide +kernel) rfl rfl (by rw [hR]; exact ⟨Nat.le_of_ble_eq_true rfl, Nat.le_of_ble_eq_true rfl⟩)) (va_recv hK hP (q0 := 3) rfl rfl) cX_g hK hP hD hS hA hCx rfl hl.1 rfl (Nat.le_of_ble_eq_true rfl) d_Desk_scan_77 ⟨Nat.zero_le _, Nat.zero_le _⟩ (fun σ11 H locs h hP hD hS => ?_)
          exact hthr h hP hD hS hl.1 (by decide +kernel) (hts _ q_x_Desk_67) (hts _ q_i_java_lang_IllegalArgumentException) (hCx.2.1 117 (by decide)) at_IAE gd_IAE d_Desk_scan_80 d_Desk_scan_83 d_Desk_scan_84 d_Desk_scan_86 d_Desk_scan_89
      · have h := h.2 hc
        exact L22 σ2 _ _ _ h hP hD hS (lv_sub hl [] rfl)
set_option maxHeartbeats 4000000 in
set_option maxRecDepth 100000 in
theorem c_Desk_token {l : Launch} {D : va_G} {ad : Nat → Nat} {ty : Nat → ClassId} {cd : Nat → Nat → Nat} {a1 : Int32} {a2 : Int32} {σ : KS} {post : Int32 → KS → Prop} {px : String → KS → Prop} (htr : l.stackTraces = false) (h : wp_Desk_token a1 a2 σ post px) : g_MetT l y_Desk_token (Cond.code y_Desk_token b_Desk_token 3 (some .int) :: gW) ({ frames := 6, cells := 1, slots := 6, locals := 90 }) D vwCl (gT ty) (kW ad ty) (cX cd) [.ref (ad 0), .int a1, .int a2] σ post px := by
  refine g_startt (cc := b_Desk_token) (maxL := 3) htr (by decide) rfl rfl (Nat.le_of_ble_eq_true rfl) (by decide) ?_
  intro p e s m args below meth c A Q R ls hR hx hb hts hown hml hA hS hP hD hK hCx hl hret hthr
  unfold wp_Desk_token at h
  have hown : s.vm.findClass "TokenDesk" = some m.cls := hown
  have hl : lv_has ls 3 [(0, .ref (ad 0)), (1, .int a1), (2, .int a2)] := hl
  have L34 : ∀ (σ : KS) (H : Heap) (locs : List Loc) (ls : Array Slot), L_Desk_token_34 px post σ → va_P D vwCl (kW ad ty σ) H → va_D A (kW ad ty σ) → va_S A s.heap H locs → lv_has ls 3 [] → W p l e R s m args below meth c H locs 0 0 Q (F0 m 34 ls []) := by
    intro σ H locs ls h hP hD hS hl
    unfold L_Desk_token_34 at h
    exact hthr h hP hD hS hl.1 (by decide +kernel) (hts _ q_x_Desk_40) (hts _ q_i_java_lang_IndexOutOfBoundsException) (hCx.2.1 119 (by decide)) at_IOOBE gd_IOOBE d_Desk_token_34 d_Desk_token_37 d_Desk_token_38 d_Desk_token_40 d_Desk_token_43
  have L9 : ∀ (σ : KS) (H : Heap) (locs : List Loc) (ls : Array Slot), L_Desk_token_9 px post σ → va_P D vwCl (kW ad ty σ) H → va_D A (kW ad ty σ) → va_S A s.heap H locs → lv_has ls 3 [] → W p l e R s m args below meth c H locs 0 0 Q (F0 m 9 ls []) := by
    intro σ H locs ls h hP hD hS hl
    unfold L_Desk_token_9 at h
    exact hthr h hP hD hS hl.1 (by decide +kernel) (hts _ q_x_Desk_67) (hts _ q_i_java_lang_IllegalArgumentException) (hCx.2.1 118 (by decide)) at_IAE gd_IAE d_Desk_token_9 d_Desk_token_12 d_Desk_token_13 d_Desk_token_15 d_Desk_token_18
  refine lv_iload_n hx hb d_Desk_token_0 rfl (lv_at hl 2 rfl) ?_
  refine lv_if_lt hx hb d_Desk_token_1 (tgt := 9) rfl (fun hc => ?_) (fun hc => ?_)
  · have h := h.1 hc
    exact L9 σ _ _ _ h hP hD hS (lv_sub hl [] rfl)
  · have h := h.2 hc
    refine lv_iload_n hx hb d_Desk_token_4 rfl (lv_at hl 2 rfl) ?_
    refine lv_iconst (v := 4) hx hb d_Desk_token_5 (by decide) ?_
    refine lv_icmp_lt hx hb d_Desk_token_6 (tgt := 19) rfl (fun hc => ?_) (fun hc => ?_)
    · have h := h.1 hc
      refine lv_iload_n hx hb d_Desk_token_19 rfl (lv_at hl 1 rfl) ?_
      refine lv_if_lt hx hb d_Desk_token_20 (tgt := 34) rfl (fun hc => ?_) (fun hc => ?_)
      · have h := h.1 hc
        exact L34 σ _ _ _ h hP hD hS (lv_sub hl [] rfl)
      · have h := h.2 hc
        refine lv_iload_n hx hb d_Desk_token_23 rfl (lv_at hl 1 rfl) ?_
        refine lv_aload_n hx hb d_Desk_token_24 rfl (lv_at hl 0 rfl) ?_
        refine va_get (D := D) (v := .ref (ad 3)) (C := R_Desk) (T := T_Desk) (N := 4) hx hb hts in_Desk hown hK hP 0 rfl rfl 1 (by decide) (hts _ q_f_Desk_19) (fun _ h9 => h9) rfl d_Desk_token_25 ?_
        refine g_callVi ⟨hx, hb, hml, hown, hts⟩ (c_Tokens_size h) (g_cwV 0 hts q_l_Desk_72 q_m_Tokens_size q_s_Tokens_size q_i_TokenDesk_Tokens q_k_Tokens_size (by decide +kernel) rfl rfl (by rw [hR]; exact ⟨Nat.le_of_ble_eq_true rfl, Nat.le_of_ble_eq_true rfl⟩)) (va_recv hK hP (q0 := 3) rfl rfl) cX_g hK hP hD hS hA hCx rfl hl.1 rfl (Nat.le_of_ble_eq_true rfl) d_Desk_token_28 ⟨Nat.zero_le _, Nat.zero_le _⟩ (fun r1 σ2 H locs h hP hD hS => ?_)
        refine lv_icmp_lt hx hb d_Desk_token_31 (tgt := 44) rfl (fun hc => ?_) (fun hc => ?_)
        · have h := h.1 hc
          refine lv_aload_n hx hb d_Desk_token_44 rfl (lv_at hl 0 rfl) ?_
          refine va_get (D := D) (v := .ref (ad 3)) (C := R_Desk) (T := T_Desk) (N := 4) hx hb hts in_Desk hown hK hP 0 rfl rfl 1 (by decide) (hts _ q_f_Desk_19) (fun _ h9 => h9) rfl d_Desk_token_45 ?_
          refine lv_iload_n hx hb d_Desk_token_48 rfl (lv_at hl 1 rfl) ?_
          refine lv_iload_n hx hb d_Desk_token_49 rfl (lv_at hl 2 rfl) ?_
          refine g_callVi ⟨hx, hb, hml, hown, hts⟩ (c_Tokens_part h) (g_cwV 2 hts q_l_Desk_79 q_m_Tokens_part q_s_Tokens_part q_i_TokenDesk_Tokens q_k_Tokens_part (by decide +kernel) rfl rfl (by rw [hR]; exact ⟨Nat.le_of_ble_eq_true rfl, Nat.le_of_ble_eq_true rfl⟩)) (va_recv hK hP (q0 := 3) rfl rfl) cX_g hK hP hD hS hA hCx rfl hl.1 rfl (Nat.le_of_ble_eq_true rfl) d_Desk_token_50 ⟨Nat.zero_le _, Nat.zero_le _⟩ (fun r3 σ4 H locs h hP hD hS => ?_)
          exact hret _ _ _ _ _ _ h hP hD hS d_Desk_token_53
        · have h := h.2 hc
          exact L34 σ2 _ _ _ h hP hD hS (lv_sub hl [] rfl)
    · have h := h.2 hc
      exact L9 σ _ _ _ h hP hD hS (lv_sub hl [] rfl)
