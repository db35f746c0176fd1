set_option maxHeartbeats 4000000 in
set_option maxRecDepth 100000 in
theorem c_Reader_beginLine {l : Launch} {D : va_G} {ad : Nat → Nat} {ty : Nat → ClassId} {cd : Nat → Nat → Nat} {a1 : Int32} {σ : KS} {post : KS → Prop} (h : wp_Reader_beginLine a1 σ post) : g_Metv l y_Reader_beginLine (Cond.code y_Reader_beginLine b_Reader_beginLine 2 none :: gW) ({ frames := 2, cells := 0, slots := 0, locals := 43 }) D vwCl (gT ty) (kW ad ty) (cX cd) [.ref (ad 5), .int a1] σ post := by
  refine g_startv (cc := b_Reader_beginLine) (maxL := 2) (by decide) rfl (Nat.le_of_ble_eq_true rfl) ?_
  intro p e s m args below meth c A Q R ls hR hx hb hts hown hml hA hS hP hD hK hCx hl hret
  unfold wp_Reader_beginLine at h
  have hown : s.vm.findClass "TokenDesk$Reader" = some m.cls := hown
  have hl : lv_has ls 2 [(0, .ref (ad 5)), (1, .int a1)] := hl
  refine lv_aload_n hx hb d_Reader_beginLine_0 rfl (lv_at hl 0 rfl) ?_
  refine lv_iload_n hx hb d_Reader_beginLine_1 rfl (lv_at hl 1 rfl) ?_
  refine va_put (D := D) (v := .int a1) (ty := .int) (C := R_Reader) (T := T_Reader) (N := 10) hx hb hts in_Reader t_Reader tk_Reader n_Reader hown hK hP hD hS 5 rfl rfl 5 (by decide) (hts _ q_f_Reader_44) (fun _ h9 => h9) rfl (by decide +kernel) rfl rfl (Nat.le_of_ble_eq_true rfl) d_Reader_beginLine_2 (fun H locs hP hD hS => ?_)
  have hP : va_P D vwCl (kW ad ty (k_at' σ a1)) H := hP
  have hD : va_D A (kW ad ty (k_at' σ a1)) := hD
  obtain ⟨σ1, eσ1⟩ : ∃ z, z = (k_at' σ a1) := ⟨_, rfl⟩
  rw [← eσ1] at hP hD
  have h := h σ1 eσ1
  refine lv_aload_n hx hb d_Reader_beginLine_5 rfl (lv_at hl 0 rfl) ?_
  refine lv_iconst (v := 0) hx hb d_Reader_beginLine_6 (by decide) ?_
  refine va_put (D := D) (v := .int 0) (ty := .int) (C := R_Reader) (T := T_Reader) (N := 10) hx hb hts in_Reader t_Reader tk_Reader n_Reader hown hK hP hD hS 5 rfl rfl 7 (by decide) (hts _ q_f_Reader_79) (fun _ h9 => h9) rfl (by decide +kernel) rfl rfl (Nat.le_of_ble_eq_true rfl) d_Reader_beginLine_7 (fun H locs hP hD hS => ?_)
  have hP : va_P D vwCl (kW ad ty (k_open' σ1 0)) H := hP
  have hD : va_D A (kW ad ty (k_open' σ1 0)) := hD
  obtain ⟨σ2, eσ2⟩ : ∃ z, z = (k_open' σ1 0) := ⟨_, rfl⟩
  rw [← eσ2] at hP hD
  have h := h σ2 eσ2
  refine lv_aload_n hx hb d_Reader_beginLine_10 rfl (lv_at hl 0 rfl) ?_
  refine lv_aload_n hx hb d_Reader_beginLine_11 rfl (lv_at hl 0 rfl) ?_
  refine va_get (D := D) (v := .ref (ad 1)) (C := R_Reader) (T := T_Reader) (N := 10) hx hb hts in_Reader hown hK hP 5 rfl rfl 0 (by decide) (hts _ q_f_Reader_15) (fun _ h9 => h9) rfl d_Reader_beginLine_12 ?_
  refine lv_iload_n hx hb d_Reader_beginLine_15 rfl (lv_at hl 1 rfl) ?_
  refine g_callVi ⟨hx, hb, hml, hown, hts⟩ (c_Text_blanksFrom h) (g_cwV 1 hts q_l_Reader_82 q_m_Text_blanksFrom q_s_Text_blanksFrom q_i_TokenDesk_Text q_k_Text_blanksFrom (by decide +kernel) rfl rfl (by rw [hR]; exact ⟨Nat.le_of_ble_eq_true rfl, Nat.le_of_ble_eq_true rfl⟩)) (va_recv hK hP (q0 := 1) rfl rfl) cX_g hK hP hD hS hA hCx rfl hl.1 rfl (Nat.le_of_ble_eq_true rfl) d_Reader_beginLine_16 ⟨Nat.zero_le _, Nat.zero_le _⟩ (fun r3 σ4 H locs h hP hD hS => ?_)
  refine va_put (D := D) (v := .int r3) (ty := .int) (C := R_Reader) (T := T_Reader) (N := 10) hx hb hts in_Reader t_Reader tk_Reader n_Reader hown hK hP hD hS 5 rfl rfl 8 (by decide) (hts _ q_f_Reader_85) (fun _ h9 => h9) rfl (by decide +kernel) rfl rfl (Nat.le_of_ble_eq_true rfl) d_Reader_beginLine_19 (fun H locs hP hD hS => ?_)
  have hP : va_P D vwCl (kW ad ty (k_lin' σ4 r3)) H := hP
  have hD : va_D A (kW ad ty (k_lin' σ4 r3)) := hD
  obtain ⟨σ5, eσ5⟩ : ∃ z, z = (k_lin' σ4 r3) := ⟨_, rfl⟩
  rw [← eσ5] at hP hD
  have h := h σ5 eσ5
  refine lv_aload_n hx hb d_Reader_beginLine_22 rfl (lv_at hl 0 rfl) ?_
  refine lv_iconst (v := 0) hx hb d_Reader_beginLine_23 (by decide) ?_
  refine va_put (D := D) (v := .int 0) (ty := .boolean) (C := R_Reader) (T := T_Reader) (N := 10) hx hb hts in_Reader t_Reader tk_Reader n_Reader hown hK hP hD hS 5 rfl rfl 9 (by decide) (hts _ q_f_Reader_88) (fun _ h9 => h9) rfl (by decide +kernel) rfl rfl (Nat.le_of_ble_eq_true rfl) d_Reader_beginLine_24 (fun H locs hP hD hS => ?_)
  have hP : va_P D vwCl (kW ad ty (k_lht' σ5 0)) H := hP
  have hD : va_D A (kW ad ty (k_lht' σ5 0)) := hD
  obtain ⟨σ6, eσ6⟩ : ∃ z, z = (k_lht' σ5 0) := ⟨_, rfl⟩
  rw [← eσ6] at hP hD
  have h := h σ6 eσ6
  exact hret _ _ _ _ _ h hP hD hS d_Reader_beginLine_27
set_option maxHeartbeats 4000000 in
set_option maxRecDepth 100000 in
theorem c_Reader_begin {l : Launch} {D : va_G} {ad : Nat → Nat} {ty : Nat → ClassId} {cd : Nat → Nat → Nat} {σ : KS} {post : KS → Prop} (h : wp_Reader_begin σ post) : g_Metv l y_Reader_begin (Cond.code y_Reader_begin b_Reader_begin 1 none :: gW) ({ frames := 3, cells := 0, slots := 0, locals := 64 }) D vwCl (gT ty) (kW ad ty) (cX cd) [.ref (ad 5)] σ post := by
  refine g_startv (cc := b_Reader_begin) (maxL := 1) (by decide) rfl (Nat.le_of_ble_eq_true rfl) ?_
  intro p e s m args below meth c A Q R ls hR hx hb hts hown hml hA hS hP hD hK hCx hl hret
  unfold wp_Reader_begin at h
  have hown : s.vm.findClass "TokenDesk$Reader" = some m.cls := hown
  have hl : lv_has ls 1 [(0, .ref (ad 5))] := hl
  refine lv_aload_n hx hb d_Reader_begin_0 rfl (lv_at hl 0 rfl) ?_
  refine lv_iconst (v := 0) hx hb d_Reader_begin_1 (by decide) ?_
  refine va_put (D := D) (v := .int 0) (ty := .int) (C := R_Reader) (T := T_Reader) (N := 10) hx hb hts in_Reader t_Reader tk_Reader n_Reader hown hK hP hD hS 5 rfl rfl 4 (by decide) (hts _ q_f_Reader_72) (fun _ h9 => h9) rfl (by decide +kernel) rfl rfl (Nat.le_of_ble_eq_true rfl) d_Reader_begin_2 (fun H locs hP hD hS => ?_)
  have hP : va_P D vwCl (kW ad ty (k_deep' σ 0)) H := hP
  have hD : va_D A (kW ad ty (k_deep' σ 0)) := hD
  obtain ⟨σ1, eσ1⟩ : ∃ z, z = (k_deep' σ 0) := ⟨_, rfl⟩
  rw [← eσ1] at hP hD
  have h := h σ1 eσ1
  refine lv_aload_n hx hb d_Reader_begin_5 rfl (lv_at hl 0 rfl) ?_
  refine va_get (D := D) (v := .ref (ad 6)) (C := R_Reader) (T := T_Reader) (N := 10) hx hb hts in_Reader hown hK hP 5 rfl rfl 3 (by decide) (hts _ q_f_Reader_11) (fun _ h9 => h9) rfl d_Reader_begin_6 ?_
  refine lv_iconst (v := 0) hx hb d_Reader_begin_9 (by decide) ?_
  refine lv_iconst (v := 0) hx hb d_Reader_begin_10 (by decide) ?_
  refine va_iast (D := D) hx hb hK hP hD hS 6 0 rfl rfl h.1 d_Reader_begin_11 (fun H locs hP hD hS => ?_)
  have h := h.2
  have hP : va_P D vwCl (kW ad ty (k_lv' σ1 (upd (k_lv σ1) (0 : Int32).toNatClampNeg 0))) H := hP
  have hD : va_D A (kW ad ty (k_lv' σ1 (upd (k_lv σ1) (0 : Int32).toNatClampNeg 0))) := hD
  obtain ⟨σ2, eσ2⟩ : ∃ z, z = (k_lv' σ1 (upd (k_lv σ1) (0 : Int32).toNatClampNeg 0)) := ⟨_, rfl⟩
  rw [← eσ2] at hP hD
  have h := h σ2 eσ2
  refine lv_aload_n hx hb d_Reader_begin_12 rfl (lv_at hl 0 rfl) ?_
  refine lv_iconst (v := 1) hx hb d_Reader_begin_13 (by decide) ?_
  refine va_put (D := D) (v := .int 1) (ty := .int) (C := R_Reader) (T := T_Reader) (N := 10) hx hb hts in_Reader t_Reader tk_Reader n_Reader hown hK hP hD hS 5 rfl rfl 6 (by decide) (hts _ q_f_Reader_62) (fun _ h9 => h9) rfl (by decide +kernel) rfl rfl (Nat.le_of_ble_eq_true rfl) d_Reader_begin_14 (fun H locs hP hD hS => ?_)
  have hP : va_P D vwCl (kW ad ty (k_line' σ2 1)) H := hP
  have hD : va_D A (kW ad ty (k_line' σ2 1)) := hD
  obtain ⟨σ3, eσ3⟩ : ∃ z, z = (k_line' σ2 1) := ⟨_, rfl⟩
  rw [← eσ3] at hP hD
  have h := h σ3 eσ3
  refine lv_aload_n hx hb d_Reader_begin_17 rfl (lv_at hl 0 rfl) ?_
  refine lv_iconst (v := 0) hx hb d_Reader_begin_18 (by decide) ?_
  refine g_callVv ⟨hx, hb, hml, hown, hts⟩ (c_Reader_beginLine h) (g_cwV 1 hts q_l_Reader_75 q_m_Reader_beginLine q_s_Reader_beginLine q_i_TokenDesk_Reader q_k_Reader_beginLine (by decide +kernel) rfl rfl (by rw [hR]; exact ⟨Nat.le_of_ble_eq_true rfl, Nat.le_of_ble_eq_true rfl⟩)) (va_recv hK hP (q0 := 5) rfl rfl) cX_g hK hP hD hS hA hCx rfl hl.1 rfl (Nat.le_of_ble_eq_true rfl) d_Reader_begin_19 ⟨Nat.zero_le _, Nat.zero_le _⟩ (fun σ4 H locs h hP hD hS => ?_)
  exact hret _ _ _ _ _ h hP hD hS d_Reader_begin_22
set_option maxHeartbeats 4000000 in
set_option maxRecDepth 100000 in
theorem c_Reader_comeOutTo {l : Launch} {D : va_G} {ad : Nat → Nat} {ty : Nat → ClassId} {cd : Nat → Nat → Nat} {a1 : Int32} {σ : KS} {post : KS → Prop} (h : wp_Reader_comeOutTo a1 σ post) : g_Metv l y_Reader_comeOutTo (Cond.code y_Reader_comeOutTo b_Reader_comeOutTo 2 none :: gW) ({ frames := 1, cells := 0, slots := 0, locals := 26 }) D vwCl (gT ty) (kW ad ty) (cX cd) [.ref (ad 5), .int a1] σ post := by
  refine g_startv (cc := b_Reader_comeOutTo) (maxL := 2) (by decide) rfl (Nat.le_of_ble_eq_true rfl) ?_
  intro p e s m args below meth c A Q R ls hR hx hb hts hown hml hA hS hP hD hK hCx hl hret
  unfold wp_Reader_comeOutTo at h
  have hown : s.vm.findClass "TokenDesk$Reader" = some m.cls := hown
  have hl : lv_has ls 2 [(0, .ref (ad 5)), (1, .int a1)] := hl
  have L0 : ∀ n : Nat, ∀ (x1 : Int32) (σ : KS) (H : Heap) (locs : List Loc) (ls : Array Slot), L_Reader_comeOutTo_0 post n x1 σ → va_P D vwCl (kW ad ty σ) H → va_D A (kW ad ty σ) → va_S A s.heap H locs → lv_has ls 2 [(0, .ref (ad 5)), (1, .int x1)] → W p l e R s m args below meth c H locs 0 0 Q (F0 m 0 ls []) := by
    intro n0
    induction n0 with
    | zero => intro x1 σ H locs ls h hP hD hS hl; exact h.elim
    | succ n0 ih0 =>
      intro x1 σ H locs ls h hP hD hS hl
      unfold L_Reader_comeOutTo_0 at h
      refine lv_aload_n hx hb d_Reader_comeOutTo_0 rfl (lv_at hl 0 rfl) ?_
      refine va_get (D := D) (v := .int (k_deep σ)) (C := R_Reader) (T := T_Reader) (N := 10) hx hb hts in_Reader hown hK hP 5 rfl rfl 4 (by decide) (hts _ q_f_Reader_72) (fun _ h9 => h9) rfl d_Reader_comeOutTo_1 ?_
      refine lv_if_le hx hb d_Reader_comeOutTo_4 (tgt := 53) rfl (fun hc => ?_) (fun hc => ?_)
      · have h := h.1 hc
        exact hret _ _ _ _ _ h hP hD hS d_Reader_comeOutTo_53
      · have h := h.2 hc
        refine lv_aload_n hx hb d_Reader_comeOutTo_7 rfl (lv_at hl 0 rfl) ?_
        refine va_get (D := D) (v := .ref (ad 6)) (C := R_Reader) (T := T_Reader) (N := 10) hx hb hts in_Reader hown hK hP 5 rfl rfl 3 (by decide) (hts _ q_f_Reader_11) (fun _ h9 => h9) rfl d_Reader_comeOutTo_8 ?_
        refine lv_aload_n hx hb d_Reader_comeOutTo_11 rfl (lv_at hl 0 rfl) ?_
        refine va_get (D := D) (v := .int (k_deep σ)) (C := R_Reader) (T := T_Reader) (N := 10) hx hb hts in_Reader hown hK hP 5 rfl rfl 4 (by decide) (hts _ q_f_Reader_72) (fun _ h9 => h9) rfl d_Reader_comeOutTo_12 ?_
        refine va_iald (D := D) hx hb hK hP 6 0 rfl rfl h.1 d_Reader_comeOutTo_15 ?_
        have h := h.2
        refine lv_iload_n hx hb d_Reader_comeOutTo_16 rfl (lv_at hl 1 rfl) ?_
        refine lv_icmp_le hx hb d_Reader_comeOutTo_17 (tgt := 53) rfl (fun hc => ?_) (fun hc => ?_)
        · have h := h.1 hc
          exact hret _ _ _ _ _ h hP hD hS d_Reader_comeOutTo_53
        · have h := h.2 hc
          refine lv_aload_n hx hb d_Reader_comeOutTo_20 rfl (lv_at hl 0 rfl) ?_
          refine lv_dup hx hb d_Reader_comeOutTo_21 rfl ?_
          refine va_get (D := D) (v := .int (k_deep σ)) (C := R_Reader) (T := T_Reader) (N := 10) hx hb hts in_Reader hown hK hP 5 rfl rfl 4 (by decide) (hts _ q_f_Reader_72) (fun _ h9 => h9) rfl d_Reader_comeOutTo_22 ?_
          refine lv_iconst (v := 1) hx hb d_Reader_comeOutTo_25 (by decide) ?_
          refine lv_isub hx hb d_Reader_comeOutTo_26 ?_
          refine va_put (D := D) (v := .int ((k_deep σ) - 1)) (ty := .int) (C := R_Reader) (T := T_Reader) (N := 10) hx hb hts in_Reader t_Reader tk_Reader n_Reader hown hK hP hD hS 5 rfl rfl 4 (by decide) (hts _ q_f_Reader_72) (fun _ h9 => h9) rfl (by decide +kernel) rfl rfl (Nat.le_of_ble_eq_true rfl) d_Reader_comeOutTo_27 (fun H locs hP hD hS => ?_)
          have hP : va_P D vwCl (kW ad ty (k_deep' σ ((k_deep σ) - 1))) H := hP
          have hD : va_D A (kW ad ty (k_deep' σ ((k_deep σ) - 1))) := hD
          obtain ⟨σ1, eσ1⟩ : ∃ z, z = (k_deep' σ ((k_deep σ) - 1)) := ⟨_, rfl⟩
          rw [← eσ1] at hP hD
          have h := h σ1 eσ1
          refine lv_aload_n hx hb d_Reader_comeOutTo_30 rfl (lv_at hl 0 rfl) ?_
          refine va_get (D := D) (v := .ref (ad 3)) (C := R_Reader) (T := T_Reader) (N := 10) hx hb hts in_Reader hown hK hP 5 rfl rfl 1 (by decide) (hts _ q_f_Reader_19) (fun _ h9 => h9) rfl d_Reader_comeOutTo_31 ?_
          refine lv_iconst (v := 3) hx hb d_Reader_comeOutTo_34 (by decide) ?_
          refine lv_aload_n hx hb d_Reader_comeOutTo_35 rfl (lv_at hl 0 rfl) ?_
          refine va_get (D := D) (v := .int (k_at σ1)) (C := R_Reader) (T := T_Reader) (N := 10) hx hb hts in_Reader hown hK hP 5 rfl rfl 5 (by decide) (hts _ q_f_Reader_44) (fun _ h9 => h9) rfl d_Reader_comeOutTo_36 ?_
          refine lv_aload_n hx hb d_Reader_comeOutTo_39 rfl (lv_at hl 0 rfl) ?_
          refine va_get (D := D) (v := .int (k_at σ1)) (C := R_Reader) (T := T_Reader) (N := 10) hx hb hts in_Reader hown hK hP 5 rfl rfl 5 (by decide) (hts _ q_f_Reader_44) (fun _ h9 => h9) rfl d_Reader_comeOutTo_40 ?_
          refine lv_aload_n hx hb d_Reader_comeOutTo_43 rfl (lv_at hl 0 rfl) ?_
          refine va_get (D := D) (v := .int (k_line σ1)) (C := R_Reader) (T := T_Reader) (N := 10) hx hb hts in_Reader hown hK hP 5 rfl rfl 6 (by decide) (hts _ q_f_Reader_62) (fun _ h9 => h9) rfl d_Reader_comeOutTo_44 ?_
          refine g_callVv ⟨hx, hb, hml, hown, hts⟩ (c_Tokens_add h) (g_cwV 4 hts q_l_Reader_95 q_m_Tokens_add q_s_Tokens_add q_i_TokenDesk_Tokens q_k_Tokens_add (by decide +kernel) rfl rfl (by rw [hR]; exact ⟨Nat.le_of_ble_eq_true rfl, Nat.le_of_ble_eq_true rfl⟩)) (va_recv hK hP (q0 := 3) rfl rfl) cX_g hK hP hD hS hA hCx rfl hl.1 rfl (Nat.le_of_ble_eq_true rfl) d_Reader_comeOutTo_47 ⟨Nat.zero_le _, Nat.zero_le _⟩ (fun σ2 H locs h hP hD hS => ?_)
          refine lv_goto hx hb d_Reader_comeOutTo_50 (tgt := 0) rfl ?_
          exact ih0 x1 σ2 _ _ _ h hP hD hS hl
  obtain ⟨n, h⟩ := h
  exact L0 n a1 σ _ _ _ h hP hD hS hl
set_option maxHeartbeats 4000000 in
set_option maxRecDepth 100000 in
theorem c_Reader_endLine {l : Launch} {D : va_G} {ad : Nat → Nat} {ty : Nat → ClassId} {cd : Nat → Nat → Nat} {σ : KS} {post : KS → Prop} (h : wp_Reader_endLine σ post) : g_Metv l y_Reader_endLine (Cond.code y_Reader_endLine b_Reader_endLine 1 none :: gW) ({ frames := 1, cells := 0, slots := 0, locals := 26 }) D vwCl (gT ty) (kW ad ty) (cX cd) [.ref (ad 5)] σ post := by
  refine g_startv (cc := b_Reader_endLine) (maxL := 1) (by decide) rfl (Nat.le_of_ble_eq_true rfl) ?_
  intro p e s m args below meth c A Q R ls hR hx hb hts hown hml hA hS hP hD hK hCx hl hret
  unfold wp_Reader_endLine at h
  have hown : s.vm.findClass "TokenDesk$Reader" = some m.cls := hown
  have hl : lv_has ls 1 [(0, .ref (ad 5))] := hl
  refine lv_aload_n hx hb d_Reader_endLine_0 rfl (lv_at hl 0 rfl) ?_
  refine va_get (D := D) (v := .int (k_lht σ)) (C := R_Reader) (T := T_Reader) (N := 10) hx hb hts in_Reader hown hK hP 5 rfl rfl 9 (by decide) (hts _ q_f_Reader_88) (fun _ h9 => h9) rfl d_Reader_endLine_1 ?_
  refine lv_if_eq hx hb d_Reader_endLine_4 (tgt := 27) rfl (fun hc => ?_) (fun hc => ?_)
  · have h := h.1 hc
    exact hret _ _ _ _ _ h hP hD hS d_Reader_endLine_27
  · have h := h.2 hc
    refine lv_aload_n hx hb d_Reader_endLine_7 rfl (lv_at hl 0 rfl) ?_
    refine va_get (D := D) (v := .ref (ad 3)) (C := R_Reader) (T := T_Reader) (N := 10) hx hb hts in_Reader hown hK hP 5 rfl rfl 1 (by decide) (hts _ q_f_Reader_19) (fun _ h9 => h9) rfl d_Reader_endLine_8 ?_
    refine lv_iconst (v := 1) hx hb d_Reader_endLine_11 (by decide) ?_
    refine lv_aload_n hx hb d_Reader_endLine_12 rfl (lv_at hl 0 rfl) ?_
    refine va_get (D := D) (v := .int (k_at σ)) (C := R_Reader) (T := T_Reader) (N := 10) hx hb hts in_Reader hown hK hP 5 rfl rfl 5 (by decide) (hts _ q_f_Reader_44) (fun _ h9 => h9) rfl d_Reader_endLine_13 ?_
    refine lv_aload_n hx hb d_Reader_endLine_16 rfl (lv_at hl 0 rfl) ?_
    refine va_get (D := D) (v := .int (k_at σ)) (C := R_Reader) (T := T_Reader) (N := 10) hx hb hts in_Reader hown hK hP 5 rfl rfl 5 (by decide) (hts _ q_f_Reader_44) (fun _ h9 => h9) rfl d_Reader_endLine_17 ?_
    refine lv_aload_n hx hb d_Reader_endLine_20 rfl (lv_at hl 0 rfl) ?_
    refine va_get (D := D) (v := .int (k_line σ)) (C := R_Reader) (T := T_Reader) (N := 10) hx hb hts in_Reader hown hK hP 5 rfl rfl 6 (by decide) (hts _ q_f_Reader_62) (fun _ h9 => h9) rfl d_Reader_endLine_21 ?_
    refine g_callVv ⟨hx, hb, hml, hown, hts⟩ (c_Tokens_add h) (g_cwV 4 hts q_l_Reader_95 q_m_Tokens_add q_s_Tokens_add q_i_TokenDesk_Tokens q_k_Tokens_add (by decide +kernel) rfl rfl (by rw [hR]; exact ⟨Nat.le_of_ble_eq_true rfl, Nat.le_of_ble_eq_true rfl⟩)) (va_recv hK hP (q0 := 3) rfl rfl) cX_g hK hP hD hS hA hCx rfl hl.1 rfl (Nat.le_of_ble_eq_true rfl) d_Reader_endLine_24 ⟨Nat.zero_le _, Nat.zero_le _⟩ (fun σ1 H locs h hP hD hS => ?_)
    exact hret _ _ _ _ _ h hP hD hS d_Reader_endLine_27
set_option maxHeartbeats 4000000 in
set_option maxRecDepth 100000 in
theorem c_Reader_end {l : Launch} {D : va_G} {ad : Nat → Nat} {ty : Nat → ClassId} {cd : Nat → Nat → Nat} {σ : KS} {post : KS → Prop} (h : wp_Reader_end σ post) : g_Metv l y_Reader_end (Cond.code y_Reader_end b_Reader_end 1 none :: gW) ({ frames := 2, cells := 0, slots := 0, locals := 47 }) D vwCl (gT ty) (kW ad ty) (cX cd) [.ref (ad 5)] σ post := by
  refine g_startv (cc := b_Reader_end) (maxL := 1) (by decide) rfl (Nat.le_of_ble_eq_true rfl) ?_
  intro p e s m args below meth c A Q R ls hR hx hb hts hown hml hA hS hP hD hK hCx hl hret
  unfold wp_Reader_end at h
  have hown : s.vm.findClass "TokenDesk$Reader" = some m.cls := hown
  have hl : lv_has ls 1 [(0, .ref (ad 5))] := hl
  refine lv_aload_n hx hb d_Reader_end_0 rfl (lv_at hl 0 rfl) ?_
  refine g_callVv ⟨hx, hb, hml, hown, hts⟩ (c_Reader_endLine h) (g_cwV 0 hts q_l_Reader_92 q_m_Reader_endLine q_s_Reader_endLine q_i_TokenDesk_Reader q_k_Reader_endLine (by decide +kernel) rfl rfl (by rw [hR]; exact ⟨Nat.le_of_ble_eq_true rfl, Nat.le_of_ble_eq_true rfl⟩)) (va_recv hK hP (q0 := 5) rfl rfl) cX_g hK hP hD hS hA hCx rfl hl.1 rfl (Nat.le_of_ble_eq_true rfl) d_Reader_end_1 ⟨Nat.zero_le _, Nat.zero_le _⟩ (fun σ1 H locs h hP hD hS => ?_)
  refine lv_aload_n hx hb d_Reader_end_4 rfl (lv_at hl 0 rfl) ?_
  refine lv_iconst (v := 0) hx hb d_Reader_end_5 (by decide) ?_
  refine g_callVv ⟨hx, hb, hml, hown, hts⟩ (c_Reader_comeOutTo h) (g_cwV 1 hts q_l_Reader_101 q_m_Reader_comeOutTo q_s_Reader_comeOutTo q_i_TokenDesk_Reader q_k_Reader_comeOutTo (by decide +kernel) rfl rfl (by rw [hR]; exact ⟨Nat.le_of_ble_eq_true rfl, Nat.le_of_ble_eq_true rfl⟩)) (va_recv hK hP (q0 := 5) rfl rfl) cX_g hK hP hD hS hA hCx rfl hl.1 rfl (Nat.le_of_ble_eq_true rfl) d_Reader_end_6 ⟨Nat.zero_le _, Nat.zero_le _⟩ (fun σ2 H locs h hP hD hS => ?_)
  refine lv_aload_n hx hb d_Reader_end_9 rfl (lv_at hl 0 rfl) ?_
  refine va_get (D := D) (v := .ref (ad 3)) (C := R_Reader) (T := T_Reader) (N := 10) hx hb hts in_Reader hown hK hP 5 rfl rfl 1 (by decide) (hts _ q_f_Reader_19) (fun _ h9 => h9) rfl d_Reader_end_10 ?_
  refine lv_iconst (v := 0) hx hb d_Reader_end_13 (by decide) ?_
  refine lv_aload_n hx hb d_Reader_end_14 rfl (lv_at hl 0 rfl) ?_
  refine va_get (D := D) (v := .int (k_at σ2)) (C := R_Reader) (T := T_Reader) (N := 10) hx hb hts in_Reader hown hK hP 5 rfl rfl 5 (by decide) (hts _ q_f_Reader_44) (fun _ h9 => h9) rfl d_Reader_end_15 ?_
  refine lv_aload_n hx hb d_Reader_end_18 rfl (lv_at hl 0 rfl) ?_
  refine va_get (D := D) (v := .int (k_at σ2)) (C := R_Reader) (T := T_Reader) (N := 10) hx hb hts in_Reader hown hK hP 5 rfl rfl 5 (by decide) (hts _ q_f_Reader_44) (fun _ h9 => h9) rfl d_Reader_end_19 ?_
  refine lv_aload_n hx hb d_Reader_end_22 rfl (lv_at hl 0 rfl) ?_
  refine va_get (D := D) (v := .int (k_line σ2)) (C := R_Reader) (T := T_Reader) (N := 10) hx hb hts in_Reader hown hK hP 5 rfl rfl 6 (by decide) (hts _ q_f_Reader_62) (fun _ h9 => h9) rfl d_Reader_end_23 ?_
  refine g_callVv ⟨hx, hb, hml, hown, hts⟩ (c_Tokens_add h) (g_cwV 4 hts q_l_Reader_95 q_m_Tokens_add q_s_Tokens_add q_i_TokenDesk_Tokens q_k_Tokens_add (by decide +kernel) rfl rfl (by rw [hR]; exact ⟨Nat.le_of_ble_eq_true rfl, Nat.le_of_ble_eq_true rfl⟩)) (va_recv hK hP (q0 := 3) rfl rfl) cX_g hK hP hD hS hA hCx rfl hl.1 rfl (Nat.le_of_ble_eq_true rfl) d_Reader_end_26 ⟨Nat.zero_le _, Nat.zero_le _⟩ (fun σ3 H locs h hP hD hS => ?_)
  exact hret _ _ _ _ _ h hP hD hS d_Reader_end_29
set_option maxHeartbeats 4000000 in
set_option maxRecDepth 100000 in
theorem c_Reader_passLineFeed {l : Launch} {D : va_G} {ad : Nat → Nat} {ty : Nat → ClassId} {cd : Nat → Nat → Nat} {σ : KS} {post : KS → Prop} (h : wp_Reader_passLineFeed σ post) : g_Metv l y_Reader_passLineFeed (Cond.code y_Reader_passLineFeed b_Reader_passLineFeed 1 none :: gW) ({ frames := 3, cells := 0, slots := 0, locals := 64 }) D vwCl (gT ty) (kW ad ty) (cX cd) [.ref (ad 5)] σ post := by
  refine g_startv (cc := b_Reader_passLineFeed) (maxL := 1) (by decide) rfl (Nat.le_of_ble_eq_true rfl) ?_
  intro p e s m args below meth c A Q R ls hR hx hb hts hown hml hA hS hP hD hK hCx hl hret
  unfold wp_Reader_passLineFeed at h
  have hown : s.vm.findClass "TokenDesk$Reader" = some m.cls := hown
  have hl : lv_has ls 1 [(0, .ref (ad 5))] := hl
  have L34 : ∀ (σ : KS) (H : Heap) (locs : List Loc) (ls : Array Slot), L_Reader_passLineFeed_34 post σ → va_P D vwCl (kW ad ty σ) H → va_D A (kW ad ty σ) → va_S A s.heap H locs → lv_has ls 1 [(0, .ref (ad 5))] → W p l e R s m args below meth c H locs 0 0 Q (F0 m 34 ls []) := by
    intro σ H locs ls h hP hD hS hl
    unfold L_Reader_passLineFeed_34 at h
    refine lv_aload_n hx hb d_Reader_passLineFeed_34 rfl (lv_at hl 0 rfl) ?_
    refine lv_dup hx hb d_Reader_passLineFeed_35 rfl ?_
    refine va_get (D := D) (v := .int (k_line σ)) (C := R_Reader) (T := T_Reader) (N := 10) hx hb hts in_Reader hown hK hP 5 rfl rfl 6 (by decide) (hts _ q_f_Reader_62) (fun _ h9 => h9) rfl d_Reader_passLineFeed_36 ?_
    refine lv_iconst (v := 1) hx hb d_Reader_passLineFeed_39 (by decide) ?_
    refine lv_iadd hx hb d_Reader_passLineFeed_40 ?_
    refine va_put (D := D) (v := .int ((k_line σ) + 1)) (ty := .int) (C := R_Reader) (T := T_Reader) (N := 10) hx hb hts in_Reader t_Reader tk_Reader n_Reader hown hK hP hD hS 5 rfl rfl 6 (by decide) (hts _ q_f_Reader_62) (fun _ h9 => h9) rfl (by decide +kernel) rfl rfl (Nat.le_of_ble_eq_true rfl) d_Reader_passLineFeed_41 (fun H locs hP hD hS => ?_)
    have hP : va_P D vwCl (kW ad ty (k_line' σ ((k_line σ) + 1))) H := hP
    have hD : va_D A (kW ad ty (k_line' σ ((k_line σ) + 1))) := hD
    obtain ⟨σ4, eσ4⟩ : ∃ z, z = (k_line' σ ((k_line σ) + 1)) := ⟨_, rfl⟩
    rw [← eσ4] at hP hD
    have h := h σ4 eσ4
    exact hret _ _ _ _ _ h hP hD hS d_Reader_passLineFeed_44
  refine lv_aload_n hx hb d_Reader_passLineFeed_0 rfl (lv_at hl 0 rfl) ?_
  refine va_get (D := D) (v := .int (k_open σ)) (C := R_Reader) (T := T_Reader) (N := 10) hx hb hts in_Reader hown hK hP 5 rfl rfl 7 (by decide) (hts _ q_f_Reader_79) (fun _ h9 => h9) rfl d_Reader_passLineFeed_1 ?_
  refine lv_if_le hx hb d_Reader_passLineFeed_4 (tgt := 20) rfl (fun hc => ?_) (fun hc => ?_)
  · have h := h.1 hc
    refine lv_aload_n hx hb d_Reader_passLineFeed_20 rfl (lv_at hl 0 rfl) ?_
    refine g_callVv ⟨hx, hb, hml, hown, hts⟩ (c_Reader_endLine h) (g_cwV 0 hts q_l_Reader_92 q_m_Reader_endLine q_s_Reader_endLine q_i_TokenDesk_Reader q_k_Reader_endLine (by decide +kernel) rfl rfl (by rw [hR]; exact ⟨Nat.le_of_ble_eq_true rfl, Nat.le_of_ble_eq_true rfl⟩)) (va_recv hK hP (q0 := 5) rfl rfl) cX_g hK hP hD hS hA hCx rfl hl.1 rfl (Nat.le_of_ble_eq_true rfl) d_Reader_passLineFeed_21 ⟨Nat.zero_le _, Nat.zero_le _⟩ (fun σ1 H locs h hP hD hS => ?_)
    refine lv_aload_n hx hb d_Reader_passLineFeed_24 rfl (lv_at hl 0 rfl) ?_
    refine lv_aload_n hx hb d_Reader_passLineFeed_25 rfl (lv_at hl 0 rfl) ?_
    refine va_get (D := D) (v := .int (k_at σ1)) (C := R_Reader) (T := T_Reader) (N := 10) hx hb hts in_Reader hown hK hP 5 rfl rfl 5 (by decide) (hts _ q_f_Reader_44) (fun _ h9 => h9) rfl d_Reader_passLineFeed_26 ?_
    refine lv_iconst (v := 1) hx hb d_Reader_passLineFeed_29 (by decide) ?_
    refine lv_iadd hx hb d_Reader_passLineFeed_30 ?_
    refine g_callVv ⟨hx, hb, hml, hown, hts⟩ (c_Reader_beginLine h) (g_cwV 1 hts q_l_Reader_75 q_m_Reader_beginLine q_s_Reader_beginLine q_i_TokenDesk_Reader q_k_Reader_beginLine (by decide +kernel) rfl rfl (by rw [hR]; exact ⟨Nat.le_of_ble_eq_true rfl, Nat.le_of_ble_eq_true rfl⟩)) (va_recv hK hP (q0 := 5) rfl rfl) cX_g hK hP hD hS hA hCx rfl hl.1 rfl (Nat.le_of_ble_eq_true rfl) d_Reader_passLineFeed_31 ⟨Nat.zero_le _, Nat.zero_le _⟩ (fun σ2 H locs h hP hD hS => ?_)
    exact L34 σ2 _ _ _ h hP hD hS hl
  · have h := h.2 hc
    refine lv_aload_n hx hb d_Reader_passLineFeed_7 rfl (lv_at hl 0 rfl) ?_
    refine lv_dup hx hb d_Reader_passLineFeed_8 rfl ?_
    refine va_get (D := D) (v := .int (k_at σ)) (C := R_Reader) (T := T_Reader) (N := 10) hx hb hts in_Reader hown hK hP 5 rfl rfl 5 (by decide) (hts _ q_f_Reader_44) (fun _ h9 => h9) rfl d_Reader_passLineFeed_9 ?_
    refine lv_iconst (v := 1) hx hb d_Reader_passLineFeed_12 (by decide) ?_
    refine lv_iadd hx hb d_Reader_passLineFeed_13 ?_
    refine va_put (D := D) (v := .int ((k_at σ) + 1)) (ty := .int) (C := R_Reader) (T := T_Reader) (N := 10) hx hb hts in_Reader t_Reader tk_Reader n_Reader hown hK hP hD hS 5 rfl rfl 5 (by decide) (hts _ q_f_Reader_44) (fun _ h9 => h9) rfl (by decide +kernel) rfl rfl (Nat.le_of_ble_eq_true rfl) d_Reader_passLineFeed_14 (fun H locs hP hD hS => ?_)
    have hP : va_P D vwCl (kW ad ty (k_at' σ ((k_at σ) + 1))) H := hP
    have hD : va_D A (kW ad ty (k_at' σ ((k_at σ) + 1))) := hD
    obtain ⟨σ3, eσ3⟩ : ∃ z, z = (k_at' σ ((k_at σ) + 1)) := ⟨_, rfl⟩
    rw [← eσ3] at hP hD
    have h := h σ3 eσ3
    refine lv_goto hx hb d_Reader_passLineFeed_17 (tgt := 34) rfl ?_
    exact L34 σ3 _ _ _ h hP hD hS hl
set_option maxHeartbeats 4000000 in
set_option maxRecDepth 100000 in
theorem c_Reader_goIn {l : Launch} {D : va_G} {ad : Nat → Nat} {ty : Nat → ClassId} {cd : Nat → Nat → Nat} {σ : KS} {post : Int32 → KS → Prop} (h : wp_Reader_goIn σ post) : g_Meti l y_Reader_goIn (Cond.code y_Reader_goIn b_Reader_goIn 2 (some .boolean) :: gW) ({ frames := 1, cells := 0, slots := 0, locals := 26 }) D vwCl (gT ty) (kW ad ty) (cX cd) [.ref (ad 5)] σ post := by
  refine g_startz (cc := b_Reader_goIn) (maxL := 2) (by decide) rfl (Nat.le_of_ble_eq_true rfl) ?_
  intro p e s m args below meth c A Q R ls hR hx hb hts hown hml hA hS hP hD hK hCx hl hret
  unfold wp_Reader_goIn at h
  have hown : s.vm.findClass "TokenDesk$Reader" = some m.cls := hown
  have hl : lv_has ls 2 [(0, .ref (ad 5))] := hl
  have L15 : ∀ (s0 : Int32) (σ : KS) (H : Heap) (locs : List Loc) (ls : Array Slot), L_Reader_goIn_15 post s0 σ → va_P D vwCl (kW ad ty σ) H → va_D A (kW ad ty σ) → va_S A s.heap H locs → lv_has ls 2 [(0, .ref (ad 5))] → W p l e R s m args below meth c H locs 0 0 Q (F0 m 15 ls [.int s0]) := by
    intro s0 σ H locs ls h hP hD hS hl
    unfold L_Reader_goIn_15 at h
    refine lv_istore_n hx hb d_Reader_goIn_15 rfl hl (by decide) rfl (fun ls hl => ?_)
    refine lv_iload_n hx hb d_Reader_goIn_16 rfl (lv_at hl 0 rfl) ?_
    refine lv_if_ne hx hb d_Reader_goIn_17 (tgt := 31) rfl (fun hc => ?_) (fun hc => ?_)
    · have h := h.1 hc
      refine lv_iconst (v := 0) hx hb d_Reader_goIn_31 (by decide) ?_
      exact hret _ _ _ _ _ _ h rfl hP hD hS d_Reader_goIn_32
    · have h := h.2 hc
      refine lv_aload_n hx hb d_Reader_goIn_20 rfl (lv_at hl 1 rfl) ?_
      refine va_get (D := D) (v := .int (k_deep σ)) (C := R_Reader) (T := T_Reader) (N := 10) hx hb hts in_Reader hown hK hP 5 rfl rfl 4 (by decide) (hts _ q_f_Reader_72) (fun _ h9 => h9) rfl d_Reader_goIn_21 ?_
      refine lv_iconst (v := 1) hx hb d_Reader_goIn_24 (by decide) ?_
      refine lv_iadd hx hb d_Reader_goIn_25 ?_
      refine lv_bipush (v := 100) hx hb d_Reader_goIn_26 (by decide) ?_
      refine lv_icmp_lt hx hb d_Reader_goIn_28 (tgt := 33) rfl (fun hc => ?_) (fun hc => ?_)
      · have h := h.1 hc
        refine lv_aload_n hx hb d_Reader_goIn_33 rfl (lv_at hl 1 rfl) ?_
        refine lv_dup hx hb d_Reader_goIn_34 rfl ?_
        refine va_get (D := D) (v := .int (k_deep σ)) (C := R_Reader) (T := T_Reader) (N := 10) hx hb hts in_Reader hown hK hP 5 rfl rfl 4 (by decide) (hts _ q_f_Reader_72) (fun _ h9 => h9) rfl d_Reader_goIn_35 ?_
        refine lv_iconst (v := 1) hx hb d_Reader_goIn_38 (by decide) ?_
        refine lv_iadd hx hb d_Reader_goIn_39 ?_
        refine va_put (D := D) (v := .int ((k_deep σ) + 1)) (ty := .int) (C := R_Reader) (T := T_Reader) (N := 10) hx hb hts in_Reader t_Reader tk_Reader n_Reader hown hK hP hD hS 5 rfl rfl 4 (by decide) (hts _ q_f_Reader_72) (fun _ h9 => h9) rfl (by decide +kernel) rfl rfl (Nat.le_of_ble_eq_true rfl) d_Reader_goIn_40 (fun H locs hP hD hS => ?_)
        have hP : va_P D vwCl (kW ad ty (k_deep' σ ((k_deep σ) + 1))) H := hP
        have hD : va_D A (kW ad ty (k_deep' σ ((k_deep σ) + 1))) := hD
        obtain ⟨σ3, eσ3⟩ : ∃ z, z = (k_deep' σ ((k_deep σ) + 1)) := ⟨_, rfl⟩
        rw [← eσ3] at hP hD
        have h := h σ3 eσ3
        refine lv_aload_n hx hb d_Reader_goIn_43 rfl (lv_at hl 1 rfl) ?_
        refine va_get (D := D) (v := .ref (ad 6)) (C := R_Reader) (T := T_Reader) (N := 10) hx hb hts in_Reader hown hK hP 5 rfl rfl 3 (by decide) (hts _ q_f_Reader_11) (fun _ h9 => h9) rfl d_Reader_goIn_44 ?_
        refine lv_aload_n hx hb d_Reader_goIn_47 rfl (lv_at hl 1 rfl) ?_
        refine va_get (D := D) (v := .int (k_deep σ3)) (C := R_Reader) (T := T_Reader) (N := 10) hx hb hts in_Reader hown hK hP 5 rfl rfl 4 (by decide) (hts _ q_f_Reader_72) (fun _ h9 => h9) rfl d_Reader_goIn_48 ?_
        refine lv_aload_n hx hb d_Reader_goIn_51 rfl (lv_at hl 1 rfl) ?_
        refine va_get (D := D) (v := .int (k_lin σ3)) (C := R_Reader) (T := T_Reader) (N := 10) hx hb hts in_Reader hown hK hP 5 rfl rfl 8 (by decide) (hts _ q_f_Reader_85) (fun _ h9 => h9) rfl d_Reader_goIn_52 ?_
        refine va_iast (D := D) hx hb hK hP hD hS 6 0 rfl rfl h.1 d_Reader_goIn_55 (fun H locs hP hD hS => ?_)
        have h := h.2
        have hP : va_P D vwCl (kW ad ty (k_lv' σ3 (upd (k_lv σ3) ((k_deep σ3) : Int32).toNatClampNeg (k_lin σ3)))) H := hP
        have hD : va_D A (kW ad ty (k_lv' σ3 (upd (k_lv σ3) ((k_deep σ3) : Int32).toNatClampNeg (k_lin σ3)))) := hD
        obtain ⟨σ4, eσ4⟩ : ∃ z, z = (k_lv' σ3 (upd (k_lv σ3) ((k_deep σ3) : Int32).toNatClampNeg (k_lin σ3))) := ⟨_, rfl⟩
        rw [← eσ4] at hP hD
        have h := h σ4 eσ4
        refine lv_aload_n hx hb d_Reader_goIn_56 rfl (lv_at hl 1 rfl) ?_
        refine va_get (D := D) (v := .ref (ad 3)) (C := R_Reader) (T := T_Reader) (N := 10) hx hb hts in_Reader hown hK hP 5 rfl rfl 1 (by decide) (hts _ q_f_Reader_19) (fun _ h9 => h9) rfl d_Reader_goIn_57 ?_
        refine lv_iconst (v := 2) hx hb d_Reader_goIn_60 (by decide) ?_
        refine lv_aload_n hx hb d_Reader_goIn_61 rfl (lv_at hl 1 rfl) ?_
        refine va_get (D := D) (v := .int (k_at σ4)) (C := R_Reader) (T := T_Reader) (N := 10) hx hb hts in_Reader hown hK hP 5 rfl rfl 5 (by decide) (hts _ q_f_Reader_44) (fun _ h9 => h9) rfl d_Reader_goIn_62 ?_
        refine lv_aload_n hx hb d_Reader_goIn_65 rfl (lv_at hl 1 rfl) ?_
        refine va_get (D := D) (v := .int (k_at σ4)) (C := R_Reader) (T := T_Reader) (N := 10) hx hb hts in_Reader hown hK hP 5 rfl rfl 5 (by decide) (hts _ q_f_Reader_44) (fun _ h9 => h9) rfl d_Reader_goIn_66 ?_
        refine lv_aload_n hx hb d_Reader_goIn_69 rfl (lv_at hl 1 rfl) ?_
        refine va_get (D := D) (v := .int (k_line σ4)) (C := R_Reader) (T := T_Reader) (N := 10) hx hb hts in_Reader hown hK hP 5 rfl rfl 6 (by decide) (hts _ q_f_Reader_62) (fun _ h9 => h9) rfl d_Reader_goIn_70 ?_
        refine g_callVv ⟨hx, hb, hml, hown, hts⟩ (c_Tokens_add h) (g_cwV 4 hts q_l_Reader_95 q_m_Tokens_add q_s_Tokens_add q_i_TokenDesk_Tokens q_k_Tokens_add (by decide +kernel) rfl rfl (by rw [hR]; exact ⟨Nat.le_of_ble_eq_true rfl, Nat.le_of_ble_eq_true rfl⟩)) (va_recv hK hP (q0 := 3) rfl rfl) cX_g hK hP hD hS hA hCx rfl hl.1 rfl (Nat.le_of_ble_eq_true rfl) d_Reader_goIn_73 ⟨Nat.zero_le _, Nat.zero_le _⟩ (fun σ5 H locs h hP hD hS => ?_)
        refine lv_iconst (v := 1) hx hb d_Reader_goIn_76 (by decide) ?_
        exact hret _ _ _ _ _ _ h rfl hP hD hS d_Reader_goIn_77
      · have h := h.2 hc
        refine lv_iconst (v := 0) hx hb d_Reader_goIn_31 (by decide) ?_
        exact hret _ _ _ _ _ _ h rfl hP hD hS d_Reader_goIn_32
  refine lv_aload_n hx hb d_Reader_goIn_0 rfl (lv_at hl 0 rfl) ?_
  refine va_get (D := D) (v := .ref (ad 3)) (C := R_Reader) (T := T_Reader) (N := 10) hx hb hts in_Reader hown hK hP 5 rfl rfl 1 (by decide) (hts _ q_f_Reader_19) (fun _ h9 => h9) rfl d_Reader_goIn_1 ?_
  refine g_callVi ⟨hx, hb, hml, hown, hts⟩ (c_Tokens_size h) (g_cwV 0 hts q_l_Reader_145 q_m_Tokens_size q_s_Tokens_size q_i_TokenDesk_Tokens q_k_Tokens_size (by decide +kernel) rfl rfl (by rw [hR]; exact ⟨Nat.le_of_ble_eq_true rfl, Nat.le_of_ble_eq_true rfl⟩)) (va_recv hK hP (q0 := 3) rfl rfl) cX_g hK hP hD hS hA hCx rfl hl.1 rfl (Nat.le_of_ble_eq_true rfl) d_Reader_goIn_4 ⟨Nat.zero_le _, Nat.zero_le _⟩ (fun r1 σ2 H locs h hP hD hS => ?_)
  refine lv_if_ne hx hb d_Reader_goIn_7 (tgt := 14) rfl (fun hc => ?_) (fun hc => ?_)
  · have h := h.1 hc
    refine lv_iconst (v := 0) hx hb d_Reader_goIn_14 (by decide) ?_
    exact L15 0 σ2 _ _ _ h hP hD hS hl
  · have h := h.2 hc
    refine lv_iconst (v := 1) hx hb d_Reader_goIn_10 (by decide) ?_
    refine lv_goto hx hb d_Reader_goIn_11 (tgt := 15) rfl ?_
    exact L15 1 σ2 _ _ _ h hP hD hS hl
set_option maxHeartbeats 4000000 in
set_option maxRecDepth 100000 in
theorem c_Reader_settleLevel {l : Launch} {D : va_G} {ad : Nat → Nat} {ty : Nat → ClassId} {cd : Nat → Nat → Nat} {σ : KS} {post : Int32 → KS → Prop} (h : wp_Reader_settleLevel σ post) : g_Meti l y_Reader_settleLevel (Cond.code y_Reader_settleLevel b_Reader_settleLevel 1 (some .boolean) :: gW) ({ frames := 2, cells := 0, slots := 0, locals := 47 }) D vwCl (gT ty) (kW ad ty) (cX cd) [.ref (ad 5)] σ post := by
  refine g_startz (cc := b_Reader_settleLevel) (maxL := 1) (by decide) rfl (Nat.le_of_ble_eq_true rfl) ?_
  intro p e s m args below meth c A Q R ls hR hx hb hts hown hml hA hS hP hD hK hCx hl hret
  unfold wp_Reader_settleLevel at h
  have hown : s.vm.findClass "TokenDesk$Reader" = some m.cls := hown
  have hl : lv_has ls 1 [(0, .ref (ad 5))] := hl
  refine lv_aload_n hx hb d_Reader_settleLevel_0 rfl (lv_at hl 0 rfl) ?_
  refine va_get (D := D) (v := .int (k_lin σ)) (C := R_Reader) (T := T_Reader) (N := 10) hx hb hts in_Reader hown hK hP 5 rfl rfl 8 (by decide) (hts _ q_f_Reader_85) (fun _ h9 => h9) rfl d_Reader_settleLevel_1 ?_
  refine lv_aload_n hx hb d_Reader_settleLevel_4 rfl (lv_at hl 0 rfl) ?_
  refine va_get (D := D) (v := .ref (ad 6)) (C := R_Reader) (T := T_Reader) (N := 10) hx hb hts in_Reader hown hK hP 5 rfl rfl 3 (by decide) (hts _ q_f_Reader_11) (fun _ h9 => h9) rfl d_Reader_settleLevel_5 ?_
  refine lv_aload_n hx hb d_Reader_settleLevel_8 rfl (lv_at hl 0 rfl) ?_
  refine va_get (D := D) (v := .int (k_deep σ)) (C := R_Reader) (T := T_Reader) (N := 10) hx hb hts in_Reader hown hK hP 5 rfl rfl 4 (by decide) (hts _ q_f_Reader_72) (fun _ h9 => h9) rfl d_Reader_settleLevel_9 ?_
  refine va_iald (D := D) hx hb hK hP 6 0 rfl rfl h.1 d_Reader_settleLevel_12 ?_
  have h := h.2
  refine lv_icmp_le hx hb d_Reader_settleLevel_13 (tgt := 21) rfl (fun hc => ?_) (fun hc => ?_)
  · have h := h.1 hc
    refine lv_aload_n hx hb d_Reader_settleLevel_21 rfl (lv_at hl 0 rfl) ?_
    refine lv_aload_n hx hb d_Reader_settleLevel_22 rfl (lv_at hl 0 rfl) ?_
    refine va_get (D := D) (v := .int (k_lin σ)) (C := R_Reader) (T := T_Reader) (N := 10) hx hb hts in_Reader hown hK hP 5 rfl rfl 8 (by decide) (hts _ q_f_Reader_85) (fun _ h9 => h9) rfl d_Reader_settleLevel_23 ?_
    refine g_callVv ⟨hx, hb, hml, hown, hts⟩ (c_Reader_comeOutTo h) (g_cwV 1 hts q_l_Reader_101 q_m_Reader_comeOutTo q_s_Reader_comeOutTo q_i_TokenDesk_Reader q_k_Reader_comeOutTo (by decide +kernel) rfl rfl (by rw [hR]; exact ⟨Nat.le_of_ble_eq_true rfl, Nat.le_of_ble_eq_true rfl⟩)) (va_recv hK hP (q0 := 5) rfl rfl) cX_g hK hP hD hS hA hCx rfl hl.1 rfl (Nat.le_of_ble_eq_true rfl) d_Reader_settleLevel_26 ⟨Nat.zero_le _, Nat.zero_le _⟩ (fun σ1 H locs h hP hD hS => ?_)
    refine lv_aload_n hx hb d_Reader_settleLevel_29 rfl (lv_at hl 0 rfl) ?_
    refine va_get (D := D) (v := .ref (ad 6)) (C := R_Reader) (T := T_Reader) (N := 10) hx hb hts in_Reader hown hK hP 5 rfl rfl 3 (by decide) (hts _ q_f_Reader_11) (fun _ h9 => h9) rfl d_Reader_settleLevel_30 ?_
    refine lv_aload_n hx hb d_Reader_settleLevel_33 rfl (lv_at hl 0 rfl) ?_
    refine va_get (D := D) (v := .int (k_deep σ1)) (C := R_Reader) (T := T_Reader) (N := 10) hx hb hts in_Reader hown hK hP 5 rfl rfl 4 (by decide) (hts _ q_f_Reader_72) (fun _ h9 => h9) rfl d_Reader_settleLevel_34 ?_
    refine va_iald (D := D) hx hb hK hP 6 0 rfl rfl h.1 d_Reader_settleLevel_37 ?_
    have h := h.2
    refine lv_aload_n hx hb d_Reader_settleLevel_38 rfl (lv_at hl 0 rfl) ?_
    refine va_get (D := D) (v := .int (k_lin σ1)) (C := R_Reader) (T := T_Reader) (N := 10) hx hb hts in_Reader hown hK hP 5 rfl rfl 8 (by decide) (hts _ q_f_Reader_85) (fun _ h9 => h9) rfl d_Reader_settleLevel_39 ?_
    refine lv_icmp_ne hx hb d_Reader_settleLevel_42 (tgt := 49) rfl (fun hc => ?_) (fun hc => ?_)
    · have h := h.1 hc
      refine lv_iconst (v := 0) hx hb d_Reader_settleLevel_49 (by decide) ?_
      exact hret _ _ _ _ _ _ h rfl hP hD hS d_Reader_settleLevel_50
    · have h := h.2 hc
      refine lv_iconst (v := 1) hx hb d_Reader_settleLevel_45 (by decide) ?_
      refine lv_goto hx hb d_Reader_settleLevel_46 (tgt := 50) rfl ?_
      exact hret _ _ _ _ _ _ h rfl hP hD hS d_Reader_settleLevel_50
  · have h := h.2 hc
    refine lv_aload_n hx hb d_Reader_settleLevel_16 rfl (lv_at hl 0 rfl) ?_
    refine g_callVi ⟨hx, hb, hml, hown, hts⟩ (c_Reader_goIn h) (g_cwV 0 hts q_l_Reader_142 q_m_Reader_goIn q_s_Reader_goIn q_i_TokenDesk_Reader q_k_Reader_goIn (by decide +kernel) rfl rfl (by rw [hR]; exact ⟨Nat.le_of_ble_eq_true rfl, Nat.le_of_ble_eq_true rfl⟩)) (va_recv hK hP (q0 := 5) rfl rfl) cX_g hK hP hD hS hA hCx rfl hl.1 rfl (Nat.le_of_ble_eq_true rfl) d_Reader_settleLevel_17 ⟨Nat.zero_le _, Nat.zero_le _⟩ (fun r2 σ3 H locs h hP hD hS => ?_)
    exact hret _ _ _ _ _ _ h.2 h.1 hP hD hS d_Reader_settleLevel_20
set_option maxHeartbeats 4000000 in
set_option maxRecDepth 100000 in
theorem c_Reader_countOpen {l : Launch} {D : va_G} {ad : Nat → Nat} {ty : Nat → ClassId} {cd : Nat → Nat → Nat} {a1 : Int32} {σ : KS} {post : KS → Prop} (h : wp_Reader_countOpen a1 σ post) : g_Metv l y_Reader_countOpen (Cond.code y_Reader_countOpen b_Reader_countOpen 2 none :: gW) ({ frames := 0, cells := 0, slots := 0, locals := 0 }) D vwCl (gT ty) (kW ad ty) (cX cd) [.ref (ad 5), .int a1] σ post := by
  refine g_startv (cc := b_Reader_countOpen) (maxL := 2) (by decide) rfl (Nat.le_of_ble_eq_true rfl) ?_
  intro p e s m args below meth c A Q R ls hR hx hb hts hown hml hA hS hP hD hK hCx hl hret
  unfold wp_Reader_countOpen at h
  have hown : s.vm.findClass "TokenDesk$Reader" = some m.cls := hown
  have hl : lv_has ls 2 [(0, .ref (ad 5)), (1, .int a1)] := hl
  have L56 : ∀ (σ : KS) (H : Heap) (locs : List Loc) (ls : Array Slot), L_Reader_countOpen_56 post σ → va_P D vwCl (kW ad ty σ) H → va_D A (kW ad ty σ) → va_S A s.heap H locs → lv_has ls 2 [(0, .ref (ad 5))] → W p l e R s m args below meth c H locs 0 0 Q (F0 m 56 ls []) := by
    intro σ H locs ls h hP hD hS hl
    unfold L_Reader_countOpen_56 at h
    refine lv_aload_n hx hb d_Reader_countOpen_56 rfl (lv_at hl 0 rfl) ?_
    refine lv_dup hx hb d_Reader_countOpen_57 rfl ?_
    refine va_get (D := D) (v := .int (k_open σ)) (C := R_Reader) (T := T_Reader) (N := 10) hx hb hts in_Reader hown hK hP 5 rfl rfl 7 (by decide) (hts _ q_f_Reader_79) (fun _ h9 => h9) rfl d_Reader_countOpen_58 ?_
    refine lv_iconst (v := 1) hx hb d_Reader_countOpen_61 (by decide) ?_
    refine lv_isub hx hb d_Reader_countOpen_62 ?_
    refine va_put (D := D) (v := .int ((k_open σ) - 1)) (ty := .int) (C := R_Reader) (T := T_Reader) (N := 10) hx hb hts in_Reader t_Reader tk_Reader n_Reader hown hK hP hD hS 5 rfl rfl 7 (by decide) (hts _ q_f_Reader_79) (fun _ h9 => h9) rfl (by decide +kernel) rfl rfl (Nat.le_of_ble_eq_true rfl) d_Reader_countOpen_63 (fun H locs hP hD hS => ?_)
    have hP : va_P D vwCl (kW ad ty (k_open' σ ((k_open σ) - 1))) H := hP
    have hD : va_D A (kW ad ty (k_open' σ ((k_open σ) - 1))) := hD
    obtain ⟨σ1, eσ1⟩ : ∃ z, z = (k_open' σ ((k_open σ) - 1)) := ⟨_, rfl⟩
    rw [← eσ1] at hP hD
    have h := h σ1 eσ1
    exact hret _ _ _ _ _ h hP hD hS d_Reader_countOpen_66
  have L18 : ∀ (σ : KS) (H : Heap) (locs : List Loc) (ls : Array Slot), L_Reader_countOpen_18 post σ → va_P D vwCl (kW ad ty σ) H → va_D A (kW ad ty σ) → va_S A s.heap H locs → lv_has ls 2 [(0, .ref (ad 5))] → W p l e R s m args below meth c H locs 0 0 Q (F0 m 18 ls []) := by
    intro σ H locs ls h hP hD hS hl
    unfold L_Reader_countOpen_18 at h
    refine lv_aload_n hx hb d_Reader_countOpen_18 rfl (lv_at hl 0 rfl) ?_
    refine lv_dup hx hb d_Reader_countOpen_19 rfl ?_
    refine va_get (D := D) (v := .int (k_open σ)) (C := R_Reader) (T := T_Reader) (N := 10) hx hb hts in_Reader hown hK hP 5 rfl rfl 7 (by decide) (hts _ q_f_Reader_79) (fun _ h9 => h9) rfl d_Reader_countOpen_20 ?_
    refine lv_iconst (v := 1) hx hb d_Reader_countOpen_23 (by decide) ?_
    refine lv_iadd hx hb d_Reader_countOpen_24 ?_
    refine va_put (D := D) (v := .int ((k_open σ) + 1)) (ty := .int) (C := R_Reader) (T := T_Reader) (N := 10) hx hb hts in_Reader t_Reader tk_Reader n_Reader hown hK hP hD hS 5 rfl rfl 7 (by decide) (hts _ q_f_Reader_79) (fun _ h9 => h9) rfl (by decide +kernel) rfl rfl (Nat.le_of_ble_eq_true rfl) d_Reader_countOpen_25 (fun H locs hP hD hS => ?_)
    have hP : va_P D vwCl (kW ad ty (k_open' σ ((k_open σ) + 1))) H := hP
    have hD : va_D A (kW ad ty (k_open' σ ((k_open σ) + 1))) := hD
    obtain ⟨σ2, eσ2⟩ : ∃ z, z = (k_open' σ ((k_open σ) + 1)) := ⟨_, rfl⟩
    rw [← eσ2] at hP hD
    have h := h σ2 eσ2
    refine lv_goto hx hb d_Reader_countOpen_28 (tgt := 66) rfl ?_
    exact hret _ _ _ _ _ h hP hD hS d_Reader_countOpen_66
  refine lv_iload_n hx hb d_Reader_countOpen_0 rfl (lv_at hl 1 rfl) ?_
  refine lv_bipush (v := 40) hx hb d_Reader_countOpen_1 (by decide) ?_
  refine lv_icmp_eq hx hb d_Reader_countOpen_3 (tgt := 18) rfl (fun hc => ?_) (fun hc => ?_)
  · have h := h.1 hc
    exact L18 σ _ _ _ h hP hD hS (lv_sub hl [0] rfl)
  · have h := h.2 hc
    refine lv_iload_n hx hb d_Reader_countOpen_6 rfl (lv_at hl 1 rfl) ?_
    refine lv_bipush (v := 91) hx hb d_Reader_countOpen_7 (by decide) ?_
    refine lv_icmp_eq hx hb d_Reader_countOpen_9 (tgt := 18) rfl (fun hc => ?_) (fun hc => ?_)
    · have h := h.1 hc
      exact L18 σ _ _ _ h hP hD hS (lv_sub hl [0] rfl)
    · have h := h.2 hc
      refine lv_iload_n hx hb d_Reader_countOpen_12 rfl (lv_at hl 1 rfl) ?_
      refine lv_bipush (v := 123) hx hb d_Reader_countOpen_13 (by decide) ?_
      refine lv_icmp_ne hx hb d_Reader_countOpen_15 (tgt := 31) rfl (fun hc => ?_) (fun hc => ?_)
      · have h := h.1 hc
        refine lv_aload_n hx hb d_Reader_countOpen_31 rfl (lv_at hl 0 rfl) ?_
        refine va_get (D := D) (v := .int (k_open σ)) (C := R_Reader) (T := T_Reader) (N := 10) hx hb hts in_Reader hown hK hP 5 rfl rfl 7 (by decide) (hts _ q_f_Reader_79) (fun _ h9 => h9) rfl d_Reader_countOpen_32 ?_
        refine lv_if_le hx hb d_Reader_countOpen_35 (tgt := 66) rfl (fun hc => ?_) (fun hc => ?_)
        · have h := h.1 hc
          exact hret _ _ _ _ _ h hP hD hS d_Reader_countOpen_66
        · have h := h.2 hc
          refine lv_iload_n hx hb d_Reader_countOpen_38 rfl (lv_at hl 1 rfl) ?_
          refine lv_bipush (v := 41) hx hb d_Reader_countOpen_39 (by decide) ?_
          refine lv_icmp_eq hx hb d_Reader_countOpen_41 (tgt := 56) rfl (fun hc => ?_) (fun hc => ?_)
          · have h := h.1 hc
            exact L56 σ _ _ _ h hP hD hS (lv_sub hl [0] rfl)
          · have h := h.2 hc
            refine lv_iload_n hx hb d_Reader_countOpen_44 rfl (lv_at hl 1 rfl) ?_
            refine lv_bipush (v := 93) hx hb d_Reader_countOpen_45 (by decide) ?_
            refine lv_icmp_eq hx hb d_Reader_countOpen_47 (tgt := 56) rfl (fun hc => ?_) (fun hc => ?_)
            · have h := h.1 hc
              exact L56 σ _ _ _ h hP hD hS (lv_sub hl [0] rfl)
            · have h := h.2 hc
              refine lv_iload_n hx hb d_Reader_countOpen_50 rfl (lv_at hl 1 rfl) ?_
              refine lv_bipush (v := 125) hx hb d_Reader_countOpen_51 (by decide) ?_
              refine lv_icmp_ne hx hb d_Reader_countOpen_53 (tgt := 66) rfl (fun hc => ?_) (fun hc => ?_)
              · have h := h.1 hc
                exact hret _ _ _ _ _ h hP hD hS d_Reader_countOpen_66
              · have h := h.2 hc
                exact L56 σ _ _ _ h hP hD hS (lv_sub hl [0] rfl)
      · have h := h.2 hc
        exact L18 σ _ _ _ h hP hD hS (lv_sub hl [0] rfl)
set_option maxHeartbeats 4000000 in
set_option maxRecDepth 100000 in
theorem c_Reader_take {l : Launch} {D : va_G} {ad : Nat → Nat} {ty : Nat → ClassId} {cd : Nat → Nat → Nat} {a1 : Int32} {a2 : Int32} {σ : KS} {post : Int32 → KS → Prop} (h : wp_Reader_take a1 a2 σ post) : g_Meti l y_Reader_take (Cond.code y_Reader_take b_Reader_take 3 (some .boolean) :: gW) ({ frames := 2, cells := 0, slots := 0, locals := 45 }) D vwCl (gT ty) (kW ad ty) (cX cd) [.ref (ad 5), .int a1, .int a2] σ post := by
  refine g_startz (cc := b_Reader_take) (maxL := 3) (by decide) rfl (Nat.le_of_ble_eq_true rfl) ?_
  intro p e s m args below meth c A Q R ls hR hx hb hts hown hml hA hS hP hD hK hCx hl hret
  unfold wp_Reader_take at h
  have hown : s.vm.findClass "TokenDesk$Reader" = some m.cls := hown
  have hl : lv_has ls 3 [(0, .ref (ad 5)), (1, .int a1), (2, .int a2)] := hl
  refine lv_iload_n hx hb d_Reader_take_0 rfl (lv_at hl 2 rfl) ?_
  refine lv_iconst (v := (-1)) hx hb d_Reader_take_1 (by decide) ?_
  refine lv_icmp_ne hx hb d_Reader_take_2 (tgt := 7) rfl (fun hc => ?_) (fun hc => ?_)
  · have h := h.1 hc
    refine lv_aload_n hx hb d_Reader_take_7 rfl (lv_at hl 0 rfl) ?_
    refine va_get (D := D) (v := .ref (ad 3)) (C := R_Reader) (T := T_Reader) (N := 10) hx hb hts in_Reader hown hK hP 5 rfl rfl 1 (by decide) (hts _ q_f_Reader_19) (fun _ h9 => h9) rfl d_Reader_take_8 ?_
    refine lv_iload_n hx hb d_Reader_take_11 rfl (lv_at hl 1 rfl) ?_
    refine lv_aload_n hx hb d_Reader_take_12 rfl (lv_at hl 0 rfl) ?_
    refine va_get (D := D) (v := .int (k_at σ)) (C := R_Reader) (T := T_Reader) (N := 10) hx hb hts in_Reader hown hK hP 5 rfl rfl 5 (by decide) (hts _ q_f_Reader_44) (fun _ h9 => h9) rfl d_Reader_take_13 ?_
    refine lv_iload_n hx hb d_Reader_take_16 rfl (lv_at hl 2 rfl) ?_
    refine lv_aload_n hx hb d_Reader_take_17 rfl (lv_at hl 0 rfl) ?_
    refine va_get (D := D) (v := .int (k_line σ)) (C := R_Reader) (T := T_Reader) (N := 10) hx hb hts in_Reader hown hK hP 5 rfl rfl 6 (by decide) (hts _ q_f_Reader_62) (fun _ h9 => h9) rfl d_Reader_take_18 ?_
    refine g_callVv ⟨hx, hb, hml, hown, hts⟩ (c_Tokens_add h) (g_cwV 4 hts q_l_Reader_95 q_m_Tokens_add q_s_Tokens_add q_i_TokenDesk_Tokens q_k_Tokens_add (by decide +kernel) rfl rfl (by rw [hR]; exact ⟨Nat.le_of_ble_eq_true rfl, Nat.le_of_ble_eq_true rfl⟩)) (va_recv hK hP (q0 := 3) rfl rfl) cX_g hK hP hD hS hA hCx rfl hl.1 rfl (Nat.le_of_ble_eq_true rfl) d_Reader_take_21 ⟨Nat.zero_le _, Nat.zero_le _⟩ (fun σ1 H locs h hP hD hS => ?_)
    refine lv_aload_n hx hb d_Reader_take_24 rfl (lv_at hl 0 rfl) ?_
    refine lv_dup hx hb d_Reader_take_25 rfl ?_
    refine va_get (D := D) (v := .int (k_line σ1)) (C := R_Reader) (T := T_Reader) (N := 10) hx hb hts in_Reader hown hK hP 5 rfl rfl 6 (by decide) (hts _ q_f_Reader_62) (fun _ h9 => h9) rfl d_Reader_take_26 ?_
    refine lv_aload_n hx hb d_Reader_take_29 rfl (lv_at hl 0 rfl) ?_
    refine va_get (D := D) (v := .ref (ad 1)) (C := R_Reader) (T := T_Reader) (N := 10) hx hb hts in_Reader hown hK hP 5 rfl rfl 0 (by decide) (hts _ q_f_Reader_15) (fun _ h9 => h9) rfl d_Reader_take_30 ?_
    refine lv_aload_n hx hb d_Reader_take_33 rfl (lv_at hl 0 rfl) ?_
    refine va_get (D := D) (v := .int (k_at σ1)) (C := R_Reader) (T := T_Reader) (N := 10) hx hb hts in_Reader hown hK hP 5 rfl rfl 5 (by decide) (hts _ q_f_Reader_44) (fun _ h9 => h9) rfl d_Reader_take_34 ?_
    refine lv_iload_n hx hb d_Reader_take_37 rfl (lv_at hl 2 rfl) ?_
    refine g_callVi ⟨hx, hb, hml, hown, hts⟩ (c_Text_lineFeedsIn h) (g_cwV 2 hts q_l_Reader_146 q_m_Text_lineFeedsIn q_s_Text_lineFeedsIn q_i_TokenDesk_Text q_k_Text_lineFeedsIn (by decide +kernel) rfl rfl (by rw [hR]; exact ⟨Nat.le_of_ble_eq_true rfl, Nat.le_of_ble_eq_true rfl⟩)) (va_recv hK hP (q0 := 1) rfl rfl) cX_g hK hP hD hS hA hCx rfl hl.1 rfl (Nat.le_of_ble_eq_true rfl) d_Reader_take_38 ⟨Nat.zero_le _, Nat.zero_le _⟩ (fun r2 σ3 H locs h hP hD hS => ?_)
    refine lv_iadd hx hb d_Reader_take_41 ?_
    refine va_put (D := D) (v := .int ((k_line σ1) + r2)) (ty := .int) (C := R_Reader) (T := T_Reader) (N := 10) hx hb hts in_Reader t_Reader tk_Reader n_Reader hown hK hP hD hS 5 rfl rfl 6 (by decide) (hts _ q_f_Reader_62) (fun _ h9 => h9) rfl (by decide +kernel) rfl rfl (Nat.le_of_ble_eq_true rfl) d_Reader_take_42 (fun H locs hP hD hS => ?_)
    have hP : va_P D vwCl (kW ad ty (k_line' σ3 ((k_line σ1) + r2))) H := hP
    have hD : va_D A (kW ad ty (k_line' σ3 ((k_line σ1) + r2))) := hD
    obtain ⟨σ4, eσ4⟩ : ∃ z, z = (k_line' σ3 ((k_line σ1) + r2)) := ⟨_, rfl⟩
    rw [← eσ4] at hP hD
    have h := h σ4 eσ4
    refine lv_aload_n hx hb d_Reader_take_45 rfl (lv_at hl 0 rfl) ?_
    refine lv_aload_n hx hb d_Reader_take_46 rfl (lv_at hl 0 rfl) ?_
    refine va_get (D := D) (v := .ref (ad 1)) (C := R_Reader) (T := T_Reader) (N := 10) hx hb hts in_Reader hown hK hP 5 rfl rfl 0 (by decide) (hts _ q_f_Reader_15) (fun _ h9 => h9) rfl d_Reader_take_47 ?_
    refine lv_aload_n hx hb d_Reader_take_50 rfl (lv_at hl 0 rfl) ?_
    refine va_get (D := D) (v := .int (k_at σ4)) (C := R_Reader) (T := T_Reader) (N := 10) hx hb hts in_Reader hown hK hP 5 rfl rfl 5 (by decide) (hts _ q_f_Reader_44) (fun _ h9 => h9) rfl d_Reader_take_51 ?_
    refine g_callVi ⟨hx, hb, hml, hown, hts⟩ (c_Text_letterAt h) (g_cwV 1 hts q_l_Reader_48 q_m_Text_letterAt q_s_Text_letterAt q_i_TokenDesk_Text q_k_Text_letterAt (by decide +kernel) rfl rfl (by rw [hR]; exact ⟨Nat.le_of_ble_eq_true rfl, Nat.le_of_ble_eq_true rfl⟩)) (va_recv hK hP (q0 := 1) rfl rfl) cX_g hK hP hD hS hA hCx rfl hl.1 rfl (Nat.le_of_ble_eq_true rfl) d_Reader_take_54 ⟨Nat.zero_le _, Nat.zero_le _⟩ (fun r5 σ6 H locs h hP hD hS => ?_)
    refine g_callVv ⟨hx, hb, hml, hown, hts⟩ (c_Reader_countOpen h) (g_cwV 1 hts q_l_Reader_149 q_m_Reader_countOpen q_s_Reader_countOpen q_i_TokenDesk_Reader q_k_Reader_countOpen (by decide +kernel) rfl rfl (by rw [hR]; exact ⟨Nat.le_of_ble_eq_true rfl, Nat.le_of_ble_eq_true rfl⟩)) (va_recv hK hP (q0 := 5) rfl rfl) cX_g hK hP hD hS hA hCx rfl hl.1 rfl (Nat.le_of_ble_eq_true rfl) d_Reader_take_57 ⟨Nat.zero_le _, Nat.zero_le _⟩ (fun σ7 H locs h hP hD hS => ?_)
    refine lv_aload_n hx hb d_Reader_take_60 rfl (lv_at hl 0 rfl) ?_
    refine lv_iload_n hx hb d_Reader_take_61 rfl (lv_at hl 2 rfl) ?_
    refine va_put (D := D) (v := .int a2) (ty := .int) (C := R_Reader) (T := T_Reader) (N := 10) hx hb hts in_Reader t_Reader tk_Reader n_Reader hown hK hP hD hS 5 rfl rfl 5 (by decide) (hts _ q_f_Reader_44) (fun _ h9 => h9) rfl (by decide +kernel) rfl rfl (Nat.le_of_ble_eq_true rfl) d_Reader_take_62 (fun H locs hP hD hS => ?_)
    have hP : va_P D vwCl (kW ad ty (k_at' σ7 a2)) H := hP
    have hD : va_D A (kW ad ty (k_at' σ7 a2)) := hD
    obtain ⟨σ8, eσ8⟩ : ∃ z, z = (k_at' σ7 a2) := ⟨_, rfl⟩
    rw [← eσ8] at hP hD
    have h := h σ8 eσ8
    refine lv_iconst (v := 1) hx hb d_Reader_take_65 (by decide) ?_
    exact hret _ _ _ _ _ _ h rfl hP hD hS d_Reader_take_66
  · have h := h.2 hc
    refine lv_iconst (v := 0) hx hb d_Reader_take_5 (by decide) ?_
    exact hret _ _ _ _ _ _ h rfl hP hD hS d_Reader_take_6
set_option maxHeartbeats 4000000 in
set_option maxRecDepth 100000 in
theorem c_Reader_passToken {l : Launch} {D : va_G} {ad : Nat → Nat} {ty : Nat → ClassId} {cd : Nat → Nat → Nat} {σ : KS} {post : Int32 → KS → Prop} (h : wp_Reader_passToken σ post) : g_Meti l y_Reader_passToken (Cond.code y_Reader_passToken b_Reader_passToken 3 (some .boolean) :: gW) ({ frames := 7, cells := 0, slots := 0, locals := 152 }) D vwCl (gT ty) (kW ad ty) (cX cd) [.ref (ad 5)] σ post := by
  refine g_startz (cc := b_Reader_passToken) (maxL := 3) (by decide) rfl (Nat.le_of_ble_eq_true rfl) ?_
  intro p e s m args below meth c A Q R ls hR hx hb hts hown hml hA hS hP hD hK hCx hl hret
  unfold wp_Reader_passToken at h
  have hown : s.vm.findClass "TokenDesk$Reader" = some m.cls := hown
  have hl : lv_has ls 3 [(0, .ref (ad 5))] := hl
  have L16 : ∀ (σ : KS) (H : Heap) (locs : List Loc) (ls : Array Slot), L_Reader_passToken_16 post σ → va_P D vwCl (kW ad ty σ) H → va_D A (kW ad ty σ) → va_S A s.heap H locs → lv_has ls 3 [(0, .ref (ad 5))] → W p l e R s m args below meth c H locs 0 0 Q (F0 m 16 ls []) := by
    intro σ H locs ls h hP hD hS hl
    unfold L_Reader_passToken_16 at h
    refine lv_aload_n hx hb d_Reader_passToken_16 rfl (lv_at hl 0 rfl) ?_
    refine lv_iconst (v := 1) hx hb d_Reader_passToken_17 (by decide) ?_
    refine va_put (D := D) (v := .int 1) (ty := .boolean) (C := R_Reader) (T := T_Reader) (N := 10) hx hb hts in_Reader t_Reader tk_Reader n_Reader hown hK hP hD hS 5 rfl rfl 9 (by decide) (hts _ q_f_Reader_88) (fun _ h9 => h9) rfl (by decide +kernel) rfl rfl (Nat.le_of_ble_eq_true rfl) d_Reader_passToken_18 (fun H locs hP hD hS => ?_)
    have hP : va_P D vwCl (kW ad ty (k_lht' σ 1)) H := hP
    have hD : va_D A (kW ad ty (k_lht' σ 1)) := hD
    obtain ⟨σ3, eσ3⟩ : ∃ z, z = (k_lht' σ 1) := ⟨_, rfl⟩
    rw [← eσ3] at hP hD
    have h := h σ3 eσ3
    refine lv_aload_n hx hb d_Reader_passToken_21 rfl (lv_at hl 0 rfl) ?_
    refine va_get (D := D) (v := .ref (ad 7)) (C := R_Reader) (T := T_Reader) (N := 10) hx hb hts in_Reader hown hK hP 5 rfl rfl 2 (by decide) (hts _ q_f_Reader_28) (fun _ h9 => h9) rfl d_Reader_passToken_22 ?_
    refine lv_aload_n hx hb d_Reader_passToken_25 rfl (lv_at hl 0 rfl) ?_
    refine va_get (D := D) (v := .int (k_at σ3)) (C := R_Reader) (T := T_Reader) (N := 10) hx hb hts in_Reader hown hK hP 5 rfl rfl 5 (by decide) (hts _ q_f_Reader_44) (fun _ h9 => h9) rfl d_Reader_passToken_26 ?_
    refine g_callVi ⟨hx, hb, hml, hown, hts⟩ (c_Shapes_quoteOfStringAt h) (g_cwV 1 hts q_l_Reader_107 q_m_Shapes_quoteOfStringAt q_s_Shapes_quoteOfStringAt q_i_TokenDesk_Shapes q_k_Shapes_quoteOfStringAt (by decide +kernel) rfl rfl (by rw [hR]; exact ⟨Nat.le_of_ble_eq_true rfl, Nat.le_of_ble_eq_true rfl⟩)) (va_recv hK hP (q0 := 7) rfl rfl) cX_g hK hP hD hS hA hCx rfl hl.1 rfl (Nat.le_of_ble_eq_true rfl) d_Reader_passToken_29 ⟨Nat.zero_le _, Nat.zero_le _⟩ (fun r4 σ5 H locs h hP hD hS => ?_)
    refine lv_istore_n hx hb d_Reader_passToken_32 rfl hl (by decide) rfl (fun ls hl => ?_)
    refine lv_iload_n hx hb d_Reader_passToken_33 rfl (lv_at hl 0 rfl) ?_
    refine lv_iconst (v := (-1)) hx hb d_Reader_passToken_34 (by decide) ?_
    refine lv_icmp_eq hx hb d_Reader_passToken_35 (tgt := 53) rfl (fun hc => ?_) (fun hc => ?_)
    · have h := h.1 hc
      refine lv_aload_n hx hb d_Reader_passToken_53 rfl (lv_at hl 1 rfl) ?_
      refine va_get (D := D) (v := .ref (ad 1)) (C := R_Reader) (T := T_Reader) (N := 10) hx hb hts in_Reader hown hK hP 5 rfl rfl 0 (by decide) (hts _ q_f_Reader_15) (fun _ h9 => h9) rfl d_Reader_passToken_54 ?_
      refine lv_aload_n hx hb d_Reader_passToken_57 rfl (lv_at hl 1 rfl) ?_
      refine va_get (D := D) (v := .int (k_at σ5)) (C := R_Reader) (T := T_Reader) (N := 10) hx hb hts in_Reader hown hK hP 5 rfl rfl 5 (by decide) (hts _ q_f_Reader_44) (fun _ h9 => h9) rfl d_Reader_passToken_58 ?_
      refine g_callVi ⟨hx, hb, hml, hown, hts⟩ (c_Text_letterAt h) (g_cwV 1 hts q_l_Reader_48 q_m_Text_letterAt q_s_Text_letterAt q_i_TokenDesk_Text q_k_Text_letterAt (by decide +kernel) rfl rfl (by rw [hR]; exact ⟨Nat.le_of_ble_eq_true rfl, Nat.le_of_ble_eq_true rfl⟩)) (va_recv hK hP (q0 := 1) rfl rfl) cX_g hK hP hD hS hA hCx rfl hl.1 rfl (Nat.le_of_ble_eq_true rfl) d_Reader_passToken_61 ⟨Nat.zero_le _, Nat.zero_le _⟩ (fun r6 σ7 H locs h hP hD hS => ?_)
      refine g_callSi ⟨hx, hb, hml, hown, hts⟩ (c_Shapes_beginsName h) (g_cwS 1 hts q_l_Reader_117 q_t_Shapes_beginsName q_i_TokenDesk_Shapes q_k_Shapes_beginsName (by decide +kernel) rfl rfl (by rw [hR]; exact ⟨Nat.le_of_ble_eq_true rfl, Nat.le_of_ble_eq_true rfl⟩)) cX_g hK hP hD hS hA hCx rfl hl.1 rfl (Nat.le_of_ble_eq_true rfl) d_Reader_passToken_64 ⟨Nat.zero_le _, Nat.zero_le _⟩ (fun r8 σ9 H locs h hP hD hS => ?_)
      refine lv_if_eq hx hb d_Reader_passToken_67 (tgt := 100) rfl (fun hc => ?_) (fun hc => ?_)
      · have h := h.1 hc
        refine lv_aload_n hx hb d_Reader_passToken_100 rfl (lv_at hl 1 rfl) ?_
        refine va_get (D := D) (v := .ref (ad 7)) (C := R_Reader) (T := T_Reader) (N := 10) hx hb hts in_Reader hown hK hP 5 rfl rfl 2 (by decide) (hts _ q_f_Reader_28) (fun _ h9 => h9) rfl d_Reader_passToken_101 ?_
        refine lv_aload_n hx hb d_Reader_passToken_104 rfl (lv_at hl 1 rfl) ?_
        refine va_get (D := D) (v := .int (k_at σ9)) (C := R_Reader) (T := T_Reader) (N := 10) hx hb hts in_Reader hown hK hP 5 rfl rfl 5 (by decide) (hts _ q_f_Reader_44) (fun _ h9 => h9) rfl d_Reader_passToken_105 ?_
        refine g_callVi ⟨hx, hb, hml, hown, hts⟩ (c_Shapes_beginsNumber h) (g_cwV 1 hts q_l_Reader_127 q_m_Shapes_beginsNumber q_s_Shapes_beginsNumber q_i_TokenDesk_Shapes q_k_Shapes_beginsNumber (by decide +kernel) rfl rfl (by rw [hR]; exact ⟨Nat.le_of_ble_eq_true rfl, Nat.le_of_ble_eq_true rfl⟩)) (va_recv hK hP (q0 := 7) rfl rfl) cX_g hK hP hD hS hA hCx rfl hl.1 rfl (Nat.le_of_ble_eq_true rfl) d_Reader_passToken_108 ⟨Nat.zero_le _, Nat.zero_le _⟩ (fun r10 σ11 H locs h hP hD hS => ?_)
        refine lv_if_eq hx hb d_Reader_passToken_111 (tgt := 144) rfl (fun hc => ?_) (fun hc => ?_)
        · have h := h.1 hc
          refine lv_aload_n hx hb d_Reader_passToken_144 rfl (lv_at hl 1 rfl) ?_
          refine va_get (D := D) (v := .ref (ad 7)) (C := R_Reader) (T := T_Reader) (N := 10) hx hb hts in_Reader hown hK hP 5 rfl rfl 2 (by decide) (hts _ q_f_Reader_28) (fun _ h9 => h9) rfl d_Reader_passToken_145 ?_
          refine lv_aload_n hx hb d_Reader_passToken_148 rfl (lv_at hl 1 rfl) ?_
          refine va_get (D := D) (v := .int (k_at σ11)) (C := R_Reader) (T := T_Reader) (N := 10) hx hb hts in_Reader hown hK hP 5 rfl rfl 5 (by decide) (hts _ q_f_Reader_44) (fun _ h9 => h9) rfl d_Reader_passToken_149 ?_
          refine g_callVi ⟨hx, hb, hml, hown, hts⟩ (c_Shapes_signKind h) (g_cwV 1 hts q_l_Reader_136 q_m_Shapes_signKind q_s_Shapes_signKind q_i_TokenDesk_Shapes q_k_Shapes_signKind (by decide +kernel) rfl rfl (by rw [hR]; exact ⟨Nat.le_of_ble_eq_true rfl, Nat.le_of_ble_eq_true rfl⟩)) (va_recv hK hP (q0 := 7) rfl rfl) cX_g hK hP hD hS hA hCx rfl hl.1 rfl (Nat.le_of_ble_eq_true rfl) d_Reader_passToken_152 ⟨Nat.zero_le _, Nat.zero_le _⟩ (fun r12 σ13 H locs h hP hD hS => ?_)
          refine lv_istore_n hx hb d_Reader_passToken_155 rfl hl (by decide) rfl (fun ls hl => ?_)
          refine lv_aload_n hx hb d_Reader_passToken_156 rfl (lv_at hl 2 rfl) ?_
          refine lv_iload_n hx hb d_Reader_passToken_157 rfl (lv_at hl 0 rfl) ?_
          refine lv_aload_n hx hb d_Reader_passToken_158 rfl (lv_at hl 2 rfl) ?_
          refine va_get (D := D) (v := .ref (ad 7)) (C := R_Reader) (T := T_Reader) (N := 10) hx hb hts in_Reader hown hK hP 5 rfl rfl 2 (by decide) (hts _ q_f_Reader_28) (fun _ h9 => h9) rfl d_Reader_passToken_159 ?_
          refine lv_aload_n hx hb d_Reader_passToken_162 rfl (lv_at hl 2 rfl) ?_
          refine va_get (D := D) (v := .int (k_at σ13)) (C := R_Reader) (T := T_Reader) (N := 10) hx hb hts in_Reader hown hK hP 5 rfl rfl 5 (by decide) (hts _ q_f_Reader_44) (fun _ h9 => h9) rfl d_Reader_passToken_163 ?_
          refine lv_iload_n hx hb d_Reader_passToken_166 rfl (lv_at hl 0 rfl) ?_
          refine g_callVi ⟨hx, hb, hml, hown, hts⟩ (c_Shapes_signEnd h) (g_cwV 2 hts q_l_Reader_139 q_m_Shapes_signEnd q_s_Shapes_signEnd q_i_TokenDesk_Shapes q_k_Shapes_signEnd (by decide +kernel) rfl rfl (by rw [hR]; exact ⟨Nat.le_of_ble_eq_true rfl, Nat.le_of_ble_eq_true rfl⟩)) (va_recv hK hP (q0 := 7) rfl rfl) cX_g hK hP hD hS hA hCx rfl hl.1 rfl (Nat.le_of_ble_eq_true rfl) d_Reader_passToken_167 ⟨Nat.zero_le _, Nat.zero_le _⟩ (fun r14 σ15 H locs h hP hD hS => ?_)
          refine g_callVi ⟨hx, hb, hml, hown, hts⟩ (c_Reader_take h) (g_cwV 2 hts q_l_Reader_113 q_m_Reader_take q_s_Reader_take q_i_TokenDesk_Reader q_k_Reader_take (by decide +kernel) rfl rfl (by rw [hR]; exact ⟨Nat.le_of_ble_eq_true rfl, Nat.le_of_ble_eq_true rfl⟩)) (va_recv hK hP (q0 := 5) rfl rfl) cX_g hK hP hD hS hA hCx rfl hl.1 rfl (Nat.le_of_ble_eq_true rfl) d_Reader_passToken_170 ⟨Nat.zero_le _, Nat.zero_le _⟩ (fun r16 σ17 H locs h hP hD hS => ?_)
          exact hret _ _ _ _ _ _ h.2 h.1 hP hD hS d_Reader_passToken_173
        · have h := h.2 hc
          refine lv_aload_n hx hb d_Reader_passToken_114 rfl (lv_at hl 1 rfl) ?_
          refine va_get (D := D) (v := .ref (ad 7)) (C := R_Reader) (T := T_Reader) (N := 10) hx hb hts in_Reader hown hK hP 5 rfl rfl 2 (by decide) (hts _ q_f_Reader_28) (fun _ h9 => h9) rfl d_Reader_passToken_115 ?_
          refine lv_aload_n hx hb d_Reader_passToken_118 rfl (lv_at hl 1 rfl) ?_
          refine va_get (D := D) (v := .int (k_at σ11)) (C := R_Reader) (T := T_Reader) (N := 10) hx hb hts in_Reader hown hK hP 5 rfl rfl 5 (by decide) (hts _ q_f_Reader_44) (fun _ h9 => h9) rfl d_Reader_passToken_119 ?_
          refine g_callVi ⟨hx, hb, hml, hown, hts⟩ (c_Shapes_numberEnd h) (g_cwV 1 hts q_l_Reader_130 q_m_Shapes_numberEnd q_s_Shapes_numberEnd q_i_TokenDesk_Shapes q_k_Shapes_numberEnd (by decide +kernel) rfl rfl (by rw [hR]; exact ⟨Nat.le_of_ble_eq_true rfl, Nat.le_of_ble_eq_true rfl⟩)) (va_recv hK hP (q0 := 7) rfl rfl) cX_g hK hP hD hS hA hCx rfl hl.1 rfl (Nat.le_of_ble_eq_true rfl) d_Reader_passToken_122 ⟨Nat.zero_le _, Nat.zero_le _⟩ (fun r18 σ19 H locs h hP hD hS => ?_)
          refine lv_istore_n hx hb d_Reader_passToken_125 rfl hl (by decide) rfl (fun ls hl => ?_)
          refine lv_aload_n hx hb d_Reader_passToken_126 rfl (lv_at hl 2 rfl) ?_
          refine lv_aload_n hx hb d_Reader_passToken_127 rfl (lv_at hl 2 rfl) ?_
          refine va_get (D := D) (v := .ref (ad 7)) (C := R_Reader) (T := T_Reader) (N := 10) hx hb hts in_Reader hown hK hP 5 rfl rfl 2 (by decide) (hts _ q_f_Reader_28) (fun _ h9 => h9) rfl d_Reader_passToken_128 ?_
          refine lv_aload_n hx hb d_Reader_passToken_131 rfl (lv_at hl 2 rfl) ?_
          refine va_get (D := D) (v := .int (k_at σ19)) (C := R_Reader) (T := T_Reader) (N := 10) hx hb hts in_Reader hown hK hP 5 rfl rfl 5 (by decide) (hts _ q_f_Reader_44) (fun _ h9 => h9) rfl d_Reader_passToken_132 ?_
          refine lv_iload_n hx hb d_Reader_passToken_135 rfl (lv_at hl 0 rfl) ?_
          refine g_callVi ⟨hx, hb, hml, hown, hts⟩ (c_Shapes_numberKind h) (g_cwV 2 hts q_l_Reader_133 q_m_Shapes_numberKind q_s_Shapes_numberKind q_i_TokenDesk_Shapes q_k_Shapes_numberKind (by decide +kernel) rfl rfl (by rw [hR]; exact ⟨Nat.le_of_ble_eq_true rfl, Nat.le_of_ble_eq_true rfl⟩)) (va_recv hK hP (q0 := 7) rfl rfl) cX_g hK hP hD hS hA hCx rfl hl.1 rfl (Nat.le_of_ble_eq_true rfl) d_Reader_passToken_136 ⟨Nat.zero_le _, Nat.zero_le _⟩ (fun r20 σ21 H locs h hP hD hS => ?_)
          refine lv_iload_n hx hb d_Reader_passToken_139 rfl (lv_at hl 0 rfl) ?_
          refine g_callVi ⟨hx, hb, hml, hown, hts⟩ (c_Reader_take h) (g_cwV 2 hts q_l_Reader_113 q_m_Reader_take q_s_Reader_take q_i_TokenDesk_Reader q_k_Reader_take (by decide +kernel) rfl rfl (by rw [hR]; exact ⟨Nat.le_of_ble_eq_true rfl, Nat.le_of_ble_eq_true rfl⟩)) (va_recv hK hP (q0 := 5) rfl rfl) cX_g hK hP hD hS hA hCx rfl hl.1 rfl (Nat.le_of_ble_eq_true rfl) d_Reader_passToken_140 ⟨Nat.zero_le _, Nat.zero_le _⟩ (fun r22 σ23 H locs h hP hD hS => ?_)
          exact hret _ _ _ _ _ _ h.2 h.1 hP hD hS d_Reader_passToken_143
      · have h := h.2 hc
        refine lv_aload_n hx hb d_Reader_passToken_70 rfl (lv_at hl 1 rfl) ?_
        refine va_get (D := D) (v := .ref (ad 7)) (C := R_Reader) (T := T_Reader) (N := 10) hx hb hts in_Reader hown hK hP 5 rfl rfl 2 (by decide) (hts _ q_f_Reader_28) (fun _ h9 => h9) rfl d_Reader_passToken_71 ?_
        refine lv_aload_n hx hb d_Reader_passToken_74 rfl (lv_at hl 1 rfl) ?_
        refine va_get (D := D) (v := .int (k_at σ9)) (C := R_Reader) (T := T_Reader) (N := 10) hx hb hts in_Reader hown hK hP 5 rfl rfl 5 (by decide) (hts _ q_f_Reader_44) (fun _ h9 => h9) rfl d_Reader_passToken_75 ?_
        refine g_callVi ⟨hx, hb, hml, hown, hts⟩ (c_Shapes_nameEnd h) (g_cwV 1 hts q_l_Reader_120 q_m_Shapes_nameEnd q_s_Shapes_nameEnd q_i_TokenDesk_Shapes q_k_Shapes_nameEnd (by decide +kernel) rfl rfl (by rw [hR]; exact ⟨Nat.le_of_ble_eq_true rfl, Nat.le_of_ble_eq_true rfl⟩)) (va_recv hK hP (q0 := 7) rfl rfl) cX_g hK hP hD hS hA hCx rfl hl.1 rfl (Nat.le_of_ble_eq_true rfl) d_Reader_passToken_78 ⟨Nat.zero_le _, Nat.zero_le _⟩ (fun r24 σ25 H locs h hP hD hS => ?_)
        refine lv_istore_n hx hb d_Reader_passToken_81 rfl hl (by decide) rfl (fun ls hl => ?_)
        refine lv_aload_n hx hb d_Reader_passToken_82 rfl (lv_at hl 2 rfl) ?_
        refine lv_aload_n hx hb d_Reader_passToken_83 rfl (lv_at hl 2 rfl) ?_
        refine va_get (D := D) (v := .ref (ad 7)) (C := R_Reader) (T := T_Reader) (N := 10) hx hb hts in_Reader hown hK hP 5 rfl rfl 2 (by decide) (hts _ q_f_Reader_28) (fun _ h9 => h9) rfl d_Reader_passToken_84 ?_
        refine lv_aload_n hx hb d_Reader_passToken_87 rfl (lv_at hl 2 rfl) ?_
        refine va_get (D := D) (v := .int (k_at σ25)) (C := R_Reader) (T := T_Reader) (N := 10) hx hb hts in_Reader hown hK hP 5 rfl rfl 5 (by decide) (hts _ q_f_Reader_44) (fun _ h9 => h9) rfl d_Reader_passToken_88 ?_
        refine lv_iload_n hx hb d_Reader_passToken_91 rfl (lv_at hl 0 rfl) ?_
        refine g_callVi ⟨hx, hb, hml, hown, hts⟩ (c_Shapes_nameKind h) (g_cwV 2 hts q_l_Reader_123 q_m_Shapes_nameKind q_s_Shapes_nameKind q_i_TokenDesk_Shapes q_k_Shapes_nameKind (by decide +kernel) rfl rfl (by rw [hR]; exact ⟨Nat.le_of_ble_eq_true rfl, Nat.le_of_ble_eq_true rfl⟩)) (va_recv hK hP (q0 := 7) rfl rfl) cX_g hK hP hD hS hA hCx rfl hl.1 rfl (Nat.le_of_ble_eq_true rfl) d_Reader_passToken_92 ⟨Nat.zero_le _, Nat.zero_le _⟩ (fun r26 σ27 H locs h hP hD hS => ?_)
        refine lv_iload_n hx hb d_Reader_passToken_95 rfl (lv_at hl 0 rfl) ?_
        refine g_callVi ⟨hx, hb, hml, hown, hts⟩ (c_Reader_take h) (g_cwV 2 hts q_l_Reader_113 q_m_Reader_take q_s_Reader_take q_i_TokenDesk_Reader q_k_Reader_take (by decide +kernel) rfl rfl (by rw [hR]; exact ⟨Nat.le_of_ble_eq_true rfl, Nat.le_of_ble_eq_true rfl⟩)) (va_recv hK hP (q0 := 5) rfl rfl) cX_g hK hP hD hS hA hCx rfl hl.1 rfl (Nat.le_of_ble_eq_true rfl) d_Reader_passToken_96 ⟨Nat.zero_le _, Nat.zero_le _⟩ (fun r28 σ29 H locs h hP hD hS => ?_)
        exact hret _ _ _ _ _ _ h.2 h.1 hP hD hS d_Reader_passToken_99
    · have h := h.2 hc
      refine lv_aload_n hx hb d_Reader_passToken_38 rfl (lv_at hl 1 rfl) ?_
      refine lv_bipush (v := 7) hx hb d_Reader_passToken_39 (by decide) ?_
      refine lv_aload_n hx hb d_Reader_passToken_41 rfl (lv_at hl 1 rfl) ?_
      refine va_get (D := D) (v := .ref (ad 7)) (C := R_Reader) (T := T_Reader) (N := 10) hx hb hts in_Reader hown hK hP 5 rfl rfl 2 (by decide) (hts _ q_f_Reader_28) (fun _ h9 => h9) rfl d_Reader_passToken_42 ?_
      refine lv_iload_n hx hb d_Reader_passToken_45 rfl (lv_at hl 0 rfl) ?_
      refine g_callVi ⟨hx, hb, hml, hown, hts⟩ (c_Shapes_stringEnd h) (g_cwV 1 hts q_l_Reader_110 q_m_Shapes_stringEnd q_s_Shapes_stringEnd q_i_TokenDesk_Shapes q_k_Shapes_stringEnd (by decide +kernel) rfl rfl (by rw [hR]; exact ⟨Nat.le_of_ble_eq_true rfl, Nat.le_of_ble_eq_true rfl⟩)) (va_recv hK hP (q0 := 7) rfl rfl) cX_g hK hP hD hS hA hCx rfl hl.1 rfl (Nat.le_of_ble_eq_true rfl) d_Reader_passToken_46 ⟨Nat.zero_le _, Nat.zero_le _⟩ (fun r30 σ31 H locs h hP hD hS => ?_)
      refine g_callVi ⟨hx, hb, hml, hown, hts⟩ (c_Reader_take h) (g_cwV 2 hts q_l_Reader_113 q_m_Reader_take q_s_Reader_take q_i_TokenDesk_Reader q_k_Reader_take (by decide +kernel) rfl rfl (by rw [hR]; exact ⟨Nat.le_of_ble_eq_true rfl, Nat.le_of_ble_eq_true rfl⟩)) (va_recv hK hP (q0 := 5) rfl rfl) cX_g hK hP hD hS hA hCx rfl hl.1 rfl (Nat.le_of_ble_eq_true rfl) d_Reader_passToken_49 ⟨Nat.zero_le _, Nat.zero_le _⟩ (fun r32 σ33 H locs h hP hD hS => ?_)
      exact hret _ _ _ _ _ _ h.2 h.1 hP hD hS d_Reader_passToken_52
  refine lv_aload_n hx hb d_Reader_passToken_0 rfl (lv_at hl 0 rfl) ?_
  refine va_get (D := D) (v := .int (k_lht σ)) (C := R_Reader) (T := T_Reader) (N := 10) hx hb hts in_Reader hown hK hP 5 rfl rfl 9 (by decide) (hts _ q_f_Reader_88) (fun _ h9 => h9) rfl d_Reader_passToken_1 ?_
  refine lv_if_ne hx hb d_Reader_passToken_4 (tgt := 16) rfl (fun hc => ?_) (fun hc => ?_)
  · have h := h.1 hc
    exact L16 σ _ _ _ h hP hD hS hl
  · have h := h.2 hc
    refine lv_aload_n hx hb d_Reader_passToken_7 rfl (lv_at hl 0 rfl) ?_
    refine g_callVi ⟨hx, hb, hml, hown, hts⟩ (c_Reader_settleLevel h) (g_cwV 0 hts q_l_Reader_104 q_m_Reader_settleLevel q_s_Reader_settleLevel q_i_TokenDesk_Reader q_k_Reader_settleLevel (by decide +kernel) rfl rfl (by rw [hR]; exact ⟨Nat.le_of_ble_eq_true rfl, Nat.le_of_ble_eq_true rfl⟩)) (va_recv hK hP (q0 := 5) rfl rfl) cX_g hK hP hD hS hA hCx rfl hl.1 rfl (Nat.le_of_ble_eq_true rfl) d_Reader_passToken_8 ⟨Nat.zero_le _, Nat.zero_le _⟩ (fun r1 σ2 H locs h hP hD hS => ?_)
    refine lv_if_ne hx hb d_Reader_passToken_11 (tgt := 16) rfl (fun hc => ?_) (fun hc => ?_)
    · have h := h.1 hc
      exact L16 σ2 _ _ _ h hP hD hS hl
    · have h := h.2 hc
      refine lv_iconst (v := 0) hx hb d_Reader_passToken_14 (by decide) ?_
      exact hret _ _ _ _ _ _ h rfl hP hD hS d_Reader_passToken_15
set_option maxHeartbeats 4000000 in
set_option maxRecDepth 100000 in
theorem c_Reader_readText {l : Launch} {D : va_G} {ad : Nat → Nat} {ty : Nat → ClassId} {cd : Nat → Nat → Nat} {σ : KS} {post : Int32 → KS → Prop} (h : wp_Reader_readText σ post) : g_Meti l y_Reader_readText (Cond.code y_Reader_readText b_Reader_readText 4 (some .int) :: gW) ({ frames := 8, cells := 0, slots := 0, locals := 174 }) D vwCl (gT ty) (kW ad ty) (cX cd) [.ref (ad 5)] σ post := by
  refine g_starti (cc := b_Reader_readText) (maxL := 4) (by decide) rfl (Nat.le_of_ble_eq_true rfl) ?_
  intro p e s m args below meth c A Q R ls hR hx hb hts hown hml hA hS hP hD hK hCx hl hret
  unfold wp_Reader_readText at h
  have hown : s.vm.findClass "TokenDesk$Reader" = some m.cls := hown
  have hl : lv_has ls 4 [(0, .ref (ad 5))] := hl
  have L169 : ∀ (σ : KS) (H : Heap) (locs : List Loc) (ls : Array Slot), L_Reader_readText_169 post σ → va_P D vwCl (kW ad ty σ) H → va_D A (kW ad ty σ) → va_S A s.heap H locs → lv_has ls 4 [(0, .ref (ad 5))] → W p l e R s m args below meth c H locs 0 0 Q (F0 m 169 ls []) := by
    intro σ H locs ls h hP hD hS hl
    unfold L_Reader_readText_169 at h
    refine lv_aload_n hx hb d_Reader_readText_169 rfl (lv_at hl 0 rfl) ?_
    refine g_callVv ⟨hx, hb, hml, hown, hts⟩ (c_Reader_end h) (g_cwV 0 hts q_l_Reader_69 q_m_Reader_end q_s_Reader_end q_i_TokenDesk_Reader q_k_Reader_end (by decide +kernel) rfl rfl (by rw [hR]; exact ⟨Nat.le_of_ble_eq_true rfl, Nat.le_of_ble_eq_true rfl⟩)) (va_recv hK hP (q0 := 5) rfl rfl) cX_g hK hP hD hS hA hCx rfl hl.1 rfl (Nat.le_of_ble_eq_true rfl) d_Reader_readText_170 ⟨Nat.zero_le _, Nat.zero_le _⟩ (fun σ21 H locs h hP hD hS => ?_)
    refine lv_iconst (v := (-1)) hx hb d_Reader_readText_173 (by decide) ?_
    exact hret _ _ _ _ _ _ h hP hD hS d_Reader_readText_174
  have L21 : ∀ n : Nat, ∀ (x2 : Int32) (σ : KS) (H : Heap) (locs : List Loc) (ls : Array Slot), L_Reader_readText_21 post n x2 σ → va_P D vwCl (kW ad ty σ) H → va_D A (kW ad ty σ) → va_S A s.heap H locs → lv_has ls 4 [(0, .ref (ad 5)), (2, .int x2)] → W p l e R s m args below meth c H locs 0 0 Q (F0 m 21 ls []) := by
    intro n21
    induction n21 with
    | zero => intro x2 σ H locs ls h hP hD hS hl; exact h.elim
    | succ n21 ih21 =>
      have L163 : ∀ (x2 : Int32) (σ : KS) (H : Heap) (locs : List Loc) (ls : Array Slot), L_Reader_readText_163 post (fun x2 σ => L_Reader_readText_21 post n21 x2 σ) x2 σ → va_P D vwCl (kW ad ty σ) H → va_D A (kW ad ty σ) → va_S A s.heap H locs → lv_has ls 4 [(0, .ref (ad 5)), (2, .int x2)] → W p l e R s m args below meth c H locs 0 0 Q (F0 m 163 ls []) := by
        intro x2 σ H locs ls h hP hD hS hl
        unfold L_Reader_readText_163 at h
        refine lv_iinc (v := (x2 + 1)) hx hb d_Reader_readText_163 hl (k := 1) rfl rfl (by decide) rfl (fun ls hl => ?_)
        refine lv_goto hx hb d_Reader_readText_166 (tgt := 21) rfl ?_
        exact ih21 (x2 + 1) σ _ _ _ h hP hD hS (lv_sub hl [1, 0] rfl)
      intro x2 σ H locs ls h hP hD hS hl
      unfold L_Reader_readText_21 at h
      refine lv_iload_n hx hb d_Reader_readText_21 rfl (lv_at hl 1 rfl) ?_
      refine lv_aload_n hx hb d_Reader_readText_22 rfl (lv_at hl 0 rfl) ?_
      refine va_get (D := D) (v := .ref (ad 1)) (C := R_Reader) (T := T_Reader) (N := 10) hx hb hts in_Reader hown hK hP 5 rfl rfl 0 (by decide) (hts _ q_f_Reader_15) (fun _ h9 => h9) rfl d_Reader_readText_23 ?_
      refine g_callVi ⟨hx, hb, hml, hown, hts⟩ (c_Text_size h) (g_cwV 0 hts q_l_Reader_41 q_m_Text_size q_s_Text_size q_i_TokenDesk_Text q_k_Text_size (by decide +kernel) rfl rfl (by rw [hR]; exact ⟨Nat.le_of_ble_eq_true rfl, Nat.le_of_ble_eq_true rfl⟩)) (va_recv hK hP (q0 := 1) rfl rfl) cX_g hK hP hD hS hA hCx rfl hl.1 rfl (Nat.le_of_ble_eq_true rfl) d_Reader_readText_26 ⟨Nat.zero_le _, Nat.zero_le _⟩ (fun r4 σ5 H locs h hP hD hS => ?_)
      refine lv_icmp_ge hx hb d_Reader_readText_29 (tgt := 169) rfl (fun hc => ?_) (fun hc => ?_)
      · have h := h.1 hc
        exact L169 σ5 _ _ _ h hP hD hS (lv_sub hl [0] rfl)
      · have h := h.2 hc
        refine lv_aload_n hx hb d_Reader_readText_32 rfl (lv_at hl 0 rfl) ?_
        refine va_get (D := D) (v := .int (k_at σ5)) (C := R_Reader) (T := T_Reader) (N := 10) hx hb hts in_Reader hown hK hP 5 rfl rfl 5 (by decide) (hts _ q_f_Reader_44) (fun _ h9 => h9) rfl d_Reader_readText_33 ?_
        refine lv_aload_n hx hb d_Reader_readText_36 rfl (lv_at hl 0 rfl) ?_
        refine va_get (D := D) (v := .ref (ad 1)) (C := R_Reader) (T := T_Reader) (N := 10) hx hb hts in_Reader hown hK hP 5 rfl rfl 0 (by decide) (hts _ q_f_Reader_15) (fun _ h9 => h9) rfl d_Reader_readText_37 ?_
        refine g_callVi ⟨hx, hb, hml, hown, hts⟩ (c_Text_size h) (g_cwV 0 hts q_l_Reader_41 q_m_Text_size q_s_Text_size q_i_TokenDesk_Text q_k_Text_size (by decide +kernel) rfl rfl (by rw [hR]; exact ⟨Nat.le_of_ble_eq_true rfl, Nat.le_of_ble_eq_true rfl⟩)) (va_recv hK hP (q0 := 1) rfl rfl) cX_g hK hP hD hS hA hCx rfl hl.1 rfl (Nat.le_of_ble_eq_true rfl) d_Reader_readText_40 ⟨Nat.zero_le _, Nat.zero_le _⟩ (fun r6 σ7 H locs h hP hD hS => ?_)
        refine lv_icmp_ge hx hb d_Reader_readText_43 (tgt := 169) rfl (fun hc => ?_) (fun hc => ?_)
        · have h := h.1 hc
          exact L169 σ7 _ _ _ h hP hD hS (lv_sub hl [0] rfl)
        · have h := h.2 hc
          refine lv_aload_n hx hb d_Reader_readText_46 rfl (lv_at hl 0 rfl) ?_
          refine va_get (D := D) (v := .ref (ad 1)) (C := R_Reader) (T := T_Reader) (N := 10) hx hb hts in_Reader hown hK hP 5 rfl rfl 0 (by decide) (hts _ q_f_Reader_15) (fun _ h9 => h9) rfl d_Reader_readText_47 ?_
          refine lv_aload_n hx hb d_Reader_readText_50 rfl (lv_at hl 0 rfl) ?_
          refine va_get (D := D) (v := .int (k_at σ7)) (C := R_Reader) (T := T_Reader) (N := 10) hx hb hts in_Reader hown hK hP 5 rfl rfl 5 (by decide) (hts _ q_f_Reader_44) (fun _ h9 => h9) rfl d_Reader_readText_51 ?_
          refine g_callVi ⟨hx, hb, hml, hown, hts⟩ (c_Text_letterAt h) (g_cwV 1 hts q_l_Reader_48 q_m_Text_letterAt q_s_Text_letterAt q_i_TokenDesk_Text q_k_Text_letterAt (by decide +kernel) rfl rfl (by rw [hR]; exact ⟨Nat.le_of_ble_eq_true rfl, Nat.le_of_ble_eq_true rfl⟩)) (va_recv hK hP (q0 := 1) rfl rfl) cX_g hK hP hD hS hA hCx rfl hl.1 rfl (Nat.le_of_ble_eq_true rfl) d_Reader_readText_54 ⟨Nat.zero_le _, Nat.zero_le _⟩ (fun r8 σ9 H locs h hP hD hS => ?_)
          refine lv_istore_n hx hb d_Reader_readText_57 rfl hl (by decide) rfl (fun ls hl => ?_)
          refine lv_iload_n hx hb d_Reader_readText_58 rfl (lv_at hl 0 rfl) ?_
          refine lv_bipush (v := 32) hx hb d_Reader_readText_59 (by decide) ?_
          refine lv_icmp_ne hx hb d_Reader_readText_61 (tgt := 77) rfl (fun hc => ?_) (fun hc => ?_)
          · have h := h.1 hc
            refine lv_iload_n hx hb d_Reader_readText_77 rfl (lv_at hl 0 rfl) ?_
            refine lv_bipush (v := 35) hx hb d_Reader_readText_78 (by decide) ?_
            refine lv_icmp_ne hx hb d_Reader_readText_80 (tgt := 101) rfl (fun hc => ?_) (fun hc => ?_)
            · have h := h.1 hc
              refine lv_iload_n hx hb d_Reader_readText_101 rfl (lv_at hl 0 rfl) ?_
              refine lv_bipush (v := 10) hx hb d_Reader_readText_102 (by decide) ?_
              refine lv_icmp_ne hx hb d_Reader_readText_104 (tgt := 114) rfl (fun hc => ?_) (fun hc => ?_)
              · have h := h.1 hc
                refine lv_aload_n hx hb d_Reader_readText_114 rfl (lv_at hl 1 rfl) ?_
                refine va_get (D := D) (v := .ref (ad 1)) (C := R_Reader) (T := T_Reader) (N := 10) hx hb hts in_Reader hown hK hP 5 rfl rfl 0 (by decide) (hts _ q_f_Reader_15) (fun _ h9 => h9) rfl d_Reader_readText_115 ?_
                refine lv_aload_n hx hb d_Reader_readText_118 rfl (lv_at hl 1 rfl) ?_
                refine va_get (D := D) (v := .int (k_at σ9)) (C := R_Reader) (T := T_Reader) (N := 10) hx hb hts in_Reader hown hK hP 5 rfl rfl 5 (by decide) (hts _ q_f_Reader_44) (fun _ h9 => h9) rfl d_Reader_readText_119 ?_
                refine g_callVi ⟨hx, hb, hml, hown, hts⟩ (c_Text_joinsLinesAt h) (g_cwV 1 hts q_l_Reader_58 q_m_Text_joinsLinesAt q_s_Text_joinsLinesAt q_i_TokenDesk_Text q_k_Text_joinsLinesAt (by decide +kernel) rfl rfl (by rw [hR]; exact ⟨Nat.le_of_ble_eq_true rfl, Nat.le_of_ble_eq_true rfl⟩)) (va_recv hK hP (q0 := 1) rfl rfl) cX_g hK hP hD hS hA hCx rfl hl.1 rfl (Nat.le_of_ble_eq_true rfl) d_Reader_readText_122 ⟨Nat.zero_le _, Nat.zero_le _⟩ (fun r10 σ11 H locs h hP hD hS => ?_)
                refine lv_if_eq hx hb d_Reader_readText_125 (tgt := 151) rfl (fun hc => ?_) (fun hc => ?_)
                · have h := h.1 hc
                  refine lv_aload_n hx hb d_Reader_readText_151 rfl (lv_at hl 1 rfl) ?_
                  refine g_callVi ⟨hx, hb, hml, hown, hts⟩ (c_Reader_passToken h) (g_cwV 0 hts q_l_Reader_65 q_m_Reader_passToken q_s_Reader_passToken q_i_TokenDesk_Reader q_k_Reader_passToken (by decide +kernel) rfl rfl (by rw [hR]; exact ⟨Nat.le_of_ble_eq_true rfl, Nat.le_of_ble_eq_true rfl⟩)) (va_recv hK hP (q0 := 5) rfl rfl) cX_g hK hP hD hS hA hCx rfl hl.1 rfl (Nat.le_of_ble_eq_true rfl) d_Reader_readText_152 ⟨Nat.zero_le _, Nat.zero_le _⟩ (fun r12 σ13 H locs h hP hD hS => ?_)
                  refine lv_if_ne hx hb d_Reader_readText_155 (tgt := 163) rfl (fun hc => ?_) (fun hc => ?_)
                  · have h := h.1 hc
                    exact L163 x2 σ13 _ _ _ h hP hD hS (lv_sub hl [1, 2] rfl)
                  · have h := h.2 hc
                    refine lv_aload_n hx hb d_Reader_readText_158 rfl (lv_at hl 1 rfl) ?_
                    refine va_get (D := D) (v := .int (k_at σ13)) (C := R_Reader) (T := T_Reader) (N := 10) hx hb hts in_Reader hown hK hP 5 rfl rfl 5 (by decide) (hts _ q_f_Reader_44) (fun _ h9 => h9) rfl d_Reader_readText_159 ?_
                    exact hret _ _ _ _ _ _ h hP hD hS d_Reader_readText_162
                · have h := h.2 hc
                  refine lv_aload_n hx hb d_Reader_readText_128 rfl (lv_at hl 1 rfl) ?_
                  refine lv_dup hx hb d_Reader_readText_129 rfl ?_
                  refine va_get (D := D) (v := .int (k_at σ11)) (C := R_Reader) (T := T_Reader) (N := 10) hx hb hts in_Reader hown hK hP 5 rfl rfl 5 (by decide) (hts _ q_f_Reader_44) (fun _ h9 => h9) rfl d_Reader_readText_130 ?_
                  refine lv_iconst (v := 2) hx hb d_Reader_readText_133 (by decide) ?_
                  refine lv_iadd hx hb d_Reader_readText_134 ?_
                  refine va_put (D := D) (v := .int ((k_at σ11) + 2)) (ty := .int) (C := R_Reader) (T := T_Reader) (N := 10) hx hb hts in_Reader t_Reader tk_Reader n_Reader hown hK hP hD hS 5 rfl rfl 5 (by decide) (hts _ q_f_Reader_44) (fun _ h9 => h9) rfl (by decide +kernel) rfl rfl (Nat.le_of_ble_eq_true rfl) d_Reader_readText_135 (fun H locs hP hD hS => ?_)
                  have hP : va_P D vwCl (kW ad ty (k_at' σ11 ((k_at σ11) + 2))) H := hP
                  have hD : va_D A (kW ad ty (k_at' σ11 ((k_at σ11) + 2))) := hD
                  obtain ⟨σ14, eσ14⟩ : ∃ z, z = (k_at' σ11 ((k_at σ11) + 2)) := ⟨_, rfl⟩
                  rw [← eσ14] at hP hD
                  have h := h σ14 eσ14
                  refine lv_aload_n hx hb d_Reader_readText_138 rfl (lv_at hl 1 rfl) ?_
                  refine lv_dup hx hb d_Reader_readText_139 rfl ?_
                  refine va_get (D := D) (v := .int (k_line σ14)) (C := R_Reader) (T := T_Reader) (N := 10) hx hb hts in_Reader hown hK hP 5 rfl rfl 6 (by decide) (hts _ q_f_Reader_62) (fun _ h9 => h9) rfl d_Reader_readText_140 ?_
                  refine lv_iconst (v := 1) hx hb d_Reader_readText_143 (by decide) ?_
                  refine lv_iadd hx hb d_Reader_readText_144 ?_
                  refine va_put (D := D) (v := .int ((k_line σ14) + 1)) (ty := .int) (C := R_Reader) (T := T_Reader) (N := 10) hx hb hts in_Reader t_Reader tk_Reader n_Reader hown hK hP hD hS 5 rfl rfl 6 (by decide) (hts _ q_f_Reader_62) (fun _ h9 => h9) rfl (by decide +kernel) rfl rfl (Nat.le_of_ble_eq_true rfl) d_Reader_readText_145 (fun H locs hP hD hS => ?_)
                  have hP : va_P D vwCl (kW ad ty (k_line' σ14 ((k_line σ14) + 1))) H := hP
                  have hD : va_D A (kW ad ty (k_line' σ14 ((k_line σ14) + 1))) := hD
                  obtain ⟨σ15, eσ15⟩ : ∃ z, z = (k_line' σ14 ((k_line σ14) + 1)) := ⟨_, rfl⟩
                  rw [← eσ15] at hP hD
                  have h := h σ15 eσ15
                  refine lv_goto hx hb d_Reader_readText_148 (tgt := 163) rfl ?_
                  exact L163 x2 σ15 _ _ _ h hP hD hS (lv_sub hl [1, 2] rfl)
              · have h := h.2 hc
                refine lv_aload_n hx hb d_Reader_readText_107 rfl (lv_at hl 1 rfl) ?_
                refine g_callVv ⟨hx, hb, hml, hown, hts⟩ (c_Reader_passLineFeed h) (g_cwV 0 hts q_l_Reader_55 q_m_Reader_passLineFeed q_s_Reader_passLineFeed q_i_TokenDesk_Reader q_k_Reader_passLineFeed (by decide +kernel) rfl rfl (by rw [hR]; exact ⟨Nat.le_of_ble_eq_true rfl, Nat.le_of_ble_eq_true rfl⟩)) (va_recv hK hP (q0 := 5) rfl rfl) cX_g hK hP hD hS hA hCx rfl hl.1 rfl (Nat.le_of_ble_eq_true rfl) d_Reader_readText_108 ⟨Nat.zero_le _, Nat.zero_le _⟩ (fun σ16 H locs h hP hD hS => ?_)
                refine lv_goto hx hb d_Reader_readText_111 (tgt := 163) rfl ?_
                exact L163 x2 σ16 _ _ _ h hP hD hS (lv_sub hl [1, 2] rfl)
            · have h := h.2 hc
              refine lv_aload_n hx hb d_Reader_readText_83 rfl (lv_at hl 1 rfl) ?_
              refine lv_aload_n hx hb d_Reader_readText_84 rfl (lv_at hl 1 rfl) ?_
              refine va_get (D := D) (v := .ref (ad 1)) (C := R_Reader) (T := T_Reader) (N := 10) hx hb hts in_Reader hown hK hP 5 rfl rfl 0 (by decide) (hts _ q_f_Reader_15) (fun _ h9 => h9) rfl d_Reader_readText_85 ?_
              refine lv_aload_n hx hb d_Reader_readText_88 rfl (lv_at hl 1 rfl) ?_
              refine va_get (D := D) (v := .int (k_at σ9)) (C := R_Reader) (T := T_Reader) (N := 10) hx hb hts in_Reader hown hK hP 5 rfl rfl 5 (by decide) (hts _ q_f_Reader_44) (fun _ h9 => h9) rfl d_Reader_readText_89 ?_
              refine g_callVi ⟨hx, hb, hml, hown, hts⟩ (c_Text_lineFeedFrom h) (g_cwV 1 hts q_l_Reader_52 q_m_Text_lineFeedFrom q_s_Text_lineFeedFrom q_i_TokenDesk_Text q_k_Text_lineFeedFrom (by decide +kernel) rfl rfl (by rw [hR]; exact ⟨Nat.le_of_ble_eq_true rfl, Nat.le_of_ble_eq_true rfl⟩)) (va_recv hK hP (q0 := 1) rfl rfl) cX_g hK hP hD hS hA hCx rfl hl.1 rfl (Nat.le_of_ble_eq_true rfl) d_Reader_readText_92 ⟨Nat.zero_le _, Nat.zero_le _⟩ (fun r17 σ18 H locs h hP hD hS => ?_)
              refine va_put (D := D) (v := .int r17) (ty := .int) (C := R_Reader) (T := T_Reader) (N := 10) hx hb hts in_Reader t_Reader tk_Reader n_Reader hown hK hP hD hS 5 rfl rfl 5 (by decide) (hts _ q_f_Reader_44) (fun _ h9 => h9) rfl (by decide +kernel) rfl rfl (Nat.le_of_ble_eq_true rfl) d_Reader_readText_95 (fun H locs hP hD hS => ?_)
              have hP : va_P D vwCl (kW ad ty (k_at' σ18 r17)) H := hP
              have hD : va_D A (kW ad ty (k_at' σ18 r17)) := hD
              obtain ⟨σ19, eσ19⟩ : ∃ z, z = (k_at' σ18 r17) := ⟨_, rfl⟩
              rw [← eσ19] at hP hD
              have h := h σ19 eσ19
              refine lv_goto hx hb d_Reader_readText_98 (tgt := 163) rfl ?_
              exact L163 x2 σ19 _ _ _ h hP hD hS (lv_sub hl [1, 2] rfl)
          · have h := h.2 hc
            refine lv_aload_n hx hb d_Reader_readText_64 rfl (lv_at hl 1 rfl) ?_
            refine lv_dup hx hb d_Reader_readText_65 rfl ?_
            refine va_get (D := D) (v := .int (k_at σ9)) (C := R_Reader) (T := T_Reader) (N := 10) hx hb hts in_Reader hown hK hP 5 rfl rfl 5 (by decide) (hts _ q_f_Reader_44) (fun _ h9 => h9) rfl d_Reader_readText_66 ?_
            refine lv_iconst (v := 1) hx hb d_Reader_readText_69 (by decide) ?_
            refine lv_iadd hx hb d_Reader_readText_70 ?_
            refine va_put (D := D) (v := .int ((k_at σ9) + 1)) (ty := .int) (C := R_Reader) (T := T_Reader) (N := 10) hx hb hts in_Reader t_Reader tk_Reader n_Reader hown hK hP hD hS 5 rfl rfl 5 (by decide) (hts _ q_f_Reader_44) (fun _ h9 => h9) rfl (by decide +kernel) rfl rfl (Nat.le_of_ble_eq_true rfl) d_Reader_readText_71 (fun H locs hP hD hS => ?_)
            have hP : va_P D vwCl (kW ad ty (k_at' σ9 ((k_at σ9) + 1))) H := hP
            have hD : va_D A (kW ad ty (k_at' σ9 ((k_at σ9) + 1))) := hD
            obtain ⟨σ20, eσ20⟩ : ∃ z, z = (k_at' σ9 ((k_at σ9) + 1)) := ⟨_, rfl⟩
            rw [← eσ20] at hP hD
            have h := h σ20 eσ20
            refine lv_goto hx hb d_Reader_readText_74 (tgt := 163) rfl ?_
            exact L163 x2 σ20 _ _ _ h hP hD hS (lv_sub hl [1, 2] rfl)
  refine lv_aload_n hx hb d_Reader_readText_0 rfl (lv_at hl 0 rfl) ?_
  refine va_get (D := D) (v := .ref (ad 1)) (C := R_Reader) (T := T_Reader) (N := 10) hx hb hts in_Reader hown hK hP 5 rfl rfl 0 (by decide) (hts _ q_f_Reader_15) (fun _ h9 => h9) rfl d_Reader_readText_1 ?_
  refine g_callVi ⟨hx, hb, hml, hown, hts⟩ (c_Text_firstBadOctet h) (g_cwV 0 hts q_l_Reader_32 q_m_Text_firstBadOctet q_s_Text_firstBadOctet q_i_TokenDesk_Text q_k_Text_firstBadOctet (by decide +kernel) rfl rfl (by rw [hR]; exact ⟨Nat.le_of_ble_eq_true rfl, Nat.le_of_ble_eq_true rfl⟩)) (va_recv hK hP (q0 := 1) rfl rfl) cX_g hK hP hD hS hA hCx rfl hl.1 rfl (Nat.le_of_ble_eq_true rfl) d_Reader_readText_4 ⟨Nat.zero_le _, Nat.zero_le _⟩ (fun r1 σ2 H locs h hP hD hS => ?_)
  refine lv_istore_n hx hb d_Reader_readText_7 rfl hl (by decide) rfl (fun ls hl => ?_)
  refine lv_iload_n hx hb d_Reader_readText_8 rfl (lv_at hl 0 rfl) ?_
  refine lv_iconst (v := (-1)) hx hb d_Reader_readText_9 (by decide) ?_
  refine lv_icmp_eq hx hb d_Reader_readText_10 (tgt := 15) rfl (fun hc => ?_) (fun hc => ?_)
  · have h := h.1 hc
    refine lv_aload_n hx hb d_Reader_readText_15 rfl (lv_at hl 1 rfl) ?_
    refine g_callVv ⟨hx, hb, hml, hown, hts⟩ (c_Reader_begin h) (g_cwV 0 hts q_l_Reader_38 q_m_Reader_begin q_s_Reader_begin q_i_TokenDesk_Reader q_k_Reader_begin (by decide +kernel) rfl rfl (by rw [hR]; exact ⟨Nat.le_of_ble_eq_true rfl, Nat.le_of_ble_eq_true rfl⟩)) (va_recv hK hP (q0 := 5) rfl rfl) cX_g hK hP hD hS hA hCx rfl hl.1 rfl (Nat.le_of_ble_eq_true rfl) d_Reader_readText_16 ⟨Nat.zero_le _, Nat.zero_le _⟩ (fun σ3 H locs h hP hD hS => ?_)
    refine lv_iconst (v := 0) hx hb d_Reader_readText_19 (by decide) ?_
    refine lv_istore_n hx hb d_Reader_readText_20 rfl hl (by decide) rfl (fun ls hl => ?_)
    obtain ⟨n, h⟩ := h
    exact L21 n 0 σ3 _ _ _ h hP hD hS (lv_sub hl [2, 0] rfl)
  · have h := h.2 hc
    refine lv_iload_n hx hb d_Reader_readText_13 rfl (lv_at hl 0 rfl) ?_
    exact hret _ _ _ _ _ _ h hP hD hS d_Reader_readText_14
