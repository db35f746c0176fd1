set_option maxHeartbeats 4000000 in
set_option maxRecDepth 100000 in
theorem c_Tokens_clear {l : Launch} {D : va_G} {ad : Nat → Nat} {ty : Nat → ClassId} {cd : Nat → Nat → Nat} {σ : KS} {post : KS → Prop} (h : wp_Tokens_clear σ post) : g_Metv l y_Tokens_clear (Cond.code y_Tokens_clear b_Tokens_clear 1 none :: gW) ({ frames := 0, cells := 0, slots := 0, locals := 0 }) D vwCl (gT ty) (kW ad ty) (cX cd) [.ref (ad 3)] σ post := by
  refine g_startv (cc := b_Tokens_clear) (maxL := 1) (by decide) rfl (Nat.le_of_ble_eq_true rfl) ?_
  intro p e s m args below meth c A Q R ls hR hx hb hts hown hml hA hS hP hD hK hCx hl hret
  unfold wp_Tokens_clear at h
  have hown : s.vm.findClass "TokenDesk$Tokens" = some m.cls := hown
  have hl : lv_has ls 1 [(0, .ref (ad 3))] := hl
  refine lv_aload_n hx hb d_Tokens_clear_0 rfl (lv_at hl 0 rfl) ?_
  refine lv_iconst (v := 0) hx hb d_Tokens_clear_1 (by decide) ?_
  refine va_put (D := D) (v := .int 0) (ty := .int) (C := R_Tokens) (T := T_Tokens) (N := 2) hx hb hts in_Tokens t_Tokens tk_Tokens n_Tokens hown hK hP hD hS 3 rfl rfl 1 (by decide) (hts _ q_f_Tokens_15) (fun _ h9 => h9) rfl (by decide +kernel) rfl rfl (Nat.le_of_ble_eq_true rfl) d_Tokens_clear_2 (fun H locs hP hD hS => ?_)
  have hP : va_P D vwCl (kW ad ty (k_cnt' σ 0)) H := hP
  have hD : va_D A (kW ad ty (k_cnt' σ 0)) := hD
  obtain ⟨σ1, eσ1⟩ : ∃ z, z = (k_cnt' σ 0) := ⟨_, rfl⟩
  rw [← eσ1] at hP hD
  have h := h σ1 eσ1
  exact hret _ _ _ _ _ h hP hD hS d_Tokens_clear_5
set_option maxHeartbeats 4000000 in
set_option maxRecDepth 100000 in
theorem c_Tokens_size {l : Launch} {D : va_G} {ad : Nat → Nat} {ty : Nat → ClassId} {cd : Nat → Nat → Nat} {σ : KS} {post : Int32 → KS → Prop} (h : wp_Tokens_size σ post) : g_Meti l y_Tokens_size (Cond.code y_Tokens_size b_Tokens_size 1 (some .int) :: gW) ({ frames := 0, cells := 0, slots := 0, locals := 0 }) D vwCl (gT ty) (kW ad ty) (cX cd) [.ref (ad 3)] σ post := by
  refine g_starti (cc := b_Tokens_size) (maxL := 1) (by decide) rfl (Nat.le_of_ble_eq_true rfl) ?_
  intro p e s m args below meth c A Q R ls hR hx hb hts hown hml hA hS hP hD hK hCx hl hret
  unfold wp_Tokens_size at h
  have hown : s.vm.findClass "TokenDesk$Tokens" = some m.cls := hown
  have hl : lv_has ls 1 [(0, .ref (ad 3))] := hl
  refine lv_aload_n hx hb d_Tokens_size_0 rfl (lv_at hl 0 rfl) ?_
  refine va_get (D := D) (v := .int (k_cnt σ)) (C := R_Tokens) (T := T_Tokens) (N := 2) hx hb hts in_Tokens hown hK hP 3 rfl rfl 1 (by decide) (hts _ q_f_Tokens_15) (fun _ h9 => h9) rfl d_Tokens_size_1 ?_
  exact hret _ _ _ _ _ _ h hP hD hS d_Tokens_size_4
set_option maxHeartbeats 4000000 in
set_option maxRecDepth 100000 in
theorem c_Tokens_add {l : Launch} {D : va_G} {ad : Nat → Nat} {ty : Nat → ClassId} {cd : Nat → Nat → Nat} {a1 : Int32} {a2 : Int32} {a3 : Int32} {a4 : Int32} {σ : KS} {post : KS → Prop} (h : wp_Tokens_add a1 a2 a3 a4 σ post) : g_Metv l y_Tokens_add (Cond.code y_Tokens_add b_Tokens_add 7 none :: gW) ({ frames := 0, cells := 0, slots := 0, locals := 0 }) D vwCl (gT ty) (kW ad ty) (cX cd) [.ref (ad 3), .int a1, .int a2, .int a3, .int a4] σ post := by
  refine g_startv (cc := b_Tokens_add) (maxL := 7) (by decide) rfl (Nat.le_of_ble_eq_true rfl) ?_
  intro p e s m args below meth c A Q R ls hR hx hb hts hown hml hA hS hP hD hK hCx hl hret
  unfold wp_Tokens_add at h
  have hown : s.vm.findClass "TokenDesk$Tokens" = some m.cls := hown
  have hl : lv_has ls 7 [(0, .ref (ad 3)), (1, .int a1), (2, .int a2), (3, .int a3), (4, .int a4)] := hl
  refine lv_aload_n hx hb d_Tokens_add_0 rfl (lv_at hl 0 rfl) ?_
  refine va_get (D := D) (v := .int (k_cnt σ)) (C := R_Tokens) (T := T_Tokens) (N := 2) hx hb hts in_Tokens hown hK hP 3 rfl rfl 1 (by decide) (hts _ q_f_Tokens_15) (fun _ h9 => h9) rfl d_Tokens_add_1 ?_
  refine lv_sipush (v := 5463) hx hb d_Tokens_add_4 (by decide) ?_
  refine lv_icmp_ge hx hb d_Tokens_add_7 (tgt := 54) rfl (fun hc => ?_) (fun hc => ?_)
  · have h := h.1 hc
    exact hret _ _ _ _ _ h hP hD hS d_Tokens_add_54
  · have h := h.2 hc
    refine lv_iload_n hx hb d_Tokens_add_10 rfl (lv_at hl 2 rfl) ?_
    refine lv_i2l hx hb d_Tokens_add_11 rfl ?_
    refine lv_bipush (v := 16) hx hb d_Tokens_add_12 (by decide) ?_
    refine lv_lshl hx hb d_Tokens_add_14 rfl ?_
    refine lv_iload_n hx hb d_Tokens_add_15 rfl (lv_at hl 3 rfl) ?_
    refine lv_i2l hx hb d_Tokens_add_16 rfl ?_
    refine lv_bipush (v := 32) hx hb d_Tokens_add_17 (by decide) ?_
    refine lv_lshl hx hb d_Tokens_add_19 rfl ?_
    refine lv_lor hx hb d_Tokens_add_20 ?_
    refine lv_lstore hx hb d_Tokens_add_21 hl (by decide) rfl (fun ls hl => ?_)
    refine lv_aload_n hx hb d_Tokens_add_23 rfl (lv_at hl 1 rfl) ?_
    refine va_get (D := D) (v := .ref (ad 4)) (C := R_Tokens) (T := T_Tokens) (N := 2) hx hb hts in_Tokens hown hK hP 3 rfl rfl 0 (by decide) (hts _ q_f_Tokens_11) (fun _ h9 => h9) rfl d_Tokens_add_24 ?_
    refine lv_aload_n hx hb d_Tokens_add_27 rfl (lv_at hl 1 rfl) ?_
    refine va_get (D := D) (v := .int (k_cnt σ)) (C := R_Tokens) (T := T_Tokens) (N := 2) hx hb hts in_Tokens hown hK hP 3 rfl rfl 1 (by decide) (hts _ q_f_Tokens_15) (fun _ h9 => h9) rfl d_Tokens_add_28 ?_
    refine lv_iload_n hx hb d_Tokens_add_31 rfl (lv_at hl 2 rfl) ?_
    refine lv_i2l hx hb d_Tokens_add_32 rfl ?_
    refine lv_lload hx hb d_Tokens_add_33 (lv_at hl 0 rfl) ?_
    refine lv_lor hx hb d_Tokens_add_35 ?_
    refine lv_iload hx hb d_Tokens_add_36 (lv_at hl 5 rfl) ?_
    refine lv_i2l hx hb d_Tokens_add_38 rfl ?_
    refine lv_bipush (v := 48) hx hb d_Tokens_add_39 (by decide) ?_
    refine lv_lshl hx hb d_Tokens_add_41 rfl ?_
    refine lv_lor hx hb d_Tokens_add_42 ?_
    refine va_last (D := D) hx hb hK hP hD hS 4 1 rfl rfl h.1 d_Tokens_add_43 (fun H locs hP hD hS => ?_)
    have h := h.2
    have hP : va_P D vwCl (kW ad ty (k_pk' σ (vp_updL (k_pk σ) ((k_cnt σ) : Int32).toNatClampNeg (((a1 : Int32).toInt64 ||| (((a2 : Int32).toInt64 <<< ((16 : Int32).toInt64 &&& 63)) ||| ((a3 : Int32).toInt64 <<< ((32 : Int32).toInt64 &&& 63)))) ||| ((a4 : Int32).toInt64 <<< ((48 : Int32).toInt64 &&& 63)))))) H := hP
    have hD : va_D A (kW ad ty (k_pk' σ (vp_updL (k_pk σ) ((k_cnt σ) : Int32).toNatClampNeg (((a1 : Int32).toInt64 ||| (((a2 : Int32).toInt64 <<< ((16 : Int32).toInt64 &&& 63)) ||| ((a3 : Int32).toInt64 <<< ((32 : Int32).toInt64 &&& 63)))) ||| ((a4 : Int32).toInt64 <<< ((48 : Int32).toInt64 &&& 63)))))) := hD
    obtain ⟨σ1, eσ1⟩ : ∃ z, z = (k_pk' σ (vp_updL (k_pk σ) ((k_cnt σ) : Int32).toNatClampNeg (((a1 : Int32).toInt64 ||| (((a2 : Int32).toInt64 <<< ((16 : Int32).toInt64 &&& 63)) ||| ((a3 : Int32).toInt64 <<< ((32 : Int32).toInt64 &&& 63)))) ||| ((a4 : Int32).toInt64 <<< ((48 : Int32).toInt64 &&& 63))))) := ⟨_, rfl⟩
    rw [← eσ1] at hP hD
    have h := h σ1 eσ1
    refine lv_aload_n hx hb d_Tokens_add_44 rfl (lv_at hl 1 rfl) ?_
    refine lv_dup hx hb d_Tokens_add_45 rfl ?_
    refine va_get (D := D) (v := .int (k_cnt σ1)) (C := R_Tokens) (T := T_Tokens) (N := 2) hx hb hts in_Tokens hown hK hP 3 rfl rfl 1 (by decide) (hts _ q_f_Tokens_15) (fun _ h9 => h9) rfl d_Tokens_add_46 ?_
    refine lv_iconst (v := 1) hx hb d_Tokens_add_49 (by decide) ?_
    refine lv_iadd hx hb d_Tokens_add_50 ?_
    refine va_put (D := D) (v := .int ((k_cnt σ1) + 1)) (ty := .int) (C := R_Tokens) (T := T_Tokens) (N := 2) hx hb hts in_Tokens t_Tokens tk_Tokens n_Tokens hown hK hP hD hS 3 rfl rfl 1 (by decide) (hts _ q_f_Tokens_15) (fun _ h9 => h9) rfl (by decide +kernel) rfl rfl (Nat.le_of_ble_eq_true rfl) d_Tokens_add_51 (fun H locs hP hD hS => ?_)
    have hP : va_P D vwCl (kW ad ty (k_cnt' σ1 ((k_cnt σ1) + 1))) H := hP
    have hD : va_D A (kW ad ty (k_cnt' σ1 ((k_cnt σ1) + 1))) := hD
    obtain ⟨σ2, eσ2⟩ : ∃ z, z = (k_cnt' σ1 ((k_cnt σ1) + 1)) := ⟨_, rfl⟩
    rw [← eσ2] at hP hD
    have h := h σ2 eσ2
    exact hret _ _ _ _ _ h hP hD hS d_Tokens_add_54
set_option maxHeartbeats 4000000 in
set_option maxRecDepth 100000 in
theorem c_Tokens_part {l : Launch} {D : va_G} {ad : Nat → Nat} {ty : Nat → ClassId} {cd : Nat → Nat → Nat} {a1 : Int32} {a2 : Int32} {σ : KS} {post : Int32 → KS → Prop} (h : wp_Tokens_part a1 a2 σ post) : g_Meti l y_Tokens_part (Cond.code y_Tokens_part b_Tokens_part 3 (some .int) :: gW) ({ frames := 0, cells := 0, slots := 0, locals := 0 }) D vwCl (gT ty) (kW ad ty) (cX cd) [.ref (ad 3), .int a1, .int a2] σ post := by
  refine g_starti (cc := b_Tokens_part) (maxL := 3) (by decide) rfl (Nat.le_of_ble_eq_true rfl) ?_
  intro p e s m args below meth c A Q R ls hR hx hb hts hown hml hA hS hP hD hK hCx hl hret
  unfold wp_Tokens_part at h
  have hown : s.vm.findClass "TokenDesk$Tokens" = some m.cls := hown
  have hl : lv_has ls 3 [(0, .ref (ad 3)), (1, .int a1), (2, .int a2)] := hl
  refine lv_iload_n hx hb d_Tokens_part_0 rfl (lv_at hl 1 rfl) ?_
  refine lv_if_lt hx hb d_Tokens_part_1 (tgt := 12) rfl (fun hc => ?_) (fun hc => ?_)
  · have h := h.1 hc
    refine lv_iconst (v := (-1)) hx hb d_Tokens_part_12 (by decide) ?_
    exact hret _ _ _ _ _ _ h hP hD hS d_Tokens_part_13
  · have h := h.2 hc
    refine lv_iload_n hx hb d_Tokens_part_4 rfl (lv_at hl 1 rfl) ?_
    refine lv_aload_n hx hb d_Tokens_part_5 rfl (lv_at hl 0 rfl) ?_
    refine va_get (D := D) (v := .int (k_cnt σ)) (C := R_Tokens) (T := T_Tokens) (N := 2) hx hb hts in_Tokens hown hK hP 3 rfl rfl 1 (by decide) (hts _ q_f_Tokens_15) (fun _ h9 => h9) rfl d_Tokens_part_6 ?_
    refine lv_icmp_lt hx hb d_Tokens_part_9 (tgt := 14) rfl (fun hc => ?_) (fun hc => ?_)
    · have h := h.1 hc
      refine lv_aload_n hx hb d_Tokens_part_14 rfl (lv_at hl 0 rfl) ?_
      refine va_get (D := D) (v := .ref (ad 4)) (C := R_Tokens) (T := T_Tokens) (N := 2) hx hb hts in_Tokens hown hK hP 3 rfl rfl 0 (by decide) (hts _ q_f_Tokens_11) (fun _ h9 => h9) rfl d_Tokens_part_15 ?_
      refine lv_iload_n hx hb d_Tokens_part_18 rfl (lv_at hl 1 rfl) ?_
      refine va_lald (D := D) hx hb hK hP 4 1 rfl rfl h.1 d_Tokens_part_19 ?_
      have h := h.2
      refine lv_iload_n hx hb d_Tokens_part_20 rfl (lv_at hl 2 rfl) ?_
      refine lv_bipush (v := 16) hx hb d_Tokens_part_21 (by decide) ?_
      refine lv_imul hx hb d_Tokens_part_23 ?_
      refine lv_lushr hx hb d_Tokens_part_24 rfl ?_
      refine lv_l2i hx hb d_Tokens_part_25 rfl ?_
      refine lv_ldc (v := 65535) hx hb hown (hts _ q_c_Tokens_19) d_Tokens_part_26 ?_
      refine lv_iand hx hb d_Tokens_part_28 ?_
      exact hret _ _ _ _ _ _ h hP hD hS d_Tokens_part_29
    · have h := h.2 hc
      refine lv_iconst (v := (-1)) hx hb d_Tokens_part_12 (by decide) ?_
      exact hret _ _ _ _ _ _ h hP hD hS d_Tokens_part_13
