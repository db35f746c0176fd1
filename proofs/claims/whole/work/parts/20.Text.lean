set_option maxHeartbeats 4000000 in
set_option maxRecDepth 100000 in
theorem c_Text_hasRoom {l : Launch} {D : va_G} {ad : Nat → Nat} {ty : Nat → ClassId} {cd : Nat → Nat → Nat} {σ : KS} {post : Int32 → KS → Prop} (h : wp_Text_hasRoom σ post) : g_Meti l y_Text_hasRoom (Cond.code y_Text_hasRoom b_Text_hasRoom 1 (some .boolean) :: gW) ({ frames := 0, cells := 0, slots := 0, locals := 0 }) D vwCl (gT ty) (kW ad ty) (cX cd) [.ref (ad 1)] σ post := by
  refine g_startz (cc := b_Text_hasRoom) (maxL := 1) (by decide) rfl (Nat.le_of_ble_eq_true rfl) ?_
  intro p e s m args below meth c A Q R ls hR hx hb hts hown hml hA hS hP hD hK hCx hl hret
  unfold wp_Text_hasRoom at h
  have hown : s.vm.findClass "TokenDesk$Text" = some m.cls := hown
  have hl : lv_has ls 1 [(0, .ref (ad 1))] := hl
  refine lv_aload_n hx hb d_Text_hasRoom_0 rfl (lv_at hl 0 rfl) ?_
  refine va_get (D := D) (v := .int (k_fed σ)) (C := R_Text) (T := T_Text) (N := 3) hx hb hts in_Text hown hK hP 1 rfl rfl 1 (by decide) (hts _ q_f_Text_15) (fun _ h9 => h9) rfl d_Text_hasRoom_1 ?_
  refine lv_iconst (v := 5) hx hb d_Text_hasRoom_4 (by decide) ?_
  refine lv_iadd hx hb d_Text_hasRoom_5 ?_
  refine lv_sipush (v := 1025) hx hb d_Text_hasRoom_6 (by decide) ?_
  refine lv_icmp_gt hx hb d_Text_hasRoom_9 (tgt := 16) rfl (fun hc => ?_) (fun hc => ?_)
  · have h := h.1 hc
    refine lv_iconst (v := 0) hx hb d_Text_hasRoom_16 (by decide) ?_
    exact hret _ _ _ _ _ _ h rfl hP hD hS d_Text_hasRoom_17
  · have h := h.2 hc
    refine lv_iconst (v := 1) hx hb d_Text_hasRoom_12 (by decide) ?_
    refine lv_goto hx hb d_Text_hasRoom_13 (tgt := 17) rfl ?_
    exact hret _ _ _ _ _ _ h rfl hP hD hS d_Text_hasRoom_17
set_option maxHeartbeats 4000000 in
set_option maxRecDepth 100000 in
theorem c_Text_addWord {l : Launch} {D : va_G} {ad : Nat → Nat} {ty : Nat → ClassId} {cd : Nat → Nat → Nat} {a1 : Int32} {σ : KS} {post : KS → Prop} (h : wp_Text_addWord a1 σ post) : g_Metv l y_Text_addWord (Cond.code y_Text_addWord b_Text_addWord 2 none :: gW) ({ frames := 0, cells := 0, slots := 0, locals := 0 }) D vwCl (gT ty) (kW ad ty) (cX cd) [.ref (ad 1), .int a1] σ post := by
  refine g_startv (cc := b_Text_addWord) (maxL := 2) (by decide) rfl (Nat.le_of_ble_eq_true rfl) ?_
  intro p e s m args below meth c A Q R ls hR hx hb hts hown hml hA hS hP hD hK hCx hl hret
  unfold wp_Text_addWord at h
  have hown : s.vm.findClass "TokenDesk$Text" = some m.cls := hown
  have hl : lv_has ls 2 [(0, .ref (ad 1)), (1, .int a1)] := hl
  refine lv_aload_n hx hb d_Text_addWord_0 rfl (lv_at hl 0 rfl) ?_
  refine va_get (D := D) (v := .int (k_fed σ)) (C := R_Text) (T := T_Text) (N := 3) hx hb hts in_Text hown hK hP 1 rfl rfl 1 (by decide) (hts _ q_f_Text_15) (fun _ h9 => h9) rfl d_Text_addWord_1 ?_
  refine lv_sipush (v := 1025) hx hb d_Text_addWord_4 (by decide) ?_
  refine lv_icmp_ge hx hb d_Text_addWord_7 (tgt := 30) rfl (fun hc => ?_) (fun hc => ?_)
  · have h := h.1 hc
    exact hret _ _ _ _ _ h hP hD hS d_Text_addWord_30
  · have h := h.2 hc
    refine lv_aload_n hx hb d_Text_addWord_10 rfl (lv_at hl 0 rfl) ?_
    refine va_get (D := D) (v := .ref (ad 2)) (C := R_Text) (T := T_Text) (N := 3) hx hb hts in_Text hown hK hP 1 rfl rfl 0 (by decide) (hts _ q_f_Text_11) (fun _ h9 => h9) rfl d_Text_addWord_11 ?_
    refine lv_aload_n hx hb d_Text_addWord_14 rfl (lv_at hl 0 rfl) ?_
    refine va_get (D := D) (v := .int (k_fed σ)) (C := R_Text) (T := T_Text) (N := 3) hx hb hts in_Text hown hK hP 1 rfl rfl 1 (by decide) (hts _ q_f_Text_15) (fun _ h9 => h9) rfl d_Text_addWord_15 ?_
    refine lv_iload_n hx hb d_Text_addWord_18 rfl (lv_at hl 1 rfl) ?_
    refine va_iast (D := D) hx hb hK hP hD hS 2 0 rfl rfl h.1 d_Text_addWord_19 (fun H locs hP hD hS => ?_)
    have h := h.2
    have hP : va_P D vwCl (kW ad ty (k_w' σ (upd (k_w σ) ((k_fed σ) : Int32).toNatClampNeg a1))) H := hP
    have hD : va_D A (kW ad ty (k_w' σ (upd (k_w σ) ((k_fed σ) : Int32).toNatClampNeg a1))) := hD
    obtain ⟨σ1, eσ1⟩ : ∃ z, z = (k_w' σ (upd (k_w σ) ((k_fed σ) : Int32).toNatClampNeg a1)) := ⟨_, rfl⟩
    rw [← eσ1] at hP hD
    have h := h σ1 eσ1
    refine lv_aload_n hx hb d_Text_addWord_20 rfl (lv_at hl 0 rfl) ?_
    refine lv_dup hx hb d_Text_addWord_21 rfl ?_
    refine va_get (D := D) (v := .int (k_fed σ1)) (C := R_Text) (T := T_Text) (N := 3) hx hb hts in_Text hown hK hP 1 rfl rfl 1 (by decide) (hts _ q_f_Text_15) (fun _ h9 => h9) rfl d_Text_addWord_22 ?_
    refine lv_iconst (v := 1) hx hb d_Text_addWord_25 (by decide) ?_
    refine lv_iadd hx hb d_Text_addWord_26 ?_
    refine va_put (D := D) (v := .int ((k_fed σ1) + 1)) (ty := .int) (C := R_Text) (T := T_Text) (N := 3) hx hb hts in_Text t_Text tk_Text n_Text hown hK hP hD hS 1 rfl rfl 1 (by decide) (hts _ q_f_Text_15) (fun _ h9 => h9) rfl (by decide +kernel) rfl rfl (Nat.le_of_ble_eq_true rfl) d_Text_addWord_27 (fun H locs hP hD hS => ?_)
    have hP : va_P D vwCl (kW ad ty (k_fed' σ1 ((k_fed σ1) + 1))) H := hP
    have hD : va_D A (kW ad ty (k_fed' σ1 ((k_fed σ1) + 1))) := hD
    obtain ⟨σ2, eσ2⟩ : ∃ z, z = (k_fed' σ1 ((k_fed σ1) + 1)) := ⟨_, rfl⟩
    rw [← eσ2] at hP hD
    have h := h σ2 eσ2
    exact hret _ _ _ _ _ h hP hD hS d_Text_addWord_30
set_option maxHeartbeats 4000000 in
set_option maxRecDepth 100000 in
theorem c_Text_fedOctets {l : Launch} {D : va_G} {ad : Nat → Nat} {ty : Nat → ClassId} {cd : Nat → Nat → Nat} {σ : KS} {post : Int32 → KS → Prop} (h : wp_Text_fedOctets σ post) : g_Meti l y_Text_fedOctets (Cond.code y_Text_fedOctets b_Text_fedOctets 1 (some .int) :: gW) ({ frames := 0, cells := 0, slots := 0, locals := 0 }) D vwCl (gT ty) (kW ad ty) (cX cd) [.ref (ad 1)] σ post := by
  refine g_starti (cc := b_Text_fedOctets) (maxL := 1) (by decide) rfl (Nat.le_of_ble_eq_true rfl) ?_
  intro p e s m args below meth c A Q R ls hR hx hb hts hown hml hA hS hP hD hK hCx hl hret
  unfold wp_Text_fedOctets at h
  have hown : s.vm.findClass "TokenDesk$Text" = some m.cls := hown
  have hl : lv_has ls 1 [(0, .ref (ad 1))] := hl
  refine lv_aload_n hx hb d_Text_fedOctets_0 rfl (lv_at hl 0 rfl) ?_
  refine va_get (D := D) (v := .int (k_fed σ)) (C := R_Text) (T := T_Text) (N := 3) hx hb hts in_Text hown hK hP 1 rfl rfl 1 (by decide) (hts _ q_f_Text_15) (fun _ h9 => h9) rfl d_Text_fedOctets_1 ?_
  refine lv_iconst (v := 4) hx hb d_Text_fedOctets_4 (by decide) ?_
  refine lv_imul hx hb d_Text_fedOctets_5 ?_
  exact hret _ _ _ _ _ _ h hP hD hS d_Text_fedOctets_6
set_option maxHeartbeats 4000000 in
set_option maxRecDepth 100000 in
theorem c_Text_cutTo {l : Launch} {D : va_G} {ad : Nat → Nat} {ty : Nat → ClassId} {cd : Nat → Nat → Nat} {a1 : Int32} {σ : KS} {post : KS → Prop} (h : wp_Text_cutTo a1 σ post) : g_Metv l y_Text_cutTo (Cond.code y_Text_cutTo b_Text_cutTo 2 none :: gW) ({ frames := 0, cells := 0, slots := 0, locals := 0 }) D vwCl (gT ty) (kW ad ty) (cX cd) [.ref (ad 1), .int a1] σ post := by
  refine g_startv (cc := b_Text_cutTo) (maxL := 2) (by decide) rfl (Nat.le_of_ble_eq_true rfl) ?_
  intro p e s m args below meth c A Q R ls hR hx hb hts hown hml hA hS hP hD hK hCx hl hret
  unfold wp_Text_cutTo at h
  have hown : s.vm.findClass "TokenDesk$Text" = some m.cls := hown
  have hl : lv_has ls 2 [(0, .ref (ad 1)), (1, .int a1)] := hl
  refine lv_aload_n hx hb d_Text_cutTo_0 rfl (lv_at hl 0 rfl) ?_
  refine lv_iload_n hx hb d_Text_cutTo_1 rfl (lv_at hl 1 rfl) ?_
  refine va_put (D := D) (v := .int a1) (ty := .int) (C := R_Text) (T := T_Text) (N := 3) hx hb hts in_Text t_Text tk_Text n_Text hown hK hP hD hS 1 rfl rfl 2 (by decide) (hts _ q_f_Text_19) (fun _ h9 => h9) rfl (by decide +kernel) rfl rfl (Nat.le_of_ble_eq_true rfl) d_Text_cutTo_2 (fun H locs hP hD hS => ?_)
  have hP : va_P D vwCl (kW ad ty (k_len' σ a1)) H := hP
  have hD : va_D A (kW ad ty (k_len' σ a1)) := hD
  obtain ⟨σ1, eσ1⟩ : ∃ z, z = (k_len' σ a1) := ⟨_, rfl⟩
  rw [← eσ1] at hP hD
  have h := h σ1 eσ1
  exact hret _ _ _ _ _ h hP hD hS d_Text_cutTo_5
set_option maxHeartbeats 4000000 in
set_option maxRecDepth 100000 in
theorem c_Text_clear {l : Launch} {D : va_G} {ad : Nat → Nat} {ty : Nat → ClassId} {cd : Nat → Nat → Nat} {σ : KS} {post : KS → Prop} (h : wp_Text_clear σ post) : g_Metv l y_Text_clear (Cond.code y_Text_clear b_Text_clear 1 none :: gW) ({ frames := 0, cells := 0, slots := 0, locals := 0 }) D vwCl (gT ty) (kW ad ty) (cX cd) [.ref (ad 1)] σ post := by
  refine g_startv (cc := b_Text_clear) (maxL := 1) (by decide) rfl (Nat.le_of_ble_eq_true rfl) ?_
  intro p e s m args below meth c A Q R ls hR hx hb hts hown hml hA hS hP hD hK hCx hl hret
  unfold wp_Text_clear at h
  have hown : s.vm.findClass "TokenDesk$Text" = some m.cls := hown
  have hl : lv_has ls 1 [(0, .ref (ad 1))] := hl
  refine lv_aload_n hx hb d_Text_clear_0 rfl (lv_at hl 0 rfl) ?_
  refine lv_iconst (v := 0) hx hb d_Text_clear_1 (by decide) ?_
  refine va_put (D := D) (v := .int 0) (ty := .int) (C := R_Text) (T := T_Text) (N := 3) hx hb hts in_Text t_Text tk_Text n_Text hown hK hP hD hS 1 rfl rfl 1 (by decide) (hts _ q_f_Text_15) (fun _ h9 => h9) rfl (by decide +kernel) rfl rfl (Nat.le_of_ble_eq_true rfl) d_Text_clear_2 (fun H locs hP hD hS => ?_)
  have hP : va_P D vwCl (kW ad ty (k_fed' σ 0)) H := hP
  have hD : va_D A (kW ad ty (k_fed' σ 0)) := hD
  obtain ⟨σ1, eσ1⟩ : ∃ z, z = (k_fed' σ 0) := ⟨_, rfl⟩
  rw [← eσ1] at hP hD
  have h := h σ1 eσ1
  refine lv_aload_n hx hb d_Text_clear_5 rfl (lv_at hl 0 rfl) ?_
  refine lv_iconst (v := 0) hx hb d_Text_clear_6 (by decide) ?_
  refine va_put (D := D) (v := .int 0) (ty := .int) (C := R_Text) (T := T_Text) (N := 3) hx hb hts in_Text t_Text tk_Text n_Text hown hK hP hD hS 1 rfl rfl 2 (by decide) (hts _ q_f_Text_19) (fun _ h9 => h9) rfl (by decide +kernel) rfl rfl (Nat.le_of_ble_eq_true rfl) d_Text_clear_7 (fun H locs hP hD hS => ?_)
  have hP : va_P D vwCl (kW ad ty (k_len' σ1 0)) H := hP
  have hD : va_D A (kW ad ty (k_len' σ1 0)) := hD
  obtain ⟨σ2, eσ2⟩ : ∃ z, z = (k_len' σ1 0) := ⟨_, rfl⟩
  rw [← eσ2] at hP hD
  have h := h σ2 eσ2
  exact hret _ _ _ _ _ h hP hD hS d_Text_clear_10
set_option maxHeartbeats 4000000 in
set_option maxRecDepth 100000 in
theorem c_Text_size {l : Launch} {D : va_G} {ad : Nat → Nat} {ty : Nat → ClassId} {cd : Nat → Nat → Nat} {σ : KS} {post : Int32 → KS → Prop} (h : wp_Text_size σ post) : g_Meti l y_Text_size (Cond.code y_Text_size b_Text_size 1 (some .int) :: gW) ({ frames := 0, cells := 0, slots := 0, locals := 0 }) D vwCl (gT ty) (kW ad ty) (cX cd) [.ref (ad 1)] σ post := by
  refine g_starti (cc := b_Text_size) (maxL := 1) (by decide) rfl (Nat.le_of_ble_eq_true rfl) ?_
  intro p e s m args below meth c A Q R ls hR hx hb hts hown hml hA hS hP hD hK hCx hl hret
  unfold wp_Text_size at h
  have hown : s.vm.findClass "TokenDesk$Text" = some m.cls := hown
  have hl : lv_has ls 1 [(0, .ref (ad 1))] := hl
  refine lv_aload_n hx hb d_Text_size_0 rfl (lv_at hl 0 rfl) ?_
  refine va_get (D := D) (v := .int (k_len σ)) (C := R_Text) (T := T_Text) (N := 3) hx hb hts in_Text hown hK hP 1 rfl rfl 2 (by decide) (hts _ q_f_Text_19) (fun _ h9 => h9) rfl d_Text_size_1 ?_
  exact hret _ _ _ _ _ _ h hP hD hS d_Text_size_4
set_option maxHeartbeats 4000000 in
set_option maxRecDepth 100000 in
theorem c_Text_letterAt {l : Launch} {D : va_G} {ad : Nat → Nat} {ty : Nat → ClassId} {cd : Nat → Nat → Nat} {a1 : Int32} {σ : KS} {post : Int32 → KS → Prop} (h : wp_Text_letterAt a1 σ post) : g_Meti l y_Text_letterAt (Cond.code y_Text_letterAt b_Text_letterAt 2 (some .int) :: gW) ({ frames := 0, cells := 0, slots := 0, locals := 0 }) D vwCl (gT ty) (kW ad ty) (cX cd) [.ref (ad 1), .int a1] σ post := by
  refine g_starti (cc := b_Text_letterAt) (maxL := 2) (by decide) rfl (Nat.le_of_ble_eq_true rfl) ?_
  intro p e s m args below meth c A Q R ls hR hx hb hts hown hml hA hS hP hD hK hCx hl hret
  unfold wp_Text_letterAt at h
  have hown : s.vm.findClass "TokenDesk$Text" = some m.cls := hown
  have hl : lv_has ls 2 [(0, .ref (ad 1)), (1, .int a1)] := hl
  refine lv_iload_n hx hb d_Text_letterAt_0 rfl (lv_at hl 1 rfl) ?_
  refine lv_if_lt hx hb d_Text_letterAt_1 (tgt := 19) rfl (fun hc => ?_) (fun hc => ?_)
  · have h := h.1 hc
    refine lv_iconst (v := (-1)) hx hb d_Text_letterAt_19 (by decide) ?_
    exact hret _ _ _ _ _ _ h hP hD hS d_Text_letterAt_20
  · have h := h.2 hc
    refine lv_iload_n hx hb d_Text_letterAt_4 rfl (lv_at hl 1 rfl) ?_
    refine lv_aload_n hx hb d_Text_letterAt_5 rfl (lv_at hl 0 rfl) ?_
    refine va_get (D := D) (v := .int (k_len σ)) (C := R_Text) (T := T_Text) (N := 3) hx hb hts in_Text hown hK hP 1 rfl rfl 2 (by decide) (hts _ q_f_Text_19) (fun _ h9 => h9) rfl d_Text_letterAt_6 ?_
    refine lv_icmp_ge hx hb d_Text_letterAt_9 (tgt := 19) rfl (fun hc => ?_) (fun hc => ?_)
    · have h := h.1 hc
      refine lv_iconst (v := (-1)) hx hb d_Text_letterAt_19 (by decide) ?_
      exact hret _ _ _ _ _ _ h hP hD hS d_Text_letterAt_20
    · have h := h.2 hc
      refine lv_iload_n hx hb d_Text_letterAt_12 rfl (lv_at hl 1 rfl) ?_
      refine lv_sipush (v := 4096) hx hb d_Text_letterAt_13 (by decide) ?_
      refine lv_icmp_lt hx hb d_Text_letterAt_16 (tgt := 21) rfl (fun hc => ?_) (fun hc => ?_)
      · have h := h.1 hc
        refine lv_aload_n hx hb d_Text_letterAt_21 rfl (lv_at hl 0 rfl) ?_
        refine va_get (D := D) (v := .ref (ad 2)) (C := R_Text) (T := T_Text) (N := 3) hx hb hts in_Text hown hK hP 1 rfl rfl 0 (by decide) (hts _ q_f_Text_11) (fun _ h9 => h9) rfl d_Text_letterAt_22 ?_
        refine lv_iload_n hx hb d_Text_letterAt_25 rfl (lv_at hl 1 rfl) ?_
        refine lv_iconst (v := 2) hx hb d_Text_letterAt_26 (by decide) ?_
        refine lv_ishr hx hb d_Text_letterAt_27 ?_
        refine va_iald (D := D) hx hb hK hP 2 0 rfl rfl h.1 d_Text_letterAt_28 ?_
        have h := h.2
        refine lv_bipush (v := 24) hx hb d_Text_letterAt_29 (by decide) ?_
        refine lv_bipush (v := 8) hx hb d_Text_letterAt_31 (by decide) ?_
        refine lv_iload_n hx hb d_Text_letterAt_33 rfl (lv_at hl 1 rfl) ?_
        refine lv_iconst (v := 3) hx hb d_Text_letterAt_34 (by decide) ?_
        refine lv_iand hx hb d_Text_letterAt_35 ?_
        refine lv_imul hx hb d_Text_letterAt_36 ?_
        refine lv_isub hx hb d_Text_letterAt_37 ?_
        refine lv_iushr hx hb d_Text_letterAt_38 rfl ?_
        refine lv_sipush (v := 255) hx hb d_Text_letterAt_39 (by decide) ?_
        refine lv_iand hx hb d_Text_letterAt_42 ?_
        exact hret _ _ _ _ _ _ h hP hD hS d_Text_letterAt_43
      · have h := h.2 hc
        refine lv_iconst (v := (-1)) hx hb d_Text_letterAt_19 (by decide) ?_
        exact hret _ _ _ _ _ _ h hP hD hS d_Text_letterAt_20
set_option maxHeartbeats 4000000 in
set_option maxRecDepth 100000 in
theorem c_Text_firstBadOctet {l : Launch} {D : va_G} {ad : Nat → Nat} {ty : Nat → ClassId} {cd : Nat → Nat → Nat} {σ : KS} {post : Int32 → KS → Prop} (h : wp_Text_firstBadOctet σ post) : g_Meti l y_Text_firstBadOctet (Cond.code y_Text_firstBadOctet b_Text_firstBadOctet 3 (some .int) :: gW) ({ frames := 1, cells := 0, slots := 0, locals := 21 }) D vwCl (gT ty) (kW ad ty) (cX cd) [.ref (ad 1)] σ post := by
  refine g_starti (cc := b_Text_firstBadOctet) (maxL := 3) (by decide) rfl (Nat.le_of_ble_eq_true rfl) ?_
  intro p e s m args below meth c A Q R ls hR hx hb hts hown hml hA hS hP hD hK hCx hl hret
  unfold wp_Text_firstBadOctet at h
  have hown : s.vm.findClass "TokenDesk$Text" = some m.cls := hown
  have hl : lv_has ls 3 [(0, .ref (ad 1))] := hl
  have L2 : ∀ n : Nat, ∀ (x1 : Int32) (σ : KS) (H : Heap) (locs : List Loc) (ls : Array Slot), L_Text_firstBadOctet_2 post n x1 σ → va_P D vwCl (kW ad ty σ) H → va_D A (kW ad ty σ) → va_S A s.heap H locs → lv_has ls 3 [(0, .ref (ad 1)), (1, .int x1)] → W p l e R s m args below meth c H locs 0 0 Q (F0 m 2 ls []) := by
    intro n2
    induction n2 with
    | zero => intro x1 σ H locs ls h hP hD hS hl; exact h.elim
    | succ n2 ih2 =>
      have L36 : ∀ (x1 : Int32) (σ : KS) (H : Heap) (locs : List Loc) (ls : Array Slot), L_Text_firstBadOctet_36 post (fun x1 σ => L_Text_firstBadOctet_2 post n2 x1 σ) x1 σ → va_P D vwCl (kW ad ty σ) H → va_D A (kW ad ty σ) → va_S A s.heap H locs → lv_has ls 3 [(0, .ref (ad 1)), (1, .int x1)] → W p l e R s m args below meth c H locs 0 0 Q (F0 m 36 ls []) := by
        intro x1 σ H locs ls h hP hD hS hl
        unfold L_Text_firstBadOctet_36 at h
        refine lv_iinc (v := (x1 + 1)) hx hb d_Text_firstBadOctet_36 hl (k := 1) rfl rfl (by decide) rfl (fun ls hl => ?_)
        refine lv_goto hx hb d_Text_firstBadOctet_39 (tgt := 2) rfl ?_
        exact ih2 (x1 + 1) σ _ _ _ h hP hD hS (lv_sub hl [1, 0] rfl)
      intro x1 σ H locs ls h hP hD hS hl
      unfold L_Text_firstBadOctet_2 at h
      refine lv_iload_n hx hb d_Text_firstBadOctet_2 rfl (lv_at hl 1 rfl) ?_
      refine lv_aload_n hx hb d_Text_firstBadOctet_3 rfl (lv_at hl 0 rfl) ?_
      refine va_get (D := D) (v := .int (k_len σ)) (C := R_Text) (T := T_Text) (N := 3) hx hb hts in_Text hown hK hP 1 rfl rfl 2 (by decide) (hts _ q_f_Text_19) (fun _ h9 => h9) rfl d_Text_firstBadOctet_4 ?_
      refine lv_icmp_ge hx hb d_Text_firstBadOctet_7 (tgt := 42) rfl (fun hc => ?_) (fun hc => ?_)
      · have h := h.1 hc
        refine lv_iconst (v := (-1)) hx hb d_Text_firstBadOctet_42 (by decide) ?_
        exact hret _ _ _ _ _ _ h hP hD hS d_Text_firstBadOctet_43
      · have h := h.2 hc
        refine lv_aload_n hx hb d_Text_firstBadOctet_10 rfl (lv_at hl 0 rfl) ?_
        refine lv_iload_n hx hb d_Text_firstBadOctet_11 rfl (lv_at hl 1 rfl) ?_
        refine g_callVi ⟨hx, hb, hml, hown, hts⟩ (c_Text_letterAt h) (g_cwV 1 hts q_l_Text_22 q_m_Text_letterAt q_s_Text_letterAt q_i_TokenDesk_Text q_k_Text_letterAt (by decide +kernel) rfl rfl (by rw [hR]; exact ⟨Nat.le_of_ble_eq_true rfl, Nat.le_of_ble_eq_true rfl⟩)) (va_recv hK hP (q0 := 1) rfl rfl) cX_g hK hP hD hS hA hCx rfl hl.1 rfl (Nat.le_of_ble_eq_true rfl) d_Text_firstBadOctet_12 ⟨Nat.zero_le _, Nat.zero_le _⟩ (fun r1 σ2 H locs h hP hD hS => ?_)
        refine lv_istore_n hx hb d_Text_firstBadOctet_15 rfl hl (by decide) rfl (fun ls hl => ?_)
        refine lv_iload_n hx hb d_Text_firstBadOctet_16 rfl (lv_at hl 0 rfl) ?_
        refine lv_bipush (v := 10) hx hb d_Text_firstBadOctet_17 (by decide) ?_
        refine lv_icmp_eq hx hb d_Text_firstBadOctet_19 (tgt := 36) rfl (fun hc => ?_) (fun hc => ?_)
        · have h := h.1 hc
          exact L36 x1 σ2 _ _ _ h hP hD hS (lv_sub hl [1, 2] rfl)
        · have h := h.2 hc
          refine lv_iload_n hx hb d_Text_firstBadOctet_22 rfl (lv_at hl 0 rfl) ?_
          refine lv_bipush (v := 32) hx hb d_Text_firstBadOctet_23 (by decide) ?_
          refine lv_icmp_lt hx hb d_Text_firstBadOctet_25 (tgt := 34) rfl (fun hc => ?_) (fun hc => ?_)
          · have h := h.1 hc
            refine lv_iload_n hx hb d_Text_firstBadOctet_34 rfl (lv_at hl 2 rfl) ?_
            exact hret _ _ _ _ _ _ h hP hD hS d_Text_firstBadOctet_35
          · have h := h.2 hc
            refine lv_iload_n hx hb d_Text_firstBadOctet_28 rfl (lv_at hl 0 rfl) ?_
            refine lv_bipush (v := 126) hx hb d_Text_firstBadOctet_29 (by decide) ?_
            refine lv_icmp_le hx hb d_Text_firstBadOctet_31 (tgt := 36) rfl (fun hc => ?_) (fun hc => ?_)
            · have h := h.1 hc
              exact L36 x1 σ2 _ _ _ h hP hD hS (lv_sub hl [1, 2] rfl)
            · have h := h.2 hc
              refine lv_iload_n hx hb d_Text_firstBadOctet_34 rfl (lv_at hl 2 rfl) ?_
              exact hret _ _ _ _ _ _ h hP hD hS d_Text_firstBadOctet_35
  refine lv_iconst (v := 0) hx hb d_Text_firstBadOctet_0 (by decide) ?_
  refine lv_istore_n hx hb d_Text_firstBadOctet_1 rfl hl (by decide) rfl (fun ls hl => ?_)
  obtain ⟨n, h⟩ := h
  exact L2 n 0 σ _ _ _ h hP hD hS (lv_sub hl [1, 0] rfl)
set_option maxHeartbeats 4000000 in
set_option maxRecDepth 100000 in
theorem c_Text_lineFeedFrom {l : Launch} {D : va_G} {ad : Nat → Nat} {ty : Nat → ClassId} {cd : Nat → Nat → Nat} {a1 : Int32} {σ : KS} {post : Int32 → KS → Prop} (h : wp_Text_lineFeedFrom a1 σ post) : g_Meti l y_Text_lineFeedFrom (Cond.code y_Text_lineFeedFrom b_Text_lineFeedFrom 3 (some .int) :: gW) ({ frames := 1, cells := 0, slots := 0, locals := 21 }) D vwCl (gT ty) (kW ad ty) (cX cd) [.ref (ad 1), .int a1] σ post := by
  refine g_starti (cc := b_Text_lineFeedFrom) (maxL := 3) (by decide) rfl (Nat.le_of_ble_eq_true rfl) ?_
  intro p e s m args below meth c A Q R ls hR hx hb hts hown hml hA hS hP hD hK hCx hl hret
  unfold wp_Text_lineFeedFrom at h
  have hown : s.vm.findClass "TokenDesk$Text" = some m.cls := hown
  have hl : lv_has ls 3 [(0, .ref (ad 1)), (1, .int a1)] := hl
  have L2 : ∀ n : Nat, ∀ (x2 : Int32) (σ : KS) (H : Heap) (locs : List Loc) (ls : Array Slot), L_Text_lineFeedFrom_2 post n x2 σ → va_P D vwCl (kW ad ty σ) H → va_D A (kW ad ty σ) → va_S A s.heap H locs → lv_has ls 3 [(0, .ref (ad 1)), (2, .int x2)] → W p l e R s m args below meth c H locs 0 0 Q (F0 m 2 ls []) := by
    intro n2
    induction n2 with
    | zero => intro x2 σ H locs ls h hP hD hS hl; exact h.elim
    | succ n2 ih2 =>
      intro x2 σ H locs ls h hP hD hS hl
      unfold L_Text_lineFeedFrom_2 at h
      refine lv_iload_n hx hb d_Text_lineFeedFrom_2 rfl (lv_at hl 1 rfl) ?_
      refine lv_aload_n hx hb d_Text_lineFeedFrom_3 rfl (lv_at hl 0 rfl) ?_
      refine va_get (D := D) (v := .int (k_len σ)) (C := R_Text) (T := T_Text) (N := 3) hx hb hts in_Text hown hK hP 1 rfl rfl 2 (by decide) (hts _ q_f_Text_19) (fun _ h9 => h9) rfl d_Text_lineFeedFrom_4 ?_
      refine lv_icmp_ge hx hb d_Text_lineFeedFrom_7 (tgt := 28) rfl (fun hc => ?_) (fun hc => ?_)
      · have h := h.1 hc
        refine lv_aload_n hx hb d_Text_lineFeedFrom_28 rfl (lv_at hl 0 rfl) ?_
        refine va_get (D := D) (v := .int (k_len σ)) (C := R_Text) (T := T_Text) (N := 3) hx hb hts in_Text hown hK hP 1 rfl rfl 2 (by decide) (hts _ q_f_Text_19) (fun _ h9 => h9) rfl d_Text_lineFeedFrom_29 ?_
        exact hret _ _ _ _ _ _ h hP hD hS d_Text_lineFeedFrom_32
      · have h := h.2 hc
        refine lv_aload_n hx hb d_Text_lineFeedFrom_10 rfl (lv_at hl 0 rfl) ?_
        refine lv_iload_n hx hb d_Text_lineFeedFrom_11 rfl (lv_at hl 1 rfl) ?_
        refine g_callVi ⟨hx, hb, hml, hown, hts⟩ (c_Text_letterAt h) (g_cwV 1 hts q_l_Text_22 q_m_Text_letterAt q_s_Text_letterAt q_i_TokenDesk_Text q_k_Text_letterAt (by decide +kernel) rfl rfl (by rw [hR]; exact ⟨Nat.le_of_ble_eq_true rfl, Nat.le_of_ble_eq_true rfl⟩)) (va_recv hK hP (q0 := 1) rfl rfl) cX_g hK hP hD hS hA hCx rfl hl.1 rfl (Nat.le_of_ble_eq_true rfl) d_Text_lineFeedFrom_12 ⟨Nat.zero_le _, Nat.zero_le _⟩ (fun r1 σ2 H locs h hP hD hS => ?_)
        refine lv_bipush (v := 10) hx hb d_Text_lineFeedFrom_15 (by decide) ?_
        refine lv_icmp_ne hx hb d_Text_lineFeedFrom_17 (tgt := 22) rfl (fun hc => ?_) (fun hc => ?_)
        · have h := h.1 hc
          refine lv_iinc (v := (x2 + 1)) hx hb d_Text_lineFeedFrom_22 hl (k := 1) rfl rfl (by decide) rfl (fun ls hl => ?_)
          refine lv_goto hx hb d_Text_lineFeedFrom_25 (tgt := 2) rfl ?_
          exact ih2 (x2 + 1) σ2 _ _ _ h hP hD hS (lv_sub hl [1, 0] rfl)
        · have h := h.2 hc
          refine lv_iload_n hx hb d_Text_lineFeedFrom_20 rfl (lv_at hl 1 rfl) ?_
          exact hret _ _ _ _ _ _ h hP hD hS d_Text_lineFeedFrom_21
  refine lv_iload_n hx hb d_Text_lineFeedFrom_0 rfl (lv_at hl 1 rfl) ?_
  refine lv_istore_n hx hb d_Text_lineFeedFrom_1 rfl hl (by decide) rfl (fun ls hl => ?_)
  obtain ⟨n, h⟩ := h
  exact L2 n a1 σ _ _ _ h hP hD hS (lv_sub hl [1, 0] rfl)
set_option maxHeartbeats 4000000 in
set_option maxRecDepth 100000 in
theorem c_Text_lineFeedsIn {l : Launch} {D : va_G} {ad : Nat → Nat} {ty : Nat → ClassId} {cd : Nat → Nat → Nat} {a1 : Int32} {a2 : Int32} {σ : KS} {post : Int32 → KS → Prop} (h : wp_Text_lineFeedsIn a1 a2 σ post) : g_Meti l y_Text_lineFeedsIn (Cond.code y_Text_lineFeedsIn b_Text_lineFeedsIn 5 (some .int) :: gW) ({ frames := 1, cells := 0, slots := 0, locals := 21 }) D vwCl (gT ty) (kW ad ty) (cX cd) [.ref (ad 1), .int a1, .int a2] σ post := by
  refine g_starti (cc := b_Text_lineFeedsIn) (maxL := 5) (by decide) rfl (Nat.le_of_ble_eq_true rfl) ?_
  intro p e s m args below meth c A Q R ls hR hx hb hts hown hml hA hS hP hD hK hCx hl hret
  unfold wp_Text_lineFeedsIn at h
  have hown : s.vm.findClass "TokenDesk$Text" = some m.cls := hown
  have hl : lv_has ls 5 [(0, .ref (ad 1)), (1, .int a1), (2, .int a2)] := hl
  have L5 : ∀ n : Nat, ∀ (x2 : Int32) (x3 : Int32) (x4 : Int32) (σ : KS) (H : Heap) (locs : List Loc) (ls : Array Slot), L_Text_lineFeedsIn_5 post n x2 x3 x4 σ → va_P D vwCl (kW ad ty σ) H → va_D A (kW ad ty σ) → va_S A s.heap H locs → lv_has ls 5 [(0, .ref (ad 1)), (2, .int x2), (3, .int x3), (4, .int x4)] → W p l e R s m args below meth c H locs 0 0 Q (F0 m 5 ls []) := by
    intro n5
    induction n5 with
    | zero => intro x2 x3 x4 σ H locs ls h hP hD hS hl; exact h.elim
    | succ n5 ih5 =>
      have L25 : ∀ (x2 : Int32) (x3 : Int32) (x4 : Int32) (σ : KS) (H : Heap) (locs : List Loc) (ls : Array Slot), L_Text_lineFeedsIn_25 post (fun x2 x3 x4 σ => L_Text_lineFeedsIn_5 post n5 x2 x3 x4 σ) x2 x3 x4 σ → va_P D vwCl (kW ad ty σ) H → va_D A (kW ad ty σ) → va_S A s.heap H locs → lv_has ls 5 [(0, .ref (ad 1)), (2, .int x2), (3, .int x3), (4, .int x4)] → W p l e R s m args below meth c H locs 0 0 Q (F0 m 25 ls []) := by
        intro x2 x3 x4 σ H locs ls h hP hD hS hl
        unfold L_Text_lineFeedsIn_25 at h
        refine lv_iinc (v := (x4 + 1)) hx hb d_Text_lineFeedsIn_25 hl (k := 3) rfl rfl (by decide) rfl (fun ls hl => ?_)
        refine lv_goto hx hb d_Text_lineFeedsIn_28 (tgt := 5) rfl ?_
        exact ih5 x2 x3 (x4 + 1) σ _ _ _ h hP hD hS (lv_sub hl [1, 2, 3, 0] rfl)
      intro x2 x3 x4 σ H locs ls h hP hD hS hl
      unfold L_Text_lineFeedsIn_5 at h
      refine lv_iload hx hb d_Text_lineFeedsIn_5 (lv_at hl 3 rfl) ?_
      refine lv_iload_n hx hb d_Text_lineFeedsIn_7 rfl (lv_at hl 1 rfl) ?_
      refine lv_icmp_ge hx hb d_Text_lineFeedsIn_8 (tgt := 31) rfl (fun hc => ?_) (fun hc => ?_)
      · have h := h.1 hc
        refine lv_iload_n hx hb d_Text_lineFeedsIn_31 rfl (lv_at hl 2 rfl) ?_
        exact hret _ _ _ _ _ _ h hP hD hS d_Text_lineFeedsIn_32
      · have h := h.2 hc
        refine lv_aload_n hx hb d_Text_lineFeedsIn_11 rfl (lv_at hl 0 rfl) ?_
        refine lv_iload hx hb d_Text_lineFeedsIn_12 (lv_at hl 3 rfl) ?_
        refine g_callVi ⟨hx, hb, hml, hown, hts⟩ (c_Text_letterAt h) (g_cwV 1 hts q_l_Text_22 q_m_Text_letterAt q_s_Text_letterAt q_i_TokenDesk_Text q_k_Text_letterAt (by decide +kernel) rfl rfl (by rw [hR]; exact ⟨Nat.le_of_ble_eq_true rfl, Nat.le_of_ble_eq_true rfl⟩)) (va_recv hK hP (q0 := 1) rfl rfl) cX_g hK hP hD hS hA hCx rfl hl.1 rfl (Nat.le_of_ble_eq_true rfl) d_Text_lineFeedsIn_14 ⟨Nat.zero_le _, Nat.zero_le _⟩ (fun r1 σ2 H locs h hP hD hS => ?_)
        refine lv_bipush (v := 10) hx hb d_Text_lineFeedsIn_17 (by decide) ?_
        refine lv_icmp_ne hx hb d_Text_lineFeedsIn_19 (tgt := 25) rfl (fun hc => ?_) (fun hc => ?_)
        · have h := h.1 hc
          exact L25 x2 x3 x4 σ2 _ _ _ h hP hD hS hl
        · have h := h.2 hc
          refine lv_iinc (v := (x3 + 1)) hx hb d_Text_lineFeedsIn_22 hl (k := 2) rfl rfl (by decide) rfl (fun ls hl => ?_)
          exact L25 x2 (x3 + 1) x4 σ2 _ _ _ h hP hD hS (lv_sub hl [1, 2, 0, 3] rfl)
  refine lv_iconst (v := 0) hx hb d_Text_lineFeedsIn_0 (by decide) ?_
  refine lv_istore_n hx hb d_Text_lineFeedsIn_1 rfl hl (by decide) rfl (fun ls hl => ?_)
  refine lv_iload_n hx hb d_Text_lineFeedsIn_2 rfl (lv_at hl 2 rfl) ?_
  refine lv_istore hx hb d_Text_lineFeedsIn_3 hl (by decide) rfl (fun ls hl => ?_)
  obtain ⟨n, h⟩ := h
  exact L5 n a2 0 a1 σ _ _ _ h hP hD hS (lv_sub hl [2, 4, 1, 0] rfl)
set_option maxHeartbeats 4000000 in
set_option maxRecDepth 100000 in
theorem c_Text_blanksFrom {l : Launch} {D : va_G} {ad : Nat → Nat} {ty : Nat → ClassId} {cd : Nat → Nat → Nat} {a1 : Int32} {σ : KS} {post : Int32 → KS → Prop} (h : wp_Text_blanksFrom a1 σ post) : g_Meti l y_Text_blanksFrom (Cond.code y_Text_blanksFrom b_Text_blanksFrom 3 (some .int) :: gW) ({ frames := 1, cells := 0, slots := 0, locals := 21 }) D vwCl (gT ty) (kW ad ty) (cX cd) [.ref (ad 1), .int a1] σ post := by
  refine g_starti (cc := b_Text_blanksFrom) (maxL := 3) (by decide) rfl (Nat.le_of_ble_eq_true rfl) ?_
  intro p e s m args below meth c A Q R ls hR hx hb hts hown hml hA hS hP hD hK hCx hl hret
  unfold wp_Text_blanksFrom at h
  have hown : s.vm.findClass "TokenDesk$Text" = some m.cls := hown
  have hl : lv_has ls 3 [(0, .ref (ad 1)), (1, .int a1)] := hl
  have L2 : ∀ n : Nat, ∀ (x1 : Int32) (x2 : Int32) (σ : KS) (H : Heap) (locs : List Loc) (ls : Array Slot), L_Text_blanksFrom_2 post n x1 x2 σ → va_P D vwCl (kW ad ty σ) H → va_D A (kW ad ty σ) → va_S A s.heap H locs → lv_has ls 3 [(0, .ref (ad 1)), (1, .int x1), (2, .int x2)] → W p l e R s m args below meth c H locs 0 0 Q (F0 m 2 ls []) := by
    intro n2
    induction n2 with
    | zero => intro x1 x2 σ H locs ls h hP hD hS hl; exact h.elim
    | succ n2 ih2 =>
      intro x1 x2 σ H locs ls h hP hD hS hl
      unfold L_Text_blanksFrom_2 at h
      refine lv_iload_n hx hb d_Text_blanksFrom_2 rfl (lv_at hl 2 rfl) ?_
      refine lv_aload_n hx hb d_Text_blanksFrom_3 rfl (lv_at hl 0 rfl) ?_
      refine va_get (D := D) (v := .int (k_len σ)) (C := R_Text) (T := T_Text) (N := 3) hx hb hts in_Text hown hK hP 1 rfl rfl 2 (by decide) (hts _ q_f_Text_19) (fun _ h9 => h9) rfl d_Text_blanksFrom_4 ?_
      refine lv_icmp_ge hx hb d_Text_blanksFrom_7 (tgt := 30) rfl (fun hc => ?_) (fun hc => ?_)
      · have h := h.1 hc
        refine lv_aload_n hx hb d_Text_blanksFrom_30 rfl (lv_at hl 0 rfl) ?_
        refine va_get (D := D) (v := .int (k_len σ)) (C := R_Text) (T := T_Text) (N := 3) hx hb hts in_Text hown hK hP 1 rfl rfl 2 (by decide) (hts _ q_f_Text_19) (fun _ h9 => h9) rfl d_Text_blanksFrom_31 ?_
        refine lv_iload_n hx hb d_Text_blanksFrom_34 rfl (lv_at hl 1 rfl) ?_
        refine lv_isub hx hb d_Text_blanksFrom_35 ?_
        exact hret _ _ _ _ _ _ h hP hD hS d_Text_blanksFrom_36
      · have h := h.2 hc
        refine lv_aload_n hx hb d_Text_blanksFrom_10 rfl (lv_at hl 0 rfl) ?_
        refine lv_iload_n hx hb d_Text_blanksFrom_11 rfl (lv_at hl 2 rfl) ?_
        refine g_callVi ⟨hx, hb, hml, hown, hts⟩ (c_Text_letterAt h) (g_cwV 1 hts q_l_Text_22 q_m_Text_letterAt q_s_Text_letterAt q_i_TokenDesk_Text q_k_Text_letterAt (by decide +kernel) rfl rfl (by rw [hR]; exact ⟨Nat.le_of_ble_eq_true rfl, Nat.le_of_ble_eq_true rfl⟩)) (va_recv hK hP (q0 := 1) rfl rfl) cX_g hK hP hD hS hA hCx rfl hl.1 rfl (Nat.le_of_ble_eq_true rfl) d_Text_blanksFrom_12 ⟨Nat.zero_le _, Nat.zero_le _⟩ (fun r1 σ2 H locs h hP hD hS => ?_)
        refine lv_bipush (v := 32) hx hb d_Text_blanksFrom_15 (by decide) ?_
        refine lv_icmp_eq hx hb d_Text_blanksFrom_17 (tgt := 24) rfl (fun hc => ?_) (fun hc => ?_)
        · have h := h.1 hc
          refine lv_iinc (v := (x2 + 1)) hx hb d_Text_blanksFrom_24 hl (k := 2) rfl rfl (by decide) rfl (fun ls hl => ?_)
          refine lv_goto hx hb d_Text_blanksFrom_27 (tgt := 2) rfl ?_
          exact ih2 x1 (x2 + 1) σ2 _ _ _ h hP hD hS (lv_sub hl [1, 2, 0] rfl)
        · have h := h.2 hc
          refine lv_iload_n hx hb d_Text_blanksFrom_20 rfl (lv_at hl 2 rfl) ?_
          refine lv_iload_n hx hb d_Text_blanksFrom_21 rfl (lv_at hl 1 rfl) ?_
          refine lv_isub hx hb d_Text_blanksFrom_22 ?_
          exact hret _ _ _ _ _ _ h hP hD hS d_Text_blanksFrom_23
  refine lv_iload_n hx hb d_Text_blanksFrom_0 rfl (lv_at hl 1 rfl) ?_
  refine lv_istore_n hx hb d_Text_blanksFrom_1 rfl hl (by decide) rfl (fun ls hl => ?_)
  obtain ⟨n, h⟩ := h
  exact L2 n a1 a1 σ _ _ _ h hP hD hS (lv_sub hl [1, 2, 0] rfl)
set_option maxHeartbeats 4000000 in
set_option maxRecDepth 100000 in
theorem c_Text_joinsLinesAt {l : Launch} {D : va_G} {ad : Nat → Nat} {ty : Nat → ClassId} {cd : Nat → Nat → Nat} {a1 : Int32} {σ : KS} {post : Int32 → KS → Prop} (h : wp_Text_joinsLinesAt a1 σ post) : g_Meti l y_Text_joinsLinesAt (Cond.code y_Text_joinsLinesAt b_Text_joinsLinesAt 2 (some .boolean) :: gW) ({ frames := 1, cells := 0, slots := 0, locals := 21 }) D vwCl (gT ty) (kW ad ty) (cX cd) [.ref (ad 1), .int a1] σ post := by
  refine g_startz (cc := b_Text_joinsLinesAt) (maxL := 2) (by decide) rfl (Nat.le_of_ble_eq_true rfl) ?_
  intro p e s m args below meth c A Q R ls hR hx hb hts hown hml hA hS hP hD hK hCx hl hret
  unfold wp_Text_joinsLinesAt at h
  have hown : s.vm.findClass "TokenDesk$Text" = some m.cls := hown
  have hl : lv_has ls 2 [(0, .ref (ad 1)), (1, .int a1)] := hl
  refine lv_aload_n hx hb d_Text_joinsLinesAt_0 rfl (lv_at hl 0 rfl) ?_
  refine lv_iload_n hx hb d_Text_joinsLinesAt_1 rfl (lv_at hl 1 rfl) ?_
  refine g_callVi ⟨hx, hb, hml, hown, hts⟩ (c_Text_letterAt h) (g_cwV 1 hts q_l_Text_22 q_m_Text_letterAt q_s_Text_letterAt q_i_TokenDesk_Text q_k_Text_letterAt (by decide +kernel) rfl rfl (by rw [hR]; exact ⟨Nat.le_of_ble_eq_true rfl, Nat.le_of_ble_eq_true rfl⟩)) (va_recv hK hP (q0 := 1) rfl rfl) cX_g hK hP hD hS hA hCx rfl hl.1 rfl (Nat.le_of_ble_eq_true rfl) d_Text_joinsLinesAt_2 ⟨Nat.zero_le _, Nat.zero_le _⟩ (fun r1 σ2 H locs h hP hD hS => ?_)
  refine lv_bipush (v := 92) hx hb d_Text_joinsLinesAt_5 (by decide) ?_
  refine lv_icmp_ne hx hb d_Text_joinsLinesAt_7 (tgt := 26) rfl (fun hc => ?_) (fun hc => ?_)
  · have h := h.1 hc
    refine lv_iconst (v := 0) hx hb d_Text_joinsLinesAt_26 (by decide) ?_
    exact hret _ _ _ _ _ _ h rfl hP hD hS d_Text_joinsLinesAt_27
  · have h := h.2 hc
    refine lv_aload_n hx hb d_Text_joinsLinesAt_10 rfl (lv_at hl 0 rfl) ?_
    refine lv_iload_n hx hb d_Text_joinsLinesAt_11 rfl (lv_at hl 1 rfl) ?_
    refine lv_iconst (v := 1) hx hb d_Text_joinsLinesAt_12 (by decide) ?_
    refine lv_iadd hx hb d_Text_joinsLinesAt_13 ?_
    refine g_callVi ⟨hx, hb, hml, hown, hts⟩ (c_Text_letterAt h) (g_cwV 1 hts q_l_Text_22 q_m_Text_letterAt q_s_Text_letterAt q_i_TokenDesk_Text q_k_Text_letterAt (by decide +kernel) rfl rfl (by rw [hR]; exact ⟨Nat.le_of_ble_eq_true rfl, Nat.le_of_ble_eq_true rfl⟩)) (va_recv hK hP (q0 := 1) rfl rfl) cX_g hK hP hD hS hA hCx rfl hl.1 rfl (Nat.le_of_ble_eq_true rfl) d_Text_joinsLinesAt_14 ⟨Nat.zero_le _, Nat.zero_le _⟩ (fun r3 σ4 H locs h hP hD hS => ?_)
    refine lv_bipush (v := 10) hx hb d_Text_joinsLinesAt_17 (by decide) ?_
    refine lv_icmp_ne hx hb d_Text_joinsLinesAt_19 (tgt := 26) rfl (fun hc => ?_) (fun hc => ?_)
    · have h := h.1 hc
      refine lv_iconst (v := 0) hx hb d_Text_joinsLinesAt_26 (by decide) ?_
      exact hret _ _ _ _ _ _ h rfl hP hD hS d_Text_joinsLinesAt_27
    · have h := h.2 hc
      refine lv_iconst (v := 1) hx hb d_Text_joinsLinesAt_22 (by decide) ?_
      refine lv_goto hx hb d_Text_joinsLinesAt_23 (tgt := 27) rfl ?_
      exact hret _ _ _ _ _ _ h rfl hP hD hS d_Text_joinsLinesAt_27
