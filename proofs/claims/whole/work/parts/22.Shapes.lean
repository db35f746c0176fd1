set_option maxHeartbeats 4000000 in
set_option maxRecDepth 100000 in
theorem c_Shapes_isDigit {l : Launch} {D : va_G} {ad : Nat → Nat} {ty : Nat → ClassId} {cd : Nat → Nat → Nat} {a1 : Int32} {a2 : Int32} {σ : KS} {post : Int32 → KS → Prop} (h : wp_Shapes_isDigit a1 a2 σ post) : g_Meti l y_Shapes_isDigit (Cond.code y_Shapes_isDigit b_Shapes_isDigit 2 (some .boolean) :: gW) ({ frames := 0, cells := 0, slots := 0, locals := 0 }) D vwCl (gT ty) (kW ad ty) (cX cd) [.int a1, .int a2] σ post := by
  refine g_startz (cc := b_Shapes_isDigit) (maxL := 2) (by decide) rfl (Nat.le_of_ble_eq_true rfl) ?_
  intro p e s m args below meth c A Q R ls hR hx hb hts hown hml hA hS hP hD hK hCx hl hret
  unfold wp_Shapes_isDigit at h
  have hown : s.vm.findClass "TokenDesk$Shapes" = some m.cls := hown
  have hl : lv_has ls 2 [(0, .int a1), (1, .int a2)] := hl
  have L56 : ∀ (σ : KS) (H : Heap) (locs : List Loc) (ls : Array Slot), L_Shapes_isDigit_56 post σ → va_P D vwCl (kW ad ty σ) H → va_D A (kW ad ty σ) → va_S A s.heap H locs → lv_has ls 2 [] → W p l e R s m args below meth c H locs 0 0 Q (F0 m 56 ls []) := by
    intro σ H locs ls h hP hD hS hl
    unfold L_Shapes_isDigit_56 at h
    refine lv_iconst (v := 1) hx hb d_Shapes_isDigit_56 (by decide) ?_
    refine lv_goto hx hb d_Shapes_isDigit_57 (tgt := 61) rfl ?_
    exact hret _ _ _ _ _ _ h rfl hP hD hS d_Shapes_isDigit_61
  have L44 : ∀ (x0 : Int32) (σ : KS) (H : Heap) (locs : List Loc) (ls : Array Slot), L_Shapes_isDigit_44 post x0 σ → va_P D vwCl (kW ad ty σ) H → va_D A (kW ad ty σ) → va_S A s.heap H locs → lv_has ls 2 [(0, .int x0)] → W p l e R s m args below meth c H locs 0 0 Q (F0 m 44 ls []) := by
    intro x0 σ H locs ls h hP hD hS hl
    unfold L_Shapes_isDigit_44 at h
    refine lv_iload_n hx hb d_Shapes_isDigit_44 rfl (lv_at hl 0 rfl) ?_
    refine lv_bipush (v := 65) hx hb d_Shapes_isDigit_45 (by decide) ?_
    refine lv_icmp_lt hx hb d_Shapes_isDigit_47 (tgt := 60) rfl (fun hc => ?_) (fun hc => ?_)
    · have h := h.1 hc
      refine lv_iconst (v := 0) hx hb d_Shapes_isDigit_60 (by decide) ?_
      exact hret _ _ _ _ _ _ h rfl hP hD hS d_Shapes_isDigit_61
    · have h := h.2 hc
      refine lv_iload_n hx hb d_Shapes_isDigit_50 rfl (lv_at hl 0 rfl) ?_
      refine lv_bipush (v := 70) hx hb d_Shapes_isDigit_51 (by decide) ?_
      refine lv_icmp_gt hx hb d_Shapes_isDigit_53 (tgt := 60) rfl (fun hc => ?_) (fun hc => ?_)
      · have h := h.1 hc
        refine lv_iconst (v := 0) hx hb d_Shapes_isDigit_60 (by decide) ?_
        exact hret _ _ _ _ _ _ h rfl hP hD hS d_Shapes_isDigit_61
      · have h := h.2 hc
        exact L56 σ _ _ _ h hP hD hS (lv_sub hl [] rfl)
  have L26 : ∀ (x0 : Int32) (x1 : Int32) (σ : KS) (H : Heap) (locs : List Loc) (ls : Array Slot), L_Shapes_isDigit_26 post x0 x1 σ → va_P D vwCl (kW ad ty σ) H → va_D A (kW ad ty σ) → va_S A s.heap H locs → lv_has ls 2 [(0, .int x0), (1, .int x1)] → W p l e R s m args below meth c H locs 0 0 Q (F0 m 26 ls []) := by
    intro x0 x1 σ H locs ls h hP hD hS hl
    unfold L_Shapes_isDigit_26 at h
    refine lv_iload_n hx hb d_Shapes_isDigit_26 rfl (lv_at hl 1 rfl) ?_
    refine lv_bipush (v := 16) hx hb d_Shapes_isDigit_27 (by decide) ?_
    refine lv_icmp_ne hx hb d_Shapes_isDigit_29 (tgt := 60) rfl (fun hc => ?_) (fun hc => ?_)
    · have h := h.1 hc
      refine lv_iconst (v := 0) hx hb d_Shapes_isDigit_60 (by decide) ?_
      exact hret _ _ _ _ _ _ h rfl hP hD hS d_Shapes_isDigit_61
    · have h := h.2 hc
      refine lv_iload_n hx hb d_Shapes_isDigit_32 rfl (lv_at hl 0 rfl) ?_
      refine lv_bipush (v := 97) hx hb d_Shapes_isDigit_33 (by decide) ?_
      refine lv_icmp_lt hx hb d_Shapes_isDigit_35 (tgt := 44) rfl (fun hc => ?_) (fun hc => ?_)
      · have h := h.1 hc
        exact L44 x0 σ _ _ _ h hP hD hS (lv_sub hl [0] rfl)
      · have h := h.2 hc
        refine lv_iload_n hx hb d_Shapes_isDigit_38 rfl (lv_at hl 0 rfl) ?_
        refine lv_bipush (v := 102) hx hb d_Shapes_isDigit_39 (by decide) ?_
        refine lv_icmp_le hx hb d_Shapes_isDigit_41 (tgt := 56) rfl (fun hc => ?_) (fun hc => ?_)
        · have h := h.1 hc
          exact L56 σ _ _ _ h hP hD hS (lv_sub hl [] rfl)
        · have h := h.2 hc
          exact L44 x0 σ _ _ _ h hP hD hS (lv_sub hl [0] rfl)
  refine lv_iload_n hx hb d_Shapes_isDigit_0 rfl (lv_at hl 0 rfl) ?_
  refine lv_bipush (v := 48) hx hb d_Shapes_isDigit_1 (by decide) ?_
  refine lv_icmp_lt hx hb d_Shapes_isDigit_3 (tgt := 26) rfl (fun hc => ?_) (fun hc => ?_)
  · have h := h.1 hc
    exact L26 a1 a2 σ _ _ _ h hP hD hS hl
  · have h := h.2 hc
    refine lv_iload_n hx hb d_Shapes_isDigit_6 rfl (lv_at hl 0 rfl) ?_
    refine lv_bipush (v := 57) hx hb d_Shapes_isDigit_7 (by decide) ?_
    refine lv_icmp_gt hx hb d_Shapes_isDigit_9 (tgt := 26) rfl (fun hc => ?_) (fun hc => ?_)
    · have h := h.1 hc
      exact L26 a1 a2 σ _ _ _ h hP hD hS hl
    · have h := h.2 hc
      refine lv_iload_n hx hb d_Shapes_isDigit_12 rfl (lv_at hl 0 rfl) ?_
      refine lv_bipush (v := 48) hx hb d_Shapes_isDigit_13 (by decide) ?_
      refine lv_isub hx hb d_Shapes_isDigit_15 ?_
      refine lv_iload_n hx hb d_Shapes_isDigit_16 rfl (lv_at hl 1 rfl) ?_
      refine lv_icmp_ge hx hb d_Shapes_isDigit_17 (tgt := 24) rfl (fun hc => ?_) (fun hc => ?_)
      · have h := h.1 hc
        refine lv_iconst (v := 0) hx hb d_Shapes_isDigit_24 (by decide) ?_
        exact hret _ _ _ _ _ _ h rfl hP hD hS d_Shapes_isDigit_25
      · have h := h.2 hc
        refine lv_iconst (v := 1) hx hb d_Shapes_isDigit_20 (by decide) ?_
        refine lv_goto hx hb d_Shapes_isDigit_21 (tgt := 25) rfl ?_
        exact hret _ _ _ _ _ _ h rfl hP hD hS d_Shapes_isDigit_25
set_option maxHeartbeats 4000000 in
set_option maxRecDepth 100000 in
theorem c_Shapes_beginsName {l : Launch} {D : va_G} {ad : Nat → Nat} {ty : Nat → ClassId} {cd : Nat → Nat → Nat} {a1 : Int32} {σ : KS} {post : Int32 → KS → Prop} (h : wp_Shapes_beginsName a1 σ post) : g_Meti l y_Shapes_beginsName (Cond.code y_Shapes_beginsName b_Shapes_beginsName 1 (some .boolean) :: gW) ({ frames := 0, cells := 0, slots := 0, locals := 0 }) D vwCl (gT ty) (kW ad ty) (cX cd) [.int a1] σ post := by
  refine g_startz (cc := b_Shapes_beginsName) (maxL := 1) (by decide) rfl (Nat.le_of_ble_eq_true rfl) ?_
  intro p e s m args below meth c A Q R ls hR hx hb hts hown hml hA hS hP hD hK hCx hl hret
  unfold wp_Shapes_beginsName at h
  have hown : s.vm.findClass "TokenDesk$Shapes" = some m.cls := hown
  have hl : lv_has ls 1 [(0, .int a1)] := hl
  have L30 : ∀ (σ : KS) (H : Heap) (locs : List Loc) (ls : Array Slot), L_Shapes_beginsName_30 post σ → va_P D vwCl (kW ad ty σ) H → va_D A (kW ad ty σ) → va_S A s.heap H locs → lv_has ls 1 [] → W p l e R s m args below meth c H locs 0 0 Q (F0 m 30 ls []) := by
    intro σ H locs ls h hP hD hS hl
    unfold L_Shapes_beginsName_30 at h
    refine lv_iconst (v := 1) hx hb d_Shapes_beginsName_30 (by decide) ?_
    refine lv_goto hx hb d_Shapes_beginsName_31 (tgt := 35) rfl ?_
    exact hret _ _ _ _ _ _ h rfl hP hD hS d_Shapes_beginsName_35
  have L24 : ∀ (x0 : Int32) (σ : KS) (H : Heap) (locs : List Loc) (ls : Array Slot), L_Shapes_beginsName_24 post x0 σ → va_P D vwCl (kW ad ty σ) H → va_D A (kW ad ty σ) → va_S A s.heap H locs → lv_has ls 1 [(0, .int x0)] → W p l e R s m args below meth c H locs 0 0 Q (F0 m 24 ls []) := by
    intro x0 σ H locs ls h hP hD hS hl
    unfold L_Shapes_beginsName_24 at h
    refine lv_iload_n hx hb d_Shapes_beginsName_24 rfl (lv_at hl 0 rfl) ?_
    refine lv_bipush (v := 95) hx hb d_Shapes_beginsName_25 (by decide) ?_
    refine lv_icmp_ne hx hb d_Shapes_beginsName_27 (tgt := 34) rfl (fun hc => ?_) (fun hc => ?_)
    · have h := h.1 hc
      refine lv_iconst (v := 0) hx hb d_Shapes_beginsName_34 (by decide) ?_
      exact hret _ _ _ _ _ _ h rfl hP hD hS d_Shapes_beginsName_35
    · have h := h.2 hc
      exact L30 σ _ _ _ h hP hD hS (lv_sub hl [] rfl)
  have L12 : ∀ (x0 : Int32) (σ : KS) (H : Heap) (locs : List Loc) (ls : Array Slot), L_Shapes_beginsName_12 post x0 σ → va_P D vwCl (kW ad ty σ) H → va_D A (kW ad ty σ) → va_S A s.heap H locs → lv_has ls 1 [(0, .int x0)] → W p l e R s m args below meth c H locs 0 0 Q (F0 m 12 ls []) := by
    intro x0 σ H locs ls h hP hD hS hl
    unfold L_Shapes_beginsName_12 at h
    refine lv_iload_n hx hb d_Shapes_beginsName_12 rfl (lv_at hl 0 rfl) ?_
    refine lv_bipush (v := 65) hx hb d_Shapes_beginsName_13 (by decide) ?_
    refine lv_icmp_lt hx hb d_Shapes_beginsName_15 (tgt := 24) rfl (fun hc => ?_) (fun hc => ?_)
    · have h := h.1 hc
      exact L24 x0 σ _ _ _ h hP hD hS hl
    · have h := h.2 hc
      refine lv_iload_n hx hb d_Shapes_beginsName_18 rfl (lv_at hl 0 rfl) ?_
      refine lv_bipush (v := 90) hx hb d_Shapes_beginsName_19 (by decide) ?_
      refine lv_icmp_le hx hb d_Shapes_beginsName_21 (tgt := 30) rfl (fun hc => ?_) (fun hc => ?_)
      · have h := h.1 hc
        exact L30 σ _ _ _ h hP hD hS (lv_sub hl [] rfl)
      · have h := h.2 hc
        exact L24 x0 σ _ _ _ h hP hD hS hl
  refine lv_iload_n hx hb d_Shapes_beginsName_0 rfl (lv_at hl 0 rfl) ?_
  refine lv_bipush (v := 97) hx hb d_Shapes_beginsName_1 (by decide) ?_
  refine lv_icmp_lt hx hb d_Shapes_beginsName_3 (tgt := 12) rfl (fun hc => ?_) (fun hc => ?_)
  · have h := h.1 hc
    exact L12 a1 σ _ _ _ h hP hD hS hl
  · have h := h.2 hc
    refine lv_iload_n hx hb d_Shapes_beginsName_6 rfl (lv_at hl 0 rfl) ?_
    refine lv_bipush (v := 122) hx hb d_Shapes_beginsName_7 (by decide) ?_
    refine lv_icmp_le hx hb d_Shapes_beginsName_9 (tgt := 30) rfl (fun hc => ?_) (fun hc => ?_)
    · have h := h.1 hc
      exact L30 σ _ _ _ h hP hD hS (lv_sub hl [] rfl)
    · have h := h.2 hc
      exact L12 a1 σ _ _ _ h hP hD hS hl
set_option maxHeartbeats 4000000 in
set_option maxRecDepth 100000 in
theorem c_Shapes_continuesName {l : Launch} {D : va_G} {ad : Nat → Nat} {ty : Nat → ClassId} {cd : Nat → Nat → Nat} {a1 : Int32} {σ : KS} {post : Int32 → KS → Prop} (h : wp_Shapes_continuesName a1 σ post) : g_Meti l y_Shapes_continuesName (Cond.code y_Shapes_continuesName b_Shapes_continuesName 1 (some .boolean) :: gW) ({ frames := 1, cells := 0, slots := 0, locals := 21 }) D vwCl (gT ty) (kW ad ty) (cX cd) [.int a1] σ post := by
  refine g_startz (cc := b_Shapes_continuesName) (maxL := 1) (by decide) rfl (Nat.le_of_ble_eq_true rfl) ?_
  intro p e s m args below meth c A Q R ls hR hx hb hts hown hml hA hS hP hD hK hCx hl hret
  unfold wp_Shapes_continuesName at h
  have hown : s.vm.findClass "TokenDesk$Shapes" = some m.cls := hown
  have hl : lv_has ls 1 [(0, .int a1)] := hl
  have L16 : ∀ (σ : KS) (H : Heap) (locs : List Loc) (ls : Array Slot), L_Shapes_continuesName_16 post σ → va_P D vwCl (kW ad ty σ) H → va_D A (kW ad ty σ) → va_S A s.heap H locs → lv_has ls 1 [] → W p l e R s m args below meth c H locs 0 0 Q (F0 m 16 ls []) := by
    intro σ H locs ls h hP hD hS hl
    unfold L_Shapes_continuesName_16 at h
    refine lv_iconst (v := 1) hx hb d_Shapes_continuesName_16 (by decide) ?_
    refine lv_goto hx hb d_Shapes_continuesName_17 (tgt := 21) rfl ?_
    exact hret _ _ _ _ _ _ h rfl hP hD hS d_Shapes_continuesName_21
  refine lv_iload_n hx hb d_Shapes_continuesName_0 rfl (lv_at hl 0 rfl) ?_
  refine g_callSi ⟨hx, hb, hml, hown, hts⟩ (c_Shapes_beginsName h) (g_cwS 1 hts q_l_Shapes_15 q_t_Shapes_beginsName q_i_TokenDesk_Shapes q_k_Shapes_beginsName (by decide +kernel) rfl rfl (by rw [hR]; exact ⟨Nat.le_of_ble_eq_true rfl, Nat.le_of_ble_eq_true rfl⟩)) cX_g hK hP hD hS hA hCx rfl hl.1 rfl (Nat.le_of_ble_eq_true rfl) d_Shapes_continuesName_1 ⟨Nat.zero_le _, Nat.zero_le _⟩ (fun r1 σ2 H locs h hP hD hS => ?_)
  refine lv_if_ne hx hb d_Shapes_continuesName_4 (tgt := 16) rfl (fun hc => ?_) (fun hc => ?_)
  · have h := h.1 hc
    exact L16 σ2 _ _ _ h hP hD hS (lv_sub hl [] rfl)
  · have h := h.2 hc
    refine lv_iload_n hx hb d_Shapes_continuesName_7 rfl (lv_at hl 0 rfl) ?_
    refine lv_bipush (v := 10) hx hb d_Shapes_continuesName_8 (by decide) ?_
    refine g_callSi ⟨hx, hb, hml, hown, hts⟩ (c_Shapes_isDigit h) (g_cwS 2 hts q_l_Shapes_19 q_t_Shapes_isDigit q_i_TokenDesk_Shapes q_k_Shapes_isDigit (by decide +kernel) rfl rfl (by rw [hR]; exact ⟨Nat.le_of_ble_eq_true rfl, Nat.le_of_ble_eq_true rfl⟩)) cX_g hK hP hD hS hA hCx rfl hl.1 rfl (Nat.le_of_ble_eq_true rfl) d_Shapes_continuesName_10 ⟨Nat.zero_le _, Nat.zero_le _⟩ (fun r3 σ4 H locs h hP hD hS => ?_)
    refine lv_if_eq hx hb d_Shapes_continuesName_13 (tgt := 20) rfl (fun hc => ?_) (fun hc => ?_)
    · have h := h.1 hc
      refine lv_iconst (v := 0) hx hb d_Shapes_continuesName_20 (by decide) ?_
      exact hret _ _ _ _ _ _ h rfl hP hD hS d_Shapes_continuesName_21
    · have h := h.2 hc
      exact L16 σ4 _ _ _ h hP hD hS (lv_sub hl [] rfl)
set_option maxHeartbeats 4000000 in
set_option maxRecDepth 100000 in
theorem c_Shapes_nameEnd {l : Launch} {D : va_G} {ad : Nat → Nat} {ty : Nat → ClassId} {cd : Nat → Nat → Nat} {a1 : Int32} {σ : KS} {post : Int32 → KS → Prop} (h : wp_Shapes_nameEnd a1 σ post) : g_Meti l y_Shapes_nameEnd (Cond.code y_Shapes_nameEnd b_Shapes_nameEnd 3 (some .int) :: gW) ({ frames := 2, cells := 0, slots := 0, locals := 41 }) D vwCl (gT ty) (kW ad ty) (cX cd) [.ref (ad 7), .int a1] σ post := by
  refine g_starti (cc := b_Shapes_nameEnd) (maxL := 3) (by decide) rfl (Nat.le_of_ble_eq_true rfl) ?_
  intro p e s m args below meth c A Q R ls hR hx hb hts hown hml hA hS hP hD hK hCx hl hret
  unfold wp_Shapes_nameEnd at h
  have hown : s.vm.findClass "TokenDesk$Shapes" = some m.cls := hown
  have hl : lv_has ls 3 [(0, .ref (ad 7)), (1, .int a1)] := hl
  have L2 : ∀ n : Nat, ∀ (x2 : Int32) (σ : KS) (H : Heap) (locs : List Loc) (ls : Array Slot), L_Shapes_nameEnd_2 post n x2 σ → va_P D vwCl (kW ad ty σ) H → va_D A (kW ad ty σ) → va_S A s.heap H locs → lv_has ls 3 [(0, .ref (ad 7)), (2, .int x2)] → W p l e R s m args below meth c H locs 0 0 Q (F0 m 2 ls []) := by
    intro n2
    induction n2 with
    | zero => intro x2 σ H locs ls h hP hD hS hl; exact h.elim
    | succ n2 ih2 =>
      intro x2 σ H locs ls h hP hD hS hl
      unfold L_Shapes_nameEnd_2 at h
      refine lv_iload_n hx hb d_Shapes_nameEnd_2 rfl (lv_at hl 1 rfl) ?_
      refine lv_aload_n hx hb d_Shapes_nameEnd_3 rfl (lv_at hl 0 rfl) ?_
      refine va_get (D := D) (v := .ref (ad 1)) (C := R_Shapes) (T := T_Shapes) (N := 1) hx hb hts in_Shapes hown hK hP 7 rfl rfl 0 (by decide) (hts _ q_f_Shapes_9) (fun _ h9 => h9) rfl d_Shapes_nameEnd_4 ?_
      refine g_callVi ⟨hx, hb, hml, hown, hts⟩ (c_Text_size h) (g_cwV 0 hts q_l_Shapes_23 q_m_Text_size q_s_Text_size q_i_TokenDesk_Text q_k_Text_size (by decide +kernel) rfl rfl (by rw [hR]; exact ⟨Nat.le_of_ble_eq_true rfl, Nat.le_of_ble_eq_true rfl⟩)) (va_recv hK hP (q0 := 1) rfl rfl) cX_g hK hP hD hS hA hCx rfl hl.1 rfl (Nat.le_of_ble_eq_true rfl) d_Shapes_nameEnd_7 ⟨Nat.zero_le _, Nat.zero_le _⟩ (fun r1 σ2 H locs h hP hD hS => ?_)
      refine lv_icmp_ge hx hb d_Shapes_nameEnd_10 (tgt := 33) rfl (fun hc => ?_) (fun hc => ?_)
      · have h := h.1 hc
        refine lv_iload_n hx hb d_Shapes_nameEnd_33 rfl (lv_at hl 1 rfl) ?_
        exact hret _ _ _ _ _ _ h hP hD hS d_Shapes_nameEnd_34
      · have h := h.2 hc
        refine lv_aload_n hx hb d_Shapes_nameEnd_13 rfl (lv_at hl 0 rfl) ?_
        refine va_get (D := D) (v := .ref (ad 1)) (C := R_Shapes) (T := T_Shapes) (N := 1) hx hb hts in_Shapes hown hK hP 7 rfl rfl 0 (by decide) (hts _ q_f_Shapes_9) (fun _ h9 => h9) rfl d_Shapes_nameEnd_14 ?_
        refine lv_iload_n hx hb d_Shapes_nameEnd_17 rfl (lv_at hl 1 rfl) ?_
        refine g_callVi ⟨hx, hb, hml, hown, hts⟩ (c_Text_letterAt h) (g_cwV 1 hts q_l_Shapes_29 q_m_Text_letterAt q_s_Text_letterAt q_i_TokenDesk_Text q_k_Text_letterAt (by decide +kernel) rfl rfl (by rw [hR]; exact ⟨Nat.le_of_ble_eq_true rfl, Nat.le_of_ble_eq_true rfl⟩)) (va_recv hK hP (q0 := 1) rfl rfl) cX_g hK hP hD hS hA hCx rfl hl.1 rfl (Nat.le_of_ble_eq_true rfl) d_Shapes_nameEnd_18 ⟨Nat.zero_le _, Nat.zero_le _⟩ (fun r3 σ4 H locs h hP hD hS => ?_)
        refine g_callSi ⟨hx, hb, hml, hown, hts⟩ (c_Shapes_continuesName h) (g_cwS 1 hts q_l_Shapes_33 q_t_Shapes_continuesName q_i_TokenDesk_Shapes q_k_Shapes_continuesName (by decide +kernel) rfl rfl (by rw [hR]; exact ⟨Nat.le_of_ble_eq_true rfl, Nat.le_of_ble_eq_true rfl⟩)) cX_g hK hP hD hS hA hCx rfl hl.1 rfl (Nat.le_of_ble_eq_true rfl) d_Shapes_nameEnd_21 ⟨Nat.zero_le _, Nat.zero_le _⟩ (fun r5 σ6 H locs h hP hD hS => ?_)
        refine lv_if_eq hx hb d_Shapes_nameEnd_24 (tgt := 33) rfl (fun hc => ?_) (fun hc => ?_)
        · have h := h.1 hc
          refine lv_iload_n hx hb d_Shapes_nameEnd_33 rfl (lv_at hl 1 rfl) ?_
          exact hret _ _ _ _ _ _ h hP hD hS d_Shapes_nameEnd_34
        · have h := h.2 hc
          refine lv_iinc (v := (x2 + 1)) hx hb d_Shapes_nameEnd_27 hl (k := 1) rfl rfl (by decide) rfl (fun ls hl => ?_)
          refine lv_goto hx hb d_Shapes_nameEnd_30 (tgt := 2) rfl ?_
          exact ih2 (x2 + 1) σ6 _ _ _ h hP hD hS (lv_sub hl [1, 0] rfl)
  refine lv_iload_n hx hb d_Shapes_nameEnd_0 rfl (lv_at hl 1 rfl) ?_
  refine lv_istore_n hx hb d_Shapes_nameEnd_1 rfl hl (by decide) rfl (fun ls hl => ?_)
  obtain ⟨n, h⟩ := h
  exact L2 n a1 σ _ _ _ h hP hD hS (lv_sub hl [1, 0] rfl)
set_option maxHeartbeats 4000000 in
set_option maxRecDepth 100000 in
theorem c_Shapes_isSpelled {l : Launch} {D : va_G} {ad : Nat → Nat} {ty : Nat → ClassId} {cd : Nat → Nat → Nat} {i1 : Nat} {a2 : Int32} {a3 : Int32} {σ : KS} {post : Int32 → KS → Prop} (h : wp_Shapes_isSpelled i1 a2 a3 σ post) : g_Meti l y_Shapes_isSpelled (Cond.code y_Shapes_isSpelled b_Shapes_isSpelled 5 (some .boolean) :: gW) ({ frames := 4, cells := 0, slots := 0, locals := 85 }) D vwCl (gT ty) (kW ad ty) (cX cd) [.ref (ad 7), .ref (cd 0 i1), .int a2, .int a3] σ post := by
  refine g_startz (cc := b_Shapes_isSpelled) (maxL := 5) (by decide) rfl (Nat.le_of_ble_eq_true rfl) ?_
  intro p e s m args below meth c A Q R ls hR hx hb hts hown hml hA hS hP hD hK hCx hl hret
  unfold wp_Shapes_isSpelled at h
  have hown : s.vm.findClass "TokenDesk$Shapes" = some m.cls := hown
  have hl : lv_has ls 5 [(0, .ref (ad 7)), (1, .ref (cd 0 i1)), (2, .int a2), (3, .int a3)] := hl
  have L15 : ∀ n : Nat, ∀ (x2 : Int32) (x4 : Int32) (σ : KS) (H : Heap) (locs : List Loc) (ls : Array Slot), L_Shapes_isSpelled_15 i1 post n x2 x4 σ → va_P D vwCl (kW ad ty σ) H → va_D A (kW ad ty σ) → va_S A s.heap H locs → lv_has ls 5 [(0, .ref (ad 7)), (1, .ref (cd 0 i1)), (2, .int x2), (4, .int x4)] → W p l e R s m args below meth c H locs 0 0 Q (F0 m 15 ls []) := by
    intro n15
    induction n15 with
    | zero => intro x2 x4 σ H locs ls h hP hD hS hl; exact h.elim
    | succ n15 ih15 =>
      intro x2 x4 σ H locs ls h hP hD hS hl
      unfold L_Shapes_isSpelled_15 at h
      refine lv_iload hx hb d_Shapes_isSpelled_15 (lv_at hl 3 rfl) ?_
      refine lv_aload_n hx hb d_Shapes_isSpelled_17 rfl (lv_at hl 1 rfl) ?_
      refine g_callVi ⟨hx, hb, hml, hown, hts⟩ (c_Str_length h) (g_cwV 0 hts q_l_Shapes_50 q_m_Str_length q_s_Str_length q_i_java_lang_String q_k_Str_length (by decide +kernel) rfl rfl (by rw [hR]; exact ⟨Nat.le_of_ble_eq_true rfl, Nat.le_of_ble_eq_true rfl⟩)) (cX_recv hCx h.1 hS) cX_g hK hP hD hS hA hCx rfl hl.1 rfl (Nat.le_of_ble_eq_true rfl) d_Shapes_isSpelled_18 ⟨Nat.zero_le _, Nat.zero_le _⟩ (fun r3 σ4 H locs h hP hD hS => ?_)
      refine lv_icmp_ge hx hb d_Shapes_isSpelled_21 (tgt := 52) rfl (fun hc => ?_) (fun hc => ?_)
      · have h := h.1 hc
        refine lv_iconst (v := 1) hx hb d_Shapes_isSpelled_52 (by decide) ?_
        exact hret _ _ _ _ _ _ h rfl hP hD hS d_Shapes_isSpelled_53
      · have h := h.2 hc
        refine lv_aload_n hx hb d_Shapes_isSpelled_24 rfl (lv_at hl 1 rfl) ?_
        refine lv_iload hx hb d_Shapes_isSpelled_25 (lv_at hl 3 rfl) ?_
        refine g_callVi ⟨hx, hb, hml, hown, hts⟩ (c_Str_charAt h) (g_cwV 1 hts q_l_Shapes_55 q_m_Str_charAt q_s_Str_charAt q_i_java_lang_String q_k_Str_charAt (by decide +kernel) rfl rfl (by rw [hR]; exact ⟨Nat.le_of_ble_eq_true rfl, Nat.le_of_ble_eq_true rfl⟩)) (cX_recv hCx h.1 hS) cX_g hK hP hD hS hA hCx rfl hl.1 rfl (Nat.le_of_ble_eq_true rfl) d_Shapes_isSpelled_27 ⟨Nat.zero_le _, Nat.zero_le _⟩ (fun r5 σ6 H locs h hP hD hS => ?_)
        refine lv_aload_n hx hb d_Shapes_isSpelled_30 rfl (lv_at hl 0 rfl) ?_
        refine va_get (D := D) (v := .ref (ad 1)) (C := R_Shapes) (T := T_Shapes) (N := 1) hx hb hts in_Shapes hown hK hP 7 rfl rfl 0 (by decide) (hts _ q_f_Shapes_9) (fun _ h9 => h9) rfl d_Shapes_isSpelled_31 ?_
        refine lv_iload_n hx hb d_Shapes_isSpelled_34 rfl (lv_at hl 2 rfl) ?_
        refine lv_iload hx hb d_Shapes_isSpelled_35 (lv_at hl 3 rfl) ?_
        refine lv_iadd hx hb d_Shapes_isSpelled_37 ?_
        refine g_callVi ⟨hx, hb, hml, hown, hts⟩ (c_Text_letterAt h) (g_cwV 1 hts q_l_Shapes_29 q_m_Text_letterAt q_s_Text_letterAt q_i_TokenDesk_Text q_k_Text_letterAt (by decide +kernel) rfl rfl (by rw [hR]; exact ⟨Nat.le_of_ble_eq_true rfl, Nat.le_of_ble_eq_true rfl⟩)) (va_recv hK hP (q0 := 1) rfl rfl) cX_g hK hP hD hS hA hCx rfl hl.1 rfl (Nat.le_of_ble_eq_true rfl) d_Shapes_isSpelled_38 ⟨Nat.zero_le _, Nat.zero_le _⟩ (fun r7 σ8 H locs h hP hD hS => ?_)
        refine lv_icmp_eq hx hb d_Shapes_isSpelled_41 (tgt := 46) rfl (fun hc => ?_) (fun hc => ?_)
        · have h := h.1 hc
          refine lv_iinc (v := (x4 + 1)) hx hb d_Shapes_isSpelled_46 hl (k := 3) rfl rfl (by decide) rfl (fun ls hl => ?_)
          refine lv_goto hx hb d_Shapes_isSpelled_49 (tgt := 15) rfl ?_
          exact ih15 x2 (x4 + 1) σ8 _ _ _ h hP hD hS (lv_sub hl [1, 2, 3, 0] rfl)
        · have h := h.2 hc
          refine lv_iconst (v := 0) hx hb d_Shapes_isSpelled_44 (by decide) ?_
          exact hret _ _ _ _ _ _ h rfl hP hD hS d_Shapes_isSpelled_45
  refine lv_aload_n hx hb d_Shapes_isSpelled_0 rfl (lv_at hl 1 rfl) ?_
  refine g_callVi ⟨hx, hb, hml, hown, hts⟩ (c_Str_length h) (g_cwV 0 hts q_l_Shapes_50 q_m_Str_length q_s_Str_length q_i_java_lang_String q_k_Str_length (by decide +kernel) rfl rfl (by rw [hR]; exact ⟨Nat.le_of_ble_eq_true rfl, Nat.le_of_ble_eq_true rfl⟩)) (cX_recv hCx h.1 hS) cX_g hK hP hD hS hA hCx rfl hl.1 rfl (Nat.le_of_ble_eq_true rfl) d_Shapes_isSpelled_1 ⟨Nat.zero_le _, Nat.zero_le _⟩ (fun r1 σ2 H locs h hP hD hS => ?_)
  refine lv_iload_n hx hb d_Shapes_isSpelled_4 rfl (lv_at hl 3 rfl) ?_
  refine lv_iload_n hx hb d_Shapes_isSpelled_5 rfl (lv_at hl 2 rfl) ?_
  refine lv_isub hx hb d_Shapes_isSpelled_6 ?_
  refine lv_icmp_eq hx hb d_Shapes_isSpelled_7 (tgt := 12) rfl (fun hc => ?_) (fun hc => ?_)
  · have h := h.1 hc
    refine lv_iconst (v := 0) hx hb d_Shapes_isSpelled_12 (by decide) ?_
    refine lv_istore hx hb d_Shapes_isSpelled_13 hl (by decide) rfl (fun ls hl => ?_)
    obtain ⟨n, h⟩ := h
    exact L15 n a2 0 σ2 _ _ _ h hP hD hS (lv_sub hl [1, 2, 3, 0] rfl)
  · have h := h.2 hc
    refine lv_iconst (v := 0) hx hb d_Shapes_isSpelled_10 (by decide) ?_
    exact hret _ _ _ _ _ _ h rfl hP hD hS d_Shapes_isSpelled_11
set_option maxHeartbeats 4000000 in
set_option maxRecDepth 100000 in
theorem c_Shapes_nameKind {l : Launch} {D : va_G} {ad : Nat → Nat} {ty : Nat → ClassId} {cd : Nat → Nat → Nat} {a1 : Int32} {a2 : Int32} {σ : KS} {post : Int32 → KS → Prop} (h : wp_Shapes_nameKind a1 a2 σ post) : g_Meti l y_Shapes_nameKind (Cond.code y_Shapes_nameKind b_Shapes_nameKind 4 (some .int) :: gW) ({ frames := 5, cells := 0, slots := 0, locals := 109 }) D vwCl (gT ty) (kW ad ty) (cX cd) [.ref (ad 7), .int a1, .int a2] σ post := by
  refine g_starti (cc := b_Shapes_nameKind) (maxL := 4) (by decide) rfl (Nat.le_of_ble_eq_true rfl) ?_
  intro p e s m args below meth c A Q R ls hR hx hb hts hown hml hA hS hP hD hK hCx hl hret
  unfold wp_Shapes_nameKind at h
  have hown : s.vm.findClass "TokenDesk$Shapes" = some m.cls := hown
  have hl : lv_has ls 4 [(0, .ref (ad 7)), (1, .int a1), (2, .int a2)] := hl
  have L2 : ∀ n : Nat, ∀ (x1 : Int32) (x2 : Int32) (x3 : Int32) (σ : KS) (H : Heap) (locs : List Loc) (ls : Array Slot), L_Shapes_nameKind_2 post n x1 x2 x3 σ → va_P D vwCl (kW ad ty σ) H → va_D A (kW ad ty σ) → va_S A s.heap H locs → lv_has ls 4 [(0, .ref (ad 7)), (1, .int x1), (2, .int x2), (3, .int x3)] → W p l e R s m args below meth c H locs 0 0 Q (F0 m 2 ls []) := by
    intro n2
    induction n2 with
    | zero => intro x1 x2 x3 σ H locs ls h hP hD hS hl; exact h.elim
    | succ n2 ih2 =>
      intro x1 x2 x3 σ H locs ls h hP hD hS hl
      unfold L_Shapes_nameKind_2 at h
      refine lv_iload_n hx hb d_Shapes_nameKind_2 rfl (lv_at hl 3 rfl) ?_
      refine cX_all hx hb hCx hS hown d_Shapes_nameKind_3 ?_
      refine cX_alen hx hb hCx hS d_Shapes_nameKind_6 ?_
      refine lv_icmp_ge hx hb d_Shapes_nameKind_7 (tgt := 38) rfl (fun hc => ?_) (fun hc => ?_)
      · have h := h.1 hc
        refine lv_iconst (v := 4) hx hb d_Shapes_nameKind_38 (by decide) ?_
        exact hret _ _ _ _ _ _ h hP hD hS d_Shapes_nameKind_39
      · have h := h.2 hc
        refine lv_aload_n hx hb d_Shapes_nameKind_10 rfl (lv_at hl 0 rfl) ?_
        refine cX_all hx hb hCx hS hown d_Shapes_nameKind_11 ?_
        refine lv_iload_n hx hb d_Shapes_nameKind_14 rfl (lv_at hl 3 rfl) ?_
        refine cX_aald hx hb hCx hS h.1 d_Shapes_nameKind_15 ?_
        have h9 := h.1
        have h := h.2
        refine cX_letters hx hb hCx (vp_ltI h9) hS hown d_Shapes_nameKind_16 ?_
        refine lv_iload_n hx hb d_Shapes_nameKind_19 rfl (lv_at hl 1 rfl) ?_
        refine lv_iload_n hx hb d_Shapes_nameKind_20 rfl (lv_at hl 2 rfl) ?_
        refine g_callVi ⟨hx, hb, hml, hown, hts⟩ (c_Shapes_isSpelled h) (g_cwV 3 hts q_l_Shapes_46 q_m_Shapes_isSpelled q_s_Shapes_isSpelled q_i_TokenDesk_Shapes q_k_Shapes_isSpelled (by decide +kernel) rfl rfl (by rw [hR]; exact ⟨Nat.le_of_ble_eq_true rfl, Nat.le_of_ble_eq_true rfl⟩)) (va_recv hK hP (q0 := 7) rfl rfl) cX_g hK hP hD hS hA hCx rfl hl.1 rfl (Nat.le_of_ble_eq_true rfl) d_Shapes_nameKind_21 ⟨Nat.zero_le _, Nat.zero_le _⟩ (fun r1 σ2 H locs h hP hD hS => ?_)
        refine lv_if_eq hx hb d_Shapes_nameKind_24 (tgt := 32) rfl (fun hc => ?_) (fun hc => ?_)
        · have h := h.1 hc
          refine lv_iinc (v := (x3 + 1)) hx hb d_Shapes_nameKind_32 hl (k := 3) rfl rfl (by decide) rfl (fun ls hl => ?_)
          refine lv_goto hx hb d_Shapes_nameKind_35 (tgt := 2) rfl ?_
          exact ih2 x1 x2 (x3 + 1) σ2 _ _ _ h hP hD hS (lv_sub hl [1, 2, 3, 0] rfl)
        · have h := h.2 hc
          refine lv_bipush (v := 8) hx hb d_Shapes_nameKind_27 (by decide) ?_
          refine lv_iload_n hx hb d_Shapes_nameKind_29 rfl (lv_at hl 3 rfl) ?_
          refine lv_iadd hx hb d_Shapes_nameKind_30 ?_
          exact hret _ _ _ _ _ _ h hP hD hS d_Shapes_nameKind_31
  refine lv_iconst (v := 0) hx hb d_Shapes_nameKind_0 (by decide) ?_
  refine lv_istore_n hx hb d_Shapes_nameKind_1 rfl hl (by decide) rfl (fun ls hl => ?_)
  obtain ⟨n, h⟩ := h
  exact L2 n a1 a2 0 σ _ _ _ h hP hD hS (lv_sub hl [1, 2, 3, 0] rfl)
set_option maxHeartbeats 4000000 in
set_option maxRecDepth 100000 in
theorem c_Shapes_beginsNumber {l : Launch} {D : va_G} {ad : Nat → Nat} {ty : Nat → ClassId} {cd : Nat → Nat → Nat} {a1 : Int32} {σ : KS} {post : Int32 → KS → Prop} (h : wp_Shapes_beginsNumber a1 σ post) : g_Meti l y_Shapes_beginsNumber (Cond.code y_Shapes_beginsNumber b_Shapes_beginsNumber 3 (some .boolean) :: gW) ({ frames := 1, cells := 0, slots := 0, locals := 21 }) D vwCl (gT ty) (kW ad ty) (cX cd) [.ref (ad 7), .int a1] σ post := by
  refine g_startz (cc := b_Shapes_beginsNumber) (maxL := 3) (by decide) rfl (Nat.le_of_ble_eq_true rfl) ?_
  intro p e s m args below meth c A Q R ls hR hx hb hts hown hml hA hS hP hD hK hCx hl hret
  unfold wp_Shapes_beginsNumber at h
  have hown : s.vm.findClass "TokenDesk$Shapes" = some m.cls := hown
  have hl : lv_has ls 3 [(0, .ref (ad 7)), (1, .int a1)] := hl
  have L42 : ∀ (σ : KS) (H : Heap) (locs : List Loc) (ls : Array Slot), L_Shapes_beginsNumber_42 post σ → va_P D vwCl (kW ad ty σ) H → va_D A (kW ad ty σ) → va_S A s.heap H locs → lv_has ls 3 [] → W p l e R s m args below meth c H locs 0 0 Q (F0 m 42 ls []) := by
    intro σ H locs ls h hP hD hS hl
    unfold L_Shapes_beginsNumber_42 at h
    refine lv_iconst (v := 1) hx hb d_Shapes_beginsNumber_42 (by decide) ?_
    refine lv_goto hx hb d_Shapes_beginsNumber_43 (tgt := 47) rfl ?_
    exact hret _ _ _ _ _ _ h rfl hP hD hS d_Shapes_beginsNumber_47
  refine lv_aload_n hx hb d_Shapes_beginsNumber_0 rfl (lv_at hl 0 rfl) ?_
  refine va_get (D := D) (v := .ref (ad 1)) (C := R_Shapes) (T := T_Shapes) (N := 1) hx hb hts in_Shapes hown hK hP 7 rfl rfl 0 (by decide) (hts _ q_f_Shapes_9) (fun _ h9 => h9) rfl d_Shapes_beginsNumber_1 ?_
  refine lv_iload_n hx hb d_Shapes_beginsNumber_4 rfl (lv_at hl 1 rfl) ?_
  refine g_callVi ⟨hx, hb, hml, hown, hts⟩ (c_Text_letterAt h) (g_cwV 1 hts q_l_Shapes_29 q_m_Text_letterAt q_s_Text_letterAt q_i_TokenDesk_Text q_k_Text_letterAt (by decide +kernel) rfl rfl (by rw [hR]; exact ⟨Nat.le_of_ble_eq_true rfl, Nat.le_of_ble_eq_true rfl⟩)) (va_recv hK hP (q0 := 1) rfl rfl) cX_g hK hP hD hS hA hCx rfl hl.1 rfl (Nat.le_of_ble_eq_true rfl) d_Shapes_beginsNumber_5 ⟨Nat.zero_le _, Nat.zero_le _⟩ (fun r1 σ2 H locs h hP hD hS => ?_)
  refine lv_istore_n hx hb d_Shapes_beginsNumber_8 rfl hl (by decide) rfl (fun ls hl => ?_)
  refine lv_iload_n hx hb d_Shapes_beginsNumber_9 rfl (lv_at hl 0 rfl) ?_
  refine lv_bipush (v := 10) hx hb d_Shapes_beginsNumber_10 (by decide) ?_
  refine g_callSi ⟨hx, hb, hml, hown, hts⟩ (c_Shapes_isDigit h) (g_cwS 2 hts q_l_Shapes_19 q_t_Shapes_isDigit q_i_TokenDesk_Shapes q_k_Shapes_isDigit (by decide +kernel) rfl rfl (by rw [hR]; exact ⟨Nat.le_of_ble_eq_true rfl, Nat.le_of_ble_eq_true rfl⟩)) cX_g hK hP hD hS hA hCx rfl hl.1 rfl (Nat.le_of_ble_eq_true rfl) d_Shapes_beginsNumber_12 ⟨Nat.zero_le _, Nat.zero_le _⟩ (fun r3 σ4 H locs h hP hD hS => ?_)
  refine lv_if_ne hx hb d_Shapes_beginsNumber_15 (tgt := 42) rfl (fun hc => ?_) (fun hc => ?_)
  · have h := h.1 hc
    exact L42 σ4 _ _ _ h hP hD hS (lv_sub hl [] rfl)
  · have h := h.2 hc
    refine lv_iload_n hx hb d_Shapes_beginsNumber_18 rfl (lv_at hl 0 rfl) ?_
    refine lv_bipush (v := 46) hx hb d_Shapes_beginsNumber_19 (by decide) ?_
    refine lv_icmp_ne hx hb d_Shapes_beginsNumber_21 (tgt := 46) rfl (fun hc => ?_) (fun hc => ?_)
    · have h := h.1 hc
      refine lv_iconst (v := 0) hx hb d_Shapes_beginsNumber_46 (by decide) ?_
      exact hret _ _ _ _ _ _ h rfl hP hD hS d_Shapes_beginsNumber_47
    · have h := h.2 hc
      refine lv_aload_n hx hb d_Shapes_beginsNumber_24 rfl (lv_at hl 1 rfl) ?_
      refine va_get (D := D) (v := .ref (ad 1)) (C := R_Shapes) (T := T_Shapes) (N := 1) hx hb hts in_Shapes hown hK hP 7 rfl rfl 0 (by decide) (hts _ q_f_Shapes_9) (fun _ h9 => h9) rfl d_Shapes_beginsNumber_25 ?_
      refine lv_iload_n hx hb d_Shapes_beginsNumber_28 rfl (lv_at hl 2 rfl) ?_
      refine lv_iconst (v := 1) hx hb d_Shapes_beginsNumber_29 (by decide) ?_
      refine lv_iadd hx hb d_Shapes_beginsNumber_30 ?_
      refine g_callVi ⟨hx, hb, hml, hown, hts⟩ (c_Text_letterAt h) (g_cwV 1 hts q_l_Shapes_29 q_m_Text_letterAt q_s_Text_letterAt q_i_TokenDesk_Text q_k_Text_letterAt (by decide +kernel) rfl rfl (by rw [hR]; exact ⟨Nat.le_of_ble_eq_true rfl, Nat.le_of_ble_eq_true rfl⟩)) (va_recv hK hP (q0 := 1) rfl rfl) cX_g hK hP hD hS hA hCx rfl hl.1 rfl (Nat.le_of_ble_eq_true rfl) d_Shapes_beginsNumber_31 ⟨Nat.zero_le _, Nat.zero_le _⟩ (fun r5 σ6 H locs h hP hD hS => ?_)
      refine lv_bipush (v := 10) hx hb d_Shapes_beginsNumber_34 (by decide) ?_
      refine g_callSi ⟨hx, hb, hml, hown, hts⟩ (c_Shapes_isDigit h) (g_cwS 2 hts q_l_Shapes_19 q_t_Shapes_isDigit q_i_TokenDesk_Shapes q_k_Shapes_isDigit (by decide +kernel) rfl rfl (by rw [hR]; exact ⟨Nat.le_of_ble_eq_true rfl, Nat.le_of_ble_eq_true rfl⟩)) cX_g hK hP hD hS hA hCx rfl hl.1 rfl (Nat.le_of_ble_eq_true rfl) d_Shapes_beginsNumber_36 ⟨Nat.zero_le _, Nat.zero_le _⟩ (fun r7 σ8 H locs h hP hD hS => ?_)
      refine lv_if_eq hx hb d_Shapes_beginsNumber_39 (tgt := 46) rfl (fun hc => ?_) (fun hc => ?_)
      · have h := h.1 hc
        refine lv_iconst (v := 0) hx hb d_Shapes_beginsNumber_46 (by decide) ?_
        exact hret _ _ _ _ _ _ h rfl hP hD hS d_Shapes_beginsNumber_47
      · have h := h.2 hc
        exact L42 σ8 _ _ _ h hP hD hS (lv_sub hl [] rfl)
set_option maxHeartbeats 4000000 in
set_option maxRecDepth 100000 in
theorem c_Shapes_baseAt {l : Launch} {D : va_G} {ad : Nat → Nat} {ty : Nat → ClassId} {cd : Nat → Nat → Nat} {a1 : Int32} {σ : KS} {post : Int32 → KS → Prop} (h : wp_Shapes_baseAt a1 σ post) : g_Meti l y_Shapes_baseAt (Cond.code y_Shapes_baseAt b_Shapes_baseAt 2 (some .int) :: gW) ({ frames := 1, cells := 0, slots := 0, locals := 21 }) D vwCl (gT ty) (kW ad ty) (cX cd) [.ref (ad 7), .int a1] σ post := by
  refine g_starti (cc := b_Shapes_baseAt) (maxL := 2) (by decide) rfl (Nat.le_of_ble_eq_true rfl) ?_
  intro p e s m args below meth c A Q R ls hR hx hb hts hown hml hA hS hP hD hK hCx hl hret
  unfold wp_Shapes_baseAt at h
  have hown : s.vm.findClass "TokenDesk$Shapes" = some m.cls := hown
  have hl : lv_has ls 2 [(0, .ref (ad 7)), (1, .int a1)] := hl
  refine lv_aload_n hx hb d_Shapes_baseAt_0 rfl (lv_at hl 0 rfl) ?_
  refine va_get (D := D) (v := .ref (ad 1)) (C := R_Shapes) (T := T_Shapes) (N := 1) hx hb hts in_Shapes hown hK hP 7 rfl rfl 0 (by decide) (hts _ q_f_Shapes_9) (fun _ h9 => h9) rfl d_Shapes_baseAt_1 ?_
  refine lv_iload_n hx hb d_Shapes_baseAt_4 rfl (lv_at hl 1 rfl) ?_
  refine g_callVi ⟨hx, hb, hml, hown, hts⟩ (c_Text_letterAt h) (g_cwV 1 hts q_l_Shapes_29 q_m_Text_letterAt q_s_Text_letterAt q_i_TokenDesk_Text q_k_Text_letterAt (by decide +kernel) rfl rfl (by rw [hR]; exact ⟨Nat.le_of_ble_eq_true rfl, Nat.le_of_ble_eq_true rfl⟩)) (va_recv hK hP (q0 := 1) rfl rfl) cX_g hK hP hD hS hA hCx rfl hl.1 rfl (Nat.le_of_ble_eq_true rfl) d_Shapes_baseAt_5 ⟨Nat.zero_le _, Nat.zero_le _⟩ (fun r1 σ2 H locs h hP hD hS => ?_)
  refine lv_bipush (v := 48) hx hb d_Shapes_baseAt_8 (by decide) ?_
  refine lv_icmp_eq hx hb d_Shapes_baseAt_10 (tgt := 16) rfl (fun hc => ?_) (fun hc => ?_)
  · have h := h.1 hc
    refine lv_aload_n hx hb d_Shapes_baseAt_16 rfl (lv_at hl 0 rfl) ?_
    refine va_get (D := D) (v := .ref (ad 1)) (C := R_Shapes) (T := T_Shapes) (N := 1) hx hb hts in_Shapes hown hK hP 7 rfl rfl 0 (by decide) (hts _ q_f_Shapes_9) (fun _ h9 => h9) rfl d_Shapes_baseAt_17 ?_
    refine lv_iload_n hx hb d_Shapes_baseAt_20 rfl (lv_at hl 1 rfl) ?_
    refine lv_iconst (v := 1) hx hb d_Shapes_baseAt_21 (by decide) ?_
    refine lv_iadd hx hb d_Shapes_baseAt_22 ?_
    refine g_callVi ⟨hx, hb, hml, hown, hts⟩ (c_Text_letterAt h) (g_cwV 1 hts q_l_Shapes_29 q_m_Text_letterAt q_s_Text_letterAt q_i_TokenDesk_Text q_k_Text_letterAt (by decide +kernel) rfl rfl (by rw [hR]; exact ⟨Nat.le_of_ble_eq_true rfl, Nat.le_of_ble_eq_true rfl⟩)) (va_recv hK hP (q0 := 1) rfl rfl) cX_g hK hP hD hS hA hCx rfl hl.1 rfl (Nat.le_of_ble_eq_true rfl) d_Shapes_baseAt_23 ⟨Nat.zero_le _, Nat.zero_le _⟩ (fun r3 σ4 H locs h hP hD hS => ?_)
    by_cases hc0 : r3 = 66
    · have h := h.1 hc0
      rw [hc0]
      refine lv_lookup hx hb d_Shapes_baseAt_26 (by decide) (off := 64) (by decide) (tgt := 90) rfl ?_
      refine lv_iconst (v := 2) hx hb d_Shapes_baseAt_90 (by decide) ?_
      exact hret _ _ _ _ _ _ h hP hD hS d_Shapes_baseAt_91
    · have h := h.2 hc0
      by_cases hc1 : r3 = 79
      · have h := h.1 hc1
        rw [hc1]
        refine lv_lookup hx hb d_Shapes_baseAt_26 (by decide) (off := 61) (by decide) (tgt := 87) rfl ?_
        refine lv_bipush (v := 8) hx hb d_Shapes_baseAt_87 (by decide) ?_
        exact hret _ _ _ _ _ _ h hP hD hS d_Shapes_baseAt_89
      · have h := h.2 hc1
        by_cases hc2 : r3 = 88
        · have h := h.1 hc2
          rw [hc2]
          refine lv_lookup hx hb d_Shapes_baseAt_26 (by decide) (off := 58) (by decide) (tgt := 84) rfl ?_
          refine lv_bipush (v := 16) hx hb d_Shapes_baseAt_84 (by decide) ?_
          exact hret _ _ _ _ _ _ h hP hD hS d_Shapes_baseAt_86
        · have h := h.2 hc2
          by_cases hc3 : r3 = 98
          · have h := h.1 hc3
            rw [hc3]
            refine lv_lookup hx hb d_Shapes_baseAt_26 (by decide) (off := 64) (by decide) (tgt := 90) rfl ?_
            refine lv_iconst (v := 2) hx hb d_Shapes_baseAt_90 (by decide) ?_
            exact hret _ _ _ _ _ _ h hP hD hS d_Shapes_baseAt_91
          · have h := h.2 hc3
            by_cases hc4 : r3 = 111
            · have h := h.1 hc4
              rw [hc4]
              refine lv_lookup hx hb d_Shapes_baseAt_26 (by decide) (off := 61) (by decide) (tgt := 87) rfl ?_
              refine lv_bipush (v := 8) hx hb d_Shapes_baseAt_87 (by decide) ?_
              exact hret _ _ _ _ _ _ h hP hD hS d_Shapes_baseAt_89
            · have h := h.2 hc4
              by_cases hc5 : r3 = 120
              · have h := h.1 hc5
                rw [hc5]
                refine lv_lookup hx hb d_Shapes_baseAt_26 (by decide) (off := 58) (by decide) (tgt := 84) rfl ?_
                refine lv_bipush (v := 16) hx hb d_Shapes_baseAt_84 (by decide) ?_
                exact hret _ _ _ _ _ _ h hP hD hS d_Shapes_baseAt_86
              · have h := h.2 hc5
                refine lv_lookup hx hb d_Shapes_baseAt_26 (by decide) (by show Op.lookupswitch.offset [(66, 64), (79, 61), (88, 58), (98, 64), (111, 61), (120, 58)] 66 _ = _; rw [lv_osw hc0 (by decide), lv_osw hc1 (by decide), lv_osw hc2 (by decide), lv_osw hc3 (by decide), lv_osw hc4 (by decide), lv_osw hc5 (by decide)]) (tgt := 92) rfl ?_
                refine lv_bipush (v := 10) hx hb d_Shapes_baseAt_92 (by decide) ?_
                exact hret _ _ _ _ _ _ h hP hD hS d_Shapes_baseAt_94
  · have h := h.2 hc
    refine lv_bipush (v := 10) hx hb d_Shapes_baseAt_13 (by decide) ?_
    exact hret _ _ _ _ _ _ h hP hD hS d_Shapes_baseAt_15
set_option maxHeartbeats 4000000 in
set_option maxRecDepth 100000 in
theorem c_Shapes_digitsEnd {l : Launch} {D : va_G} {ad : Nat → Nat} {ty : Nat → ClassId} {cd : Nat → Nat → Nat} {a1 : Int32} {a2 : Int32} {σ : KS} {post : Int32 → KS → Prop} (h : wp_Shapes_digitsEnd a1 a2 σ post) : g_Meti l y_Shapes_digitsEnd (Cond.code y_Shapes_digitsEnd b_Shapes_digitsEnd 6 (some .int) :: gW) ({ frames := 1, cells := 0, slots := 0, locals := 21 }) D vwCl (gT ty) (kW ad ty) (cX cd) [.ref (ad 7), .int a1, .int a2] σ post := by
  refine g_starti (cc := b_Shapes_digitsEnd) (maxL := 6) (by decide) rfl (Nat.le_of_ble_eq_true rfl) ?_
  intro p e s m args below meth c A Q R ls hR hx hb hts hown hml hA hS hP hD hK hCx hl hret
  unfold wp_Shapes_digitsEnd at h
  have hown : s.vm.findClass "TokenDesk$Shapes" = some m.cls := hown
  have hl : lv_has ls 6 [(0, .ref (ad 7)), (1, .int a1), (2, .int a2)] := hl
  have L2 : ∀ n : Nat, ∀ (x1 : Int32) (x2 : Int32) (x3 : Int32) (σ : KS) (H : Heap) (locs : List Loc) (ls : Array Slot), L_Shapes_digitsEnd_2 post n x1 x2 x3 σ → va_P D vwCl (kW ad ty σ) H → va_D A (kW ad ty σ) → va_S A s.heap H locs → lv_has ls 6 [(0, .ref (ad 7)), (1, .int x1), (2, .int x2), (3, .int x3)] → W p l e R s m args below meth c H locs 0 0 Q (F0 m 2 ls []) := by
    intro n2
    induction n2 with
    | zero => intro x1 x2 x3 σ H locs ls h hP hD hS hl; exact h.elim
    | succ n2 ih2 =>
      have L76 : ∀ (x1 : Int32) (x2 : Int32) (x3 : Int32) (σ : KS) (H : Heap) (locs : List Loc) (ls : Array Slot), L_Shapes_digitsEnd_76 post (fun x1 x2 x3 σ => L_Shapes_digitsEnd_2 post n2 x1 x2 x3 σ) x1 x2 x3 σ → va_P D vwCl (kW ad ty σ) H → va_D A (kW ad ty σ) → va_S A s.heap H locs → lv_has ls 6 [(0, .ref (ad 7)), (1, .int x1), (2, .int x2), (3, .int x3)] → W p l e R s m args below meth c H locs 0 0 Q (F0 m 76 ls []) := by
        intro x1 x2 x3 σ H locs ls h hP hD hS hl
        unfold L_Shapes_digitsEnd_76 at h
        refine lv_iinc (v := (x3 + 1)) hx hb d_Shapes_digitsEnd_76 hl (k := 3) rfl rfl (by decide) rfl (fun ls hl => ?_)
        refine lv_goto hx hb d_Shapes_digitsEnd_79 (tgt := 2) rfl ?_
        exact ih2 x1 x2 (x3 + 1) σ _ _ _ h hP hD hS (lv_sub hl [1, 2, 3, 0] rfl)
      have L57 : ∀ (x1 : Int32) (x2 : Int32) (x3 : Int32) (x4 : Int32) (s0 : Int32) (σ : KS) (H : Heap) (locs : List Loc) (ls : Array Slot), L_Shapes_digitsEnd_57 post (fun x1 x2 x3 σ => L_Shapes_digitsEnd_2 post n2 x1 x2 x3 σ) x1 x2 x3 x4 s0 σ → va_P D vwCl (kW ad ty σ) H → va_D A (kW ad ty σ) → va_S A s.heap H locs → lv_has ls 6 [(0, .ref (ad 7)), (1, .int x1), (2, .int x2), (3, .int x3), (4, .int x4)] → W p l e R s m args below meth c H locs 0 0 Q (F0 m 57 ls [.int s0]) := by
        intro x1 x2 x3 x4 s0 σ H locs ls h hP hD hS hl
        unfold L_Shapes_digitsEnd_57 at h
        refine lv_istore hx hb d_Shapes_digitsEnd_57 hl (by decide) rfl (fun ls hl => ?_)
        refine lv_iload hx hb d_Shapes_digitsEnd_59 (lv_at hl 0 rfl) ?_
        refine lv_if_ne hx hb d_Shapes_digitsEnd_61 (tgt := 76) rfl (fun hc => ?_) (fun hc => ?_)
        · have h := h.1 hc
          exact L76 x1 x2 x3 σ _ _ _ h hP hD hS (lv_sub hl [1, 2, 3, 4] rfl)
        · have h := h.2 hc
          refine lv_iload hx hb d_Shapes_digitsEnd_64 (lv_at hl 5 rfl) ?_
          refine lv_iload_n hx hb d_Shapes_digitsEnd_66 rfl (lv_at hl 3 rfl) ?_
          refine g_callSi ⟨hx, hb, hml, hown, hts⟩ (c_Shapes_isDigit h) (g_cwS 2 hts q_l_Shapes_19 q_t_Shapes_isDigit q_i_TokenDesk_Shapes q_k_Shapes_isDigit (by decide +kernel) rfl rfl (by rw [hR]; exact ⟨Nat.le_of_ble_eq_true rfl, Nat.le_of_ble_eq_true rfl⟩)) cX_g hK hP hD hS hA hCx rfl hl.1 rfl (Nat.le_of_ble_eq_true rfl) d_Shapes_digitsEnd_67 ⟨Nat.zero_le _, Nat.zero_le _⟩ (fun r9 σ10 H locs h hP hD hS => ?_)
          refine lv_if_ne hx hb d_Shapes_digitsEnd_70 (tgt := 76) rfl (fun hc => ?_) (fun hc => ?_)
          · have h := h.1 hc
            exact L76 x1 x2 x3 σ10 _ _ _ h hP hD hS (lv_sub hl [1, 2, 3, 4] rfl)
          · have h := h.2 hc
            refine lv_goto hx hb d_Shapes_digitsEnd_73 (tgt := 82) rfl ?_
            refine lv_iload_n hx hb d_Shapes_digitsEnd_82 rfl (lv_at hl 4 rfl) ?_
            exact hret _ _ _ _ _ _ h hP hD hS d_Shapes_digitsEnd_83
      have L56 : ∀ (x1 : Int32) (x2 : Int32) (x3 : Int32) (x4 : Int32) (σ : KS) (H : Heap) (locs : List Loc) (ls : Array Slot), L_Shapes_digitsEnd_56 post (fun x1 x2 x3 σ => L_Shapes_digitsEnd_2 post n2 x1 x2 x3 σ) x1 x2 x3 x4 σ → va_P D vwCl (kW ad ty σ) H → va_D A (kW ad ty σ) → va_S A s.heap H locs → lv_has ls 6 [(0, .ref (ad 7)), (1, .int x1), (2, .int x2), (3, .int x3), (4, .int x4)] → W p l e R s m args below meth c H locs 0 0 Q (F0 m 56 ls []) := by
        intro x1 x2 x3 x4 σ H locs ls h hP hD hS hl
        unfold L_Shapes_digitsEnd_56 at h
        refine lv_iconst (v := 0) hx hb d_Shapes_digitsEnd_56 (by decide) ?_
        exact L57 x1 x2 x3 x4 0 σ _ _ _ h hP hD hS hl
      intro x1 x2 x3 σ H locs ls h hP hD hS hl
      unfold L_Shapes_digitsEnd_2 at h
      refine lv_iload_n hx hb d_Shapes_digitsEnd_2 rfl (lv_at hl 3 rfl) ?_
      refine lv_aload_n hx hb d_Shapes_digitsEnd_3 rfl (lv_at hl 0 rfl) ?_
      refine va_get (D := D) (v := .ref (ad 1)) (C := R_Shapes) (T := T_Shapes) (N := 1) hx hb hts in_Shapes hown hK hP 7 rfl rfl 0 (by decide) (hts _ q_f_Shapes_9) (fun _ h9 => h9) rfl d_Shapes_digitsEnd_4 ?_
      refine g_callVi ⟨hx, hb, hml, hown, hts⟩ (c_Text_size h) (g_cwV 0 hts q_l_Shapes_23 q_m_Text_size q_s_Text_size q_i_TokenDesk_Text q_k_Text_size (by decide +kernel) rfl rfl (by rw [hR]; exact ⟨Nat.le_of_ble_eq_true rfl, Nat.le_of_ble_eq_true rfl⟩)) (va_recv hK hP (q0 := 1) rfl rfl) cX_g hK hP hD hS hA hCx rfl hl.1 rfl (Nat.le_of_ble_eq_true rfl) d_Shapes_digitsEnd_7 ⟨Nat.zero_le _, Nat.zero_le _⟩ (fun r1 σ2 H locs h hP hD hS => ?_)
      refine lv_icmp_ge hx hb d_Shapes_digitsEnd_10 (tgt := 82) rfl (fun hc => ?_) (fun hc => ?_)
      · have h := h.1 hc
        refine lv_iload_n hx hb d_Shapes_digitsEnd_82 rfl (lv_at hl 3 rfl) ?_
        exact hret _ _ _ _ _ _ h hP hD hS d_Shapes_digitsEnd_83
      · have h := h.2 hc
        refine lv_aload_n hx hb d_Shapes_digitsEnd_13 rfl (lv_at hl 0 rfl) ?_
        refine va_get (D := D) (v := .ref (ad 1)) (C := R_Shapes) (T := T_Shapes) (N := 1) hx hb hts in_Shapes hown hK hP 7 rfl rfl 0 (by decide) (hts _ q_f_Shapes_9) (fun _ h9 => h9) rfl d_Shapes_digitsEnd_14 ?_
        refine lv_iload_n hx hb d_Shapes_digitsEnd_17 rfl (lv_at hl 3 rfl) ?_
        refine g_callVi ⟨hx, hb, hml, hown, hts⟩ (c_Text_letterAt h) (g_cwV 1 hts q_l_Shapes_29 q_m_Text_letterAt q_s_Text_letterAt q_i_TokenDesk_Text q_k_Text_letterAt (by decide +kernel) rfl rfl (by rw [hR]; exact ⟨Nat.le_of_ble_eq_true rfl, Nat.le_of_ble_eq_true rfl⟩)) (va_recv hK hP (q0 := 1) rfl rfl) cX_g hK hP hD hS hA hCx rfl hl.1 rfl (Nat.le_of_ble_eq_true rfl) d_Shapes_digitsEnd_18 ⟨Nat.zero_le _, Nat.zero_le _⟩ (fun r3 σ4 H locs h hP hD hS => ?_)
        refine lv_istore hx hb d_Shapes_digitsEnd_21 hl (by decide) rfl (fun ls hl => ?_)
        refine lv_iload hx hb d_Shapes_digitsEnd_23 (lv_at hl 0 rfl) ?_
        refine lv_bipush (v := 95) hx hb d_Shapes_digitsEnd_25 (by decide) ?_
        refine lv_icmp_ne hx hb d_Shapes_digitsEnd_27 (tgt := 56) rfl (fun hc => ?_) (fun hc => ?_)
        · have h := h.1 hc
          exact L56 x1 x2 x3 r3 σ4 _ _ _ h hP hD hS (lv_sub hl [1, 2, 3, 4, 0] rfl)
        · have h := h.2 hc
          refine lv_iload_n hx hb d_Shapes_digitsEnd_30 rfl (lv_at hl 4 rfl) ?_
          refine lv_iload_n hx hb d_Shapes_digitsEnd_31 rfl (lv_at hl 2 rfl) ?_
          refine lv_icmp_le hx hb d_Shapes_digitsEnd_32 (tgt := 56) rfl (fun hc => ?_) (fun hc => ?_)
          · have h := h.1 hc
            exact L56 x1 x2 x3 r3 σ4 _ _ _ h hP hD hS (lv_sub hl [1, 2, 3, 4, 0] rfl)
          · have h := h.2 hc
            refine lv_aload_n hx hb d_Shapes_digitsEnd_35 rfl (lv_at hl 1 rfl) ?_
            refine va_get (D := D) (v := .ref (ad 1)) (C := R_Shapes) (T := T_Shapes) (N := 1) hx hb hts in_Shapes hown hK hP 7 rfl rfl 0 (by decide) (hts _ q_f_Shapes_9) (fun _ h9 => h9) rfl d_Shapes_digitsEnd_36 ?_
            refine lv_iload_n hx hb d_Shapes_digitsEnd_39 rfl (lv_at hl 4 rfl) ?_
            refine lv_iconst (v := 1) hx hb d_Shapes_digitsEnd_40 (by decide) ?_
            refine lv_iadd hx hb d_Shapes_digitsEnd_41 ?_
            refine g_callVi ⟨hx, hb, hml, hown, hts⟩ (c_Text_letterAt h) (g_cwV 1 hts q_l_Shapes_29 q_m_Text_letterAt q_s_Text_letterAt q_i_TokenDesk_Text q_k_Text_letterAt (by decide +kernel) rfl rfl (by rw [hR]; exact ⟨Nat.le_of_ble_eq_true rfl, Nat.le_of_ble_eq_true rfl⟩)) (va_recv hK hP (q0 := 1) rfl rfl) cX_g hK hP hD hS hA hCx rfl hl.1 rfl (Nat.le_of_ble_eq_true rfl) d_Shapes_digitsEnd_42 ⟨Nat.zero_le _, Nat.zero_le _⟩ (fun r5 σ6 H locs h hP hD hS => ?_)
            refine lv_iload_n hx hb d_Shapes_digitsEnd_45 rfl (lv_at hl 3 rfl) ?_
            refine g_callSi ⟨hx, hb, hml, hown, hts⟩ (c_Shapes_isDigit h) (g_cwS 2 hts q_l_Shapes_19 q_t_Shapes_isDigit q_i_TokenDesk_Shapes q_k_Shapes_isDigit (by decide +kernel) rfl rfl (by rw [hR]; exact ⟨Nat.le_of_ble_eq_true rfl, Nat.le_of_ble_eq_true rfl⟩)) cX_g hK hP hD hS hA hCx rfl hl.1 rfl (Nat.le_of_ble_eq_true rfl) d_Shapes_digitsEnd_46 ⟨Nat.zero_le _, Nat.zero_le _⟩ (fun r7 σ8 H locs h hP hD hS => ?_)
            refine lv_if_eq hx hb d_Shapes_digitsEnd_49 (tgt := 56) rfl (fun hc => ?_) (fun hc => ?_)
            · have h := h.1 hc
              exact L56 x1 x2 x3 r3 σ8 _ _ _ h hP hD hS (lv_sub hl [1, 2, 3, 4, 0] rfl)
            · have h := h.2 hc
              refine lv_iconst (v := 1) hx hb d_Shapes_digitsEnd_52 (by decide) ?_
              refine lv_goto hx hb d_Shapes_digitsEnd_53 (tgt := 57) rfl ?_
              exact L57 x1 x2 x3 r3 1 σ8 _ _ _ h hP hD hS (lv_sub hl [1, 2, 3, 4, 0] rfl)
  refine lv_iload_n hx hb d_Shapes_digitsEnd_0 rfl (lv_at hl 1 rfl) ?_
  refine lv_istore_n hx hb d_Shapes_digitsEnd_1 rfl hl (by decide) rfl (fun ls hl => ?_)
  obtain ⟨n, h⟩ := h
  exact L2 n a1 a2 a1 σ _ _ _ h hP hD hS (lv_sub hl [1, 2, 3, 0] rfl)
set_option maxHeartbeats 4000000 in
set_option maxRecDepth 100000 in
theorem c_Shapes_basedEnd {l : Launch} {D : va_G} {ad : Nat → Nat} {ty : Nat → ClassId} {cd : Nat → Nat → Nat} {a1 : Int32} {a2 : Int32} {σ : KS} {post : Int32 → KS → Prop} (h : wp_Shapes_basedEnd a1 a2 σ post) : g_Meti l y_Shapes_basedEnd (Cond.code y_Shapes_basedEnd b_Shapes_basedEnd 5 (some .int) :: gW) ({ frames := 2, cells := 0, slots := 0, locals := 46 }) D vwCl (gT ty) (kW ad ty) (cX cd) [.ref (ad 7), .int a1, .int a2] σ post := by
  refine g_starti (cc := b_Shapes_basedEnd) (maxL := 5) (by decide) rfl (Nat.le_of_ble_eq_true rfl) ?_
  intro p e s m args below meth c A Q R ls hR hx hb hts hown hml hA hS hP hD hK hCx hl hret
  unfold wp_Shapes_basedEnd at h
  have hown : s.vm.findClass "TokenDesk$Shapes" = some m.cls := hown
  have hl : lv_has ls 5 [(0, .ref (ad 7)), (1, .int a1), (2, .int a2)] := hl
  have L24 : ∀ (x2 : Int32) (s0 : Int32) (σ : KS) (H : Heap) (locs : List Loc) (ls : Array Slot), L_Shapes_basedEnd_24 post x2 s0 σ → va_P D vwCl (kW ad ty σ) H → va_D A (kW ad ty σ) → va_S A s.heap H locs → lv_has ls 5 [(0, .ref (ad 7)), (2, .int x2)] → W p l e R s m args below meth c H locs 0 0 Q (F0 m 24 ls [.int s0]) := by
    intro x2 s0 σ H locs ls h hP hD hS hl
    unfold L_Shapes_basedEnd_24 at h
    refine lv_istore_n hx hb d_Shapes_basedEnd_24 rfl hl (by decide) rfl (fun ls hl => ?_)
    refine lv_aload_n hx hb d_Shapes_basedEnd_25 rfl (lv_at hl 1 rfl) ?_
    refine lv_iload_n hx hb d_Shapes_basedEnd_26 rfl (lv_at hl 0 rfl) ?_
    refine lv_iload_n hx hb d_Shapes_basedEnd_27 rfl (lv_at hl 2 rfl) ?_
    refine g_callVi ⟨hx, hb, hml, hown, hts⟩ (c_Shapes_digitsEnd h) (g_cwV 2 hts q_l_Shapes_62 q_m_Shapes_digitsEnd q_s_Shapes_digitsEnd q_i_TokenDesk_Shapes q_k_Shapes_digitsEnd (by decide +kernel) rfl rfl (by rw [hR]; exact ⟨Nat.le_of_ble_eq_true rfl, Nat.le_of_ble_eq_true rfl⟩)) (va_recv hK hP (q0 := 7) rfl rfl) cX_g hK hP hD hS hA hCx rfl hl.1 rfl (Nat.le_of_ble_eq_true rfl) d_Shapes_basedEnd_28 ⟨Nat.zero_le _, Nat.zero_le _⟩ (fun r3 σ4 H locs h hP hD hS => ?_)
    refine lv_istore hx hb d_Shapes_basedEnd_31 hl (by decide) rfl (fun ls hl => ?_)
    refine lv_iload hx hb d_Shapes_basedEnd_33 (lv_at hl 0 rfl) ?_
    refine lv_iload_n hx hb d_Shapes_basedEnd_35 rfl (lv_at hl 1 rfl) ?_
    refine lv_icmp_ne hx hb d_Shapes_basedEnd_36 (tgt := 43) rfl (fun hc => ?_) (fun hc => ?_)
    · have h := h.1 hc
      refine lv_iload hx hb d_Shapes_basedEnd_43 (lv_at hl 0 rfl) ?_
      exact hret _ _ _ _ _ _ h hP hD hS d_Shapes_basedEnd_45
    · have h := h.2 hc
      refine lv_iconst (v := (-1)) hx hb d_Shapes_basedEnd_39 (by decide) ?_
      refine lv_goto hx hb d_Shapes_basedEnd_40 (tgt := 45) rfl ?_
      exact hret _ _ _ _ _ _ h hP hD hS d_Shapes_basedEnd_45
  refine lv_aload_n hx hb d_Shapes_basedEnd_0 rfl (lv_at hl 0 rfl) ?_
  refine va_get (D := D) (v := .ref (ad 1)) (C := R_Shapes) (T := T_Shapes) (N := 1) hx hb hts in_Shapes hown hK hP 7 rfl rfl 0 (by decide) (hts _ q_f_Shapes_9) (fun _ h9 => h9) rfl d_Shapes_basedEnd_1 ?_
  refine lv_iload_n hx hb d_Shapes_basedEnd_4 rfl (lv_at hl 1 rfl) ?_
  refine lv_iconst (v := 2) hx hb d_Shapes_basedEnd_5 (by decide) ?_
  refine lv_iadd hx hb d_Shapes_basedEnd_6 ?_
  refine g_callVi ⟨hx, hb, hml, hown, hts⟩ (c_Text_letterAt h) (g_cwV 1 hts q_l_Shapes_29 q_m_Text_letterAt q_s_Text_letterAt q_i_TokenDesk_Text q_k_Text_letterAt (by decide +kernel) rfl rfl (by rw [hR]; exact ⟨Nat.le_of_ble_eq_true rfl, Nat.le_of_ble_eq_true rfl⟩)) (va_recv hK hP (q0 := 1) rfl rfl) cX_g hK hP hD hS hA hCx rfl hl.1 rfl (Nat.le_of_ble_eq_true rfl) d_Shapes_basedEnd_7 ⟨Nat.zero_le _, Nat.zero_le _⟩ (fun r1 σ2 H locs h hP hD hS => ?_)
  refine lv_bipush (v := 95) hx hb d_Shapes_basedEnd_10 (by decide) ?_
  refine lv_icmp_ne hx hb d_Shapes_basedEnd_12 (tgt := 21) rfl (fun hc => ?_) (fun hc => ?_)
  · have h := h.1 hc
    refine lv_iload_n hx hb d_Shapes_basedEnd_21 rfl (lv_at hl 1 rfl) ?_
    refine lv_iconst (v := 2) hx hb d_Shapes_basedEnd_22 (by decide) ?_
    refine lv_iadd hx hb d_Shapes_basedEnd_23 ?_
    exact L24 a2 (a1 + 2) σ2 _ _ _ h hP hD hS (lv_sub hl [0, 2] rfl)
  · have h := h.2 hc
    refine lv_iload_n hx hb d_Shapes_basedEnd_15 rfl (lv_at hl 1 rfl) ?_
    refine lv_iconst (v := 3) hx hb d_Shapes_basedEnd_16 (by decide) ?_
    refine lv_iadd hx hb d_Shapes_basedEnd_17 ?_
    refine lv_goto hx hb d_Shapes_basedEnd_18 (tgt := 24) rfl ?_
    exact L24 a2 (a1 + 3) σ2 _ _ _ h hP hD hS (lv_sub hl [0, 2] rfl)
set_option maxHeartbeats 4000000 in
set_option maxRecDepth 100000 in
theorem c_Shapes_hasIdleZero {l : Launch} {D : va_G} {ad : Nat → Nat} {ty : Nat → ClassId} {cd : Nat → Nat → Nat} {a1 : Int32} {a2 : Int32} {σ : KS} {post : Int32 → KS → Prop} (h : wp_Shapes_hasIdleZero a1 a2 σ post) : g_Meti l y_Shapes_hasIdleZero (Cond.code y_Shapes_hasIdleZero b_Shapes_hasIdleZero 5 (some .boolean) :: gW) ({ frames := 1, cells := 0, slots := 0, locals := 21 }) D vwCl (gT ty) (kW ad ty) (cX cd) [.ref (ad 7), .int a1, .int a2] σ post := by
  refine g_startz (cc := b_Shapes_hasIdleZero) (maxL := 5) (by decide) rfl (Nat.le_of_ble_eq_true rfl) ?_
  intro p e s m args below meth c A Q R ls hR hx hb hts hown hml hA hS hP hD hK hCx hl hret
  unfold wp_Shapes_hasIdleZero at h
  have hown : s.vm.findClass "TokenDesk$Shapes" = some m.cls := hown
  have hl : lv_has ls 5 [(0, .ref (ad 7)), (1, .int a1), (2, .int a2)] := hl
  have L17 : ∀ n : Nat, ∀ (x2 : Int32) (x3 : Int32) (σ : KS) (H : Heap) (locs : List Loc) (ls : Array Slot), L_Shapes_hasIdleZero_17 post n x2 x3 σ → va_P D vwCl (kW ad ty σ) H → va_D A (kW ad ty σ) → va_S A s.heap H locs → lv_has ls 5 [(0, .ref (ad 7)), (2, .int x2), (3, .int x3)] → W p l e R s m args below meth c H locs 0 0 Q (F0 m 17 ls []) := by
    intro n17
    induction n17 with
    | zero => intro x2 x3 σ H locs ls h hP hD hS hl; exact h.elim
    | succ n17 ih17 =>
      have L48 : ∀ (x2 : Int32) (x3 : Int32) (σ : KS) (H : Heap) (locs : List Loc) (ls : Array Slot), L_Shapes_hasIdleZero_48 post (fun x2 x3 σ => L_Shapes_hasIdleZero_17 post n17 x2 x3 σ) x2 x3 σ → va_P D vwCl (kW ad ty σ) H → va_D A (kW ad ty σ) → va_S A s.heap H locs → lv_has ls 5 [(0, .ref (ad 7)), (2, .int x2), (3, .int x3)] → W p l e R s m args below meth c H locs 0 0 Q (F0 m 48 ls []) := by
        intro x2 x3 σ H locs ls h hP hD hS hl
        unfold L_Shapes_hasIdleZero_48 at h
        refine lv_iinc (v := (x3 + 1)) hx hb d_Shapes_hasIdleZero_48 hl (k := 2) rfl rfl (by decide) rfl (fun ls hl => ?_)
        refine lv_goto hx hb d_Shapes_hasIdleZero_51 (tgt := 17) rfl ?_
        exact ih17 x2 (x3 + 1) σ _ _ _ h hP hD hS (lv_sub hl [1, 2, 0] rfl)
      intro x2 x3 σ H locs ls h hP hD hS hl
      unfold L_Shapes_hasIdleZero_17 at h
      refine lv_iload_n hx hb d_Shapes_hasIdleZero_17 rfl (lv_at hl 2 rfl) ?_
      refine lv_iload_n hx hb d_Shapes_hasIdleZero_18 rfl (lv_at hl 1 rfl) ?_
      refine lv_icmp_ge hx hb d_Shapes_hasIdleZero_19 (tgt := 54) rfl (fun hc => ?_) (fun hc => ?_)
      · have h := h.1 hc
        refine lv_iconst (v := 0) hx hb d_Shapes_hasIdleZero_54 (by decide) ?_
        exact hret _ _ _ _ _ _ h rfl hP hD hS d_Shapes_hasIdleZero_55
      · have h := h.2 hc
        refine lv_aload_n hx hb d_Shapes_hasIdleZero_22 rfl (lv_at hl 0 rfl) ?_
        refine va_get (D := D) (v := .ref (ad 1)) (C := R_Shapes) (T := T_Shapes) (N := 1) hx hb hts in_Shapes hown hK hP 7 rfl rfl 0 (by decide) (hts _ q_f_Shapes_9) (fun _ h9 => h9) rfl d_Shapes_hasIdleZero_23 ?_
        refine lv_iload_n hx hb d_Shapes_hasIdleZero_26 rfl (lv_at hl 2 rfl) ?_
        refine g_callVi ⟨hx, hb, hml, hown, hts⟩ (c_Text_letterAt h) (g_cwV 1 hts q_l_Shapes_29 q_m_Text_letterAt q_s_Text_letterAt q_i_TokenDesk_Text q_k_Text_letterAt (by decide +kernel) rfl rfl (by rw [hR]; exact ⟨Nat.le_of_ble_eq_true rfl, Nat.le_of_ble_eq_true rfl⟩)) (va_recv hK hP (q0 := 1) rfl rfl) cX_g hK hP hD hS hA hCx rfl hl.1 rfl (Nat.le_of_ble_eq_true rfl) d_Shapes_hasIdleZero_27 ⟨Nat.zero_le _, Nat.zero_le _⟩ (fun r3 σ4 H locs h hP hD hS => ?_)
        refine lv_istore hx hb d_Shapes_hasIdleZero_30 hl (by decide) rfl (fun ls hl => ?_)
        refine lv_iload hx hb d_Shapes_hasIdleZero_32 (lv_at hl 0 rfl) ?_
        refine lv_bipush (v := 48) hx hb d_Shapes_hasIdleZero_34 (by decide) ?_
        refine lv_icmp_eq hx hb d_Shapes_hasIdleZero_36 (tgt := 48) rfl (fun hc => ?_) (fun hc => ?_)
        · have h := h.1 hc
          exact L48 x2 x3 σ4 _ _ _ h hP hD hS (lv_sub hl [1, 2, 3] rfl)
        · have h := h.2 hc
          refine lv_iload hx hb d_Shapes_hasIdleZero_39 (lv_at hl 0 rfl) ?_
          refine lv_bipush (v := 95) hx hb d_Shapes_hasIdleZero_41 (by decide) ?_
          refine lv_icmp_eq hx hb d_Shapes_hasIdleZero_43 (tgt := 48) rfl (fun hc => ?_) (fun hc => ?_)
          · have h := h.1 hc
            exact L48 x2 x3 σ4 _ _ _ h hP hD hS (lv_sub hl [1, 2, 3] rfl)
          · have h := h.2 hc
            refine lv_iconst (v := 1) hx hb d_Shapes_hasIdleZero_46 (by decide) ?_
            exact hret _ _ _ _ _ _ h rfl hP hD hS d_Shapes_hasIdleZero_47
  refine lv_aload_n hx hb d_Shapes_hasIdleZero_0 rfl (lv_at hl 0 rfl) ?_
  refine va_get (D := D) (v := .ref (ad 1)) (C := R_Shapes) (T := T_Shapes) (N := 1) hx hb hts in_Shapes hown hK hP 7 rfl rfl 0 (by decide) (hts _ q_f_Shapes_9) (fun _ h9 => h9) rfl d_Shapes_hasIdleZero_1 ?_
  refine lv_iload_n hx hb d_Shapes_hasIdleZero_4 rfl (lv_at hl 1 rfl) ?_
  refine g_callVi ⟨hx, hb, hml, hown, hts⟩ (c_Text_letterAt h) (g_cwV 1 hts q_l_Shapes_29 q_m_Text_letterAt q_s_Text_letterAt q_i_TokenDesk_Text q_k_Text_letterAt (by decide +kernel) rfl rfl (by rw [hR]; exact ⟨Nat.le_of_ble_eq_true rfl, Nat.le_of_ble_eq_true rfl⟩)) (va_recv hK hP (q0 := 1) rfl rfl) cX_g hK hP hD hS hA hCx rfl hl.1 rfl (Nat.le_of_ble_eq_true rfl) d_Shapes_hasIdleZero_5 ⟨Nat.zero_le _, Nat.zero_le _⟩ (fun r1 σ2 H locs h hP hD hS => ?_)
  refine lv_bipush (v := 48) hx hb d_Shapes_hasIdleZero_8 (by decide) ?_
  refine lv_icmp_eq hx hb d_Shapes_hasIdleZero_10 (tgt := 15) rfl (fun hc => ?_) (fun hc => ?_)
  · have h := h.1 hc
    refine lv_iload_n hx hb d_Shapes_hasIdleZero_15 rfl (lv_at hl 1 rfl) ?_
    refine lv_istore_n hx hb d_Shapes_hasIdleZero_16 rfl hl (by decide) rfl (fun ls hl => ?_)
    obtain ⟨n, h⟩ := h
    exact L17 n a2 a1 σ2 _ _ _ h hP hD hS (lv_sub hl [1, 3, 0] rfl)
  · have h := h.2 hc
    refine lv_iconst (v := 0) hx hb d_Shapes_hasIdleZero_13 (by decide) ?_
    exact hret _ _ _ _ _ _ h rfl hP hD hS d_Shapes_hasIdleZero_14
set_option maxHeartbeats 4000000 in
set_option maxRecDepth 100000 in
theorem c_Shapes_realEnd {l : Launch} {D : va_G} {ad : Nat → Nat} {ty : Nat → ClassId} {cd : Nat → Nat → Nat} {a1 : Int32} {σ : KS} {post : Int32 → KS → Prop} (h : wp_Shapes_realEnd a1 σ post) : g_Meti l y_Shapes_realEnd (Cond.code y_Shapes_realEnd b_Shapes_realEnd 7 (some .int) :: gW) ({ frames := 2, cells := 0, slots := 0, locals := 46 }) D vwCl (gT ty) (kW ad ty) (cX cd) [.ref (ad 7), .int a1] σ post := by
  refine g_starti (cc := b_Shapes_realEnd) (maxL := 7) (by decide) rfl (Nat.le_of_ble_eq_true rfl) ?_
  intro p e s m args below meth c A Q R ls hR hx hb hts hown hml hA hS hP hD hK hCx hl hret
  unfold wp_Shapes_realEnd at h
  have hown : s.vm.findClass "TokenDesk$Shapes" = some m.cls := hown
  have hl : lv_has ls 7 [(0, .ref (ad 7)), (1, .int a1)] := hl
  have L85 : ∀ (x2 : Int32) (s0 : Int32) (σ : KS) (H : Heap) (locs : List Loc) (ls : Array Slot), L_Shapes_realEnd_85 post x2 s0 σ → va_P D vwCl (kW ad ty σ) H → va_D A (kW ad ty σ) → va_S A s.heap H locs → lv_has ls 7 [(0, .ref (ad 7)), (2, .int x2)] → W p l e R s m args below meth c H locs 0 0 Q (F0 m 85 ls [.int s0]) := by
    intro x2 s0 σ H locs ls h hP hD hS hl
    unfold L_Shapes_realEnd_85 at h
    refine lv_istore hx hb d_Shapes_realEnd_85 hl (by decide) rfl (fun ls hl => ?_)
    refine lv_aload_n hx hb d_Shapes_realEnd_87 rfl (lv_at hl 1 rfl) ?_
    refine lv_iload hx hb d_Shapes_realEnd_88 (lv_at hl 0 rfl) ?_
    refine lv_bipush (v := 10) hx hb d_Shapes_realEnd_90 (by decide) ?_
    refine g_callVi ⟨hx, hb, hml, hown, hts⟩ (c_Shapes_digitsEnd h) (g_cwV 2 hts q_l_Shapes_62 q_m_Shapes_digitsEnd q_s_Shapes_digitsEnd q_i_TokenDesk_Shapes q_k_Shapes_digitsEnd (by decide +kernel) rfl rfl (by rw [hR]; exact ⟨Nat.le_of_ble_eq_true rfl, Nat.le_of_ble_eq_true rfl⟩)) (va_recv hK hP (q0 := 7) rfl rfl) cX_g hK hP hD hS hA hCx rfl hl.1 rfl (Nat.le_of_ble_eq_true rfl) d_Shapes_realEnd_92 ⟨Nat.zero_le _, Nat.zero_le _⟩ (fun r9 σ10 H locs h hP hD hS => ?_)
    refine lv_istore hx hb d_Shapes_realEnd_95 hl (by decide) rfl (fun ls hl => ?_)
    refine lv_iload hx hb d_Shapes_realEnd_97 (lv_at hl 0 rfl) ?_
    refine lv_iload hx hb d_Shapes_realEnd_99 (lv_at hl 1 rfl) ?_
    refine lv_icmp_ne hx hb d_Shapes_realEnd_101 (tgt := 108) rfl (fun hc => ?_) (fun hc => ?_)
    · have h := h.1 hc
      refine lv_iload hx hb d_Shapes_realEnd_108 (lv_at hl 0 rfl) ?_
      exact hret _ _ _ _ _ _ h hP hD hS d_Shapes_realEnd_110
    · have h := h.2 hc
      refine lv_iload_n hx hb d_Shapes_realEnd_104 rfl (lv_at hl 3 rfl) ?_
      refine lv_goto hx hb d_Shapes_realEnd_105 (tgt := 110) rfl ?_
      exact hret _ _ _ _ _ _ h hP hD hS d_Shapes_realEnd_110
  have L76 : ∀ (x2 : Int32) (σ : KS) (H : Heap) (locs : List Loc) (ls : Array Slot), L_Shapes_realEnd_76 post x2 σ → va_P D vwCl (kW ad ty σ) H → va_D A (kW ad ty σ) → va_S A s.heap H locs → lv_has ls 7 [(0, .ref (ad 7)), (2, .int x2)] → W p l e R s m args below meth c H locs 0 0 Q (F0 m 76 ls []) := by
    intro x2 σ H locs ls h hP hD hS hl
    unfold L_Shapes_realEnd_76 at h
    refine lv_iload_n hx hb d_Shapes_realEnd_76 rfl (lv_at hl 1 rfl) ?_
    refine lv_iconst (v := 2) hx hb d_Shapes_realEnd_77 (by decide) ?_
    refine lv_iadd hx hb d_Shapes_realEnd_78 ?_
    refine lv_goto hx hb d_Shapes_realEnd_79 (tgt := 85) rfl ?_
    exact L85 x2 (x2 + 2) σ _ _ _ h hP hD hS hl
  have L50 : ∀ (x2 : Int32) (σ : KS) (H : Heap) (locs : List Loc) (ls : Array Slot), L_Shapes_realEnd_50 post x2 σ → va_P D vwCl (kW ad ty σ) H → va_D A (kW ad ty σ) → va_S A s.heap H locs → lv_has ls 7 [(0, .ref (ad 7)), (2, .int x2)] → W p l e R s m args below meth c H locs 0 0 Q (F0 m 50 ls []) := by
    intro x2 σ H locs ls h hP hD hS hl
    unfold L_Shapes_realEnd_50 at h
    refine lv_aload_n hx hb d_Shapes_realEnd_50 rfl (lv_at hl 0 rfl) ?_
    refine va_get (D := D) (v := .ref (ad 1)) (C := R_Shapes) (T := T_Shapes) (N := 1) hx hb hts in_Shapes hown hK hP 7 rfl rfl 0 (by decide) (hts _ q_f_Shapes_9) (fun _ h9 => h9) rfl d_Shapes_realEnd_51 ?_
    refine lv_iload_n hx hb d_Shapes_realEnd_54 rfl (lv_at hl 1 rfl) ?_
    refine lv_iconst (v := 1) hx hb d_Shapes_realEnd_55 (by decide) ?_
    refine lv_iadd hx hb d_Shapes_realEnd_56 ?_
    refine g_callVi ⟨hx, hb, hml, hown, hts⟩ (c_Text_letterAt h) (g_cwV 1 hts q_l_Shapes_29 q_m_Text_letterAt q_s_Text_letterAt q_i_TokenDesk_Text q_k_Text_letterAt (by decide +kernel) rfl rfl (by rw [hR]; exact ⟨Nat.le_of_ble_eq_true rfl, Nat.le_of_ble_eq_true rfl⟩)) (va_recv hK hP (q0 := 1) rfl rfl) cX_g hK hP hD hS hA hCx rfl hl.1 rfl (Nat.le_of_ble_eq_true rfl) d_Shapes_realEnd_57 ⟨Nat.zero_le _, Nat.zero_le _⟩ (fun r7 σ8 H locs h hP hD hS => ?_)
    refine lv_istore hx hb d_Shapes_realEnd_60 hl (by decide) rfl (fun ls hl => ?_)
    refine lv_iload hx hb d_Shapes_realEnd_62 (lv_at hl 0 rfl) ?_
    refine lv_bipush (v := 43) hx hb d_Shapes_realEnd_64 (by decide) ?_
    refine lv_icmp_eq hx hb d_Shapes_realEnd_66 (tgt := 76) rfl (fun hc => ?_) (fun hc => ?_)
    · have h := h.1 hc
      exact L76 x2 σ8 _ _ _ h hP hD hS (lv_sub hl [1, 2] rfl)
    · have h := h.2 hc
      refine lv_iload hx hb d_Shapes_realEnd_69 (lv_at hl 0 rfl) ?_
      refine lv_bipush (v := 45) hx hb d_Shapes_realEnd_71 (by decide) ?_
      refine lv_icmp_ne hx hb d_Shapes_realEnd_73 (tgt := 82) rfl (fun hc => ?_) (fun hc => ?_)
      · have h := h.1 hc
        refine lv_iload_n hx hb d_Shapes_realEnd_82 rfl (lv_at hl 2 rfl) ?_
        refine lv_iconst (v := 1) hx hb d_Shapes_realEnd_83 (by decide) ?_
        refine lv_iadd hx hb d_Shapes_realEnd_84 ?_
        exact L85 x2 (x2 + 1) σ8 _ _ _ h hP hD hS (lv_sub hl [1, 2] rfl)
      · have h := h.2 hc
        exact L76 x2 σ8 _ _ _ h hP hD hS (lv_sub hl [1, 2] rfl)
  have L26 : ∀ (s0 : Int32) (σ : KS) (H : Heap) (locs : List Loc) (ls : Array Slot), L_Shapes_realEnd_26 post s0 σ → va_P D vwCl (kW ad ty σ) H → va_D A (kW ad ty σ) → va_S A s.heap H locs → lv_has ls 7 [(0, .ref (ad 7))] → W p l e R s m args below meth c H locs 0 0 Q (F0 m 26 ls [.int s0]) := by
    intro s0 σ H locs ls h hP hD hS hl
    unfold L_Shapes_realEnd_26 at h
    refine lv_istore_n hx hb d_Shapes_realEnd_26 rfl hl (by decide) rfl (fun ls hl => ?_)
    refine lv_aload_n hx hb d_Shapes_realEnd_27 rfl (lv_at hl 1 rfl) ?_
    refine va_get (D := D) (v := .ref (ad 1)) (C := R_Shapes) (T := T_Shapes) (N := 1) hx hb hts in_Shapes hown hK hP 7 rfl rfl 0 (by decide) (hts _ q_f_Shapes_9) (fun _ h9 => h9) rfl d_Shapes_realEnd_28 ?_
    refine lv_iload_n hx hb d_Shapes_realEnd_31 rfl (lv_at hl 0 rfl) ?_
    refine g_callVi ⟨hx, hb, hml, hown, hts⟩ (c_Text_letterAt h) (g_cwV 1 hts q_l_Shapes_29 q_m_Text_letterAt q_s_Text_letterAt q_i_TokenDesk_Text q_k_Text_letterAt (by decide +kernel) rfl rfl (by rw [hR]; exact ⟨Nat.le_of_ble_eq_true rfl, Nat.le_of_ble_eq_true rfl⟩)) (va_recv hK hP (q0 := 1) rfl rfl) cX_g hK hP hD hS hA hCx rfl hl.1 rfl (Nat.le_of_ble_eq_true rfl) d_Shapes_realEnd_32 ⟨Nat.zero_le _, Nat.zero_le _⟩ (fun r5 σ6 H locs h hP hD hS => ?_)
    refine lv_istore_n hx hb d_Shapes_realEnd_35 rfl hl (by decide) rfl (fun ls hl => ?_)
    refine lv_iload_n hx hb d_Shapes_realEnd_36 rfl (lv_at hl 0 rfl) ?_
    refine lv_bipush (v := 101) hx hb d_Shapes_realEnd_37 (by decide) ?_
    refine lv_icmp_eq hx hb d_Shapes_realEnd_39 (tgt := 50) rfl (fun hc => ?_) (fun hc => ?_)
    · have h := h.1 hc
      exact L50 s0 σ6 _ _ _ h hP hD hS (lv_sub hl [2, 1] rfl)
    · have h := h.2 hc
      refine lv_iload_n hx hb d_Shapes_realEnd_42 rfl (lv_at hl 0 rfl) ?_
      refine lv_bipush (v := 69) hx hb d_Shapes_realEnd_43 (by decide) ?_
      refine lv_icmp_eq hx hb d_Shapes_realEnd_45 (tgt := 50) rfl (fun hc => ?_) (fun hc => ?_)
      · have h := h.1 hc
        exact L50 s0 σ6 _ _ _ h hP hD hS (lv_sub hl [2, 1] rfl)
      · have h := h.2 hc
        refine lv_iload_n hx hb d_Shapes_realEnd_48 rfl (lv_at hl 1 rfl) ?_
        exact hret _ _ _ _ _ _ h hP hD hS d_Shapes_realEnd_49
  refine lv_aload_n hx hb d_Shapes_realEnd_0 rfl (lv_at hl 0 rfl) ?_
  refine va_get (D := D) (v := .ref (ad 1)) (C := R_Shapes) (T := T_Shapes) (N := 1) hx hb hts in_Shapes hown hK hP 7 rfl rfl 0 (by decide) (hts _ q_f_Shapes_9) (fun _ h9 => h9) rfl d_Shapes_realEnd_1 ?_
  refine lv_iload_n hx hb d_Shapes_realEnd_4 rfl (lv_at hl 1 rfl) ?_
  refine g_callVi ⟨hx, hb, hml, hown, hts⟩ (c_Text_letterAt h) (g_cwV 1 hts q_l_Shapes_29 q_m_Text_letterAt q_s_Text_letterAt q_i_TokenDesk_Text q_k_Text_letterAt (by decide +kernel) rfl rfl (by rw [hR]; exact ⟨Nat.le_of_ble_eq_true rfl, Nat.le_of_ble_eq_true rfl⟩)) (va_recv hK hP (q0 := 1) rfl rfl) cX_g hK hP hD hS hA hCx rfl hl.1 rfl (Nat.le_of_ble_eq_true rfl) d_Shapes_realEnd_5 ⟨Nat.zero_le _, Nat.zero_le _⟩ (fun r1 σ2 H locs h hP hD hS => ?_)
  refine lv_bipush (v := 46) hx hb d_Shapes_realEnd_8 (by decide) ?_
  refine lv_icmp_ne hx hb d_Shapes_realEnd_10 (tgt := 25) rfl (fun hc => ?_) (fun hc => ?_)
  · have h := h.1 hc
    refine lv_iload_n hx hb d_Shapes_realEnd_25 rfl (lv_at hl 1 rfl) ?_
    exact L26 a1 σ2 _ _ _ h hP hD hS (lv_sub hl [0] rfl)
  · have h := h.2 hc
    refine lv_aload_n hx hb d_Shapes_realEnd_13 rfl (lv_at hl 0 rfl) ?_
    refine lv_iload_n hx hb d_Shapes_realEnd_14 rfl (lv_at hl 1 rfl) ?_
    refine lv_iconst (v := 1) hx hb d_Shapes_realEnd_15 (by decide) ?_
    refine lv_iadd hx hb d_Shapes_realEnd_16 ?_
    refine lv_bipush (v := 10) hx hb d_Shapes_realEnd_17 (by decide) ?_
    refine g_callVi ⟨hx, hb, hml, hown, hts⟩ (c_Shapes_digitsEnd h) (g_cwV 2 hts q_l_Shapes_62 q_m_Shapes_digitsEnd q_s_Shapes_digitsEnd q_i_TokenDesk_Shapes q_k_Shapes_digitsEnd (by decide +kernel) rfl rfl (by rw [hR]; exact ⟨Nat.le_of_ble_eq_true rfl, Nat.le_of_ble_eq_true rfl⟩)) (va_recv hK hP (q0 := 7) rfl rfl) cX_g hK hP hD hS hA hCx rfl hl.1 rfl (Nat.le_of_ble_eq_true rfl) d_Shapes_realEnd_19 ⟨Nat.zero_le _, Nat.zero_le _⟩ (fun r3 σ4 H locs h hP hD hS => ?_)
    refine lv_goto hx hb d_Shapes_realEnd_22 (tgt := 26) rfl ?_
    exact L26 r3 σ4 _ _ _ h hP hD hS (lv_sub hl [0] rfl)
set_option maxHeartbeats 4000000 in
set_option maxRecDepth 100000 in
theorem c_Shapes_numberEnd {l : Launch} {D : va_G} {ad : Nat → Nat} {ty : Nat → ClassId} {cd : Nat → Nat → Nat} {a1 : Int32} {σ : KS} {post : Int32 → KS → Prop} (h : wp_Shapes_numberEnd a1 σ post) : g_Meti l y_Shapes_numberEnd (Cond.code y_Shapes_numberEnd b_Shapes_numberEnd 5 (some .int) :: gW) ({ frames := 3, cells := 0, slots := 0, locals := 72 }) D vwCl (gT ty) (kW ad ty) (cX cd) [.ref (ad 7), .int a1] σ post := by
  refine g_starti (cc := b_Shapes_numberEnd) (maxL := 5) (by decide) rfl (Nat.le_of_ble_eq_true rfl) ?_
  intro p e s m args below meth c A Q R ls hR hx hb hts hown hml hA hS hP hD hK hCx hl hret
  unfold wp_Shapes_numberEnd at h
  have hown : s.vm.findClass "TokenDesk$Shapes" = some m.cls := hown
  have hl : lv_has ls 5 [(0, .ref (ad 7)), (1, .int a1)] := hl
  have L62 : ∀ (x3 : Int32) (σ : KS) (H : Heap) (locs : List Loc) (ls : Array Slot), L_Shapes_numberEnd_62 post x3 σ → va_P D vwCl (kW ad ty σ) H → va_D A (kW ad ty σ) → va_S A s.heap H locs → lv_has ls 5 [(0, .ref (ad 7)), (3, .int x3)] → W p l e R s m args below meth c H locs 0 0 Q (F0 m 62 ls []) := by
    intro x3 σ H locs ls h hP hD hS hl
    unfold L_Shapes_numberEnd_62 at h
    refine lv_aload_n hx hb d_Shapes_numberEnd_62 rfl (lv_at hl 0 rfl) ?_
    refine va_get (D := D) (v := .ref (ad 1)) (C := R_Shapes) (T := T_Shapes) (N := 1) hx hb hts in_Shapes hown hK hP 7 rfl rfl 0 (by decide) (hts _ q_f_Shapes_9) (fun _ h9 => h9) rfl d_Shapes_numberEnd_63 ?_
    refine lv_iload_n hx hb d_Shapes_numberEnd_66 rfl (lv_at hl 1 rfl) ?_
    refine g_callVi ⟨hx, hb, hml, hown, hts⟩ (c_Text_letterAt h) (g_cwV 1 hts q_l_Shapes_29 q_m_Text_letterAt q_s_Text_letterAt q_i_TokenDesk_Text q_k_Text_letterAt (by decide +kernel) rfl rfl (by rw [hR]; exact ⟨Nat.le_of_ble_eq_true rfl, Nat.le_of_ble_eq_true rfl⟩)) (va_recv hK hP (q0 := 1) rfl rfl) cX_g hK hP hD hS hA hCx rfl hl.1 rfl (Nat.le_of_ble_eq_true rfl) d_Shapes_numberEnd_67 ⟨Nat.zero_le _, Nat.zero_le _⟩ (fun r11 σ12 H locs h hP hD hS => ?_)
    refine g_callSi ⟨hx, hb, hml, hown, hts⟩ (c_Shapes_continuesName h) (g_cwS 1 hts q_l_Shapes_33 q_t_Shapes_continuesName q_i_TokenDesk_Shapes q_k_Shapes_continuesName (by decide +kernel) rfl rfl (by rw [hR]; exact ⟨Nat.le_of_ble_eq_true rfl, Nat.le_of_ble_eq_true rfl⟩)) cX_g hK hP hD hS hA hCx rfl hl.1 rfl (Nat.le_of_ble_eq_true rfl) d_Shapes_numberEnd_70 ⟨Nat.zero_le _, Nat.zero_le _⟩ (fun r13 σ14 H locs h hP hD hS => ?_)
    refine lv_if_eq hx hb d_Shapes_numberEnd_73 (tgt := 80) rfl (fun hc => ?_) (fun hc => ?_)
    · have h := h.1 hc
      refine lv_iload_n hx hb d_Shapes_numberEnd_80 rfl (lv_at hl 1 rfl) ?_
      exact hret _ _ _ _ _ _ h hP hD hS d_Shapes_numberEnd_81
    · have h := h.2 hc
      refine lv_iconst (v := (-1)) hx hb d_Shapes_numberEnd_76 (by decide) ?_
      refine lv_goto hx hb d_Shapes_numberEnd_77 (tgt := 81) rfl ?_
      exact hret _ _ _ _ _ _ h hP hD hS d_Shapes_numberEnd_81
  have L28 : ∀ (x1 : Int32) (x2 : Int32) (s0 : Int32) (σ : KS) (H : Heap) (locs : List Loc) (ls : Array Slot), L_Shapes_numberEnd_28 post x1 x2 s0 σ → va_P D vwCl (kW ad ty σ) H → va_D A (kW ad ty σ) → va_S A s.heap H locs → lv_has ls 5 [(0, .ref (ad 7)), (1, .int x1), (2, .int x2)] → W p l e R s m args below meth c H locs 0 0 Q (F0 m 28 ls [.int s0]) := by
    intro x1 x2 s0 σ H locs ls h hP hD hS hl
    unfold L_Shapes_numberEnd_28 at h
    refine lv_istore_n hx hb d_Shapes_numberEnd_28 rfl hl (by decide) rfl (fun ls hl => ?_)
    refine lv_iload_n hx hb d_Shapes_numberEnd_29 rfl (lv_at hl 3 rfl) ?_
    refine lv_bipush (v := 10) hx hb d_Shapes_numberEnd_30 (by decide) ?_
    refine lv_icmp_ne hx hb d_Shapes_numberEnd_32 (tgt := 62) rfl (fun hc => ?_) (fun hc => ?_)
    · have h := h.1 hc
      exact L62 s0 σ _ _ _ h hP hD hS (lv_sub hl [1, 0] rfl)
    · have h := h.2 hc
      refine lv_iload_n hx hb d_Shapes_numberEnd_35 rfl (lv_at hl 0 rfl) ?_
      refine lv_istore hx hb d_Shapes_numberEnd_36 hl (by decide) rfl (fun ls hl => ?_)
      refine lv_aload_n hx hb d_Shapes_numberEnd_38 rfl (lv_at hl 2 rfl) ?_
      refine lv_iload hx hb d_Shapes_numberEnd_39 (lv_at hl 0 rfl) ?_
      refine g_callVi ⟨hx, hb, hml, hown, hts⟩ (c_Shapes_realEnd h) (g_cwV 1 hts q_l_Shapes_69 q_m_Shapes_realEnd q_s_Shapes_realEnd q_i_TokenDesk_Shapes q_k_Shapes_realEnd (by decide +kernel) rfl rfl (by rw [hR]; exact ⟨Nat.le_of_ble_eq_true rfl, Nat.le_of_ble_eq_true rfl⟩)) (va_recv hK hP (q0 := 7) rfl rfl) cX_g hK hP hD hS hA hCx rfl hl.1 rfl (Nat.le_of_ble_eq_true rfl) d_Shapes_numberEnd_41 ⟨Nat.zero_le _, Nat.zero_le _⟩ (fun r7 σ8 H locs h hP hD hS => ?_)
      refine lv_istore_n hx hb d_Shapes_numberEnd_44 rfl hl (by decide) rfl (fun ls hl => ?_)
      refine lv_iload_n hx hb d_Shapes_numberEnd_45 rfl (lv_at hl 0 rfl) ?_
      refine lv_iload hx hb d_Shapes_numberEnd_46 (lv_at hl 1 rfl) ?_
      refine lv_icmp_ne hx hb d_Shapes_numberEnd_48 (tgt := 62) rfl (fun hc => ?_) (fun hc => ?_)
      · have h := h.1 hc
        exact L62 r7 σ8 _ _ _ h hP hD hS (lv_sub hl [2, 0] rfl)
      · have h := h.2 hc
        refine lv_aload_n hx hb d_Shapes_numberEnd_51 rfl (lv_at hl 2 rfl) ?_
        refine lv_iload_n hx hb d_Shapes_numberEnd_52 rfl (lv_at hl 3 rfl) ?_
        refine lv_iload_n hx hb d_Shapes_numberEnd_53 rfl (lv_at hl 0 rfl) ?_
        refine g_callVi ⟨hx, hb, hml, hown, hts⟩ (c_Shapes_hasIdleZero h) (g_cwV 2 hts q_l_Shapes_72 q_m_Shapes_hasIdleZero q_s_Shapes_hasIdleZero q_i_TokenDesk_Shapes q_k_Shapes_hasIdleZero (by decide +kernel) rfl rfl (by rw [hR]; exact ⟨Nat.le_of_ble_eq_true rfl, Nat.le_of_ble_eq_true rfl⟩)) (va_recv hK hP (q0 := 7) rfl rfl) cX_g hK hP hD hS hA hCx rfl hl.1 rfl (Nat.le_of_ble_eq_true rfl) d_Shapes_numberEnd_54 ⟨Nat.zero_le _, Nat.zero_le _⟩ (fun r9 σ10 H locs h hP hD hS => ?_)
        refine lv_if_eq hx hb d_Shapes_numberEnd_57 (tgt := 62) rfl (fun hc => ?_) (fun hc => ?_)
        · have h := h.1 hc
          exact L62 r7 σ10 _ _ _ h hP hD hS (lv_sub hl [2, 0] rfl)
        · have h := h.2 hc
          refine lv_iconst (v := (-1)) hx hb d_Shapes_numberEnd_60 (by decide) ?_
          exact hret _ _ _ _ _ _ h hP hD hS d_Shapes_numberEnd_61
  refine lv_aload_n hx hb d_Shapes_numberEnd_0 rfl (lv_at hl 0 rfl) ?_
  refine lv_iload_n hx hb d_Shapes_numberEnd_1 rfl (lv_at hl 1 rfl) ?_
  refine g_callVi ⟨hx, hb, hml, hown, hts⟩ (c_Shapes_baseAt h) (g_cwV 1 hts q_l_Shapes_59 q_m_Shapes_baseAt q_s_Shapes_baseAt q_i_TokenDesk_Shapes q_k_Shapes_baseAt (by decide +kernel) rfl rfl (by rw [hR]; exact ⟨Nat.le_of_ble_eq_true rfl, Nat.le_of_ble_eq_true rfl⟩)) (va_recv hK hP (q0 := 7) rfl rfl) cX_g hK hP hD hS hA hCx rfl hl.1 rfl (Nat.le_of_ble_eq_true rfl) d_Shapes_numberEnd_2 ⟨Nat.zero_le _, Nat.zero_le _⟩ (fun r1 σ2 H locs h hP hD hS => ?_)
  refine lv_istore_n hx hb d_Shapes_numberEnd_5 rfl hl (by decide) rfl (fun ls hl => ?_)
  refine lv_iload_n hx hb d_Shapes_numberEnd_6 rfl (lv_at hl 0 rfl) ?_
  refine lv_bipush (v := 10) hx hb d_Shapes_numberEnd_7 (by decide) ?_
  refine lv_icmp_ne hx hb d_Shapes_numberEnd_9 (tgt := 22) rfl (fun hc => ?_) (fun hc => ?_)
  · have h := h.1 hc
    refine lv_aload_n hx hb d_Shapes_numberEnd_22 rfl (lv_at hl 1 rfl) ?_
    refine lv_iload_n hx hb d_Shapes_numberEnd_23 rfl (lv_at hl 2 rfl) ?_
    refine lv_iload_n hx hb d_Shapes_numberEnd_24 rfl (lv_at hl 0 rfl) ?_
    refine g_callVi ⟨hx, hb, hml, hown, hts⟩ (c_Shapes_basedEnd h) (g_cwV 2 hts q_l_Shapes_66 q_m_Shapes_basedEnd q_s_Shapes_basedEnd q_i_TokenDesk_Shapes q_k_Shapes_basedEnd (by decide +kernel) rfl rfl (by rw [hR]; exact ⟨Nat.le_of_ble_eq_true rfl, Nat.le_of_ble_eq_true rfl⟩)) (va_recv hK hP (q0 := 7) rfl rfl) cX_g hK hP hD hS hA hCx rfl hl.1 rfl (Nat.le_of_ble_eq_true rfl) d_Shapes_numberEnd_25 ⟨Nat.zero_le _, Nat.zero_le _⟩ (fun r3 σ4 H locs h hP hD hS => ?_)
    exact L28 a1 r1 r3 σ4 _ _ _ h hP hD hS (lv_sub hl [1, 2, 0] rfl)
  · have h := h.2 hc
    refine lv_aload_n hx hb d_Shapes_numberEnd_12 rfl (lv_at hl 1 rfl) ?_
    refine lv_iload_n hx hb d_Shapes_numberEnd_13 rfl (lv_at hl 2 rfl) ?_
    refine lv_bipush (v := 10) hx hb d_Shapes_numberEnd_14 (by decide) ?_
    refine g_callVi ⟨hx, hb, hml, hown, hts⟩ (c_Shapes_digitsEnd h) (g_cwV 2 hts q_l_Shapes_62 q_m_Shapes_digitsEnd q_s_Shapes_digitsEnd q_i_TokenDesk_Shapes q_k_Shapes_digitsEnd (by decide +kernel) rfl rfl (by rw [hR]; exact ⟨Nat.le_of_ble_eq_true rfl, Nat.le_of_ble_eq_true rfl⟩)) (va_recv hK hP (q0 := 7) rfl rfl) cX_g hK hP hD hS hA hCx rfl hl.1 rfl (Nat.le_of_ble_eq_true rfl) d_Shapes_numberEnd_16 ⟨Nat.zero_le _, Nat.zero_le _⟩ (fun r5 σ6 H locs h hP hD hS => ?_)
    refine lv_goto hx hb d_Shapes_numberEnd_19 (tgt := 28) rfl ?_
    exact L28 a1 r1 r5 σ6 _ _ _ h hP hD hS (lv_sub hl [1, 2, 0] rfl)
set_option maxHeartbeats 4000000 in
set_option maxRecDepth 100000 in
theorem c_Shapes_numberKind {l : Launch} {D : va_G} {ad : Nat → Nat} {ty : Nat → ClassId} {cd : Nat → Nat → Nat} {a1 : Int32} {a2 : Int32} {σ : KS} {post : Int32 → KS → Prop} (h : wp_Shapes_numberKind a1 a2 σ post) : g_Meti l y_Shapes_numberKind (Cond.code y_Shapes_numberKind b_Shapes_numberKind 4 (some .int) :: gW) ({ frames := 2, cells := 0, slots := 0, locals := 46 }) D vwCl (gT ty) (kW ad ty) (cX cd) [.ref (ad 7), .int a1, .int a2] σ post := by
  refine g_starti (cc := b_Shapes_numberKind) (maxL := 4) (by decide) rfl (Nat.le_of_ble_eq_true rfl) ?_
  intro p e s m args below meth c A Q R ls hR hx hb hts hown hml hA hS hP hD hK hCx hl hret
  unfold wp_Shapes_numberKind at h
  have hown : s.vm.findClass "TokenDesk$Shapes" = some m.cls := hown
  have hl : lv_has ls 4 [(0, .ref (ad 7)), (1, .int a1), (2, .int a2)] := hl
  have L26 : ∀ (s0 : Int32) (σ : KS) (H : Heap) (locs : List Loc) (ls : Array Slot), L_Shapes_numberKind_26 post s0 σ → va_P D vwCl (kW ad ty σ) H → va_D A (kW ad ty σ) → va_S A s.heap H locs → lv_has ls 4 [] → W p l e R s m args below meth c H locs 0 0 Q (F0 m 26 ls [.int s0]) := by
    intro s0 σ H locs ls h hP hD hS hl
    unfold L_Shapes_numberKind_26 at h
    refine lv_istore_n hx hb d_Shapes_numberKind_26 rfl hl (by decide) rfl (fun ls hl => ?_)
    refine lv_iload_n hx hb d_Shapes_numberKind_27 rfl (lv_at hl 0 rfl) ?_
    refine lv_if_eq hx hb d_Shapes_numberKind_28 (tgt := 35) rfl (fun hc => ?_) (fun hc => ?_)
    · have h := h.1 hc
      refine lv_bipush (v := 6) hx hb d_Shapes_numberKind_35 (by decide) ?_
      exact hret _ _ _ _ _ _ h hP hD hS d_Shapes_numberKind_37
    · have h := h.2 hc
      refine lv_iconst (v := 5) hx hb d_Shapes_numberKind_31 (by decide) ?_
      refine lv_goto hx hb d_Shapes_numberKind_32 (tgt := 37) rfl ?_
      exact hret _ _ _ _ _ _ h hP hD hS d_Shapes_numberKind_37
  have L21 : ∀ (σ : KS) (H : Heap) (locs : List Loc) (ls : Array Slot), L_Shapes_numberKind_21 post σ → va_P D vwCl (kW ad ty σ) H → va_D A (kW ad ty σ) → va_S A s.heap H locs → lv_has ls 4 [] → W p l e R s m args below meth c H locs 0 0 Q (F0 m 21 ls []) := by
    intro σ H locs ls h hP hD hS hl
    unfold L_Shapes_numberKind_21 at h
    refine lv_iconst (v := 1) hx hb d_Shapes_numberKind_21 (by decide) ?_
    refine lv_goto hx hb d_Shapes_numberKind_22 (tgt := 26) rfl ?_
    exact L26 1 σ _ _ _ h hP hD hS hl
  refine lv_aload_n hx hb d_Shapes_numberKind_0 rfl (lv_at hl 0 rfl) ?_
  refine lv_iload_n hx hb d_Shapes_numberKind_1 rfl (lv_at hl 1 rfl) ?_
  refine g_callVi ⟨hx, hb, hml, hown, hts⟩ (c_Shapes_baseAt h) (g_cwV 1 hts q_l_Shapes_59 q_m_Shapes_baseAt q_s_Shapes_baseAt q_i_TokenDesk_Shapes q_k_Shapes_baseAt (by decide +kernel) rfl rfl (by rw [hR]; exact ⟨Nat.le_of_ble_eq_true rfl, Nat.le_of_ble_eq_true rfl⟩)) (va_recv hK hP (q0 := 7) rfl rfl) cX_g hK hP hD hS hA hCx rfl hl.1 rfl (Nat.le_of_ble_eq_true rfl) d_Shapes_numberKind_2 ⟨Nat.zero_le _, Nat.zero_le _⟩ (fun r1 σ2 H locs h hP hD hS => ?_)
  refine lv_bipush (v := 10) hx hb d_Shapes_numberKind_5 (by decide) ?_
  refine lv_icmp_ne hx hb d_Shapes_numberKind_7 (tgt := 21) rfl (fun hc => ?_) (fun hc => ?_)
  · have h := h.1 hc
    exact L21 σ2 _ _ _ h hP hD hS (lv_sub hl [] rfl)
  · have h := h.2 hc
    refine lv_aload_n hx hb d_Shapes_numberKind_10 rfl (lv_at hl 0 rfl) ?_
    refine lv_iload_n hx hb d_Shapes_numberKind_11 rfl (lv_at hl 1 rfl) ?_
    refine lv_bipush (v := 10) hx hb d_Shapes_numberKind_12 (by decide) ?_
    refine g_callVi ⟨hx, hb, hml, hown, hts⟩ (c_Shapes_digitsEnd h) (g_cwV 2 hts q_l_Shapes_62 q_m_Shapes_digitsEnd q_s_Shapes_digitsEnd q_i_TokenDesk_Shapes q_k_Shapes_digitsEnd (by decide +kernel) rfl rfl (by rw [hR]; exact ⟨Nat.le_of_ble_eq_true rfl, Nat.le_of_ble_eq_true rfl⟩)) (va_recv hK hP (q0 := 7) rfl rfl) cX_g hK hP hD hS hA hCx rfl hl.1 rfl (Nat.le_of_ble_eq_true rfl) d_Shapes_numberKind_14 ⟨Nat.zero_le _, Nat.zero_le _⟩ (fun r3 σ4 H locs h hP hD hS => ?_)
    refine lv_iload_n hx hb d_Shapes_numberKind_17 rfl (lv_at hl 2 rfl) ?_
    refine lv_icmp_ne hx hb d_Shapes_numberKind_18 (tgt := 25) rfl (fun hc => ?_) (fun hc => ?_)
    · have h := h.1 hc
      refine lv_iconst (v := 0) hx hb d_Shapes_numberKind_25 (by decide) ?_
      exact L26 0 σ4 _ _ _ h hP hD hS (lv_sub hl [] rfl)
    · have h := h.2 hc
      exact L21 σ4 _ _ _ h hP hD hS (lv_sub hl [] rfl)
set_option maxHeartbeats 4000000 in
set_option maxRecDepth 100000 in
theorem c_Shapes_prefixLength {l : Launch} {D : va_G} {ad : Nat → Nat} {ty : Nat → ClassId} {cd : Nat → Nat → Nat} {a1 : Int32} {a2 : Int32} {σ : KS} {post : Int32 → KS → Prop} (h : wp_Shapes_prefixLength a1 a2 σ post) : g_Meti l y_Shapes_prefixLength (Cond.code y_Shapes_prefixLength b_Shapes_prefixLength 2 (some .int) :: gW) ({ frames := 0, cells := 0, slots := 0, locals := 0 }) D vwCl (gT ty) (kW ad ty) (cX cd) [.int a1, .int a2] σ post := by
  refine g_starti (cc := b_Shapes_prefixLength) (maxL := 2) (by decide) rfl (Nat.le_of_ble_eq_true rfl) ?_
  intro p e s m args below meth c A Q R ls hR hx hb hts hown hml hA hS hP hD hK hCx hl hret
  unfold wp_Shapes_prefixLength at h
  have hown : s.vm.findClass "TokenDesk$Shapes" = some m.cls := hown
  have hl : lv_has ls 2 [(0, .int a1), (1, .int a2)] := hl
  refine lv_iload_n hx hb d_Shapes_prefixLength_0 rfl (lv_at hl 0 rfl) ?_
  refine lv_bipush (v := 114) hx hb d_Shapes_prefixLength_1 (by decide) ?_
  refine lv_icmp_ne hx hb d_Shapes_prefixLength_3 (tgt := 18) rfl (fun hc => ?_) (fun hc => ?_)
  · have h := h.1 hc
    refine lv_iload_n hx hb d_Shapes_prefixLength_18 rfl (lv_at hl 0 rfl) ?_
    refine lv_bipush (v := 102) hx hb d_Shapes_prefixLength_19 (by decide) ?_
    refine lv_icmp_ne hx hb d_Shapes_prefixLength_21 (tgt := 36) rfl (fun hc => ?_) (fun hc => ?_)
    · have h := h.1 hc
      refine lv_iconst (v := 0) hx hb d_Shapes_prefixLength_36 (by decide) ?_
      exact hret _ _ _ _ _ _ h hP hD hS d_Shapes_prefixLength_37
    · have h := h.2 hc
      refine lv_iload_n hx hb d_Shapes_prefixLength_24 rfl (lv_at hl 1 rfl) ?_
      refine lv_bipush (v := 114) hx hb d_Shapes_prefixLength_25 (by decide) ?_
      refine lv_icmp_ne hx hb d_Shapes_prefixLength_27 (tgt := 34) rfl (fun hc => ?_) (fun hc => ?_)
      · have h := h.1 hc
        refine lv_iconst (v := 1) hx hb d_Shapes_prefixLength_34 (by decide) ?_
        exact hret _ _ _ _ _ _ h hP hD hS d_Shapes_prefixLength_35
      · have h := h.2 hc
        refine lv_iconst (v := 2) hx hb d_Shapes_prefixLength_30 (by decide) ?_
        refine lv_goto hx hb d_Shapes_prefixLength_31 (tgt := 35) rfl ?_
        exact hret _ _ _ _ _ _ h hP hD hS d_Shapes_prefixLength_35
  · have h := h.2 hc
    refine lv_iload_n hx hb d_Shapes_prefixLength_6 rfl (lv_at hl 1 rfl) ?_
    refine lv_bipush (v := 102) hx hb d_Shapes_prefixLength_7 (by decide) ?_
    refine lv_icmp_ne hx hb d_Shapes_prefixLength_9 (tgt := 16) rfl (fun hc => ?_) (fun hc => ?_)
    · have h := h.1 hc
      refine lv_iconst (v := 1) hx hb d_Shapes_prefixLength_16 (by decide) ?_
      exact hret _ _ _ _ _ _ h hP hD hS d_Shapes_prefixLength_17
    · have h := h.2 hc
      refine lv_iconst (v := 2) hx hb d_Shapes_prefixLength_12 (by decide) ?_
      refine lv_goto hx hb d_Shapes_prefixLength_13 (tgt := 17) rfl ?_
      exact hret _ _ _ _ _ _ h hP hD hS d_Shapes_prefixLength_17
set_option maxHeartbeats 4000000 in
set_option maxRecDepth 100000 in
theorem c_Shapes_quoteOfStringAt {l : Launch} {D : va_G} {ad : Nat → Nat} {ty : Nat → ClassId} {cd : Nat → Nat → Nat} {a1 : Int32} {σ : KS} {post : Int32 → KS → Prop} (h : wp_Shapes_quoteOfStringAt a1 σ post) : g_Meti l y_Shapes_quoteOfStringAt (Cond.code y_Shapes_quoteOfStringAt b_Shapes_quoteOfStringAt 4 (some .int) :: gW) ({ frames := 1, cells := 0, slots := 0, locals := 21 }) D vwCl (gT ty) (kW ad ty) (cX cd) [.ref (ad 7), .int a1] σ post := by
  refine g_starti (cc := b_Shapes_quoteOfStringAt) (maxL := 4) (by decide) rfl (Nat.le_of_ble_eq_true rfl) ?_
  intro p e s m args below meth c A Q R ls hR hx hb hts hown hml hA hS hP hD hK hCx hl hret
  unfold wp_Shapes_quoteOfStringAt at h
  have hown : s.vm.findClass "TokenDesk$Shapes" = some m.cls := hown
  have hl : lv_has ls 4 [(0, .ref (ad 7)), (1, .int a1)] := hl
  have L45 : ∀ (x2 : Int32) (σ : KS) (H : Heap) (locs : List Loc) (ls : Array Slot), L_Shapes_quoteOfStringAt_45 post x2 σ → va_P D vwCl (kW ad ty σ) H → va_D A (kW ad ty σ) → va_S A s.heap H locs → lv_has ls 4 [(2, .int x2)] → W p l e R s m args below meth c H locs 0 0 Q (F0 m 45 ls []) := by
    intro x2 σ H locs ls h hP hD hS hl
    unfold L_Shapes_quoteOfStringAt_45 at h
    refine lv_iload_n hx hb d_Shapes_quoteOfStringAt_45 rfl (lv_at hl 0 rfl) ?_
    refine lv_goto hx hb d_Shapes_quoteOfStringAt_46 (tgt := 50) rfl ?_
    exact hret _ _ _ _ _ _ h hP hD hS d_Shapes_quoteOfStringAt_50
  refine lv_iload_n hx hb d_Shapes_quoteOfStringAt_0 rfl (lv_at hl 1 rfl) ?_
  refine lv_aload_n hx hb d_Shapes_quoteOfStringAt_1 rfl (lv_at hl 0 rfl) ?_
  refine va_get (D := D) (v := .ref (ad 1)) (C := R_Shapes) (T := T_Shapes) (N := 1) hx hb hts in_Shapes hown hK hP 7 rfl rfl 0 (by decide) (hts _ q_f_Shapes_9) (fun _ h9 => h9) rfl d_Shapes_quoteOfStringAt_2 ?_
  refine lv_iload_n hx hb d_Shapes_quoteOfStringAt_5 rfl (lv_at hl 1 rfl) ?_
  refine g_callVi ⟨hx, hb, hml, hown, hts⟩ (c_Text_letterAt h) (g_cwV 1 hts q_l_Shapes_29 q_m_Text_letterAt q_s_Text_letterAt q_i_TokenDesk_Text q_k_Text_letterAt (by decide +kernel) rfl rfl (by rw [hR]; exact ⟨Nat.le_of_ble_eq_true rfl, Nat.le_of_ble_eq_true rfl⟩)) (va_recv hK hP (q0 := 1) rfl rfl) cX_g hK hP hD hS hA hCx rfl hl.1 rfl (Nat.le_of_ble_eq_true rfl) d_Shapes_quoteOfStringAt_6 ⟨Nat.zero_le _, Nat.zero_le _⟩ (fun r1 σ2 H locs h hP hD hS => ?_)
  refine lv_aload_n hx hb d_Shapes_quoteOfStringAt_9 rfl (lv_at hl 0 rfl) ?_
  refine va_get (D := D) (v := .ref (ad 1)) (C := R_Shapes) (T := T_Shapes) (N := 1) hx hb hts in_Shapes hown hK hP 7 rfl rfl 0 (by decide) (hts _ q_f_Shapes_9) (fun _ h9 => h9) rfl d_Shapes_quoteOfStringAt_10 ?_
  refine lv_iload_n hx hb d_Shapes_quoteOfStringAt_13 rfl (lv_at hl 1 rfl) ?_
  refine lv_iconst (v := 1) hx hb d_Shapes_quoteOfStringAt_14 (by decide) ?_
  refine lv_iadd hx hb d_Shapes_quoteOfStringAt_15 ?_
  refine g_callVi ⟨hx, hb, hml, hown, hts⟩ (c_Text_letterAt h) (g_cwV 1 hts q_l_Shapes_29 q_m_Text_letterAt q_s_Text_letterAt q_i_TokenDesk_Text q_k_Text_letterAt (by decide +kernel) rfl rfl (by rw [hR]; exact ⟨Nat.le_of_ble_eq_true rfl, Nat.le_of_ble_eq_true rfl⟩)) (va_recv hK hP (q0 := 1) rfl rfl) cX_g hK hP hD hS hA hCx rfl hl.1 rfl (Nat.le_of_ble_eq_true rfl) d_Shapes_quoteOfStringAt_16 ⟨Nat.zero_le _, Nat.zero_le _⟩ (fun r3 σ4 H locs h hP hD hS => ?_)
  refine g_callSi ⟨hx, hb, hml, hown, hts⟩ (c_Shapes_prefixLength h) (g_cwS 2 hts q_l_Shapes_75 q_t_Shapes_prefixLength q_i_TokenDesk_Shapes q_k_Shapes_prefixLength (by decide +kernel) rfl rfl (by rw [hR]; exact ⟨Nat.le_of_ble_eq_true rfl, Nat.le_of_ble_eq_true rfl⟩)) cX_g hK hP hD hS hA hCx rfl hl.1 rfl (Nat.le_of_ble_eq_true rfl) d_Shapes_quoteOfStringAt_19 ⟨Nat.zero_le _, Nat.zero_le _⟩ (fun r5 σ6 H locs h hP hD hS => ?_)
  refine lv_iadd hx hb d_Shapes_quoteOfStringAt_22 ?_
  refine lv_istore_n hx hb d_Shapes_quoteOfStringAt_23 rfl hl (by decide) rfl (fun ls hl => ?_)
  refine lv_aload_n hx hb d_Shapes_quoteOfStringAt_24 rfl (lv_at hl 1 rfl) ?_
  refine va_get (D := D) (v := .ref (ad 1)) (C := R_Shapes) (T := T_Shapes) (N := 1) hx hb hts in_Shapes hown hK hP 7 rfl rfl 0 (by decide) (hts _ q_f_Shapes_9) (fun _ h9 => h9) rfl d_Shapes_quoteOfStringAt_25 ?_
  refine lv_iload_n hx hb d_Shapes_quoteOfStringAt_28 rfl (lv_at hl 0 rfl) ?_
  refine g_callVi ⟨hx, hb, hml, hown, hts⟩ (c_Text_letterAt h) (g_cwV 1 hts q_l_Shapes_29 q_m_Text_letterAt q_s_Text_letterAt q_i_TokenDesk_Text q_k_Text_letterAt (by decide +kernel) rfl rfl (by rw [hR]; exact ⟨Nat.le_of_ble_eq_true rfl, Nat.le_of_ble_eq_true rfl⟩)) (va_recv hK hP (q0 := 1) rfl rfl) cX_g hK hP hD hS hA hCx rfl hl.1 rfl (Nat.le_of_ble_eq_true rfl) d_Shapes_quoteOfStringAt_29 ⟨Nat.zero_le _, Nat.zero_le _⟩ (fun r7 σ8 H locs h hP hD hS => ?_)
  refine lv_istore_n hx hb d_Shapes_quoteOfStringAt_32 rfl hl (by decide) rfl (fun ls hl => ?_)
  refine lv_iload_n hx hb d_Shapes_quoteOfStringAt_33 rfl (lv_at hl 0 rfl) ?_
  refine lv_bipush (v := 39) hx hb d_Shapes_quoteOfStringAt_34 (by decide) ?_
  refine lv_icmp_eq hx hb d_Shapes_quoteOfStringAt_36 (tgt := 45) rfl (fun hc => ?_) (fun hc => ?_)
  · have h := h.1 hc
    exact L45 (a1 + r5) σ8 _ _ _ h hP hD hS (lv_sub hl [1] rfl)
  · have h := h.2 hc
    refine lv_iload_n hx hb d_Shapes_quoteOfStringAt_39 rfl (lv_at hl 0 rfl) ?_
    refine lv_bipush (v := 34) hx hb d_Shapes_quoteOfStringAt_40 (by decide) ?_
    refine lv_icmp_ne hx hb d_Shapes_quoteOfStringAt_42 (tgt := 49) rfl (fun hc => ?_) (fun hc => ?_)
    · have h := h.1 hc
      refine lv_iconst (v := (-1)) hx hb d_Shapes_quoteOfStringAt_49 (by decide) ?_
      exact hret _ _ _ _ _ _ h hP hD hS d_Shapes_quoteOfStringAt_50
    · have h := h.2 hc
      exact L45 (a1 + r5) σ8 _ _ _ h hP hD hS (lv_sub hl [1] rfl)
set_option maxHeartbeats 4000000 in
set_option maxRecDepth 100000 in
theorem c_Shapes_standsThrice {l : Launch} {D : va_G} {ad : Nat → Nat} {ty : Nat → ClassId} {cd : Nat → Nat → Nat} {a1 : Int32} {a2 : Int32} {σ : KS} {post : Int32 → KS → Prop} (h : wp_Shapes_standsThrice a1 a2 σ post) : g_Meti l y_Shapes_standsThrice (Cond.code y_Shapes_standsThrice b_Shapes_standsThrice 3 (some .boolean) :: gW) ({ frames := 1, cells := 0, slots := 0, locals := 21 }) D vwCl (gT ty) (kW ad ty) (cX cd) [.ref (ad 7), .int a1, .int a2] σ post := by
  refine g_startz (cc := b_Shapes_standsThrice) (maxL := 3) (by decide) rfl (Nat.le_of_ble_eq_true rfl) ?_
  intro p e s m args below meth c A Q R ls hR hx hb hts hown hml hA hS hP hD hK hCx hl hret
  unfold wp_Shapes_standsThrice at h
  have hown : s.vm.findClass "TokenDesk$Shapes" = some m.cls := hown
  have hl : lv_has ls 3 [(0, .ref (ad 7)), (1, .int a1), (2, .int a2)] := hl
  refine lv_aload_n hx hb d_Shapes_standsThrice_0 rfl (lv_at hl 0 rfl) ?_
  refine va_get (D := D) (v := .ref (ad 1)) (C := R_Shapes) (T := T_Shapes) (N := 1) hx hb hts in_Shapes hown hK hP 7 rfl rfl 0 (by decide) (hts _ q_f_Shapes_9) (fun _ h9 => h9) rfl d_Shapes_standsThrice_1 ?_
  refine lv_iload_n hx hb d_Shapes_standsThrice_4 rfl (lv_at hl 2 rfl) ?_
  refine g_callVi ⟨hx, hb, hml, hown, hts⟩ (c_Text_letterAt h) (g_cwV 1 hts q_l_Shapes_29 q_m_Text_letterAt q_s_Text_letterAt q_i_TokenDesk_Text q_k_Text_letterAt (by decide +kernel) rfl rfl (by rw [hR]; exact ⟨Nat.le_of_ble_eq_true rfl, Nat.le_of_ble_eq_true rfl⟩)) (va_recv hK hP (q0 := 1) rfl rfl) cX_g hK hP hD hS hA hCx rfl hl.1 rfl (Nat.le_of_ble_eq_true rfl) d_Shapes_standsThrice_5 ⟨Nat.zero_le _, Nat.zero_le _⟩ (fun r1 σ2 H locs h hP hD hS => ?_)
  refine lv_iload_n hx hb d_Shapes_standsThrice_8 rfl (lv_at hl 1 rfl) ?_
  refine lv_icmp_ne hx hb d_Shapes_standsThrice_9 (tgt := 44) rfl (fun hc => ?_) (fun hc => ?_)
  · have h := h.1 hc
    refine lv_iconst (v := 0) hx hb d_Shapes_standsThrice_44 (by decide) ?_
    exact hret _ _ _ _ _ _ h rfl hP hD hS d_Shapes_standsThrice_45
  · have h := h.2 hc
    refine lv_aload_n hx hb d_Shapes_standsThrice_12 rfl (lv_at hl 0 rfl) ?_
    refine va_get (D := D) (v := .ref (ad 1)) (C := R_Shapes) (T := T_Shapes) (N := 1) hx hb hts in_Shapes hown hK hP 7 rfl rfl 0 (by decide) (hts _ q_f_Shapes_9) (fun _ h9 => h9) rfl d_Shapes_standsThrice_13 ?_
    refine lv_iload_n hx hb d_Shapes_standsThrice_16 rfl (lv_at hl 2 rfl) ?_
    refine lv_iconst (v := 1) hx hb d_Shapes_standsThrice_17 (by decide) ?_
    refine lv_iadd hx hb d_Shapes_standsThrice_18 ?_
    refine g_callVi ⟨hx, hb, hml, hown, hts⟩ (c_Text_letterAt h) (g_cwV 1 hts q_l_Shapes_29 q_m_Text_letterAt q_s_Text_letterAt q_i_TokenDesk_Text q_k_Text_letterAt (by decide +kernel) rfl rfl (by rw [hR]; exact ⟨Nat.le_of_ble_eq_true rfl, Nat.le_of_ble_eq_true rfl⟩)) (va_recv hK hP (q0 := 1) rfl rfl) cX_g hK hP hD hS hA hCx rfl hl.1 rfl (Nat.le_of_ble_eq_true rfl) d_Shapes_standsThrice_19 ⟨Nat.zero_le _, Nat.zero_le _⟩ (fun r3 σ4 H locs h hP hD hS => ?_)
    refine lv_iload_n hx hb d_Shapes_standsThrice_22 rfl (lv_at hl 1 rfl) ?_
    refine lv_icmp_ne hx hb d_Shapes_standsThrice_23 (tgt := 44) rfl (fun hc => ?_) (fun hc => ?_)
    · have h := h.1 hc
      refine lv_iconst (v := 0) hx hb d_Shapes_standsThrice_44 (by decide) ?_
      exact hret _ _ _ _ _ _ h rfl hP hD hS d_Shapes_standsThrice_45
    · have h := h.2 hc
      refine lv_aload_n hx hb d_Shapes_standsThrice_26 rfl (lv_at hl 0 rfl) ?_
      refine va_get (D := D) (v := .ref (ad 1)) (C := R_Shapes) (T := T_Shapes) (N := 1) hx hb hts in_Shapes hown hK hP 7 rfl rfl 0 (by decide) (hts _ q_f_Shapes_9) (fun _ h9 => h9) rfl d_Shapes_standsThrice_27 ?_
      refine lv_iload_n hx hb d_Shapes_standsThrice_30 rfl (lv_at hl 2 rfl) ?_
      refine lv_iconst (v := 2) hx hb d_Shapes_standsThrice_31 (by decide) ?_
      refine lv_iadd hx hb d_Shapes_standsThrice_32 ?_
      refine g_callVi ⟨hx, hb, hml, hown, hts⟩ (c_Text_letterAt h) (g_cwV 1 hts q_l_Shapes_29 q_m_Text_letterAt q_s_Text_letterAt q_i_TokenDesk_Text q_k_Text_letterAt (by decide +kernel) rfl rfl (by rw [hR]; exact ⟨Nat.le_of_ble_eq_true rfl, Nat.le_of_ble_eq_true rfl⟩)) (va_recv hK hP (q0 := 1) rfl rfl) cX_g hK hP hD hS hA hCx rfl hl.1 rfl (Nat.le_of_ble_eq_true rfl) d_Shapes_standsThrice_33 ⟨Nat.zero_le _, Nat.zero_le _⟩ (fun r5 σ6 H locs h hP hD hS => ?_)
      refine lv_iload_n hx hb d_Shapes_standsThrice_36 rfl (lv_at hl 1 rfl) ?_
      refine lv_icmp_ne hx hb d_Shapes_standsThrice_37 (tgt := 44) rfl (fun hc => ?_) (fun hc => ?_)
      · have h := h.1 hc
        refine lv_iconst (v := 0) hx hb d_Shapes_standsThrice_44 (by decide) ?_
        exact hret _ _ _ _ _ _ h rfl hP hD hS d_Shapes_standsThrice_45
      · have h := h.2 hc
        refine lv_iconst (v := 1) hx hb d_Shapes_standsThrice_40 (by decide) ?_
        refine lv_goto hx hb d_Shapes_standsThrice_41 (tgt := 45) rfl ?_
        exact hret _ _ _ _ _ _ h rfl hP hD hS d_Shapes_standsThrice_45
set_option maxHeartbeats 4000000 in
set_option maxRecDepth 100000 in
theorem c_Shapes_stringEnd {l : Launch} {D : va_G} {ad : Nat → Nat} {ty : Nat → ClassId} {cd : Nat → Nat → Nat} {a1 : Int32} {σ : KS} {post : Int32 → KS → Prop} (h : wp_Shapes_stringEnd a1 σ post) : g_Meti l y_Shapes_stringEnd (Cond.code y_Shapes_stringEnd b_Shapes_stringEnd 6 (some .int) :: gW) ({ frames := 2, cells := 0, slots := 0, locals := 43 }) D vwCl (gT ty) (kW ad ty) (cX cd) [.ref (ad 7), .int a1] σ post := by
  refine g_starti (cc := b_Shapes_stringEnd) (maxL := 6) (by decide) rfl (Nat.le_of_ble_eq_true rfl) ?_
  intro p e s m args below meth c A Q R ls hR hx hb hts hown hml hA hS hP hD hK hCx hl hret
  unfold wp_Shapes_stringEnd at h
  have hown : s.vm.findClass "TokenDesk$Shapes" = some m.cls := hown
  have hl : lv_has ls 6 [(0, .ref (ad 7)), (1, .int a1)] := hl
  have L29 : ∀ n : Nat, ∀ (x2 : Int32) (x3 : Int32) (x4 : Int32) (σ : KS) (H : Heap) (locs : List Loc) (ls : Array Slot), L_Shapes_stringEnd_29 post n x2 x3 x4 σ → va_P D vwCl (kW ad ty σ) H → va_D A (kW ad ty σ) → va_S A s.heap H locs → lv_has ls 6 [(0, .ref (ad 7)), (2, .int x2), (3, .int x3), (4, .int x4)] → W p l e R s m args below meth c H locs 0 0 Q (F0 m 29 ls []) := by
    intro n29
    induction n29 with
    | zero => intro x2 x3 x4 σ H locs ls h hP hD hS hl; exact h.elim
    | succ n29 ih29 =>
      have L105 : ∀ (x2 : Int32) (x3 : Int32) (x4 : Int32) (σ : KS) (H : Heap) (locs : List Loc) (ls : Array Slot), L_Shapes_stringEnd_105 post (fun x2 x3 x4 σ => L_Shapes_stringEnd_29 post n29 x2 x3 x4 σ) x2 x3 x4 σ → va_P D vwCl (kW ad ty σ) H → va_D A (kW ad ty σ) → va_S A s.heap H locs → lv_has ls 6 [(0, .ref (ad 7)), (2, .int x2), (3, .int x3), (4, .int x4)] → W p l e R s m args below meth c H locs 0 0 Q (F0 m 105 ls []) := by
        intro x2 x3 x4 σ H locs ls h hP hD hS hl
        unfold L_Shapes_stringEnd_105 at h
        refine lv_iinc (v := (x4 + 1)) hx hb d_Shapes_stringEnd_105 hl (k := 3) rfl rfl (by decide) rfl (fun ls hl => ?_)
        refine lv_goto hx hb d_Shapes_stringEnd_108 (tgt := 29) rfl ?_
        exact ih29 x2 x3 (x4 + 1) σ _ _ _ h hP hD hS (lv_sub hl [1, 2, 3, 0] rfl)
      have L91 : ∀ (x2 : Int32) (x3 : Int32) (x4 : Int32) (x5 : Int32) (σ : KS) (H : Heap) (locs : List Loc) (ls : Array Slot), L_Shapes_stringEnd_91 post (fun x2 x3 x4 σ => L_Shapes_stringEnd_29 post n29 x2 x3 x4 σ) x2 x3 x4 x5 σ → va_P D vwCl (kW ad ty σ) H → va_D A (kW ad ty σ) → va_S A s.heap H locs → lv_has ls 6 [(0, .ref (ad 7)), (2, .int x2), (3, .int x3), (4, .int x4), (5, .int x5)] → W p l e R s m args below meth c H locs 0 0 Q (F0 m 91 ls []) := by
        intro x2 x3 x4 x5 σ H locs ls h hP hD hS hl
        unfold L_Shapes_stringEnd_91 at h
        refine lv_iload hx hb d_Shapes_stringEnd_91 (lv_at hl 4 rfl) ?_
        refine lv_bipush (v := 10) hx hb d_Shapes_stringEnd_93 (by decide) ?_
        refine lv_icmp_ne hx hb d_Shapes_stringEnd_95 (tgt := 105) rfl (fun hc => ?_) (fun hc => ?_)
        · have h := h.1 hc
          exact L105 x2 x3 x4 σ _ _ _ h hP hD hS (lv_sub hl [0, 1, 2, 3] rfl)
        · have h := h.2 hc
          refine lv_iload_n hx hb d_Shapes_stringEnd_98 rfl (lv_at hl 2 rfl) ?_
          refine lv_iconst (v := 1) hx hb d_Shapes_stringEnd_99 (by decide) ?_
          refine lv_icmp_ne hx hb d_Shapes_stringEnd_100 (tgt := 105) rfl (fun hc => ?_) (fun hc => ?_)
          · have h := h.1 hc
            exact L105 x2 x3 x4 σ _ _ _ h hP hD hS (lv_sub hl [0, 1, 2, 3] rfl)
          · have h := h.2 hc
            refine lv_iconst (v := (-1)) hx hb d_Shapes_stringEnd_103 (by decide) ?_
            exact hret _ _ _ _ _ _ h hP hD hS d_Shapes_stringEnd_104
      intro x2 x3 x4 σ H locs ls h hP hD hS hl
      unfold L_Shapes_stringEnd_29 at h
      refine lv_iload hx hb d_Shapes_stringEnd_29 (lv_at hl 3 rfl) ?_
      refine lv_aload_n hx hb d_Shapes_stringEnd_31 rfl (lv_at hl 0 rfl) ?_
      refine va_get (D := D) (v := .ref (ad 1)) (C := R_Shapes) (T := T_Shapes) (N := 1) hx hb hts in_Shapes hown hK hP 7 rfl rfl 0 (by decide) (hts _ q_f_Shapes_9) (fun _ h9 => h9) rfl d_Shapes_stringEnd_32 ?_
      refine g_callVi ⟨hx, hb, hml, hown, hts⟩ (c_Text_size h) (g_cwV 0 hts q_l_Shapes_23 q_m_Text_size q_s_Text_size q_i_TokenDesk_Text q_k_Text_size (by decide +kernel) rfl rfl (by rw [hR]; exact ⟨Nat.le_of_ble_eq_true rfl, Nat.le_of_ble_eq_true rfl⟩)) (va_recv hK hP (q0 := 1) rfl rfl) cX_g hK hP hD hS hA hCx rfl hl.1 rfl (Nat.le_of_ble_eq_true rfl) d_Shapes_stringEnd_35 ⟨Nat.zero_le _, Nat.zero_le _⟩ (fun r5 σ6 H locs h hP hD hS => ?_)
      refine lv_icmp_ge hx hb d_Shapes_stringEnd_38 (tgt := 111) rfl (fun hc => ?_) (fun hc => ?_)
      · have h := h.1 hc
        refine lv_iconst (v := (-1)) hx hb d_Shapes_stringEnd_111 (by decide) ?_
        exact hret _ _ _ _ _ _ h hP hD hS d_Shapes_stringEnd_112
      · have h := h.2 hc
        refine lv_aload_n hx hb d_Shapes_stringEnd_41 rfl (lv_at hl 0 rfl) ?_
        refine va_get (D := D) (v := .ref (ad 1)) (C := R_Shapes) (T := T_Shapes) (N := 1) hx hb hts in_Shapes hown hK hP 7 rfl rfl 0 (by decide) (hts _ q_f_Shapes_9) (fun _ h9 => h9) rfl d_Shapes_stringEnd_42 ?_
        refine lv_iload hx hb d_Shapes_stringEnd_45 (lv_at hl 3 rfl) ?_
        refine g_callVi ⟨hx, hb, hml, hown, hts⟩ (c_Text_letterAt h) (g_cwV 1 hts q_l_Shapes_29 q_m_Text_letterAt q_s_Text_letterAt q_i_TokenDesk_Text q_k_Text_letterAt (by decide +kernel) rfl rfl (by rw [hR]; exact ⟨Nat.le_of_ble_eq_true rfl, Nat.le_of_ble_eq_true rfl⟩)) (va_recv hK hP (q0 := 1) rfl rfl) cX_g hK hP hD hS hA hCx rfl hl.1 rfl (Nat.le_of_ble_eq_true rfl) d_Shapes_stringEnd_47 ⟨Nat.zero_le _, Nat.zero_le _⟩ (fun r7 σ8 H locs h hP hD hS => ?_)
        refine lv_istore hx hb d_Shapes_stringEnd_50 hl (by decide) rfl (fun ls hl => ?_)
        refine lv_iload hx hb d_Shapes_stringEnd_52 (lv_at hl 0 rfl) ?_
        refine lv_bipush (v := 92) hx hb d_Shapes_stringEnd_54 (by decide) ?_
        refine lv_icmp_ne hx hb d_Shapes_stringEnd_56 (tgt := 65) rfl (fun hc => ?_) (fun hc => ?_)
        · have h := h.1 hc
          refine lv_iload hx hb d_Shapes_stringEnd_65 (lv_at hl 0 rfl) ?_
          refine lv_iload_n hx hb d_Shapes_stringEnd_67 rfl (lv_at hl 2 rfl) ?_
          refine lv_icmp_ne hx hb d_Shapes_stringEnd_68 (tgt := 91) rfl (fun hc => ?_) (fun hc => ?_)
          · have h := h.1 hc
            exact L91 x2 x3 x4 r7 σ8 _ _ _ h hP hD hS (lv_sub hl [1, 2, 3, 4, 0] rfl)
          · have h := h.2 hc
            refine lv_iload_n hx hb d_Shapes_stringEnd_71 rfl (lv_at hl 3 rfl) ?_
            refine lv_iconst (v := 1) hx hb d_Shapes_stringEnd_72 (by decide) ?_
            refine lv_icmp_eq hx hb d_Shapes_stringEnd_73 (tgt := 86) rfl (fun hc => ?_) (fun hc => ?_)
            · have h := h.1 hc
              refine lv_iload hx hb d_Shapes_stringEnd_86 (lv_at hl 4 rfl) ?_
              refine lv_iload_n hx hb d_Shapes_stringEnd_88 rfl (lv_at hl 3 rfl) ?_
              refine lv_iadd hx hb d_Shapes_stringEnd_89 ?_
              exact hret _ _ _ _ _ _ h hP hD hS d_Shapes_stringEnd_90
            · have h := h.2 hc
              refine lv_aload_n hx hb d_Shapes_stringEnd_76 rfl (lv_at hl 1 rfl) ?_
              refine lv_iload_n hx hb d_Shapes_stringEnd_77 rfl (lv_at hl 2 rfl) ?_
              refine lv_iload hx hb d_Shapes_stringEnd_78 (lv_at hl 4 rfl) ?_
              refine g_callVi ⟨hx, hb, hml, hown, hts⟩ (c_Shapes_standsThrice h) (g_cwV 2 hts q_l_Shapes_78 q_m_Shapes_standsThrice q_s_Shapes_standsThrice q_i_TokenDesk_Shapes q_k_Shapes_standsThrice (by decide +kernel) rfl rfl (by rw [hR]; exact ⟨Nat.le_of_ble_eq_true rfl, Nat.le_of_ble_eq_true rfl⟩)) (va_recv hK hP (q0 := 7) rfl rfl) cX_g hK hP hD hS hA hCx rfl hl.1 rfl (Nat.le_of_ble_eq_true rfl) d_Shapes_stringEnd_80 ⟨Nat.zero_le _, Nat.zero_le _⟩ (fun r9 σ10 H locs h hP hD hS => ?_)
              refine lv_if_eq hx hb d_Shapes_stringEnd_83 (tgt := 91) rfl (fun hc => ?_) (fun hc => ?_)
              · have h := h.1 hc
                exact L91 x2 x3 x4 r7 σ10 _ _ _ h hP hD hS (lv_sub hl [1, 2, 3, 4, 0] rfl)
              · have h := h.2 hc
                refine lv_iload hx hb d_Shapes_stringEnd_86 (lv_at hl 4 rfl) ?_
                refine lv_iload_n hx hb d_Shapes_stringEnd_88 rfl (lv_at hl 3 rfl) ?_
                refine lv_iadd hx hb d_Shapes_stringEnd_89 ?_
                exact hret _ _ _ _ _ _ h hP hD hS d_Shapes_stringEnd_90
        · have h := h.2 hc
          refine lv_iinc (v := (x4 + 1)) hx hb d_Shapes_stringEnd_59 hl (k := 4) rfl rfl (by decide) rfl (fun ls hl => ?_)
          refine lv_goto hx hb d_Shapes_stringEnd_62 (tgt := 105) rfl ?_
          exact L105 x2 x3 (x4 + 1) σ8 _ _ _ h hP hD hS (lv_sub hl [2, 3, 4, 0] rfl)
  have L23 : ∀ (x1 : Int32) (x2 : Int32) (s0 : Int32) (σ : KS) (H : Heap) (locs : List Loc) (ls : Array Slot), L_Shapes_stringEnd_23 post x1 x2 s0 σ → va_P D vwCl (kW ad ty σ) H → va_D A (kW ad ty σ) → va_S A s.heap H locs → lv_has ls 6 [(0, .ref (ad 7)), (1, .int x1), (2, .int x2)] → W p l e R s m args below meth c H locs 0 0 Q (F0 m 23 ls [.int s0]) := by
    intro x1 x2 s0 σ H locs ls h hP hD hS hl
    unfold L_Shapes_stringEnd_23 at h
    refine lv_istore_n hx hb d_Shapes_stringEnd_23 rfl hl (by decide) rfl (fun ls hl => ?_)
    refine lv_iload_n hx hb d_Shapes_stringEnd_24 rfl (lv_at hl 2 rfl) ?_
    refine lv_iload_n hx hb d_Shapes_stringEnd_25 rfl (lv_at hl 0 rfl) ?_
    refine lv_iadd hx hb d_Shapes_stringEnd_26 ?_
    refine lv_istore hx hb d_Shapes_stringEnd_27 hl (by decide) rfl (fun ls hl => ?_)
    obtain ⟨n, h⟩ := h
    exact L29 n x2 s0 (x1 + s0) σ _ _ _ h hP hD hS (lv_sub hl [2, 4, 1, 0] rfl)
  refine lv_aload_n hx hb d_Shapes_stringEnd_0 rfl (lv_at hl 0 rfl) ?_
  refine va_get (D := D) (v := .ref (ad 1)) (C := R_Shapes) (T := T_Shapes) (N := 1) hx hb hts in_Shapes hown hK hP 7 rfl rfl 0 (by decide) (hts _ q_f_Shapes_9) (fun _ h9 => h9) rfl d_Shapes_stringEnd_1 ?_
  refine lv_iload_n hx hb d_Shapes_stringEnd_4 rfl (lv_at hl 1 rfl) ?_
  refine g_callVi ⟨hx, hb, hml, hown, hts⟩ (c_Text_letterAt h) (g_cwV 1 hts q_l_Shapes_29 q_m_Text_letterAt q_s_Text_letterAt q_i_TokenDesk_Text q_k_Text_letterAt (by decide +kernel) rfl rfl (by rw [hR]; exact ⟨Nat.le_of_ble_eq_true rfl, Nat.le_of_ble_eq_true rfl⟩)) (va_recv hK hP (q0 := 1) rfl rfl) cX_g hK hP hD hS hA hCx rfl hl.1 rfl (Nat.le_of_ble_eq_true rfl) d_Shapes_stringEnd_5 ⟨Nat.zero_le _, Nat.zero_le _⟩ (fun r1 σ2 H locs h hP hD hS => ?_)
  refine lv_istore_n hx hb d_Shapes_stringEnd_8 rfl hl (by decide) rfl (fun ls hl => ?_)
  refine lv_aload_n hx hb d_Shapes_stringEnd_9 rfl (lv_at hl 1 rfl) ?_
  refine lv_iload_n hx hb d_Shapes_stringEnd_10 rfl (lv_at hl 0 rfl) ?_
  refine lv_iload_n hx hb d_Shapes_stringEnd_11 rfl (lv_at hl 2 rfl) ?_
  refine g_callVi ⟨hx, hb, hml, hown, hts⟩ (c_Shapes_standsThrice h) (g_cwV 2 hts q_l_Shapes_78 q_m_Shapes_standsThrice q_s_Shapes_standsThrice q_i_TokenDesk_Shapes q_k_Shapes_standsThrice (by decide +kernel) rfl rfl (by rw [hR]; exact ⟨Nat.le_of_ble_eq_true rfl, Nat.le_of_ble_eq_true rfl⟩)) (va_recv hK hP (q0 := 7) rfl rfl) cX_g hK hP hD hS hA hCx rfl hl.1 rfl (Nat.le_of_ble_eq_true rfl) d_Shapes_stringEnd_12 ⟨Nat.zero_le _, Nat.zero_le _⟩ (fun r3 σ4 H locs h hP hD hS => ?_)
  refine lv_if_eq hx hb d_Shapes_stringEnd_15 (tgt := 22) rfl (fun hc => ?_) (fun hc => ?_)
  · have h := h.1 hc
    refine lv_iconst (v := 1) hx hb d_Shapes_stringEnd_22 (by decide) ?_
    exact L23 a1 r1 1 σ4 _ _ _ h hP hD hS (lv_sub hl [1, 2, 0] rfl)
  · have h := h.2 hc
    refine lv_iconst (v := 3) hx hb d_Shapes_stringEnd_18 (by decide) ?_
    refine lv_goto hx hb d_Shapes_stringEnd_19 (tgt := 23) rfl ?_
    exact L23 a1 r1 3 σ4 _ _ _ h hP hD hS (lv_sub hl [1, 2, 0] rfl)
set_option maxHeartbeats 4000000 in
set_option maxRecDepth 100000 in
theorem c_Shapes_signLength {l : Launch} {D : va_G} {ad : Nat → Nat} {ty : Nat → ClassId} {cd : Nat → Nat → Nat} {a1 : Int32} {σ : KS} {post : Int32 → KS → Prop} (h : wp_Shapes_signLength a1 σ post) : g_Meti l y_Shapes_signLength (Cond.code y_Shapes_signLength b_Shapes_signLength 2 (some .int) :: gW) ({ frames := 4, cells := 0, slots := 0, locals := 85 }) D vwCl (gT ty) (kW ad ty) (cX cd) [.int a1] σ post := by
  refine g_starti (cc := b_Shapes_signLength) (maxL := 2) (by decide) rfl (Nat.le_of_ble_eq_true rfl) ?_
  intro p e s m args below meth c A Q R ls hR hx hb hts hown hml hA hS hP hD hK hCx hl hret
  unfold wp_Shapes_signLength at h
  have hown : s.vm.findClass "TokenDesk$Shapes" = some m.cls := hown
  have hl : lv_has ls 2 [(0, .int a1)] := hl
  have L2 : ∀ n : Nat, ∀ (x0 : Int32) (x1 : Int32) (σ : KS) (H : Heap) (locs : List Loc) (ls : Array Slot), L_Shapes_signLength_2 post n x0 x1 σ → va_P D vwCl (kW ad ty σ) H → va_D A (kW ad ty σ) → va_S A s.heap H locs → lv_has ls 2 [(0, .int x0), (1, .int x1)] → W p l e R s m args below meth c H locs 0 0 Q (F0 m 2 ls []) := by
    intro n2
    induction n2 with
    | zero => intro x0 x1 σ H locs ls h hP hD hS hl; exact h.elim
    | succ n2 ih2 =>
      intro x0 x1 σ H locs ls h hP hD hS hl
      unfold L_Shapes_signLength_2 at h
      refine lv_iload_n hx hb d_Shapes_signLength_2 rfl (lv_at hl 1 rfl) ?_
      refine lv_iconst (v := 3) hx hb d_Shapes_signLength_3 (by decide) ?_
      refine lv_icmp_ge hx hb d_Shapes_signLength_4 (tgt := 41) rfl (fun hc => ?_) (fun hc => ?_)
      · have h := h.1 hc
        refine lv_iload_n hx hb d_Shapes_signLength_41 rfl (lv_at hl 1 rfl) ?_
        exact hret _ _ _ _ _ _ h hP hD hS d_Shapes_signLength_42
      · have h := h.2 hc
        refine lv_iload_n hx hb d_Shapes_signLength_7 rfl (lv_at hl 0 rfl) ?_
        refine lv_if_lt hx hb d_Shapes_signLength_8 (tgt := 41) rfl (fun hc => ?_) (fun hc => ?_)
        · have h := h.1 hc
          refine lv_iload_n hx hb d_Shapes_signLength_41 rfl (lv_at hl 1 rfl) ?_
          exact hret _ _ _ _ _ _ h hP hD hS d_Shapes_signLength_42
        · have h := h.2 hc
          refine lv_iload_n hx hb d_Shapes_signLength_11 rfl (lv_at hl 0 rfl) ?_
          refine lv_iload_n hx hb d_Shapes_signLength_12 rfl (lv_at hl 1 rfl) ?_
          refine lv_iadd hx hb d_Shapes_signLength_13 ?_
          refine cX_ldc (i := 79) hx hb hown hCx (by decide +kernel) d_Shapes_signLength_14 ?_
          refine g_callVi ⟨hx, hb, hml, hown, hts⟩ (c_Str_length h) (g_cwV 0 hts q_l_Shapes_50 q_m_Str_length q_s_Str_length q_i_java_lang_String q_k_Str_length (by decide +kernel) rfl rfl (by rw [hR]; exact ⟨Nat.le_of_ble_eq_true rfl, Nat.le_of_ble_eq_true rfl⟩)) (cX_recv hCx h.1 hS) cX_g hK hP hD hS hA hCx rfl hl.1 rfl (Nat.le_of_ble_eq_true rfl) d_Shapes_signLength_16 ⟨Nat.zero_le _, Nat.zero_le _⟩ (fun r1 σ2 H locs h hP hD hS => ?_)
          refine lv_icmp_ge hx hb d_Shapes_signLength_19 (tgt := 41) rfl (fun hc => ?_) (fun hc => ?_)
          · have h := h.1 hc
            refine lv_iload_n hx hb d_Shapes_signLength_41 rfl (lv_at hl 1 rfl) ?_
            exact hret _ _ _ _ _ _ h hP hD hS d_Shapes_signLength_42
          · have h := h.2 hc
            refine cX_ldc (i := 79) hx hb hown hCx (by decide +kernel) d_Shapes_signLength_22 ?_
            refine lv_iload_n hx hb d_Shapes_signLength_24 rfl (lv_at hl 0 rfl) ?_
            refine lv_iload_n hx hb d_Shapes_signLength_25 rfl (lv_at hl 1 rfl) ?_
            refine lv_iadd hx hb d_Shapes_signLength_26 ?_
            refine g_callVi ⟨hx, hb, hml, hown, hts⟩ (c_Str_charAt h) (g_cwV 1 hts q_l_Shapes_55 q_m_Str_charAt q_s_Str_charAt q_i_java_lang_String q_k_Str_charAt (by decide +kernel) rfl rfl (by rw [hR]; exact ⟨Nat.le_of_ble_eq_true rfl, Nat.le_of_ble_eq_true rfl⟩)) (cX_recv hCx h.1 hS) cX_g hK hP hD hS hA hCx rfl hl.1 rfl (Nat.le_of_ble_eq_true rfl) d_Shapes_signLength_27 ⟨Nat.zero_le _, Nat.zero_le _⟩ (fun r3 σ4 H locs h hP hD hS => ?_)
            refine lv_bipush (v := 32) hx hb d_Shapes_signLength_30 (by decide) ?_
            refine lv_icmp_eq hx hb d_Shapes_signLength_32 (tgt := 41) rfl (fun hc => ?_) (fun hc => ?_)
            · have h := h.1 hc
              refine lv_iload_n hx hb d_Shapes_signLength_41 rfl (lv_at hl 1 rfl) ?_
              exact hret _ _ _ _ _ _ h hP hD hS d_Shapes_signLength_42
            · have h := h.2 hc
              refine lv_iinc (v := (x1 + 1)) hx hb d_Shapes_signLength_35 hl (k := 1) rfl rfl (by decide) rfl (fun ls hl => ?_)
              refine lv_goto hx hb d_Shapes_signLength_38 (tgt := 2) rfl ?_
              exact ih2 x0 (x1 + 1) σ4 _ _ _ h hP hD hS (lv_sub hl [1, 0] rfl)
  refine lv_iconst (v := 0) hx hb d_Shapes_signLength_0 (by decide) ?_
  refine lv_istore_n hx hb d_Shapes_signLength_1 rfl hl (by decide) rfl (fun ls hl => ?_)
  obtain ⟨n, h⟩ := h
  exact L2 n a1 0 σ _ _ _ h hP hD hS (lv_sub hl [1, 0] rfl)
set_option maxHeartbeats 4000000 in
set_option maxRecDepth 100000 in
theorem c_Shapes_isSign {l : Launch} {D : va_G} {ad : Nat → Nat} {ty : Nat → ClassId} {cd : Nat → Nat → Nat} {a1 : Int32} {a2 : Int32} {σ : KS} {post : Int32 → KS → Prop} (h : wp_Shapes_isSign a1 a2 σ post) : g_Meti l y_Shapes_isSign (Cond.code y_Shapes_isSign b_Shapes_isSign 5 (some .boolean) :: gW) ({ frames := 5, cells := 0, slots := 0, locals := 106 }) D vwCl (gT ty) (kW ad ty) (cX cd) [.ref (ad 7), .int a1, .int a2] σ post := by
  refine g_startz (cc := b_Shapes_isSign) (maxL := 5) (by decide) rfl (Nat.le_of_ble_eq_true rfl) ?_
  intro p e s m args below meth c A Q R ls hR hx hb hts hown hml hA hS hP hD hK hCx hl hret
  unfold wp_Shapes_isSign at h
  have hown : s.vm.findClass "TokenDesk$Shapes" = some m.cls := hown
  have hl : lv_has ls 5 [(0, .ref (ad 7)), (1, .int a1), (2, .int a2)] := hl
  have L8 : ∀ n : Nat, ∀ (x1 : Int32) (x2 : Int32) (x3 : Int32) (x4 : Int32) (σ : KS) (H : Heap) (locs : List Loc) (ls : Array Slot), L_Shapes_isSign_8 post n x1 x2 x3 x4 σ → va_P D vwCl (kW ad ty σ) H → va_D A (kW ad ty σ) → va_S A s.heap H locs → lv_has ls 5 [(0, .ref (ad 7)), (1, .int x1), (2, .int x2), (3, .int x3), (4, .int x4)] → W p l e R s m args below meth c H locs 0 0 Q (F0 m 8 ls []) := by
    intro n8
    induction n8 with
    | zero => intro x1 x2 x3 x4 σ H locs ls h hP hD hS hl; exact h.elim
    | succ n8 ih8 =>
      intro x1 x2 x3 x4 σ H locs ls h hP hD hS hl
      unfold L_Shapes_isSign_8 at h
      refine lv_iload hx hb d_Shapes_isSign_8 (lv_at hl 4 rfl) ?_
      refine lv_iload_n hx hb d_Shapes_isSign_10 rfl (lv_at hl 3 rfl) ?_
      refine lv_icmp_ge hx hb d_Shapes_isSign_11 (tgt := 45) rfl (fun hc => ?_) (fun hc => ?_)
      · have h := h.1 hc
        refine lv_iconst (v := 1) hx hb d_Shapes_isSign_45 (by decide) ?_
        exact hret _ _ _ _ _ _ h rfl hP hD hS d_Shapes_isSign_46
      · have h := h.2 hc
        refine cX_ldc (i := 79) hx hb hown hCx (by decide +kernel) d_Shapes_isSign_14 ?_
        refine lv_iload_n hx hb d_Shapes_isSign_16 rfl (lv_at hl 1 rfl) ?_
        refine lv_iload hx hb d_Shapes_isSign_17 (lv_at hl 4 rfl) ?_
        refine lv_iadd hx hb d_Shapes_isSign_19 ?_
        refine g_callVi ⟨hx, hb, hml, hown, hts⟩ (c_Str_charAt h) (g_cwV 1 hts q_l_Shapes_55 q_m_Str_charAt q_s_Str_charAt q_i_java_lang_String q_k_Str_charAt (by decide +kernel) rfl rfl (by rw [hR]; exact ⟨Nat.le_of_ble_eq_true rfl, Nat.le_of_ble_eq_true rfl⟩)) (cX_recv hCx h.1 hS) cX_g hK hP hD hS hA hCx rfl hl.1 rfl (Nat.le_of_ble_eq_true rfl) d_Shapes_isSign_20 ⟨Nat.zero_le _, Nat.zero_le _⟩ (fun r3 σ4 H locs h hP hD hS => ?_)
        refine lv_aload_n hx hb d_Shapes_isSign_23 rfl (lv_at hl 0 rfl) ?_
        refine va_get (D := D) (v := .ref (ad 1)) (C := R_Shapes) (T := T_Shapes) (N := 1) hx hb hts in_Shapes hown hK hP 7 rfl rfl 0 (by decide) (hts _ q_f_Shapes_9) (fun _ h9 => h9) rfl d_Shapes_isSign_24 ?_
        refine lv_iload_n hx hb d_Shapes_isSign_27 rfl (lv_at hl 2 rfl) ?_
        refine lv_iload hx hb d_Shapes_isSign_28 (lv_at hl 4 rfl) ?_
        refine lv_iadd hx hb d_Shapes_isSign_30 ?_
        refine g_callVi ⟨hx, hb, hml, hown, hts⟩ (c_Text_letterAt h) (g_cwV 1 hts q_l_Shapes_29 q_m_Text_letterAt q_s_Text_letterAt q_i_TokenDesk_Text q_k_Text_letterAt (by decide +kernel) rfl rfl (by rw [hR]; exact ⟨Nat.le_of_ble_eq_true rfl, Nat.le_of_ble_eq_true rfl⟩)) (va_recv hK hP (q0 := 1) rfl rfl) cX_g hK hP hD hS hA hCx rfl hl.1 rfl (Nat.le_of_ble_eq_true rfl) d_Shapes_isSign_31 ⟨Nat.zero_le _, Nat.zero_le _⟩ (fun r5 σ6 H locs h hP hD hS => ?_)
        refine lv_icmp_eq hx hb d_Shapes_isSign_34 (tgt := 39) rfl (fun hc => ?_) (fun hc => ?_)
        · have h := h.1 hc
          refine lv_iinc (v := (x4 + 1)) hx hb d_Shapes_isSign_39 hl (k := 4) rfl rfl (by decide) rfl (fun ls hl => ?_)
          refine lv_goto hx hb d_Shapes_isSign_42 (tgt := 8) rfl ?_
          exact ih8 x1 x2 x3 (x4 + 1) σ6 _ _ _ h hP hD hS (lv_sub hl [1, 2, 3, 4, 0] rfl)
        · have h := h.2 hc
          refine lv_iconst (v := 0) hx hb d_Shapes_isSign_37 (by decide) ?_
          exact hret _ _ _ _ _ _ h rfl hP hD hS d_Shapes_isSign_38
  refine lv_iload_n hx hb d_Shapes_isSign_0 rfl (lv_at hl 1 rfl) ?_
  refine g_callSi ⟨hx, hb, hml, hown, hts⟩ (c_Shapes_signLength h) (g_cwS 1 hts q_l_Shapes_86 q_t_Shapes_signLength q_i_TokenDesk_Shapes q_k_Shapes_signLength (by decide +kernel) rfl rfl (by rw [hR]; exact ⟨Nat.le_of_ble_eq_true rfl, Nat.le_of_ble_eq_true rfl⟩)) cX_g hK hP hD hS hA hCx rfl hl.1 rfl (Nat.le_of_ble_eq_true rfl) d_Shapes_isSign_1 ⟨Nat.zero_le _, Nat.zero_le _⟩ (fun r1 σ2 H locs h hP hD hS => ?_)
  refine lv_istore_n hx hb d_Shapes_isSign_4 rfl hl (by decide) rfl (fun ls hl => ?_)
  refine lv_iconst (v := 0) hx hb d_Shapes_isSign_5 (by decide) ?_
  refine lv_istore hx hb d_Shapes_isSign_6 hl (by decide) rfl (fun ls hl => ?_)
  obtain ⟨n, h⟩ := h
  exact L8 n a1 a2 r1 0 σ2 _ _ _ h hP hD hS (lv_sub hl [2, 3, 4, 1, 0] rfl)
set_option maxHeartbeats 4000000 in
set_option maxRecDepth 100000 in
theorem c_Shapes_signKind {l : Launch} {D : va_G} {ad : Nat → Nat} {ty : Nat → ClassId} {cd : Nat → Nat → Nat} {a1 : Int32} {σ : KS} {post : Int32 → KS → Prop} (h : wp_Shapes_signKind a1 σ post) : g_Meti l y_Shapes_signKind (Cond.code y_Shapes_signKind b_Shapes_signKind 3 (some .int) :: gW) ({ frames := 6, cells := 0, slots := 0, locals := 130 }) D vwCl (gT ty) (kW ad ty) (cX cd) [.ref (ad 7), .int a1] σ post := by
  refine g_starti (cc := b_Shapes_signKind) (maxL := 3) (by decide) rfl (Nat.le_of_ble_eq_true rfl) ?_
  intro p e s m args below meth c A Q R ls hR hx hb hts hown hml hA hS hP hD hK hCx hl hret
  unfold wp_Shapes_signKind at h
  have hown : s.vm.findClass "TokenDesk$Shapes" = some m.cls := hown
  have hl : lv_has ls 3 [(0, .ref (ad 7)), (1, .int a1)] := hl
  have L2 : ∀ n : Nat, ∀ (x1 : Int32) (x2 : Int32) (σ : KS) (H : Heap) (locs : List Loc) (ls : Array Slot), L_Shapes_signKind_2 post n x1 x2 σ → va_P D vwCl (kW ad ty σ) H → va_D A (kW ad ty σ) → va_S A s.heap H locs → lv_has ls 3 [(0, .ref (ad 7)), (1, .int x1), (2, .int x2)] → W p l e R s m args below meth c H locs 0 0 Q (F0 m 2 ls []) := by
    intro n2
    induction n2 with
    | zero => intro x1 x2 σ H locs ls h hP hD hS hl; exact h.elim
    | succ n2 ih2 =>
      intro x1 x2 σ H locs ls h hP hD hS hl
      unfold L_Shapes_signKind_2 at h
      refine lv_iload_n hx hb d_Shapes_signKind_2 rfl (lv_at hl 2 rfl) ?_
      refine lv_iconst (v := 3) hx hb d_Shapes_signKind_3 (by decide) ?_
      refine lv_iadd hx hb d_Shapes_signKind_4 ?_
      refine cX_ldc (i := 79) hx hb hown hCx (by decide +kernel) d_Shapes_signKind_5 ?_
      refine g_callVi ⟨hx, hb, hml, hown, hts⟩ (c_Str_length h) (g_cwV 0 hts q_l_Shapes_50 q_m_Str_length q_s_Str_length q_i_java_lang_String q_k_Str_length (by decide +kernel) rfl rfl (by rw [hR]; exact ⟨Nat.le_of_ble_eq_true rfl, Nat.le_of_ble_eq_true rfl⟩)) (cX_recv hCx h.1 hS) cX_g hK hP hD hS hA hCx rfl hl.1 rfl (Nat.le_of_ble_eq_true rfl) d_Shapes_signKind_7 ⟨Nat.zero_le _, Nat.zero_le _⟩ (fun r1 σ2 H locs h hP hD hS => ?_)
      refine lv_icmp_gt hx hb d_Shapes_signKind_10 (tgt := 35) rfl (fun hc => ?_) (fun hc => ?_)
      · have h := h.1 hc
        refine lv_iconst (v := (-1)) hx hb d_Shapes_signKind_35 (by decide) ?_
        exact hret _ _ _ _ _ _ h hP hD hS d_Shapes_signKind_36
      · have h := h.2 hc
        refine lv_aload_n hx hb d_Shapes_signKind_13 rfl (lv_at hl 0 rfl) ?_
        refine lv_iload_n hx hb d_Shapes_signKind_14 rfl (lv_at hl 2 rfl) ?_
        refine lv_iload_n hx hb d_Shapes_signKind_15 rfl (lv_at hl 1 rfl) ?_
        refine g_callVi ⟨hx, hb, hml, hown, hts⟩ (c_Shapes_isSign h) (g_cwV 2 hts q_l_Shapes_83 q_m_Shapes_isSign q_s_Shapes_isSign q_i_TokenDesk_Shapes q_k_Shapes_isSign (by decide +kernel) rfl rfl (by rw [hR]; exact ⟨Nat.le_of_ble_eq_true rfl, Nat.le_of_ble_eq_true rfl⟩)) (va_recv hK hP (q0 := 7) rfl rfl) cX_g hK hP hD hS hA hCx rfl hl.1 rfl (Nat.le_of_ble_eq_true rfl) d_Shapes_signKind_16 ⟨Nat.zero_le _, Nat.zero_le _⟩ (fun r3 σ4 H locs h hP hD hS => ?_)
        refine lv_if_eq hx hb d_Shapes_signKind_19 (tgt := 29) rfl (fun hc => ?_) (fun hc => ?_)
        · have h := h.1 hc
          refine lv_iinc (v := (x2 + 3)) hx hb d_Shapes_signKind_29 hl (k := 2) rfl rfl (by decide) rfl (fun ls hl => ?_)
          refine lv_goto hx hb d_Shapes_signKind_32 (tgt := 2) rfl ?_
          exact ih2 x1 (x2 + 3) σ4 _ _ _ h hP hD hS (lv_sub hl [1, 2, 0] rfl)
        · have h := h.2 hc
          refine lv_bipush (v := 43) hx hb d_Shapes_signKind_22 (by decide) ?_
          refine lv_iload_n hx hb d_Shapes_signKind_24 rfl (lv_at hl 2 rfl) ?_
          refine lv_iconst (v := 3) hx hb d_Shapes_signKind_25 (by decide) ?_
          refine lv_idiv hx hb d_Shapes_signKind_26 (by decide) ?_
          refine lv_iadd hx hb d_Shapes_signKind_27 ?_
          exact hret _ _ _ _ _ _ h hP hD hS d_Shapes_signKind_28
  refine lv_iconst (v := 0) hx hb d_Shapes_signKind_0 (by decide) ?_
  refine lv_istore_n hx hb d_Shapes_signKind_1 rfl hl (by decide) rfl (fun ls hl => ?_)
  obtain ⟨n, h⟩ := h
  exact L2 n a1 0 σ _ _ _ h hP hD hS (lv_sub hl [1, 2, 0] rfl)
set_option maxHeartbeats 4000000 in
set_option maxRecDepth 100000 in
theorem c_Shapes_signEnd {l : Launch} {D : va_G} {ad : Nat → Nat} {ty : Nat → ClassId} {cd : Nat → Nat → Nat} {a1 : Int32} {a2 : Int32} {σ : KS} {post : Int32 → KS → Prop} (h : wp_Shapes_signEnd a1 a2 σ post) : g_Meti l y_Shapes_signEnd (Cond.code y_Shapes_signEnd b_Shapes_signEnd 3 (some .int) :: gW) ({ frames := 5, cells := 0, slots := 0, locals := 106 }) D vwCl (gT ty) (kW ad ty) (cX cd) [.ref (ad 7), .int a1, .int a2] σ post := by
  refine g_starti (cc := b_Shapes_signEnd) (maxL := 3) (by decide) rfl (Nat.le_of_ble_eq_true rfl) ?_
  intro p e s m args below meth c A Q R ls hR hx hb hts hown hml hA hS hP hD hK hCx hl hret
  unfold wp_Shapes_signEnd at h
  have hown : s.vm.findClass "TokenDesk$Shapes" = some m.cls := hown
  have hl : lv_has ls 3 [(0, .ref (ad 7)), (1, .int a1), (2, .int a2)] := hl
  refine lv_iload_n hx hb d_Shapes_signEnd_0 rfl (lv_at hl 2 rfl) ?_
  refine lv_iconst (v := (-1)) hx hb d_Shapes_signEnd_1 (by decide) ?_
  refine lv_icmp_ne hx hb d_Shapes_signEnd_2 (tgt := 9) rfl (fun hc => ?_) (fun hc => ?_)
  · have h := h.1 hc
    refine lv_iload_n hx hb d_Shapes_signEnd_9 rfl (lv_at hl 1 rfl) ?_
    refine lv_iload_n hx hb d_Shapes_signEnd_10 rfl (lv_at hl 2 rfl) ?_
    refine lv_bipush (v := 43) hx hb d_Shapes_signEnd_11 (by decide) ?_
    refine lv_isub hx hb d_Shapes_signEnd_13 ?_
    refine lv_iconst (v := 3) hx hb d_Shapes_signEnd_14 (by decide) ?_
    refine lv_imul hx hb d_Shapes_signEnd_15 ?_
    refine g_callSi ⟨hx, hb, hml, hown, hts⟩ (c_Shapes_signLength h) (g_cwS 1 hts q_l_Shapes_86 q_t_Shapes_signLength q_i_TokenDesk_Shapes q_k_Shapes_signLength (by decide +kernel) rfl rfl (by rw [hR]; exact ⟨Nat.le_of_ble_eq_true rfl, Nat.le_of_ble_eq_true rfl⟩)) cX_g hK hP hD hS hA hCx rfl hl.1 rfl (Nat.le_of_ble_eq_true rfl) d_Shapes_signEnd_16 ⟨Nat.zero_le _, Nat.zero_le _⟩ (fun r1 σ2 H locs h hP hD hS => ?_)
    refine lv_iadd hx hb d_Shapes_signEnd_19 ?_
    exact hret _ _ _ _ _ _ h hP hD hS d_Shapes_signEnd_20
  · have h := h.2 hc
    refine lv_iconst (v := (-1)) hx hb d_Shapes_signEnd_5 (by decide) ?_
    refine lv_goto hx hb d_Shapes_signEnd_6 (tgt := 20) rfl ?_
    exact hret _ _ _ _ _ _ h hP hD hS d_Shapes_signEnd_20
