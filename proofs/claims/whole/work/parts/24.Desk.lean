set_option maxHeartbeats 4000000 in
set_option maxRecDepth 100000 in
theorem c_Desk_wrong {l : Launch} {D : va_G} {ad : Nat → Nat} {ty : Nat → ClassId} {cd : Nat → Nat → Nat} {σ : KS} {post : Int32 → KS → Prop} (h : wp_Desk_wrong σ post) : g_Meti l y_Desk_wrong (Cond.code y_Desk_wrong b_Desk_wrong 1 (some .int) :: gW) ({ frames := 0, cells := 0, slots := 0, locals := 0 }) D vwCl (gT ty) (kW ad ty) (cX cd) [.ref (ad 0)] σ post := by
  refine g_starti (cc := b_Desk_wrong) (maxL := 1) (by decide) rfl (Nat.le_of_ble_eq_true rfl) ?_
  intro p e s m args below meth c A Q R ls hR hx hb hts hown hml hA hS hP hD hK hCx hl hret
  unfold wp_Desk_wrong at h
  have hown : s.vm.findClass "TokenDesk" = some m.cls := hown
  have hl : lv_has ls 1 [(0, .ref (ad 0))] := hl
  refine lv_aload_n hx hb d_Desk_wrong_0 rfl (lv_at hl 0 rfl) ?_
  refine va_get (D := D) (v := .int (k_wr σ)) (C := R_Desk) (T := T_Desk) (N := 4) hx hb hts in_Desk hown hK hP 0 rfl rfl 3 (by decide) (hts _ q_f_Desk_32) (fun _ h9 => h9) rfl d_Desk_wrong_1 ?_
  exact hret _ _ _ _ _ _ h hP hD hS d_Desk_wrong_4
set_option maxHeartbeats 4000000 in
set_option maxRecDepth 100000 in
theorem c_Desk_many {l : Launch} {D : va_G} {ad : Nat → Nat} {ty : Nat → ClassId} {cd : Nat → Nat → Nat} {σ : KS} {post : Int32 → KS → Prop} (h : wp_Desk_many σ post) : g_Meti l y_Desk_many (Cond.code y_Desk_many b_Desk_many 1 (some .int) :: gW) ({ frames := 1, cells := 0, slots := 0, locals := 20 }) D vwCl (gT ty) (kW ad ty) (cX cd) [.ref (ad 0)] σ post := by
  refine g_starti (cc := b_Desk_many) (maxL := 1) (by decide) rfl (Nat.le_of_ble_eq_true rfl) ?_
  intro p e s m args below meth c A Q R ls hR hx hb hts hown hml hA hS hP hD hK hCx hl hret
  unfold wp_Desk_many at h
  have hown : s.vm.findClass "TokenDesk" = some m.cls := hown
  have hl : lv_has ls 1 [(0, .ref (ad 0))] := hl
  refine lv_aload_n hx hb d_Desk_many_0 rfl (lv_at hl 0 rfl) ?_
  refine va_get (D := D) (v := .ref (ad 3)) (C := R_Desk) (T := T_Desk) (N := 4) hx hb hts in_Desk hown hK hP 0 rfl rfl 1 (by decide) (hts _ q_f_Desk_19) (fun _ h9 => h9) rfl d_Desk_many_1 ?_
  refine g_callVi ⟨hx, hb, hml, hown, hts⟩ (c_Tokens_size h) (g_cwV 0 hts q_l_Desk_72 q_m_Tokens_size q_s_Tokens_size q_i_TokenDesk_Tokens q_k_Tokens_size (by decide +kernel) rfl rfl (by rw [hR]; exact ⟨Nat.le_of_ble_eq_true rfl, Nat.le_of_ble_eq_true rfl⟩)) (va_recv hK hP (q0 := 3) rfl rfl) cX_g hK hP hD hS hA hCx rfl hl.1 rfl (Nat.le_of_ble_eq_true rfl) d_Desk_many_4 ⟨Nat.zero_le _, Nat.zero_le _⟩ (fun r1 σ2 H locs h hP hD hS => ?_)
  exact hret _ _ _ _ _ _ h hP hD hS d_Desk_many_7
