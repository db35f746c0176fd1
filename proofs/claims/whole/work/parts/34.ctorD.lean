/-! the desk's constructor -/
def k_0 : KS := (fun _ => 0, 0, 0, fun _ => 0, 0, fun _ => 0, 0, 0, 0, 0, 0, 0, -1)
def i_Desk (h0 : Nat) (ty : Nat → ClassId) : Option (Nat → Nat) → va_W
  | none => [(h0, .inr (0, [.null, .null, .null, .int 0]))]
  | some ad => kW ad ty k_0
section CTOD
variable {l : Launch} {D : va_G} {ty : Nat → ClassId} {cd : Nat → Nat → Nat} {h0 : Nat}
set_option maxHeartbeats 4000000 in
set_option maxRecDepth 100000 in
theorem c_Desk_init : g_Metn l y_Desk_init (Cond.code y_Desk_init b_Desk_init 1 none :: gW) ({ frames := 3, cells := 7, slots := 6604, locals := 55 }) D vwCl (gT ty) (i_Desk h0 ty) (cN cd) [.ref h0] none (fun u => ∃ ad, u = some ad ∧ ad 0 = h0) 7 6604 := by
  refine g_startC (cc := b_Desk_init) (maxL := 1) (by decide) rfl rfl (Nat.le_of_ble_eq_true rfl) ?_
  intro p e s m args below meth c A Q R ls hR hx hb hts hown hml hin hA hS hP hD hK hCx hl hret
  have hown : s.vm.findClass "TokenDesk" = some m.cls := hown
  have hl : lv_has ls 1 [(0, .ref h0)] := hl
  refine lv_aload_n hx hb d_Desk_init_0 rfl (lv_at hl 0 rfl) ?_
  refine W.objInit hx hb hown (hts _ q_o_Desk) (hts _ q_oi) (hts _ q_oc) rfl (by rw [hml]; exact hl.1) rfl d_Desk_init_1 (by rw [hR]; exact Nat.le_of_ble_eq_true rfl) (by rw [hR]; exact Nat.le_of_ble_eq_true rfl) ?_
  refine W.eq (g2 := F0 m 4 ls []) rfl ?_
  refine lv_aload_n hx hb d_Desk_init_4 rfl (lv_at hl 0 rfl) ?_
  refine va_new (ci := 1) (fs := [.null, .int 0, .int 0]) (C := R_Text) (T := T_Text) (N := 3) hx hb hts in_Text t_Text tk_Text hown (hts _ q_x_Desk_7) (hts _ q_n_Text) (hts _ q_i_TokenDesk_Text) hK hP hD hS hA rfl (fun j hj => by rcases (show j = 0 ∨ j = 1 ∨ j = 2 by omega) with rfl | rfl | rfl <;> rfl) (by rw [hR]; exact Nat.le_of_ble_eq_true rfl) (by rw [hR]; exact Nat.le_of_ble_eq_true rfl) d_Desk_init_5 (fun q1 H hP hD hS => ?_)
  refine lv_dup hx hb d_Desk_init_8 rfl ?_
  refine g_fcallIN (Wd := i_Text q1 ty) (σ := none) (Wr := [(h0, .inr (0, [.null, .null, .null, .int 0]))]) ⟨hx, hb, hml, hown, hts⟩ (c_Text_init (cd := cd)) ⟨va_cnB 0 hts (g_good q_k_Text_init) rfl rfl rfl hCx.2.1 (hts _ q_i_TokenDesk_Text) (by decide +kernel) (by rw [hR]; exact ⟨Nat.le_of_ble_eq_true rfl, Nat.le_of_ble_eq_true rfl⟩), rfl, hts _ q_m_Text_init⟩ cN_g hK hP hD hS hA hCx rfl hl.1 rfl (Nat.le_of_ble_eq_true rfl) d_Desk_init_9 (by rw [hR]; exact ⟨Nat.le_of_ble_eq_true rfl, Nat.le_of_ble_eq_true rfl⟩) (fun u H locs hu hP hD hS => ?_)
  obtain ⟨q2, rfl⟩ := hu
  refine va_putF (D := D) (ci := 0) (v := .ref q1) (ty := .object "TokenDesk$Text") (C := R_Desk) (T := T_Desk) (N := 4) hx hb hts in_Desk t_Desk tk_Desk n_Desk hown hK hP hD hS 0 rfl rfl 0 (by decide) (hts _ q_f_Desk_10) (fun _ h9 => h9) rfl hin rfl (by decide +kernel) rfl rfl (Nat.le_of_ble_eq_true rfl) d_Desk_init_12 (fun H locs hP hD hS => ?_)
  have hP : va_P D vwCl [(h0, .inr (0, [.ref q1, .null, .null, .int 0])), (q1, .inr (1, [.ref q2, .int 0, .int 0])), (q2, .inl (ty 0, 1025, .inl (fun _ => 0)))] H := hP
  have hD : va_D A [(h0, .inr (0, [.ref q1, .null, .null, .int 0])), (q1, .inr (1, [.ref q2, .int 0, .int 0])), (q2, .inl (ty 0, 1025, .inl (fun _ => 0)))] := hD
  refine lv_aload_n hx hb d_Desk_init_15 rfl (lv_at hl 0 rfl) ?_
  refine va_new (ci := 2) (fs := [.null, .int 0]) (C := R_Tokens) (T := T_Tokens) (N := 2) hx hb hts in_Tokens t_Tokens tk_Tokens hown (hts _ q_x_Desk_16) (hts _ q_n_Tokens) (hts _ q_i_TokenDesk_Tokens) hK hP hD hS hA rfl (fun j hj => by rcases (show j = 0 ∨ j = 1 by omega) with rfl | rfl <;> rfl) (by rw [hR]; exact Nat.le_of_ble_eq_true rfl) (by rw [hR]; exact Nat.le_of_ble_eq_true rfl) d_Desk_init_16 (fun q3 H hP hD hS => ?_)
  refine lv_dup hx hb d_Desk_init_19 rfl ?_
  refine g_fcallIN (Wd := i_Tokens q3 ty) (σ := none) (Wr := [(h0, .inr (0, [.ref q1, .null, .null, .int 0])), (q1, .inr (1, [.ref q2, .int 0, .int 0])), (q2, .inl (ty 0, 1025, .inl (fun _ => 0)))]) ⟨hx, hb, hml, hown, hts⟩ (c_Tokens_init (cd := cd)) ⟨va_cnB 0 hts (g_good q_k_Tokens_init) rfl rfl rfl hCx.2.2.1 (hts _ q_i_TokenDesk_Tokens) (by decide +kernel) (by rw [hR]; exact ⟨Nat.le_of_ble_eq_true rfl, Nat.le_of_ble_eq_true rfl⟩), rfl, hts _ q_m_Tokens_init⟩ cN_g hK hP hD hS hA hCx rfl hl.1 rfl (Nat.le_of_ble_eq_true rfl) d_Desk_init_20 (by rw [hR]; exact ⟨Nat.le_of_ble_eq_true rfl, Nat.le_of_ble_eq_true rfl⟩) (fun u H locs hu hP hD hS => ?_)
  obtain ⟨q4, rfl⟩ := hu
  refine va_putF (D := D) (ci := 0) (v := .ref q3) (ty := .object "TokenDesk$Tokens") (C := R_Desk) (T := T_Desk) (N := 4) hx hb hts in_Desk t_Desk tk_Desk n_Desk hown hK hP hD hS 0 rfl rfl 1 (by decide) (hts _ q_f_Desk_19) (fun _ h9 => h9) rfl hin rfl (by decide +kernel) rfl rfl (Nat.le_of_ble_eq_true rfl) d_Desk_init_23 (fun H locs hP hD hS => ?_)
  have hP : va_P D vwCl [(h0, .inr (0, [.ref q1, .ref q3, .null, .int 0])), (q1, .inr (1, [.ref q2, .int 0, .int 0])), (q2, .inl (ty 0, 1025, .inl (fun _ => 0))), (q3, .inr (2, [.ref q4, .int 0])), (q4, .inl (ty 1, 5463, .inr (.inl (fun _ => 0))))] H := hP
  have hD : va_D A [(h0, .inr (0, [.ref q1, .ref q3, .null, .int 0])), (q1, .inr (1, [.ref q2, .int 0, .int 0])), (q2, .inl (ty 0, 1025, .inl (fun _ => 0))), (q3, .inr (2, [.ref q4, .int 0])), (q4, .inl (ty 1, 5463, .inr (.inl (fun _ => 0))))] := hD
  refine lv_aload_n hx hb d_Desk_init_26 rfl (lv_at hl 0 rfl) ?_
  refine va_new (ci := 3) (fs := [.null, .null, .null, .null, .int 0, .int 0, .int 0, .int 0, .int 0, .int 0]) (C := R_Reader) (T := T_Reader) (N := 10) hx hb hts in_Reader t_Reader tk_Reader hown (hts _ q_x_Desk_23) (hts _ q_n_Reader) (hts _ q_i_TokenDesk_Reader) hK hP hD hS hA rfl (fun j hj => by rcases (show j = 0 ∨ j = 1 ∨ j = 2 ∨ j = 3 ∨ j = 4 ∨ j = 5 ∨ j = 6 ∨ j = 7 ∨ j = 8 ∨ j = 9 by omega) with rfl | rfl | rfl | rfl | rfl | rfl | rfl | rfl | rfl | rfl <;> rfl) (by rw [hR]; exact Nat.le_of_ble_eq_true rfl) (by rw [hR]; exact Nat.le_of_ble_eq_true rfl) d_Desk_init_27 (fun q5 H hP hD hS => ?_)
  refine lv_dup hx hb d_Desk_init_30 rfl ?_
  refine lv_aload_n hx hb d_Desk_init_31 rfl (lv_at hl 0 rfl) ?_
  refine va_get (D := D) (v := .ref q1) (C := R_Desk) (T := T_Desk) (N := 4) hx hb hts in_Desk hown hK hP 0 rfl rfl 0 (by decide) (hts _ q_f_Desk_10) (fun _ h9 => h9) rfl d_Desk_init_32 ?_
  refine lv_aload_n hx hb d_Desk_init_35 rfl (lv_at hl 0 rfl) ?_
  refine va_get (D := D) (v := .ref q3) (C := R_Desk) (T := T_Desk) (N := 4) hx hb hts in_Desk hown hK hP 0 rfl rfl 1 (by decide) (hts _ q_f_Desk_19) (fun _ h9 => h9) rfl d_Desk_init_36 ?_
  refine g_fcallI (Wd := i_Reader q5 ty q1 q3) (σ := none) (Wr := [(h0, .inr (0, [.ref q1, .ref q3, .null, .int 0])), (q1, .inr (1, [.ref q2, .int 0, .int 0])), (q2, .inl (ty 0, 1025, .inl (fun _ => 0))), (q3, .inr (2, [.ref q4, .int 0])), (q4, .inl (ty 1, 5463, .inr (.inl (fun _ => 0))))]) ⟨hx, hb, hml, hown, hts⟩ (c_Reader_init (cd := cd)) ⟨callB_of 2 hts (g_good q_k_Reader_init) rfl rfl rfl (hts _ q_i_TokenDesk_Reader) (hts _ q_l_Desk_25) (by decide +kernel) (by rw [hR]; exact ⟨Nat.le_of_ble_eq_true rfl, Nat.le_of_ble_eq_true rfl⟩), rfl, hts _ q_m_Reader_init⟩ cN_g hK hP hD hS hA hCx rfl hl.1 rfl (Nat.le_of_ble_eq_true rfl) d_Desk_init_39 (by rw [hR]; exact ⟨Nat.le_of_ble_eq_true rfl, Nat.le_of_ble_eq_true rfl⟩) (fun u H locs hu hP hD hS => ?_)
  obtain ⟨⟨q6, q7⟩, rfl⟩ := hu
  refine va_putF (D := D) (ci := 0) (v := .ref q5) (ty := .object "TokenDesk$Reader") (C := R_Desk) (T := T_Desk) (N := 4) hx hb hts in_Desk t_Desk tk_Desk n_Desk hown hK hP hD hS 0 rfl rfl 2 (by decide) (hts _ q_f_Desk_28) (fun _ h9 => h9) rfl hin rfl (by decide +kernel) rfl rfl (Nat.le_of_ble_eq_true rfl) d_Desk_init_42 (fun H locs hP hD hS => ?_)
  have hP : va_P D vwCl [(h0, .inr (0, [.ref q1, .ref q3, .ref q5, .int 0])), (q1, .inr (1, [.ref q2, .int 0, .int 0])), (q2, .inl (ty 0, 1025, .inl (fun _ => 0))), (q3, .inr (2, [.ref q4, .int 0])), (q4, .inl (ty 1, 5463, .inr (.inl (fun _ => 0)))), (q5, .inr (3, [.ref q1, .ref q3, .ref q7, .ref q6, .int 0, .int 0, .int 0, .int 0, .int 0, .int 0])), (q6, .inl (ty 0, 100, .inl (fun _ => 0))), (q7, .inr (4, [.ref q1]))] H := hP
  have hD : va_D A [(h0, .inr (0, [.ref q1, .ref q3, .ref q5, .int 0])), (q1, .inr (1, [.ref q2, .int 0, .int 0])), (q2, .inl (ty 0, 1025, .inl (fun _ => 0))), (q3, .inr (2, [.ref q4, .int 0])), (q4, .inl (ty 1, 5463, .inr (.inl (fun _ => 0)))), (q5, .inr (3, [.ref q1, .ref q3, .ref q7, .ref q6, .int 0, .int 0, .int 0, .int 0, .int 0, .int 0])), (q6, .inl (ty 0, 100, .inl (fun _ => 0))), (q7, .inr (4, [.ref q1]))] := hD
  refine lv_aload_n hx hb d_Desk_init_45 rfl (lv_at hl 0 rfl) ?_
  refine lv_iconst (v := -1) hx hb d_Desk_init_46 (by decide) ?_
  refine va_put (D := D) (ci := 0) (v := .int (-1)) (ty := .int) (C := R_Desk) (T := T_Desk) (N := 4) hx hb hts in_Desk t_Desk tk_Desk n_Desk hown hK hP hD hS 0 rfl rfl 3 (by decide) (hts _ q_f_Desk_32) (fun _ h9 => h9) rfl (by decide +kernel) rfl rfl (Nat.le_of_ble_eq_true rfl) d_Desk_init_47 (fun H locs hP hD hS => ?_)
  exact hret (some (fun k => match k with | 0 => h0 | 1 => q1 | 2 => q2 | 3 => q3 | 4 => q4 | 5 => q5 | 6 => q6 | _ => q7)) _ _ _ _ ⟨_, rfl, rfl⟩ hP hD hS d_Desk_init_50
end CTOD
