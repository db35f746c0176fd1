theorem d_Law_feed_0 : decode b_Law_feed 0 = .ok (.aload 6, 2) := by decide +kernel
theorem d_Law_feed_2 : decode b_Law_feed 2 = .ok (.iconst 0, 1) := by decide +kernel
theorem d_Law_feed_3 : decode b_Law_feed 3 = .ok (.aload_n 0, 1) := by decide +kernel
theorem d_Law_feed_4 : decode b_Law_feed 4 = .ok (.iload_n 1, 1) := by decide +kernel
theorem d_Law_feed_5 : decode b_Law_feed 5 = .ok (.iload_n 2, 1) := by decide +kernel
theorem d_Law_feed_6 : decode b_Law_feed 6 = .ok (.iload_n 3, 1) := by decide +kernel
theorem d_Law_feed_7 : decode b_Law_feed 7 = .ok (.iload 4, 2) := by decide +kernel
theorem d_Law_feed_9 : decode b_Law_feed 9 = .ok (.iload 5, 2) := by decide +kernel
theorem d_Law_feed_11 : decode b_Law_feed 11 = .ok (.invokevirtual 7, 3) := by decide +kernel
theorem d_Law_feed_14 : decode b_Law_feed 14 = .ok (.i2l, 1) := by decide +kernel
theorem d_Law_feed_15 : decode b_Law_feed 15 = .ok (.lastore, 1) := by decide +kernel
theorem d_Law_feed_16 : decode b_Law_feed 16 = .ok (.goto 7, 3) := by decide +kernel
theorem d_Law_feed_19 : decode b_Law_feed 19 = .ok (.astore 7, 2) := by decide +kernel
theorem d_Law_feed_21 : decode b_Law_feed 21 = .ok (.iconst 1, 1) := by decide +kernel
theorem d_Law_feed_22 : decode b_Law_feed 22 = .ok (.ireturn, 1) := by decide +kernel
theorem d_Law_feed_23 : decode b_Law_feed 23 = .ok (.iconst 0, 1) := by decide +kernel
theorem d_Law_feed_24 : decode b_Law_feed 24 = .ok (.ireturn, 1) := by decide +kernel
theorem d_Law_scan_0 : decode b_Law_scan 0 = .ok (.aload_n 2, 1) := by decide +kernel
theorem d_Law_scan_1 : decode b_Law_scan 1 = .ok (.iconst 0, 1) := by decide +kernel
theorem d_Law_scan_2 : decode b_Law_scan 2 = .ok (.aload_n 0, 1) := by decide +kernel
theorem d_Law_scan_3 : decode b_Law_scan 3 = .ok (.iload_n 1, 1) := by decide +kernel
theorem d_Law_scan_4 : decode b_Law_scan 4 = .ok (.invokevirtual 15, 3) := by decide +kernel
theorem d_Law_scan_7 : decode b_Law_scan 7 = .ok (.i2l, 1) := by decide +kernel
theorem d_Law_scan_8 : decode b_Law_scan 8 = .ok (.lastore, 1) := by decide +kernel
theorem d_Law_scan_9 : decode b_Law_scan 9 = .ok (.goto 9, 3) := by decide +kernel
theorem d_Law_scan_12 : decode b_Law_scan 12 = .ok (.astore_n 3, 1) := by decide +kernel
theorem d_Law_scan_13 : decode b_Law_scan 13 = .ok (.iconst 1, 1) := by decide +kernel
theorem d_Law_scan_14 : decode b_Law_scan 14 = .ok (.ireturn, 1) := by decide +kernel
theorem d_Law_scan_15 : decode b_Law_scan 15 = .ok (.astore_n 3, 1) := by decide +kernel
theorem d_Law_scan_16 : decode b_Law_scan 16 = .ok (.iconst 2, 1) := by decide +kernel
theorem d_Law_scan_17 : decode b_Law_scan 17 = .ok (.ireturn, 1) := by decide +kernel
theorem d_Law_scan_18 : decode b_Law_scan 18 = .ok (.iconst 0, 1) := by decide +kernel
theorem d_Law_scan_19 : decode b_Law_scan 19 = .ok (.ireturn, 1) := by decide +kernel
theorem d_Law_token_0 : decode b_Law_token 0 = .ok (.aload_n 3, 1) := by decide +kernel
theorem d_Law_token_1 : decode b_Law_token 1 = .ok (.iconst 0, 1) := by decide +kernel
theorem d_Law_token_2 : decode b_Law_token 2 = .ok (.aload_n 0, 1) := by decide +kernel
theorem d_Law_token_3 : decode b_Law_token 3 = .ok (.iload_n 1, 1) := by decide +kernel
theorem d_Law_token_4 : decode b_Law_token 4 = .ok (.iload_n 2, 1) := by decide +kernel
theorem d_Law_token_5 : decode b_Law_token 5 = .ok (.invokevirtual 21, 3) := by decide +kernel
theorem d_Law_token_8 : decode b_Law_token 8 = .ok (.i2l, 1) := by decide +kernel
theorem d_Law_token_9 : decode b_Law_token 9 = .ok (.lastore, 1) := by decide +kernel
theorem d_Law_token_10 : decode b_Law_token 10 = .ok (.goto 11, 3) := by decide +kernel
theorem d_Law_token_13 : decode b_Law_token 13 = .ok (.astore 4, 2) := by decide +kernel
theorem d_Law_token_15 : decode b_Law_token 15 = .ok (.iconst 1, 1) := by decide +kernel
theorem d_Law_token_16 : decode b_Law_token 16 = .ok (.ireturn, 1) := by decide +kernel
theorem d_Law_token_17 : decode b_Law_token 17 = .ok (.astore 4, 2) := by decide +kernel
theorem d_Law_token_19 : decode b_Law_token 19 = .ok (.iconst 2, 1) := by decide +kernel
theorem d_Law_token_20 : decode b_Law_token 20 = .ok (.ireturn, 1) := by decide +kernel
theorem d_Law_token_21 : decode b_Law_token 21 = .ok (.iconst 0, 1) := by decide +kernel
theorem d_Law_token_22 : decode b_Law_token 22 = .ok (.ireturn, 1) := by decide +kernel
def wp_Law_feed (a1 : Int32) (a2 : Int32) (a3 : Int32) (a4 : Int32) (a5 : Int32) (u : KS × (Nat → Int64)) (post : Int32 → KS × (Nat → Int64) → Prop) : Prop :=
  wp_Desk_feed a1 a2 a3 a4 a5 u.1 (fun r σ1 => post 0 (σ1, vp_updL u.2 0 r.toInt64)) (fun E σ1 => (E = "java/lang/IndexOutOfBoundsException" ∧ post 1 (σ1, u.2)))
set_option maxHeartbeats 4000000 in
set_option maxRecDepth 100000 in
theorem c_Law_feed {l : Launch} {D : va_G} {ad : Nat → Nat} {ty : Nat → ClassId} {cd : Nat → Nat → Nat} {a1 : Int32} {a2 : Int32} {a3 : Int32} {a4 : Int32} {a5 : Int32} {u : KS × (Nat → Int64)} {post : Int32 → KS × (Nat → Int64) → Prop} (htr : l.stackTraces = false) (h : wp_Law_feed a1 a2 a3 a4 a5 u post) : g_Metc l y_Law_feed (Cond.codeWith y_Law_feed b_Law_feed 8 (some .int) [(0, 16, 19, 13)] :: gW) ({ frames := 7, cells := 1, slots := 6, locals := 115 }) D vwCl (gT ty) (lW ad ty) (cX cd) [.ref (ad 0), .int a1, .int a2, .int a3, .int a4, .int a5, .ref (ad 8)] u post := by
  obtain ⟨σ, o⟩ := u
  refine g_startc (cc := b_Law_feed) (maxL := 8) (hh := [(0, 16, 19, 13)]) (by decide) rfl (Nat.le_of_ble_eq_true rfl) ?_
  intro p e s m args below meth c A Q R ls hR hx hb hts hown hml htab hA hS hP hD hK hCx hl hret
  unfold wp_Law_feed at h
  have hown : s.vm.findClass "TokenDeskLaw" = some m.cls := hown
  have hl : lv_has ls 8 [(0, .ref (ad 0)), (1, .int a1), (2, .int a2), (3, .int a3), (4, .int a4), (5, .int a5), (6, .ref (ad 8))] := hl
  refine lv_aload hx hb d_Law_feed_0 (lv_at hl 6 rfl) ?_
  refine lv_iconst (v := 0) hx hb d_Law_feed_2 (by decide) ?_
  refine lv_aload_n hx hb d_Law_feed_3 rfl (lv_at hl 0 rfl) ?_
  refine lv_iload_n hx hb d_Law_feed_4 rfl (lv_at hl 1 rfl) ?_
  refine lv_iload_n hx hb d_Law_feed_5 rfl (lv_at hl 2 rfl) ?_
  refine lv_iload_n hx hb d_Law_feed_6 rfl (lv_at hl 3 rfl) ?_
  refine lv_iload hx hb d_Law_feed_7 (lv_at hl 4 rfl) ?_
  refine lv_iload hx hb d_Law_feed_9 (lv_at hl 5 rfl) ?_
  refine g_callT (Wd := kW ad ty) (σ := σ) (Wr := [(ad 8, .inl (ty 1, 1, .inr (.inl o)))]) ⟨hx, hb, hml, hown, hts⟩ (c_Desk_feed htr h) (g_cwT 5 hts q_l_Law_7 q_m_Desk_feed q_s_Desk_feed q_i_TokenDesk q_k_Desk_feed (by decide +kernel) rfl rfl (by rw [hR]; exact ⟨Nat.le_of_ble_eq_true rfl, Nat.le_of_ble_eq_true rfl⟩)) (va_recv hK hP (q0 := 1) rfl rfl) cX_g hK hP hD hS hA hCx rfl hl.1 rfl (Nat.le_of_ble_eq_true rfl) d_Law_feed_11 (by rw [hR]; exact ⟨Nat.le_of_ble_eq_true rfl, Nat.le_of_ble_eq_true rfl⟩) (fun E ce q9 σ1 H1 locs1 hp hP hD hS hc1 hc2 hc3 => ?_) (fun r σ1 H1 locs1 h hP hD hS => ?_)
  · rcases hp with ⟨rfl, hp⟩
    · refine vx_catch (own := "TokenDeskLaw") (name := "java/lang/IndexOutOfBoundsException") (E := "java/lang/IndexOutOfBoundsException") (ce := ce) hown [] ⟨0, 16, 19, 13⟩ [] (by rw [htab]; rfl) (fun z hz => nomatch hz) (by decide) (by decide) (hts _ q_x_Law_13) (cX_word hCx cs_I) hc1 hc2 hc3 ?_
      refine lv_astore hx hb d_Law_feed_19 hl (by decide) rfl (fun ls hl => ?_)
      refine lv_iconst (v := 1) hx hb d_Law_feed_21 (by decide) ?_
      exact hret _ (σ1, o) _ _ _ _ hp hP hD hS d_Law_feed_22
  · refine lv_i2l hx hb d_Law_feed_14 rfl ?_
    refine va_last (D := D) hx hb hK hP hD hS 0 1 rfl rfl (show vp_in 0 1 from by unfold vp_in; decide) d_Law_feed_15 (fun H locs hP hD hS => ?_)
    refine lv_goto hx hb d_Law_feed_16 (tgt := 23) rfl ?_
    refine lv_iconst (v := 0) hx hb d_Law_feed_23 (by decide) ?_
    exact hret _ (σ1, vp_updL o 0 r.toInt64) _ _ _ _ h hP hD hS d_Law_feed_24
def wp_Law_scan (a1 : Int32) (u : KS × (Nat → Int64)) (post : Int32 → KS × (Nat → Int64) → Prop) : Prop :=
  wp_Desk_scan a1 u.1 (fun r σ1 => post 0 (σ1, vp_updL u.2 0 r.toInt64)) (fun E σ1 => (E = "java/lang/IndexOutOfBoundsException" ∧ post 1 (σ1, u.2)) ∨ (E = "java/lang/IllegalArgumentException" ∧ post 2 (σ1, u.2)))
set_option maxHeartbeats 4000000 in
set_option maxRecDepth 100000 in
theorem c_Law_scan {l : Launch} {D : va_G} {ad : Nat → Nat} {ty : Nat → ClassId} {cd : Nat → Nat → Nat} {a1 : Int32} {u : KS × (Nat → Int64)} {post : Int32 → KS × (Nat → Int64) → Prop} (htr : l.stackTraces = false) (h : wp_Law_scan a1 u post) : g_Metc l y_Law_scan (Cond.codeWith y_Law_scan b_Law_scan 4 (some .int) [(0, 9, 12, 13), (0, 9, 15, 19)] :: gW) ({ frames := 10, cells := 1, slots := 6, locals := 218 }) D vwCl (gT ty) (lW ad ty) (cX cd) [.ref (ad 0), .int a1, .ref (ad 8)] u post := by
  obtain ⟨σ, o⟩ := u
  refine g_startc (cc := b_Law_scan) (maxL := 4) (hh := [(0, 9, 12, 13), (0, 9, 15, 19)]) (by decide) rfl (Nat.le_of_ble_eq_true rfl) ?_
  intro p e s m args below meth c A Q R ls hR hx hb hts hown hml htab hA hS hP hD hK hCx hl hret
  unfold wp_Law_scan at h
  have hown : s.vm.findClass "TokenDeskLaw" = some m.cls := hown
  have hl : lv_has ls 4 [(0, .ref (ad 0)), (1, .int a1), (2, .ref (ad 8))] := hl
  refine lv_aload_n hx hb d_Law_scan_0 rfl (lv_at hl 2 rfl) ?_
  refine lv_iconst (v := 0) hx hb d_Law_scan_1 (by decide) ?_
  refine lv_aload_n hx hb d_Law_scan_2 rfl (lv_at hl 0 rfl) ?_
  refine lv_iload_n hx hb d_Law_scan_3 rfl (lv_at hl 1 rfl) ?_
  refine g_callT (Wd := kW ad ty) (σ := σ) (Wr := [(ad 8, .inl (ty 1, 1, .inr (.inl o)))]) ⟨hx, hb, hml, hown, hts⟩ (c_Desk_scan htr h) (g_cwT 1 hts q_l_Law_15 q_m_Desk_scan q_s_Desk_scan q_i_TokenDesk q_k_Desk_scan (by decide +kernel) rfl rfl (by rw [hR]; exact ⟨Nat.le_of_ble_eq_true rfl, Nat.le_of_ble_eq_true rfl⟩)) (va_recv hK hP (q0 := 1) rfl rfl) cX_g hK hP hD hS hA hCx rfl hl.1 rfl (Nat.le_of_ble_eq_true rfl) d_Law_scan_4 (by rw [hR]; exact ⟨Nat.le_of_ble_eq_true rfl, Nat.le_of_ble_eq_true rfl⟩) (fun E ce q9 σ1 H1 locs1 hp hP hD hS hc1 hc2 hc3 => ?_) (fun r σ1 H1 locs1 h hP hD hS => ?_)
  · rcases hp with ⟨rfl, hp⟩ | ⟨rfl, hp⟩
    · refine vx_catch (own := "TokenDeskLaw") (name := "java/lang/IndexOutOfBoundsException") (E := "java/lang/IndexOutOfBoundsException") (ce := ce) hown [] ⟨0, 9, 12, 13⟩ [⟨0, 9, 15, 19⟩] (by rw [htab]; rfl) (fun z hz => nomatch hz) (by decide) (by decide) (hts _ q_x_Law_13) (cX_word hCx cs_I) hc1 hc2 hc3 ?_
      refine lv_astore_n hx hb d_Law_scan_12 rfl hl (by decide) rfl (fun ls hl => ?_)
      refine lv_iconst (v := 1) hx hb d_Law_scan_13 (by decide) ?_
      exact hret _ (σ1, o) _ _ _ _ hp hP hD hS d_Law_scan_14
    · refine vx_catch (own := "TokenDeskLaw") (name := "java/lang/IllegalArgumentException") (E := "java/lang/IllegalArgumentException") (ce := ce) hown [⟨0, 9, 12, 13⟩] ⟨0, 9, 15, 19⟩ [] (by rw [htab]; rfl) (fun z hz => by rcases List.mem_singleton.mp hz with rfl; exact Or.inr ⟨by decide, _, hts _ q_x_Law_13, hCx.2.2.2.2.2.2.2.2.2.2.2.1⟩) (by decide) (by decide) (hts _ q_x_Law_19) (cX_word hCx cs_A) hc1 hc2 hc3 ?_
      refine lv_astore_n hx hb d_Law_scan_15 rfl hl (by decide) rfl (fun ls hl => ?_)
      refine lv_iconst (v := 2) hx hb d_Law_scan_16 (by decide) ?_
      exact hret _ (σ1, o) _ _ _ _ hp hP hD hS d_Law_scan_17
  · refine lv_i2l hx hb d_Law_scan_7 rfl ?_
    refine va_last (D := D) hx hb hK hP hD hS 0 1 rfl rfl (show vp_in 0 1 from by unfold vp_in; decide) d_Law_scan_8 (fun H locs hP hD hS => ?_)
    refine lv_goto hx hb d_Law_scan_9 (tgt := 18) rfl ?_
    refine lv_iconst (v := 0) hx hb d_Law_scan_18 (by decide) ?_
    exact hret _ (σ1, vp_updL o 0 r.toInt64) _ _ _ _ h hP hD hS d_Law_scan_19
def wp_Law_token (a1 : Int32) (a2 : Int32) (u : KS × (Nat → Int64)) (post : Int32 → KS × (Nat → Int64) → Prop) : Prop :=
  wp_Desk_token a1 a2 u.1 (fun r σ1 => post 0 (σ1, vp_updL u.2 0 r.toInt64)) (fun E σ1 => (E = "java/lang/IllegalArgumentException" ∧ post 1 (σ1, u.2)) ∨ (E = "java/lang/IndexOutOfBoundsException" ∧ post 2 (σ1, u.2)))
set_option maxHeartbeats 4000000 in
set_option maxRecDepth 100000 in
theorem c_Law_token {l : Launch} {D : va_G} {ad : Nat → Nat} {ty : Nat → ClassId} {cd : Nat → Nat → Nat} {a1 : Int32} {a2 : Int32} {u : KS × (Nat → Int64)} {post : Int32 → KS × (Nat → Int64) → Prop} (htr : l.stackTraces = false) (h : wp_Law_token a1 a2 u post) : g_Metc l y_Law_token (Cond.codeWith y_Law_token b_Law_token 5 (some .int) [(0, 10, 13, 19), (0, 10, 17, 13)] :: gW) ({ frames := 7, cells := 1, slots := 6, locals := 112 }) D vwCl (gT ty) (lW ad ty) (cX cd) [.ref (ad 0), .int a1, .int a2, .ref (ad 8)] u post := by
  obtain ⟨σ, o⟩ := u
  refine g_startc (cc := b_Law_token) (maxL := 5) (hh := [(0, 10, 13, 19), (0, 10, 17, 13)]) (by decide) rfl (Nat.le_of_ble_eq_true rfl) ?_
  intro p e s m args below meth c A Q R ls hR hx hb hts hown hml htab hA hS hP hD hK hCx hl hret
  unfold wp_Law_token at h
  have hown : s.vm.findClass "TokenDeskLaw" = some m.cls := hown
  have hl : lv_has ls 5 [(0, .ref (ad 0)), (1, .int a1), (2, .int a2), (3, .ref (ad 8))] := hl
  refine lv_aload_n hx hb d_Law_token_0 rfl (lv_at hl 3 rfl) ?_
  refine lv_iconst (v := 0) hx hb d_Law_token_1 (by decide) ?_
  refine lv_aload_n hx hb d_Law_token_2 rfl (lv_at hl 0 rfl) ?_
  refine lv_iload_n hx hb d_Law_token_3 rfl (lv_at hl 1 rfl) ?_
  refine lv_iload_n hx hb d_Law_token_4 rfl (lv_at hl 2 rfl) ?_
  refine g_callT (Wd := kW ad ty) (σ := σ) (Wr := [(ad 8, .inl (ty 1, 1, .inr (.inl o)))]) ⟨hx, hb, hml, hown, hts⟩ (c_Desk_token htr h) (g_cwT 2 hts q_l_Law_21 q_m_Desk_token q_s_Desk_token q_i_TokenDesk q_k_Desk_token (by decide +kernel) rfl rfl (by rw [hR]; exact ⟨Nat.le_of_ble_eq_true rfl, Nat.le_of_ble_eq_true rfl⟩)) (va_recv hK hP (q0 := 1) rfl rfl) cX_g hK hP hD hS hA hCx rfl hl.1 rfl (Nat.le_of_ble_eq_true rfl) d_Law_token_5 (by rw [hR]; exact ⟨Nat.le_of_ble_eq_true rfl, Nat.le_of_ble_eq_true rfl⟩) (fun E ce q9 σ1 H1 locs1 hp hP hD hS hc1 hc2 hc3 => ?_) (fun r σ1 H1 locs1 h hP hD hS => ?_)
  · rcases hp with ⟨rfl, hp⟩ | ⟨rfl, hp⟩
    · refine vx_catch (own := "TokenDeskLaw") (name := "java/lang/IllegalArgumentException") (E := "java/lang/IllegalArgumentException") (ce := ce) hown [] ⟨0, 10, 13, 19⟩ [⟨0, 10, 17, 13⟩] (by rw [htab]; rfl) (fun z hz => nomatch hz) (by decide) (by decide) (hts _ q_x_Law_19) (cX_word hCx cs_A) hc1 hc2 hc3 ?_
      refine lv_astore hx hb d_Law_token_13 hl (by decide) rfl (fun ls hl => ?_)
      refine lv_iconst (v := 1) hx hb d_Law_token_15 (by decide) ?_
      exact hret _ (σ1, o) _ _ _ _ hp hP hD hS d_Law_token_16
    · refine vx_catch (own := "TokenDeskLaw") (name := "java/lang/IndexOutOfBoundsException") (E := "java/lang/IndexOutOfBoundsException") (ce := ce) hown [⟨0, 10, 13, 19⟩] ⟨0, 10, 17, 13⟩ [] (by rw [htab]; rfl) (fun z hz => by rcases List.mem_singleton.mp hz with rfl; exact Or.inr ⟨by decide, _, hts _ q_x_Law_19, hCx.2.2.2.2.2.2.2.2.2.2.2.2.1⟩) (by decide) (by decide) (hts _ q_x_Law_13) (cX_word hCx cs_I) hc1 hc2 hc3 ?_
      refine lv_astore hx hb d_Law_token_17 hl (by decide) rfl (fun ls hl => ?_)
      refine lv_iconst (v := 2) hx hb d_Law_token_19 (by decide) ?_
      exact hret _ (σ1, o) _ _ _ _ hp hP hD hS d_Law_token_20
  · refine lv_i2l hx hb d_Law_token_8 rfl ?_
    refine va_last (D := D) hx hb hK hP hD hS 0 1 rfl rfl (show vp_in 0 1 from by unfold vp_in; decide) d_Law_token_9 (fun H locs hP hD hS => ?_)
    refine lv_goto hx hb d_Law_token_10 (tgt := 21) rfl ?_
    refine lv_iconst (v := 0) hx hb d_Law_token_21 (by decide) ?_
    exact hret _ (σ1, vp_updL o 0 r.toInt64) _ _ _ _ h hP hD hS d_Law_token_22
