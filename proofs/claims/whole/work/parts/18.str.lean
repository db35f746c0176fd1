/-! the JDK's own members over the String constants -/
theorem g_startn {S : Type} {l : Launch} {y : MethodName} {ws ws' : List Cond} {rm : Room} {D : va_G} {cl : List vw_C} {tys : List (ClassId × FieldType)} {Wd : S → va_W} {Cx : (Nat → Prop) → State → Prop} {av : List Value} {σ : S} {cc : ByteArray} {maxL : Nat} {rt : FieldType} {post : Int32 → S → Prop} (hy : plainName y.cls = true) (hw : ws = Cond.code y cc maxL (some rt) :: ws') (hn : (lg_sl av).length ≤ maxL)
    (body : ∀ (p : Program) (e : Env) (s : State) (m : MethodId) (args : Array Value) (below : List Frame) (meth : Method) (c : Code) (A : Nat → Prop) (Q : State → Prop) (R : Room) (ls : Array Slot), R = rm → p.tables.exec = Jvm.exec → c.code = cc → (∀ w ∈ ws', w.before args s = true) → s.vm.findClass y.cls = some m.cls → c.maxLocals = maxL → (∀ q : Nat, s.heap.size ≤ q → A q) → va_S A s.heap s.heap [] → va_P D cl (Wd σ) s.heap → va_D A (Wd σ) → va_K D cl tys s → Cx A s → lv_has ls maxL (lv_args 0 av) →
      (∀ (r : Int32) (σ' : S) (H : Heap) (locs : List Loc) (ls : Array Slot) (pc : Nat), post r σ' → narrow rt (.int r) = .int r → va_P D cl (Wd σ') H → va_D A (Wd σ') → va_S A s.heap H locs → decode cc pc = .ok (.ireturn, 1) → W p l e R s m args below meth c H locs 0 0 Q (F0 m pc ls [.int r])) →
      W p l e R s m args below meth c s.heap [] 0 0 Q (F0 m 0 ls [])) : g_Meti l y ws rm D cl tys Wd Cx av σ post := by
  intro sz
  refine Met.ofW (cc := cc) (maxL := maxL) (ret := some rt) hy hw ?_
  intro p e s m args below meth c s₁ B hml hv
  obtain ⟨rfl, hsz, hP, hK, hD0, hC⟩ := hv
  subst hsz
  have hlocks := B.notSynchronized
  have hx := B.exec
  have hb := B.bytes
  have hr := B.returns
  have hts := atoms_spec (ws := ws) B.pre
  have hl := lv_entry av (n := maxL) hn
  rw [lg_entry_eq]
  generalize (lg_sl av ++ List.replicate (maxL - (lg_sl av).length) Slot.unset).toArray = ls at hl ⊢
  refine body p e s m _ below meth c (va_A (Wd σ) s.heap.size) _ _ ls rfl hx hb (fun w h => hts w (by rw [hw]; exact List.mem_cons_of_mem _ h)) (findClass_of_methodNamed B.named) hml (fun q h => Or.inr h) va_S.rf hP hD0.self hK hC hl ?_
  intro r σ' H locs ls pc hp hv hP hD hS hdg
  exact W.zret hx hb hr hv (fun t ht hW => ⟨⟨r, σ', rfl, hp, by rw [ht]; exact hP, hD⟩, hS.F ht⟩) hS.2.2 hdg
theorem s_ok : ∀ i, i < 115 → ∀ x ∈ sB i, ((x &&& 255).toUInt32 % 65536).toInt32 = x ∧ narrow .char (.int x) = .int x := by decide +kernel
theorem s_len : ∀ i, i < 115 → sL i < 1000 := by decide +kernel
theorem s_get {i k : Nat} (hk : k < sL i) : (sB i).getD k 0 ∈ sB i := by
  have h : k < (sB i).length := hk
  rw [List.getD_eq_getElem?_getD, List.getElem?_eq_getElem h]
  exact List.getElem_mem h
section STRC
variable {S : Type} {l : Launch} {D : va_G} {ty : Nat → ClassId} {cd : Nat → Nat → Nat} {Wd : S → va_W} {σ : S}
set_option maxHeartbeats 4000000 in
set_option maxRecDepth 100000 in
theorem c_Str_coder {i : Nat} (hi : i < nS) {post : Int32 → S → Prop} (h : post 0 σ) : g_Meti l y_Str_coder (Cond.code y_Str_coder b_Str_coder 1 (some .byte) :: gW) ({ frames := 0, cells := 0, slots := 0, locals := 0 }) D vwCl (gT ty) Wd (cX cd) [.ref (cd 0 i)] σ post := by
  refine g_startn (rt := .byte) (cc := b_Str_coder) (maxL := 1) (by decide) rfl (Nat.le_of_ble_eq_true rfl) ?_
  intro p e s m args below meth c A Q R ls hR hx hb hts hown hml hA hS hP hD hK hCx hl hret
  have hown : s.vm.findClass "java/lang/String" = some m.cls := hown
  have hl : lv_has ls 1 [(0, .ref (cd 0 i))] := hl
  refine va_gets hx hb hCx.2.2.1 hS hown (hts _ q_f_Str_38) (fun _ h => h) d_Str_coder_0 ?_
  refine lv_if_eq hx hb d_Str_coder_3 (tgt := 13) rfl (fun hc => absurd hc (by decide)) (fun hc => ?_)
  refine lv_aload_n hx hb d_Str_coder_6 rfl (lv_at hl 0 rfl) ?_
  refine vk_getf hx hb ((hCx.1 i hi).1 0 (Nat.lt_succ_self 0)).2.1 hS hown (hts _ q_f_Str_15) (fun _ h => h) d_Str_coder_7 ?_
  refine lv_goto hx hb d_Str_coder_10 (tgt := 14) rfl ?_
  exact hret _ _ _ _ _ _ h rfl hP hD hS d_Str_coder_14
set_option maxHeartbeats 4000000 in
set_option maxRecDepth 100000 in
theorem c_Str_isLatin1 {i : Nat} (hi : i < nS) {post : Int32 → S → Prop} (h : post 1 σ) : g_Meti l y_Str_isLatin1 (Cond.code y_Str_isLatin1 b_Str_isLatin1 1 (some .boolean) :: gW) ({ frames := 0, cells := 0, slots := 0, locals := 0 }) D vwCl (gT ty) Wd (cX cd) [.ref (cd 0 i)] σ post := by
  refine g_startn (rt := .boolean) (cc := b_Str_isLatin1) (maxL := 1) (by decide) rfl (Nat.le_of_ble_eq_true rfl) ?_
  intro p e s m args below meth c A Q R ls hR hx hb hts hown hml hA hS hP hD hK hCx hl hret
  have hown : s.vm.findClass "java/lang/String" = some m.cls := hown
  have hl : lv_has ls 1 [(0, .ref (cd 0 i))] := hl
  refine va_gets hx hb hCx.2.2.1 hS hown (hts _ q_f_Str_38) (fun _ h => h) d_Str_isLatin1_0 ?_
  refine lv_if_eq hx hb d_Str_isLatin1_3 (tgt := 17) rfl (fun hc => absurd hc (by decide)) (fun hc => ?_)
  refine lv_aload_n hx hb d_Str_isLatin1_6 rfl (lv_at hl 0 rfl) ?_
  refine vk_getf hx hb ((hCx.1 i hi).1 0 (Nat.lt_succ_self 0)).2.1 hS hown (hts _ q_f_Str_15) (fun _ h => h) d_Str_isLatin1_7 ?_
  refine lv_if_ne hx hb d_Str_isLatin1_10 (tgt := 17) rfl (fun hc => absurd rfl hc) (fun hc => ?_)
  refine lv_iconst (v := 1) hx hb d_Str_isLatin1_13 (by decide) ?_
  refine lv_goto hx hb d_Str_isLatin1_14 (tgt := 18) rfl ?_
  exact hret _ _ _ _ _ _ h rfl hP hD hS d_Str_isLatin1_18
set_option maxHeartbeats 4000000 in
set_option maxRecDepth 100000 in
theorem c_Str_length {i : Nat} {post : Int32 → S → Prop} (h : wp_Str_length i σ post) : g_Meti l y_Str_length (Cond.code y_Str_length b_Str_length 1 (some .int) :: gW) ({ frames := 1, cells := 0, slots := 0, locals := 20 }) D vwCl (gT ty) Wd (cX cd) [.ref (cd 0 i)] σ post := by
  refine g_starti (cc := b_Str_length) (maxL := 1) (by decide) rfl (Nat.le_of_ble_eq_true rfl) ?_
  intro p e s m args below meth c A Q R ls hR hx hb hts hown hml hA hS hP hD hK hCx hl hret
  obtain ⟨hi, h⟩ := h
  have hown : s.vm.findClass "java/lang/String" = some m.cls := hown
  have hl : lv_has ls 1 [(0, .ref (cd 0 i))] := hl
  refine lv_aload_n hx hb d_Str_length_0 rfl (lv_at hl 0 rfl) ?_
  refine vk_getf hx hb ((hCx.1 i hi).1 0 (Nat.lt_succ_self 0)).2.2.1 hS hown (hts _ q_f_Str_9) (fun _ h => h) d_Str_length_1 ?_
  refine va_tlen (v := nI (sL i)) hx hb ((hCx.1 i hi).1 0 (Nat.lt_succ_self 0)).2.2.2 hS rfl d_Str_length_4 ?_
  refine lv_aload_n hx hb d_Str_length_5 rfl (lv_at hl 0 rfl) ?_
  refine g_callVi ⟨hx, hb, hml, hown, hts⟩ (c_Str_coder hi (post := fun r σ1 => r = 0 ∧ σ1 = σ) ⟨rfl, rfl⟩) (g_cwV 0 hts q_l_Str_335 q_m_Str_coder q_s_Str_coder q_i_java_lang_String q_k_Str_coder (by decide +kernel) rfl rfl (by rw [hR]; exact ⟨Nat.le_of_ble_eq_true rfl, Nat.le_of_ble_eq_true rfl⟩)) (cX_recv hCx hi hS) cX_g hK hP hD hS hA hCx rfl hl.1 rfl (Nat.le_of_ble_eq_true rfl) d_Str_length_6 ⟨Nat.zero_le _, Nat.zero_le _⟩ (fun r σ1 H locs h1 hP2 hD2 hS2 => ?_)
  obtain ⟨rfl, rfl⟩ := h1
  refine lv_ishr hx hb d_Str_length_9 ?_
  exact hret _ _ _ _ _ _ (by rw [sb_shr0]; exact h) hP2 hD2 hS2 d_Str_length_10
set_option maxHeartbeats 4000000 in
set_option maxRecDepth 100000 in
theorem c_Pre_checkIndex {a b : Int32} {v : Value} (hv : v = .null ∨ ∃ t, v = .ref t) (h0 : ¬ a < 0) (h1 : a < b) {post : Int32 → S → Prop} (h : post a σ) : g_Meti l y_Pre_checkIndex (Cond.code y_Pre_checkIndex b_Pre_checkIndex 3 (some .int) :: gW) ({ frames := 0, cells := 0, slots := 0, locals := 0 }) D vwCl (gT ty) Wd (cX cd) [.int a, .int b, v] σ post := by
  have key : ∀ v : Value, (lg_sl [.int a, .int b, v]).length ≤ 3 → lv_args 0 [.int a, .int b, v] = [(0, .int a), (1, .int b), (2, v)] → g_Meti l y_Pre_checkIndex (Cond.code y_Pre_checkIndex b_Pre_checkIndex 3 (some .int) :: gW) ({ frames := 0, cells := 0, slots := 0, locals := 0 }) D vwCl (gT ty) Wd (cX cd) [.int a, .int b, v] σ post := by
    intro v hlen hla
    refine g_starti (cc := b_Pre_checkIndex) (maxL := 3) (by decide) rfl hlen ?_
    intro p e s m args below meth c A Q R ls hR hx hb hts hown hml hA hS hP hD hK hCx hl hret
    rw [hla] at hl
    refine lv_iload_n hx hb d_Pre_checkIndex_0 rfl (lv_at hl 0 rfl) ?_
    refine lv_if_lt hx hb d_Pre_checkIndex_1 (tgt := 9) rfl (fun hc => absurd hc h0) (fun hc => ?_)
    refine lv_iload_n hx hb d_Pre_checkIndex_4 rfl (lv_at hl 0 rfl) ?_
    refine lv_iload_n hx hb d_Pre_checkIndex_5 rfl (lv_at hl 1 rfl) ?_
    refine lv_icmp_lt hx hb d_Pre_checkIndex_6 (tgt := 16) rfl (fun hc => ?_) (fun hc => absurd h1 hc)
    refine lv_iload_n hx hb d_Pre_checkIndex_16 rfl (lv_at hl 0 rfl) ?_
    exact hret _ _ _ _ _ _ h hP hD hS d_Pre_checkIndex_17
  rcases hv with rfl | ⟨t, rfl⟩
  · exact key _ (Nat.le_of_ble_eq_true rfl) rfl
  · exact key _ (Nat.le_of_ble_eq_true rfl) rfl
set_option maxHeartbeats 4000000 in
set_option maxRecDepth 100000 in
theorem c_Str_checkIndex {a b : Int32} (h0 : ¬ a < 0) (h1 : a < b) {post : S → Prop} (h : post σ) : g_Metv l y_Str_checkIndex (Cond.code y_Str_checkIndex b_Str_checkIndex 2 none :: gW) ({ frames := 1, cells := 0, slots := 0, locals := 22 }) D vwCl (gT ty) Wd (cX cd) [.int a, .int b] σ post := by
  refine g_startv (cc := b_Str_checkIndex) (maxL := 2) (by decide) rfl (Nat.le_of_ble_eq_true rfl) ?_
  intro p e s m args below meth c A Q R ls hR hx hb hts hown hml hA hS hP hD hK hCx hl hret
  have hown : s.vm.findClass "java/lang/String" = some m.cls := hown
  have hl : lv_has ls 2 [(0, .int a), (1, .int b)] := hl
  refine lv_iload_n hx hb d_Str_checkIndex_0 rfl (lv_at hl 0 rfl) ?_
  refine lv_iload_n hx hb d_Str_checkIndex_1 rfl (lv_at hl 1 rfl) ?_
  have key : ∀ v : Value, (v = .null ∨ ∃ t, v = .ref t) → va_Z "jdk/internal/util/Preconditions" "SIOOBE_FORMATTER" "Ljava/util/function/BiFunction;" v A s s.heap → W p l e R s m args below meth c s.heap [] 0 0 Q (F0 m 2 ls [.int b, .int a]) := by
    intro v hv hZ
    refine va_gets hx hb hZ hS hown (hts _ q_f_Str_1053) (fun _ h => h) d_Str_checkIndex_2 ?_
    refine g_callSi ⟨hx, hb, hml, hown, hts⟩ (c_Pre_checkIndex hv h0 h1 (post := fun r σ1 => σ1 = σ) rfl) (g_cwS 3 hts q_l_Str_1059 q_t_Pre_checkIndex q_i_jdk_internal_util_Preconditions q_k_Pre_checkIndex (by decide +kernel) rfl rfl (by rw [hR]; exact ⟨Nat.le_of_ble_eq_true rfl, Nat.le_of_ble_eq_true rfl⟩)) cX_g hK hP hD hS hA hCx rfl hl.1 rfl (Nat.le_of_ble_eq_true rfl) d_Str_checkIndex_5 ⟨Nat.zero_le _, Nat.zero_le _⟩ (fun r σ1 H locs h9 hP2 hD2 hS2 => ?_)
    subst h9
    refine lv_pop hx hb d_Str_checkIndex_8 rfl ?_
    exact hret _ _ _ _ _ h hP2 hD2 hS2 d_Str_checkIndex_9
  rcases hCx.2.2.2.1 with hZ | ⟨t, hZ⟩
  · exact key _ (Or.inl rfl) hZ
  · exact key _ (Or.inr ⟨t, rfl⟩) hZ
set_option maxHeartbeats 4000000 in
set_option maxRecDepth 100000 in
theorem c_Lat_charAt {i : Nat} {k : Int32} (hi : i < nS) (hk : vp_in k (sL i)) {post : Int32 → S → Prop} (h : post ((sB i).getD k.toNatClampNeg 0) σ) : g_Meti l y_Lat_charAt (Cond.code y_Lat_charAt b_Lat_charAt 2 (some .char) :: gW) ({ frames := 2, cells := 0, slots := 0, locals := 43 }) D vwCl (gT ty) Wd (cX cd) [.ref (cd 1 i), .int k] σ post := by
  refine g_startn (rt := .char) (cc := b_Lat_charAt) (maxL := 2) (by decide) rfl (Nat.le_of_ble_eq_true rfl) ?_
  intro p e s m args below meth c A Q R ls hR hx hb hts hown hml hA hS hP hD hK hCx hl hret
  have hown : s.vm.findClass "java/lang/StringLatin1" = some m.cls := hown
  have hl : lv_has ls 2 [(0, .ref (cd 1 i)), (1, .int k)] := hl
  obtain ⟨j, hj, rfl⟩ := vp_in_of hk (by have := s_len i hi; omega)
  have hjl : (nI j).toNatClampNeg = j := nI_clamp (by have := s_len i hi; omega)
  rw [hjl] at h
  refine lv_iload_n hx hb d_Lat_charAt_0 rfl (lv_at hl 1 rfl) ?_
  refine lv_aload_n hx hb d_Lat_charAt_1 rfl (lv_at hl 0 rfl) ?_
  have hT := ((hCx.1 i hi).1 0 (Nat.lt_succ_self 0)).2.2.2
  refine va_tlen (v := nI (sL i)) hx hb hT hS rfl d_Lat_charAt_2 ?_
  refine g_callSv ⟨hx, hb, hml, hown, hts⟩ (c_Str_checkIndex (a := nI j) (b := nI (sL i)) (nI_pos (by have := s_len i hi; omega)) (nI_lt hj (by have := s_len i hi; omega)) (post := fun σ1 => σ1 = σ) rfl) (g_cwS 2 hts q_l_Lat_9 q_t_Str_checkIndex q_i_java_lang_String q_k_Str_checkIndex (by decide +kernel) rfl rfl (by rw [hR]; exact ⟨Nat.le_of_ble_eq_true rfl, Nat.le_of_ble_eq_true rfl⟩)) cX_g hK hP hD hS hA hCx rfl hl.1 rfl (Nat.le_of_ble_eq_true rfl) d_Lat_charAt_3 ⟨Nat.zero_le _, Nat.zero_le _⟩ (fun σ1 H locs h9 hP2 hD2 hS2 => ?_)
  subst h9
  refine lv_aload_n hx hb d_Lat_charAt_6 rfl (lv_at hl 0 rfl) ?_
  refine lv_iload_n hx hb d_Lat_charAt_7 rfl (lv_at hl 1 rfl) ?_
  refine va_tb (v := .int ((sB i).getD j 0)) hx hb hT hS2 hk (by rw [hjl]; rfl) d_Lat_charAt_8 ?_
  refine lv_sipush (v := 255) hx hb d_Lat_charAt_9 (by decide) ?_
  refine lv_iand hx hb d_Lat_charAt_12 ?_
  refine lv_i2c hx hb d_Lat_charAt_13 rfl ?_
  have q := s_ok i hi _ (s_get hj)
  exact hret _ _ _ _ _ _ (by rw [q.1]; exact h) (by rw [q.1]; exact q.2) hP2 hD2 hS2 d_Lat_charAt_14
set_option maxHeartbeats 4000000 in
set_option maxRecDepth 100000 in
theorem c_Str_charAt {i : Nat} {k : Int32} {post : Int32 → S → Prop} (h : wp_Str_charAt i k σ post) : g_Meti l y_Str_charAt (Cond.code y_Str_charAt b_Str_charAt 2 (some .char) :: gW) ({ frames := 3, cells := 0, slots := 0, locals := 64 }) D vwCl (gT ty) Wd (cX cd) [.ref (cd 0 i), .int k] σ post := by
  refine g_startn (rt := .char) (cc := b_Str_charAt) (maxL := 2) (by decide) rfl (Nat.le_of_ble_eq_true rfl) ?_
  intro p e s m args below meth c A Q R ls hR hx hb hts hown hml hA hS hP hD hK hCx hl hret
  obtain ⟨hi, hk, h⟩ := h
  have hown : s.vm.findClass "java/lang/String" = some m.cls := hown
  have hl : lv_has ls 2 [(0, .ref (cd 0 i)), (1, .int k)] := hl
  refine lv_aload_n hx hb d_Str_charAt_0 rfl (lv_at hl 0 rfl) ?_
  refine g_callVi ⟨hx, hb, hml, hown, hts⟩ (c_Str_isLatin1 hi (post := fun r σ1 => r = 1 ∧ σ1 = σ) ⟨rfl, rfl⟩) (g_cwV 0 hts q_l_Str_492 q_m_Str_isLatin1 q_s_Str_isLatin1 q_i_java_lang_String q_k_Str_isLatin1 (by decide +kernel) rfl rfl (by rw [hR]; exact ⟨Nat.le_of_ble_eq_true rfl, Nat.le_of_ble_eq_true rfl⟩)) (cX_recv hCx hi hS) cX_g hK hP hD hS hA hCx rfl hl.1 rfl (Nat.le_of_ble_eq_true rfl) d_Str_charAt_1 ⟨Nat.zero_le _, Nat.zero_le _⟩ (fun r σ1 H locs h1 hP2 hD2 hS2 => ?_)
  obtain ⟨rfl, rfl⟩ := h1
  refine lv_if_eq hx hb d_Str_charAt_4 (tgt := 16) rfl (fun hc => absurd hc (by decide)) (fun hc => ?_)
  refine lv_aload_n hx hb d_Str_charAt_7 rfl (lv_at hl 0 rfl) ?_
  refine vk_getf hx hb ((hCx.1 i hi).1 0 (Nat.lt_succ_self 0)).2.2.1 hS2 hown (hts _ q_f_Str_9) (fun _ h => h) d_Str_charAt_8 ?_
  refine lv_iload_n hx hb d_Str_charAt_11 rfl (lv_at hl 1 rfl) ?_
  refine g_callSi ⟨hx, hb, hml, hown, hts⟩ (c_Lat_charAt hi hk (post := fun r σ2 => r = (sB i).getD k.toNatClampNeg 0 ∧ σ2 = σ1) ⟨rfl, rfl⟩) (g_cwS 2 hts q_l_Str_495 q_t_Lat_charAt q_i_java_lang_StringLatin1 q_k_Lat_charAt (by decide +kernel) rfl rfl (by rw [hR]; exact ⟨Nat.le_of_ble_eq_true rfl, Nat.le_of_ble_eq_true rfl⟩)) cX_g hK hP2 hD2 hS2 hA hCx rfl hl.1 rfl (Nat.le_of_ble_eq_true rfl) d_Str_charAt_12 ⟨Nat.zero_le _, Nat.zero_le _⟩ (fun r σ2 H locs h1 hP3 hD3 hS3 => ?_)
  obtain ⟨rfl, rfl⟩ := h1
  have hkl := vp_ltI hk
  exact hret _ _ _ _ _ _ h (s_ok i hi _ (s_get hkl)).2 hP3 hD3 hS3 d_Str_charAt_15
end STRC
