/-! constructors -/
def g_Metn {S : Type} (l : Launch) (y : MethodName) (ws : List Cond) (rm : Room) (D : va_G) (cl : List vw_C) (tys : List (ClassId × FieldType)) (Wd : S → va_W) (Cx : (Nat → Prop) → State → Prop) (av : List Value) (σ : S) (post : S → Prop) (mc ms : Nat) : Prop :=
  ∀ sz : Nat, Met l y ws rm (va_Pc av (g_Pre D cl tys Wd Cx sz σ)) (va_Qv post (g_B D cl Wd (va_A (Wd σ) sz)) (va_A (Wd σ) sz)) mc ms (va_A (Wd σ) sz)
theorem g_startC {S : Type} {l : Launch} {y : MethodName} {ws ws' : List Cond} {rm : Room} {D : va_G} {cl : List vw_C} {tys : List (ClassId × FieldType)} {Wd : S → va_W} {Cx : (Nat → Prop) → State → Prop} {av : List Value} {σ : S} {cc : ByteArray} {maxL mc ms : Nat} {post : S → Prop} (hy : plainName y.cls = true) (hyn : y.name = "<init>") (hw : ws = Cond.code y cc maxL none :: ws') (hn : (lg_sl av).length ≤ maxL)
    (body : ∀ (p : Program) (e : Env) (s : State) (m : MethodId) (args : Array Value) (below : List Frame) (meth : Method) (c : Code) (A : Nat → Prop) (Q : State → Prop) (R : Room) (ls : Array Slot), R = rm → p.tables.exec = Jvm.exec → c.code = cc → (∀ w ∈ ws', w.before args s = true) → s.vm.findClass y.cls = some m.cls → c.maxLocals = maxL → meth.name = "<init>" → (∀ q : Nat, s.heap.size ≤ q → A q) → va_S A s.heap s.heap [] → va_P D cl (Wd σ) s.heap → va_D A (Wd σ) → va_K D cl tys s → Cx A s → lv_has ls maxL (lv_args 0 av) →
      (∀ (σ' : S) (H : Heap) (locs : List Loc) (ls : Array Slot) (pc : Nat), post σ' → va_P D cl (Wd σ') H → va_D A (Wd σ') → va_S A s.heap H locs → decode cc pc = .ok (.return_, 1) → W p l e R s m args below meth c H locs mc ms Q (F0 m pc ls [])) →
      W p l e R s m args below meth c s.heap [] 0 0 Q (F0 m 0 ls [])) : g_Metn l y ws rm D cl tys Wd Cx av σ post mc ms := by
  intro sz
  refine Met.ofW (cc := cc) (maxL := maxL) (ret := none) hy hw ?_
  intro p e s m args below meth c s₁ B hml hv
  obtain ⟨rfl, hsz, hP, hK, hD0, hC⟩ := hv
  subst hsz
  have hlocks := B.notSynchronized
  have hx := B.exec
  have hb := B.bytes
  have hr := B.returns
  have hts := atoms_spec (ws := ws) B.pre
  have hin : meth.name = "<init>" := ((name_of_methodNamed B.named B.method).1).trans hyn
  have hl := lv_entry av (n := maxL) hn
  rw [lg_entry_eq]
  generalize (lg_sl av ++ List.replicate (maxL - (lg_sl av).length) Slot.unset).toArray = ls at hl ⊢
  refine body p e s m _ below meth c (va_A (Wd σ) s.heap.size) _ _ ls rfl hx hb (fun w h => hts w (by rw [hw]; exact List.mem_cons_of_mem _ h)) (findClass_of_methodNamed B.named) hml hin (fun q h => Or.inr h) va_S.rf hP hD0.self hK hC hl ?_
  intro σ' H locs ls pc hp hP hD hS hdg
  exact W.vret hx hb hr (fun t ht hW => ⟨⟨σ', rfl, hp, by rw [ht]; exact hP, hD⟩, hS.F ht⟩) hS.2.2 hdg
section GFI
variable {S : Type} {p : Program} {l : Launch} {e : Env} {R : Room} {s : State} {m : MethodId} {args : Array Value} {below : List Frame} {meth : Method} {c : Code} {H : Heap} {locs : List Loc} {cells slots mc ms : Nat} {Q : State → Prop}
variable {D : va_G} {cl : List vw_C} {tys : List (ClassId × FieldType)} {Wd : S → va_W} {Cx : (Nat → Prop) → State → Prop} {σ : S} {A : Nat → Prop} {pc : Nat} {ls : Array Slot} {Wr : va_W}
variable {y : MethodName} {bytes cc : ByteArray} {maxL nL n index : Nat} {ws : List Cond} {rm : Room} {Ts : List Cond} {own host : String} {b : Nat} {As rest st0 : List Value} {post : S → Prop}
theorem g_fcallI (S0 : CallFix p m c cc nL s args Ts own) (hM : g_Metn l y ws rm D cl tys Wd Cx (.ref b :: As) σ post mc ms) (cw : CallB R s args own index y bytes maxL none ws rm mc ms n ∧ y.name = "<init>" ∧ (Cond.instanceMethod y).before args s = true)
    (hG : g_Cg Cx) (hK : va_K D cl tys s) (hP : va_P D cl (Wr ++ Wd σ) H) (hD : va_D A (Wr ++ Wd σ)) (hS : va_S A s.heap H locs) (hA : ∀ q : Nat, s.heap.size ≤ q → A q) (hC : Cx A s) (hn : As.length = n) (hsize : ls.size = nL) (hst : st0 = As.reverse ++ .ref b :: rest) (hW : (rest.map fun v => v.category).sum ≤ 8) (hdg : decode cc pc = .ok (.invokespecial index, 3)) (hf : cells + mc ≤ R.cells ∧ slots + ms ≤ R.slots)
    (kk : ∀ (σ1 : S) (H1 : Heap) (locs1 : List Loc), post σ1 → va_P D cl (Wr ++ Wd σ1) H1 → va_D A (Wr ++ Wd σ1) → va_S A s.heap H1 locs1 → W p l e R s m args below meth c H1 locs1 (cells + mc) (slots + ms) Q (F0 m (pc + 3) ls rest)) : W p l e R s m args below meth c H locs cells slots Q (F0 m pc ls st0) := by
  have hF := g_hF (Wd := Wd) (σ := σ) (g_sufD hD) hS hA
  refine va_callv (va_runI (As := As) (rest := rest) S0 (hM H.size) cw ⟨g_blind hG, g_pre hG hK (g_suf hP) (g_sufD hD) hS hA hC⟩ rfl hn hsize hst (lv_room hW) hdg hf) hS (fun q _ h => hF q h) hF (fun u t H1 locs1 ht hvm hp hB hz hk hS1 => ?_)
  obtain ⟨a1, a2⟩ := g_frame hP hD hk hF (by rw [← ht]; exact hB.1) hB.2
  exact kk u H1 locs1 hp a1 a2 hS1
theorem g_fcallIN (S0 : CallFix p m c cc nL s args Ts own) (hM : g_Metn l y ws rm D cl tys Wd Cx (.ref b :: As) σ post mc ms) (cw : va_CN R s args own index y host bytes maxL none ws rm mc ms n ∧ y.name = "<init>" ∧ (Cond.instanceMethod y).before args s = true)
    (hG : g_Cg Cx) (hK : va_K D cl tys s) (hP : va_P D cl (Wr ++ Wd σ) H) (hD : va_D A (Wr ++ Wd σ)) (hS : va_S A s.heap H locs) (hA : ∀ q : Nat, s.heap.size ≤ q → A q) (hC : Cx A s) (hn : As.length = n) (hsize : ls.size = nL) (hst : st0 = As.reverse ++ .ref b :: rest) (hW : (rest.map fun v => v.category).sum ≤ 8) (hdg : decode cc pc = .ok (.invokespecial index, 3)) (hf : cells + mc ≤ R.cells ∧ slots + ms ≤ R.slots)
    (kk : ∀ (σ1 : S) (H1 : Heap) (locs1 : List Loc), post σ1 → va_P D cl (Wr ++ Wd σ1) H1 → va_D A (Wr ++ Wd σ1) → va_S A s.heap H1 locs1 → W p l e R s m args below meth c H1 locs1 (cells + mc) (slots + ms) Q (F0 m (pc + 3) ls rest)) : W p l e R s m args below meth c H locs cells slots Q (F0 m pc ls st0) := by
  have hF := g_hF (Wd := Wd) (σ := σ) (g_sufD hD) hS hA
  refine va_callv (va_runIN (As := As) (rest := rest) S0 (hM H.size) cw ⟨g_blind hG, g_pre hG hK (g_suf hP) (g_sufD hD) hS hA hC⟩ rfl hn hsize hst (lv_room hW) hdg hf) hS (fun q _ h => hF q h) hF (fun u t H1 locs1 ht hvm hp hB hz hk hS1 => ?_)
  obtain ⟨a1, a2⟩ := g_frame hP hD hk hF (by rw [← ht]; exact hB.1) hB.2
  exact kk u H1 locs1 hp a1 a2 hS1
end GFI
theorem k_arrI {D : va_G} {cl : List vw_C} {ty : Nat → ClassId} {cA : ClassId} {s : State} (h : va_K D cl (gT ty ++ [(cA, .int)]) s) : cA = ty 0 := Option.some.inj ((h.2 3 _ rfl).2.symm.trans (h.2 0 _ rfl).2)
theorem k_arrJ {D : va_G} {cl : List vw_C} {ty : Nat → ClassId} {cA : ClassId} {s : State} (h : va_K D cl (gT ty ++ [(cA, .long)]) s) : cA = ty 1 := Option.some.inj ((h.2 3 _ rfl).2.symm.trans (h.2 1 _ rfl).2)
/-- the context of constructors within the nest -/
def nwT : Cond := .methodLinkNest "TokenDesk" 9 y_Text_init "TokenDesk"
def nwK : Cond := .methodLinkNest "TokenDesk" 18 y_Tokens_init "TokenDesk"
def cN (cd : Nat → Nat → Nat) (A : Nat → Prop) (s : State) : Prop := cX cd A s ∧ va_Nw nwT s ∧ va_Nw nwK s ∧ va_AO "java/lang/String" s
theorem cN_g {cd : Nat → Nat → Nat} : g_Cg (cN cd) := by
  refine ⟨fun A s g mk a h => ⟨cX_g.1 _ _ _ _ _ h.1, va_Nw.same rfl (u := s) rfl h.2.1, va_Nw.same rfl (u := s) rfl h.2.2.1, ?_⟩, fun A B s U locs h hW hS hBA => ⟨cX_go h.1 hW hS hBA, va_Nw.warmM hW h.2.1, va_Nw.warmM hW h.2.2.1, va_AO.moved hW.alike h.2.2.2⟩⟩
  exact va_AO.moved (u := s) (Vm.Alike.refl s.vm) h.2.2.2
def i_Text (h0 : Nat) (ty : Nat → ClassId) : Option Nat → va_W
  | none => [(h0, .inr (1, [.null, .int 0, .int 0]))]
  | some q => [(h0, .inr (1, [.ref q, .int 0, .int 0])), (q, .inl (ty 0, 1025, .inl (fun _ => 0)))]
def i_Tokens (h0 : Nat) (ty : Nat → ClassId) : Option Nat → va_W
  | none => [(h0, .inr (2, [.null, .int 0]))]
  | some q => [(h0, .inr (2, [.ref q, .int 0])), (q, .inl (ty 1, 5463, .inr (.inl (fun _ => 0))))]
def i_Shapes (h0 : Nat) (t : Nat) : Bool → va_W
  | false => [(h0, .inr (4, [.null]))]
  | true => [(h0, .inr (4, [.ref t]))]
def i_Reader (h0 : Nat) (ty : Nat → ClassId) (t k : Nat) : Option (Nat × Nat) → va_W
  | none => [(h0, .inr (3, [.null, .null, .null, .null, .int 0, .int 0, .int 0, .int 0, .int 0, .int 0]))]
  | some q => [(h0, .inr (3, [.ref t, .ref k, .ref q.2, .ref q.1, .int 0, .int 0, .int 0, .int 0, .int 0, .int 0])), (q.1, .inl (ty 0, 100, .inl (fun _ => 0))), (q.2, .inr (4, [.ref t]))]
section CTOR
variable {l : Launch} {D : va_G} {ty : Nat → ClassId} {cd : Nat → Nat → Nat} {h0 : Nat}
set_option maxHeartbeats 4000000 in
set_option maxRecDepth 100000 in
theorem c_Text_init : g_Metn l y_Text_init (Cond.code y_Text_init b_Text_init 1 none :: gW) ({ frames := 1, cells := 1, slots := 1025, locals := 12 }) D vwCl (gT ty) (i_Text h0 ty) (cN cd) [.ref h0] none (fun u => ∃ q, u = some q) 1 1025 := by
  refine g_startC (cc := b_Text_init) (maxL := 1) (by decide) rfl rfl (Nat.le_of_ble_eq_true rfl) ?_
  intro p e s m args below meth c A Q R ls hR hx hb hts hown hml hin hA hS hP hD hK hCx hl hret
  have hown : s.vm.findClass "TokenDesk$Text" = some m.cls := hown
  have hl : lv_has ls 1 [(0, .ref h0)] := hl
  refine lv_aload_n hx hb d_Text_init_0 rfl (lv_at hl 0 rfl) ?_
  refine W.objInit hx hb hown (hts _ q_o_Text) (hts _ q_oi) (hts _ q_oc) rfl (by rw [hml]; exact hl.1) rfl d_Text_init_1 (by rw [hR]; exact Nat.le_of_ble_eq_true rfl) (by rw [hR]; exact Nat.le_of_ble_eq_true rfl) ?_
  refine W.eq (g2 := F0 m 4 ls []) rfl ?_
  refine lv_aload_n hx hb d_Text_init_4 rfl (lv_at hl 0 rfl) ?_
  refine lv_sipush (v := 1025) hx hb d_Text_init_5 (by decide) ?_
  refine va_newa (atype := .int) (ty := .int) (N' := 1025) (a0 := (1025, .inl (fun _ => 0))) hx hb (hts _ q_a_int) rfl hK hP hD hS hA (fun _ => rfl) (by decide) (by decide) (Nat.le_of_ble_eq_true rfl) (by rw [hR]; exact Nat.le_of_ble_eq_true rfl) (by rw [hR]; exact Nat.le_of_ble_eq_true rfl) d_Text_init_8 (fun q cA H1 hK1 hP hD hS => ?_)
  obtain rfl := k_arrI hK1
  refine va_putF (D := D) (ci := 1) (v := .ref q) (ty := .array .int) (C := R_Text) (T := T_Text) (N := 3) hx hb hts in_Text t_Text tk_Text n_Text hown hK hP hD hS 0 rfl rfl 0 (by decide) (hts _ q_f_Text_11) (fun _ h9 => h9) rfl hin rfl (by decide +kernel) rfl rfl (Nat.le_of_ble_eq_true rfl) d_Text_init_10 (fun H locs hP hD hS => ?_)
  exact hret (some q) _ _ _ _ ⟨q, rfl⟩ hP hD hS d_Text_init_13
set_option maxHeartbeats 4000000 in
set_option maxRecDepth 100000 in
theorem c_Tokens_init : g_Metn l y_Tokens_init (Cond.code y_Tokens_init b_Tokens_init 1 none :: gW) ({ frames := 1, cells := 1, slots := 5463, locals := 12 }) D vwCl (gT ty) (i_Tokens h0 ty) (cN cd) [.ref h0] none (fun u => ∃ q, u = some q) 1 5463 := by
  refine g_startC (cc := b_Tokens_init) (maxL := 1) (by decide) rfl rfl (Nat.le_of_ble_eq_true rfl) ?_
  intro p e s m args below meth c A Q R ls hR hx hb hts hown hml hin hA hS hP hD hK hCx hl hret
  have hown : s.vm.findClass "TokenDesk$Tokens" = some m.cls := hown
  have hl : lv_has ls 1 [(0, .ref h0)] := hl
  refine lv_aload_n hx hb d_Tokens_init_0 rfl (lv_at hl 0 rfl) ?_
  refine W.objInit hx hb hown (hts _ q_o_Tokens) (hts _ q_oi) (hts _ q_oc) rfl (by rw [hml]; exact hl.1) rfl d_Tokens_init_1 (by rw [hR]; exact Nat.le_of_ble_eq_true rfl) (by rw [hR]; exact Nat.le_of_ble_eq_true rfl) ?_
  refine W.eq (g2 := F0 m 4 ls []) rfl ?_
  refine lv_aload_n hx hb d_Tokens_init_4 rfl (lv_at hl 0 rfl) ?_
  refine lv_sipush (v := 5463) hx hb d_Tokens_init_5 (by decide) ?_
  refine va_newa (atype := .long) (ty := .long) (N' := 5463) (a0 := (5463, .inr (.inl (fun _ => 0)))) hx hb (hts _ q_a_long) rfl hK hP hD hS hA (fun _ => rfl) (by decide) (by decide) (Nat.le_of_ble_eq_true rfl) (by rw [hR]; exact Nat.le_of_ble_eq_true rfl) (by rw [hR]; exact Nat.le_of_ble_eq_true rfl) d_Tokens_init_8 (fun q cA H1 hK1 hP hD hS => ?_)
  obtain rfl := k_arrJ hK1
  refine va_putF (D := D) (ci := 2) (v := .ref q) (ty := .array .long) (C := R_Tokens) (T := T_Tokens) (N := 2) hx hb hts in_Tokens t_Tokens tk_Tokens n_Tokens hown hK hP hD hS 0 rfl rfl 0 (by decide) (hts _ q_f_Tokens_11) (fun _ h9 => h9) rfl hin rfl (by decide +kernel) rfl rfl (Nat.le_of_ble_eq_true rfl) d_Tokens_init_10 (fun H locs hP hD hS => ?_)
  exact hret (some q) _ _ _ _ ⟨q, rfl⟩ hP hD hS d_Tokens_init_13
set_option maxHeartbeats 4000000 in
set_option maxRecDepth 100000 in
theorem c_Shapes_init {t : Nat} : g_Metn l y_Shapes_init (Cond.code y_Shapes_init b_Shapes_init 2 none :: gW) ({ frames := 1, cells := 0, slots := 0, locals := 12 }) D vwCl (gT ty) (i_Shapes h0 t) (cN cd) [.ref h0, .ref t] false (fun u => u = true) 0 0 := by
  refine g_startC (cc := b_Shapes_init) (maxL := 2) (by decide) rfl rfl (Nat.le_of_ble_eq_true rfl) ?_
  intro p e s m args below meth c A Q R ls hR hx hb hts hown hml hin hA hS hP hD hK hCx hl hret
  have hown : s.vm.findClass "TokenDesk$Shapes" = some m.cls := hown
  have hl : lv_has ls 2 [(0, .ref h0), (1, .ref t)] := hl
  refine lv_aload_n hx hb d_Shapes_init_0 rfl (lv_at hl 0 rfl) ?_
  refine W.objInit hx hb hown (hts _ q_o_Shapes) (hts _ q_oi) (hts _ q_oc) rfl (by rw [hml]; exact hl.1) rfl d_Shapes_init_1 (by rw [hR]; exact Nat.le_of_ble_eq_true rfl) (by rw [hR]; exact Nat.le_of_ble_eq_true rfl) ?_
  refine W.eq (g2 := F0 m 4 ls []) rfl ?_
  refine lv_aload_n hx hb d_Shapes_init_4 rfl (lv_at hl 0 rfl) ?_
  refine lv_aload_n hx hb d_Shapes_init_5 rfl (lv_at hl 1 rfl) ?_
  refine va_putF (D := D) (ci := 4) (v := .ref t) (ty := .object "TokenDesk$Text") (C := R_Shapes) (T := T_Shapes) (N := 1) hx hb hts in_Shapes t_Shapes tk_Shapes n_Shapes hown hK hP hD hS 0 rfl rfl 0 (by decide) (hts _ q_f_Shapes_9) (fun _ h9 => h9) rfl hin rfl (by decide +kernel) rfl rfl (Nat.le_of_ble_eq_true rfl) d_Shapes_init_6 (fun H locs hP hD hS => ?_)
  exact hret true _ _ _ _ rfl hP hD hS d_Shapes_init_9
set_option maxHeartbeats 4000000 in
set_option maxRecDepth 100000 in
theorem c_Reader_init {t k : Nat} : g_Metn l y_Reader_init (Cond.code y_Reader_init b_Reader_init 3 none :: gW) ({ frames := 2, cells := 2, slots := 101, locals := 33 }) D vwCl (gT ty) (i_Reader h0 ty t k) (cN cd) [.ref h0, .ref t, .ref k] none (fun u => ∃ q, u = some q) 2 101 := by
  refine g_startC (cc := b_Reader_init) (maxL := 3) (by decide) rfl rfl (Nat.le_of_ble_eq_true rfl) ?_
  intro p e s m args below meth c A Q R ls hR hx hb hts hown hml hin hA hS hP hD hK hCx hl hret
  have hown : s.vm.findClass "TokenDesk$Reader" = some m.cls := hown
  have hl : lv_has ls 3 [(0, .ref h0), (1, .ref t), (2, .ref k)] := hl
  refine lv_aload_n hx hb d_Reader_init_0 rfl (lv_at hl 0 rfl) ?_
  refine W.objInit hx hb hown (hts _ q_o_Reader) (hts _ q_oi) (hts _ q_oc) rfl (by rw [hml]; exact hl.1) rfl d_Reader_init_1 (by rw [hR]; exact Nat.le_of_ble_eq_true rfl) (by rw [hR]; exact Nat.le_of_ble_eq_true rfl) ?_
  refine W.eq (g2 := F0 m 4 ls []) rfl ?_
  refine lv_aload_n hx hb d_Reader_init_4 rfl (lv_at hl 0 rfl) ?_
  refine lv_bipush (v := 100) hx hb d_Reader_init_5 (by decide) ?_
  refine va_newa (atype := .int) (ty := .int) (N' := 100) (a0 := (100, .inl (fun _ => 0))) hx hb (hts _ q_a_int) rfl hK hP hD hS hA (fun _ => rfl) (by decide) (by decide) (Nat.le_of_ble_eq_true rfl) (by rw [hR]; exact Nat.le_of_ble_eq_true rfl) (by rw [hR]; exact Nat.le_of_ble_eq_true rfl) d_Reader_init_7 (fun q cA H1 hK1 hP hD hS => ?_)
  obtain rfl := k_arrI hK1
  refine va_putF (D := D) (ci := 3) (v := .ref q) (ty := .array .int) (C := R_Reader) (T := T_Reader) (N := 10) hx hb hts in_Reader t_Reader tk_Reader n_Reader hown hK hP hD hS 0 rfl rfl 3 (by decide) (hts _ q_f_Reader_11) (fun _ h9 => h9) rfl hin rfl (by decide +kernel) rfl rfl (Nat.le_of_ble_eq_true rfl) d_Reader_init_9 (fun H locs hP hD hS => ?_)
  refine lv_aload_n hx hb d_Reader_init_12 rfl (lv_at hl 0 rfl) ?_
  refine lv_aload_n hx hb d_Reader_init_13 rfl (lv_at hl 1 rfl) ?_
  refine va_putF (D := D) (ci := 3) (v := .ref t) (ty := .object "TokenDesk$Text") (C := R_Reader) (T := T_Reader) (N := 10) hx hb hts in_Reader t_Reader tk_Reader n_Reader hown hK hP hD hS 0 rfl rfl 0 (by decide) (hts _ q_f_Reader_15) (fun _ h9 => h9) rfl hin rfl (by decide +kernel) rfl rfl (Nat.le_of_ble_eq_true rfl) d_Reader_init_14 (fun H locs hP hD hS => ?_)
  refine lv_aload_n hx hb d_Reader_init_17 rfl (lv_at hl 0 rfl) ?_
  refine lv_aload_n hx hb d_Reader_init_18 rfl (lv_at hl 2 rfl) ?_
  refine va_putF (D := D) (ci := 3) (v := .ref k) (ty := .object "TokenDesk$Tokens") (C := R_Reader) (T := T_Reader) (N := 10) hx hb hts in_Reader t_Reader tk_Reader n_Reader hown hK hP hD hS 0 rfl rfl 1 (by decide) (hts _ q_f_Reader_19) (fun _ h9 => h9) rfl hin rfl (by decide +kernel) rfl rfl (Nat.le_of_ble_eq_true rfl) d_Reader_init_19 (fun H locs hP hD hS => ?_)
  have hP : va_P D vwCl [(h0, .inr (3, [.ref t, .ref k, .null, .ref q, .int 0, .int 0, .int 0, .int 0, .int 0, .int 0])), (q, .inl (ty 0, 100, .inl (fun _ => 0)))] H := hP
  have hD : va_D A [(h0, .inr (3, [.ref t, .ref k, .null, .ref q, .int 0, .int 0, .int 0, .int 0, .int 0, .int 0])), (q, .inl (ty 0, 100, .inl (fun _ => 0)))] := hD
  refine lv_aload_n hx hb d_Reader_init_22 rfl (lv_at hl 0 rfl) ?_
  refine va_new (ci := 4) (fs := [.null]) (C := R_Shapes) (T := T_Shapes) (N := 1) hx hb hts in_Shapes t_Shapes tk_Shapes hown (hts _ q_x_Reader_23) (hts _ q_n_Shapes) (hts _ q_i_TokenDesk_Shapes) hK hP hD hS hA rfl (fun j hj => by rcases (show j = 0 by omega) with rfl; rfl) (by rw [hR]; exact Nat.le_of_ble_eq_true rfl) (by rw [hR]; exact Nat.le_of_ble_eq_true rfl) d_Reader_init_23 (fun q2 H hP hD hS => ?_)
  refine lv_dup hx hb d_Reader_init_26 rfl ?_
  refine lv_aload_n hx hb d_Reader_init_27 rfl (lv_at hl 1 rfl) ?_
  refine g_fcallI (Wd := i_Shapes q2 t) (σ := false) (Wr := [(h0, .inr (3, [.ref t, .ref k, .null, .ref q, .int 0, .int 0, .int 0, .int 0, .int 0, .int 0])), (q, .inl (ty 0, 100, .inl (fun _ => 0)))]) ⟨hx, hb, hml, hown, hts⟩ (c_Shapes_init (cd := cd)) ⟨callB_of 1 hts (g_good q_k_Shapes_init) rfl rfl rfl (hts _ q_i_TokenDesk_Shapes) (hts _ q_l_Reader_25) (by decide +kernel) (by rw [hR]; exact ⟨Nat.le_of_ble_eq_true rfl, Nat.le_of_ble_eq_true rfl⟩), rfl, hts _ q_m_Shapes_init⟩ cN_g hK hP hD hS hA hCx rfl hl.1 rfl (Nat.le_of_ble_eq_true rfl) d_Reader_init_28 (by rw [hR]; exact ⟨Nat.le_of_ble_eq_true rfl, Nat.le_of_ble_eq_true rfl⟩) (fun u H locs hu hP hD hS => ?_)
  subst hu
  refine va_putF (D := D) (ci := 3) (v := .ref q2) (ty := .object "TokenDesk$Shapes") (C := R_Reader) (T := T_Reader) (N := 10) hx hb hts in_Reader t_Reader tk_Reader n_Reader hown hK hP hD hS 0 rfl rfl 2 (by decide) (hts _ q_f_Reader_28) (fun _ h9 => h9) rfl hin rfl (by decide +kernel) rfl rfl (Nat.le_of_ble_eq_true rfl) d_Reader_init_31 (fun H locs hP hD hS => ?_)
  exact hret (some (q, q2)) _ _ _ _ ⟨_, rfl⟩ hP hD hS d_Reader_init_34
end CTOR
