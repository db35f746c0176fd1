/-! generic contracts over one world: a method's world is the whole system's; a state S of numbers and functions says what the cells hold -/
def vB (r : Int32) : Prop := narrow .boolean (.int r) = .int r
theorem vp_ltI {i : Int32} {n : Nat} (h : vp_in i n) : i.toNatClampNeg < n := Nat.not_le.mp fun q => h (Or.inr q)
def g_Pre {S : Type} (D : va_G) (cl : List vw_C) (tys : List (ClassId × FieldType)) (Wd : S → va_W) (Cx : (Nat → Prop) → State → Prop) (sz : Nat) (σ : S) (U : State) : Prop :=
  U.heap.size = sz ∧ va_P D cl (Wd σ) U.heap ∧ va_K D cl tys U ∧ va_D (fun _ => True) (Wd σ) ∧ Cx (va_A (Wd σ) sz) U
def g_B {S : Type} (D : va_G) (cl : List vw_C) (Wd : S → va_W) (A : Nat → Prop) (σ : S) (t : State) : Prop := va_P D cl (Wd σ) t.heap ∧ va_D A (Wd σ)
def g_Meti {S : Type} (l : Launch) (y : MethodName) (ws : List Cond) (rm : Room) (D : va_G) (cl : List vw_C) (tys : List (ClassId × FieldType)) (Wd : S → va_W) (Cx : (Nat → Prop) → State → Prop) (av : List Value) (σ : S) (post : Int32 → S → Prop) : Prop :=
  ∀ sz : Nat, Met l y ws rm (va_Pc av (g_Pre D cl tys Wd Cx sz σ)) (va_Qi post (g_B D cl Wd (va_A (Wd σ) sz)) (va_A (Wd σ) sz)) 0 0 (va_A (Wd σ) sz)
def g_Metv {S : Type} (l : Launch) (y : MethodName) (ws : List Cond) (rm : Room) (D : va_G) (cl : List vw_C) (tys : List (ClassId × FieldType)) (Wd : S → va_W) (Cx : (Nat → Prop) → State → Prop) (av : List Value) (σ : S) (post : S → Prop) : Prop :=
  ∀ sz : Nat, Met l y ws rm (va_Pc av (g_Pre D cl tys Wd Cx sz σ)) (va_Qv post (g_B D cl Wd (va_A (Wd σ) sz)) (va_A (Wd σ) sz)) 0 0 (va_A (Wd σ) sz)
/-- what a context must be good for: it sees the heap and the tables alone, and it stays where nothing outside A is written -/
def g_Cg (Cx : (Nat → Prop) → State → Prop) : Prop :=
  (∀ (A : Nat → Prop) (s : State) (g : JFrame) (mk : MethodId) (a : Array Value), Cx A s → Cx A (s.calling g mk a)) ∧ ∀ (A B : Nat → Prop) (s U : State) (locs : List Loc), Cx A s → s.WarmedH U.vm → va_S A s.heap U.heap locs → (∀ q, B q → A q) → Cx B U
section GSTART
variable {S : Type} {l : Launch} {y : MethodName} {ws ws' : List Cond} {rm : Room} {D : va_G} {cl : List vw_C} {tys : List (ClassId × FieldType)} {Wd : S → va_W} {Cx : (Nat → Prop) → State → Prop} {av : List Value} {σ : S} {cc : ByteArray} {maxL : Nat}
theorem g_starti {post : Int32 → S → Prop} (hy : plainName y.cls = true) (hw : ws = Cond.code y cc maxL (some .int) :: ws') (hn : (lg_sl av).length ≤ maxL)
    (body : ∀ (p : Program) (e : Env) (s : State) (m : MethodId) (args : Array Value) (below : List Frame) (meth : Method) (c : Code) (A : Nat → Prop) (Q : State → Prop) (R : Room) (ls : Array Slot), R = rm → p.tables.exec = Jvm.exec → c.code = cc → (∀ w ∈ ws', w.before args s = true) → s.vm.findClass y.cls = some m.cls → c.maxLocals = maxL → (∀ q : Nat, s.heap.size ≤ q → A q) → va_S A s.heap s.heap [] → va_P D cl (Wd σ) s.heap → va_D A (Wd σ) → va_K D cl tys s → Cx A s → lv_has ls maxL (lv_args 0 av) →
      (∀ (r : Int32) (σ' : S) (H : Heap) (locs : List Loc) (ls : Array Slot) (pc : Nat), post r σ' → va_P D cl (Wd σ') H → va_D A (Wd σ') → va_S A s.heap H locs → decode cc pc = .ok (.ireturn, 1) → W p l e R s m args below meth c H locs 0 0 Q (F0 m pc ls [.int r])) →
      W p l e R s m args below meth c s.heap [] 0 0 Q (F0 m 0 ls [])) : g_Meti l y ws rm D cl tys Wd Cx av σ post := by
  intro sz
  refine Met.ofW (cc := cc) (maxL := maxL) (ret := some .int) hy hw ?_
  intro p e s m args below meth c s₁ B hml hv
  obtain ⟨rfl, hsz, hP, hK, hD0, hC⟩ := hv
  subst hsz
  have hlocks := B.notSynchronized
  have hx := B.exec
  have hb := B.bytes
  have hr := B.returns
  have hts := atoms_spec (ws := ws) B.pre
  have hl := lv_entry av (n := maxL) hn
  rw [lg_entry_eq]
  generalize (lg_sl av ++ List.replicate (maxL - (lg_sl av).length) Slot.unset).toArray = ls at hl ⊢
  refine body p e s m _ below meth c (va_A (Wd σ) s.heap.size) _ _ ls rfl hx hb (fun w h => hts w (by rw [hw]; exact List.mem_cons_of_mem _ h)) (findClass_of_methodNamed B.named) hml (fun q h => Or.inr h) va_S.rf hP hD0.self hK hC hl ?_
  intro r σ' H locs ls pc hp hP hD hS hdg
  exact W.iret hx hb hr (fun t ht hW => ⟨⟨r, σ', rfl, hp, by rw [ht]; exact hP, hD⟩, hS.F ht⟩) hS.2.2 hdg
theorem g_startz {post : Int32 → S → Prop} (hy : plainName y.cls = true) (hw : ws = Cond.code y cc maxL (some .boolean) :: ws') (hn : (lg_sl av).length ≤ maxL)
    (body : ∀ (p : Program) (e : Env) (s : State) (m : MethodId) (args : Array Value) (below : List Frame) (meth : Method) (c : Code) (A : Nat → Prop) (Q : State → Prop) (R : Room) (ls : Array Slot), R = rm → p.tables.exec = Jvm.exec → c.code = cc → (∀ w ∈ ws', w.before args s = true) → s.vm.findClass y.cls = some m.cls → c.maxLocals = maxL → (∀ q : Nat, s.heap.size ≤ q → A q) → va_S A s.heap s.heap [] → va_P D cl (Wd σ) s.heap → va_D A (Wd σ) → va_K D cl tys s → Cx A s → lv_has ls maxL (lv_args 0 av) →
      (∀ (r : Int32) (σ' : S) (H : Heap) (locs : List Loc) (ls : Array Slot) (pc : Nat), post r σ' → vB r → va_P D cl (Wd σ') H → va_D A (Wd σ') → va_S A s.heap H locs → decode cc pc = .ok (.ireturn, 1) → W p l e R s m args below meth c H locs 0 0 Q (F0 m pc ls [.int r])) →
      W p l e R s m args below meth c s.heap [] 0 0 Q (F0 m 0 ls [])) : g_Meti l y ws rm D cl tys Wd Cx av σ post := by
  intro sz
  refine Met.ofW (cc := cc) (maxL := maxL) (ret := some .boolean) hy hw ?_
  intro p e s m args below meth c s₁ B hml hv
  obtain ⟨rfl, hsz, hP, hK, hD0, hC⟩ := hv
  subst hsz
  have hlocks := B.notSynchronized
  have hx := B.exec
  have hb := B.bytes
  have hr := B.returns
  have hts := atoms_spec (ws := ws) B.pre
  have hl := lv_entry av (n := maxL) hn
  rw [lg_entry_eq]
  generalize (lg_sl av ++ List.replicate (maxL - (lg_sl av).length) Slot.unset).toArray = ls at hl ⊢
  refine body p e s m _ below meth c (va_A (Wd σ) s.heap.size) _ _ ls rfl hx hb (fun w h => hts w (by rw [hw]; exact List.mem_cons_of_mem _ h)) (findClass_of_methodNamed B.named) hml (fun q h => Or.inr h) va_S.rf hP hD0.self hK hC hl ?_
  intro r σ' H locs ls pc hp hv hP hD hS hdg
  exact W.zret hx hb hr hv (fun t ht hW => ⟨⟨r, σ', rfl, hp, by rw [ht]; exact hP, hD⟩, hS.F ht⟩) hS.2.2 hdg
theorem g_startv {post : S → Prop} (hy : plainName y.cls = true) (hw : ws = Cond.code y cc maxL none :: ws') (hn : (lg_sl av).length ≤ maxL)
    (body : ∀ (p : Program) (e : Env) (s : State) (m : MethodId) (args : Array Value) (below : List Frame) (meth : Method) (c : Code) (A : Nat → Prop) (Q : State → Prop) (R : Room) (ls : Array Slot), R = rm → p.tables.exec = Jvm.exec → c.code = cc → (∀ w ∈ ws', w.before args s = true) → s.vm.findClass y.cls = some m.cls → c.maxLocals = maxL → (∀ q : Nat, s.heap.size ≤ q → A q) → va_S A s.heap s.heap [] → va_P D cl (Wd σ) s.heap → va_D A (Wd σ) → va_K D cl tys s → Cx A s → lv_has ls maxL (lv_args 0 av) →
      (∀ (σ' : S) (H : Heap) (locs : List Loc) (ls : Array Slot) (pc : Nat), post σ' → va_P D cl (Wd σ') H → va_D A (Wd σ') → va_S A s.heap H locs → decode cc pc = .ok (.return_, 1) → W p l e R s m args below meth c H locs 0 0 Q (F0 m pc ls [])) →
      W p l e R s m args below meth c s.heap [] 0 0 Q (F0 m 0 ls [])) : g_Metv l y ws rm D cl tys Wd Cx av σ post := by
  intro sz
  refine Met.ofW (cc := cc) (maxL := maxL) (ret := none) hy hw ?_
  intro p e s m args below meth c s₁ B hml hv
  obtain ⟨rfl, hsz, hP, hK, hD0, hC⟩ := hv
  subst hsz
  have hlocks := B.notSynchronized
  have hx := B.exec
  have hb := B.bytes
  have hr := B.returns
  have hts := atoms_spec (ws := ws) B.pre
  have hl := lv_entry av (n := maxL) hn
  rw [lg_entry_eq]
  generalize (lg_sl av ++ List.replicate (maxL - (lg_sl av).length) Slot.unset).toArray = ls at hl ⊢
  refine body p e s m _ below meth c (va_A (Wd σ) s.heap.size) _ _ ls rfl hx hb (fun w h => hts w (by rw [hw]; exact List.mem_cons_of_mem _ h)) (findClass_of_methodNamed B.named) hml (fun q h => Or.inr h) va_S.rf hP hD0.self hK hC hl ?_
  intro σ' H locs ls pc hp hP hD hS hdg
  exact W.vret hx hb hr (fun t ht hW => ⟨⟨σ', rfl, hp, by rw [ht]; exact hP, hD⟩, hS.F ht⟩) hS.2.2 hdg
end GSTART
section GCALL
variable {S : Type} {p : Program} {l : Launch} {e : Env} {R : Room} {s : State} {m : MethodId} {args : Array Value} {below : List Frame} {meth : Method} {c : Code} {H : Heap} {locs : List Loc} {cells slots : Nat} {Q : State → Prop}
variable {D : va_G} {cl : List vw_C} {tys : List (ClassId × FieldType)} {Wd : S → va_W} {Cx : (Nat → Prop) → State → Prop} {σ : S} {A : Nat → Prop} {pc : Nat} {ls : Array Slot}
variable {y : MethodName} {bytes cc : ByteArray} {maxL nL n index : Nat} {ret : Option FieldType} {ws : List Cond} {rm : Room} {Ts : List Cond} {own C : String} {b : Nat} {As rest st0 : List Value}
theorem g_hF (hD : va_D A (Wd σ)) (hS : va_S A s.heap H locs) (hA : ∀ q : Nat, s.heap.size ≤ q → A q) : ∀ q, va_A (Wd σ) H.size q → A q := by
  intro q h
  rcases h with ⟨k, e, h⟩ | h
  · exact hD.2 k (q, e) h
  · exact hA q (Nat.le_trans hS.1 h)
theorem g_blind {av : List Value} {sz : Nat} (hG : g_Cg Cx) : FrameBlind (va_Pc av (g_Pre D cl tys Wd Cx sz σ)) := by
  rintro a U g mk ⟨q0, q1, q2, q3, q4, q5⟩
  exact ⟨q0, q1, q2, va_K.moved (u := U) (U := U.calling g mk a) (Vm.Alike.refl U.vm) q3, q4, hG.1 _ _ _ _ _ q5⟩
theorem g_pre {av : List Value} (hG : g_Cg Cx) (hK : va_K D cl tys s) (hP : va_P D cl (Wd σ) H) (hD : va_D A (Wd σ)) (hS : va_S A s.heap H locs) (hA : ∀ q : Nat, s.heap.size ≤ q → A q) (hC : Cx A s) : ∀ U : State, U.heap = H → s.WarmedH U.vm → va_Pc av (g_Pre D cl tys Wd Cx H.size σ) av.toArray U := by
  intro U hU hW
  exact ⟨rfl, by rw [hU], by rw [hU]; exact hP, va_K.moved hW.alike hK, hD.weaken (fun _ _ _ _ => trivial), hG.2 A _ s U locs hC hW (by rw [hU]; exact hS) (g_hF hD hS hA)⟩
theorem g_callVi {post : Int32 → S → Prop} (S0 : CallFix p m c cc nL s args Ts own) (hM : g_Meti l y ws rm D cl tys Wd Cx (.ref b :: As) σ post) (cw : CallW R s args own C index y bytes maxL ret ws rm 0 0 n) (hrec : ∃ cellB : Cell, H[b]? = some cellB ∧ cellB.vm.isStatics = false ∧ s.vm.findClass C = some cellB.cls)
    (hG : g_Cg Cx) (hK : va_K D cl tys s) (hP : va_P D cl (Wd σ) H) (hD : va_D A (Wd σ)) (hS : va_S A s.heap H locs) (hA : ∀ q : Nat, s.heap.size ≤ q → A q) (hC : Cx A s) (hn : As.length = n) (hsize : ls.size = nL) (hst : st0 = As.reverse ++ .ref b :: rest) (hW : (rest.map fun v => v.category).sum ≤ 8) (hdg : decode cc pc = .ok (.invokevirtual index, 3)) (hf : cells ≤ R.cells ∧ slots ≤ R.slots)
    (kk : ∀ (r : Int32) (σ1 : S) (H1 : Heap) (locs1 : List Loc), post r σ1 → va_P D cl (Wd σ1) H1 → va_D A (Wd σ1) → va_S A s.heap H1 locs1 → W p l e R s m args below meth c H1 locs1 cells slots Q (F0 m (pc + 3) ls (.int r :: rest))) : W p l e R s m args below meth c H locs cells slots Q (F0 m pc ls st0) := by
  have hF := g_hF hD hS hA
  refine va_calli (va_runV (As := As) (rest := rest) S0 (hM H.size) cw ⟨g_blind hG, hrec, g_pre hG hK hP hD hS hA hC⟩ rfl hn hsize hst (lv_room hW) hdg hf) hS (fun q _ h => hF q h) hF (fun r u t H1 locs1 ht hvm hp hB hz hk hS1 => ?_)
  exact kk r u H1 locs1 hp (by rw [← ht]; exact hB.1) (hB.2.weaken (fun _ q _ h => hF _ h)) hS1
theorem g_callVv {post : S → Prop} (S0 : CallFix p m c cc nL s args Ts own) (hM : g_Metv l y ws rm D cl tys Wd Cx (.ref b :: As) σ post) (cw : CallW R s args own C index y bytes maxL ret ws rm 0 0 n) (hrec : ∃ cellB : Cell, H[b]? = some cellB ∧ cellB.vm.isStatics = false ∧ s.vm.findClass C = some cellB.cls)
    (hG : g_Cg Cx) (hK : va_K D cl tys s) (hP : va_P D cl (Wd σ) H) (hD : va_D A (Wd σ)) (hS : va_S A s.heap H locs) (hA : ∀ q : Nat, s.heap.size ≤ q → A q) (hC : Cx A s) (hn : As.length = n) (hsize : ls.size = nL) (hst : st0 = As.reverse ++ .ref b :: rest) (hW : (rest.map fun v => v.category).sum ≤ 8) (hdg : decode cc pc = .ok (.invokevirtual index, 3)) (hf : cells ≤ R.cells ∧ slots ≤ R.slots)
    (kk : ∀ (σ1 : S) (H1 : Heap) (locs1 : List Loc), post σ1 → va_P D cl (Wd σ1) H1 → va_D A (Wd σ1) → va_S A s.heap H1 locs1 → W p l e R s m args below meth c H1 locs1 cells slots Q (F0 m (pc + 3) ls rest)) : W p l e R s m args below meth c H locs cells slots Q (F0 m pc ls st0) := by
  have hF := g_hF hD hS hA
  refine va_callv (va_runV (As := As) (rest := rest) S0 (hM H.size) cw ⟨g_blind hG, hrec, g_pre hG hK hP hD hS hA hC⟩ rfl hn hsize hst (lv_room hW) hdg hf) hS (fun q _ h => hF q h) hF (fun u t H1 locs1 ht hvm hp hB hz hk hS1 => ?_)
  exact kk u H1 locs1 hp (by rw [← ht]; exact hB.1) (hB.2.weaken (fun _ q _ h => hF _ h)) hS1
theorem g_callSi {post : Int32 → S → Prop} (S0 : CallFix p m c cc nL s args Ts own) (hM : g_Meti l y ws rm D cl tys Wd Cx As σ post) (cw : CallB R s args own index y bytes maxL ret ws rm 0 0 n ∧ (Cond.static y).before args s = true)
    (hG : g_Cg Cx) (hK : va_K D cl tys s) (hP : va_P D cl (Wd σ) H) (hD : va_D A (Wd σ)) (hS : va_S A s.heap H locs) (hA : ∀ q : Nat, s.heap.size ≤ q → A q) (hC : Cx A s) (hn : As.length = n) (hsize : ls.size = nL) (hst : st0 = As.reverse ++ rest) (hW : (rest.map fun v => v.category).sum ≤ 8) (hdg : decode cc pc = .ok (.invokestatic index, 3)) (hf : cells ≤ R.cells ∧ slots ≤ R.slots)
    (kk : ∀ (r : Int32) (σ1 : S) (H1 : Heap) (locs1 : List Loc), post r σ1 → va_P D cl (Wd σ1) H1 → va_D A (Wd σ1) → va_S A s.heap H1 locs1 → W p l e R s m args below meth c H1 locs1 cells slots Q (F0 m (pc + 3) ls (.int r :: rest))) : W p l e R s m args below meth c H locs cells slots Q (F0 m pc ls st0) := by
  have hF := g_hF hD hS hA
  refine va_calli (va_runS (As := As) (rest := rest) S0 (hM H.size) cw ⟨g_blind hG, g_pre hG hK hP hD hS hA hC⟩ rfl hn hsize hst (lv_room hW) hdg hf) hS (fun q _ h => hF q h) hF (fun r u t H1 locs1 ht hvm hp hB hz hk hS1 => ?_)
  exact kk r u H1 locs1 hp (by rw [← ht]; exact hB.1) (hB.2.weaken (fun _ q _ h => hF _ h)) hS1
theorem g_callSv {post : S → Prop} (S0 : CallFix p m c cc nL s args Ts own) (hM : g_Metv l y ws rm D cl tys Wd Cx As σ post) (cw : CallB R s args own index y bytes maxL ret ws rm 0 0 n ∧ (Cond.static y).before args s = true)
    (hG : g_Cg Cx) (hK : va_K D cl tys s) (hP : va_P D cl (Wd σ) H) (hD : va_D A (Wd σ)) (hS : va_S A s.heap H locs) (hA : ∀ q : Nat, s.heap.size ≤ q → A q) (hC : Cx A s) (hn : As.length = n) (hsize : ls.size = nL) (hst : st0 = As.reverse ++ rest) (hW : (rest.map fun v => v.category).sum ≤ 8) (hdg : decode cc pc = .ok (.invokestatic index, 3)) (hf : cells ≤ R.cells ∧ slots ≤ R.slots)
    (kk : ∀ (σ1 : S) (H1 : Heap) (locs1 : List Loc), post σ1 → va_P D cl (Wd σ1) H1 → va_D A (Wd σ1) → va_S A s.heap H1 locs1 → W p l e R s m args below meth c H1 locs1 cells slots Q (F0 m (pc + 3) ls rest)) : W p l e R s m args below meth c H locs cells slots Q (F0 m pc ls st0) := by
  have hF := g_hF hD hS hA
  refine va_callv (va_runS (As := As) (rest := rest) S0 (hM H.size) cw ⟨g_blind hG, g_pre hG hK hP hD hS hA hC⟩ rfl hn hsize hst (lv_room hW) hdg hf) hS (fun q _ h => hF q h) hF (fun u t H1 locs1 ht hvm hp hB hz hk hS1 => ?_)
  exact kk u H1 locs1 hp (by rw [← ht]; exact hB.1) (hB.2.weaken (fun _ q _ h => hF _ h)) hS1
end GCALL
