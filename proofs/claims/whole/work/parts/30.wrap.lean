/-! the frame: a callee's world is the last part of the caller's -/
theorem g_suf {D : va_G} {cl : List vw_C} {Wr wc : va_W} {H : Heap} (hP : va_P D cl (Wr ++ wc) H) : va_P D cl wc H := fun k q hk => hP (Wr.length + k) q (by rw [List.getElem?_append_right (by omega), show Wr.length + k - Wr.length = k by omega]; exact hk)
theorem g_sufD {A : Nat → Prop} {Wr wc : va_W} (hD : va_D A (Wr ++ wc)) : va_D A wc := by
  have at' : ∀ (k : Nat) (q : Nat × va_E), wc[k]? = some q → (Wr ++ wc)[Wr.length + k]? = some q := fun k q hk => by rw [List.getElem?_append_right (by omega), show Wr.length + k - Wr.length = k by omega]; exact hk
  refine ⟨fun i j p q hi hj hpq => ?_, fun k q hk => hD.2 _ q (at' k q hk)⟩
  have := hD.1 _ _ p q (at' i p hi) (at' j q hj) hpq
  omega
theorem g_frame {A : Nat → Prop} {D : va_G} {cl : List vw_C} {Wr wc w1 : va_W} {H H1 : Heap} (hP : va_P D cl (Wr ++ wc) H) (hD : va_D A (Wr ++ wc)) (hk : ∀ q : Nat, q < H.size → ¬ va_A wc H.size q → H1[q]? = H[q]?) (hF : ∀ q, va_A wc H.size q → A q) (hP1 : va_P D cl w1 H1) (hD1 : va_D (va_A wc H.size) w1) : va_P D cl (Wr ++ w1) H1 ∧ va_D A (Wr ++ w1) := by
  have atL : ∀ (k : Nat) (q : Nat × va_E), Wr[k]? = some q → (Wr ++ wc)[k]? = some q := fun k q h => by rw [List.getElem?_append_left (List.getElem?_eq_some_iff.mp h).1]; exact h
  have atR : ∀ (k : Nat) (q : Nat × va_E), wc[k]? = some q → (Wr ++ wc)[Wr.length + k]? = some q := fun k q h => by rw [List.getElem?_append_right (by omega), show Wr.length + k - Wr.length = k by omega]; exact h
  have apart : ∀ (k : Nat) (q : Nat × va_E), Wr[k]? = some q → q.1 < H.size ∧ ¬ va_A wc H.size q.1 := by
    intro k q hq
    have hl := (hP k q (atL k q hq)).lt
    refine ⟨hl, fun h => ?_⟩
    rcases h with ⟨k2, e, h⟩ | h
    · have h3 := hD.1 k (Wr.length + k2) q (q.1, e) (atL k q hq) (atR k2 _ h) rfl
      have := (List.getElem?_eq_some_iff.mp hq).1
      omega
    · omega
  refine ⟨va_P.app (fun k q hq => (hP k q (atL k q hq)).kept (hk q.1 (apart k q hq).1 (apart k q hq).2)) hP1, va_D.app ⟨fun i j p q hi hj e => hD.1 i j p q (atL i p hi) (atL j q hj) e, fun k q hq => hD.2 k q (atL k q hq)⟩ (hD1.weaken (fun k q _ h => hF q.1 h)) (fun i j x y hx hy hxy => ?_)⟩
  exact (apart i x hx).2 (by rw [hxy]; exact hD1.2 j y hy)
section GFR
variable {S : Type} {p : Program} {l : Launch} {e : Env} {R : Room} {s : State} {m : MethodId} {args : Array Value} {below : List Frame} {meth : Method} {c : Code} {H : Heap} {locs : List Loc} {cells slots : Nat} {Q : State → Prop}
variable {D : va_G} {cl : List vw_C} {tys : List (ClassId × FieldType)} {Wd : S → va_W} {Cx : (Nat → Prop) → State → Prop} {σ : S} {A : Nat → Prop} {pc : Nat} {ls : Array Slot} {Wr : va_W}
variable {y : MethodName} {bytes cc : ByteArray} {maxL nL n index : Nat} {ret : Option FieldType} {ws : List Cond} {rm : Room} {Ts : List Cond} {own C : String} {b : Nat} {As rest st0 : List Value}
theorem g_callT {post : Int32 → S → Prop} {px : String → S → Prop} (S0 : CallFix p m c cc nL s args Ts own) (hM : g_MetT l y ws rm D cl tys Wd Cx (.ref b :: As) σ post px) (cw : CallW R s args own C index y bytes maxL ret ws rm 1 6 n) (hrec : ∃ cellB : Cell, H[b]? = some cellB ∧ cellB.vm.isStatics = false ∧ s.vm.findClass C = some cellB.cls)
    (hG : g_Cg Cx) (hK : va_K D cl tys s) (hP : va_P D cl (Wr ++ Wd σ) H) (hD : va_D A (Wr ++ Wd σ)) (hS : va_S A s.heap H locs) (hA : ∀ q : Nat, s.heap.size ≤ q → A q) (hC : Cx A s) (hn : As.length = n) (hsize : ls.size = nL) (hst : st0 = As.reverse ++ .ref b :: rest) (hW : (rest.map fun v => v.category).sum ≤ 8) (hdg : decode cc pc = .ok (.invokevirtual index, 3)) (hf : cells + 1 ≤ R.cells ∧ slots + 6 ≤ R.slots)
    (kx : ∀ (E : String) (ce : Cell) (q9 : Addr) (σ1 : S) (H1 : Heap) (locs1 : List Loc), px E σ1 → va_P D cl (Wr ++ Wd σ1) H1 → va_D A (Wr ++ Wd σ1) → va_S A s.heap H1 locs1 → H1[q9]? = some ce → ce.vm = .none → s.vm.findClass E = some ce.cls → vx_W p l e R s m args below meth c H1 locs1 (cells + 1) (slots + 6) Q (F0 m pc ls rest) q9)
    (kk : ∀ (r : Int32) (σ1 : S) (H1 : Heap) (locs1 : List Loc), post r σ1 → va_P D cl (Wr ++ Wd σ1) H1 → va_D A (Wr ++ Wd σ1) → va_S A s.heap H1 locs1 → W p l e R s m args below meth c H1 locs1 (cells + 1) (slots + 6) Q (F0 m (pc + 3) ls (.int r :: rest))) : W p l e R s m args below meth c H locs cells slots Q (F0 m pc ls st0) := by
  have hF := g_hF (Wd := Wd) (σ := σ) (g_sufD hD) hS hA
  refine vx_calli (vx_runV (As := As) (rest := rest) S0 (hM H.size) cw ⟨g_blind hG, hrec, g_pre hG hK (g_suf hP) (g_sufD hD) hS hA hC⟩ rfl hn hsize hst (lv_room hW) hdg hf) hS (fun q _ h => hF q h) hF (fun q _ h => hF q h) (fun E ce q9 u t H1 locs1 ht hvm _ hB hz hk hS1 hc1 hc2 hc3 => ?_) (fun r u t H1 locs1 ht hvm hp hB hz hk hS1 => ?_)
  · obtain ⟨a1, a2⟩ := g_frame hP hD hk hF (by rw [← ht]; exact hB.2.1) hB.2.2
    exact kx E ce q9 u H1 locs1 hB.1 a1 a2 hS1 hc1 hc2 hc3
  · obtain ⟨a1, a2⟩ := g_frame hP hD hk hF (by rw [← ht]; exact hB.1) hB.2
    exact kk r u H1 locs1 hp a1 a2 hS1
theorem g_fcallVi {post : Int32 → S → Prop} (S0 : CallFix p m c cc nL s args Ts own) (hM : g_Meti l y ws rm D cl tys Wd Cx (.ref b :: As) σ post) (cw : CallW R s args own C index y bytes maxL ret ws rm 0 0 n) (hrec : ∃ cellB : Cell, H[b]? = some cellB ∧ cellB.vm.isStatics = false ∧ s.vm.findClass C = some cellB.cls)
    (hG : g_Cg Cx) (hK : va_K D cl tys s) (hP : va_P D cl (Wr ++ Wd σ) H) (hD : va_D A (Wr ++ Wd σ)) (hS : va_S A s.heap H locs) (hA : ∀ q : Nat, s.heap.size ≤ q → A q) (hC : Cx A s) (hn : As.length = n) (hsize : ls.size = nL) (hst : st0 = As.reverse ++ .ref b :: rest) (hW : (rest.map fun v => v.category).sum ≤ 8) (hdg : decode cc pc = .ok (.invokevirtual index, 3)) (hf : cells ≤ R.cells ∧ slots ≤ R.slots)
    (kk : ∀ (r : Int32) (σ1 : S) (H1 : Heap) (locs1 : List Loc), post r σ1 → va_P D cl (Wr ++ Wd σ1) H1 → va_D A (Wr ++ Wd σ1) → va_S A s.heap H1 locs1 → W p l e R s m args below meth c H1 locs1 cells slots Q (F0 m (pc + 3) ls (.int r :: rest))) : W p l e R s m args below meth c H locs cells slots Q (F0 m pc ls st0) := by
  have hF := g_hF (Wd := Wd) (σ := σ) (g_sufD hD) hS hA
  refine va_calli (va_runV (As := As) (rest := rest) S0 (hM H.size) cw ⟨g_blind hG, hrec, g_pre hG hK (g_suf hP) (g_sufD hD) hS hA hC⟩ rfl hn hsize hst (lv_room hW) hdg hf) hS (fun q _ h => hF q h) hF (fun r u t H1 locs1 ht hvm hp hB hz hk hS1 => ?_)
  obtain ⟨a1, a2⟩ := g_frame hP hD hk hF (by rw [← ht]; exact hB.1) hB.2
  exact kk r u H1 locs1 hp a1 a2 hS1
end GFR
/-- a static method with handlers: an int comes back, at most one cell of six slots is new -/
def g_Metc {S : Type} (l : Launch) (y : MethodName) (ws : List Cond) (rm : Room) (D : va_G) (cl : List vw_C) (tys : List (ClassId × FieldType)) (Wd : S → va_W) (Cx : (Nat → Prop) → State → Prop) (av : List Value) (σ : S) (post : Int32 → S → Prop) : Prop :=
  ∀ sz : Nat, Met l y ws rm (va_Pc av (g_Pre D cl tys Wd Cx sz σ)) (va_Qi post (g_B D cl Wd (va_A (Wd σ) sz)) (va_A (Wd σ) sz)) 1 6 (va_A (Wd σ) sz)
theorem g_startc {S : Type} {l : Launch} {y : MethodName} {ws ws' : List Cond} {rm : Room} {D : va_G} {cl : List vw_C} {tys : List (ClassId × FieldType)} {Wd : S → va_W} {Cx : (Nat → Prop) → State → Prop} {av : List Value} {σ : S} {cc : ByteArray} {maxL : Nat} {hh : List (Nat × Nat × Nat × Nat)} {post : Int32 → S → Prop} (hy : plainName y.cls = true) (hw : ws = Cond.codeWith y cc maxL (some .int) hh :: ws') (hn : (lg_sl av).length ≤ maxL)
    (body : ∀ (p : Program) (e : Env) (s : State) (m : MethodId) (args : Array Value) (below : List Frame) (meth : Method) (c : Code) (A : Nat → Prop) (Q : State → Prop) (R : Room) (ls : Array Slot), R = rm → p.tables.exec = Jvm.exec → c.code = cc → (∀ w ∈ ws', w.before args s = true) → s.vm.findClass y.cls = some m.cls → c.maxLocals = maxL → c.exceptionTable.toList = tableOf hh → (∀ q : Nat, s.heap.size ≤ q → A q) → va_S A s.heap s.heap [] → va_P D cl (Wd σ) s.heap → va_D A (Wd σ) → va_K D cl tys s → Cx A s → lv_has ls maxL (lv_args 0 av) →
      (∀ (r : Int32) (σ' : S) (H : Heap) (locs : List Loc) (ls : Array Slot) (pc : Nat), post r σ' → va_P D cl (Wd σ') H → va_D A (Wd σ') → va_S A s.heap H locs → decode cc pc = .ok (.ireturn, 1) → W p l e R s m args below meth c H locs 1 6 Q (F0 m pc ls [.int r])) →
      W p l e R s m args below meth c s.heap [] 0 0 Q (F0 m 0 ls [])) : g_Metc l y ws rm D cl tys Wd Cx av σ post := by
  intro sz
  refine va_MetW (cc := cc) (maxL := maxL) (ret := some .int) (hh := hh) hy hw ?_
  intro p e s m args below meth c s₁ B hml hv
  obtain ⟨rfl, hsz, hP, hK, hD0, hC⟩ := hv
  subst hsz
  have hlocks := B.notSynchronized
  have hx := B.exec
  have hb := B.bytes
  have hr := B.returns
  have hts := atoms_spec (ws := ws) B.pre
  have htab : c.exceptionTable.toList = tableOf hh := vx_table (x := y) B (hts (.codeWith y cc maxL (some .int) hh) (by rw [hw]; exact List.mem_cons_self))
  have hl := lv_entry av (n := maxL) hn
  rw [lg_entry_eq]
  generalize (lg_sl av ++ List.replicate (maxL - (lg_sl av).length) Slot.unset).toArray = ls at hl ⊢
  refine body p e s m _ below meth c (va_A (Wd σ) s.heap.size) _ _ ls rfl hx hb (fun w h => hts w (by rw [hw]; exact List.mem_cons_of_mem _ h)) (findClass_of_methodNamed B.named) hml htab (fun q h => Or.inr h) va_S.rf hP hD0.self hK hC hl ?_
  intro r σ' H locs ls pc hp hP hD hS hdg
  exact W.iret hx hb hr (fun t ht hW => ⟨⟨r, σ', rfl, hp, by rw [ht]; exact hP, hD⟩, hS.F ht⟩) hS.2.2 hdg
theorem g_cwT {R : Room} {s : State} {args : Array Value} {own C : String} {index maxL : Nat} {y : MethodName} {bytes : ByteArray} {ret : Option FieldType} {rm : Room} (n : Nat) (hts : ∀ w ∈ gW, w.before args s = true) (hl : Cond.methodLink own index y ∈ gW) (hi : Cond.instanceMethod y ∈ gW) (hs : Cond.selects C y y ∈ gW) (hini : Cond.initialized y.cls ∈ gW) (hk : Cond.code y bytes maxL ret ∈ gW)
    (hd : y.cls ≠ "java/lang/invoke/MethodHandle" ∧ y.cls ≠ "java/lang/invoke/VarHandle" ∧ (parseMethodDescriptor y.desc).map (fun d => d.parameters.length) = some n) (hrc : rm.cells = 1) (hrs : rm.slots = 6) (hR : rm.frames + 1 ≤ R.frames ∧ 8 + (maxL + 11) + rm.locals ≤ R.locals) :
    CallW R s args own C index y bytes maxL ret (Cond.code y bytes maxL ret :: gW) rm 1 6 n :=
  ⟨callB_of n hts (g_good hk) rfl hrc hrs (hts _ hini) (hts _ hl) hd hR, hts _ hi, hts _ hs⟩
/-- the world of the law's own three methods: the answer's array, then the desk's world -/
def lW (ad : Nat → Nat) (ty : Nat → ClassId) (u : KS × (Nat → Int64)) : va_W := [(ad 8, .inl (ty 1, 1, .inr (.inl u.2)))] ++ kW ad ty u.1
def xI : String := "java/lang/IndexOutOfBoundsException"
def xA : String := "java/lang/IllegalArgumentException"
theorem cs_I : Cond.castable "java/lang/IndexOutOfBoundsException" "java/lang/IndexOutOfBoundsException" ∈ fW := by decide +kernel
theorem cs_A : Cond.castable "java/lang/IllegalArgumentException" "java/lang/IllegalArgumentException" ∈ fW := by decide +kernel
