/-! methods that return an int or throw -/
def xnames : List String := ["java/lang/RuntimeException", "java/lang/Exception"]
def g_BX {S : Type} (D : va_G) (cl : List vw_C) (Wd : S → va_W) (px : String → S → Prop) (A : Nat → Prop) (E : String) (σ : S) (t : State) : Prop := px E σ ∧ g_B D cl Wd A σ t
def g_MetT {S : Type} (l : Launch) (y : MethodName) (ws : List Cond) (rm : Room) (D : va_G) (cl : List vw_C) (tys : List (ClassId × FieldType)) (Wd : S → va_W) (Cx : (Nat → Prop) → State → Prop) (av : List Value) (σ : S) (post : Int32 → S → Prop) (px : String → S → Prop) : Prop :=
  ∀ sz : Nat, vx_Met l y ws rm (va_Pc av (g_Pre D cl tys Wd Cx sz σ)) (va_Qi post (g_B D cl Wd (va_A (Wd σ) sz)) (va_A (Wd σ) sz)) (vx_X (fun _ : S => True) (g_BX D cl Wd px (va_A (Wd σ) sz)) (va_A (Wd σ) sz)) 1 6 (va_A (Wd σ) sz)
theorem at_IOOBE : ∀ w ∈ vx_atS "TokenDesk" 44 "java/lang/IndexOutOfBoundsException" xnames, w ∈ fW := by decide +kernel
theorem at_IAE : ∀ w ∈ vx_atS "TokenDesk" 71 "java/lang/IllegalArgumentException" xnames, w ∈ fW := by decide +kernel
theorem gd_IOOBE : ∀ w ∈ Cond.classLink "TokenDesk" 40 "java/lang/IndexOutOfBoundsException" :: Cond.initialized "java/lang/IndexOutOfBoundsException" :: vx_atS "TokenDesk" 44 "java/lang/IndexOutOfBoundsException" xnames, vx_ot w = true := by decide +kernel
theorem gd_IAE : ∀ w ∈ Cond.classLink "TokenDesk" 67 "java/lang/IllegalArgumentException" :: Cond.initialized "java/lang/IllegalArgumentException" :: vx_atS "TokenDesk" 71 "java/lang/IllegalArgumentException" xnames, vx_ot w = true := by decide +kernel
theorem g_startt {S : Type} {l : Launch} {y : MethodName} {ws ws' : List Cond} {rm : Room} {D : va_G} {cl : List vw_C} {tys : List (ClassId × FieldType)} {Wd : S → va_W} {cd : Nat → Nat → Nat} {av : List Value} {σ : S} {cc : ByteArray} {maxL : Nat} {post : Int32 → S → Prop} {px : String → S → Prop} (htr : l.stackTraces = false) (hy : plainName y.cls = true) (hyc : y.cls = "TokenDesk") (hw : ws = Cond.code y cc maxL (some .int) :: ws') (hn : (lg_sl av).length ≤ maxL) (hrm : 6 ≤ rm.frames ∧ 90 ≤ rm.locals ∧ rm.cells = 1 ∧ rm.slots = 6)
    (body : ∀ (p : Program) (e : Env) (s : State) (m : MethodId) (args : Array Value) (below : List Frame) (meth : Method) (c : Code) (A : Nat → Prop) (Q : State → Prop) (R : Room) (ls : Array Slot), R = rm → p.tables.exec = Jvm.exec → c.code = cc → (∀ w ∈ ws', w.before args s = true) → s.vm.findClass y.cls = some m.cls → c.maxLocals = maxL → (∀ q : Nat, s.heap.size ≤ q → A q) → va_S A s.heap s.heap [] → va_P D cl (Wd σ) s.heap → va_D A (Wd σ) → va_K D cl tys s → cX cd A s → lv_has ls maxL (lv_args 0 av) →
      (∀ (r : Int32) (σ' : S) (H : Heap) (locs : List Loc) (ls : Array Slot) (pc : Nat), post r σ' → va_P D cl (Wd σ') H → va_D A (Wd σ') → va_S A s.heap H locs → decode cc pc = .ok (.ireturn, 1) → W p l e R s m args below meth c H locs 0 0 Q (F0 m pc ls [.int r])) →
      (∀ {cls text : String} {ik is ic sa pc : Nat} {σ' : S} {H : Heap} {locs : List Loc} {ls : Array Slot}, px cls σ' → va_P D cl (Wd σ') H → va_D A (Wd σ') → va_S A s.heap H locs → ls.size = maxL → Bundle.fit cls = true → (Cond.classLink "TokenDesk" ik cls).before args s = true → (Cond.initialized cls).before args s = true → vk_R "TokenDesk" is text sa s → (∀ w ∈ vx_atS "TokenDesk" ic cls xnames, w ∈ fW) → (∀ w ∈ Cond.classLink "TokenDesk" ik cls :: Cond.initialized cls :: vx_atS "TokenDesk" ic cls xnames, vx_ot w = true) →
        decode cc pc = .ok (.new ik, 3) → decode cc (pc + 3) = .ok (.dup, 1) → decode cc (pc + 4) = .ok (.ldc is, 2) → decode cc (pc + 6) = .ok (.invokespecial ic, 3) → decode cc (pc + 9) = .ok (.athrow, 1) → W p l e R s m args below meth c H locs 0 0 Q (F0 m pc ls [])) →
      W p l e R s m args below meth c s.heap [] 0 0 Q (F0 m 0 ls [])) : g_MetT l y ws rm D cl tys Wd (cX cd) av σ post px := by
  intro sz
  refine vx_ofW (cc := cc) (maxL := maxL) (ret := some .int) hy hw ?_
  intro p e s m args below meth c s₁ B hml hno hv
  obtain ⟨rfl, hsz, hP, hK, hD0, hC⟩ := hv
  subst hsz
  have hlocks := B.notSynchronized
  have hx := B.exec
  have hb := B.bytes
  have hr := B.returns
  have hts := atoms_spec (ws := ws) B.pre
  have hown : s.vm.findClass y.cls = some m.cls := findClass_of_methodNamed B.named
  have hl := lv_entry av (n := maxL) hn
  rw [lg_entry_eq]
  generalize (lg_sl av ++ List.replicate (maxL - (lg_sl av).length) Slot.unset).toArray = ls at hl ⊢
  refine body p e s m _ below meth c (va_A (Wd σ) s.heap.size) _ _ ls rfl hx hb (fun w h => hts w (by rw [hw]; exact List.mem_cons_of_mem _ h)) hown hml (fun q h => Or.inr h) va_S.rf hP hD0.self hK hC hl ?_ ?_
  · intro r σ' H locs ls pc hp hP hD hS hdg
    refine vx_ret ?_
    refine W.widen (k := 1) (n := 6) (by omega) (by omega) ?_
    exact W.iret hx hb hr (fun t ht hW => ⟨⟨r, σ', rfl, hp, by rw [ht]; exact hP, hD⟩, hS.F ht⟩) hS.2.2 hdg
  · intro cls text ik is ic sa pc σ' H locs ls hp hP hD hS hsz hfit hk hini hstr hat hgd d0 d3 d4 d6 d9
    have ho : s.vm.findClass "TokenDesk" = some m.cls := by rw [← hyc]; exact hown
    refine vx_throwS (names := xnames) (A := va_A (Wd σ) s.heap.size) hx hb htr ho hfit (by decide +kernel) hk hini hstr (fun w hw => cX_word hC (hat w hw)) hgd hC.2.2.2.2.2.2.2.2.2.1 hC.2.2.2.2.2.2.2.2.2.2.1 hS (by rw [hsz, hml]) d0 d3 d4 d6 d9 (fun x hx => (hno x hx).elim) ?_ ?_ ?_ ?_ hlocks ?_ hS.2.2 (by omega) (by omega)
    · show 2 + 3 < rm.frames
      omega
    · show 0 + (13 * (2 + 1) + 43) ≤ rm.locals
      omega
    · show 0 + 1 ≤ rm.cells
      omega
    · show 0 + 6 ≤ rm.slots
      omega
    · intro t hvm hz hk9
      refine ⟨σ', trivial, ⟨hp, hP.kept (fun k q hq => hk9 q.1 (hP k q hq).lt), hD⟩, Nat.le_trans hS.1 hz, fun q h1 h2 => ?_⟩
      rw [hk9 q (Nat.lt_of_lt_of_le h1 hS.1)]
      exact hS.2.1 q h1 h2
