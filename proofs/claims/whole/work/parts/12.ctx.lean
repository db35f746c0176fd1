def sRefs : List (String × Nat × String) := [("TokenDeskModel", 9, "False"), ("TokenDeskModel", 11, "None"), ("TokenDeskModel", 13, "True"), ("TokenDeskModel", 15, "and"), ("TokenDeskModel", 17, "as"), ("TokenDeskModel", 19, "assert"), ("TokenDeskModel", 21, "break"), ("TokenDeskModel", 23, "class"), ("TokenDeskModel", 25, "continue"), ("TokenDeskModel", 27, "def"), ("TokenDeskModel", 29, "del"), ("TokenDeskModel", 31, "elif"), ("TokenDeskModel", 33, "else"), ("TokenDeskModel", 35, "except"), ("TokenDeskModel", 37, "finally"), ("TokenDeskModel", 39, "for"), ("TokenDeskModel", 41, "from"), ("TokenDeskModel", 43, "global"), ("TokenDeskModel", 45, "if"), ("TokenDeskModel", 47, "import"), ("TokenDeskModel", 49, "in"), ("TokenDeskModel", 51, "is"), ("TokenDeskModel", 53, "lambda"), ("TokenDeskModel", 55, "nonlocal"), ("TokenDeskModel", 57, "not"), ("TokenDeskModel", 59, "or"), ("TokenDeskModel", 61, "pass"), ("TokenDeskModel", 63, "raise"), ("TokenDeskModel", 65, "return"), ("TokenDeskModel", 67, "try"), ("TokenDeskModel", 69, "while"), ("TokenDeskModel", 71, "with"), ("TokenDeskModel", 73, "yield"), ("TokenDeskModel", 75, "async"), ("TokenDeskModel", 77, "await"), ("TokenDeskModel", 85, "**="), ("TokenDeskModel", 87, "//="), ("TokenDeskModel", 89, "<<="), ("TokenDeskModel", 91, ">>="), ("TokenDeskModel", 93, "+="), ("TokenDeskModel", 95, "-="), ("TokenDeskModel", 97, "*="), ("TokenDeskModel", 99, "/="), ("TokenDeskModel", 101, "%="), ("TokenDeskModel", 103, "&="), ("TokenDeskModel", 105, "|="), ("TokenDeskModel", 107, "^="), ("TokenDeskModel", 109, "**"), ("TokenDeskModel", 111, "//"), ("TokenDeskModel", 113, "<<"), ("TokenDeskModel", 115, ">>"), ("TokenDeskModel", 117, "->"), ("TokenDeskModel", 119, "+"), ("TokenDeskModel", 121, "-"), ("TokenDeskModel", 123, "*"), ("TokenDeskModel", 125, "/"), ("TokenDeskModel", 127, "%"), ("TokenDeskModel", 129, "&"), ("TokenDeskModel", 131, "|"), ("TokenDeskModel", 133, "^"), ("TokenDeskModel", 135, "<="), ("TokenDeskModel", 137, ">="), ("TokenDeskModel", 139, "=="), ("TokenDeskModel", 141, "!="), ("TokenDeskModel", 143, "~"), ("TokenDeskModel", 145, "<"), ("TokenDeskModel", 147, ">"), ("TokenDeskModel", 149, "("), ("TokenDeskModel", 151, ")"), ("TokenDeskModel", 153, "["), ("TokenDeskModel", 155, "]"), ("TokenDeskModel", 157, "{"), ("TokenDeskModel", 159, "}"), ("TokenDeskModel", 161, ","), ("TokenDeskModel", 163, ":"), ("TokenDeskModel", 165, "."), ("TokenDeskModel", 167, ";"), ("TokenDeskModel", 169, "@"), ("TokenDeskModel", 171, "="), ("TokenDesk$Shapes", 81, "**=//=<<=>>=+= -= *= /= %= &= |= ^= ** // << >> -> +  -  *  /  %  &  |  ^  <= >= == != ~  <  >  (  )  [  ]  {  }  ,  :  .  ;  @  =  "), ("TokenDesk$Keyword", 133, "False"), ("TokenDesk$Keyword", 139, "None"), ("TokenDesk$Keyword", 142, "True"), ("TokenDesk$Keyword", 145, "and"), ("TokenDesk$Keyword", 148, "as"), ("TokenDesk$Keyword", 151, "assert"), ("TokenDesk$Keyword", 154, "break"), ("TokenDesk$Keyword", 157, "class"), ("TokenDesk$Keyword", 160, "continue"), ("TokenDesk$Keyword", 163, "def"), ("TokenDesk$Keyword", 166, "del"), ("TokenDesk$Keyword", 169, "elif"), ("TokenDesk$Keyword", 172, "else"), ("TokenDesk$Keyword", 175, "except"), ("TokenDesk$Keyword", 178, "finally"), ("TokenDesk$Keyword", 181, "for"), ("TokenDesk$Keyword", 184, "from"), ("TokenDesk$Keyword", 187, "global"), ("TokenDesk$Keyword", 190, "if"), ("TokenDesk$Keyword", 193, "import"), ("TokenDesk$Keyword", 196, "in"), ("TokenDesk$Keyword", 199, "is"), ("TokenDesk$Keyword", 202, "lambda"), ("TokenDesk$Keyword", 205, "nonlocal"), ("TokenDesk$Keyword", 208, "not"), ("TokenDesk$Keyword", 211, "or"), ("TokenDesk$Keyword", 214, "pass"), ("TokenDesk$Keyword", 217, "raise"), ("TokenDesk$Keyword", 220, "return"), ("TokenDesk$Keyword", 223, "try"), ("TokenDesk$Keyword", 226, "while"), ("TokenDesk$Keyword", 229, "with"), ("TokenDesk$Keyword", 232, "yield"), ("TokenDesk$Keyword", 235, "async"), ("TokenDesk$Keyword", 238, "await"), ("TokenDesk", 42, "more than 4,100 octets would be fed"), ("TokenDesk", 55, "no text of so many letters was fed"), ("TokenDesk", 69, "the text is wrong"), ("TokenDesk", 75, "a token has the parts 0 to 3 alone"), ("TokenDesk", 77, "no such token")]
def sTab : List (List Int32) := [[70, 97, 108, 115, 101], [78, 111, 110, 101], [84, 114, 117, 101], [97, 110, 100], [97, 115], [97, 115, 115, 101, 114, 116], [98, 114, 101, 97, 107], [99, 108, 97, 115, 115], [99, 111, 110, 116, 105, 110, 117, 101], [100, 101, 102], [100, 101, 108], [101, 108, 105, 102], [101, 108, 115, 101], [101, 120, 99, 101, 112, 116], [102, 105, 110, 97, 108, 108, 121], [102, 111, 114], [102, 114, 111, 109], [103, 108, 111, 98, 97, 108], [105, 102], [105, 109, 112, 111, 114, 116], [105, 110], [105, 115], [108, 97, 109, 98, 100, 97], [110, 111, 110, 108, 111, 99, 97, 108], [110, 111, 116], [111, 114], [112, 97, 115, 115], [114, 97, 105, 115, 101], [114, 101, 116, 117, 114, 110], [116, 114, 121], [119, 104, 105, 108, 101], [119, 105, 116, 104], [121, 105, 101, 108, 100], [97, 115, 121, 110, 99], [97, 119, 97, 105, 116], [42, 42, 61], [47, 47, 61], [60, 60, 61], [62, 62, 61], [43, 61], [45, 61], [42, 61], [47, 61], [37, 61], [38, 61], [124, 61], [94, 61], [42, 42], [47, 47], [60, 60], [62, 62], [45, 62], [43], [45], [42], [47], [37], [38], [124], [94], [60, 61], [62, 61], [61, 61], [33, 61], [126], [60], [62], [40], [41], [91], [93], [123], [125], [44], [58], [46], [59], [64], [61], [42, 42, 61, 47, 47, 61, 60, 60, 61, 62, 62, 61, 43, 61, 32, 45, 61, 32, 42, 61, 32, 47, 61, 32, 37, 61, 32, 38, 61, 32, 124, 61, 32, 94, 61, 32, 42, 42, 32, 47, 47, 32, 60, 60, 32, 62, 62, 32, 45, 62, 32, 43, 32, 32, 45, 32, 32, 42, 32, 32, 47, 32, 32, 37, 32, 32, 38, 32, 32, 124, 32, 32, 94, 32, 32, 60, 61, 32, 62, 61, 32, 61, 61, 32, 33, 61, 32, 126, 32, 32, 60, 32, 32, 62, 32, 32, 40, 32, 32, 41, 32, 32, 91, 32, 32, 93, 32, 32, 123, 32, 32, 125, 32, 32, 44, 32, 32, 58, 32, 32, 46, 32, 32, 59, 32, 32, 64, 32, 32, 61, 32, 32], [70, 97, 108, 115, 101], [78, 111, 110, 101], [84, 114, 117, 101], [97, 110, 100], [97, 115], [97, 115, 115, 101, 114, 116], [98, 114, 101, 97, 107], [99, 108, 97, 115, 115], [99, 111, 110, 116, 105, 110, 117, 101], [100, 101, 102], [100, 101, 108], [101, 108, 105, 102], [101, 108, 115, 101], [101, 120, 99, 101, 112, 116], [102, 105, 110, 97, 108, 108, 121], [102, 111, 114], [102, 114, 111, 109], [103, 108, 111, 98, 97, 108], [105, 102], [105, 109, 112, 111, 114, 116], [105, 110], [105, 115], [108, 97, 109, 98, 100, 97], [110, 111, 110, 108, 111, 99, 97, 108], [110, 111, 116], [111, 114], [112, 97, 115, 115], [114, 97, 105, 115, 101], [114, 101, 116, 117, 114, 110], [116, 114, 121], [119, 104, 105, 108, 101], [119, 105, 116, 104], [121, 105, 101, 108, 100], [97, 115, 121, 110, 99], [97, 119, 97, 105, 116]]
def nS : Nat := 115
def sR (i : Nat) : String × Nat × String := sRefs.getD i ("", 0, "")
def sB (i : Nat) : List Int32 := sTab.getD i []
def sL (i : Nat) : Nat := (sB i).length
def mwI (k : Nat) : Nat := k
def msI (k : Nat) : Nat := 35 + k
def kwI (k : Nat) : Nat := 80 + k
def nwALL : Cond := .fieldLinkNest "TokenDesk$Shapes" 36 "TokenDesk$Keyword" "ALL" "[LTokenDesk$Keyword;" "TokenDesk"
def nwLET : Cond := .fieldLinkNest "TokenDesk$Shapes" 42 "TokenDesk$Keyword" "letters" "Ljava/lang/String;" "TokenDesk"
def fW : List Cond := lw_tbl.filter (fun w => w.onTables && w.keepsFace)
/-- what stays as it is through the whole run: String constants, the enum's table, statics of the JDK, links within the nest. cd 0 i, cd 1 i: the i-th String and its bytes; cd 2 k: the k-th keyword; cd 3 0: their table -/
def cX (cd : Nat → Nat → Nat) (A : Nat → Prop) (s : State) : Prop :=
  (∀ i, i < nS → vk_S 1 [sL i] [sB i] (fun _ => cd 0 i) (fun _ => cd 1 i) A s s.heap) ∧
  (∀ i, i < 120 → vk_R (sR i).1 (sR i).2.1 (sR i).2.2 (cd 0 i) s) ∧
  va_Z "java/lang/String" "COMPACT_STRINGS" "Z" (.int 1) A s s.heap ∧
  va_Zq "jdk/internal/util/Preconditions" "SIOOBE_FORMATTER" "Ljava/util/function/BiFunction;" A s s.heap ∧
  va_Z "TokenDesk$Keyword" "ALL" "[LTokenDesk$Keyword;" (.ref (cd 3 0)) A s s.heap ∧
  va_T (.object "TokenDesk$Keyword") (cd 3 0) 35 (fun k => .ref (cd 2 k)) A s s.heap ∧
  (∀ k, k < 35 → va_OF "TokenDesk$Keyword" "letters" "Ljava/lang/String;" (.ref (cd 0 (kwI k))) (cd 2 k) A s s.heap) ∧
  va_Nw nwALL s ∧ va_Nw nwLET s ∧
  vx_Zq Bundle.tN "UNASSIGNED_STACK" Bundle.steD A s s.heap ∧ vx_Zq Bundle.tN "SUPPRESSED_SENTINEL" Bundle.listD A s s.heap ∧
  va_Nc "java/lang/IllegalArgumentException" "java/lang/IndexOutOfBoundsException" s ∧ va_Nc "java/lang/IndexOutOfBoundsException" "java/lang/IllegalArgumentException" s ∧ (∀ w ∈ fW, va_Nw w s)
theorem cX_go {cd : Nat → Nat → Nat} {A B : Nat → Prop} {s U : State} {locs : List Loc} (h : cX cd A s) (hW : s.WarmedH U.vm) (hS : va_S A s.heap U.heap locs) (hBA : ∀ q, B q → A q) : cX cd B U := by
  obtain ⟨h1, h2, h3, h4, h5, h6, h7, h8, h9, h10, h11, h12, h13, h14⟩ := h
  have hv := hW.alike
  have hq := hS.2.1
  exact ⟨fun i hi => ((h1 i hi).kept hq |>.narrow hBA).moved hv, fun i hi => (h2 i hi).warm hW, ((h3.kept hq).narrow hBA).moved hv, ((h4.kept hq).narrow hBA).moved hv, ((h5.kept hq).narrow hBA).moved hv, ((h6.kept hq).narrow hBA).moved hv,
    fun k hk => (((h7 k hk).kept hq).narrow hBA).moved hv, va_Nw.warmF hW h8, va_Nw.warmF hW h9, ((h10.kept hq).narrow hBA).moved hv, ((h11.kept hq).narrow hBA).moved hv, h12.moved hv, h13.moved hv, fun w hw => by
      have hm := (List.mem_filter.mp hw).2
      simp only [Bool.and_eq_true] at hm
      exact va_tabs hm.1 (rfl : (s.setVm U.vm).vm = U.vm) (Cond.before_shiftedFace (State.Shifted.of_warmed hW) _ hm.2 (h14 w hw))⟩
theorem cX_g {cd : Nat → Nat → Nat} : g_Cg (cX cd) := by
  refine ⟨fun A s g mk a h => ?_, fun A B s U locs h hW hS hBA => cX_go h hW hS hBA⟩
  obtain ⟨h1, h2, h3, h4, h5, h6, h7, h8, h9, h10, h11, h12, h13, h14⟩ := h
  have hv : s.vm.Alike (s.calling g mk a).vm := Vm.Alike.refl s.vm
  exact ⟨fun i hi => (h1 i hi).moved hv, fun i hi => vk_R.same (u := s) rfl (h2 i hi), h3.moved hv, h4.moved hv, h5.moved hv, h6.moved hv, fun k hk => (h7 k hk).moved hv, va_Nw.same rfl (u := s) rfl h8, va_Nw.same rfl (u := s) rfl h9, h10.moved hv, h11.moved hv, h12.moved hv, h13.moved hv, fun w hw => va_Nw.same (by have hm := (List.mem_filter.mp hw).2; simp only [Bool.and_eq_true] at hm; exact hm.1) (u := s) rfl (h14 w hw)⟩
section CXR
variable {p : Program} {l : Launch} {e : Env} {R : Room} {s : State} {m : MethodId} {args : Array Value} {below : List Frame} {meth : Method} {c : Code} {H : Heap} {locs : List Loc} {cells slots : Nat} {Q : State → Prop}
variable {cc : ByteArray} {pc : Nat} {ls : Array Slot} {rest : List Value} {A : Nat → Prop} {cd : Nat → Nat → Nat}
theorem cX_recv {i : Nat} (hC : cX cd A s) (hi : i < nS) (hS : va_S A s.heap H locs) : ∃ cell : Cell, H[cd 0 i]? = some cell ∧ cell.vm.isStatics = false ∧ s.vm.findClass "java/lang/String" = some cell.cls := vk_recv (i := 0) (hC.1 i hi) (Nat.lt_succ_self 0) hS
theorem cX_all (hx : p.tables.exec = Jvm.exec) (hb : c.code = cc) (hC : cX cd A s) (hS : va_S A s.heap H locs) (hown : s.vm.findClass "TokenDesk$Shapes" = some m.cls) (hdg : decode cc pc = .ok (.getstatic 36, 3))
    (kk : W p l e R s m args below meth c H locs cells slots Q (F0 m (pc + 3) ls (.ref (cd 3 0) :: rest))) : W p l e R s m args below meth c H locs cells slots Q (F0 m pc ls rest) :=
  va_getsN hx hb hC.2.2.2.2.1 hS hown (va_Nw.use (w := nwALL) rfl hC.2.2.2.2.2.2.2.1) (fun _ h => h) hdg kk
theorem cX_alen (hx : p.tables.exec = Jvm.exec) (hb : c.code = cc) (hC : cX cd A s) (hS : va_S A s.heap H locs) (hdg : decode cc pc = .ok (.arraylength, 1))
    (kk : W p l e R s m args below meth c H locs cells slots Q (F0 m (pc + 1) ls (.int 35 :: rest))) : W p l e R s m args below meth c H locs cells slots Q (F0 m pc ls (.ref (cd 3 0) :: rest)) :=
  va_tlen hx hb hC.2.2.2.2.2.1 hS rfl hdg kk
theorem cX_aald (hx : p.tables.exec = Jvm.exec) (hb : c.code = cc) (hC : cX cd A s) (hS : va_S A s.heap H locs) {i : Int32} (hin : vp_in i 35) (hdg : decode cc pc = .ok (.aaload, 1))
    (kk : W p l e R s m args below meth c H locs cells slots Q (F0 m (pc + 1) ls (.ref (cd 2 i.toNatClampNeg) :: rest))) : W p l e R s m args below meth c H locs cells slots Q (F0 m pc ls (.int i :: .ref (cd 3 0) :: rest)) :=
  vb_tq hx hb hC.2.2.2.2.2.1 hS hin rfl hdg kk
theorem cX_letters (hx : p.tables.exec = Jvm.exec) (hb : c.code = cc) (hC : cX cd A s) {k : Nat} (hk : k < 35) (hS : va_S A s.heap H locs) (hown : s.vm.findClass "TokenDesk$Shapes" = some m.cls) (hdg : decode cc pc = .ok (.getfield 42, 3))
    (kk : W p l e R s m args below meth c H locs cells slots Q (F0 m (pc + 3) ls (.ref (cd 0 (kwI k)) :: rest))) : W p l e R s m args below meth c H locs cells slots Q (F0 m pc ls (.ref (cd 2 k) :: rest)) := by
  obtain ⟨cf, k9, fi, f, cell, h1, h2, h3, h4, h5, h6⟩ := (hC.2.2.2.2.2.2.1 k hk).kept hS.2.1
  exact va_Wgetf hx hb hown (va_Nw.use (w := nwLET) rfl hC.2.2.2.2.2.2.2.2.1) h1 h2 h3 h4 h5 rfl rfl hdg kk
theorem cX_ldc (hx : p.tables.exec = Jvm.exec) (hb : c.code = cc) {own : String} {index i : Nat} (hown : s.vm.findClass own = some m.cls) (hC : cX cd A s) (hi : i < 120 ∧ (sR i).1 = own ∧ (sR i).2.1 = index) (hdg : decode cc pc = .ok (.ldc index, 2))
    (kk : W p l e R s m args below meth c H locs cells slots Q (F0 m (pc + 2) ls (.ref (cd 0 i) :: rest))) : W p l e R s m args below meth c H locs cells slots Q (F0 m pc ls rest) := by
  have h := hC.2.1 i hi.1
  rw [hi.2.1, hi.2.2] at h
  exact va_ldcS hx hb hown h hdg kk
end CXR
theorem cX_word {cd : Nat → Nat → Nat} {A : Nat → Prop} {s : State} {args : Array Value} {w : Cond} (hC : cX cd A s) (hw : w ∈ fW) : w.before args s = true := by
  have hm := (List.mem_filter.mp hw).2
  simp only [Bool.and_eq_true] at hm
  exact va_Nw.use hm.1 (hC.2.2.2.2.2.2.2.2.2.2.2.2.2 w hw)
/-- the words of a call, all out of one list -/
theorem gW_good : ∀ w ∈ gW, ((w.onTables && w.keeps) = true ∨ ∃ ty, w = .arrayClass ty) := fun w h => good_of_word (List.mem_filter.mp h).2
section GCW
variable {R : Room} {s : State} {args : Array Value} {own C : String} {index maxL : Nat} {y : MethodName} {bytes : ByteArray} {ret : Option FieldType} {rm : Room}
theorem g_good (hk : Cond.code y bytes maxL ret ∈ gW) : GoodIn gW (Cond.code y bytes maxL ret :: gW) := fun w h => (List.mem_cons.mp h).elim (fun e => by rw [e]; exact ⟨hk, gW_good _ hk⟩) (fun h => ⟨h, gW_good w h⟩)
theorem g_cwV (n : Nat) (hts : ∀ w ∈ gW, w.before args s = true) (hl : Cond.methodLink own index y ∈ gW) (hi : Cond.instanceMethod y ∈ gW) (hs : Cond.selects C y y ∈ gW) (hini : Cond.initialized y.cls ∈ gW) (hk : Cond.code y bytes maxL ret ∈ gW)
    (hd : y.cls ≠ "java/lang/invoke/MethodHandle" ∧ y.cls ≠ "java/lang/invoke/VarHandle" ∧ (parseMethodDescriptor y.desc).map (fun d => d.parameters.length) = some n) (hrc : rm.cells = 0) (hrs : rm.slots = 0) (hR : rm.frames + 1 ≤ R.frames ∧ 8 + (maxL + 11) + rm.locals ≤ R.locals) :
    CallW R s args own C index y bytes maxL ret (Cond.code y bytes maxL ret :: gW) rm 0 0 n :=
  ⟨callB_of n hts (g_good hk) rfl hrc hrs (hts _ hini) (hts _ hl) hd hR, hts _ hi, hts _ hs⟩
theorem g_cwS (n : Nat) (hts : ∀ w ∈ gW, w.before args s = true) (hl : Cond.methodLink own index y ∈ gW) (hi : Cond.static y ∈ gW) (hini : Cond.initialized y.cls ∈ gW) (hk : Cond.code y bytes maxL ret ∈ gW)
    (hd : y.cls ≠ "java/lang/invoke/MethodHandle" ∧ y.cls ≠ "java/lang/invoke/VarHandle" ∧ (parseMethodDescriptor y.desc).map (fun d => d.parameters.length) = some n) (hrc : rm.cells = 0) (hrs : rm.slots = 0) (hR : rm.frames + 1 ≤ R.frames ∧ 8 + (maxL + 11) + rm.locals ≤ R.locals) :
    CallB R s args own index y bytes maxL ret (Cond.code y bytes maxL ret :: gW) rm 0 0 n ∧ (Cond.static y).before args s = true :=
  ⟨callB_of n hts (g_good hk) rfl hrc hrs (hts _ hini) (hts _ hl) hd hR, hts _ hi⟩
end GCW
def wp_Str_length {S : Type} (i : Nat) (σ : S) (post : Int32 → S → Prop) : Prop := i < nS ∧ post (nI (sL i)) σ
def wp_Str_charAt {S : Type} (i : Nat) (k : Int32) (σ : S) (post : Int32 → S → Prop) : Prop := i < nS ∧ vp_in k (sL i) ∧ post ((sB i).getD k.toNatClampNeg 0) σ
abbrev gT (ty : Nat → ClassId) : List (ClassId × FieldType) := [(ty 0, .int), (ty 1, .long), (ty 2, .object "java/lang/String")]
