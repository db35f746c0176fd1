/-! what the Statement gives of the start -/
def gv : List Cond := flatC (Cond.and given_1 narrow_1)
def sPos : List Nat := [461, 470, 478, 486, 493, 499, 509, 518, 527, 539, 546, 553, 561, 569, 579, 590, 597, 605, 615, 621, 631, 637, 643, 653, 665, 672, 678, 686, 695, 705, 712, 721, 729, 738, 747, 756, 763, 770, 777, 784, 790, 796, 802, 808, 814, 820, 826, 832, 838, 844, 850, 856, 862, 867, 872, 877, 882, 887, 892, 897, 902, 908, 914, 920, 926, 931, 936, 941, 946, 951, 956, 961, 966, 971, 976, 981, 986, 991, 996, 249, 1001, 1011, 1020, 1029, 1037, 1044, 1055, 1065, 1075, 1088, 1096, 1104, 1113, 1122, 1133, 1145, 1153, 1162, 1173, 1180, 1191, 1198, 1205, 1216, 1229, 1237, 1244, 1253, 1263, 1274, 1282, 1292, 1301, 1311, 1321, 172, 211, 385, 406, 444]
def kwN : List String := ["FALSE", "NONE", "TRUE", "AND", "AS", "ASSERT", "BREAK", "CLASS", "CONTINUE", "DEF", "DEL", "ELIF", "ELSE", "EXCEPT", "FINALLY", "FOR", "FROM", "GLOBAL", "IF", "IMPORT", "IN", "IS", "LAMBDA", "NONLOCAL", "NOT", "OR", "PASS", "RAISE", "RETURN", "TRY", "WHILE", "WITH", "YIELD", "ASYNC", "AWAIT"]
def tS (i : Nat) : Term := .string (sR i).1 (sR i).2.1
def fV (i : Nat) : Term := .field (tS i) "java/lang/String" "value" "[B"
def cS (i : Nat) : List Cond := [.exactly (tS i) "java/lang/String", .eq (.field (tS i) "java/lang/String" "coder" "B") (.int 0), .arrayOf (fV i) .byte, .eq (.length (fV i)) (.int (Int32.ofNat (sL i)))] ++ (List.range (sL i)).map (fun j => .eq (.elem (fV i) (.int (Int32.ofNat j))) (.int ((sB i).getD j 0)))
theorem cS_ok : ∀ i, i < 115 → (gv.drop (sPos.getD i 0)).take (4 + sL i) = cS i := by decide +kernel
theorem cS_ex : ∀ i, i < 120 → gv[sPos.getD i 0]? = some (.exactly (tS i) "java/lang/String") := by decide +kernel
theorem cS_rf : ∀ i, i < 120 → Cond.stringRef (sR i).1 (sR i).2.1 (sR i).2.2 ∈ lw_tbl := by decide +kernel
def tK (k : Nat) : Term := .static "TokenDesk$Keyword" (kwN.getD k "") "LTokenDesk$Keyword;"
def tA : Term := .static "TokenDesk$Keyword" "ALL" "[LTokenDesk$Keyword;"
theorem cK_el : ∀ k, k < 35 → gv[11 + k]? = some (.eq (.elem tA (.int (Int32.ofNat k))) (tK k)) := by decide +kernel
theorem cK_ex : ∀ k, k < 35 → gv[51 + 3 * k]? = some (.exactly (tK k) "TokenDesk$Keyword") := by decide +kernel
theorem cK_le : ∀ k, k < 35 → gv[51 + 3 * k + 2]? = some (.eq (.field (tK k) "TokenDesk$Keyword" "letters" "Ljava/lang/String;") (tS (kwI k))) := by decide +kernel
theorem gv_at {args : Array Value} {s : State} (hg : ∀ c ∈ gv, c.before args s = true) {p : Nat} {c : Cond} (h : gv[p]? = some c) : c.before args s = true := hg c (List.mem_of_getElem? h)
theorem cS_in {i : Nat} (hi : i < 115) {w : Cond} (hw : w ∈ cS i) : w ∈ gv := by
  rw [← cS_ok i hi] at hw
  exact List.mem_of_mem_drop (List.mem_of_mem_take hw)
theorem ex_ev {args : Array Value} {s : State} {t : Term} {C : String} (h : (Cond.exactly t C).before args s = true) : ∃ a : Nat, t.eval args s none [] s = some (.ref a) := by
  obtain ⟨a, c, cA, kA, q1, -⟩ := Cond.exactly_spec (args := args) (first := s) (o := none) (s := s) (idx := []) (t := t) (cls := C) h
  exact ⟨a, q1⟩
set_option maxHeartbeats 4000000 in
set_option maxRecDepth 100000 in
theorem start_S {args : Array Value} {s : State} (hg : ∀ c ∈ gv, c.before args s = true) {A : Nat → Prop} (hA : ∀ a : Nat, a < s.heap.size → ¬ A a) : ∃ ad : Nat → Nat × Nat, (∀ i, i < 120 → (tS i).eval args s none [] s = some (.ref (ad i).1)) ∧ ∀ i, i < 115 → vk_S 1 [sL i] [sB i] (fun _ => (ad i).1) (fun _ => (ad i).2) A s s.heap := by
  have h0 : ∀ i : Nat, ∃ q : Nat × Nat, (i < 120 → (tS i).eval args s none [] s = some (.ref q.1)) ∧ (i < 115 → vk_S 1 [sL i] [sB i] (fun _ => q.1) (fun _ => q.2) A s s.heap) := by
    intro i
    by_cases hi : i < 115
    · have hin : ∀ w ∈ cS i, w.before args s = true := fun w hw => hg w (cS_in hi hw)
      obtain ⟨adK, adV, hS, he⟩ := vk_Sof (args := args) (s := s) (N := 1) (tm := fun _ => tS i) (len := [sL i]) (byt := [sB i]) (A := A)
        (fun j hj => by rcases (show j = 0 by omega) with rfl; have := s_len i hi; show sL i < 2 ^ 31; omega)
        (fun j hj => hin _ (by simp [cS]))
        (fun j hj => hin _ (by simp [cS]))
        (fun j hj => hin _ (by simp [cS, fV]))
        (fun j hj => by rcases (show j = 0 by omega) with rfl; exact hin _ (by simp [cS, fV]))
        (fun j hj k hk => by
          rcases (show j = 0 by omega) with rfl
          have hk : k < sL i := hk
          exact hin _ (by simp only [cS, List.mem_append, List.mem_map, List.mem_range]; exact Or.inr ⟨k, hk, rfl⟩))
        (fun j k hj hk hne => by omega) hA
      refine ⟨(adK 0, adV 0), fun _ => he 0 (by omega), fun _ => ⟨fun j hj => ?_, fun j k hj hk _ => by omega⟩⟩
      rcases (show j = 0 by omega) with rfl
      exact hS.1 0 hj
    · by_cases h2 : i < 120
      · obtain ⟨a, ha⟩ := ex_ev (gv_at hg (cS_ex i h2))
        exact ⟨(a, 0), fun _ => ha, fun h => absurd h hi⟩
      · exact ⟨(0, 0), fun h => absurd h h2, fun h => absurd h hi⟩
  obtain ⟨ad, had⟩ := Classical.axiomOfChoice h0
  exact ⟨ad, fun i hi => (had i).1 hi, fun i hi => (had i).2 hi⟩
theorem start_K {args : Array Value} {s : State} (hg : ∀ c ∈ gv, c.before args s = true) : ∃ ak : Nat → Nat, ∀ k, k < 35 → (tK k).eval args s none [] s = some (.ref (ak k)) := by
  have h0 : ∀ k : Nat, ∃ a : Nat, k < 35 → (tK k).eval args s none [] s = some (.ref a) := by
    intro k
    by_cases hk : k < 35
    · obtain ⟨a, ha⟩ := ex_ev (gv_at hg (cK_ex k hk))
      exact ⟨a, fun _ => ha⟩
    · exact ⟨0, fun h => absurd h hk⟩
  obtain ⟨ak, hak⟩ := Classical.axiomOfChoice h0
  exact ⟨ak, hak⟩
theorem tb_fW {w : Cond} (h : w ∈ fW) : w ∈ lw_tbl := (List.mem_filter.mp h).1
set_option maxHeartbeats 4000000 in
set_option maxRecDepth 100000 in
theorem start_cN {args : Array Value} {s : State} (hts : ∀ w ∈ lw_tbl, w.before args s = true) (hg : ∀ c ∈ gv, c.before args s = true) {A : Nat → Prop} (hA : ∀ a : Nat, a < s.heap.size → ¬ A a) : ∃ cd : Nat → Nat → Nat, cN cd A s := by
  obtain ⟨ad, hev, hvk⟩ := start_S hg hA
  obtain ⟨ak, hak⟩ := start_K hg
  have hlen : (Term.length tA).eval args s none [] s = some (.int (Int32.ofNat 35)) := va_eqt (gv_at hg (show gv[9]? = some (Cond.eq (.length tA) (.int 35)) by decide +kernel))
  obtain ⟨aA, hAe, hT⟩ := va_Tof (args := args) (s := s) (tm := tA) (ty := .object "TokenDesk$Keyword") (N := 35) (f := fun k => .ref (ak k)) (A := A) (by decide) (gv_at hg (show gv[8]? = some (Cond.arrayOf tA (.object "TokenDesk$Keyword")) by decide +kernel)) hlen (fun j hj => va_eqv (gv_at hg (cK_el j hj)) (hak j hj)) hA
  have tw : ∀ w : Cond, w ∈ lw_tbl → w.before args s = true := hts
  refine ⟨fun k i => match k with | 0 => (ad i).1 | 1 => (ad i).2 | 2 => ak i | _ => aA, ⟨hvk, fun i hi => vk_R.of (hts _ (cS_rf i hi)) (hev i hi), ?_, ?_, ?_, hT, ?_, ?_, ?_, ?_, ?_, ?_, ?_, ?_⟩, ?_, ?_, ?_⟩
  · exact va_Zof (tw (.laysStatic "java/lang/String" "COMPACT_STRINGS" "Z") (by decide +kernel)) (tw (.initialized "java/lang/String") (by decide +kernel)) (va_eqi (gv_at hg (show gv[46]? = some (Cond.eq (.static "java/lang/String" "COMPACT_STRINGS" "Z") (.int 1)) by decide +kernel))) hA
  · exact va_Zqof (tw (.laysStatic "jdk/internal/util/Preconditions" "SIOOBE_FORMATTER" "Ljava/util/function/BiFunction;") (by decide +kernel)) (tw (.initialized "jdk/internal/util/Preconditions") (by decide +kernel)) (gv_at hg (show gv[47]? = some (Cond.isRef (.static "jdk/internal/util/Preconditions" "SIOOBE_FORMATTER" "Ljava/util/function/BiFunction;")) by decide +kernel)) hA
  · exact va_Zof (tw (.laysStatic "TokenDesk$Keyword" "ALL" "[LTokenDesk$Keyword;") (by decide +kernel)) (tw (.initialized "TokenDesk$Keyword") (by decide +kernel)) hAe hA
  · intro k hk
    exact vk_OFof (hak k hk) (va_eqv (gv_at hg (cK_le k hk)) (hev (kwI k) (by unfold kwI; omega))) hA
  · exact va_Nw.of rfl (tw nwALL (by decide +kernel))
  · exact va_Nw.of rfl (tw nwLET (by decide +kernel))
  · exact vx_Zqof (tw (.laysStatic Bundle.tN "UNASSIGNED_STACK" Bundle.steD) (by decide +kernel)) (tw (.initialized Bundle.tN) (by decide +kernel)) (gv_at hg (show gv[4]? = some (Cond.isRef (.static Bundle.tN "UNASSIGNED_STACK" Bundle.steD)) by decide +kernel)) hA
  · exact vx_Zqof (tw (.laysStatic Bundle.tN "SUPPRESSED_SENTINEL" Bundle.listD) (by decide +kernel)) (tw (.initialized Bundle.tN) (by decide +kernel)) (gv_at hg (show gv[5]? = some (Cond.isRef (.static Bundle.tN "SUPPRESSED_SENTINEL" Bundle.listD)) by decide +kernel)) hA
  · exact va_Nc.of (gv_at hg (show gv[163]? = some (Cond.not (.castable "java/lang/IllegalArgumentException" "java/lang/IndexOutOfBoundsException")) by decide +kernel))
  · exact va_Nc.of (hg (Cond.not (.castable "java/lang/IndexOutOfBoundsException" "java/lang/IllegalArgumentException")) (by decide +kernel))
  · intro w hw
    have hm := (List.mem_filter.mp hw).2
    simp only [Bool.and_eq_true] at hm
    exact va_Nw.of hm.1 (hts w (tb_fW hw))
  · exact va_Nw.of rfl (tw nwT (by decide +kernel))
  · exact va_Nw.of rfl (tw nwK (by decide +kernel))
  · exact va_AO.of (A := args) (tw (.arrayOver (.object "java/lang/String")) (by decide +kernel))
theorem start_K2 {args : Array Value} {s : State} (hts : ∀ w ∈ lw_tbl, w.before args s = true) : ∃ (D : va_G) (ty : Nat → ClassId), va_K D vwCl (gT ty) s := by
  have tw : ∀ w : Cond, w ∈ gW → w.before args s = true := fun w h => hts w (List.mem_filter.mp h).1
  obtain ⟨c0, i0, k0⟩ := u_known (C := R_Desk) (T := T_Desk) (N := 4) tw in_Desk (tw _ q_n_Desk)
  obtain ⟨c1, i1, k1⟩ := u_known (C := R_Text) (T := T_Text) (N := 3) tw in_Text (tw _ q_n_Text)
  obtain ⟨c2, i2, k2⟩ := u_known (C := R_Tokens) (T := T_Tokens) (N := 2) tw in_Tokens (tw _ q_n_Tokens)
  obtain ⟨c3, i3, k3⟩ := u_known (C := R_Reader) (T := T_Reader) (N := 10) tw in_Reader (tw _ q_n_Reader)
  obtain ⟨c4, i4, k4⟩ := u_known (C := R_Shapes) (T := T_Shapes) (N := 1) tw in_Shapes (tw _ q_n_Shapes)
  obtain ⟨c5, i5, k5⟩ := u_known (C := R_Mod) (T := T_Mod) (N := 16) tw in_Mod (tw _ q_n_Mod)
  obtain ⟨a0, ka0, m0, n0, e0, d0⟩ := Cond.arrayClass_spec (tw _ q_a_int)
  obtain ⟨a1, ka1, m1, n1, e1, d1⟩ := Cond.arrayClass_spec (tw _ q_a_long)
  obtain ⟨m2, a2, ka2, f1, f2, f3, f4, f5⟩ := Cond.arrayOver_spec (hts (.arrayOver (.object "java/lang/String")) (by decide +kernel))
  refine ⟨(fun k => match k with | 0 => c0 | 1 => c1 | 2 => c2 | 3 => c3 | 4 => c4 | _ => c5, fun k => match k with | 0 => i0 | 1 => i1 | 2 => i2 | 3 => i3 | 4 => i4 | _ => i5), fun k => match k with | 0 => a0 | 1 => a1 | _ => a2, fun c q hq => ?_, fun k q hq => ?_⟩
  · match c, hq with
    | 0, hq => cases hq; exact k0
    | 1, hq => cases hq; exact k1
    | 2, hq => cases hq; exact k2
    | 3, hq => cases hq; exact k3
    | 4, hq => cases hq; exact k4
    | 5, hq => cases hq; exact k5
    | n + 6, hq => cases hq
  · match k, hq with
    | 0, hq => cases hq; exact ⟨fun n z => ⟨fun k h => (by cases h), ka0, e0, m0, d0⟩, n0⟩
    | 1, hq => cases hq; exact ⟨fun n z => ⟨fun k h => (by cases h), ka1, e1, m1, d1⟩, n1⟩
    | 2, hq => cases hq; exact ⟨fun n z => ⟨fun k h => (by cases h), ka2, f3, m2, f4⟩, ka2, m2, f3, f4, f1, f5⟩
    | n + 3, hq => cases hq
