/-! the whole text, in numbers -/
abbrev Tk : Type := Int32 × Nat × Nat
def nupd (g : Nat → Nat) (k v : Nat) : Nat → Nat := fun i => if i = k then v else g i
/-- out of the levels that are deeper than in -/
def z_out (lv : Nat → Nat) (lin a : Nat) : Nat → List Tk → Nat × List Tk
  | 0, tk => (0, tk)
  | d + 1, tk => if lv (d + 1) ≤ lin then (d + 1, tk) else z_out lv lin a d (tk ++ [(3, a, a)])
def z_set (T : Nat → Int32) (n a p d : Nat) (lv : Nat → Nat) (tk : List Tk) : Option (Nat × (Nat → Nat) × List Tk) :=
  if z_bl T n p ≤ lv d then
    (if lv (z_out lv (z_bl T n p) a d tk).1 = z_bl T n p then some ((z_out lv (z_bl T n p) a d tk).1, lv, (z_out lv (z_bl T n p) a d tk).2) else none)
  else if tk.length = 0 then none else some (d + 1, nupd lv (d + 1) (z_bl T n p), tk ++ [(2, a, a)])
def z_eol (a : Nat) (lht : Bool) (tk : List Tk) : List Tk := if lht = true then tk ++ [(1, a, a)] else tk
def z_fin (n : Nat) (lht : Bool) (d : Nat) (lv : Nat → Nat) (tk : List Tk) : List Tk := (z_out lv 0 n d (z_eol n lht tk)).2 ++ [(0, n, n)]
def xB (T : Nat → Int32) (n : Nat) (F : Nat → Nat → Nat → Bool → Nat → (Nat → Nat) → List Tk → Nat ⊕ List Tk) (a p op : Nat) (lht : Bool) (d : Nat) (lv : Nat → Nat) (tk : List Tk) : Nat ⊕ List Tk :=
    if n ≤ a then .inr (z_fin n lht d lv tk)
    else if T a = 32 then F (a + 1) p op lht d lv tk
    else if T a = 35 then F (z_lf T n a) p op lht d lv tk
    else if T a = 10 then (if op = 0 then F (a + 1) (a + 1) 0 false d lv (z_eol a lht tk) else F (a + 1) p op lht d lv tk)
    else if T a = 92 ∧ T (a + 1) = 10 then F (a + 2) p op lht d lv tk
    else match (if lht = true then some (d, lv, tk) else z_set T n a p d lv tk) with
      | none => .inl a
      | some (d', lv', tk') => match z_tok T n a with
        | none => .inl a
        | some (k, e) => F e p (z_dep (T a) op) true d' lv' (tk' ++ [(k, a, e)])
def xF (T : Nat → Int32) (n : Nat) : Nat → Nat → Nat → Nat → Bool → Nat → (Nat → Nat) → List Tk → Nat ⊕ List Tk
  | 0, _, _, _, lht, d, lv, tk => .inr (z_fin n lht d lv tk)
  | f + 1, a, p, op, lht, d, lv, tk => xB T n (xF T n f) a p op lht d lv tk
theorem z_lf_le {T : Nat → Int32} {n a : Nat} (ha : a ≤ n) : a ≤ z_lf T n a ∧ z_lf T n a ≤ n := by
  have := z_run_le (fun j => decide (¬ T j = 10)) (n - a) a
  unfold z_lf
  omega
theorem z_lf_gt {T : Nat → Int32} {n a : Nat} (ha : a < n) (h : ¬ T a = 10) : a < z_lf T n a := by
  have e : z_lf T n a = z_run (fun j => decide (¬ T j = 10)) (n - a - 1) (a + 1) := by
    unfold z_lf
    rw [show n - a = (n - a - 1) + 1 by omega, z_run_t (by simp [h])]
    rfl
  have := z_run_le (fun j => decide (¬ T j = 10)) (n - a - 1) (a + 1)
  omega
theorem xF_fuel {T : Nat → Int32} {n : Nat} (hT : tX T n) : ∀ (f a p op : Nat) (lht : Bool) (d : Nat) (lv : Nat → Nat) (tk : List Tk), n ≤ a + f → xF T n (f + 1) a p op lht d lv tk = xF T n f a p op lht d lv tk := by
  intro f
  induction f with
  | zero =>
    intro a p op lht d lv tk h
    show xB T n _ a p op lht d lv tk = _
    unfold xB
    rw [if_pos (by omega)]
    rfl
  | succ f ih =>
    intro a p op lht d lv tk h
    show xB T n (xF T n (f + 1)) a p op lht d lv tk = xB T n (xF T n f) a p op lht d lv tk
    unfold xB
    by_cases h0 : n ≤ a
    · rw [if_pos h0, if_pos h0]
    rw [if_neg h0, if_neg h0]
    by_cases h1 : T a = 32
    · rw [if_pos h1, if_pos h1]
      exact ih _ _ _ _ _ _ _ (by omega)
    rw [if_neg h1, if_neg h1]
    by_cases h2 : T a = 35
    · rw [if_pos h2, if_pos h2]
      have := z_lf_gt (T := T) (n := n) (a := a) (by omega) (by rw [h2]; decide)
      exact ih _ _ _ _ _ _ _ (by omega)
    rw [if_neg h2, if_neg h2]
    by_cases h3 : T a = 10
    · rw [if_pos h3, if_pos h3]
      by_cases h4 : op = 0
      · rw [if_pos h4, if_pos h4]
        exact ih _ _ _ _ _ _ _ (by omega)
      · rw [if_neg h4, if_neg h4]
        exact ih _ _ _ _ _ _ _ (by omega)
    rw [if_neg h3, if_neg h3]
    by_cases h5 : T a = 92 ∧ T (a + 1) = 10
    · rw [if_pos h5, if_pos h5]
      exact ih _ _ _ _ _ _ _ (by omega)
    rw [if_neg h5, if_neg h5]
    cases h6 : (if lht = true then some (d, lv, tk) else z_set T n a p d lv tk) with
    | none => rfl
    | some x =>
      obtain ⟨d', lv', tk'⟩ := x
      cases h7 : z_tok T n a with
      | none => rfl
      | some y =>
        obtain ⟨k, e⟩ := y
        have := z_tok_le hT (by omega) h7
        exact ih _ _ _ _ _ _ _ (by omega)
/-! what holds all along -/
def iL (n d : Nat) (lv : Nat → Nat) : Prop := lv 0 = 0 ∧ ∀ i, i ≤ d → i ≤ lv i ∧ lv i ≤ n
def iV (n a p op : Nat) (lht : Bool) (d : Nat) (lv : Nat → Nat) (tk : List Tk) : Prop :=
  a ≤ n ∧ p ≤ a ∧ op ≤ a ∧ iL n d lv ∧ (lht = false → d * (d + 1) ≤ 2 * p ∧ 3 * (tk.length + d) ≤ 4 * p) ∧ (lht = true → d * (d + 1) ≤ 2 * a ∧ 3 * (tk.length + d) ≤ 4 * a + 1)
theorem z_bl_le {T : Nat → Int32} {n p : Nat} (hp : p ≤ n) : p + z_bl T n p ≤ n := by
  have := z_run_le (fun j => decide (T j = 32)) (n - p) p
  unfold z_bl
  omega
theorem z_bl_at {T : Nat → Int32} {n a p : Nat} (hp : p ≤ a) (h : ¬ T a = 32) : p + z_bl T n p ≤ a := by
  refine Nat.le_of_not_lt (fun q => h ?_)
  have := z_run_le (fun j => decide (T j = 32)) (n - p) p
  have := z_run_all (fun j => decide (T j = 32)) (n - p) p a hp (by unfold z_bl at q; omega)
  exact decide_eq_true_iff.mp this
theorem z_out_inv (lv : Nat → Nat) (lin a : Nat) : ∀ (d : Nat) (tk : List Tk), (z_out lv lin a d tk).1 ≤ d ∧ (z_out lv lin a d tk).2.length + (z_out lv lin a d tk).1 = tk.length + d := by
  intro d
  induction d with
  | zero => intro tk; exact ⟨Nat.le_refl _, rfl⟩
  | succ d ih =>
    intro tk
    rw [z_out]
    split
    · exact ⟨Nat.le_refl _, rfl⟩
    · have := ih (tk ++ [(3, a, a)])
      rw [List.length_append, List.length_singleton] at this
      omega
theorem sq_up (d : Nat) : (d + 1) * (d + 1 + 1) = d * (d + 1) + 2 * (d + 1) := by
  rw [Nat.mul_comm d, Nat.mul_comm 2, ← Nat.mul_add]
theorem sq_le {d d' : Nat} (h : d' ≤ d) : d' * (d' + 1) ≤ d * (d + 1) := Nat.mul_le_mul h (by omega)
theorem sq_90 {d : Nat} (h : d * (d + 1) ≤ 8192) : d ≤ 90 := by
  refine Nat.le_of_not_lt (fun q => ?_)
  have : 91 * (91 + 1) ≤ d * (d + 1) := sq_le (by omega)
  omega
theorem z_set_inv {T : Nat → Int32} {n a p d d' : Nat} {lv lv' : Nat → Nat} {tk tk' : List Tk} (ha : a < n) (hp : p ≤ a) (h32 : ¬ T a = 32) (hL : iL n d lv) (h1 : d * (d + 1) ≤ 2 * p) (h2 : 3 * (tk.length + d) ≤ 4 * p) (h : z_set T n a p d lv tk = some (d', lv', tk')) : iL n d' lv' ∧ d' * (d' + 1) ≤ 2 * a ∧ 3 * (tk'.length + d') ≤ 4 * a + 2 := by
  have hb := z_bl_at (n := n) hp h32
  unfold z_set at h
  split at h
  · split at h
    · cases h
      have hi := z_out_inv lv (z_bl T n p) a d tk
      refine ⟨⟨hL.1, fun i hi' => hL.2 i (by omega)⟩, ?_, ?_⟩
      · have := sq_le hi.1; omega
      · omega
    · cases h
  · split at h
    · cases h
    · rename_i q _
      cases h
      have hd := hL.2 d (Nat.le_refl _)
      refine ⟨⟨?_, fun i hi => ?_⟩, ?_, ?_⟩
      · unfold nupd; rw [if_neg (by omega)]; exact hL.1
      · unfold nupd
        split
        · omega
        · exact hL.2 i (by omega)
      · rw [sq_up]; omega
      · rw [List.length_append, List.length_singleton]; omega
