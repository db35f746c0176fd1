/-! the text as a function: T k is the letter at k, -1 from n on -/
def z_run (P : Nat → Bool) : Nat → Nat → Nat
  | 0, k => k
  | f + 1, k => if P k = true then z_run P f (k + 1) else k
theorem z_run_t {P : Nat → Bool} {f k : Nat} (h : P k = true) : z_run P (f + 1) k = z_run P f (k + 1) := by rw [z_run, if_pos h]
theorem z_run_f {P : Nat → Bool} {f k : Nat} (h : P k = false) : z_run P (f + 1) k = k := by rw [z_run, if_neg (by rw [h]; decide)]
theorem z_run_le (P : Nat → Bool) : ∀ (f k : Nat), k ≤ z_run P f k ∧ z_run P f k ≤ k + f := by
  intro f
  induction f with
  | zero => intro k; exact ⟨Nat.le_refl _, Nat.le_refl _⟩
  | succ f ih =>
    intro k
    rw [z_run]
    split
    · have := ih (k + 1); omega
    · omega
theorem z_run_all (P : Nat → Bool) : ∀ (f k j : Nat), k ≤ j → j < z_run P f k → P j = true := by
  intro f
  induction f with
  | zero => intro k j h1 h2; rw [z_run] at h2; omega
  | succ f ih =>
    intro k j h1 h2
    rw [z_run] at h2
    split at h2
    · rename_i hp
      by_cases e : j = k
      · rw [e]; exact hp
      · exact ih (k + 1) j (by omega) h2
    · omega
theorem z_run_stop (P : Nat → Bool) : ∀ (f k : Nat), z_run P f k < k + f → P (z_run P f k) = false := by
  intro f
  induction f with
  | zero => intro k h; rw [z_run] at h; omega
  | succ f ih =>
    intro k h
    rw [z_run] at h ⊢
    split
    · rename_i hp
      rw [if_pos hp] at h
      exact ih (k + 1) (by omega)
    · rename_i hp
      simpa using hp
theorem z_run_eq (P : Nat → Bool) {f k e : Nat} (h1 : k ≤ e) (h2 : e ≤ k + f) (h3 : ∀ j, k ≤ j → j < e → P j = true) (h4 : e = k + f ∨ P e = false) : z_run P f k = e := by
  have a := z_run_le P f k
  rcases Nat.lt_trichotomy (z_run P f k) e with h | h | h
  · have b := z_run_stop P f k (by omega)
    rw [h3 _ a.1 h] at b
    cases b
  · exact h
  · rcases h4 with q | q
    · omega
    · have b := z_run_all P f k e h1 h
      rw [q] at b
      cases b
/-- the letters of a text -/
def z_dig (c : Int32) : Bool := decide (48 ≤ c) && decide (c ≤ 57)
def z_let (c : Int32) : Bool := (decide (97 ≤ c) && decide (c ≤ 122)) || (decide (65 ≤ c) && decide (c ≤ 90)) || decide (c = 95)
/-- a digit to the base b -/
def z_dgb (b : Nat) (c : Int32) : Bool := (decide (48 ≤ c) && decide (c ≤ 57) && decide (c < nI (48 + b))) || (decide (b = 16) && ((decide (97 ≤ c) && decide (c ≤ 102)) || (decide (65 ≤ c) && decide (c ≤ 70))))
/-- where the digits from k on end -/
def z_dEnd (T : Nat → Int32) (n b k : Nat) : Nat := z_run (fun j => z_dgb b (T j) || (decide (T j = 95) && decide (k < j) && z_dgb b (T (j + 1)))) (n - k) k
def z_nEnd (T : Nat → Int32) (n k : Nat) : Nat := z_run (fun j => z_let (T j) || z_dig (T j)) (n - k) k
/-- the next 10 -/
def z_lf (T : Nat → Int32) (n k : Nat) : Nat := z_run (fun j => decide (¬ T j = 10)) (n - k) k
/-- how many 10s stand from k on, in f letters -/
def z_cnt (T : Nat → Int32) : Nat → Nat → Nat
  | 0, _ => 0
  | f + 1, k => (if T k = 10 then 1 else 0) + z_cnt T f (k + 1)
