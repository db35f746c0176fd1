/-! the two programs do the same -/
theorem RL_0 : RL k_0 m_0 := ⟨⟨0, by omega, rfl, rfl, fun j hj => by omega⟩, rfl, fun _ => -1, 0, [], ⟨Nat.zero_le _, rfl, fun i t hi => by simp at hi⟩, ⟨rfl, fun i t hi => by simp at hi⟩, Or.inl rfl⟩
theorem st_wrong (σ : KS) (τ : MS) (hR : RL σ τ) : stWrong RL σ τ := by
  intro s1 e1
  subst e1
  exact ⟨hR.2.1, RL_err hR⟩
theorem st_many (σ : KS) (τ : MS) (hR : RL σ τ) : stMany RL σ τ := by
  have hR' := hR
  obtain ⟨-, -, T, n, tk, hk, hm, -⟩ := hR'
  intro s1 e1
  subst e1
  refine ⟨?_, RL_err hR⟩
  show k_cnt σ = m_many τ
  rw [hk.2.1, hm.1]
theorem pure_all : ∃ REL : KS → MS → Prop, stAll REL ∧ REL k_0 m_0 := ⟨RL, ⟨fun σ o τ h a1 a2 a3 a4 a5 => st_feed σ o τ h a1 a2 a3 a4 a5, fun σ o τ h a1 => st_scan σ o τ h a1, fun σ o τ h a1 a2 => st_token σ o τ h a1 a2, st_wrong, st_many⟩, RL_0⟩
