/-! images -/
theorem become_loop {N k : Nat} {q : Nat → Nat → Int32} {s1 : Int32} (hk : k ≤ 10) : ∀ (j x fu : Nat) (a : Nat → Nat → Int32), x + j = k → j < fu → (∀ i f, i < x → f < 6 → a i f = q i f) → ∃ b, fX1_become_b10 N s1 q fu (nI k) a (nI x) = some (nI k, b) ∧ ∀ i f, i < k → f < 6 → b i f = q i f := by
  intro j
  induction j with
  | zero =>
    intro x fu a h1 h2 h3
    obtain ⟨fu, rfl⟩ : ∃ j, fu = j + 1 := ⟨fu - 1, by omega⟩
    rw [fX1_become_b10, if_pos (nI_le (by omega) (by omega))]
    exact ⟨a, rfl, fun i f hi hf => h3 i f (by omega) hf⟩
  | succ j ih =>
    intro x fu a h1 h2 h3
    obtain ⟨fu, rfl⟩ : ∃ j, fu = j + 1 := ⟨fu - 1, by omega⟩
    rw [fX1_become_b10, if_neg (dj (by omega) (by omega)), gi_ok (by omega) (by omega), gi_ok (by omega) (by omega), cl (by omega)]
    unfold fX3_become
    rw [Option.bind_some, nI_1]
    refine ih (x + 1) fu _ (by omega) (by omega) (fun i f hi hf => ?_)
    show (if i = x then rec6 (q x 0) (q x 1) (q x 2) (q x 3) (q x 4) (q x 5) else a i) f = _
    by_cases e : i = x
    · rw [if_pos e, rec6_at f hf, e]
    · rw [if_neg e]
      exact h3 i f (by omega) hf
theorem become_ok {N k : Nat} {q p : Nat → Nat → Int32} {s0 : Int32} (hN : 1000 ≤ N) (hk : k ≤ 10) : ∃ b, fX1_become N s0 p (nI k) q = some (nI k, b) ∧ ∀ i f, i < k → f < 6 → b i f = q i f :=
  become_loop hk k 0 N p (by omega) (by omega) (fun i f hi => absurd hi (by omega))
