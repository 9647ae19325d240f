theorem off_nI {i x : Nat} : ((188 : Int32) * ((1 : Int32) + nI i)) + nI x = nI (188 * (1 + i) + x) := by
  rw [show (188 : Int32) = nI 188 from rfl, show (1 : Int32) = nI 1 from rfl, nI_add, pk_mul, nI_add]
theorem keep_loop {N i : Nat} {g K : Nat → Int32} (hi : i < 2) : ∀ (j x fu : Nat) (a : Nat → Int32), x + j = 188 → j < fu → (∀ y, y < 188 * (1 + i) ∨ 188 * (1 + i) + 188 ≤ y → a y = g y) → (∀ y, y < x → a (188 * (1 + i) + y) = g y) →
    ∃ b, fX10_keep_b13 N (nI i) fu a K (nI x) = some (b 1, b, upd K i (vp_nar .boolean (1 : Int32))) ∧ (∀ y, y < 188 * (1 + i) ∨ 188 * (1 + i) + 188 ≤ y → b y = g y) ∧ ∀ y, y < 188 → b (188 * (1 + i) + y) = g y := by
  intro j
  induction j with
  | zero =>
    intro x fu a h1 h2 h3 h4
    obtain ⟨fu, rfl⟩ : ∃ j, fu = j + 1 := ⟨fu - 1, by omega⟩
    rw [fX10_keep_b13, if_pos (by rw [show (188 : Int32) = nI 188 from rfl]; exact nI_le (by omega) (by omega)), gi_ok (by omega) (by omega), cl1, cl (show i < 2 ^ 31 by omega)]
    exact ⟨a, rfl, h3, fun y hy => h4 y (by omega)⟩
  | succ j ih =>
    intro x fu a h1 h2 h3 h4
    obtain ⟨fu, rfl⟩ : ∃ j, fu = j + 1 := ⟨fu - 1, by omega⟩
    rw [fX10_keep_b13, if_neg (by rw [show (188 : Int32) = nI 188 from rfl]; exact dj (by omega) (by omega)), off_nI, gi_ok (by omega) (by omega), gi_ok (by omega) (by omega), cl (show x < 2 ^ 31 by omega), cl (show 188 * (1 + i) + x < 2 ^ 31 by omega), nI_1]
    refine ih (x + 1) fu _ (by omega) (by omega) (fun y hy => ?_) (fun y hy => ?_)
    · rw [pk_un (by omega)]; exact h3 y hy
    · by_cases e : y = x
      · subst e
        rw [pk_us]; exact h3 y (by omega)
      · rw [pk_un (by omega)]; exact h4 y (by omega)
theorem back_loop {N i : Nat} {g K : Nat → Int32} (hi : i < 2) : ∀ (j x fu : Nat) (a : Nat → Int32), x + j = 188 → j < fu → (∀ y, 188 ≤ y → a y = g y) → (∀ y, y < x → a y = g (188 * (1 + i) + y)) →
    ∃ b, fX10_back_b25 N K (nI i) fu a (nI x) = some (b 1, b) ∧ (∀ y, 188 ≤ y → b y = g y) ∧ ∀ y, y < 188 → b y = g (188 * (1 + i) + y) := by
  intro j
  induction j with
  | zero =>
    intro x fu a h1 h2 h3 h4
    obtain ⟨fu, rfl⟩ : ∃ j, fu = j + 1 := ⟨fu - 1, by omega⟩
    rw [fX10_back_b25, if_pos (by rw [show (188 : Int32) = nI 188 from rfl]; exact nI_le (by omega) (by omega)), cl1]
    exact ⟨a, rfl, h3, fun y hy => h4 y (by omega)⟩
  | succ j ih =>
    intro x fu a h1 h2 h3 h4
    obtain ⟨fu, rfl⟩ : ∃ j, fu = j + 1 := ⟨fu - 1, by omega⟩
    rw [fX10_back_b25, if_neg (by rw [show (188 : Int32) = nI 188 from rfl]; exact dj (by omega) (by omega)), off_nI, gi_ok (by omega) (by omega), gi_ok (by omega) (by omega), cl (show x < 2 ^ 31 by omega), cl (show 188 * (1 + i) + x < 2 ^ 31 by omega), nI_1]
    refine ih (x + 1) fu _ (by omega) (by omega) (fun y hy => ?_) (fun y hy => ?_)
    · rw [pk_un (by omega)]; exact h3 y hy
    · by_cases e : y = x
      · subst e
        rw [pk_us]; exact h3 _ (by omega)
      · rw [pk_un e]; exact h4 y (by omega)
