/-! what may be undone, in the model -/
theorem know58 {N k : Nat} {g0 : Nat → Int32} (hk : k ≤ 9) (h17 : g0 17 = nI k) : ∀ (j x fu : Nat) (a : Nat → Int32), x + j = 17 → j < fu → (∀ y, y < 18 + 17 * k → a y = g0 y) → (∀ y, y < x → a (18 + 17 * k + y) = g0 y) → (∀ y, 18 + 17 * k + 17 ≤ y → a y = g0 y) →
    ∃ b, fX10_know_b58 N fu a (nI x) = some b ∧ b 17 = nI (k + 1) ∧ (∀ y, y < 18 + 17 * k → y ≠ 17 → b y = g0 y) ∧ (∀ y, y < 17 → b (18 + 17 * k + y) = g0 y) ∧ ∀ y, 18 + 17 * k + 17 ≤ y → b y = g0 y := by
  intro j
  induction j with
  | zero =>
    intro x fu a h1 h2 h3 h4 h5
    obtain ⟨fu, rfl⟩ : ∃ j, fu = j + 1 := ⟨fu - 1, by omega⟩
    rw [fX10_know_b58, if_pos (by rw [show (17 : Int32) = nI 17 from rfl]; exact nI_le (by omega) (by omega)), cl17, h3 17 (by omega), h17, nI_1]
    refine ⟨_, rfl, pk_us, fun y hy hn => ?_, fun y hy => ?_, fun y hy => ?_⟩
    · rw [pk_un hn]; exact h3 y hy
    · rw [pk_un (by omega)]; exact h4 y (by omega)
    · rw [pk_un (by omega)]; exact h5 y hy
  | succ j ih =>
    intro x fu a h1 h2 h3 h4 h5
    obtain ⟨fu, rfl⟩ : ∃ j, fu = j + 1 := ⟨fu - 1, by omega⟩
    have e : ((18 : Int32) + ((17 : Int32) * nI k)) + nI x = nI (18 + 17 * k + x) := by
      rw [show (18 : Int32) = nI 18 from rfl, show (17 : Int32) = nI 17 from rfl, pk_mul, nI_add, nI_add]
    rw [fX10_know_b58, if_neg (by rw [show (17 : Int32) = nI 17 from rfl]; exact dj (by omega) (by omega)), cl17, h3 17 (by omega), h17, e, gi_ok (by omega) (by omega), gi_ok (by omega) (by omega), cl (show x < 2 ^ 31 by omega), cl (show 18 + 17 * k + x < 2 ^ 31 by omega), nI_1]
    refine ih (x + 1) fu _ (by omega) (by omega) (fun y hy => ?_) (fun y hy => ?_) (fun y hy => ?_)
    · rw [pk_un (by omega)]; exact h3 y hy
    · by_cases e2 : y = x
      · subst e2
        rw [pk_us]; exact h3 y (by omega)
      · rw [pk_un (by omega)]; exact h4 y (by omega)
    · rw [pk_un (by omega)]; exact h5 y hy
theorem know14 {N : Nat} {g0 : Nat → Int32} (hN : 1000 ≤ N) (h17 : g0 17 = nI 10) : ∀ (j x fu : Nat) (a : Nat → Int32), x + j = 153 → j < fu → (∀ y, y < 18 → a y = g0 y) → (∀ y, y < x → a (18 + y) = g0 (35 + y)) → (∀ y, 18 + x ≤ y → a y = g0 y) →
    ∃ b, fX10_know_b14 N fu a (nI x) = some b ∧ b 17 = nI 10 ∧ (∀ y, y < 17 → b y = g0 y) ∧ (∀ y, y < 153 → b (18 + y) = g0 (35 + y)) ∧ (∀ y, y < 17 → b (171 + y) = g0 y) ∧ ∀ y, 188 ≤ y → b y = g0 y := by
  intro j
  induction j with
  | zero =>
    intro x fu a h1 h2 h3 h4 h5
    obtain ⟨fu, rfl⟩ : ∃ j, fu = j + 1 := ⟨fu - 1, by omega⟩
    rw [fX10_know_b14, if_pos (by rw [show (153 : Int32) = nI 153 from rfl]; exact nI_le (by omega) (by omega)), cl17, h3 17 (by omega), h17]
    unfold fX10_know_b56
    obtain ⟨b, c1, c2, c3, c4, c5⟩ := know58 (N := N) (k := 9) (g0 := upd a 17 (nI 10 - (1 : Int32))) (by omega) (by rw [pk_us]; exact pk_sub (a := 10) (b := 1) (by omega)) 17 0 N (upd a 17 (nI 10 - (1 : Int32))) (by omega) (by omega) (fun y _ => rfl) (fun y hy => absurd hy (by omega)) (fun y _ => rfl)
    refine ⟨b, c1, c2, fun y hy => ?_, fun y hy => ?_, fun y hy => ?_, fun y hy => ?_⟩
    · rw [c3 y (by omega) (by omega), pk_un (by omega)]; exact h3 y (by omega)
    · rw [c3 (18 + y) (by omega) (by omega), pk_un (by omega)]; exact h4 y (by omega)
    · rw [show 171 + y = 18 + 17 * 9 + y by omega, c4 y hy, pk_un (by omega)]; exact h3 y (by omega)
    · rw [c5 y (by omega), pk_un (by omega)]; exact h5 y (by omega)
  | succ j ih =>
    intro x fu a h1 h2 h3 h4 h5
    obtain ⟨fu, rfl⟩ : ∃ j, fu = j + 1 := ⟨fu - 1, by omega⟩
    have e1 : (35 : Int32) + nI x = nI (35 + x) := by rw [show (35 : Int32) = nI 35 from rfl, nI_add]
    have e2 : (18 : Int32) + nI x = nI (18 + x) := by rw [show (18 : Int32) = nI 18 from rfl, nI_add]
    rw [fX10_know_b14, if_neg (by rw [show (153 : Int32) = nI 153 from rfl]; exact dj (by omega) (by omega)), e1, e2, gi_ok (by omega) (by omega), gi_ok (by omega) (by omega), cl (show 35 + x < 2 ^ 31 by omega), cl (show 18 + x < 2 ^ 31 by omega), nI_1]
    refine ih (x + 1) fu _ (by omega) (by omega) (fun y hy => ?_) (fun y hy => ?_) (fun y hy => ?_)
    · rw [pk_un (by omega)]; exact h3 y hy
    · by_cases e3 : y = x
      · subst e3
        rw [pk_us]; exact h5 _ (by omega)
      · rw [pk_un (by omega)]; exact h4 y (by omega)
    · rw [pk_un (by omega)]; exact h5 y (by omega)
theorem know_ok {N k : Nat} {g : Nat → Int32} (hN : 1000 ≤ N) (hk : k ≤ 10) (h17 : g 17 = nI k) :
    ∃ b, fX10_know N g = some b ∧ b 17 = nI (if k = 10 then 10 else k + 1) ∧ (∀ y, y < 17 → b y = g y) ∧ (∀ i x, i < (if k = 10 then 9 else k) → x < 17 → b (18 + 17 * i + x) = g (18 + 17 * (if k = 10 then i + 1 else i) + x)) ∧ (∀ x, x < 17 → b (18 + 17 * (if k = 10 then 9 else k) + x) = g x) ∧ ∀ y, 188 ≤ y → b y = g y := by
  unfold fX10_know
  rw [cl17, h17]
  by_cases q : k = 10
  · subst q
    rw [if_pos (show nI 10 = (10 : Int32) from rfl)]
    obtain ⟨b, c1, c2, c3, c4, c5, c6⟩ := know14 (N := N) hN h17 153 0 N g (by omega) (by omega) (fun y _ => rfl) (fun y hy => absurd hy (by omega)) (fun y _ => rfl)
    simp only [if_true]
    refine ⟨b, c1, c2, c3, fun i x hi hx => ?_, fun x hx => ?_, c6⟩
    · rw [show 18 + 17 * i + x = 18 + (17 * i + x) by omega, c4 (17 * i + x) (by omega)]
      exact congrArg g (by omega)
    · exact c5 x hx
  · rw [if_neg (fun z => q ((nI_eq (by omega) (by omega)).mp (z.trans (show (10 : Int32) = nI 10 from rfl))))]
    unfold fX10_know_b56
    obtain ⟨b, c1, c2, c3, c4, c5⟩ := know58 (N := N) (k := k) (g0 := g) (by omega) h17 17 0 N g (by omega) (by omega) (fun y _ => rfl) (fun y hy => absurd hy (by omega)) (fun y _ => rfl)
    simp only [if_neg q]
    refine ⟨b, c1, c2, fun y hy => c3 y (by omega) (by omega), fun i x hi hx => c3 _ (by omega) (by omega), c4, fun y hy => c5 y (by omega)⟩
