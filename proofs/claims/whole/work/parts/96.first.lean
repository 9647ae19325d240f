/-! how many ROWS there are, and the first of all -/
def ends (n : Nat) : Nat → (Nat → Nat) → Bool
  | 0, _ => false
  | k + 1, t => match nxN t n with
    | none => true
    | some t' => ends n k t'
def dig (c : Nat) : Nat → Nat := fun k => c / 8 ^ k % 8
def enc (t : Nat → Nat) : Nat → Nat
  | 0 => 0
  | k + 1 => enc t k + t k * 8 ^ k
def endsC (n : Nat) : Nat → Nat → Bool
  | 0, _ => false
  | k + 1, c => match nxN (dig c) n with
    | none => true
    | some t' => endsC n k (enc t' n)
def agree (n : Nat) (t s : Nat → Nat) : Prop := ∀ k, k < n → t k = s k
theorem fI_agree {t s : Nat → Nat} {n : Nat} (h : agree n t s) : ∀ k, k < n → fI t k = fI s k
  | 0, _ => rfl
  | k + 1, hk => by
    unfold fI
    rw [h k (by omega), h (k + 1) hk, fI_agree h k (by omega)]
theorem fJ_agree {t s : Nat → Nat} {n i : Nat} (h : agree n t s) : ∀ k, i + 1 + k < n → fJ t i k = fJ s i k
  | 0, _ => rfl
  | k + 1, hk => by
    unfold fJ
    rw [h i (by omega), h _ hk, fJ_agree h k (by omega)]
theorem sw_agree {t s : Nat → Nat} {n i j : Nat} (h : agree n t s) (hi : i < n) (hj : j < n) : agree n (swN t i j) (swN s i j) := by
  intro k hk
  unfold swN updN
  split
  · exact h i hi
  · split
    · exact h j hj
    · exact h k hk
theorem rv_agree {t s : Nat → Nat} {n lo k : Nat} (h : agree n t s) (hl : lo + k ≤ n) : agree n (rvN t lo k) (rvN s lo k) := by
  intro x hx
  unfold rvN
  split
  · exact h _ (by omega)
  · exact h x hx
theorem nx_agree {t s : Nat → Nat} {n : Nat} (h : agree n t s) : (nxN t n = none ∧ nxN s n = none) ∨ ∃ t' s', nxN t n = some t' ∧ nxN s n = some s' ∧ agree n t' s' := by
  by_cases q : n = 0
  · subst q
    exact Or.inl ⟨rfl, rfl⟩
  · have e := fI_agree h (n - 1) (by omega)
    have hle := fI_le s (n - 1)
    unfold nxN
    rw [e]
    cases hi : fI s (n - 1) with
    | zero => exact Or.inl ⟨rfl, rfl⟩
    | succ i =>
      have h2 := fJ_in s i (n - 1 - (i + 1))
      refine Or.inr ⟨_, _, rfl, rfl, ?_⟩
      rw [fJ_agree h (n - 1 - (i + 1)) (by omega)]
      exact rv_agree (sw_agree h (by omega) (by omega)) (by omega)
theorem ends_agree {n : Nat} : ∀ (k : Nat) {t s : Nat → Nat}, agree n t s → ends n k t = ends n k s
  | 0, _, _, _ => rfl
  | k + 1, t, s, h => by
    unfold ends
    rcases nx_agree h with ⟨h1, h2⟩ | ⟨t', s', h1, h2, h3⟩
    · rw [h1, h2]
    · rw [h1, h2]
      exact ends_agree k h3
theorem enc_lt {t : Nat → Nat} (h : ∀ x, t x < 8) : ∀ n, enc t n < 8 ^ n
  | 0 => Nat.zero_lt_one
  | n + 1 => by
    have h1 := enc_lt h n
    have h2 := h n
    unfold enc
    rw [Nat.pow_succ]
    have : t n * 8 ^ n ≤ 7 * 8 ^ n := Nat.mul_le_mul_right _ (by omega)
    omega
theorem dig_enc {t : Nat → Nat} (h : ∀ x, t x < 8) : ∀ n k, k < n → dig (enc t n) k = t k
  | 0, k, hk => absurd hk (by omega)
  | n + 1, k, hk => by
    have h1 := enc_lt h n
    unfold dig enc
    by_cases e : k = n
    · subst e
      rw [Nat.add_mul_div_right _ _ (Nat.pow_pos (by omega)), Nat.div_eq_of_lt h1, Nat.zero_add, Nat.mod_eq_of_lt (h k)]
    · have ih := dig_enc h n k (by omega)
      unfold dig at ih
      have e2 : t n * 8 ^ n = 8 ^ k * (8 * (t n * 8 ^ (n - k - 1))) := by
        rw [show (8 : Nat) ^ n = 8 ^ k * (8 * 8 ^ (n - k - 1)) from by rw [← Nat.pow_succ', ← Nat.pow_add]; congr 1; omega]
        simp only [Nat.mul_assoc, Nat.mul_comm, Nat.mul_left_comm]
      rw [e2, Nat.add_mul_div_left _ _ (Nat.pow_pos (by omega)), Nat.add_mul_mod_self_left]
      exact ih
theorem nx_lt {t t' : Nat → Nat} {n b : Nat} (h : nxN t n = some t') (hb : ∀ x, t x < b) : ∀ x, t' x < b := by
  obtain ⟨s, -, -, rfl⟩ := nx_perm h
  exact fun x => hb _
theorem ends_C {n : Nat} : ∀ (k : Nat) {t : Nat → Nat}, (∀ x, t x < 8) → ends n k t = endsC n k (enc t n)
  | 0, _, _ => rfl
  | k + 1, t, h => by
    unfold ends endsC
    rcases nx_agree (t := t) (s := dig (enc t n)) (n := n) (fun x hx => (dig_enc h n x hx).symm) with ⟨h1, h2⟩ | ⟨t', s', h1, h2, h3⟩
    · rw [h1, h2]
    · rw [h1, h2]
      have hs : ∀ x, s' x < 8 := nx_lt h2 (fun x => Nat.mod_lt _ (by omega))
      show ends n k t' = endsC n k (enc s' n)
      rw [← ends_C k hs]
      exact ends_agree k h3
/-- the first ROW of all: of the first k leaders those that did not lead (bits u) -/
def frN (u : Nat) : Nat → Nat × (Nat → Nat)
  | 0 => (0, fun _ => 0)
  | k + 1 => if u.testBit k = true then frN u k else ((frN u k).1 + 1, updN (frN u k).2 (frN u k).1 k)
theorem fr_in (u : Nat) : ∀ k, (frN u k).1 ≤ k ∧ (∀ x, (frN u k).2 x < k + 1) ∧ (∀ i, i < (frN u k).1 → (frN u k).2 i < k ∧ u.testBit ((frN u k).2 i) = false) ∧ ∀ i j, i < j → j < (frN u k).1 → (frN u k).2 i < (frN u k).2 j
  | 0 => ⟨Nat.le_refl _, fun x => Nat.zero_lt_one, fun i hi => absurd hi (by show ¬ i < 0; omega), fun i j _ hj => absurd hj (by show ¬ j < 0; omega)⟩
  | k + 1 => by
    obtain ⟨h1, h2, h3, h4⟩ := fr_in u k
    unfold frN
    by_cases q : u.testBit k = true
    · rw [if_pos q]
      exact ⟨by omega, fun x => by have := h2 x; omega, fun i hi => ⟨by have := (h3 i hi).1; omega, (h3 i hi).2⟩, h4⟩
    · rw [if_neg q]
      refine ⟨by show (frN u k).1 + 1 ≤ _; omega, fun x => ?_, fun i hi => ?_, fun i j hij hj => ?_⟩
      · show updN _ _ _ x < _
        unfold updN
        have := h2 x
        split <;> omega
      · have hi : i < (frN u k).1 + 1 := hi
        show updN _ _ _ i < _ ∧ u.testBit (updN _ _ _ i) = false
        unfold updN
        by_cases e : i = (frN u k).1
        · rw [if_pos e]
          exact ⟨by omega, by simpa using q⟩
        · rw [if_neg e]
          have := h3 i (by omega)
          exact ⟨by omega, this.2⟩
      · have hj : j < (frN u k).1 + 1 := hj
        show updN _ _ _ i < updN _ _ _ j
        unfold updN
        rw [if_neg (by omega)]
        by_cases e : j = (frN u k).1
        · rw [if_pos e]
          exact (h3 i (by omega)).1
        · rw [if_neg e]
          exact h4 i j hij (by omega)
def allEnd : Bool := (List.range 7).all fun L => (List.range (2 ^ L)).all fun u => endsC (frN u L).1 720 (enc (frN u L).2 (frN u L).1)
set_option maxRecDepth 100000 in
theorem allEnd_ok : allEnd = true := by decide +kernel
theorem fr_ends {L u : Nat} (hL : L ≤ 6) (hu : u < 2 ^ L) : ends (frN u L).1 720 (frN u L).2 = true := by
  rw [ends_C 720 (fun x => by have := (fr_in u L).2.1 x; omega)]
  have h := allEnd_ok
  unfold allEnd at h
  rw [List.all_eq_true] at h
  have h2 := h L (List.mem_range.mpr (by omega))
  rw [List.all_eq_true] at h2
  exact h2 u (List.mem_range.mpr hu)
theorem ends_more {n : Nat} : ∀ (k j : Nat) {t : Nat → Nat}, k ≤ j → ends n k t = true → ends n j t = true
  | 0, _, _, _, h => by simp [ends] at h
  | k + 1, 0, _, hk, _ => absurd hk (by omega)
  | k + 1, j + 1, t, hk, h => by
    unfold ends at h ⊢
    cases e : nxN t n with
    | none => rfl
    | some t' =>
      rw [e] at h
      exact ends_more k j (by omega) h
