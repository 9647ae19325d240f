/-! streets that are walked, and how many bits a number has -/
def wlkN (K : Nat → Nat) : Nat → Nat
  | 0 => 0
  | s + 1 => wlkN K s ||| (if K s = 0 then 0 else 2 ^ s)
theorem wlk_lt (K : Nat → Nat) : ∀ n, wlkN K n < 2 ^ n
  | 0 => by show 0 < 1; omega
  | n + 1 => by
    have h := wlk_lt K n
    unfold wlkN
    refine or_lt (Nat.lt_of_lt_of_le h (Nat.pow_le_pow_right (by omega) (by omega))) ?_
    split
    · exact Nat.pow_pos (by omega)
    · exact Nat.pow_lt_pow_right (by omega) (by omega)
theorem wlk_bit (K : Nat → Nat) (i : Nat) : ∀ n, (wlkN K n).testBit i = (decide (i < n) && decide (K i ≠ 0))
  | 0 => by simp [wlkN]
  | n + 1 => by
    unfold wlkN
    rw [Nat.testBit_or, wlk_bit K i n]
    by_cases e : i = n
    · subst e
      by_cases h : K i = 0
      · simp [h]
      · simp [h, tb_pow]
    · by_cases h : K n = 0
      · simp [h, show (i < n + 1) ↔ (i < n) by omega]
      · simp [h, tb_pow, show ¬ n = i by omega, show (i < n + 1) ↔ (i < n) by omega]
theorem wlk_more {K : Nat → Nat} {n : Nat} (h : ∀ s, n ≤ s → K s = 0) : ∀ k, n ≤ k → wlkN K k = wlkN K n := by
  intro k hk
  apply Nat.eq_of_testBit_eq
  intro i
  rw [wlk_bit, wlk_bit]
  by_cases e : i < n
  · simp [e, show i < k by omega]
  · simp [e, h i (by omega)]
/-- the streets walked, as bits -/
def wlk (m : MM) : Nat := wlkN (mmK m) 12
theorem walked_c {N : Nat} {m : MM} {T : Nat} (hT : tkn (mmK m) T) (hK : ∀ s, mmK m s ≤ 3) : fX3_walked N (nI T) = some (nI (wlk m)) := by
  unfold fX3_walked
  rw [show (12 : Int32) = nI 12 from rfl, shr_nI (show T < 2 ^ 31 by have := hT.1; omega) (by omega), fa_or, show (4095 : Int32) = nI 4095 from rfl, fa_and]
  refine congrArg some (nI_cong ?_)
  apply Nat.eq_of_testBit_eq
  intro i
  unfold wlk
  rw [wlk_bit, Nat.testBit_and, Nat.testBit_or, ← Nat.shiftRight_eq_div_pow, Nat.testBit_shiftRight, show (4095 : Nat) = 2 ^ 12 - 1 by decide, Nat.testBit_two_pow_sub_one]
  by_cases hi : i < 12
  · have h := hT.2 i hi
    rw [h.1, Nat.add_comm 12 i, h.2]
    have h3 := hK i
    simp [hi]
    rcases (show mmK m i = 0 ∨ mmK m i = 1 ∨ mmK m i = 2 ∨ mmK m i = 3 by omega) with e | e | e | e <;> rw [e] <;> decide
  · simp [hi]
theorem walked_m {N : Nat} {c : MC} {m : MM} {st p1 : Nat → Int32} {n1 : Nat} (hN : 20 ≤ N) (hS : mcS c ≤ 12) (hst : st 0 = nI (mcS c)) (h : MMarch m p1) (hn1 : 17 ≤ n1) (hn2 : n1 ≤ 1000) (hK : ∀ s, mmK m s ≤ 3) (hK0 : ∀ s, mcS c ≤ s → mmK m s = 0) : fX10_walked N n1 st p1 = some (nI (wlk m)) := by
  have key : ∀ (j k fu : Nat), k + j = mcS c → j < fu → fX10_walked_b4 N n1 st p1 fu (nI (wlkN (mmK m) k)) (nI k) = some (nI (wlkN (mmK m) (mcS c))) := by
    intro j
    induction j with
    | zero =>
      intro k fu h1 h2
      obtain ⟨fu, rfl⟩ : ∃ j, fu = j + 1 := ⟨fu - 1, by omega⟩
      have e : k = mcS c := by omega
      rw [fX10_walked_b4, cl0, hst, if_pos (nI_le (by omega) (by omega)), e]
    | succ j ih =>
      intro k fu h1 h2
      obtain ⟨fu, rfl⟩ : ∃ j, fu = j + 1 := ⟨fu - 1, by omega⟩
      have hk := hK k
      have e5 : (5 : Int32) + nI k = nI (5 + k) := by rw [show (5 : Int32) = nI 5 from rfl, nI_add]
      rw [fX10_walked_b4, cl0, hst, if_neg (dj (by omega) (by omega)), e5, gi_ok (by omega) (by omega), cl (by omega), h.2.2.2.2.2 k (by omega)]
      unfold fX10_walked_b30
      by_cases q : mmK m k = 0
      · rw [q, if_pos (by decide), show (0 : Int32) = nI 0 from rfl, fa_or, nI_1]
        have := ih (k + 1) fu (by omega) (by omega)
        rw [wlkN, if_pos q] at this
        exact this
      · rw [if_neg (by rw [show (0 : Int32) = nI 0 from rfl]; exact dj (by omega) (by omega)), one_shl (by omega), fa_or, nI_1]
        have := ih (k + 1) fu (by omega) (by omega)
        rw [wlkN, if_neg q] at this
        exact this
  unfold fX10_walked wlk
  rw [wlk_more hK0 12 hS]
  exact key (mcS c) 0 N (by omega) (by omega)
theorem manyOf_ok {N W : Nat} (hN : 20 ≤ N) (hW : W < 2 ^ 12) : fX10_manyOf N (nI W) = some (nI (pop W 12)) := by
  have key : ∀ (j k fu : Nat), k + j = 16 → j < fu → fX10_manyOf_b4 N (nI W) fu (nI (pop W k)) (nI k) = some (nI (pop W 16)) := by
    intro j
    induction j with
    | zero =>
      intro k fu h1 h2
      obtain ⟨fu, rfl⟩ : ∃ j, fu = j + 1 := ⟨fu - 1, by omega⟩
      have e : k = 16 := by omega
      rw [fX10_manyOf_b4, if_pos (by rw [show (16 : Int32) = nI 16 from rfl]; exact nI_le (by omega) (by omega)), e]
    | succ j ih =>
      intro k fu h1 h2
      obtain ⟨fu, rfl⟩ : ∃ j, fu = j + 1 := ⟨fu - 1, by omega⟩
      rw [fX10_manyOf_b4, if_neg (by rw [show (16 : Int32) = nI 16 from rfl]; exact dj (by omega) (by omega)), bit_nI (by omega) (by omega), nI_add, nI_1]
      exact ih (k + 1) fu (by omega) (by omega)
  unfold fX10_manyOf
  rw [show (0 : Int32) = nI 0 from rfl]
  refine (key 16 0 N (by omega) (by omega)).trans ?_
  have hp : pop W 16 = pop W 12 := by
    show (((pop W 12 + _) + _) + _) + _ = _
    rw [tb_lt hW (show 12 ≤ 12 by omega), tb_lt hW (show 12 ≤ 13 by omega), tb_lt hW (show 12 ≤ 14 by omega), tb_lt hW (show 12 ≤ 15 by omega)]
    rfl
  rw [hp]
set_option maxRecDepth 100000 in
theorem bits_all : ((List.range 4096).all fun W => fJ6_bitCount_0f7a4 0 (nI W) == some (nI (pop W 12))) = true := by decide +kernel
theorem bitCount_ok {N W : Nat} (hW : W < 2 ^ 12) : fJ6_bitCount_0f7a4 N (nI W) = some (nI (pop W 12)) := by
  have h := bits_all
  rw [List.all_eq_true] at h
  have h2 := h W (List.mem_range.mpr (by omega))
  exact eq_of_beq h2
