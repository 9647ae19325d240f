/-! PLAN -/
/-- of the first k of the plan p: how many would lead, who, and who led then (bits, u those before) -/
def chS (p : Nat → Nat) (u : Nat) : Nat → Nat × (Nat → Nat) × Nat
  | 0 => (0, (fun _ => 0), u)
  | k + 1 => if (chS p u k).2.2.testBit (p k) = true then chS p u k else ((chS p u k).1 + 1, updN (chS p u k).2.1 (chS p u k).1 (p k), (chS p u k).2.2 ||| 2 ^ (p k))
/-- those of them lead for whom b says so -/
def plS (c : MC) (a : Nat → Nat) (b : Nat → Bool) (m : MM) : Nat → MM
  | 0 => m
  | i + 1 => if b i = true then (leadS c (plS c a b m i) (a i)).2 else plS c a b m i
theorem ch_le (p : Nat → Nat) (u : Nat) : ∀ k, (chS p u k).1 ≤ k
  | 0 => Nat.le_refl _
  | k + 1 => by
    have := ch_le p u k
    unfold chS
    split
    · omega
    · show (chS p u k).1 + 1 ≤ _
      omega
theorem ch_mono (p : Nat → Nat) (u k : Nat) : ∀ j, (chS p u k).1 ≤ (chS p u (k + j)).1 ∧ ∀ i, i < (chS p u k).1 → (chS p u (k + j)).2.1 i = (chS p u k).2.1 i
  | 0 => ⟨Nat.le_refl _, fun _ _ => rfl⟩
  | j + 1 => by
    obtain ⟨h1, h2⟩ := ch_mono p u k j
    rw [show k + (j + 1) = (k + j) + 1 by omega, chS]
    split
    · exact ⟨h1, h2⟩
    · refine ⟨by show _ ≤ (chS p u (k + j)).1 + 1; omega, fun i hi => ?_⟩
      show updN (chS p u (k + j)).2.1 (chS p u (k + j)).1 (p (k + j)) i = _
      unfold updN
      rw [if_neg (by omega)]
      exact h2 i hi
theorem pl_agree {c : MC} {a a' : Nat → Nat} {b : Nat → Bool} {m : MM} : ∀ n, (∀ i, i < n → a i = a' i) → plS c a b m n = plS c a' b m n
  | 0, _ => rfl
  | n + 1, h => by
    unfold plS
    rw [pl_agree n (fun i hi => h i (by omega)), h n (by omega)]
/-- what holds behind the first k of the plan -/
theorem pl_ok {c : MC} {m : MM} {p : Nat → Nat} {b : Nat → Bool} {n : Nat} (hc : wfC c) (hm : wfM c m) (hp : ∀ i, i < n → p i < mcL c) : ∀ k, k ≤ n → wfM c (plS c (chS p (mmL m) k).2.1 b m (chS p (mmL m) k).1) ∧ (∀ l, (mmL (plS c (chS p (mmL m) k).2.1 b m (chS p (mmL m) k).1)).testBit l = true → (chS p (mmL m) k).2.2.testBit l = true) ∧ (chS p (mmL m) k).2.2 < 2 ^ mcL c ∧ ∀ i, i < (chS p (mmL m) k).1 → (chS p (mmL m) k).2.1 i < mcL c
  | 0, _ => ⟨hm, fun _ h => h, hm.2.1, fun i hi => absurd hi (by show ¬ i < 0; omega)⟩
  | k + 1, hk => by
    obtain ⟨h1, h2, h3, h4⟩ := pl_ok hc hm hp k (by omega)
    have hpk := hp k (by omega)
    unfold chS
    split
    · exact ⟨h1, h2, h3, h4⟩
    · rename_i q
      have e : plS c (updN (chS p (mmL m) k).2.1 (chS p (mmL m) k).1 (p k)) b m (chS p (mmL m) k).1 = plS c (chS p (mmL m) k).2.1 b m (chS p (mmL m) k).1 := pl_agree _ (fun i hi => by
        unfold updN
        rw [if_neg (by omega)])
      have ea : updN (chS p (mmL m) k).2.1 (chS p (mmL m) k).1 (p k) (chS p (mmL m) k).1 = p k := by
        unfold updN
        rw [if_pos rfl]
      have hno : (mmL (plS c (chS p (mmL m) k).2.1 b m (chS p (mmL m) k).1)).testBit (p k) = false := by
        cases z : (mmL (plS c (chS p (mmL m) k).2.1 b m (chS p (mmL m) k).1)).testBit (p k) with
        | false => rfl
        | true => exact absurd (h2 _ z) q
      refine ⟨?_, fun l hl => ?_, or_lt h3 (Nat.pow_lt_pow_right (by omega) hpk), fun i hi => ?_⟩
      · show wfM c (plS c (updN _ _ _) b m ((chS p (mmL m) k).1 + 1))
        rw [plS, e, ea]
        split
        · exact leadS_wf hc h1 hpk hno
        · exact h1
      · show ((chS p (mmL m) k).2.2 ||| 2 ^ (p k)).testBit l = true
        have hl : (mmL (plS c (updN (chS p (mmL m) k).2.1 (chS p (mmL m) k).1 (p k)) b m ((chS p (mmL m) k).1 + 1))).testBit l = true := hl
        rw [plS, e, ea] at hl
        rw [Nat.testBit_or]
        split at hl
        · have hl : (mmL (plS c (chS p (mmL m) k).2.1 b m (chS p (mmL m) k).1) ||| 2 ^ (p k)).testBit l = true := hl
          rw [Nat.testBit_or] at hl
          cases z : (mmL (plS c (chS p (mmL m) k).2.1 b m (chS p (mmL m) k).1)).testBit l with
          | true => rw [h2 l z]; rfl
          | false =>
            rw [z, Bool.false_or] at hl
            rw [hl, Bool.or_true]
        · rw [h2 l hl]
          rfl
      · have hi : i < (chS p (mmL m) k).1 + 1 := hi
        show updN _ _ _ i < _
        unfold updN
        split
        · exact hpk
        · exact h4 i (by omega)
