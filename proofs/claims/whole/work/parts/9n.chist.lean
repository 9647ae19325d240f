/-! what may be undone, in the class; both together -/
theorem rec6_at {a : Nat → Int32} : ∀ f, f < 6 → rec6 (a 0) (a 1) (a 2) (a 3) (a 4) (a 5) f = a f := by
  intro f hf
  rcases (show f = 0 ∨ f = 1 ∨ f = 2 ∨ f = 3 ∨ f = 4 ∨ f = 5 by omega) with rfl | rfl | rfl | rfl | rfl | rfl <;> rfl
theorem lose_loop {N : Nat} {p0 : Nat → Nat → Int32} : ∀ (j x fu : Nat) (a : Nat → Nat → Int32), x + j = 10 → 1 ≤ x → j < fu → (∀ i f, i + 1 < x → f < 6 → a i f = p0 (i + 1) f) → (∀ i f, x ≤ i → a i f = p0 i f) →
    ∃ b, fX1_loseOldest_b2 N fu (nI 10) a (nI x) = some (nI 9, b) ∧ ∀ i f, i < 9 → f < 6 → b i f = p0 (i + 1) f := by
  intro j
  induction j with
  | zero =>
    intro x fu a h1 h1' h2 h3 h4
    obtain ⟨fu, rfl⟩ : ∃ j, fu = j + 1 := ⟨fu - 1, by omega⟩
    rw [fX1_loseOldest_b2, if_pos (nI_le (by omega) (by omega))]
    exact ⟨a, rfl, fun i f hi hf => h3 i f (by omega) hf⟩
  | succ j ih =>
    intro x fu a h1 h1' h2 h3 h4
    obtain ⟨fu, rfl⟩ : ∃ j, fu = j + 1 := ⟨fu - 1, by omega⟩
    have e : nI x - (1 : Int32) = nI (x - 1) := pk_sub (a := x) (b := 1) (by omega)
    rw [fX1_loseOldest_b2, if_neg (dj (by omega) (by omega)), e, gi_ok (by omega) (by omega), gi_ok (by omega) (by omega), cl (show x < 2 ^ 31 by omega), cl (show x - 1 < 2 ^ 31 by omega), gc_ok (by omega)]
    unfold fX3_become
    rw [Option.bind_some, nI_1]
    refine ih (x + 1) fu _ (by omega) (by omega) (by omega) (fun i f hi hf => ?_) (fun i f hi => ?_)
    · show (if i = x - 1 then rec6 (a x 0) (a x 1) (a x 2) (a x 3) (a x 4) (a x 5) else a i) f = _
      by_cases q : i = x - 1
      · rw [if_pos q, rec6_at f hf, h4 x f (by omega), q, show x - 1 + 1 = x by omega]
      · rw [if_neg q]
        exact h3 i f (by omega) hf
    · show (if i = x - 1 then rec6 (a x 0) (a x 1) (a x 2) (a x 3) (a x 4) (a x 5) else a i) f = _
      rw [if_neg (by omega)]
      exact h4 i f (by omega)
theorem remember_ok {N k : Nat} {past : Nat → Nat → Int32} {z1 z2 z3 z4 z5 z6 : Int32} (hN : 1000 ≤ N) (hk : k ≤ 10) :
    ∃ b, fX1_remember N (nI k) past z1 z2 z3 z4 z5 z6 = some (nI (if k = 10 then 10 else k + 1), b) ∧ (∀ i f, i < (if k = 10 then 9 else k) → f < 6 → b i f = past (if k = 10 then i + 1 else i) f) ∧ b (if k = 10 then 9 else k) = rec6 z1 z2 z3 z4 z5 z6 := by
  have b13 : ∀ (n : Nat) (p : Nat → Nat → Int32), n ≤ 9 → fX1_remember_b13 N z1 z2 z3 z4 z5 z6 (nI n) p = some (nI (n + 1), va_up p n (rec6 z1 z2 z3 z4 z5 z6)) := by
    intro n p hn
    unfold fX1_remember_b13 fX3_become
    rw [gi_ok (by omega) (by omega), Option.bind_some, nI_1, cl (by omega)]
  have up : ∀ (n : Nat) (p : Nat → Nat → Int32) (i f : Nat), i < n → va_up p n (rec6 z1 z2 z3 z4 z5 z6) i f = p i f := by
    intro n p i f hi
    show (if i = n then rec6 z1 z2 z3 z4 z5 z6 else p i) f = p i f
    rw [if_neg (by omega)]
  have at' : ∀ (n : Nat) (p : Nat → Nat → Int32), va_up p n (rec6 z1 z2 z3 z4 z5 z6) n = rec6 z1 z2 z3 z4 z5 z6 := fun n p => if_pos rfl
  unfold fX1_remember fX1_loseOldest
  by_cases q : k = 10
  · subst q
    obtain ⟨b, c1, c2⟩ := lose_loop (N := N) (p0 := past) 9 1 N past (by omega) (by omega) (by omega) (fun i f hi => absurd hi (by omega)) (fun i f _ => rfl)
    rw [if_pos (show nI 10 = (10 : Int32) from rfl), show (1 : Int32) = nI 1 from rfl, c1, Option.bind_some]
    dsimp only
    rw [b13 9 b (by omega)]
    simp only [if_true]
    exact ⟨_, rfl, fun i f hi hf => (up 9 b i f hi).trans (c2 i f hi hf), at' 9 b⟩
  · rw [if_neg (fun z => q ((nI_eq (by omega) (by omega)).mp (z.trans (show (10 : Int32) = nI 10 from rfl)))), b13 k past (by omega)]
    simp only [if_neg q]
    exact ⟨_, rfl, fun i f hi hf => up k past i f hi, at' k past⟩
/-- both remember alike -/
theorem hist_ok {N : Nat} {c : MC} {m : MM} {size z1 z2 z3 z4 z5 z6 : Int32} {past : Nat → Nat → Int32} {g : Nat → Int32} (hN : 1000 ≤ N) (hm : wfM c m) (hmm : CMarch m z1 z2 z3 z4 z5 z6) (hg : MMarch m g) (hh : RHist c size past g) :
    ∃ s p b, fX1_remember N size past z1 z2 z3 z4 z5 z6 = some (s, p) ∧ fX10_know N g = some b ∧ (∀ y, y < 17 → b y = g y) ∧ (∀ y, 188 ≤ y → b y = g y) ∧ RHist c s p b := by
  obtain ⟨k, hk, rfl, h17, hp⟩ := hh
  obtain ⟨p, r1, r2, r3⟩ := remember_ok (N := N) (past := past) (z1 := z1) (z2 := z2) (z3 := z3) (z4 := z4) (z5 := z5) (z6 := z6) hN hk
  obtain ⟨b, c1, c2, c3, c4, c5, c6⟩ := know_ok (N := N) hN hk h17
  refine ⟨_, p, b, r1, c1, c3, c6, (if k = 10 then 10 else k + 1), by split <;> omega, rfl, c2, fun i hi => ?_⟩
  by_cases q : i = (if k = 10 then 9 else k)
  · refine ⟨m, hm, ?_, ?_⟩
    · rw [q, r3]
      exact hmm
    · subst q
      exact MMarch_eq hg (fun x hx => c5 x hx)
  · have hi2 : i < (if k = 10 then 9 else k) := by
      split at hi <;> split at q <;> rename_i z1 z2 <;> first | (rw [if_pos z1]; omega) | (rw [if_neg z1]; omega)
    obtain ⟨m', w1, w2, w3⟩ := hp (if k = 10 then i + 1 else i) (by split at hi2 <;> rename_i z <;> first | (rw [if_pos z]; omega) | (rw [if_neg z]; omega))
    refine ⟨m', w1, ?_, MMarch_eq w3 (fun x hx => c4 i x hi2 hx)⟩
    rw [r2 i 0 hi2 (by omega), r2 i 1 hi2 (by omega), r2 i 2 hi2 (by omega), r2 i 3 hi2 (by omega), r2 i 4 hi2 (by omega), r2 i 5 hi2 (by omega)]
    exact w2
