/-! THE TEXT: both read the next TOKEN alike -/
theorem nI_nk {a k : Nat} {K : Int32} (hK : K = nI k) (h : a ≠ k) (ha : a < 2 ^ 31) (hk : k < 2 ^ 31) : ¬ nI a = K := fun z => h ((nI_eq ha hk).mp (z.trans hK))
def skF (B : Nat → Nat) (K lo hi : Nat) : Nat → Nat → Nat
  | 0, a => a
  | f + 1, a => if a < K ∧ lo ≤ B a ∧ B a ≤ hi then skF B K lo hi f (a + 1) else a
/-- the place behind all bytes from lo to hi that are next -/
def skN (B : Nat → Nat) (K lo hi a : Nat) : Nat := skF B K lo hi (K - a) a
theorem sk_go {B : Nat → Nat} {K lo hi a : Nat} (h : a < K ∧ lo ≤ B a ∧ B a ≤ hi) : skN B K lo hi a = skN B K lo hi (a + 1) := by
  unfold skN
  rw [show K - a = (K - (a + 1)) + 1 by omega, skF, if_pos h]
theorem sk_stop {B : Nat → Nat} {K lo hi a : Nat} (h : ¬ (a < K ∧ lo ≤ B a ∧ B a ≤ hi)) : skN B K lo hi a = a := by
  unfold skN
  cases K - a with
  | zero => rfl
  | succ f => rw [skF, if_neg h]
theorem sk_in {B : Nat → Nat} {K lo hi : Nat} : ∀ (d a : Nat), K - a ≤ d → a ≤ K → a ≤ skN B K lo hi a ∧ skN B K lo hi a ≤ K ∧ (∀ i, a ≤ i → i < skN B K lo hi a → lo ≤ B i ∧ B i ≤ hi) ∧ ¬ (skN B K lo hi a < K ∧ lo ≤ B (skN B K lo hi a) ∧ B (skN B K lo hi a) ≤ hi)
  | 0, a, h1, h2 => by
    have h : ¬ (a < K ∧ lo ≤ B a ∧ B a ≤ hi) := fun z => by omega
    rw [sk_stop h]
    exact ⟨Nat.le_refl _, h2, fun i hi hj => by omega, h⟩
  | d + 1, a, h1, h2 => by
    by_cases h : a < K ∧ lo ≤ B a ∧ B a ≤ hi
    · rw [sk_go h]
      obtain ⟨g1, g2, g3, g4⟩ := sk_in (B := B) (lo := lo) (hi := hi) d (a + 1) (by omega) h.1
      refine ⟨by omega, g2, fun i hi hj => ?_, g4⟩
      by_cases e : i = a
      · subst e
        exact h.2
      · exact g3 i (by omega) hj
    · rw [sk_stop h]
      exact ⟨Nat.le_refl _, h2, fun i hi hj => by omega, h⟩
section TX
variable {N K : Nat} {B : Nat → Nat} {by' tx : Nat → Int32}
theorem cskip_loop {lo hi : Nat} {x3 : Int32} (hK : K ≤ 150) (hlo : lo < 256) (hhi : hi < 256) (hB : ∀ i, i < K → B i < 256) (hb : holds K B by') : ∀ (d a fu : Nat), K - a ≤ d → d < fu → a ≤ K → fX8_skip_b5 N (nI K) by' (nI lo) (nI hi) fu (nI a) x3 = fX8_skip_b55 N (nI K) by' (nI lo) (nI hi) (nI (skN B K lo hi a)) x3 := by
  intro d
  induction d with
  | zero =>
    intro a fu h1 h2 h3
    obtain ⟨fu, rfl⟩ : ∃ j, fu = j + 1 := ⟨fu - 1, by omega⟩
    rw [fX8_skip_b5, if_pos (nI_le (by omega) (by omega)), sk_stop (fun z => by omega)]
  | succ d ih =>
    intro a fu h1 h2 h3
    obtain ⟨fu, rfl⟩ : ∃ j, fu = j + 1 := ⟨fu - 1, by omega⟩
    rw [fX8_skip_b5]
    by_cases q : a < K
    · have h8 := hB a q
      rw [if_neg (dj q (by omega)), gi_ok (by omega) (by omega), cl (show a < 2 ^ 31 by omega), hb a q]
      by_cases q1 : B a < lo
      · rw [if_pos (nI_lt q1 (by omega)), sk_stop (fun z => by omega)]
      · rw [if_neg (nI_nlt (by omega) (by omega)), gi_ok (by omega) (by omega)]
        by_cases q2 : hi < B a
        · rw [if_pos (nI_lt q2 (by omega)), sk_stop (fun z => by omega)]
        · rw [if_neg (nI_nlt (by omega) (by omega)), nI_1, sk_go ⟨q, by omega, by omega⟩]
          exact ih (a + 1) fu (by omega) (by omega) (by omega)
    · rw [if_pos (nI_le (by omega) (by omega)), sk_stop (fun z => by omega)]
theorem cskip_ok {lo hi a : Nat} (hN : 1000 ≤ N) (hK : K ≤ 150) (hlo : lo < 256) (hhi : hi < 256) (hB : ∀ i, i < K → B i < 256) (hb : holds K B by') (ha : a ≤ K) : fX8_skip N (nI K) (nI a) by' (nI lo) (nI hi) = some ((if skN B K lo hi a = a then 0 else 1), nI (skN B K lo hi a)) := by
  obtain ⟨g1, g2, -, -⟩ := sk_in (B := B) (lo := lo) (hi := hi) (K - a) a (Nat.le_refl _) ha
  unfold fX8_skip
  rw [cskip_loop hK hlo hhi hB hb (K - a) a N (Nat.le_refl _) (by omega) ha]
  unfold fX8_skip_b55
  by_cases q : skN B K lo hi a = a
  · rw [if_pos q, q, if_pos (nI_le (Nat.le_refl _) (by omega))]
  · rw [if_neg q, if_neg (dj (by omega) (by omega))]
/-- the model's bytes -/
def mbytes (K : Nat) (B : Nat → Nat) (tx : Nat → Int32) : Prop := ∀ i, i < K → tx i = (nI (B i)).toInt8.toInt32
theorem byte_back : ∀ b, b < 256 → (nI b).toInt8.toInt32 &&& (255 : Int32) = nI b := by decide +kernel
theorem here_in {a : Nat} (hK : K ≤ 150) (hB : ∀ i, i < K → B i < 256) (ht : mbytes K B tx) (h : a < K) : fX10_here N (nI K) (nI a) tx = some (nI (B a)) := by
  unfold fX10_here
  rw [if_neg (dj h (by omega)), gi_ok (by omega) (by omega), cl (show a < 2 ^ 31 by omega), ht a h, byte_back _ (hB a h)]
theorem here_out {a : Nat} (hK : K ≤ 150) (h : K ≤ a) (ha : a < 2 ^ 31) : fX10_here N (nI K) (nI a) tx = some (-1 : Int32) := by
  unfold fX10_here
  rw [if_pos (nI_le h ha)]
theorem in_nI {x lo hi : Nat} (hx : x < 2 ^ 31) (hlo : lo < 2 ^ 31) (hhi : hi < 2 ^ 31) : fX10_in N (nI x) (nI lo) (nI hi) = some (if lo ≤ x ∧ x ≤ hi then 1 else 0) := by
  unfold fX10_in
  by_cases q1 : x < lo
  · rw [if_pos (nI_lt q1 hlo), if_neg (fun z => by omega)]
  · rw [if_neg (nI_nlt (by omega) hx)]
    by_cases q2 : hi < x
    · rw [if_pos (nI_lt q2 hx), if_neg (fun z => by omega)]
    · rw [if_neg (nI_nlt (by omega) hhi), if_pos ⟨by omega, by omega⟩]
theorem in_m1 {lo hi : Nat} (hlo : lo < 2 ^ 31) : fX10_in N (-1 : Int32) (nI lo) (nI hi) = some 0 := by
  unfold fX10_in
  rw [if_pos (Int32.lt_of_lt_of_le (show (-1 : Int32) < 0 by decide) (nI_pos' hlo))]
theorem blank_loop {st so va : Int32} (hK : K ≤ 150) (hB : ∀ i, i < K → B i < 256) (ht : mbytes K B tx) : ∀ (d a fu : Nat), K - a ≤ d → d < fu → a ≤ K → ∃ fu', fX10_step_b0 N (nI K) tx fu (nI a) st so va = fX10_step_b0 N (nI K) tx (fu' + 1) (nI (skN B K 32 32 a)) st so va := by
  intro d
  induction d with
  | zero =>
    intro a fu h1 h2 h3
    obtain ⟨fu, rfl⟩ : ∃ j, fu = j + 1 := ⟨fu - 1, by omega⟩
    rw [sk_stop (fun z => by omega)]
    exact ⟨fu, rfl⟩
  | succ d ih =>
    intro a fu h1 h2 h3
    obtain ⟨fu, rfl⟩ : ∃ j, fu = j + 1 := ⟨fu - 1, by omega⟩
    by_cases q : a < K ∧ 32 ≤ B a ∧ B a ≤ 32
    · rw [sk_go q]
      obtain ⟨fu', e⟩ := ih (a + 1) fu (by omega) (by omega) (by omega)
      refine ⟨fu', ?_⟩
      rw [← e, fX10_step_b0, here_in hK hB ht q.1, Option.bind_some, if_pos (show nI (B a) = (32 : Int32) from congrArg nI (show B a = 32 by omega)), nI_1]
    · rw [sk_stop q]
      exact ⟨fu, rfl⟩
theorem letter_loop {s : Nat} {so va x1 : Int32} (hK : K ≤ 150) (hB : ∀ i, i < K → B i < 256) (ht : mbytes K B tx) : ∀ (d a fu : Nat), K - a ≤ d → d < fu → a ≤ K → s ≤ a → fX10_step_b63 N (nI K) tx fu (nI a) (nI s) so va x1 = some (nI (skN B K 97 122 a), nI s, (if skN B K 97 122 a - s = 1 then x1 else (4 : Int32)), va) := by
  have fin : ∀ (a fu : Nat), a ≤ K → s ≤ a → ¬ (a < K ∧ 97 ≤ B a ∧ B a ≤ 122) → fX10_step_b63 N (nI K) tx (fu + 1) (nI a) (nI s) so va x1 = some (nI (skN B K 97 122 a), nI s, (if skN B K 97 122 a - s = 1 then x1 else (4 : Int32)), va) := by
    intro a fu h1 h2 h3
    have hr : (fX10_here N (nI K) (nI a) tx).bind (fun u10 => fX10_in N u10 (97 : Int32) (122 : Int32)) = some 0 := by
      by_cases q : a < K
      · rw [here_in hK hB ht q, Option.bind_some, show (97 : Int32) = nI 97 from rfl, show (122 : Int32) = nI 122 from rfl, in_nI (by have := hB a q; omega) (by omega) (by omega), if_neg (fun z => h3 ⟨q, z.1, z.2⟩)]
      · rw [here_out hK (by omega) (by omega), Option.bind_some, show (97 : Int32) = nI 97 from rfl, show (122 : Int32) = nI 122 from rfl, in_m1 (by omega)]
    rw [sk_stop h3, fX10_step_b63]
    unfold fX10_step_b109
    cases hh : fX10_here N (nI K) (nI a) tx with
    | none => rw [hh] at hr; cases hr
    | some u =>
      rw [hh, Option.bind_some] at hr
      rw [Option.bind_some, hr, Option.bind_some, if_pos rfl, pk_sub h2]
      by_cases q : a - s = 1
      · rw [if_pos (show nI (a - s) = (1 : Int32) from congrArg nI q), if_pos q]
      · rw [if_neg (show ¬ nI (a - s) = (1 : Int32) from nI_nk (k := 1) rfl q (by omega) (by omega)), if_neg q]
  intro d
  induction d with
  | zero =>
    intro a fu h1 h2 h3 h4
    obtain ⟨fu, rfl⟩ : ∃ j, fu = j + 1 := ⟨fu - 1, by omega⟩
    exact fin a fu h3 h4 (fun z => by omega)
  | succ d ih =>
    intro a fu h1 h2 h3 h4
    obtain ⟨fu, rfl⟩ : ∃ j, fu = j + 1 := ⟨fu - 1, by omega⟩
    by_cases q : a < K ∧ 97 ≤ B a ∧ B a ≤ 122
    · rw [sk_go q, fX10_step_b63, here_in hK hB ht q.1, Option.bind_some, show (97 : Int32) = nI 97 from rfl, show (122 : Int32) = nI 122 from rfl, in_nI (by have := hB a q.1; omega) (by omega) (by omega), if_pos q.2, Option.bind_some, if_neg (by decide), nI_1]
      exact ih (a + 1) fu (by omega) (by omega) (by omega) (by omega)
    · exact fin a fu h3 h4 q
/-- what the model holds of a NUMBER, j digits of it read -/
def dinv (b0 j V : Nat) : Prop := V ≤ 999 ∧ (j = 0 → V = 0) ∧ (j = 1 → V = b0 - 48) ∧ (2 ≤ j → b0 ≠ 48 → 10 ≤ V)
theorem digit_loop {s : Nat} (hK : K ≤ 150) (hB : ∀ i, i < K → B i < 256) (ht : mbytes K B tx) (h48 : 48 ≤ B s) (h57 : B s ≤ 57) : ∀ (d a fu V : Nat), K - a ≤ d → d < fu → a ≤ K → s ≤ a → dinv (B s) (a - s) V → ∃ V', dinv (B s) (skN B K 48 57 a - s) V' ∧ ∀ so, fX10_step_b126 N (nI K) tx fu (nI a) (nI s) so (nI V) (nI (B s)) = some (nI (skN B K 48 57 a), nI s, (if 99 < V' ∨ (B s = 48 ∧ 1 < skN B K 48 57 a - s) then (4 : Int32) else (1 : Int32)), nI V') := by
  have hs8 : B s < 256 := by omega
  have fin : ∀ (a fu V : Nat), a ≤ K → s ≤ a → dinv (B s) (a - s) V → ¬ (a < K ∧ 48 ≤ B a ∧ B a ≤ 57) → ∃ V', dinv (B s) (skN B K 48 57 a - s) V' ∧ ∀ so, fX10_step_b126 N (nI K) tx (fu + 1) (nI a) (nI s) so (nI V) (nI (B s)) = some (nI (skN B K 48 57 a), nI s, (if 99 < V' ∨ (B s = 48 ∧ 1 < skN B K 48 57 a - s) then (4 : Int32) else (1 : Int32)), nI V') := by
    intro a fu V h1 h2 hv h3
    have hr : (fX10_here N (nI K) (nI a) tx).bind (fun u10 => fX10_in N u10 (48 : Int32) (57 : Int32)) = some 0 := by
      by_cases q : a < K
      · rw [here_in hK hB ht q, Option.bind_some, show (48 : Int32) = nI 48 from rfl, show (57 : Int32) = nI 57 from rfl, in_nI (by have := hB a q; omega) (by omega) (by omega), if_neg (fun z => h3 ⟨q, z.1, z.2⟩)]
      · rw [here_out hK (by omega) (by omega), Option.bind_some, show (48 : Int32) = nI 48 from rfl, show (57 : Int32) = nI 57 from rfl, in_m1 (by omega)]
    have hV := hv.1
    rw [sk_stop h3]
    refine ⟨V, hv, fun so => ?_⟩
    rw [fX10_step_b126]
    unfold fX10_step_b217 fX10_step_b221 fX10_step_b222
    cases hh : fX10_here N (nI K) (nI a) tx with
    | none => rw [hh] at hr; cases hr
    | some u =>
      rw [hh, Option.bind_some] at hr
      rw [Option.bind_some, hr, Option.bind_some, if_pos rfl, pk_sub h2]
      by_cases q : 99 < V
      · rw [if_pos (show (99 : Int32) < nI V from nI_lt (a := 99) q (by omega)), if_pos (Or.inl q)]
      · rw [if_neg (show ¬ (99 : Int32) < nI V by rw [show (99 : Int32) = nI 99 from rfl]; exact nI_nlt (by omega) (by omega))]
        by_cases q1 : B s = 48
        · rw [if_pos (show nI (B s) = (48 : Int32) from congrArg nI q1)]
          by_cases q2 : 1 < a - s
          · rw [if_neg (show ¬ nI (a - s) ≤ (1 : Int32) from dj (a := 1) q2 (by omega)), if_pos (Or.inr ⟨q1, q2⟩)]
          · rw [if_pos (show nI (a - s) ≤ (1 : Int32) from nI_le (b := 1) (by omega) (by omega)), if_neg (fun z => by omega)]
        · rw [if_neg (show ¬ nI (B s) = (48 : Int32) from nI_nk (k := 48) rfl q1 (by omega) (by omega)), if_neg (fun z => by omega)]
  intro d
  induction d with
  | zero =>
    intro a fu V h1 h2 h3 h4 hv
    obtain ⟨fu, rfl⟩ : ∃ j, fu = j + 1 := ⟨fu - 1, by omega⟩
    exact fin a fu V h3 h4 hv (fun z => by omega)
  | succ d ih =>
    intro a fu V h1 h2 h3 h4 hv
    obtain ⟨fu, rfl⟩ : ∃ j, fu = j + 1 := ⟨fu - 1, by omega⟩
    by_cases q : a < K ∧ 48 ≤ B a ∧ B a ≤ 57
    · obtain ⟨v1, v2, v3, v4⟩ := hv
      rw [sk_go q]
      have st : ∀ (so : Int32) (W : Nat) (r : Option (Int32 × Int32 × Int32 × Int32)), (W = if V ≤ 99 then 10 * V + B a - 48 else V) → fX10_step_b126 N (nI K) tx fu (nI (a + 1)) (nI s) so (nI W) (nI (B s)) = r → fX10_step_b126 N (nI K) tx (fu + 1) (nI a) (nI s) so (nI V) (nI (B s)) = r := fun so W r hW hr => by
        rw [fX10_step_b126, here_in hK hB ht q.1, Option.bind_some, show (48 : Int32) = nI 48 from rfl, show (57 : Int32) = nI 57 from rfl, in_nI (by have := hB a q.1; omega) (by omega) (by omega), if_pos q.2, Option.bind_some, if_neg (by decide)]
        unfold fX10_step_b172
        rw [Option.bind_some, nI_1]
        by_cases q9 : V ≤ 99
        · rw [if_pos (show nI V ≤ (99 : Int32) from nI_le (b := 99) q9 (by omega)), show (10 : Int32) = nI 10 from rfl, pk_mul, nI_add, pk_sub (by omega)]
          rw [if_pos q9] at hW
          rw [← hW]
          exact hr
        · rw [if_neg (show ¬ nI V ≤ (99 : Int32) from dj (a := 99) (by omega) (by omega))]
          rw [if_neg q9] at hW
          rw [← hW]
          exact hr
      by_cases q9 : V ≤ 99
      · obtain ⟨V', k1, k2⟩ := ih (a + 1) fu (10 * V + B a - 48) (by omega) (by omega) (by omega) (by omega) ⟨by omega, fun z => by omega, fun z => by
          have e : a = s := by omega
          subst e
          have := v2 (by omega)
          omega, fun z w => by
          by_cases e : a - s = 1
          · have := v3 e
            omega
          · have := v4 (by omega) w
            omega⟩
        exact ⟨V', k1, fun so => st so _ _ (by rw [if_pos q9]) (k2 so)⟩
      · obtain ⟨V', k1, k2⟩ := ih (a + 1) fu V (by omega) (by omega) (by omega) (by omega) ⟨v1, fun z => by omega, fun z => by
          have := v2 (by omega)
          omega, fun z w => by omega⟩
        exact ⟨V', k1, fun so => st so _ _ (by rw [if_neg q9]) (k2 so)⟩
    · exact fin a fu V h3 h4 hv q
end TX
