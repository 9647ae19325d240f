/-! odds -/
def prS (a b W : Nat) : Nat → Nat
  | 0 => 1
  | i + 1 => prS a b W i * (if W.testBit i = true then a else b)
theorem prS_le {a b W : Nat} (ha : a ≤ 10) (hb : b ≤ 10) : ∀ g, prS a b W g ≤ 10 ^ g
  | 0 => Nat.le_refl _
  | g + 1 => by
    unfold prS
    rw [Nat.pow_succ]
    refine Nat.mul_le_mul (prS_le ha hb g) ?_
    split <;> omega
theorem prS_flip {a b W V : Nat} : ∀ g, (∀ i, i < g → V.testBit i = !W.testBit i) → prS a b W g = prS b a V g
  | 0, _ => rfl
  | g + 1, h => by
    unfold prS
    rw [prS_flip g (fun i hi => h i (by omega)), h g (by omega)]
    cases W.testBit g <;> rfl
def suS (f : Nat → Nat) : Nat → Nat
  | 0 => 0
  | k + 1 => suS f k + f k
theorem suS_le {f : Nat → Nat} {B : Nat} (h : ∀ i, f i ≤ B) : ∀ k, suS f k ≤ k * B
  | 0 => Nat.zero_le _
  | k + 1 => by
    have h1 := suS_le h k
    have h2 := h k
    unfold suS
    rw [Nat.succ_mul]
    omega
theorem suS_congr {f g : Nat → Nat} : ∀ k, (∀ i, i < k → f i = g i) → suS f k = suS g k
  | 0, _ => rfl
  | k + 1, h => by
    unfold suS
    rw [suS_congr k (fun i hi => h i (by omega)), h k (by omega)]
theorem suS_cons (f : Nat → Nat) : ∀ k, suS f (k + 1) = f 0 + suS (fun i => f (i + 1)) k
  | 0 => by
    show 0 + f 0 = f 0 + 0
    omega
  | k + 1 => by
    rw [suS, suS_cons f k]
    show f 0 + suS _ k + f (k + 1) = f 0 + (suS _ k + f (k + 1))
    omega
theorem suS_rev : ∀ (k : Nat) (f : Nat → Nat), suS f k = suS (fun i => f (k - (i + 1))) k
  | 0, _ => rfl
  | k + 1, f => by
    rw [suS_cons, suS_rev k (fun i => f (i + 1))]
    show _ = suS (fun i => f (k + 1 - (i + 1))) k + f (k + 1 - (k + 1))
    rw [show k + 1 - (k + 1) = 0 by omega, Nat.add_comm]
    refine congrArg (· + f 0) (suS_congr k (fun i hi => ?_))
    show f (k - (i + 1) + 1) = f (k + 1 - (i + 1))
    exact congrArg f (by omega)
/-- the odds that just those lead whom W tells, if it ends at THE DOOR then -/
def oddC (c : MC) (m : MM) (a : Nat → Nat) (g x W : Nat) : Nat := if atDoor c (plS c a W.testBit m g) = true then prS (10 - x) x W g else 0
def oddM (c : MC) (m : MM) (a : Nat → Nat) (g x W : Nat) : Nat := if atDoor c (plS c a (fun i => !W.testBit i) m g) = true then prS x (10 - x) W g else 0
theorem odd_same {c : MC} {m : MM} {a : Nat → Nat} {g x : Nat} : suS (oddM c m a g x) (2 ^ g) = suS (oddC c m a g x) (2 ^ g) := by
  rw [suS_rev (2 ^ g) (oddC c m a g x)]
  refine suS_congr _ (fun W hW => ?_)
  have h : ∀ i, i < g → (2 ^ g - (W + 1)).testBit i = !W.testBit i := fun i hi => by
    rw [Nat.testBit_two_pow_sub_succ hW]
    simp [hi]
  unfold oddM oddC
  rw [pl_agreeb g (fun i hi => (h i hi).symm), prS_flip g h]
theorem odd_le {c : MC} {m : MM} {a : Nat → Nat} {g x : Nat} (hx : x ≤ 10) (W : Nat) : oddC c m a g x W ≤ 10 ^ g ∧ oddM c m a g x W ≤ 10 ^ g := by
  unfold oddC oddM
  refine ⟨?_, ?_⟩
  · split
    · exact prS_le (by omega) hx g
    · exact Nat.zero_le _
  · split
    · exact prS_le hx (by omega) g
    · exact Nat.zero_le _
theorem ten_le {g : Nat} (h : g ≤ 6) : 10 ^ g ≤ 1000000 := Nat.pow_le_pow_right (n := 10) (by omega) h
theorem odd_sum {c : MC} {m : MM} {a : Nat → Nat} {g x k : Nat} (hg : g ≤ 6) (hx : x ≤ 10) (hk : k ≤ 64) : suS (oddC c m a g x) k ≤ 64000000 ∧ suS (oddM c m a g x) k ≤ 64000000 := by
  have h1 := suS_le (B := 1000000) (fun i => Nat.le_trans (odd_le (c := c) (m := m) (a := a) (g := g) hx i).1 (ten_le hg)) k
  have h2 := suS_le (B := 1000000) (fun i => Nat.le_trans (odd_le (c := c) (m := m) (a := a) (g := g) hx i).2 (ten_le hg)) k
  have h3 : k * 1000000 ≤ 64 * 1000000 := Nat.mul_le_mul_right _ hk
  omega
/-! the greatest number that divides both -/
theorem gcd_step {a b : Nat} : Nat.gcd a b = Nat.gcd b (a % b) := by
  rw [Nat.gcd_comm a b, Nat.gcd_rec b a, Nat.gcd_comm]
theorem mod_half {a b : Nat} (ha : 0 < a) (hb : a < b) : b % a * 2 < b := by
  have h1 := Nat.mod_lt b ha
  have h2 := Nat.div_add_mod b a
  have h3 : 1 ≤ b / a := (Nat.le_div_iff_mul_le ha).mpr (by omega)
  have h4 : a * 1 ≤ a * (b / a) := Nat.mul_le_mul_left _ h3
  omega
theorem cdiv_loop {N : Nat} {w0 w1 : Int32} : ∀ (k a b i fu : Nat), b < 2 ^ k → a < 2 ^ 31 → b < 2 ^ 31 → i + 2 * k < 100 → 2 * k < fu → fX9_commonDivisor_b7 N w0 w1 fu (nI a) (nI b) (nI i) = some (nI (Nat.gcd a b)) := by
  intro k
  induction k with
  | zero =>
    intro a b i fu h1 h2 h3 h4 h5
    obtain ⟨fu, rfl⟩ : ∃ j, fu = j + 1 := ⟨fu - 1, by omega⟩
    have e : b = 0 := by
      have : (2 : Nat) ^ 0 = 1 := rfl
      omega
    subst e
    rw [fX9_commonDivisor_b7, if_neg (by rw [show (100 : Int32) = nI 100 from rfl]; exact dj (by omega) (by omega)), if_pos (show nI 0 = 0 from rfl), Nat.gcd_zero_right]
  | succ k ih =>
    intro a b i fu h1 h2 h3 h4 h5
    obtain ⟨fu, rfl⟩ : ∃ j, fu = j + 2 := ⟨fu - 2, by omega⟩
    rw [fX9_commonDivisor_b7, if_neg (by rw [show (100 : Int32) = nI 100 from rfl]; exact dj (by omega) (by omega))]
    by_cases q : b = 0
    · subst q
      rw [if_pos (show nI 0 = 0 from rfl), Nat.gcd_zero_right]
    · have r1 := Nat.mod_lt a (show 0 < b by omega)
      rw [if_neg (nI_ne0 (by omega) h3), gc_ok (nI_ne0 (by omega) h3), pk_rem h2 (by omega) h3, nI_1, fX9_commonDivisor_b7, if_neg (by rw [show (100 : Int32) = nI 100 from rfl]; exact dj (by omega) (by omega)), gcd_step (a := a)]
      by_cases q2 : a % b = 0
      · rw [q2, if_pos (show nI 0 = 0 from rfl), Nat.gcd_zero_right]
      · have r2 := mod_half (a := a % b) (b := b) (by omega) r1
        rw [if_neg (nI_ne0 (by omega) (by omega)), gc_ok (nI_ne0 (by omega) (by omega)), pk_rem h3 (by omega) (by omega), nI_1, gcd_step (a := b)]
        rw [Nat.pow_succ] at h1
        exact ih (a % b) (b % (a % b)) (i + 1 + 1) fu (by omega) (by omega) (by omega) (by omega) (by omega)
theorem cdiv_ok {N a b : Nat} (hN : 1000 ≤ N) (ha : a < 2 ^ 31) (hb : b ≤ 1000000) : fX9_commonDivisor N (nI a) (nI b) = some (nI (Nat.gcd a b)) :=
  cdiv_loop 20 a b 0 N (Nat.lt_of_le_of_lt hb (by decide)) ha (by omega) (by omega) (by omega)
section OD
variable {N : Nat} {co st en ti ho fe far now plan : Nat → Int32} {pm x1 x2 : Int32}
theorem mdiv_loop {A B G : Nat} (hA : A < 2 ^ 31) (hB : B < 2 ^ 31) (hG : 0 < G) : ∀ (k a b fu : Nat) (tried : Nat → Int32), b < 2 ^ k → a < 2 ^ 31 → b < 2 ^ 31 → 2 * k < fu → Nat.gcd a b = G → fX10_odds_b147 N pm co st en ti ho fe far now plan x1 x2 fu tried (nI A) (nI B) (nI a) (nI b) = some ((if x2 = 0 then nI (A / G) else nI (B / G)), tried) := by
  have fin : ∀ (a fu : Nat) (tried : Nat → Int32), a < 2 ^ 31 → a = G → fX10_odds_b147 N pm co st en ti ho fe far now plan x1 x2 (fu + 1) tried (nI A) (nI B) (nI a) (0 : Int32) = some ((if x2 = 0 then nI (A / G) else nI (B / G)), tried) := by
    intro a fu tried h1 h2
    subst h2
    rw [fX10_odds_b147, if_pos rfl, gc_ok (nI_ne0 hG h1), gc_ok (nI_ne0 hG h1), pk_div hA hG h1, pk_div hB hG h1]
    by_cases q : x2 = 0
    · rw [if_pos q, if_pos q]
    · rw [if_neg q, if_neg q]
  intro k
  induction k with
  | zero =>
    intro a b fu tried h1 h2 h3 h5 h6
    obtain ⟨fu, rfl⟩ : ∃ j, fu = j + 1 := ⟨fu - 1, by omega⟩
    have e : b = 0 := by
      have : (2 : Nat) ^ 0 = 1 := rfl
      omega
    subst e
    exact fin a fu tried h2 (by rw [Nat.gcd_zero_right] at h6; exact h6)
  | succ k ih =>
    intro a b fu tried h1 h2 h3 h5 h6
    obtain ⟨fu, rfl⟩ : ∃ j, fu = j + 2 := ⟨fu - 2, by omega⟩
    by_cases q : b = 0
    · subst q
      exact fin a (fu + 1) tried h2 (by rw [Nat.gcd_zero_right] at h6; exact h6)
    · have r1 := Nat.mod_lt a (show 0 < b by omega)
      rw [fX10_odds_b147, if_neg (nI_ne0 (by omega) h3), gc_ok (nI_ne0 (by omega) h3), pk_rem h2 (by omega) h3]
      rw [gcd_step (a := a)] at h6
      by_cases q2 : a % b = 0
      · rw [q2] at h6 ⊢
        exact fin b fu tried h3 (by rw [Nat.gcd_zero_right] at h6; exact h6)
      · have r2 := mod_half (a := a % b) (b := b) (by omega) r1
        rw [fX10_odds_b147, if_neg (nI_ne0 (by omega) (by omega)), gc_ok (nI_ne0 (by omega) (by omega)), pk_rem h3 (by omega) (by omega)]
        rw [gcd_step (a := b)] at h6
        rw [Nat.pow_succ] at h1
        exact ih (a % b) (b % (a % b)) fu tried (by omega) (by omega) (by omega) (by omega) h6
end OD
theorem whole_ok {N g : Nat} (hN : 20 ≤ N) (hg : g ≤ 6) : fX5_wholeOfOdds N (nI g) = some (nI (10 ^ g)) := by
  have h : ∀ (j k fu : Nat), k + j = g → j < fu → fX5_wholeOfOdds_b4 N (nI g) fu (nI (10 ^ k)) (nI k) = some (nI (10 ^ g)) := by
    intro j
    induction j with
    | zero =>
      intro k fu h1 h2
      obtain ⟨fu, rfl⟩ : ∃ j, fu = j + 1 := ⟨fu - 1, by omega⟩
      rw [fX5_wholeOfOdds_b4, if_pos (nI_le (by omega) (by omega)), show k = g by omega]
    | succ j ih =>
      intro k fu h1 h2
      obtain ⟨fu, rfl⟩ : ∃ j, fu = j + 1 := ⟨fu - 1, by omega⟩
      rw [fX5_wholeOfOdds_b4, if_neg (dj (by omega) (by omega)), show (10 : Int32) = nI 10 from rfl, pk_mul, ← Nat.pow_succ, nI_1]
      exact ih (k + 1) fu (by omega) (by omega)
  exact h g 0 N (by omega) (by omega)
theorem oddsOf_ok {N g W x : Nat} (hN : 20 ≤ N) (hg : g ≤ 6) (hW : W < 2 ^ 31) (hx : x ≤ 10) : fX5_oddsOf N (nI g) (nI W) (nI x) = some (nI (prS (10 - x) x W g)) := by
  have h : ∀ (j k fu : Nat), k + j = g → j < fu → fX5_oddsOf_b5 N (nI g) (nI W) (nI x) fu (nI (prS (10 - x) x W k)) (nI k) = some (nI (prS (10 - x) x W g)) := by
    intro j
    induction j with
    | zero =>
      intro k fu h1 h2
      obtain ⟨fu, rfl⟩ : ∃ j, fu = j + 1 := ⟨fu - 1, by omega⟩
      rw [fX5_oddsOf_b5, if_pos (nI_le (by omega) (by omega)), show k = g by omega]
    | succ j ih =>
      intro k fu h1 h2
      obtain ⟨fu, rfl⟩ : ∃ j, fu = j + 1 := ⟨fu - 1, by omega⟩
      have ih2 := ih (k + 1) fu (by omega) (by omega)
      rw [fX5_oddsOf_b5, if_neg (dj (by omega) (by omega))]
      unfold fX5_oddsOf_b33
      rw [show (10 : Int32) = nI 10 from rfl, pk_sub hx, pk_mul, pk_mul, nI_1]
      rw [show prS (10 - x) x W (k + 1) = prS (10 - x) x W k * (if W.testBit k = true then 10 - x else x) from rfl] at ih2
      by_cases q : W.testBit k = true
      · rw [if_pos ((bit1 hW (by omega)).mpr q)]
        rw [if_pos q] at ih2
        exact ih2
      · rw [if_neg (fun z => q ((bit1 hW (by omega)).mp z))]
        rw [if_neg q] at ih2
        exact ih2
  exact h g 0 N (by omega) (by omega)
section OC
variable {N n x : Nat} {c : MC} {m : MM} {p : Nat → Nat} {x2 : Int32}
def oS (c : MC) (m : MM) (p : Nat → Nat) (n x : Nat) : Nat := suS (oddC c m (chS p (mmL m) n).2.1 (chS p (mmL m) n).1 x) (2 ^ (chS p (mmL m) n).1)
def oT (m : MM) (p : Nat → Nat) (n : Nat) : Nat := 10 ^ (chS p (mmL m) n).1
def oR (c : MC) (m : MM) (p : Nat → Nat) (n x : Nat) (x2 : Int32) : Int32 := if x2 = 0 then nI (oS c m p n x / Nat.gcd (oS c m p n x) (oT m p n)) else nI (oT m p n / Nat.gcd (oS c m p n x) (oT m p n))
theorem codds_loop {cor str lea : Int32} {fi se ho hoM fe able told : Nat → Int32} {far : Nat → Nat → Int32} {z1 z2 z3 z4 z5 z6 sz : Int32} (hN : 1000 ≤ N) (hn : n ≤ 6) (hc : wfC c) (hcc : CCity c cor str lea fi se ho hoM fe far) (hm : wfM c m) (hmm : CMarch m z1 z2 z3 z4 z5 z6) (hp : ∀ i, i < n → p i < mcL c) (hx : x ≤ 10) (hab : holds (chS p (mmL m) n).1 (chS p (mmL m) n).2.1 able) : ∀ (j k fu : Nat) (q1 q2 q3 q4 q5 q6 : Int32), k + j = 2 ^ (chS p (mmL m) n).1 → j < fu →
    ∃ y1 y2 y3 y4 y5 y6, fX9_odds_b46 N cor str lea fi se ho hoM fe far z1 z2 z3 z4 z5 z6 sz told (nI x) x2 fu (nI (chS p (mmL m) n).1) able q1 q2 q3 q4 q5 q6 (nI (oT m p n)) (nI (suS (oddC c m (chS p (mmL m) n).2.1 (chS p (mmL m) n).1 x) k)) (nI k) = some (oR c m p n x x2, nI (chS p (mmL m) n).1, able, y1, y2, y3, y4, y5, y6) := by
  have hg := ch_le p (mmL m) n
  have hw2 := pw_lt (show (chS p (mmL m) n).1 ≤ 6 by omega)
  have hw1 : 1 ≤ 2 ^ (chS p (mmL m) n).1 := Nat.one_le_two_pow
  have hT : oT m p n ≤ 1000000 := ten_le (show (chS p (mmL m) n).1 ≤ 6 by omega)
  have hT0 : 0 < oT m p n := Nat.pow_pos (by omega)
  intro j
  induction j with
  | zero =>
    intro k fu q1 q2 q3 q4 q5 q6 h1 h2
    obtain ⟨fu, rfl⟩ : ∃ j, fu = j + 1 := ⟨fu - 1, by omega⟩
    have e : k = 2 ^ (chS p (mmL m) n).1 := by omega
    subst e
    have hs := (odd_sum (c := c) (m := m) (a := (chS p (mmL m) n).2.1) (g := (chS p (mmL m) n).1) (x := x) (by omega) hx hw2).1
    have hG : 0 < Nat.gcd (oS c m p n x) (oT m p n) := Nat.gcd_pos_of_pos_right _ hT0
    have hG2 : Nat.gcd (oS c m p n x) (oT m p n) ≤ oT m p n := Nat.gcd_le_right _ hT0
    have hs : oS c m p n x ≤ 64000000 := hs
    rw [fX9_odds_b46, every_ok (by omega), Option.bind_some, if_pos (nI_lt (by omega) (by omega))]
    rw [show suS (oddC c m (chS p (mmL m) n).2.1 (chS p (mmL m) n).1 x) (2 ^ (chS p (mmL m) n).1) = oS c m p n x from rfl, cdiv_ok hN (by omega) hT, Option.bind_some, if_neg (nI_ne0 hG (by omega)), gc_ok (nI_ne0 hG (by omega)), gc_ok (nI_ne0 hG (by omega)), pk_div (by omega) hG (by omega), pk_div (by omega) hG (by omega)]
    refine ⟨q1, q2, q3, q4, q5, q6, ?_⟩
    unfold oR
    by_cases q : x2 = 0
    · rw [if_pos q, if_pos q]
    · rw [if_neg q, if_neg q]
  | succ j ih =>
    intro k fu q1 q2 q3 q4 q5 q6 h1 h2
    obtain ⟨fu, rfl⟩ : ∃ j, fu = j + 1 := ⟨fu - 1, by omega⟩
    have hs := (odd_sum (c := c) (m := m) (a := (chS p (mmL m) n).2.1) (g := (chS p (mmL m) n).1) (x := x) (k := k) (by omega) hx (by omega)).1
    obtain ⟨y1, y2, y3, y4, y5, y6, w1, w2⟩ := pwalk_ok (N := N) (q1 := q1) (q2 := q2) (q3 := q3) (q4 := q4) (q5 := q5) (q6 := q6) (W := k) (by omega) hn hc hcc hm hmm hp (by omega) hab
    obtain ⟨v1, -⟩ := w2
    have hwf := (pl_ok (b := Nat.testBit k) hc hm hp n (Nat.le_refl _)).1
    have ha8 : mmA (plS c (chS p (mmL m) n).2.1 (Nat.testBit k) m (chS p (mmL m) n).1) < 8 := by
      have := hwf.1
      have := hc.1
      omega
    rw [fX9_odds_b46, every_ok (by omega), Option.bind_some, if_neg (nI_nlt (by omega) (by omega)), w1, Option.bind_some]
    dsimp only
    rw [v1, hcc.1, isHome_ok hc ha8, Option.bind_some]
    unfold fX9_odds_b104
    have ih2 := fun q1 q2 q3 q4 q5 q6 => ih (k + 1) fu q1 q2 q3 q4 q5 q6 (by omega) (by omega)
    unfold suS at ih2
    unfold oddC at ih2
    cases e : atDoor c (plS c (chS p (mmL m) n).2.1 (Nat.testBit k) m (chS p (mmL m) n).1) with
    | false =>
      rw [if_pos (show bI false = 0 from rfl), nI_1]
      simp only [e] at ih2
      have ih3 := ih2 (nI (mmA (plS c (chS p (mmL m) n).2.1 (Nat.testBit k) m (chS p (mmL m) n).1))) y2 y3 y4 y5 y6
      rw [← hcc.1]
      exact ih3
    | true =>
      rw [if_neg (show ¬ bI true = 0 by decide), oddsOf_ok (by omega) (by omega) (by omega) hx, Option.bind_some, nI_add, nI_1]
      simp only [e] at ih2
      have ih3 := ih2 (nI (mmA (plS c (chS p (mmL m) n).2.1 (Nat.testBit k) m (chS p (mmL m) n).1))) y2 y3 y4 y5 y6
      rw [← hcc.1]
      exact ih3
end OC
