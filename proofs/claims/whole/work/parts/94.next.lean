/-! ROWS one behind another -/
/-- the last place whose next one isn't smaller, among the first k; as a number behind it -/
def fI (t : Nat → Nat) : Nat → Nat
  | 0 => 0
  | k + 1 => if t k ≤ t (k + 1) then k + 1 else fI t k
/-- the last place behind i whose value isn't smaller than that at i, among i + 1 .. i + 1 + k -/
def fJ (t : Nat → Nat) (i : Nat) : Nat → Nat
  | 0 => i + 1
  | k + 1 => if t i ≤ t (i + 1 + (k + 1)) then i + 1 + (k + 1) else fJ t i k
def updN (t : Nat → Nat) (i v : Nat) : Nat → Nat := fun k => if k = i then v else t k
def swN (t : Nat → Nat) (i j : Nat) : Nat → Nat := updN (updN t i (t j)) j (t i)
/-- turned about from lo on, n of them -/
def rvN (t : Nat → Nat) (lo n : Nat) : Nat → Nat := fun k => if lo ≤ k ∧ k < lo + n then t (lo + n - 1 - (k - lo)) else t k
def nxN (t : Nat → Nat) (n : Nat) : Option (Nat → Nat) :=
  match fI t (n - 1) with
  | 0 => none
  | i + 1 => some (rvN (swN t i (fJ t i (n - 1 - (i + 1)))) (i + 1) (n - (i + 1)))
theorem fI_le (t : Nat → Nat) : ∀ k, fI t k ≤ k
  | 0 => Nat.le_refl 0
  | k + 1 => by
    unfold fI
    have := fI_le t k
    split <;> omega
theorem fI_at {t : Nat → Nat} : ∀ {k i : Nat}, fI t k = i + 1 → t i ≤ t (i + 1)
  | 0, i, h => by simp [fI] at h
  | k + 1, i, h => by
    unfold fI at h
    split at h
    · rename_i h2
      have : k = i := by omega
      subst this
      exact h2
    · exact fI_at h
theorem fJ_in (t : Nat → Nat) (i : Nat) : ∀ k, i + 1 ≤ fJ t i k ∧ fJ t i k ≤ i + 1 + k
  | 0 => ⟨Nat.le_refl _, Nat.le_refl _⟩
  | k + 1 => by
    unfold fJ
    have := fJ_in t i k
    split <;> omega
/-- an array of ints that holds t in its first n places -/
def holds (n : Nat) (t : Nat → Nat) (a : Nat → Int32) : Prop := ∀ k, k < n → a k = nI (t k)
def em (k : Nat) : Int32 := match k with
  | 0 => (-1 : Int32)
  | k + 1 => nI k
theorem em_m1 (k : Nat) : nI k + (-1 : Int32) = em k := by
  cases k with
  | zero => rfl
  | succ k => exact pk_m1 k
theorem holds_swap {n : Nat} {t : Nat → Nat} {a : Nat → Int32} (h : holds n t a) {i j : Nat} (hi : i < n) (hj : j < n) : holds n (swN t i j) (upd (upd a i (a j)) j (a i)) := by
  intro k hk
  unfold swN updN
  by_cases e : k = j
  · subst e
    rw [pk_us, if_pos rfl, h i hi]
  · rw [pk_un e, if_neg e]
    by_cases e2 : k = i
    · subst e2
      rw [pk_us, if_pos rfl, h j hj]
    · rw [pk_un e2, if_neg e2, h k hk]
theorem sw_ne {t : Nat → Nat} {i j k : Nat} (hi : k ≠ i) (hj : k ≠ j) : swN t i j k = t k := by
  unfold swN updN
  rw [if_neg hj, if_neg hi]
/-- one pair changes places, the rest is turned about: all is turned about -/
theorem rv_step (t : Nat → Nat) (lo n : Nat) : rvN (swN t lo (lo + (n + 1))) (lo + 1) n = rvN t lo (n + 2) := by
  funext k
  unfold rvN
  by_cases h1 : k = lo
  · subst h1
    rw [if_neg (by omega), if_pos (by omega)]
    unfold swN updN
    rw [if_neg (by omega), if_pos rfl]
    exact congrArg t (by omega)
  · by_cases h2 : k = lo + (n + 1)
    · subst h2
      rw [if_neg (by omega), if_pos (by omega)]
      unfold swN updN
      rw [if_pos rfl]
      exact congrArg t (by omega)
    · by_cases h3 : lo ≤ k ∧ k < lo + (n + 2)
      · rw [if_pos (by omega), if_pos h3, sw_ne (by omega) (by omega)]
        exact congrArg t (by omega)
      · rw [if_neg (by omega), if_neg h3, sw_ne h1 h2]
theorem rv_01 (t : Nat → Nat) (lo : Nat) : rvN t lo 0 = t ∧ rvN t lo 1 = t := by
  constructor
  · funext k
    unfold rvN
    rw [if_neg (by omega)]
  · funext k
    unfold rvN
    split
    · exact congrArg t (by omega)
    · rfl
theorem swap_ok {N : Nat} {n : Nat} {t : Nat → Nat} {a : Nat → Int32} (h : holds n t a) (hn : n ≤ 6) {i j : Nat} (hi : i < n) (hj : j < n) : ∃ b, fX6_swap N a (nI i) (nI j) = some b ∧ holds n (swN t i j) b := by
  refine ⟨_, ?_, holds_swap h hi hj⟩
  unfold fX6_swap
  rw [gi_ok (by omega) (by omega), gi_ok (by omega) (by omega), gi_ok (by omega) (by omega), gi_ok (by omega) (by omega), cl (by omega), cl (by omega)]
/-- the class turns about what lies behind: from lo on, k of them, the last at n - 1 -/
theorem turn_c {N n : Nat} {sz : Int32} (hn : n ≤ 6) : ∀ (k lo fu : Nat) (t : Nat → Nat) (a : Nat → Int32), lo + k = n → 1 ≤ lo → k < fu → holds n t a → ∃ b, fX6_next_b93 N sz fu a (nI lo) (nI (n - 1)) = some ((1 : Int32), b) ∧ holds n (rvN t lo k) b := by
  have gen : ∀ (k lo hi fu : Nat) (t : Nat → Nat) (a : Nat → Int32), lo + k = hi + 1 → hi + 1 ≤ n → 1 ≤ lo → k < fu → holds n t a → ∃ b, fX6_next_b93 N sz fu a (nI lo) (nI hi) = some ((1 : Int32), b) ∧ holds n (rvN t lo k) b := by
    intro k
    induction k using Nat.strongRecOn with
    | _ k ih =>
      intro lo hi fu t a h1 h2 h3 h4 h5
      obtain ⟨fu, rfl⟩ : ∃ j, fu = j + 1 := ⟨fu - 1, by omega⟩
      rw [fX6_next_b93]
      by_cases q : k ≤ 1
      · rw [if_pos (nI_le (by omega) (by omega))]
        refine ⟨a, rfl, ?_⟩
        rcases (show k = 0 ∨ k = 1 by omega) with rfl | rfl
        · rw [(rv_01 t lo).1]; exact h5
        · rw [(rv_01 t lo).2]; exact h5
      · obtain ⟨k, rfl⟩ : ∃ j, k = j + 2 := ⟨k - 2, by omega⟩
        obtain ⟨b, hb1, hb2⟩ := swap_ok (N := N) h5 hn (i := lo) (j := hi) (by omega) (by omega)
        rw [if_neg (dj (by omega) (by omega)), hb1, Option.bind_some, nI_1]
        obtain ⟨hi, rfl⟩ : ∃ j, hi = j + 1 := ⟨hi - 1, by omega⟩
        rw [pk_m1]
        obtain ⟨b2, g1, g2⟩ := ih k (by omega) (lo + 1) hi fu _ b (by omega) (by omega) (by omega) (by omega) hb2
        refine ⟨b2, g1, ?_⟩
        rw [← rv_step t lo k]
        rw [show lo + (k + 1) = hi + 1 by omega]
        exact g2
  intro k lo fu t a h1 h2 h3 h4
  by_cases q : k = 0
  · subst q
    obtain ⟨fu, rfl⟩ : ∃ j, fu = j + 1 := ⟨fu - 1, by omega⟩
    rw [fX6_next_b93, if_pos (nI_le (by omega) (by omega)), (rv_01 t lo).1]
    exact ⟨a, rfl, h4⟩
  · exact gen k lo (n - 1) fu t a (by omega) (by omega) h2 h3 h4
theorem next_c {N n : Nat} {t : Nat → Nat} {a : Nat → Int32} (hN : 20 ≤ N) (hn : n ≤ 6) (hv : ∀ k, t k < 2 ^ 31) (h : holds n t a) :
    ∃ r b, fX6_next N (nI n) a = some (r, b) ∧ ((nxN t n = none ∧ r = 0 ∧ b = a) ∨ ∃ t', nxN t n = some t' ∧ r = 1 ∧ holds n t' b) := by
  -- the exchange, and the turn
  have h75 : ∀ i j, i < j → j < n → ∃ b, fX6_next_b75 N (nI n) a (nI i) (nI j) = some ((1 : Int32), b) ∧ holds n (rvN (swN t i j) (i + 1) (n - (i + 1))) b := by
    intro i j hij hj
    obtain ⟨b, hb1, hb2⟩ := swap_ok (N := N) h hn (i := i) (j := j) (by omega) hj
    unfold fX6_next_b75
    rw [hb1, Option.bind_some, nI_1, show (1 : Int32) = nI 1 from rfl, pk_sub (by omega)]
    exact turn_c hn (n - (i + 1)) (i + 1) N _ b (by omega) (by omega) (by omega) hb2
  have h47 : ∀ (k i fu : Nat), i + 1 + k < n → k < fu → ∃ b, fX6_next_b47 N (nI n) fu a (nI i) (nI (i + 1 + k)) = some ((1 : Int32), b) ∧ holds n (rvN (swN t i (if t i ≤ t (i + 1) then fJ t i k else fJ t i k)) (i + 1) (n - (i + 1))) b := by
    intro k
    induction k with
    | zero =>
      intro i fu h1 h2
      obtain ⟨fu, rfl⟩ : ∃ j, fu = j + 1 := ⟨fu - 1, by omega⟩
      rw [fX6_next_b47, nI_1, if_pos (nI_le (by omega) (by omega))]
      obtain ⟨b, g1, g2⟩ := h75 i (i + 1) (by omega) (by omega)
      refine ⟨b, g1, ?_⟩
      rw [ite_self]
      exact g2
    | succ k ih =>
      intro i fu h1 h2
      obtain ⟨fu, rfl⟩ : ∃ j, fu = j + 1 := ⟨fu - 1, by omega⟩
      rw [fX6_next_b47, nI_1, if_neg (dj (by omega) (by omega)), gi_ok (by omega) (by omega), gi_ok (by omega) (by omega), cl (by omega), cl (by omega), h i (by omega), h _ h1]
      rw [ite_self]
      unfold fJ
      by_cases q : t i ≤ t (i + 1 + (k + 1))
      · rw [if_pos (nI_le q (hv _)), if_pos q]
        exact h75 i _ (by omega) h1
      · rw [if_neg (dj (by omega) (hv _)), if_neg q, show i + 1 + (k + 1) = (i + 1 + k) + 1 by omega, pk_m1]
        obtain ⟨b, g1, g2⟩ := ih i fu (by omega) (by omega)
        rw [ite_self] at g2
        exact ⟨b, g1, g2⟩
  have h34 : ∀ k, k ≤ n - 1 → ∃ r b, fX6_next_b34 N (nI n) a (em k) = some (r, b) ∧ ((k = 0 ∧ r = 0 ∧ b = a) ∨ ∃ i, k = i + 1 ∧ r = 1 ∧ holds n (rvN (swN t i (fJ t i (n - 1 - (i + 1)))) (i + 1) (n - (i + 1))) b) := by
    intro k hk
    unfold fX6_next_b34
    cases k with
    | zero =>
      rw [if_neg (by decide)]
      exact ⟨0, a, rfl, Or.inl ⟨rfl, rfl, rfl⟩⟩
    | succ i =>
      rw [if_pos (by show (0 : Int32) ≤ nI i; exact nI_pos' (by omega)), show (1 : Int32) = nI 1 from rfl, pk_sub (by omega)]
      obtain ⟨b, g1, g2⟩ := h47 (n - 1 - (i + 1)) i N (by omega) (by omega)
      rw [show i + 1 + (n - 1 - (i + 1)) = n - 1 by omega] at g1
      rw [ite_self] at g2
      exact ⟨1, b, g1, Or.inr ⟨i, rfl, rfl, g2⟩⟩
  have h7 : ∀ (k fu : Nat), k ≤ n - 1 → k < fu → ∃ r b, fX6_next_b7 N (nI n) fu a (em k) = some (r, b) ∧ ((fI t k = 0 ∧ r = 0 ∧ b = a) ∨ ∃ i, fI t k = i + 1 ∧ r = 1 ∧ holds n (rvN (swN t i (fJ t i (n - 1 - (i + 1)))) (i + 1) (n - (i + 1))) b) := by
    intro k
    induction k with
    | zero =>
      intro fu h1 h2
      obtain ⟨fu, rfl⟩ : ∃ j, fu = j + 1 := ⟨fu - 1, by omega⟩
      rw [fX6_next_b7, if_pos (by decide)]
      obtain ⟨r, b, g1, g2⟩ := h34 0 h1
      refine ⟨r, b, g1, ?_⟩
      rcases g2 with g2 | ⟨i, g2, -⟩
      · exact Or.inl ⟨rfl, g2.2⟩
      · omega
    | succ k ih =>
      intro fu h1 h2
      obtain ⟨fu, rfl⟩ : ∃ j, fu = j + 1 := ⟨fu - 1, by omega⟩
      rw [show em (k + 1) = nI k from rfl, fX6_next_b7, if_neg (nI_pos (by omega)), nI_1, gi_ok (by omega) (by omega), gi_ok (by omega) (by omega), cl (show k < 2 ^ 31 by omega), cl (show k + 1 < 2 ^ 31 by omega), h k (by omega), h (k + 1) (by omega)]
      unfold fI
      by_cases q : t k ≤ t (k + 1)
      · rw [if_pos (nI_le q (hv _)), if_pos q]
        obtain ⟨r, b, g1, g2⟩ := h34 (k + 1) h1
        refine ⟨r, b, g1, ?_⟩
        rcases g2 with g2 | ⟨i, e, g2⟩
        · omega
        · exact Or.inr ⟨i, e, g2⟩
      · rw [if_neg (dj (by omega) (hv _)), if_neg q]
        rw [em_m1]
        exact ih fu (by omega) (by omega)
  unfold fX6_next nxN
  rw [show (2 : Int32) = nI 2 from rfl]
  by_cases q : n = 0
  · subst q
    obtain ⟨fu, rfl⟩ : ∃ j, N = j + 1 := ⟨N - 1, by omega⟩
    rw [fX6_next_b7, if_pos (by decide)]
    unfold fX6_next_b34
    rw [if_neg (by decide)]
    exact ⟨0, a, rfl, Or.inl ⟨rfl, rfl, rfl⟩⟩
  · have e : nI n - nI 2 = em (n - 1) := by
      by_cases q1 : n = 1
      · subst q1; rfl
      · rw [pk_sub (by omega), show n - 1 = (n - 2) + 1 by omega]; rfl
    rw [e]
    obtain ⟨r, b, g1, g2⟩ := h7 (n - 1) N (Nat.le_refl _) (by omega)
    refine ⟨r, b, g1, ?_⟩
    rcases g2 with ⟨e2, g2⟩ | ⟨i, e2, g2⟩
    · exact Or.inl ⟨by rw [e2], g2⟩
    · exact Or.inr ⟨_, by rw [e2], g2⟩
