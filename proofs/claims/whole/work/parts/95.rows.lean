/-! ROWS: the model's next one, how many there are, the first of all -/
theorem rv_perm (t : Nat → Nat) {lo k n : Nat} (h : lo + k ≤ n) : ∃ s : Nat → Nat, (∀ i, i < n → s i < n) ∧ (∀ i j, i < n → j < n → s i = s j → i = j) ∧ rvN t lo k = fun i => t (s i) := by
  refine ⟨fun i => if lo ≤ i ∧ i < lo + k then lo + k - 1 - (i - lo) else i, fun i hi => ?_, fun i j hi hj e => ?_, ?_⟩
  · dsimp only
    split <;> omega
  · dsimp only at e
    split at e <;> split at e <;> omega
  · funext i
    unfold rvN
    dsimp only
    split <;> rfl
theorem sw_perm (t : Nat → Nat) {i j n : Nat} (hi : i < n) (hj : j < n) : ∃ s : Nat → Nat, (∀ i, i < n → s i < n) ∧ (∀ i j, i < n → j < n → s i = s j → i = j) ∧ swN t i j = fun i => t (s i) := by
  refine ⟨fun x => if x = j then i else if x = i then j else x, fun x hx => ?_, fun x y hx hy e => ?_, ?_⟩
  · dsimp only
    split
    · omega
    · split <;> omega
  · dsimp only at e
    split at e
    · split at e
      · omega
      · split at e <;> omega
    · split at e
      · split at e
        · omega
        · split at e <;> omega
      · split at e
        · omega
        · split at e <;> omega
  · funext x
    unfold swN updN
    dsimp only
    split
    · rfl
    · split <;> rfl
theorem nx_perm {t t' : Nat → Nat} {n : Nat} (h : nxN t n = some t') : ∃ s : Nat → Nat, (∀ i, i < n → s i < n) ∧ (∀ i j, i < n → j < n → s i = s j → i = j) ∧ t' = fun i => t (s i) := by
  unfold nxN at h
  split at h
  · cases h
  · rename_i i hi
    have h1 := fI_le t (n - 1)
    have h2 := fJ_in t i (n - 1 - (i + 1))
    cases h
    obtain ⟨s1, a1, a2, a3⟩ := sw_perm t (i := i) (j := fJ t i (n - 1 - (i + 1))) (n := n) (by omega) (by omega)
    obtain ⟨s2, b1, b2, b3⟩ := rv_perm (swN t i (fJ t i (n - 1 - (i + 1)))) (lo := i + 1) (k := n - (i + 1)) (n := n) (by omega)
    refine ⟨fun x => s1 (s2 x), fun x hx => a1 _ (b1 x hx), fun x y hx hy e => b2 x y hx hy (a2 _ _ (b1 x hx) (b1 y hy) e), ?_⟩
    rw [b3, a3]
theorem turn_m {N n : Nat} {x2 x3 : Int32} (hn : n ≤ 6) : ∀ (k lo hi fu : Nat) (t : Nat → Nat) (a : Nat → Int32), lo + k = hi + 1 → hi + 1 ≤ n → 1 ≤ lo → k < fu → holds n t a → ∃ b, fX10_turnFrom_b6 N 6 x2 x3 fu a (nI lo) (nI hi) = some b ∧ holds n (rvN t lo k) b := by
  intro k
  induction k using Nat.strongRecOn with
  | _ k ih =>
    intro lo hi fu t a h1 h2 h3 h4 h5
    obtain ⟨fu, rfl⟩ : ∃ j, fu = j + 1 := ⟨fu - 1, by omega⟩
    rw [fX10_turnFrom_b6]
    by_cases q : k ≤ 1
    · rw [if_pos (nI_le (by omega) (by omega))]
      refine ⟨a, rfl, ?_⟩
      rcases (show k = 0 ∨ k = 1 by omega) with rfl | rfl
      · rw [(rv_01 t lo).1]; exact h5
      · rw [(rv_01 t lo).2]; exact h5
    · obtain ⟨k, rfl⟩ : ∃ j, k = j + 2 := ⟨k - 2, by omega⟩
      rw [if_neg (dj (by omega) (by omega)), gi_ok (by omega) (by omega), gi_ok (by omega) (by omega), gi_ok (by omega) (by omega), gi_ok (by omega) (by omega), cl (show lo < 2 ^ 31 by omega), cl (show hi < 2 ^ 31 by omega), nI_1]
      have hb2 := holds_swap h5 (i := lo) (j := hi) (by omega) (by omega)
      obtain ⟨hi, rfl⟩ : ∃ j, hi = j + 1 := ⟨hi - 1, by omega⟩
      rw [pk_m1]
      obtain ⟨b2, g1, g2⟩ := ih k (by omega) (lo + 1) hi fu _ _ (by omega) (by omega) (by omega) (by omega) hb2
      refine ⟨b2, g1, ?_⟩
      rw [← rv_step t lo k]
      rw [show lo + (k + 1) = hi + 1 by omega]
      exact g2
theorem turnFrom_ok {N n : Nat} (hN : 20 ≤ N) (hn : n ≤ 6) {lo : Nat} (hlo : 1 ≤ lo) (h2 : lo ≤ n) {t : Nat → Nat} {a : Nat → Int32} (h : holds n t a) : ∃ b, fX10_turnFrom N 6 a (nI lo) (nI (n - 1)) = some b ∧ holds n (rvN t lo (n - lo)) b := by
  unfold fX10_turnFrom
  exact turn_m hn (n - lo) lo (n - 1) N t a (by omega) (by omega) hlo (by omega) h
theorem next_m {N n : Nat} {t : Nat → Nat} {a : Nat → Int32} (hN : 20 ≤ N) (hn : n ≤ 6) (hv : ∀ k, t k < 2 ^ 31) (h : holds n t a) :
    ∃ r b, fX10_nextRow N (nI n) a = some (r, b) ∧ ((nxN t n = none ∧ r = 0 ∧ b = a) ∨ ∃ t', nxN t n = some t' ∧ r = 1 ∧ holds n t' b) := by
  have h47 : ∀ (k i fu : Nat), t i ≤ t (i + 1) → i + 1 + k < n → k < fu → ∃ b, fX10_nextRow_b47 N (nI n) fu a (nI i) (nI (i + 1 + k)) = some ((1 : Int32), b) ∧ holds n (rvN (swN t i (fJ t i k)) (i + 1) (n - (i + 1))) b := by
    intro k
    induction k with
    | zero =>
      intro i fu h0 h1 h2
      obtain ⟨fu, rfl⟩ : ∃ j, fu = j + 1 := ⟨fu - 1, by omega⟩
      obtain ⟨b, g1, g2⟩ := turnFrom_ok (N := N) hN hn (lo := i + 1) (by omega) (by omega) (holds_swap h (i := i) (j := i + 1) (by omega) (by omega))
      have z : ∀ (k : Option (Int32 × (Nat → Int32))), gi (nI i) 6 k = k := fun k => gi_ok (by omega) (by omega)
      have z' : ∀ (k : Option (Int32 × (Nat → Int32))), gi (nI (i + 1 + 0)) 6 k = k := fun k => gi_ok (by omega) (by omega)
      rw [fX10_nextRow_b47, z', z, cl (show i < 2 ^ 31 by omega), cl (show i + 1 + 0 < 2 ^ 31 by omega), h i (by omega), h (i + 1 + 0) (by omega), if_pos (nI_le h0 (hv _)), z, z', z, z', ← h i (by omega), ← h (i + 1 + 0) (by omega), nI_1, show (1 : Int32) = nI 1 from rfl, pk_sub (by omega)]
      refine ⟨b, ?_, g2⟩
      show (fX10_turnFrom N 6 (upd (upd a i (a (i + 1))) (i + 1) (a i)) (nI (i + 1)) (nI (n - 1))).bind _ = _
      rw [g1]
      rfl
    | succ k ih =>
      intro i fu h0 h1 h2
      obtain ⟨fu, rfl⟩ : ∃ j, fu = j + 1 := ⟨fu - 1, by omega⟩
      have z : ∀ (k : Option (Int32 × (Nat → Int32))), gi (nI i) 6 k = k := fun k => gi_ok (by omega) (by omega)
      have z' : ∀ (q : Option (Int32 × (Nat → Int32))), gi (nI (i + 1 + (k + 1))) 6 q = q := fun k => gi_ok (by omega) (by omega)
      rw [fX10_nextRow_b47, z', z, cl (show i < 2 ^ 31 by omega), cl (show i + 1 + (k + 1) < 2 ^ 31 by omega)]
      unfold fJ
      by_cases q : t i ≤ t (i + 1 + (k + 1))
      · obtain ⟨b, g1, g2⟩ := turnFrom_ok (N := N) hN hn (lo := i + 1) (by omega) (by omega) (holds_swap h (i := i) (j := i + 1 + (k + 1)) (by omega) (by omega))
        rw [if_pos (by rw [h i (by omega), h _ h1]; exact nI_le q (hv _)), if_pos q, z, z', z, z', nI_1, show (1 : Int32) = nI 1 from rfl, pk_sub (by omega), g1]
        exact ⟨b, rfl, g2⟩
      · rw [if_neg (by rw [h i (by omega), h _ h1]; exact dj (by omega) (hv _)), if_neg q, show i + 1 + (k + 1) = (i + 1 + k) + 1 by omega, pk_m1]
        exact ih i fu h0 (by omega) (by omega)
  have h34 : ∀ k, k ≤ n - 1 → (∀ i, k = i + 1 → t i ≤ t (i + 1)) → ∃ r b, fX10_nextRow_b34 N (nI n) a (em k) = some (r, b) ∧ ((k = 0 ∧ r = 0 ∧ b = a) ∨ ∃ i, k = i + 1 ∧ r = 1 ∧ holds n (rvN (swN t i (fJ t i (n - 1 - (i + 1)))) (i + 1) (n - (i + 1))) b) := by
    intro k hk hle
    unfold fX10_nextRow_b34
    cases k with
    | zero =>
      rw [if_neg (by decide)]
      exact ⟨0, a, rfl, Or.inl ⟨rfl, rfl, rfl⟩⟩
    | succ i =>
      rw [if_pos (by show (0 : Int32) ≤ nI i; exact nI_pos' (by omega)), show (1 : Int32) = nI 1 from rfl, pk_sub (by omega)]
      obtain ⟨b, g1, g2⟩ := h47 (n - 1 - (i + 1)) i N (hle i rfl) (by omega) (by omega)
      rw [show i + 1 + (n - 1 - (i + 1)) = n - 1 by omega] at g1
      exact ⟨1, b, g1, Or.inr ⟨i, rfl, rfl, g2⟩⟩
  have h7 : ∀ (k fu : Nat), k ≤ n - 1 → k < fu → ∃ r b, fX10_nextRow_b7 N (nI n) fu a (em k) = some (r, b) ∧ ((fI t k = 0 ∧ r = 0 ∧ b = a) ∨ ∃ i, fI t k = i + 1 ∧ r = 1 ∧ holds n (rvN (swN t i (fJ t i (n - 1 - (i + 1)))) (i + 1) (n - (i + 1))) b) := by
    intro k
    induction k with
    | zero =>
      intro fu h1 h2
      obtain ⟨fu, rfl⟩ : ∃ j, fu = j + 1 := ⟨fu - 1, by omega⟩
      rw [fX10_nextRow_b7, if_pos (by decide)]
      obtain ⟨r, b, g1, g2⟩ := h34 0 h1 (fun i e => absurd e (by omega))
      refine ⟨r, b, g1, ?_⟩
      rcases g2 with g2 | ⟨i, g2, -⟩
      · exact Or.inl ⟨rfl, g2.2⟩
      · omega
    | succ k ih =>
      intro fu h1 h2
      obtain ⟨fu, rfl⟩ : ∃ j, fu = j + 1 := ⟨fu - 1, by omega⟩
      rw [show em (k + 1) = nI k from rfl, fX10_nextRow_b7, if_neg (nI_pos (by omega)), nI_1, gi_ok (by omega) (by omega), gi_ok (by omega) (by omega), cl (show k < 2 ^ 31 by omega), cl (show k + 1 < 2 ^ 31 by omega), h k (by omega), h (k + 1) (by omega)]
      unfold fI
      by_cases q : t k ≤ t (k + 1)
      · rw [if_pos (nI_le q (hv _)), if_pos q]
        obtain ⟨r, b, g1, g2⟩ := h34 (k + 1) h1 (fun i e => by
          have : k = i := by omega
          subst this
          exact q)
        refine ⟨r, b, g1, ?_⟩
        rcases g2 with g2 | ⟨i, e, g2⟩
        · omega
        · exact Or.inr ⟨i, e, g2⟩
      · rw [if_neg (dj (by omega) (hv _)), if_neg q]
        rw [em_m1]
        exact ih fu (by omega) (by omega)
  unfold fX10_nextRow nxN
  rw [show (2 : Int32) = nI 2 from rfl]
  by_cases q : n = 0
  · subst q
    obtain ⟨fu, rfl⟩ : ∃ j, N = j + 1 := ⟨N - 1, by omega⟩
    rw [fX10_nextRow_b7, if_pos (by decide)]
    unfold fX10_nextRow_b34
    rw [if_neg (by decide)]
    exact ⟨0, a, rfl, Or.inl ⟨rfl, rfl, rfl⟩⟩
  · have e : nI n - nI 2 = em (n - 1) := by
      by_cases q1 : n = 1
      · subst q1; rfl
      · rw [pk_sub (by omega), show n - 1 = (n - 2) + 1 by omega]; rfl
    rw [e]
    obtain ⟨r, b, g1, g2⟩ := h7 (n - 1) N (Nat.le_refl _) (by omega)
    refine ⟨r, b, g1, ?_⟩
    rcases g2 with ⟨e2, g2⟩ | ⟨i, e2, g2⟩
    · exact Or.inl ⟨by rw [e2], g2⟩
    · exact Or.inr ⟨_, by rw [e2], g2⟩
