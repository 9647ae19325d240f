/-! a ROW as told, and as they lead -/
theorem begin_loop {N L u : Nat} (hL : L ≤ 6) (hu : u < 2 ^ 31) : ∀ (j k fu : Nat) (a : Nat → Int32), k + j = L → j < fu → holds (frN u k).1 (frN u k).2 a → ∃ b, fX6_begin_b7 N (nI L) (nI u) fu (nI (frN u k).1) a (nI k) = some (nI (frN u L).1, b) ∧ holds (frN u L).1 (frN u L).2 b := by
  intro j
  induction j with
  | zero =>
    intro k fu a h1 h2 h3
    obtain ⟨fu, rfl⟩ : ∃ j, fu = j + 1 := ⟨fu - 1, by omega⟩
    have e : k = L := by omega
    subst e
    rw [fX6_begin_b7, if_pos (nI_le (Nat.le_refl _) (by omega))]
    exact ⟨a, rfl, h3⟩
  | succ j ih =>
    intro k fu a h1 h2 h3
    obtain ⟨fu, rfl⟩ : ∃ j, fu = j + 1 := ⟨fu - 1, by omega⟩
    have hk := (fr_in u k).1
    rw [fX6_begin_b7, if_neg (dj (by omega) (by omega))]
    unfold fX3_hasLed fX6_begin_b43
    by_cases q : u.testBit k = true
    · rw [if_pos ((bit1 hu (by omega)).mpr q), Option.bind_some, if_neg (by decide), nI_1]
      have e : frN u (k + 1) = frN u k := by rw [frN, if_pos q]
      rw [← e] at h3 ⊢
      exact ih (k + 1) fu a (by omega) (by omega) h3
    · rw [if_neg (fun z => q ((bit1 hu (by omega)).mp z)), Option.bind_some, if_pos rfl, gi_ok (by omega) (by omega), cl (by omega), nI_1, nI_1]
      have e : frN u (k + 1) = ((frN u k).1 + 1, updN (frN u k).2 (frN u k).1 k) := by rw [frN, if_neg q]
      have h4 : holds (frN u (k + 1)).1 (frN u (k + 1)).2 (upd a (frN u k).1 (nI k)) := by
        rw [e]
        intro x hx
        have hx : x < (frN u k).1 + 1 := hx
        show upd a _ _ x = nI (updN _ _ _ x)
        unfold updN
        by_cases e2 : x = (frN u k).1
        · subst e2
          rw [pk_us, if_pos rfl]
        · rw [pk_un e2, if_neg e2]
          exact h3 x (by omega)
      obtain ⟨b, g1, g2⟩ := ih (k + 1) fu _ (by omega) (by omega) h4
      rw [e] at g1
      exact ⟨b, g1, g2⟩
theorem begin_ok {N L u : Nat} {sz : Int32} {a : Nat → Int32} (hN : 20 ≤ N) (hL : L ≤ 6) (hu : u < 2 ^ 31) : ∃ b, fX6_begin N sz a (nI L) (nI u) = some (nI (frN u L).1, b) ∧ holds (frN u L).1 (frN u L).2 b :=
  begin_loop hL hu L 0 N a (by omega) (by omega) (fun x hx => absurd hx (by show ¬ x < 0; omega))
theorem first_loop {N L u : Nat} {le now : Nat → Int32} (hL : L ≤ 6) (hu : u < 2 ^ 31) (hle : le 0 = nI L) (hnow : now 3 = nI u) : ∀ (j k fu : Nat) (a : Nat → Int32), k + j = L → j < fu → holds (frN u k).1 (frN u k).2 a → ∃ b, fX10_firstRow_b7 N le now fu (nI (frN u k).1) a (nI k) = some (nI (frN u L).1, b) ∧ holds (frN u L).1 (frN u L).2 b := by
  intro j
  induction j with
  | zero =>
    intro k fu a h1 h2 h3
    obtain ⟨fu, rfl⟩ : ∃ j, fu = j + 1 := ⟨fu - 1, by omega⟩
    have e : k = L := by omega
    subst e
    rw [fX10_firstRow_b7, cl0, hle, if_pos (nI_le (Nat.le_refl _) (by omega))]
    exact ⟨a, rfl, h3⟩
  | succ j ih =>
    intro k fu a h1 h2 h3
    obtain ⟨fu, rfl⟩ : ∃ j, fu = j + 1 := ⟨fu - 1, by omega⟩
    have hk := (fr_in u k).1
    rw [fX10_firstRow_b7, cl0, hle, if_neg (dj (by omega) (by omega)), cl3, hnow]
    unfold fX10_firstRow_b50
    by_cases q : u.testBit k = true
    · rw [if_neg (fun z => by rw [(bit0 hu (by omega)).mp z] at q; cases q), nI_1]
      have e : frN u (k + 1) = frN u k := by rw [frN, if_pos q]
      rw [← e] at h3 ⊢
      exact ih (k + 1) fu a (by omega) (by omega) h3
    · rw [if_pos ((bit0 hu (by omega)).mpr (by simpa using q)), gi_ok (by omega) (by omega), cl (by omega), nI_1, nI_1]
      have e : frN u (k + 1) = ((frN u k).1 + 1, updN (frN u k).2 (frN u k).1 k) := by rw [frN, if_neg q]
      have h4 : holds (frN u (k + 1)).1 (frN u (k + 1)).2 (upd a (frN u k).1 (nI k)) := by
        rw [e]
        intro x hx
        have hx : x < (frN u k).1 + 1 := hx
        show upd a _ _ x = nI (updN _ _ _ x)
        unfold updN
        by_cases e2 : x = (frN u k).1
        · subst e2
          rw [pk_us, if_pos rfl]
        · rw [pk_un e2, if_neg e2]
          exact h3 x (by omega)
      obtain ⟨b, g1, g2⟩ := ih (k + 1) fu _ (by omega) (by omega) h4
      rw [e] at g1
      exact ⟨b, g1, g2⟩
theorem first_ok {N L u : Nat} {sz : Int32} {le now a : Nat → Int32} (hN : 20 ≤ N) (hL : L ≤ 6) (hu : u < 2 ^ 31) (hle : le 0 = nI L) (hnow : now 3 = nI u) : ∃ b, fX10_firstRow N sz le now a = some (nI (frN u L).1, b) ∧ holds (frN u L).1 (frN u L).2 b :=
  first_loop hL hu hle hnow L 0 N a (by omega) (by omega) (fun x hx => absurd hx (by show ¬ x < 0; omega))
/-- who leads behind the k-th -/
def wn (c : MC) (n k : Nat) (w : Nat → Nat) (m : MM) : Nat → Nat := if (leadS c m (w k)).1 = true then rvN w (k + 1) (n - (k + 1)) else w
def runS (c : MC) (n : Nat) : Nat → Nat → (Nat → Nat) → MM → (Nat → Nat) → Nat → (Nat → Nat) × MM × (Nat → Nat) × Nat
  | 0, _, w, m, th, ho => (w, m, th, ho)
  | j + 1, k, w, m, th, ho => runS c n j (k + 1) (wn c n k w m) (leadS c m (w k)).2 (updN th k (mmA (leadS c m (w k)).2)) (ho + (if mmA (leadS c m (w k)).2 = mcH c (w k) then 1 else 0))
/-- who is told from the k-th on: leaders, who did not lead, each once -/
def good (c : MC) (n k : Nat) (w : Nat → Nat) (m : MM) : Prop := (∀ i, k ≤ i → i < n → w i < mcL c ∧ (mmL m).testBit (w i) = false) ∧ ∀ i j, k ≤ i → k ≤ j → i < n → j < n → w i = w j → i = j
theorem wn_le {c : MC} {n k : Nat} {w : Nat → Nat} {m : MM} {i : Nat} (h : i ≤ k) : wn c n k w m i = w i := by
  unfold wn
  split
  · unfold rvN
    rw [if_neg (by omega)]
  · rfl
theorem wn_good {c : MC} {n k : Nat} {w : Nat → Nat} {m : MM} (hk : k < n) (h : good c n k w m) : good c n (k + 1) (wn c n k w m) (leadS c m (w k)).2 := by
  have base : good c n (k + 1) w (leadS c m (w k)).2 := by
    refine ⟨fun i h1 h2 => ⟨(h.1 i (by omega) h2).1, ?_⟩, fun i j h1 h2 h3 h4 e => h.2 i j (by omega) (by omega) h3 h4 e⟩
    show (mmL m ||| 2 ^ (w k)).testBit (w i) = false
    rw [Nat.testBit_or, (h.1 i (by omega) h2).2, tb_pow, Bool.false_or]
    exact decide_eq_false (fun e => by have := h.2 k i (Nat.le_refl _) (by omega) hk h2 e; omega)
  unfold wn
  split
  · refine ⟨fun i h1 h2 => ?_, fun i j h1 h2 h3 h4 e => ?_⟩
    · unfold rvN
      rw [if_pos (by omega)]
      exact base.1 _ (by omega) (by omega)
    · unfold rvN at e
      rw [if_pos (by omega), if_pos (by omega)] at e
      have := base.2 _ _ (by omega) (by omega) (by omega) (by omega) e
      omega
  · exact base
theorem goS_hour (c : MC) (home : Nat) : ∀ (n : Nat) (m : MM), mmH m ≤ mmH (goS c home n m).2
  | 0, m => Nat.le_refl _
  | n + 1, m => by
    unfold goS
    cases wayS c m home (mcS c) with
    | none => exact Nat.le_refl _
    | some w =>
      simp only
      split
      · exact Nat.le_add_right _ _
      · exact Nat.le_trans (Nat.le_add_right _ _) (goS_hour c home n (stepS c m w))
theorem runS_wf {c : MC} {n : Nat} (hc : wfC c) : ∀ (j k : Nat) (w : Nat → Nat) (m : MM) (th : Nat → Nat) (ho : Nat), k + j = n → wfM c m → good c n k w m → wfM c (runS c n j k w m th ho).2.1 ∧ (runS c n j k w m th ho).2.2.2 ≤ ho + j ∧ (∀ i, i < k → (runS c n j k w m th ho).1 i = w i ∧ (runS c n j k w m th ho).2.2.1 i = th i) ∧ mmS (runS c n j k w m th ho).2.1 = mmS m ∧ mmH m ≤ mmH (runS c n j k w m th ho).2.1 ∧ mmF m ≤ mmF (runS c n j k w m th ho).2.1
  | 0, k, w, m, th, ho, _, hm, _ => ⟨hm, Nat.le_refl _, fun _ _ => ⟨rfl, rfl⟩, rfl, Nat.le_refl _, Nat.le_refl _⟩
  | j + 1, k, w, m, th, ho, h1, hm, hg => by
    have hwk := hg.1 k (Nat.le_refl _) (by omega)
    have hm2 := leadS_wf hc hm hwk.1 hwk.2
    obtain ⟨r1, r2, r3, r4, r5, r6⟩ := runS_wf hc j (k + 1) (wn c n k w m) (leadS c m (w k)).2 (updN th k (mmA (leadS c m (w k)).2)) (ho + (if mmA (leadS c m (w k)).2 = mcH c (w k) then 1 else 0)) (by omega) hm2 (wn_good (by omega) hg)
    have hS : mmS m < 2 ^ 12 := Nat.lt_of_lt_of_le hm.2.2.1 (Nat.pow_le_pow_right (by omega) hc.2.1)
    have hp := hc.2.2.2.2.1 _ hwk.1
    unfold runS
    refine ⟨r1, ?_, fun i hi => ?_, r4, Nat.le_trans ?_ r5, Nat.le_trans ?_ r6⟩
    · refine Nat.le_trans r2 ?_
      split <;> omega
    · obtain ⟨a1, a2⟩ := r3 i (by omega)
      rw [a1, a2, wn_le (by omega)]
      refine ⟨rfl, ?_⟩
      unfold updN
      rw [if_neg (by omega)]
    · exact goS_hour _ _ _ _
    · show mmF m ≤ mmF m + _
      omega
