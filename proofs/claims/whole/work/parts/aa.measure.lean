/-! FAR, in both -/
def updM (D : Nat → Nat → Nat) (a b v : Nat) : Nat → Nat → Nat := fun x y => if x = a ∧ y = b then v else D x y
def RC (C : Nat) (D : Nat → Nat → Nat) (far : Nat → Nat → Int32) : Prop := ∀ a b, a < C → b < C → far a b = nI (D a b)
def RMx (D : Nat → Nat → Nat) (g : Nat → Int32) : Prop := ∀ a b, a < 8 → b < 8 → g (8 * a + b) = nI (D a b)
def E0 (a b : Nat) : Nat := if a = b then 0 else 99
def stS (A B T : Nat → Nat) : Nat → Nat → Nat → Nat
  | 0 => E0
  | s + 1 => updM (updM (stS A B T s) (A s) (B s) (min (T s) (stS A B T s (A s) (B s)))) (B s) (A s) (min (T s) (stS A B T s (A s) (B s)))
def fl (D : Nat → Nat → Nat) (m a b : Nat) : Nat → Nat → Nat := updM D a b (min (D a b) (D a m + D m b))
/-- the first k cells looked at by way of the corner m: all of them, or those of C corners -/
def flK (D : Nat → Nat → Nat) (m : Nat) : Nat → Nat → Nat → Nat
  | 0 => D
  | k + 1 => fl (flK D m k) m (k / 8) (k % 8)
def flC (C : Nat) (D : Nat → Nat → Nat) (m : Nat) : Nat → Nat → Nat → Nat
  | 0 => D
  | k + 1 => if k / 8 < C ∧ k % 8 < C then fl (flC C D m k) m (k / 8) (k % 8) else flC C D m k
def FK (D : Nat → Nat → Nat) : Nat → Nat → Nat → Nat
  | 0 => D
  | n + 1 => flK (FK D n) n 64
def FC (C : Nat) (D : Nat → Nat → Nat) : Nat → Nat → Nat → Nat
  | 0 => D
  | n + 1 => flC C (FC C D n) n (8 * C)
def le99 (D : Nat → Nat → Nat) : Prop := ∀ a b, D a b ≤ 99
theorem up_le {D : Nat → Nat → Nat} {a b v : Nat} (h : le99 D) (hv : v ≤ 99) : le99 (updM D a b v) := fun x y => by
  unfold updM
  split
  · exact hv
  · exact h x y
theorem fl_le {D : Nat → Nat → Nat} {m a b : Nat} (h : le99 D) : le99 (fl D m a b) := up_le h (by have := h a b; omega)
theorem flK_le {D : Nat → Nat → Nat} {m : Nat} (h : le99 D) : ∀ k, le99 (flK D m k)
  | 0 => h
  | k + 1 => fl_le (flK_le h k)
theorem flC_le {C : Nat} {D : Nat → Nat → Nat} {m : Nat} (h : le99 D) : ∀ k, le99 (flC C D m k)
  | 0 => h
  | k + 1 => by
    unfold flC
    split
    · exact fl_le (flC_le h k)
    · exact flC_le h k
theorem FK_le {D : Nat → Nat → Nat} (h : le99 D) : ∀ n, le99 (FK D n)
  | 0 => h
  | n + 1 => flK_le (FK_le h n) 64
theorem FC_le {C : Nat} {D : Nat → Nat → Nat} (h : le99 D) : ∀ n, le99 (FC C D n)
  | 0 => h
  | n + 1 => flC_le (FC_le h n) _
theorem st_le {A B T : Nat → Nat} : ∀ s, le99 (stS A B T s)
  | 0 => fun a b => by
    show E0 a b ≤ 99
    unfold E0
    split <;> omega
  | s + 1 => by
    have h := st_le (A := A) (B := B) (T := T) s
    have h2 := h (A s) (B s)
    exact up_le (up_le h (by omega)) (by omega)
/-- no way from or to a corner that is none -/
def sep (C : Nat) (D : Nat → Nat → Nat) : Prop := ∀ a b, a ≠ b → (C ≤ a ∨ C ≤ b) → D a b = 99
theorem st_sep {A B T : Nat → Nat} {C : Nat} : ∀ s, (∀ i, i < s → A i < C ∧ B i < C) → sep C (stS A B T s)
  | 0, _ => fun a b h _ => if_neg h
  | s + 1, hs => fun a b h hc => by
    obtain ⟨h1, h2⟩ := hs s (by omega)
    have ih := st_sep (A := A) (B := B) (T := T) s (fun i hi => hs i (by omega)) a b h hc
    show (if a = B s ∧ b = A s then _ else (if a = A s ∧ b = B s then _ else stS A B T s a b)) = 99
    rw [if_neg (fun z => by omega), if_neg (fun z => by omega)]
    exact ih
theorem fl_sep {C : Nat} {D : Nat → Nat → Nat} {m a b : Nat} (h : sep C D) : sep C (fl D m a b) := fun x y hn hc => by
  unfold fl updM
  have hxy := h x y hn hc
  split
  · rename_i z
    obtain ⟨rfl, rfl⟩ := z
    have h1 : 99 ≤ D x m + D m y := by
      by_cases q : C ≤ x
      · by_cases e : x = m
        · subst e
          omega
        · have := h x m e (Or.inl q)
          omega
      · have hy : C ≤ y := by omega
        by_cases e : m = y
        · subst e
          omega
        · have := h m y e (Or.inr hy)
          omega
    omega
  · exact hxy
theorem flK_sep {C : Nat} {D : Nat → Nat → Nat} {m : Nat} (h : sep C D) : ∀ k, sep C (flK D m k)
  | 0 => h
  | k + 1 => fl_sep (flK_sep h k)
theorem FK_sep {C : Nat} {D : Nat → Nat → Nat} (h : sep C D) : ∀ n, sep C (FK D n)
  | 0 => h
  | n + 1 => flK_sep (FK_sep h n) 64
def agM (C : Nat) (D E : Nat → Nat → Nat) : Prop := ∀ a b, a < C → b < C → D a b = E a b
theorem fl_ag {C : Nat} {D E : Nat → Nat → Nat} {m a b : Nat} (h : agM C D E) (hm : m < C) (ha : a < C) (hb : b < C) : agM C (fl D m a b) (fl E m a b) := fun x y hx hy => by
  unfold fl updM
  rw [h x y hx hy, h a b ha hb, h a m ha hm, h m b hm hb]
theorem up_out {C : Nat} {D : Nat → Nat → Nat} {a b v : Nat} (h : ¬ (a < C ∧ b < C)) : agM C D (updM D a b v) := fun x y hx hy => by
  unfold updM
  rw [if_neg (fun z => h (by omega))]
theorem agM_tr {C : Nat} {D E F : Nat → Nat → Nat} (h : agM C D E) (g : agM C E F) : agM C D F := fun a b ha hb => (h a b ha hb).trans (g a b ha hb)
theorem flCK {C : Nat} {D E : Nat → Nat → Nat} {m : Nat} (h : agM C D E) (hm : m < C) : ∀ k, agM C (flC C D m k) (flK E m k)
  | 0 => h
  | k + 1 => by
    have ih := flCK h hm k
    unfold flC flK
    by_cases q : k / 8 < C ∧ k % 8 < C
    · rw [if_pos q]
      exact fl_ag ih hm q.1 q.2
    · rw [if_neg q]
      exact agM_tr ih (up_out q)
theorem flC_row {C : Nat} {D : Nat → Nat → Nat} {m a : Nat} (hC : C ≤ 8) : ∀ i, C + i ≤ 8 → flC C D m (8 * a + (C + i)) = flC C D m (8 * a + C)
  | 0, _ => rfl
  | i + 1, hi => by
    rw [show 8 * a + (C + (i + 1)) = (8 * a + (C + i)) + 1 by omega, flC, if_neg (fun z => by omega)]
    exact flC_row hC i (by omega)
theorem flC_end {C : Nat} {D : Nat → Nat → Nat} {m : Nat} : ∀ i, flC C D m (8 * C + i) = flC C D m (8 * C)
  | 0 => rfl
  | i + 1 => by
    rw [← Nat.add_assoc, flC, if_neg (fun z => by omega)]
    exact flC_end i
theorem FCK {C : Nat} {D : Nat → Nat → Nat} (hC : C ≤ 8) : ∀ n, n ≤ C → agM C (FC C D n) (FK D n)
  | 0, _ => fun _ _ _ _ => rfl
  | n + 1, hn => by
    have ih := FCK (D := D) hC n (by omega)
    have h := flCK ih (show n < C by omega) 64
    unfold FC FK
    rw [show (64 : Nat) = 8 * C + (64 - 8 * C) by omega, flC_end, ← show (64 : Nat) = 8 * C + (64 - 8 * C) by omega] at h
    exact h
theorem flK_far {C : Nat} {D : Nat → Nat → Nat} {m : Nat} (h1 : le99 D) (h2 : sep C D) (hm : C ≤ m) : ∀ k, agM C D (flK D m k)
  | 0 => fun _ _ _ _ => rfl
  | k + 1 => by
    have ih := flK_far h1 h2 hm k
    refine agM_tr ih (fun x y hx hy => ?_)
    have e1 := flK_sep (m := m) h2 k x m (by omega) (Or.inr hm)
    have e2 := flK_le (m := m) h1 k x y
    show flK D m k x y = fl (flK D m k) m (k / 8) (k % 8) x y
    unfold fl updM
    split
    · rename_i z
      obtain ⟨rfl, rfl⟩ := z
      omega
    · rfl
theorem FK_far {C : Nat} {D : Nat → Nat → Nat} (h1 : le99 D) (h2 : sep C D) : ∀ i, agM C (FK D C) (FK D (C + i))
  | 0 => fun _ _ _ _ => rfl
  | i + 1 => agM_tr (FK_far h1 h2 i) (flK_far (FK_le h1 _) (FK_sep h2 _) (Nat.le_add_right C i) 64)
/-- what both come to -/
theorem FCM {C : Nat} {D : Nat → Nat → Nat} (hC : C ≤ 8) (h1 : le99 D) (h2 : sep C D) : agM C (FC C D C) (FK D 8) := by
  have h := FK_far h1 h2 (8 - C)
  rw [show C + (8 - C) = 8 by omega] at h
  exact agM_tr (FCK hC C (Nat.le_refl _)) h
theorem RC_up {C a b v : Nat} {D : Nat → Nat → Nat} {far : Nat → Nat → Int32} (h : RC C D far) : RC C (updM D a b v) (va_up far a (upd (far a) b (nI v))) := fun x y hx hy => by
  unfold updM
  by_cases e : x = a
  · subst e
    rw [va_up_self]
    by_cases e2 : y = b
    · subst e2
      rw [pk_us, if_pos ⟨rfl, rfl⟩]
    · rw [pk_un e2, if_neg (fun z => e2 z.2)]
      exact h x y hx hy
  · rw [va_up_ne _ _ e, if_neg (fun z => e z.1)]
    exact h x y hx hy
theorem RM_up {k v : Nat} {D : Nat → Nat → Nat} {g : Nat → Int32} (h : RMx D g) : RMx (updM D (k / 8) (k % 8) v) (upd g k (nI v)) := fun x y hx hy => by
  unfold updM
  by_cases e : 8 * x + y = k
  · rw [e, pk_us, if_pos ⟨by omega, by omega⟩]
  · rw [pk_un e, if_neg (fun z => e (by omega))]
    exact h x y hx hy
section MEC
variable {N C : Nat} {str : Int32} {fi se hr : Nat → Int32} {Q : Option (Nat → Nat → Int32) → Prop}
theorem cfl_b {D : Nat → Nat → Nat} {m a : Nat} {K135 : (Nat → Nat → Int32) → Int32 → Option (Nat → Nat → Int32)} {K145 : (Nat → Nat → Int32) → Int32 → Int32 → Option (Nat → Nat → Int32)} (hC : C ≤ 8) (hD : le99 D) (hm : m < C) (ha : a < C) (hK : ∀ far, RC C (flC C D m (8 * (a + 1))) far → Q (K145 far (nI m) (nI (a + 1)))) : ∀ (j b fu : Nat) (far : Nat → Nat → Int32), b + j = C → j < fu → RC C (flC C D m (8 * a + b)) far → Q (fX0_measure_b155 N (nI C) str fi se hr K135 K145 fu far (nI m) (nI a) (nI b)) := by
  intro j
  induction j with
  | zero =>
    intro b fu far h1 h2 h3
    obtain ⟨fu, rfl⟩ : ∃ j, fu = j + 1 := ⟨fu - 1, by omega⟩
    have e : b = C := by omega
    subst e
    rw [fX0_measure_b155, if_pos (nI_le (Nat.le_refl _) (by omega)), nI_1]
    have h := flC_row (D := D) (m := m) (a := a) hC (8 - b) (by omega)
    rw [show 8 * a + (b + (8 - b)) = 8 * (a + 1) by omega] at h
    rw [← h] at h3
    exact hK far h3
  | succ j ih =>
    intro b fu far h1 h2 h3
    obtain ⟨fu, rfl⟩ : ∃ j, fu = j + 1 := ⟨fu - 1, by omega⟩
    have hb : b < C := by omega
    have l1 := flC_le (C := C) (m := m) hD (8 * a + b) a b
    have l2 := flC_le (C := C) (m := m) hD (8 * a + b) a m
    have l3 := flC_le (C := C) (m := m) hD (8 * a + b) m b
    have z : ∀ {x : Nat} (q : Option (Nat → Nat → Int32)), x < C → gi (nI x) 8 q = q := fun q hx => gi_ok (by omega) (by omega)
    rw [fX0_measure_b155, if_neg (dj hb (by omega)), z _ ha, z _ ha, z _ hb, z _ ha, z _ hm, z _ hm, z _ hb, z _ hb, cl (show a < 2 ^ 31 by omega), cl (show b < 2 ^ 31 by omega), cl (show m < 2 ^ 31 by omega), h3 a b ha hb, h3 a m ha hm, h3 m b hm hb, nI_add, nI_1]
    have e : (if nI (flC C D m (8 * a + b) a m + flC C D m (8 * a + b) m b) < nI (flC C D m (8 * a + b) a b) then nI (flC C D m (8 * a + b) a m + flC C D m (8 * a + b) m b) else nI (flC C D m (8 * a + b) a b)) = nI (min (flC C D m (8 * a + b) a b) (flC C D m (8 * a + b) a m + flC C D m (8 * a + b) m b)) := by
      by_cases q : flC C D m (8 * a + b) a m + flC C D m (8 * a + b) m b < flC C D m (8 * a + b) a b
      · rw [if_pos (nI_lt q (by omega))]
        exact nI_cong (by omega)
      · rw [if_neg (nI_nlt (by omega) (by omega))]
        exact nI_cong (by omega)
    rw [e]
    refine ih (b + 1) fu _ (by omega) (by omega) ?_
    rw [show 8 * a + (b + 1) = (8 * a + b) + 1 by omega, flC, if_pos ⟨by omega, by omega⟩, show (8 * a + b) / 8 = a by omega, show (8 * a + b) % 8 = b by omega]
    exact RC_up h3
theorem cfl_a {D : Nat → Nat → Nat} {m : Nat} {K135 : (Nat → Nat → Int32) → Int32 → Option (Nat → Nat → Int32)} (hN : 20 ≤ N) (hC : C ≤ 8) (hD : le99 D) (hm : m < C) (hK : ∀ far, RC C (flC C D m (8 * C)) far → Q (K135 far (nI (m + 1)))) : ∀ (j a fu : Nat) (far : Nat → Nat → Int32), a + j = C → j < fu → RC C (flC C D m (8 * a)) far → Q (fX0_measure_b145 N (nI C) str fi se hr K135 fu far (nI m) (nI a)) := by
  intro j
  induction j with
  | zero =>
    intro a fu far h1 h2 h3
    obtain ⟨fu, rfl⟩ : ∃ j, fu = j + 1 := ⟨fu - 1, by omega⟩
    have e : a = C := by omega
    subst e
    rw [fX0_measure_b145, if_pos (nI_le (Nat.le_refl _) (by omega)), nI_1]
    exact hK far h3
  | succ j ih =>
    intro a fu far h1 h2 h3
    obtain ⟨fu, rfl⟩ : ∃ j, fu = j + 1 := ⟨fu - 1, by omega⟩
    rw [fX0_measure_b145, if_neg (dj (by omega) (by omega))]
    exact cfl_b hC hD hm (show a < C by omega) (fun far h => ih (a + 1) fu far (by omega) (by omega) h) C 0 N far (by omega) (by omega) h3
theorem cfl_m {D : Nat → Nat → Nat} (hN : 20 ≤ N) (hC : C ≤ 8) (hD : le99 D) : ∀ (j m fu : Nat) (far : Nat → Nat → Int32), m + j = C → j < fu → RC C (FC C D m) far → ∃ far', fX0_measure_b135 N (nI C) str fi se hr fu far (nI m) = some far' ∧ RC C (FC C D C) far' := by
  intro j
  induction j with
  | zero =>
    intro m fu far h1 h2 h3
    obtain ⟨fu, rfl⟩ : ∃ j, fu = j + 1 := ⟨fu - 1, by omega⟩
    have e : m = C := by omega
    subst e
    rw [fX0_measure_b135, if_pos (nI_le (Nat.le_refl _) (by omega))]
    exact ⟨far, rfl, h3⟩
  | succ j ih =>
    intro m fu far h1 h2 h3
    obtain ⟨fu, rfl⟩ : ∃ j, fu = j + 1 := ⟨fu - 1, by omega⟩
    rw [fX0_measure_b135, if_neg (dj (by omega) (by omega))]
    exact cfl_a (Q := fun o => ∃ far', o = some far' ∧ RC C (FC C D C) far') hN hC (FC_le hD m) (show m < C by omega) (fun far h => ih (m + 1) fu far (by omega) (by omega) h) C 0 N far (by omega) (by omega) h3
theorem cst_loop {S : Nat} {A B T : Nat → Nat} (hN : 20 ≤ N) (hC : C ≤ 8) (hS : S ≤ 12) (hs : ∀ i, i < S → fi i = nI (A i) ∧ se i = nI (B i) ∧ hr i = nI (T i)) (hb : ∀ i, i < S → A i < C ∧ B i < C ∧ T i ≤ 9) : ∀ (j s fu : Nat) (far : Nat → Nat → Int32), s + j = S → j < fu → RC C (stS A B T s) far → ∃ far', fX0_measure_b53 N (nI C) (nI S) fi se hr fu far (nI s) = some far' ∧ RC C (FC C (stS A B T S) C) far' := by
  intro j
  induction j with
  | zero =>
    intro s fu far h1 h2 h3
    obtain ⟨fu, rfl⟩ : ∃ j, fu = j + 1 := ⟨fu - 1, by omega⟩
    have e : s = S := by omega
    subst e
    rw [fX0_measure_b53, if_pos (nI_le (Nat.le_refl _) (by omega))]
    exact cfl_m hN hC (st_le s) C 0 N far (by omega) (by omega) h3
  | succ j ih =>
    intro s fu far h1 h2 h3
    obtain ⟨fu, rfl⟩ : ∃ j, fu = j + 1 := ⟨fu - 1, by omega⟩
    obtain ⟨g1, g2, g3⟩ := hs s (by omega)
    obtain ⟨b1, b2, b3⟩ := hb s (by omega)
    have l1 := st_le (A := A) (B := B) (T := T) s (A s) (B s)
    have z : ∀ (q : Option (Nat → Nat → Int32)), gi (nI s) 12 q = q := fun q => gi_ok (by omega) (by omega)
    have z8 : ∀ {x : Nat} (q : Option (Nat → Nat → Int32)), x < C → gi (nI x) 8 q = q := fun q hx => gi_ok (by omega) (by omega)
    rw [fX0_measure_b53, if_neg (dj (by omega) (by omega))]
    unfold fX0_measure_b89 fX0_measure_b108 fX0_measure_b127
    rw [z, z, cl (show s < 2 ^ 31 by omega), g1, g2, g3, z8 _ b1, z, z8 _ b2, z, z8 _ b1, z, z8 _ b2, z, z8 _ b2, z, z8 _ b1, cl (show A s < 2 ^ 31 by omega), cl (show B s < 2 ^ 31 by omega), h3 _ _ b1 b2, nI_1]
    have e : (if nI (stS A B T s (A s) (B s)) < nI (T s) then nI (stS A B T s (A s) (B s)) else nI (T s)) = nI (min (T s) (stS A B T s (A s) (B s))) := by
      by_cases q : stS A B T s (A s) (B s) < T s
      · rw [if_pos (nI_lt q (by omega))]
        exact nI_cong (by omega)
      · rw [if_neg (nI_nlt (by omega) (by omega))]
        exact nI_cong (by omega)
    rw [e]
    exact ih (s + 1) fu _ (by omega) (by omega) (RC_up (RC_up h3))
theorem ci_b {a : Nat} {K2 : (Nat → Nat → Int32) → Int32 → Option (Nat → Nat → Int32)} (hC : C ≤ 8) (ha : a < C) (hK : ∀ far, (∀ x y, x < a + 1 → y < C → far x y = nI (E0 x y)) → Q (K2 far (nI (a + 1)))) : ∀ (j b fu : Nat) (far : Nat → Nat → Int32), b + j = C → j < fu → (∀ x y, x < a → y < C → far x y = nI (E0 x y)) → (∀ y, y < b → far a y = nI (E0 a y)) → Q (fX0_measure_b12 N (nI C) str fi se hr K2 fu far (nI a) (nI b)) := by
  intro j
  induction j with
  | zero =>
    intro b fu far h1 h2 h3 h4
    obtain ⟨fu, rfl⟩ : ∃ j, fu = j + 1 := ⟨fu - 1, by omega⟩
    have e : b = C := by omega
    subst e
    rw [fX0_measure_b12, if_pos (nI_le (Nat.le_refl _) (by omega)), nI_1]
    refine hK far (fun x y hx hy => ?_)
    by_cases e : x = a
    · subst e
      exact h4 y hy
    · exact h3 x y (by omega) hy
  | succ j ih =>
    intro b fu far h1 h2 h3 h4
    obtain ⟨fu, rfl⟩ : ∃ j, fu = j + 1 := ⟨fu - 1, by omega⟩
    have nx : ∀ v : Int32, v = nI (E0 a b) → Q (fX0_measure_b12 N (nI C) str fi se hr K2 fu (va_up far a (upd (far a) b v)) (nI a) (nI (b + 1))) := fun v hv => by
      refine ih (b + 1) fu _ (by omega) (by omega) (fun x y hx hy => ?_) (fun y hy => ?_)
      · rw [va_up_ne _ _ (by omega)]
        exact h3 x y hx hy
      · rw [va_up_self]
        by_cases e : y = b
        · subst e
          rw [pk_us, hv]
        · rw [pk_un e]
          exact h4 y (by omega)
    have z : ∀ {x : Nat} (q : Option (Nat → Nat → Int32)), x < C → gi (nI x) 8 q = q := fun q hx => gi_ok (by omega) (by omega)
    rw [fX0_measure_b12, if_neg (dj (by omega) (by omega)), z _ ha, z _ (by omega), z _ (by omega), cl (show a < 2 ^ 31 by omega), cl (show b < 2 ^ 31 by omega), nI_1]
    by_cases q : a = b
    · rw [if_pos (congrArg nI q)]
      exact nx _ (by unfold E0; rw [if_pos q]; rfl)
    · rw [if_neg (fun z => q ((nI_eq (by omega) (by omega)).mp z))]
      exact nx _ (by unfold E0; rw [if_neg q]; rfl)
theorem measure_c {S : Nat} {A B T : Nat → Nat} (hN : 20 ≤ N) (hC : C ≤ 8) (hS : S ≤ 12) (hs : ∀ i, i < S → fi i = nI (A i) ∧ se i = nI (B i) ∧ hr i = nI (T i)) (hb : ∀ i, i < S → A i < C ∧ B i < C ∧ T i ≤ 9) (far : Nat → Nat → Int32) : ∃ far', fX0_measure N (nI C) (nI S) fi se hr far = some far' ∧ RC C (FC C (stS A B T S) C) far' := by
  have h : ∀ (j a fu : Nat) (far : Nat → Nat → Int32), a + j = C → j < fu → (∀ x y, x < a → y < C → far x y = nI (E0 x y)) → ∃ far', fX0_measure_b2 N (nI C) (nI S) fi se hr fu far (nI a) = some far' ∧ RC C (FC C (stS A B T S) C) far' := by
    intro j
    induction j with
    | zero =>
      intro a fu far h1 h2 h3
      obtain ⟨fu, rfl⟩ : ∃ j, fu = j + 1 := ⟨fu - 1, by omega⟩
      have e : a = C := by omega
      subst e
      rw [fX0_measure_b2, if_pos (nI_le (Nat.le_refl _) (by omega))]
      exact cst_loop hN hC hS hs hb S 0 N far (by omega) (by omega) (fun x y hx hy => h3 x y hx hy)
    | succ j ih =>
      intro a fu far h1 h2 h3
      obtain ⟨fu, rfl⟩ : ∃ j, fu = j + 1 := ⟨fu - 1, by omega⟩
      rw [fX0_measure_b2, if_neg (dj (by omega) (by omega))]
      exact ci_b (Q := fun o => ∃ far', o = some far' ∧ RC C (FC C (stS A B T S) C) far') hC (show a < C by omega) (fun far h => ih (a + 1) fu far (by omega) (by omega) h) C 0 N far (by omega) (by omega) h3 (fun y hy => absurd hy (by omega))
  exact h C 0 N far (by omega) (by omega) (fun x y hx _ => absurd hx (by omega))
end MEC
section MEM
variable {N : Nat} {st en ti : Nat → Int32} {Q : Option (Nat → Int32) → Prop}
theorem mfl_k {D : Nat → Nat → Nat} {m : Nat} {K151 : (Nat → Int32) → Int32 → Option (Nat → Int32)} (hD : le99 D) (hm : m < 8) (hK : ∀ g, RMx (flK D m 64) g → Q (K151 g (nI (m + 1)))) : ∀ (j k fu : Nat) (g : Nat → Int32), k + j = 64 → j < fu → RMx (flK D m k) g → Q (fX10_measure_b159 N st en ti K151 fu g (nI m) (nI k)) := by
  intro j
  induction j with
  | zero =>
    intro k fu g h1 h2 h3
    obtain ⟨fu, rfl⟩ : ∃ j, fu = j + 1 := ⟨fu - 1, by omega⟩
    have e : k = 64 := by omega
    subst e
    rw [fX10_measure_b159, if_pos (show (64 : Int32) ≤ nI 64 by decide), nI_1]
    exact hK g h3
  | succ j ih =>
    intro k fu g h1 h2 h3
    obtain ⟨fu, rfl⟩ : ∃ j, fu = j + 1 := ⟨fu - 1, by omega⟩
    have e1 : nI k / (8 : Int32) = nI (k / 8) := by rw [show (8 : Int32) = nI 8 from rfl, pk_div (by omega) (by omega) (by omega)]
    have e2 : nI k - nI (k / 8) * (8 : Int32) = nI (k % 8) := by rw [show (8 : Int32) = nI 8 from rfl, pk_mul, pk_sub (by omega)]; exact nI_cong (by omega)
    have e3 : ∀ x y, (8 : Int32) * nI x + nI y = nI (8 * x + y) := fun x y => by rw [show (8 : Int32) = nI 8 from rfl, pk_mul, nI_add]
    have l1 := flK_le (m := m) hD k (k / 8) (k % 8)
    have l2 := flK_le (m := m) hD k (k / 8) m
    have l3 := flK_le (m := m) hD k m (k % 8)
    have gk : g k = nI (flK D m k (k / 8) (k % 8)) := by
      have h := h3 (k / 8) (k % 8) (by omega) (by omega)
      rw [show 8 * (k / 8) + k % 8 = k by omega] at h
      exact h
    have z : ∀ {x : Nat} (q : Option (Nat → Int32)), x < 64 → gi (nI x) 64 q = q := fun q hx => gi_ok (by omega) (by omega)
    have nx : ∀ v : Int32, v = nI (min (flK D m k (k / 8) (k % 8)) (flK D m k (k / 8) m + flK D m k m (k % 8))) → Q (fX10_measure_b159 N st en ti K151 fu (upd g k v) (nI m) (nI (k + 1))) := fun v hv => by
      refine ih (k + 1) fu _ (by omega) (by omega) ?_
      rw [hv]
      exact RM_up h3
    rw [fX10_measure_b159, if_neg (by rw [show (64 : Int32) = nI 64 from rfl]; exact dj (by omega) (by omega))]
    unfold fX10_measure_b220
    rw [e1, e2, e3, e3, z _ (by omega), z _ (by omega), z _ (by omega), z _ (by omega), z _ (by omega), z _ (by omega), cl (show k < 2 ^ 31 by omega), cl (show 8 * (k / 8) + m < 2 ^ 31 by omega), cl (show 8 * m + k % 8 < 2 ^ 31 by omega), gk, h3 _ _ (by omega) hm, h3 _ _ hm (by omega), nI_add, nI_1]
    by_cases q : flK D m k (k / 8) (k % 8) ≤ flK D m k (k / 8) m + flK D m k m (k % 8)
    · rw [if_pos (nI_le q (by omega))]
      exact nx _ (nI_cong (by omega))
    · rw [if_neg (dj (by omega) (by omega))]
      exact nx _ (nI_cong (by omega))
theorem mfl_m {D : Nat → Nat → Nat} (hN : 100 ≤ N) (hD : le99 D) : ∀ (j m fu : Nat) (g : Nat → Int32), m + j = 8 → j < fu → RMx (FK D m) g → ∃ g', fX10_measure_b151 N st en ti fu g (nI m) = some g' ∧ RMx (FK D 8) g' := by
  intro j
  induction j with
  | zero =>
    intro m fu g h1 h2 h3
    obtain ⟨fu, rfl⟩ : ∃ j, fu = j + 1 := ⟨fu - 1, by omega⟩
    have e : m = 8 := by omega
    subst e
    rw [fX10_measure_b151, if_pos (show (8 : Int32) ≤ nI 8 by decide)]
    exact ⟨g, rfl, h3⟩
  | succ j ih =>
    intro m fu g h1 h2 h3
    obtain ⟨fu, rfl⟩ : ∃ j, fu = j + 1 := ⟨fu - 1, by omega⟩
    rw [fX10_measure_b151, if_neg (by rw [show (8 : Int32) = nI 8 from rfl]; exact dj (by omega) (by omega))]
    exact mfl_k (Q := fun o => ∃ g', o = some g' ∧ RMx (FK D 8) g') (FK_le hD m) (show m < 8 by omega) (fun g h => ih (m + 1) fu g (by omega) (by omega) h) 64 0 N g (by omega) (by omega) h3
theorem mst_loop {S : Nat} {A B T : Nat → Nat} (hN : 100 ≤ N) (hS : S ≤ 12) (h0 : st 0 = nI S) (hs : ∀ i, i < S → en (2 * i) = nI (A i) ∧ en (2 * i + 1) = nI (B i) ∧ ti i = nI (T i)) (hb : ∀ i, i < S → A i < 8 ∧ B i < 8 ∧ T i ≤ 9) : ∀ (j s fu : Nat) (g : Nat → Int32), s + j = S → j < fu → RMx (stS A B T s) g → ∃ g', fX10_measure_b39 N st en ti fu g (nI s) = some g' ∧ RMx (FK (stS A B T S) 8) g' := by
  intro j
  induction j with
  | zero =>
    intro s fu g h1 h2 h3
    obtain ⟨fu, rfl⟩ : ∃ j, fu = j + 1 := ⟨fu - 1, by omega⟩
    have e : s = S := by omega
    subst e
    rw [fX10_measure_b39, cl0, h0, if_pos (nI_le (Nat.le_refl _) (by omega))]
    exact mfl_m hN (st_le s) 8 0 N g (by omega) (by omega) h3
  | succ j ih =>
    intro s fu g h1 h2 h3
    obtain ⟨fu, rfl⟩ : ∃ j, fu = j + 1 := ⟨fu - 1, by omega⟩
    obtain ⟨g1, g2, g3⟩ := hs s (by omega)
    obtain ⟨b1, b2, b3⟩ := hb s (by omega)
    have l1 := st_le (A := A) (B := B) (T := T) s (A s) (B s)
    have e2 : (2 : Int32) * nI s = nI (2 * s) := by rw [show (2 : Int32) = nI 2 from rfl, pk_mul]
    have e3 : ∀ x y, (8 : Int32) * nI x + nI y = nI (8 * x + y) := fun x y => by rw [show (8 : Int32) = nI 8 from rfl, pk_mul, nI_add]
    have z48 : ∀ {x : Nat} (q : Option (Nat → Int32)), x < 48 → gi (nI x) 48 q = q := fun q hx => gi_ok (by omega) (by omega)
    have z24 : ∀ {x : Nat} (q : Option (Nat → Int32)), x < 24 → gi (nI x) 24 q = q := fun q hx => gi_ok (by omega) (by omega)
    have z64 : ∀ {x : Nat} (q : Option (Nat → Int32)), x < 64 → gi (nI x) 64 q = q := fun q hx => gi_ok (by omega) (by omega)
    have hAB := h3 (A s) (B s) b1 b2
    have nx : ∀ v : Int32, v = nI (min (T s) (stS A B T s (A s) (B s))) → ∃ g', fX10_measure_b39 N st en ti fu (upd (upd g (8 * A s + B s) v) (8 * B s + A s) ((upd g (8 * A s + B s) v) (8 * A s + B s))) (nI (s + 1)) = some g' ∧ RMx (FK (stS A B T S) 8) g' := fun v hv => by
      refine ih (s + 1) fu _ (by omega) (by omega) ?_
      rw [pk_us, hv]
      have u1 := RM_up (k := 8 * A s + B s) (v := min (T s) (stS A B T s (A s) (B s))) h3
      rw [show (8 * A s + B s) / 8 = A s by omega, show (8 * A s + B s) % 8 = B s by omega] at u1
      have u2 := RM_up (k := 8 * B s + A s) (v := min (T s) (stS A B T s (A s) (B s))) u1
      rw [show (8 * B s + A s) / 8 = B s by omega, show (8 * B s + A s) % 8 = A s by omega] at u2
      exact u2
    rw [fX10_measure_b39, cl0, h0, if_neg (dj (by omega) (by omega)), e2, nI_1]
    unfold fX10_measure_b130
    rw [z48 _ (by omega), z48 _ (by omega), z48 _ (by omega), z48 _ (by omega), z24 _ (by omega), cl (show 2 * s < 2 ^ 31 by omega), cl (show 2 * s + 1 < 2 ^ 31 by omega), cl (show s < 2 ^ 31 by omega), g1, g2, g3, e3, e3, z64 _ (by omega), cl (show 8 * A s + B s < 2 ^ 31 by omega), cl (show 8 * B s + A s < 2 ^ 31 by omega), hAB, nI_1]
    by_cases q : stS A B T s (A s) (B s) ≤ T s
    · rw [if_pos (nI_le q (by omega)), z64 _ (by omega), z64 _ (by omega), z64 _ (by omega), z64 _ (by omega)]
      exact nx _ (nI_cong (by omega))
    · rw [if_neg (dj (by omega) (by omega)), z24 _ (by omega), z64 _ (by omega), z64 _ (by omega), z64 _ (by omega)]
      exact nx _ (nI_cong (by omega))
theorem measure_m {S : Nat} {A B T : Nat → Nat} (hN : 100 ≤ N) (hS : S ≤ 12) (h0 : st 0 = nI S) (hs : ∀ i, i < S → en (2 * i) = nI (A i) ∧ en (2 * i + 1) = nI (B i) ∧ ti i = nI (T i)) (hb : ∀ i, i < S → A i < 8 ∧ B i < 8 ∧ T i ≤ 9) (g : Nat → Int32) : ∃ g', fX10_measure N st en ti g = some g' ∧ RMx (FK (stS A B T S) 8) g' := by
  have h : ∀ (j k fu : Nat) (g : Nat → Int32), k + j = 64 → j < fu → (∀ i, i < k → g i = nI (E0 (i / 8) (i % 8))) → ∃ g', fX10_measure_b2 N st en ti fu g (nI k) = some g' ∧ RMx (FK (stS A B T S) 8) g' := by
    intro j
    induction j with
    | zero =>
      intro k fu g h1 h2 h3
      obtain ⟨fu, rfl⟩ : ∃ j, fu = j + 1 := ⟨fu - 1, by omega⟩
      have e : k = 64 := by omega
      subst e
      rw [fX10_measure_b2, if_pos (show (64 : Int32) ≤ nI 64 by decide)]
      refine mst_loop hN hS h0 hs hb S 0 N g (by omega) (by omega) (fun x y hx hy => ?_)
      rw [h3 (8 * x + y) (by omega), show (8 * x + y) / 8 = x by omega, show (8 * x + y) % 8 = y by omega]
      rfl
    | succ j ih =>
      intro k fu g h1 h2 h3
      obtain ⟨fu, rfl⟩ : ∃ j, fu = j + 1 := ⟨fu - 1, by omega⟩
      have e1 : nI k / (8 : Int32) = nI (k / 8) := by rw [show (8 : Int32) = nI 8 from rfl, pk_div (by omega) (by omega) (by omega)]
      have e2 : nI k - nI (k / 8) * (8 : Int32) = nI (k % 8) := by rw [show (8 : Int32) = nI 8 from rfl, pk_mul, pk_sub (by omega)]; exact nI_cong (by omega)
      have nx : ∀ v : Int32, v = nI (E0 (k / 8) (k % 8)) → ∃ g', fX10_measure_b2 N st en ti fu (upd g k v) (nI (k + 1)) = some g' ∧ RMx (FK (stS A B T S) 8) g' := fun v hv => by
        refine ih (k + 1) fu _ (by omega) (by omega) (fun i hi => ?_)
        by_cases e : i = k
        · subst e
          rw [pk_us, hv]
        · rw [pk_un e]
          exact h3 i (by omega)
      rw [fX10_measure_b2, if_neg (by rw [show (64 : Int32) = nI 64 from rfl]; exact dj (by omega) (by omega))]
      unfold fX10_measure_b30
      rw [e1, e2, gi_ok (by omega) (by omega), gi_ok (by omega) (by omega), cl (show k < 2 ^ 31 by omega), nI_1]
      by_cases q : k / 8 = k % 8
      · rw [if_pos (congrArg nI q)]
        exact nx _ (by unfold E0; rw [if_pos q]; rfl)
      · rw [if_neg (fun z => q ((nI_eq (by omega) (by omega)).mp z))]
        exact nx _ (by unfold E0; rw [if_neg q]; rfl)
  exact h 64 0 N g (by omega) (by omega) (fun i hi => absurd hi (by omega))
end MEM
