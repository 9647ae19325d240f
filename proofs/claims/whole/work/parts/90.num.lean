/-! numbers: what the pure functions say of small ints -/
theorem fa_and (a b : Nat) : nI a &&& nI b = nI (a &&& b) := by
  apply Int32.toBitVec_inj.1
  show BitVec.ofNat 32 a &&& BitVec.ofNat 32 b = BitVec.ofNat 32 (a &&& b)
  apply BitVec.eq_of_getLsbD_eq
  intro i hi
  simp [hi]
theorem fa_or (a b : Nat) : nI a ||| nI b = nI (a ||| b) := by
  apply Int32.toBitVec_inj.1
  show BitVec.ofNat 32 a ||| BitVec.ofNat 32 b = BitVec.ofNat 32 (a ||| b)
  apply BitVec.eq_of_getLsbD_eq
  intro i hi
  simp [hi]
theorem fa_xor (a b : Nat) : nI a ^^^ nI b = nI (a ^^^ b) := by
  apply Int32.toBitVec_inj.1
  show BitVec.ofNat 32 a ^^^ BitVec.ofNat 32 b = BitVec.ofNat 32 (a ^^^ b)
  apply BitVec.eq_of_getLsbD_eq
  intro i hi
  simp [hi]
theorem gi_ok {R : Type} {j n : Nat} {k : Option R} (h : j < n) (hn : n ≤ 1000) : gi (nI j) n k = k := by
  unfold gi
  rw [if_neg (nI_in h (by omega))]
theorem gil {R : Type} {j : Int32} {a n : Nat} {k : Option R} (e : j = nI a) (h : a < n) (hn : n ≤ 1000) : gi j n k = k := by
  subst e
  exact gi_ok h hn
theorem cl0 : (0 : Int32).toNatClampNeg = 0 := by decide
theorem cl1 : (1 : Int32).toNatClampNeg = 1 := by decide
theorem cl2 : (2 : Int32).toNatClampNeg = 2 := by decide
theorem cl3 : (3 : Int32).toNatClampNeg = 3 := by decide
theorem cl4 : (4 : Int32).toNatClampNeg = 4 := by decide
theorem cl17 : (17 : Int32).toNatClampNeg = 17 := by decide
theorem gc_ok {R : Type} {c : Prop} [Decidable c] {k : Option R} (h : c) : gc c k = k := if_pos h
theorem cl {n : Nat} (h : n < 2 ^ 31) : (nI n).toNatClampNeg = n := nI_clamp h
/-- a shift's count -/
theorem sh_amt : ∀ k, k < 32 → ((nI k &&& 31).toBitVec.smod 32).toNat = k := by decide +kernel
theorem shr_nI {n k : Nat} (h : n < 2 ^ 31) (hk : k < 32) : nI n >>> (nI k &&& 31) = nI (n / 2 ^ k) := pk_shrN h _ k (sh_amt k hk)
theorem shl_nI {n k : Nat} (hk : k < 32) (h : n * 2 ^ k < 2 ^ 32) : nI n <<< (nI k &&& 31) = nI (n * 2 ^ k) := pk_shlN _ k (sh_amt k hk) h
theorem and1_nI {n : Nat} : nI n &&& (1 : Int32) = nI (n % 2) := by
  rw [show (1 : Int32) = nI 1 from rfl, fa_and, Nat.and_one_is_mod]
theorem bit_nI {n k : Nat} (h : n < 2 ^ 31) (hk : k < 32) : (nI n >>> (nI k &&& 31)) &&& (1 : Int32) = nI (if n.testBit k then 1 else 0) := by
  rw [shr_nI h hk, and1_nI, Nat.testBit_eq_decide_div_mod_eq]
  rcases Nat.mod_two_eq_zero_or_one (n / 2 ^ k) with e | e <;> simp [e]
theorem bit1 {n k : Nat} (h : n < 2 ^ 31) (hk : k < 32) : ((nI n >>> (nI k &&& 31)) &&& (1 : Int32) = 1) ↔ n.testBit k = true := by
  rw [bit_nI h hk]
  cases n.testBit k <;> decide
theorem bit0 {n k : Nat} (h : n < 2 ^ 31) (hk : k < 32) : ((nI n >>> (nI k &&& 31)) &&& (1 : Int32) = 0) ↔ n.testBit k = false := by
  rw [bit_nI h hk]
  cases n.testBit k <;> decide
theorem one_shl {k : Nat} (hk : k < 31) : (1 : Int32) <<< (nI k &&& 31) = nI (2 ^ k) := by
  rw [show (1 : Int32) = nI 1 from rfl, shl_nI (by omega) (by rw [Nat.one_mul]; exact Nat.pow_lt_pow_right (by omega) (by omega)), Nat.one_mul]
theorem nI_neg {a : Nat} (h : a < 2 ^ 31) (c : Int32) (hc : c < 0) : ¬ nI a = c := by
  intro e
  rw [← e] at hc
  exact nI_pos h hc
theorem nI_n9 {a : Nat} (h : a < 2 ^ 31) : ¬ nI a = (-9 : Int32) := nI_neg h _ (by decide)
theorem nI_cong {a b : Nat} (h : a = b) : nI a = nI b := by rw [h]
theorem dj {a b : Nat} (h : a < b) (hb : b < 2 ^ 31) : ¬ nI b ≤ nI a := nI_ge h hb
theorem tb_lt {n k : Nat} (h : n < 2 ^ k) {i : Nat} (hi : k ≤ i) : n.testBit i = false := Nat.testBit_lt_two_pow (Nat.lt_of_lt_of_le h (Nat.pow_le_pow_right (by omega) hi))
theorem or_lt {a b k : Nat} (ha : a < 2 ^ k) (hb : b < 2 ^ k) : a ||| b < 2 ^ k := Nat.or_lt_two_pow ha hb
theorem tb_pow {k i : Nat} : (2 ^ k).testBit i = decide (k = i) := Nat.testBit_two_pow
/-- the number of bits below n -/
def pop (L : Nat) : Nat → Nat
  | 0 => 0
  | n + 1 => pop L n + (if L.testBit n then 1 else 0)
theorem pop_le (L : Nat) : ∀ n, pop L n ≤ n
  | 0 => Nat.le_refl 0
  | n + 1 => by
    have := pop_le L n
    unfold pop
    split <;> omega
theorem pop_or (L l : Nat) (hl : L.testBit l = false) : ∀ n, pop (L ||| 2 ^ l) n = pop L n + (if l < n then 1 else 0)
  | 0 => rfl
  | n + 1 => by
    unfold pop
    rw [pop_or L l hl n, Nat.testBit_or, tb_pow]
    by_cases e : l = n
    · subst e
      simp [hl]
    · by_cases h : l < n
      · simp [e, h, Nat.lt_succ_of_lt h]
        omega
      · simp [e, h, show ¬ l < n + 1 by omega]
/-! the city and the march, as numbers -/
abbrev MC : Type := Nat × Nat × Nat × (Nat → Nat) × (Nat → Nat) × (Nat → Nat) × (Nat → Nat) × (Nat → Nat) × (Nat → Nat → Nat)
def mcC (k : MC) : Nat := k.1
def mcS (k : MC) : Nat := k.2.1
def mcL (k : MC) : Nat := k.2.2.1
def mcA (k : MC) : Nat → Nat := k.2.2.2.1
def mcB (k : MC) : Nat → Nat := k.2.2.2.2.1
def mcT (k : MC) : Nat → Nat := k.2.2.2.2.2.1
def mcH (k : MC) : Nat → Nat := k.2.2.2.2.2.2.1
def mcF (k : MC) : Nat → Nat := k.2.2.2.2.2.2.2.1
def mcD (k : MC) : Nat → Nat → Nat := k.2.2.2.2.2.2.2.2
abbrev MM : Type := Nat × Nat × Nat × Nat × Nat × (Nat → Nat)
def mmA (m : MM) : Nat := m.1
def mmH (m : MM) : Nat := m.2.1
def mmF (m : MM) : Nat := m.2.2.1
def mmL (m : MM) : Nat := m.2.2.2.1
def mmS (m : MM) : Nat := m.2.2.2.2.1
def mmK (m : MM) : Nat → Nat := m.2.2.2.2.2
def wfC (k : MC) : Prop := mcC k ≤ 8 ∧ mcS k ≤ 12 ∧ mcL k ≤ 6 ∧ (∀ i, i < mcS k → mcA k i < mcC k ∧ mcB k i < mcC k ∧ mcA k i ≠ mcB k i ∧ 1 ≤ mcT k i ∧ mcT k i ≤ 9) ∧ (∀ i, i < mcL k → mcH k i < mcC k ∧ 1 ≤ mcF k i ∧ mcF k i ≤ 5) ∧ ∀ a b, a < mcC k → b < mcC k → mcD k a b ≤ 99
def wfM (k : MC) (m : MM) : Prop := (mmA m < mcC k ∨ (mcC k = 0 ∧ mmA m = 0)) ∧ mmL m < 2 ^ mcL k ∧ mmS m < 2 ^ mcS k ∧ (∀ s, mmK m s ≤ 3) ∧ (∀ s, mcS k ≤ s → mmK m s = 0) ∧ mmF m ≤ pop (mmL m) 6 ∧ mmH m ≤ 45 * pop (mmL m) 6
def CCity (k : MC) (cor str lea : Int32) (fi se ho hm fe : Nat → Int32) (far : Nat → Nat → Int32) : Prop := cor = nI (mcC k) ∧ str = nI (mcS k) ∧ lea = nI (mcL k) ∧ (∀ i, i < mcS k → fi i = nI (mcA k i) ∧ se i = nI (mcB k i) ∧ ho i = nI (mcT k i)) ∧ (∀ i, i < mcL k → hm i = nI (mcH k i) ∧ fe i = nI (mcF k i)) ∧ ∀ a b, a < mcC k → b < mcC k → far a b = nI (mcD k a b)
def MCity (k : MC) (co st le en ti ho fe far : Nat → Int32) : Prop := co 0 = nI (mcC k) ∧ st 0 = nI (mcS k) ∧ le 0 = nI (mcL k) ∧ (∀ i, i < mcS k → en (2 * i) = nI (mcA k i) ∧ en (2 * i + 1) = nI (mcB k i) ∧ ti i = nI (mcT k i)) ∧ (∀ i, i < mcL k → ho i = nI (mcH k i) ∧ fe i = nI (mcF k i)) ∧ ∀ a b, a < mcC k → b < mcC k → far (8 * a + b) = nI (mcD k a b)
def tkn (K : Nat → Nat) (T : Nat) : Prop := T < 2 ^ 24 ∧ ∀ s, s < 12 → T.testBit s = (K s).testBit 0 ∧ T.testBit (s + 12) = (K s).testBit 1
def CMarch (m : MM) (at' ho fi le ta sh : Int32) : Prop := at' = nI (mmA m) ∧ ho = nI (mmH m) ∧ fi = nI (mmF m) ∧ le = nI (mmL m) ∧ sh = nI (mmS m) ∧ ∃ T, ta = nI T ∧ tkn (mmK m) T
def MMarch (m : MM) (g : Nat → Int32) : Prop := g 0 = nI (mmA m) ∧ g 1 = nI (mmH m) ∧ g 2 = nI (mmF m) ∧ g 3 = nI (mmL m) ∧ g 4 = nI (mmS m) ∧ ∀ s, s < 12 → g (5 + s) = nI (mmK m s)
/-! LED, as numbers -/
/-- the way of a street from where the march is, if it may be gone: from which end -/
def cand (c : MC) (m : MM) (k : Nat) : Option Nat :=
  if mcA c k = mmA m then (if ((mmS m).testBit k || (mmK m k).testBit 0) = true then none else some 0)
  else if mcB c k = mmA m then (if ((mmS m).testBit k || (mmK m k).testBit 1) = true then none else some 1) else none
def oth (c : MC) (w : Nat × Nat) : Nat := if w.2 = 0 then mcB c w.1 else mcA c w.1
def wval (c : MC) (home : Nat) (w : Nat × Nat) : Nat := 10 * mcD c (oth c w) home + mcT c w.1
def wayS (c : MC) (m : MM) (home : Nat) : Nat → Option (Nat × Nat)
  | 0 => none
  | k + 1 => match cand c m k with
    | none => wayS c m home k
    | some f => match wayS c m home k with
      | none => some (k, f)
      | some w => if wval c home (k, f) < wval c home w then some (k, f) else some w
def stepS (c : MC) (m : MM) (w : Nat × Nat) : MM := (oth c w, mmH m + mcT c w.1, mmF m, mmL m, mmS m, fun s => if s = w.1 then mmK m s ||| 2 ^ w.2 else mmK m s)
def goS (c : MC) (home : Nat) : Nat → MM → Bool × MM
  | 0, m => (false, m)
  | n + 1, m => match wayS c m home (mcS c) with
    | none => (true, m)
    | some w => if oth c w = home then (false, stepS c m w) else goS c home n (stepS c m w)
def leadS (c : MC) (m : MM) (l : Nat) : Bool × MM :=
  ((goS c (mcH c l) (mcF c l) m).1, (mmA (goS c (mcH c l) (mcF c l) m).2, mmH (goS c (mcH c l) (mcF c l) m).2, mmF m + (if (goS c (mcH c l) (mcF c l) m).1 then 1 else 0), mmL m ||| 2 ^ l, mmS m, mmK (goS c (mcH c l) (mcF c l) m).2))
theorem cand_lt {c : MC} {m : MM} {k f : Nat} (h : cand c m k = some f) : f ≤ 1 ∧ (f = 0 → mcA c k = mmA m) ∧ (f = 1 → mcA c k ≠ mmA m ∧ mcB c k = mmA m) ∧ (mmS m).testBit k = false ∧ (mmK m k).testBit f = false := by
  unfold cand at h
  split at h
  · split at h
    · cases h
    · cases h
      simp_all
  · split at h
    · split at h
      · cases h
      · cases h
        simp_all
    · cases h
theorem wayS_ok {c : MC} {m : MM} {home : Nat} : ∀ {k : Nat} {w : Nat × Nat}, wayS c m home k = some w → w.1 < k ∧ cand c m w.1 = some w.2
  | 0, w, h => by simp [wayS] at h
  | k + 1, w, h => by
    unfold wayS at h
    split at h
    · have := wayS_ok h
      exact ⟨by omega, this.2⟩
    · rename_i f hf
      split at h
      · cases h
        exact ⟨by simp, hf⟩
      · rename_i w' hw'
        split at h
        · cases h
          exact ⟨by simp, hf⟩
        · cases h
          have := wayS_ok hw'
          exact ⟨by omega, this.2⟩
