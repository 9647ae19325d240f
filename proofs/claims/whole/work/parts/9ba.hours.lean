/-! HOURS of a ROW: each way is taken but once, so they are 216 at most -/
def tkc (K : Nat → Nat) : Nat → Nat
  | 0 => 0
  | n + 1 => tkc K n + pop (K n) 2
theorem tkc_le (K : Nat → Nat) : ∀ n, tkc K n ≤ 2 * n
  | 0 => Nat.le_refl 0
  | n + 1 => by
    have h1 := tkc_le K n
    have h2 := pop_le (K n) 2
    unfold tkc
    omega
theorem tkc_step {K : Nat → Nat} {s f : Nat} (hf : f ≤ 1) (hb : (K s).testBit f = false) : ∀ n, tkc (fun i => if i = s then K i ||| 2 ^ f else K i) n = tkc K n + (if s < n then 1 else 0)
  | 0 => rfl
  | n + 1 => by
    have ih := tkc_step (K := K) hf hb n
    have hp : pop (if n = s then K n ||| 2 ^ f else K n) 2 = pop (K n) 2 + (if n = s then 1 else 0) := by
      by_cases e : n = s
      · subst e
        rw [if_pos rfl, if_pos rfl, pop_or _ _ hb, if_pos (by omega)]
      · rw [if_neg e, if_neg e]
        omega
    show tkc (fun i => if i = s then K i ||| 2 ^ f else K i) n + pop (if n = s then K n ||| 2 ^ f else K n) 2 = tkc K n + pop (K n) 2 + (if s < n + 1 then 1 else 0)
    rw [ih, hp]
    by_cases e : n = s
    · rw [if_pos e, if_neg (by omega), if_pos (by omega)]
      omega
    · rw [if_neg e]
      by_cases h : s < n
      · rw [if_pos h, if_pos (by omega)]
        omega
      · rw [if_neg h, if_neg (by omega)]
        omega
/-- each HOUR is paid for by a way: 9 a way -/
def paid (m m' : MM) : Prop := mmH m' + 9 * tkc (mmK m) 12 ≤ mmH m + 9 * tkc (mmK m') 12
theorem paid_refl (m : MM) : paid m m := Nat.le_refl _
theorem paid_trans {a b c : MM} (h1 : paid a b) (h2 : paid b c) : paid a c := by
  unfold paid at *
  omega
theorem stepS_paid {c : MC} {m : MM} {home : Nat} {w : Nat × Nat} (hc : wfC c) (hw : wayS c m home (mcS c) = some w) : paid m (stepS c m w) := by
  have h1 := wayS_ok hw
  have h2 := cand_lt h1.2
  have hT := (hc.2.2.2.1 w.1 h1.1).2.2.2.2
  have hS := hc.2.1
  have h3 := tkc_step (K := mmK m) (s := w.1) h2.1 h2.2.2.2.2 12
  rw [if_pos (by omega)] at h3
  show mmH m + mcT c w.1 + 9 * tkc (mmK m) 12 ≤ mmH m + 9 * tkc (fun s => if s = w.1 then mmK m s ||| 2 ^ w.2 else mmK m s) 12
  omega
theorem goS_paid {c : MC} (hc : wfC c) (home : Nat) : ∀ (n : Nat) (m : MM), paid m (goS c home n m).2
  | 0, m => paid_refl m
  | n + 1, m => by
    unfold goS
    cases e : wayS c m home (mcS c) with
    | none => exact paid_refl m
    | some w =>
      have h1 := stepS_paid hc e
      simp only
      split
      · exact h1
      · exact paid_trans h1 (goS_paid hc home n (stepS c m w))
theorem leadS_paid {c : MC} (hc : wfC c) (m : MM) (l : Nat) : paid m (leadS c m l).2 := goS_paid hc (mcH c l) (mcF c l) m
theorem runS_paid {c : MC} {n : Nat} (hc : wfC c) : ∀ (j k : Nat) (w : Nat → Nat) (m : MM) (th : Nat → Nat) (ho : Nat), paid m (runS c n j k w m th ho).2.1
  | 0, _, _, m, _, _ => paid_refl m
  | j + 1, k, w, m, th, ho => by
    unfold runS
    exact paid_trans (leadS_paid hc m (w k)) (runS_paid hc j (k + 1) _ _ _ _)
theorem runS_hours {c : MC} {n : Nat} (hc : wfC c) (j k : Nat) (w : Nat → Nat) (m : MM) (th : Nat → Nat) (ho : Nat) : mmH (runS c n j k w m th ho).2.1 - mmH m ≤ 216 := by
  have h1 := runS_paid (n := n) hc j k w m th ho
  have h2 := tkc_le (mmK (runS c n j k w m th ho).2.1) 12
  unfold paid at h1
  omega
