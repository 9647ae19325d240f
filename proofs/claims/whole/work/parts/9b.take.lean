/-! what all ROWS together tell -/
abbrev RB : Type := Option (Nat × Nat × Nat × (Nat → Nat))
abbrev RLg : Type := Option (Nat × (Nat → Nat))
abbrev RO : Type := Nat × Nat × Nat × Option Nat × Nat × Nat
def atDoor (c : MC) (e : MM) : Bool := decide (0 < mcC c) && decide (mmA e = 0)
def wgt (d f h : Nat) : Nat := 10000000 * d + 10000 * f + h
def bst (b : RB) (d f h : Nat) (t : Nat → Nat) : RB := match b with
  | none => some (d, f, h, t)
  | some v => if wgt d f h < wgt v.1 v.2.1 v.2.2.1 then some (d, f, h, t) else some v
def lst (b : RLg) (x : Nat) (t : Nat → Nat) : RLg := match b with
  | none => some (x, t)
  | some v => if v.1 < x then some (x, t) else some v
def minO (l : Option Nat) (h : Nat) : Nat := match l with
  | none => h
  | some l => if h < l then h else l
def orO (b : Nat) (l : Option Nat) : Nat := match l with
  | none => b
  | some l => b ||| 2 ^ l
def ost (o : RO) (w at' ho h : Nat) (hid : Option Nat) : RO :=
  (o.1 ||| w, o.2.1 ||| 2 ^ at', if o.2.2.1 < ho then ho else o.2.2.1, some (minO o.2.2.2.1 h), if o.2.2.2.2.1 < h then h else o.2.2.2.2.1, orO o.2.2.2.2.2 hid)
def brep (n : Nat) (b : RB) (door fines hours : Int32) (best : Nat → Int32) : Prop := match b with
  | none => door = (-9 : Int32)
  | some v => door = nI (1 - v.1) ∧ fines = nI v.2.1 ∧ hours = nI v.2.2.1 ∧ v.1 ≤ 1 ∧ v.2.1 ≤ 6 ∧ v.2.2.1 ≤ 270 ∧ holds n v.2.2.2 best
def lrep (n : Nat) (b : RLg) (lw : Int32) (longest : Nat → Int32) : Prop := match b with
  | none => lw = (-9 : Int32)
  | some v => lw = nI v.1 ∧ v.1 ≤ 12 ∧ holds n v.2 longest
def leI (l : Option Nat) : Int32 := match l with
  | none => (216 : Int32)
  | some v => nI v
def orep (W0 : Nat) (o : RO) (walked ends happy least most hides : Int32) : Prop :=
  walked = nI (W0 ||| o.1) ∧ o.1 < 2 ^ 12 ∧ ends = nI o.2.1 ∧ o.2.1 < 2 ^ 8 ∧ happy = nI o.2.2.1 ∧ o.2.2.1 ≤ 6 ∧ least = leI o.2.2.2.1 ∧ (∀ v, o.2.2.2.1 = some v → v ≤ 270) ∧ most = nI o.2.2.2.2.1 ∧ o.2.2.2.2.1 ≤ 270 ∧ hides = nI o.2.2.2.2.2 ∧ o.2.2.2.2.2 < 2 ^ 6
theorem holds_cpy {n : Nat} {t : Nat → Nat} {a b : Nat → Int32} (h : holds n t a) (hn : n ≤ 6) : holds n t (va_cpy a b (0 : Int32).toNatClampNeg (0 : Int32).toNatClampNeg (nI n).toNatClampNeg) := by
  rw [cl0, cl (by omega)]
  intro i hi
  rw [pk_cpy_in (by omega) (by omega), Nat.sub_zero, Nat.zero_add]
  exact h i hi
theorem takeBest_ok {N n d f h : Nat} {b : RB} {t : Nat → Nat} {door fines hours : Int32} {best told : Nat → Int32} (hn : n ≤ 6) (hd : d ≤ 1) (hf : f ≤ 6) (hh : h ≤ 270) (ht : holds n t told) (hb : brep n b door fines hours best) :
    ∃ u, fX4_takeBest N (nI n) door fines hours best told (nI (1 - d)) (nI f) (nI h) = some u ∧ brep n (bst b d f h t) u.1 u.2.1 u.2.2.1 u.2.2.2 := by
  have b42 : ∀ door fines hours best, fX4_takeBest_b42 N (nI n) told (nI (1 - d)) (nI f) (nI h) door fines hours best = some (nI (1 - d), nI f, nI h, va_cpy told best (0 : Int32).toNatClampNeg (0 : Int32).toNatClampNeg (nI n).toNatClampNeg) := by
    intro door fines hours best
    unfold fX4_takeBest_b42
    rw [gc_ok (by decide), gc_ok (by decide), gc_ok (nI_pos (by omega)), gc_ok (by rw [cl0, cl (by omega)]; omega), gc_ok (by rw [cl0, cl (by omega)]; omega)]
  have new : brep n (some (d, f, h, t)) (nI (1 - d)) (nI f) (nI h) (va_cpy told best (0 : Int32).toNatClampNeg (0 : Int32).toNatClampNeg (nI n).toNatClampNeg) := ⟨rfl, rfl, rfl, hd, hf, hh, holds_cpy ht hn⟩
  unfold fX4_takeBest
  cases b with
  | none =>
    have hb : door = (-9 : Int32) := hb
    subst hb
    have e : ¬ (nI (1 - d) < (-9 : Int32)) := by
      rcases (show d = 0 ∨ d = 1 by omega) with rfl | rfl <;> decide
    rw [if_neg e, if_neg (nI_n9 (by omega)), b42]
    exact ⟨_, rfl, new⟩
  | some v =>
    obtain ⟨d0, f0, h0, s⟩ := v
    obtain ⟨e1, e2, e3, k1, k2, k3, k4⟩ := hb
    have e1 : door = nI (1 - d0) := e1
    have e2 : fines = nI f0 := e2
    have e3 : hours = nI h0 := e3
    subst e1
    subst e2
    subst e3
    have k1 : d0 ≤ 1 := k1
    have k2 : f0 ≤ 6 := k2
    have k3 : h0 ≤ 270 := k3
    have old : brep n (some (d0, f0, h0, s)) (nI (1 - d0)) (nI f0) (nI h0) best := ⟨rfl, rfl, rfl, k1, k2, k3, k4⟩
    have yes : wgt d f h < wgt d0 f0 h0 → bst (some (d0, f0, h0, s)) d f h t = some (d, f, h, t) := fun z => if_pos z
    have no : ¬ wgt d f h < wgt d0 f0 h0 → bst (some (d0, f0, h0, s)) d f h t = some (d0, f0, h0, s) := fun z => if_neg z
    unfold wgt at yes no
    show ∃ u, (if nI (1 - d) < nI (1 - d0) then _ else _) = _ ∧ _
    by_cases q1 : 1 - d < 1 - d0
    · rw [if_pos (nI_lt q1 (by omega)), no (by omega)]
      exact ⟨_, rfl, old⟩
    · rw [if_neg (nI_nlt (by omega) (by omega))]
      by_cases q2 : 1 - d = 1 - d0
      · rw [if_pos (by rw [q2])]
        by_cases q3 : f0 < f
        · rw [if_pos (nI_lt q3 (by omega)), no (by omega)]
          exact ⟨_, rfl, old⟩
        · rw [if_neg (nI_nlt (by omega) (by omega))]
          by_cases q4 : f = f0
          · rw [if_pos (by rw [q4])]
            by_cases q5 : h < h0
            · rw [if_pos (nI_lt q5 (by omega)), yes (by omega), b42]
              exact ⟨_, rfl, new⟩
            · rw [if_neg (nI_nlt (by omega) (by omega)), no (by omega)]
              exact ⟨_, rfl, old⟩
          · rw [if_neg (fun z => q4 ((nI_eq (by omega) (by omega)).mp z)), yes (by omega), b42]
            exact ⟨_, rfl, new⟩
      · rw [if_neg (fun z => q2 ((nI_eq (by omega) (by omega)).mp z)), yes (by omega), b42]
        exact ⟨_, rfl, new⟩
theorem takeLongest_ok {N n : Nat} {e : MM} {T : Nat} {b : RLg} {t : Nat → Nat} {lw : Int32} {longest told : Nat → Int32} (hn : n ≤ 6) (hT : tkn (mmK e) T) (hK : ∀ s, mmK e s ≤ 3) (ht : holds n t told) (hb : lrep n b lw longest) :
    ∃ u, fX4_takeLongest N (nI n) lw longest told (nI T) = some u ∧ lrep n (lst b (pop (wlk e) 12) t) u.1 u.2 := by
  have hp := pop_le (wlk e) 12
  have new : lrep n (some (pop (wlk e) 12, t)) (nI (pop (wlk e) 12)) (va_cpy told longest (0 : Int32).toNatClampNeg (0 : Int32).toNatClampNeg (nI n).toNatClampNeg) := ⟨rfl, hp, holds_cpy ht hn⟩
  have g : ∀ x : Int32 × (Nat → Int32), gc (¬ (0 : Int32) < 0) (gc (¬ (0 : Int32) < 0) (gc (¬ nI n < 0) (gc ((0 : Int32).toNatClampNeg + (nI n).toNatClampNeg ≤ 6) (gc ((0 : Int32).toNatClampNeg + (nI n).toNatClampNeg ≤ 6) (some x))))) = some x := by
    intro x
    rw [gc_ok (by decide), gc_ok (by decide), gc_ok (nI_pos (by omega)), gc_ok (by rw [cl0, cl (by omega)]; omega), gc_ok (by rw [cl0, cl (by omega)]; omega)]
  unfold fX4_takeLongest
  rw [walked_c hT hK, Option.bind_some, bitCount_ok (show wlk e < 2 ^ 12 from wlk_lt _ 12), Option.bind_some]
  cases b with
  | none =>
    have hb : lw = (-9 : Int32) := hb
    subst hb
    have q : ¬ nI (pop (wlk e) 12) ≤ (-9 : Int32) := fun z => nI_pos (n := pop (wlk e) 12) (by omega) (Int32.lt_of_le_of_lt z (by decide))
    rw [if_neg q, g]
    exact ⟨_, rfl, new⟩
  | some v =>
    obtain ⟨x, s⟩ := v
    obtain ⟨e1, k1, k2⟩ := hb
    have e1 : lw = nI x := e1
    subst e1
    have k1 : x ≤ 12 := k1
    show ∃ u, (if nI (pop (wlk e) 12) ≤ nI x then _ else _) = _ ∧ _
    by_cases q : x < pop (wlk e) 12
    · rw [if_neg (nI_ge q (by omega)), g, show lst (some (x, s)) (pop (wlk e) 12) t = some (pop (wlk e) 12, t) from if_pos q]
      exact ⟨_, rfl, new⟩
    · rw [if_pos (nI_le (by omega) (by omega)), show lst (some (x, s)) (pop (wlk e) 12) t = some (x, s) from if_neg q]
      exact ⟨_, rfl, rfl, k1, k2⟩
theorem isHome_ok {N : Nat} {c : MC} {e : MM} (hc : wfC c) (he : mmA e < 8) : fX9_isHome N (nI (mcC c)) (nI (mmA e)) = some (bI (atDoor c e)) := by
  unfold fX9_isHome atDoor
  have := hc.1
  by_cases q : mcC c = 0
  · rw [q, if_pos (by decide)]
    simp [bI]
  · rw [if_neg (nI_nle (by omega) (by omega))]
    by_cases q2 : mmA e = 0
    · rw [q2, if_pos (by decide)]
      simp [bI, show 0 < mcC c by omega]
    · rw [if_neg (nI_ne0 (by omega) (by omega))]
      simp [bI, q2]
theorem take_ok {N n W0 : Nat} {c : MC} {m e : MM} {T H : Nat} {w t : Nat → Nat} {b : RB} {l : RLg} {o : RO} {s0 door fines hours lw walked ends happy least most hides : Int32} {best longest told leading : Nat → Int32} (hn : n ≤ 6) (he : mmA e < 8) (hH : mmH m ≤ mmH e) (hF : mmF m ≤ mmF e) (hH2 : mmH e ≤ 270) (hH3 : mmH e - mmH m ≤ 216) (hF2 : mmF e ≤ 6) (hHo : H ≤ 6) (hT : tkn (mmK e) T) (hK : ∀ s, mmK e s ≤ 3) (hw : ∀ i, i < n → w i < 6) (hle : holds n w leading) (ht : holds n t told) (hb : brep n b door fines hours best) (hl : lrep n l lw longest) (ho : orep W0 o walked ends happy least most hides) (hW : W0 < 2 ^ 12) :
    ∃ u, fX4_take N s0 door fines hours lw walked ends happy least most hides best longest (nI n) (nI H) told leading (nI (mmA e)) (nI (mmH e)) (nI (mmF e)) (nI T) (nI (mmH m)) (nI (mmF m)) (bI (atDoor c e)) = some u ∧ u.1 = nI n ∧
      brep n (bst b (if atDoor c e = true then 0 else 1) (mmF e - mmF m) (mmH e - mmH m) t) u.2.1 u.2.2.1 u.2.2.2.1 u.2.2.2.2.2.2.2.2.2.2.2.1 ∧ lrep n (lst l (pop (wlk e) 12) t) u.2.2.2.2.1 u.2.2.2.2.2.2.2.2.2.2.2.2 ∧
      orep W0 (ost o (wlk e) (mmA e) H (mmH e - mmH m) (if atDoor c e = true ∧ 0 < n then some (w (n - 1)) else none)) u.2.2.2.2.2.1 u.2.2.2.2.2.2.1 u.2.2.2.2.2.2.2.1 u.2.2.2.2.2.2.2.2.1 u.2.2.2.2.2.2.2.2.2.1 u.2.2.2.2.2.2.2.2.2.2.1 := by
  obtain ⟨o1, o2, o3, o4, o5, o6⟩ := o
  obtain ⟨q1, p2, q3, p4, q5, p6, q7, p8, q9, p10, q11, p12⟩ := ho
  have q1 : walked = nI (W0 ||| o1) := q1
  have q3 : ends = nI o2 := q3
  have q5 : happy = nI o3 := q5
  have q7 : least = leI o4 := q7
  have q9 : most = nI o5 := q9
  have q11 : hides = nI o6 := q11
  subst q1
  subst q3
  subst q5
  subst q7
  subst q9
  subst q11
  have p2 : o1 < 2 ^ 12 := p2
  have p4 : o2 < 2 ^ 8 := p4
  have p6 : o3 ≤ 6 := p6
  have p8 : ∀ v, o4 = some v → v ≤ 270 := p8
  have p10 : o5 ≤ 270 := p10
  have p12 : o6 < 2 ^ 6 := p12
  have hwl := wlk_lt (mmK e) 12
  obtain ⟨u3, l1, l2⟩ := takeLongest_ok (N := N) hn hT hK ht hl
  have hle' : (if nI (mmH e - mmH m) < leI o4 then nI (mmH e - mmH m) else leI o4) = nI (minO o4 (mmH e - mmH m)) := by
    cases o4 with
    | none =>
      show (if nI (mmH e - mmH m) < nI 216 then nI (mmH e - mmH m) else nI 216) = nI (mmH e - mmH m)
      by_cases q : mmH e - mmH m < 216
      · rw [if_pos (nI_lt q (by omega))]
      · rw [if_neg (nI_nlt (by omega) (by omega))]
        exact nI_cong (by omega)
    | some v =>
      have := p8 v rfl
      show (if nI _ < nI v then _ else nI v) = _
      by_cases q : mmH e - mmH m < v
      · rw [if_pos (nI_lt q (by omega))]
        show _ = nI (if _ then _ else _)
        rw [if_pos q]
      · rw [if_neg (nI_nlt (by omega) (by omega))]
        show _ = nI (if _ then _ else _)
        rw [if_neg q]
  have hle2 : ∀ v, some (minO o4 (mmH e - mmH m)) = some v → v ≤ 270 := by
    intro v hv
    cases hv
    cases o4 with
    | none => show mmH e - mmH m ≤ 270; omega
    | some x =>
      have := p8 x rfl
      show (if _ then _ else _) ≤ 270
      split <;> omega
  have hhap : (if nI o3 < nI H then nI H else nI o3) = nI (if o3 < H then H else o3) := by
    by_cases q : o3 < H
    · rw [if_pos (nI_lt q (by omega)), if_pos q]
    · rw [if_neg (nI_nlt (by omega) (by omega)), if_neg q]
  have hmos : (if nI o5 < nI (mmH e - mmH m) then nI (mmH e - mmH m) else nI o5) = nI (if o5 < mmH e - mmH m then mmH e - mmH m else o5) := by
    by_cases q : o5 < mmH e - mmH m
    · rw [if_pos (nI_lt q (by omega)), if_pos q]
    · rw [if_neg (nI_nlt (by omega) (by omega)), if_neg q]
  have main : ∀ (x : Option Nat) (o6' : Nat), orO o6 x = o6' → o6' < 2 ^ 6 → orep W0 (ost (o1, o2, o3, o4, o5, o6) (wlk e) (mmA e) H (mmH e - mmH m) x) (nI (W0 ||| o1) ||| nI (wlk e)) (nI o2 ||| ((1 : Int32) <<< (nI (mmA e) &&& 31))) (if nI o3 < nI H then nI H else nI o3) (if nI (mmH e - mmH m) < leI o4 then nI (mmH e - mmH m) else leI o4) (if nI o5 < nI (mmH e - mmH m) then nI (mmH e - mmH m) else nI o5) (nI o6') := by
    intro x o6' hx h6
    refine ⟨?_, or_lt p2 hwl, ?_, or_lt p4 (Nat.pow_lt_pow_right (by omega) he), hhap, ?_, hle', hle2, hmos, ?_, nI_cong hx.symm, ?_⟩
    · rw [fa_or, Nat.or_assoc]
      rfl
    · rw [one_shl (by omega), fa_or]
      rfl
    · show (if o3 < H then H else o3) ≤ 6
      split <;> omega
    · show (if o5 < _ then _ else o5) ≤ 270
      split <;> omega
    · show orO o6 x < 2 ^ 6
      rw [hx]
      exact h6
  unfold fX4_take
  cases hd : atDoor c e with
  | false =>
    obtain ⟨u2, k1, k2⟩ := takeBest_ok (N := N) (d := 1) (f := mmF e - mmF m) (h := mmH e - mmH m) hn (by omega) (by omega) (by omega) ht hb
    rw [if_pos (show bI false = 0 from rfl)]
    unfold fX4_take_b37
    rw [pk_sub hF, pk_sub hH, show (0 : Int32) = nI (1 - 1) from rfl, k1, Option.bind_some, l1, Option.bind_some, walked_c hT hK, Option.bind_some, if_pos (show bI false = nI (1 - 1) from rfl)]
    exact ⟨_, rfl, rfl, k2, l2, main none o6 rfl p12⟩
  | true =>
    obtain ⟨u2, k1, k2⟩ := takeBest_ok (N := N) (d := 0) (f := mmF e - mmF m) (h := mmH e - mmH m) hn (by omega) (by omega) (by omega) ht hb
    rw [if_neg (show ¬ bI true = 0 by decide)]
    unfold fX4_take_b37
    rw [pk_sub hF, pk_sub hH, show (1 : Int32) = nI (1 - 0) from rfl, k1, Option.bind_some, l1, Option.bind_some, walked_c hT hK, Option.bind_some, if_neg (show ¬ bI true = 0 by decide)]
    by_cases q : n = 0
    · subst q
      rw [if_pos (show nI 0 ≤ 0 by decide)]
      exact ⟨_, rfl, rfl, k2, l2, main none o6 rfl p12⟩
    · rw [if_neg (nI_nle (by omega) (by omega)), ← show (1 : Int32) = nI (1 - 0) from rfl, show nI n - (1 : Int32) = nI (n - 1) from pk_sub (a := n) (b := 1) (by omega), gi_ok (by omega) (by omega), cl (by omega), hle (n - 1) (by omega)]
      have h6 := hw (n - 1) (by omega)
      rw [one_shl (k := w (n - 1)) (by omega), fa_or o6]
      refine ⟨_, rfl, rfl, k2, l2, ?_⟩
      rw [if_pos ⟨rfl, by omega⟩]
      exact main (some (w (n - 1))) _ rfl (or_lt p12 (Nat.pow_lt_pow_right (by omega) h6))
