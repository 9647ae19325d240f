/-! OUTLOOK: all ROWS are walked, one behind another -/
abbrev rr (c : MC) (n : Nat) (m : MM) (t : Nat → Nat) : (Nat → Nat) × MM × (Nat → Nat) × Nat := runS c n n 0 t m (fun _ => 0) 0
def rowsL (n : Nat) : Nat → (Nat → Nat) → List (Nat → Nat)
  | 0, _ => []
  | k + 1, t => t :: (match nxN t n with
    | none => []
    | some t' => rowsL n k t')
def b1 (c : MC) (n : Nat) (m : MM) (b : RB) (t : Nat → Nat) : RB := bst b (if atDoor c (rr c n m t).2.1 = true then 0 else 1) (mmF (rr c n m t).2.1 - mmF m) (mmH (rr c n m t).2.1 - mmH m) t
def l1 (c : MC) (n : Nat) (m : MM) (b : RLg) (t : Nat → Nat) : RLg := lst b (pop (wlk (rr c n m t).2.1) 12) t
def o1 (c : MC) (n : Nat) (m : MM) (o : RO) (t : Nat → Nat) : RO := ost o (wlk (rr c n m t).2.1) (mmA (rr c n m t).2.1) (rr c n m t).2.2.2 (mmH (rr c n m t).2.1 - mmH m) (if atDoor c (rr c n m t).2.1 = true ∧ 0 < n then some ((rr c n m t).1 (n - 1)) else none)
theorem runS_lt {c : MC} {n b : Nat} : ∀ (j k : Nat) (w : Nat → Nat) (m : MM) (th : Nat → Nat) (ho : Nat), (∀ i, i < n → w i < b) → ∀ i, i < n → (runS c n j k w m th ho).1 i < b
  | 0, _, _, _, _, _, h => h
  | j + 1, k, w, m, th, ho, h => by
    unfold runS
    refine runS_lt j (k + 1) _ _ _ _ (fun i hi => ?_)
    unfold wn
    split
    · unfold rvN
      split
      · exact h _ (by omega)
      · exact h i hi
    · exact h i hi
theorem nx_good {c : MC} {n : Nat} {t t' : Nat → Nat} {m : MM} (h : nxN t n = some t') (hg : good c n 0 t m) : good c n 0 t' m := by
  obtain ⟨s, s1, s2, rfl⟩ := nx_perm h
  exact ⟨fun i _ hi => hg.1 _ (Nat.zero_le _) (s1 i hi), fun i j _ _ hi hj e => s2 i j hi hj (hg.2 _ _ (Nat.zero_le _) (Nat.zero_le _) (s1 i hi) (s1 j hj) e)⟩
/-- what a ROW's end is like -/
theorem rr_ok {c : MC} {n : Nat} {m : MM} {t : Nat → Nat} (hn : n ≤ 6) (hc : wfC c) (hm : wfM c m) (hg : good c n 0 t m) :
    wfM c (rr c n m t).2.1 ∧ mmA (rr c n m t).2.1 < 8 ∧ mmH m ≤ mmH (rr c n m t).2.1 ∧ mmF m ≤ mmF (rr c n m t).2.1 ∧ mmH (rr c n m t).2.1 ≤ 270 ∧ mmF (rr c n m t).2.1 ≤ 6 ∧ (rr c n m t).2.2.2 ≤ 6 ∧ (∀ i, i < n → (rr c n m t).1 i < 6) ∧ mmS (rr c n m t).2.1 = mmS m := by
  obtain ⟨r1, r2, r3, r4, r5, r6⟩ := runS_wf (c := c) (n := n) hc n 0 t m (fun _ => 0) 0 (by omega) hm hg
  have hp := pop_le (mmL (rr c n m t).2.1) 6
  have h1 := r1.1
  have h2 := r1.2.2.2.2.2.1
  have h3 := r1.2.2.2.2.2.2
  have hC := hc.1
  have hL := hc.2.2.1
  refine ⟨r1, ?_, r5, r6, ?_, ?_, ?_, ?_, r4⟩
  · show mmA (runS c n n 0 t m (fun _ => 0) 0).2.1 < 8
    omega
  · show mmH (runS c n n 0 t m (fun _ => 0) 0).2.1 ≤ 270
    have hp : pop (mmL (runS c n n 0 t m (fun _ => 0) 0).2.1) 6 ≤ 6 := hp
    omega
  · show mmF (runS c n n 0 t m (fun _ => 0) 0).2.1 ≤ 6
    have hp : pop (mmL (runS c n n 0 t m (fun _ => 0) 0).2.1) 6 ≤ 6 := hp
    omega
  · show (runS c n n 0 t m (fun _ => 0) 0).2.2.2 ≤ 6
    omega
  · exact runS_lt n 0 t m _ 0 (fun i hi => by have := (hg.1 i (Nat.zero_le _) hi).1; omega)
section LO
variable {N n : Nat} {c : MC} {m : MM} {cor str lea : Int32} {fi se ho hoM fe : Nat → Int32} {far : Nat → Nat → Int32} {z1 z2 z3 z4 z5 z6 : Int32}
theorem look_loop (hN : 1000 ≤ N) (hn : n ≤ 6) (hc : wfC c) (hcc : CCity c cor str lea fi se ho hoM fe far) (hm : wfM c m) (hmm : CMarch m z1 z2 z3 z4 z5 z6) : ∀ (k i fu : Nat) (t : Nat → Nat) (b : RB) (l : RLg) (o : RO) (row_size : Int32) (homes : Int32) (told : Nat → Int32) (leading : Nat → Int32) (ended : Nat → Int32) (q1 : Int32) (q2 : Int32) (q3 : Int32) (q4 : Int32) (q5 : Int32) (q6 : Int32) (fresh : Int32) (size : Int32) (door : Int32) (fines : Int32) (hours : Int32) (lw : Int32) (walked : Int32) (ends9 : Int32) (happy : Int32) (least : Int32) (most : Int32) (hides : Int32) (best : Nat → Int32) (longest : Nat → Int32), i + k = 720 → k < fu → ends n k t = true → (∀ x, t x < 2 ^ 31) → good c n 0 t m → row_size = nI n → holds n t told → brep n b door fines hours best → lrep n l lw longest → orep (wlk m) o walked ends9 happy least most hides →
    ∃ (x1 : Int32) (x2 : Int32) (x3 : Nat → Int32) (x4 : Nat → Int32) (x5 : Nat → Int32) (x6 : Int32) (x7 : Int32) (x8 : Int32) (x9 : Int32) (x10 : Int32) (x11 : Int32) (yd : Int32) (yf : Int32) (yh : Int32) (ylw : Int32) (yw : Int32) (ye : Int32) (yhp : Int32) (yle : Int32) (ymo : Int32) (yhi : Int32) (ybest : Nat → Int32) (ylong : Nat → Int32), fX9_lookOut_b39 N cor str lea fi se ho hoM fe far z1 z2 z3 z4 z5 z6 fu row_size homes told leading ended q1 q2 q3 q4 q5 q6 fresh size door fines hours lw walked ends9 happy least most hides best longest (nI i) = some (x1, x2, x3, x4, x5, x6, x7, x8, x9, x10, x11, (1 : Int32), nI n, yd, yf, yh, ylw, yw, ye, yhp, yle, ymo, yhi, ybest, ylong) ∧ brep n ((rowsL n k t).foldl (b1 c n m) b) yd yf yh ybest ∧ lrep n ((rowsL n k t).foldl (l1 c n m) l) ylw ylong ∧ ∃ e0, orep (wlk m) ((rowsL n k t).foldl (o1 c n m) o) yw e0 yhp yle ymo yhi ∧ ye = if mcC c = 0 then 0 else e0 := by
  intro k
  induction k with
  | zero => intro i fu t b l o row_size homes told leading ended q1 q2 q3 q4 q5 q6 fresh size door fines hours lw walked ends9 happy least most hides best longest h1 h2 h3; simp [ends] at h3
  | succ k ih =>
    intro i fu t b l o row_size homes told leading ended q1 q2 q3 q4 q5 q6 fresh size door fines hours lw walked ends9 happy least most hides best longest h1 h2 h3 ht31 hg hsz hto hb hl hor
    obtain ⟨fu, rfl⟩ : ∃ j, fu = j + 1 := ⟨fu - 1, by omega⟩
    subst hsz
    obtain ⟨r1, r2, r3, r4, r5, r6, r7, r8, r9⟩ := rr_ok hn hc hm hg
    obtain ⟨ld', en', T', w1, w2, w3, w4⟩ := walk_ok (N := N) (by omega) hn hc hcc hm hg hmm hto (y0 := homes) (y1 := q1) (y2 := q2) (y3 := q3) (y4 := q4) (y5 := q5) (y6 := q6) (ld := leading) (en := ended)
    have hmm2 := hmm
    obtain ⟨rfl, rfl, rfl, rfl, rfl, T, rfl, hT⟩ := hmm
    obtain ⟨rfl, rfl, rfl, hcc4⟩ := hcc
    have hwl := wlk_lt (mmK m) 12
    obtain ⟨u7, k1, k2, k3, k4, k5⟩ := take_ok (N := N) (m := m) (e := (rr c n m t).2.1) (T := T') (H := (rr c n m t).2.2.2) (w := (rr c n m t).1) (t := t) (s0 := size) (c := c) hn r2 r3 r4 r5 (runS_hours hc n 0 t m _ 0) r6 r7 w2 r1.2.2.2.1 r8 w3 hto hb hl hor hwl
    obtain ⟨rn, bn, n1, n2⟩ := next_c (N := N) (by omega) hn ht31 hto
    rw [fX9_lookOut_b39, if_neg (by rw [show (720 : Int32) = nI 720 from rfl]; exact dj (by omega) (by omega)), w1, Option.bind_some]
    dsimp only
    rw [isHome_ok (e := (rr c n m t).2.1) hc r2, Option.bind_some]
    rw [show fX4_take N size door fines hours lw walked ends9 happy least most hides best longest (nI n) _ told ld' _ _ _ _ _ _ _ = some u7 from k1, Option.bind_some, n1, Option.bind_some]
    obtain ⟨v1, v2, v3, v4, v5, v6, v7, v8, v9, v10, v11, v12, v13⟩ := u7
    dsimp only at k2 k3 k4 k5 ⊢
    subst k2
    unfold ends at h3
    rcases n2 with ⟨e1, rfl, rfl⟩ | ⟨t', e1, rfl, hto'⟩
    · rw [if_pos rfl]
      unfold fX9_lookOut_b106 fX9_lookOut_b124
      have er : rowsL n (k + 1) t = [t] := by unfold rowsL; rw [e1]
      rw [er]
      by_cases q : mcC c = 0
      · rw [if_pos (by rw [q]; rfl)]
        exact ⟨_, _, _, _, _, _, _, _, _, _, _, _, _, _, _, _, _, _, _, _, _, _, _, rfl, k3, k4, _, k5, by rw [if_pos q]⟩
      · rw [if_neg (nI_ne0 (by omega) (by have := hc.1; omega))]
        exact ⟨_, _, _, _, _, _, _, _, _, _, _, _, _, _, _, _, _, _, _, _, _, _, _, rfl, k3, k4, _, k5, by rw [if_neg q]⟩
    · rw [if_neg (by decide), nI_1]
      rw [e1] at h3
      have er : rowsL n (k + 1) t = t :: rowsL n k t' := by rw [rowsL, e1]
      rw [er]
      exact ih (i + 1) fu t' _ _ _ _ _ _ _ _ _ _ _ _ _ _ _ _ _ _ _ _ _ _ _ _ _ _ _ _ (by omega) (by omega) h3 (nx_lt e1 ht31) (nx_good e1 hg) rfl hto' k3 k4 k5
end LO
