/-! a world as a list of blocks: a block is a cell, or a family of cells -/
def wset {α : Type} : List α → List Nat → List α → List α
  | ws, i :: is, x :: xs => wset (ws.set i x) is xs
  | ws, _, _ => ws
theorem wset_all {α : Type} {Pp : α → Prop} : ∀ (is : List Nat) (xs ws : List α), is.length = xs.length → (∀ x ∈ xs, Pp x) → (∀ (k : Nat) (b : α), ws[k]? = some b → k ∉ is → Pp b) → ∀ b ∈ wset ws is xs, Pp b
  | [], [], ws, _, _, hk, b, hb => by
    obtain ⟨k, hk2⟩ := List.getElem?_of_mem hb
    exact hk k b hk2 (fun z => by cases z)
  | i :: is, x :: xs, ws, hl, hx, hk, b, hb => by
    refine wset_all is xs (ws.set i x) (by simpa using hl) (fun y hy => hx y (List.mem_cons_of_mem _ hy)) (fun k q h hn => ?_) b hb
    by_cases e : k = i
    · subst e
      have hlt : k < ws.length := by
        have := (List.getElem?_eq_some_iff.mp h).1
        simpa using this
      rw [List.getElem?_set_self hlt] at h
      cases h
      exact hx x List.mem_cons_self
    · rw [List.getElem?_set_ne (Ne.symm e)] at h
      exact hk k q h (fun z => by
        rcases List.mem_cons.mp z with z | z
        · exact e z
        · exact hn z)
theorem wset_map {α β : Type} (f : α → β) : ∀ (is : List Nat) (xs ws : List α), is.map (fun i => (ws[i]?).map f) = xs.map (fun x => some (f x)) → (wset ws is xs).map f = ws.map f
  | [], [], ws, _ => rfl
  | i :: is, x :: xs, ws, hl => by
    show (wset (ws.set i x) is xs).map f = ws.map f
    have h0 : (ws[i]?).map f = some (f x) := (List.cons.inj hl).1
    obtain ⟨q, hq, hqx⟩ : ∃ q, ws[i]? = some q ∧ f q = f x := by
      cases e : ws[i]? with
      | none => rw [e] at h0; cases h0
      | some q => rw [e] at h0; exact ⟨q, rfl, Option.some.inj h0⟩
    have hset : (ws.set i x).map f = ws.map f := by
      apply List.ext_getElem?
      intro j
      by_cases e : j = i
      · subst e
        rw [List.getElem?_map, List.getElem?_map, List.getElem?_set_self (List.getElem?_eq_some_iff.mp hq).1, hq]
        simp [hqx]
      · rw [List.getElem?_map, List.getElem?_map, List.getElem?_set_ne (Ne.symm e)]
    rw [wset_map f is xs (ws.set i x) ?_, hset]
    rw [← (List.cons.inj hl).2]
    apply List.map_congr_left
    intro j _
    have := congrArg (fun l => l[j]?) hset
    simp only [List.getElem?_map] at this
    exact this
theorem va_P.of {D : va_G} {cl : List vw_C} {ws : va_W} {H : Heap} (h : ∀ q ∈ ws, va_at D cl q H) : va_P D cl ws H := fun _ q hk => h q (List.mem_of_getElem? hk)
theorem va_P.all {D : va_G} {cl : List vw_C} {ws : va_W} {H : Heap} (h : va_P D cl ws H) : ∀ q ∈ ws, va_at D cl q H := fun q hq => by
  obtain ⟨k, hk⟩ := List.getElem?_of_mem hq
  exact h k q hk
theorem va_D_iff {A : Nat → Prop} {ws : va_W} : va_D A ws ↔ (ws.map Prod.fst).Pairwise (fun a b => a ≠ b) ∧ ∀ a ∈ ws.map Prod.fst, A a := by
  constructor
  · intro h
    refine ⟨List.pairwise_iff_getElem.mpr (fun i j hi hj hij e => ?_), fun a ha => ?_⟩
    · rw [List.getElem_map, List.getElem_map] at e
      have := h.1 i j _ _ (List.getElem?_eq_getElem (by simpa using hi)) (List.getElem?_eq_getElem (by simpa using hj)) e
      omega
    · obtain ⟨q, hq, rfl⟩ := List.mem_map.mp ha
      obtain ⟨k, hk⟩ := List.getElem?_of_mem hq
      exact h.2 k q hk
  · intro h
    refine ⟨fun i j p q hp hq e => ?_, fun k q hk => h.2 _ (List.mem_map.mpr ⟨q, List.mem_of_getElem? hk, rfl⟩)⟩
    have hp2 := List.getElem?_eq_some_iff.mp hp
    have hq2 := List.getElem?_eq_some_iff.mp hq
    obtain ⟨h1, e1⟩ := hp2
    obtain ⟨h2, e2⟩ := hq2
    have key := List.pairwise_iff_getElem.mp h.1
    rcases Nat.lt_trichotomy i j with g | g | g
    · have := key i j (by simpa using h1) (by simpa using h2) g
      rw [List.getElem_map, List.getElem_map, e1, e2] at this
      exact absurd e this
    · exact g
    · have := key j i (by simpa using h2) (by simpa using h1) g
      rw [List.getElem_map, List.getElem_map, e1, e2] at this
      exact absurd e.symm this
/-- the addresses of a world, block by block -/
def adr (bs : List va_W) : List (List Nat) := bs.map (fun b => b.map Prod.fst)
theorem adr_flat (bs : List va_W) : bs.flatten.map Prod.fst = (adr bs).flatten := by
  unfold adr
  rw [List.map_flatten]
theorem gD_of {A : Nat → Prop} {bs bs' : List va_W} (h : va_D A bs.flatten) (e : adr bs' = adr bs) : va_D A bs'.flatten := by
  rw [va_D_iff] at h ⊢
  rw [adr_flat] at h ⊢
  rw [e]
  exact h
/-- blocks at different places have different addresses -/
theorem gD_ne {A : Nat → Prop} {bs : List va_W} (h : va_D A bs.flatten) {i j : Nat} {b1 b2 : va_W} (h1 : bs[i]? = some b1) (h2 : bs[j]? = some b2) (hij : i ≠ j) {q1 q2 : Nat × va_E} (g1 : q1 ∈ b1) (g2 : q2 ∈ b2) : q1.1 ≠ q2.1 := by
  rw [va_D_iff, adr_flat] at h
  have hp := (List.pairwise_flatten.mp h.1).2
  have key := List.pairwise_iff_getElem.mp hp
  obtain ⟨l1, e1⟩ := List.getElem?_eq_some_iff.mp h1
  obtain ⟨l2, e2⟩ := List.getElem?_eq_some_iff.mp h2
  rcases Nat.lt_or_gt_of_ne hij with g | g
  · have := key i j (by simpa [adr] using l1) (by simpa [adr] using l2) g q1.1 (by simp only [adr, List.getElem_map, e1]; exact List.mem_map.mpr ⟨q1, g1, rfl⟩) q2.1 (by simp only [adr, List.getElem_map, e2]; exact List.mem_map.mpr ⟨q2, g2, rfl⟩)
    exact this
  · have := key j i (by simpa [adr] using l2) (by simpa [adr] using l1) g q2.1 (by simp only [adr, List.getElem_map, e2]; exact List.mem_map.mpr ⟨q2, g2, rfl⟩) q1.1 (by simp only [adr, List.getElem_map, e1]; exact List.mem_map.mpr ⟨q1, g1, rfl⟩)
    exact fun e => this e.symm
theorem blk_in {bs bc : List va_W} {is : List Nat} (hC : is.map (fun i => bs[i]?) = bc.map some) {k : Nat} {b : va_W} (h : bc[k]? = some b) : ∃ i, is[k]? = some i ∧ bs[i]? = some b := by
  have h1 : (is.map (fun i => bs[i]?))[k]? = some (some b) := by rw [hC, List.getElem?_map, h]; rfl
  rw [List.getElem?_map] at h1
  cases hi : is[k]? with
  | none => rw [hi] at h1; cases h1
  | some i => rw [hi] at h1; exact ⟨i, rfl, Option.some.inj h1⟩
theorem gD_sub {A : Nat → Prop} {bs bc : List va_W} (h : va_D A bs.flatten) (is : List Nat) (hn : va_nd is = true) (hC : is.map (fun i => bs[i]?) = bc.map some) : va_D A bc.flatten := by
  have h' := h
  rw [va_D_iff, adr_flat] at h ⊢
  have hp := List.pairwise_flatten.mp h.1
  refine ⟨List.pairwise_flatten.mpr ⟨fun l hl => ?_, List.pairwise_iff_getElem.mpr (fun i j hi hj hij x hx y hy => ?_)⟩, fun a ha => ?_⟩
  · obtain ⟨b, hb, rfl⟩ := List.mem_map.mp hl
    obtain ⟨k, hk⟩ := List.getElem?_of_mem hb
    obtain ⟨i, -, hi⟩ := blk_in hC hk
    exact hp.1 _ (List.mem_map.mpr ⟨b, List.mem_of_getElem? hi, rfl⟩)
  · simp only [adr, List.getElem_map, List.length_map] at hi hj hx hy
    obtain ⟨q1, g1, rfl⟩ := List.mem_map.mp hx
    obtain ⟨q2, g2, rfl⟩ := List.mem_map.mp hy
    obtain ⟨a, ha, hba⟩ := blk_in hC (List.getElem?_eq_getElem hi)
    obtain ⟨b, hb, hbb⟩ := blk_in hC (List.getElem?_eq_getElem hj)
    refine gD_ne h' hba hbb (fun e => ?_) g1 g2
    subst e
    have := va_nd_inj is hn i j a ha hb
    omega
  · obtain ⟨l, hl, hal⟩ := List.mem_flatten.mp ha
    obtain ⟨b, hb, rfl⟩ := List.mem_map.mp hl
    obtain ⟨k, hk⟩ := List.getElem?_of_mem hb
    obtain ⟨i, -, hi⟩ := blk_in hC hk
    exact h.2 a (List.mem_flatten.mpr ⟨_, List.mem_map.mpr ⟨b, List.mem_of_getElem? hi, rfl⟩, hal⟩)
/-- a cell of a block, in the world laid flat -/
theorem blkj : ∀ (bs : List va_W) (k j : Nat) (B : va_W) (x : Nat × va_E), bs[k]? = some B → B[j]? = some x → bs.flatten[(bs.take k).flatten.length + j]? = some x ∧ ∀ x', bs.flatten.set ((bs.take k).flatten.length + j) x' = (bs.set k (B.set j x')).flatten
  | [], k, j, B, x, h, _ => by simp at h
  | b :: bs, 0, j, B, x, h, hx => by
    simp at h
    subst h
    have hl := (List.getElem?_eq_some_iff.mp hx).1
    refine ⟨?_, fun x' => ?_⟩
    · simp only [List.take_zero, List.flatten_nil, List.length_nil, Nat.zero_add, List.flatten_cons]
      rw [List.getElem?_append_left hl]
      exact hx
    · simp only [List.take_zero, List.flatten_nil, List.length_nil, Nat.zero_add, List.flatten_cons, List.set_cons_zero]
      rw [List.set_append_left _ _ hl]
  | b :: bs, k + 1, j, B, x, h, hx => by
    simp at h
    obtain ⟨h1, h2⟩ := blkj bs k j B x h hx
    refine ⟨?_, fun x' => ?_⟩
    · simp only [List.take_succ_cons, List.flatten_cons, List.length_append]
      rw [List.getElem?_append_right (by omega), show b.length + (bs.take k).flatten.length + j - b.length = (bs.take k).flatten.length + j by omega]
      exact h1
    · simp only [List.take_succ_cons, List.flatten_cons, List.length_append, List.set_cons_succ]
      rw [List.set_append_right _ _ (by omega), show b.length + (bs.take k).flatten.length + j - b.length = (bs.take k).flatten.length + j by omega, h2]
theorem blk1 {bs : List va_W} {k : Nat} {x : Nat × va_E} (h : bs[k]? = some [x]) : ∃ q, bs.flatten[q]? = some x ∧ ∀ x', bs.flatten.set q x' = (bs.set k [x']).flatten := by
  obtain ⟨h1, h2⟩ := blkj bs k 0 [x] x h rfl
  exact ⟨_, h1, fun x' => h2 x'⟩
theorem blk_lt : ∀ (bs : List va_W) (k1 k2 j1 j2 : Nat) (B1 : va_W), bs[k1]? = some B1 → j1 < B1.length → k1 < k2 → k2 < bs.length → (bs.take k1).flatten.length + j1 < (bs.take k2).flatten.length + j2
  | [], k1, k2, j1, j2, B1, h, _, _, _ => by simp at h
  | b :: bs, 0, k2 + 1, j1, j2, B1, h, hj, _, _ => by
    simp at h
    subst h
    simp only [List.take_zero, List.flatten_nil, List.length_nil, Nat.zero_add, List.take_succ_cons, List.flatten_cons, List.length_append]
    omega
  | b :: bs, k1 + 1, k2 + 1, j1, j2, B1, h, hj, hk, hl => by
    simp at h
    have := blk_lt bs k1 k2 j1 j2 B1 h hj (by omega) (by simpa using hl)
    simp only [List.take_succ_cons, List.flatten_cons, List.length_append]
    omega
/-- a method's start: its world, nothing else asked -/
def gP (D : va_G) (tys : List (ClassId × FieldType)) (ws : List va_W) (sz : Nat) : State → Prop := fun U => U.heap.size = sz ∧ va_P D vwCl ws.flatten U.heap ∧ va_K D vwCl tys U ∧ va_D (fun _ => True) ws.flatten
/-- its end: what the pure function F says -/
def gQ {R : Type} (F : Option R) (v : R → Option Value) (w : R → List va_W) (D : va_G) (A : Nat → Prop) : Array Value → State → Outcome → State → Prop := fun _ st oc t => (∃ u, F = some u ∧ oc = .returned (v u) ∧ va_P D vwCl (w u).flatten t.heap) ∧ va_F A st t
def gM {R : Type} (l : Launch) (y : MethodName) (wsy : List Cond) (rm : Room) (D : va_G) (tys : List (ClassId × FieldType)) (wc : List va_W) (av : List Value) (F : Option R) (v : R → Option Value) (w : R → List va_W) : Prop :=
  F ≠ none → ∀ sz : Nat, Met l y wsy rm (va_Pc av (gP D tys wc sz)) (gQ F v w D (va_A wc.flatten sz)) 0 0 (va_A wc.flatten sz)
/-- where a walk stands in the heap -/
def gw (D : va_G) (A : Nat → Prop) (H0 : Heap) (ws : List va_W) (H : Heap) (locs : List Loc) : Prop := va_P D vwCl ws.flatten H ∧ va_D A ws.flatten ∧ va_S A H0 H locs
theorem g_blind {av : List Value} {D : va_G} {tys : List (ClassId × FieldType)} {ws : List va_W} {sz : Nat} : FrameBlind (va_Pc av (gP D tys ws sz)) := fun a U g mk q => by
  obtain ⟨q0, q1, qP, qK, qD⟩ := q
  exact ⟨q0, q1, qP, va_K.moved (u := U) (U := U.calling g mk a) (Vm.Alike.refl U.vm) qK, qD⟩
section GK
variable {p : Program} {l : Launch} {e : Env} {Rm : Room} {s : State} {m : MethodId} {args : Array Value} {below : List Frame} {meth : Method} {c : Code} {H : Heap} {locs : List Loc} {cells slots : Nat} {Q : State → Prop}
variable {cc : ByteArray} {pc nL : Nat} {ls : Array Slot} {rest st0 st1 : List Value} {D : va_G} {A : Nat → Prop} {a : Nat} {tys : List (ClassId × FieldType)} {ws ws' : List va_W} {H0 : Heap} {Ts : List Cond} {own : String}
theorem g_start {R : Type} {y : MethodName} {wsy ws0 : List Cond} {rm : Room} {wc : List va_W} {av : List Value} {F : Option R} {v : R → Option Value} {w : R → List va_W} {maxL : Nat} {ret : Option FieldType} (hy : plainName y.cls = true) (hw : wsy = Cond.code y cc maxL ret :: ws0) (hlen : (lg_sl av).length ≤ maxL)
    (body : ∀ F1 : Option R, F1 = F → F1 ≠ none → ∀ (p : Program) (e : Env) (s : State) (m : MethodId) (below : List Frame) (meth : Method) (c : Code) (A : Nat → Prop) (ls : Array Slot), CallFix p m c cc maxL s av.toArray wsy y.cls → va_K D vwCl tys s → (∀ q : Nat, s.heap.size ≤ q → A q) → gw D A s.heap wc s.heap [] → meth.sig.returnType = ret → meth.locks = false → meth.name = y.name → lv_has ls maxL (lv_args 0 av) →
      W p l e rm s m av.toArray below meth c s.heap [] 0 0 (MQ below (gQ F1 v w D A) av.toArray s 0 0 A) (F0 m 0 ls [])) : gM l y wsy rm D tys wc av F v w := by
  intro hF sz
  refine Met.ofW (cc := cc) (maxL := maxL) (ret := ret) hy hw ?_
  intro p e s m args below meth c s₁ B hml hv
  obtain ⟨rfl, hsz, hP, hK, hD0⟩ := hv
  subst hsz
  have hts := atoms_spec (ws := wsy) B.pre
  have hl := lv_entry av (n := maxL) hlen
  rw [lg_entry_eq]
  refine body F rfl hF p e s m below meth c (va_A wc.flatten s.heap.size) _ ⟨B.exec, B.bytes, hml, findClass_of_methodNamed B.named, hts⟩ hK (fun q h => Or.inr h) ⟨hP, hD0.self, va_S.rf⟩ B.returns B.notSynchronized (name_of_methodNamed B.named B.method).1 hl
theorem g_iret {R : Type} {F : Option R} {v : R → Option Value} {w : R → List va_W} {x : Int32} (S : CallFix p m c cc nL s args Ts own) (Wd : gw D A s.heap ws H locs) (hr : meth.sig.returnType = some .int) (hlocks : meth.locks = false) (hdg : decode cc pc = .ok (.ireturn, 1)) (u : R) (hF : F = some u) (hv : v u = some (.int x)) (hw : w u = ws) :
    W p l e Rm s m args below meth c H locs cells slots (MQ below (gQ F v w D A) args s cells slots A) (F0 m pc ls [.int x]) := by
  refine W.iret S.1 S.2.1 hr (fun t ht _ => ?_) Wd.2.2.2.2 hdg hlocks
  exact ⟨⟨u, hF, by rw [hv], by rw [ht, hw]; exact Wd.1⟩, Wd.2.2.F ht⟩
theorem g_zret {R : Type} {F : Option R} {v : R → Option Value} {w : R → List va_W} {x : Int32} (S : CallFix p m c cc nL s args Ts own) (Wd : gw D A s.heap ws H locs) (hr : meth.sig.returnType = some .boolean) (hlocks : meth.locks = false) (hn : narrow .boolean (.int x) = .int x) (hdg : decode cc pc = .ok (.ireturn, 1)) (u : R) (hF : F = some u) (hv : v u = some (.int x)) (hw : w u = ws) :
    W p l e Rm s m args below meth c H locs cells slots (MQ below (gQ F v w D A) args s cells slots A) (F0 m pc ls [.int x]) := by
  refine W.zret S.1 S.2.1 hr hn (fun t ht _ => ?_) Wd.2.2.2.2 hdg hlocks
  exact ⟨⟨u, hF, by rw [hv], by rw [ht, hw]; exact Wd.1⟩, Wd.2.2.F ht⟩
theorem g_lret {R : Type} {F : Option R} {v : R → Option Value} {w : R → List va_W} {x : Int64} (S : CallFix p m c cc nL s args Ts own) (Wd : gw D A s.heap ws H locs) (hr : meth.sig.returnType = some .long) (hlocks : meth.locks = false) (hdg : decode cc pc = .ok (.lreturn, 1)) (u : R) (hF : F = some u) (hv : v u = some (.long x)) (hw : w u = ws) :
    W p l e Rm s m args below meth c H locs cells slots (MQ below (gQ F v w D A) args s cells slots A) (F0 m pc ls [.long x]) := by
  refine W.lret S.1 S.2.1 hr (fun t ht _ => ?_) Wd.2.2.2.2 hdg hlocks
  exact ⟨⟨u, hF, by rw [hv], by rw [ht, hw]; exact Wd.1⟩, Wd.2.2.F ht⟩
theorem g_vret {R : Type} {F : Option R} {v : R → Option Value} {w : R → List va_W} (S : CallFix p m c cc nL s args Ts own) (Wd : gw D A s.heap ws H locs) (hr : meth.sig.returnType = none) (hlocks : meth.locks = false) (hdg : decode cc pc = .ok (.return_, 1)) (u : R) (hF : F = some u) (hv : v u = none) (hw : w u = ws) :
    W p l e Rm s m args below meth c H locs cells slots (MQ below (gQ F v w D A) args s cells slots A) (F0 m pc ls []) := by
  refine W.vret S.1 S.2.1 hr (fun t ht _ => ?_) Wd.2.2.2.2 hdg hlocks
  exact ⟨⟨u, hF, by rw [hv], by rw [ht, hw]; exact Wd.1⟩, Wd.2.2.F ht⟩
/-- behind a call: what the callee had, and the rest as it was -/
theorem g_call {R : Type} {F : Option R} {v : R → Option Value} {w : R → List va_W} {wc : List va_W} {av : Array Value} (hr : va_Run p l e Rm s m args below meth c H locs cells slots 0 0 (F0 m pc ls st0) rest (gQ F v w D (va_A wc.flatten H.size) av) (va_A wc.flatten H.size)) (hA : ∀ q : Nat, s.heap.size ≤ q → A q) (Wd : gw D A s.heap ws H locs)
    (hsub : ∀ q ∈ wc.flatten, q ∈ ws.flatten) {u : R} (hu : F = some u) (hadr : adr ws' = adr ws) (hnew : ∀ q ∈ ws'.flatten, q ∈ (w u).flatten ∨ (q ∈ ws.flatten ∧ ∀ x ∈ wc.flatten, x.1 ≠ q.1)) (hst : (v u).toList ++ rest = st1)
    (kk : ∀ (H1 : Heap) (locs1 : List Loc), gw D A s.heap ws' H1 locs1 → W p l e Rm s m args below meth c H1 locs1 cells slots Q (F0 m (pc + 3) ls st1)) : W p l e Rm s m args below meth c H locs cells slots Q (F0 m pc ls st0) := by
  obtain ⟨hP, hD, hS⟩ := Wd
  have hF : ∀ q, va_A wc.flatten H.size q → A q := by
    intro q h
    rcases h with ⟨k, e, h⟩ | h
    · obtain ⟨k2, h2⟩ := List.getElem?_of_mem (hsub _ (List.mem_of_getElem? h))
      exact hD.2 k2 (q, e) h2
    · exact hA q (Nat.le_trans hS.1 h)
  intro T hT X
  obtain ⟨vv, st₀, t, T', L, h0, X', hL, e1, e2, ⟨⟨u', hu', hv, hp⟩, hz, hk⟩, st⟩ := hr T hT X
  have hvv : vv = v u' := by injection hv
  subst hvv
  cases hu.symm.trans hu'
  rw [h0] at hz hk
  have key : gw D A s.heap ws' T'.heap (locs ++ L) := by
    refine ⟨va_P.of (fun q hq => ?_), gD_of hD hadr, ?_⟩
    · rcases hnew q hq with h | ⟨h, hn⟩
      · rw [e1]
        exact hp.all q h
      · have hq0 := hP.all q h
        refine hq0.kept ?_
        rw [e1]
        refine hk q.1 hq0.lt (fun z => ?_)
        rcases z with ⟨k2, e3, z⟩ | z
        · exact hn (q.1, e3) (List.mem_of_getElem? z) rfl
        · have := hq0.lt
          omega
    · refine ⟨Nat.le_trans hS.1 (by rw [e1]; exact hz), fun q h1 h2 => ?_, fun q hq => ?_⟩
      · rw [e1, hk q (Nat.lt_of_lt_of_le h1 hS.1) (fun z => h2 (hF q z))]
        exact hS.2.1 q h1 h2
      · rcases List.mem_append.mp hq with h | h
        · exact hS.2.2 q h
        · exact hF _ (hL q h)
  subst hst
  obtain ⟨t2, a1, b1⟩ := kk T'.heap (locs ++ L) key T' rfl X'
  exact ⟨t2, st t2 a1, b1⟩
/-- a callee's blocks among the caller's, by their places: the four things that a call asks -/
theorem g_part {A : Nat → Prop} {ws wc w1 : List va_W} (hD : va_D A ws.flatten) (is : List Nat) (hC : is.map (fun i => ws[i]?) = wc.map some) (ha : adr w1 = adr wc) :
    (∀ q ∈ wc.flatten, q ∈ ws.flatten) ∧ adr (wset ws is w1) = adr ws ∧ ∀ q ∈ (wset ws is w1).flatten, q ∈ w1.flatten ∨ (q ∈ ws.flatten ∧ ∀ x ∈ wc.flatten, x.1 ≠ q.1) := by
  have hlen : is.length = w1.length := by
    have h1 := congrArg List.length hC
    have h2 := congrArg List.length ha
    simp only [List.length_map, adr] at h1 h2
    omega
  refine ⟨fun q hq => ?_, ?_, ?_⟩
  · obtain ⟨b, hb, hqb⟩ := List.mem_flatten.mp hq
    obtain ⟨k, hk⟩ := List.getElem?_of_mem hb
    obtain ⟨i, -, hi⟩ := blk_in hC hk
    exact List.mem_flatten.mpr ⟨b, List.mem_of_getElem? hi, hqb⟩
  · refine wset_map (fun b : va_W => b.map Prod.fst) is w1 ws ?_
    have h1 : is.map (fun i => (ws[i]?).map (fun b : va_W => b.map Prod.fst)) = wc.map (fun x => some (x.map Prod.fst)) := by
      have := congrArg (List.map (Option.map (fun b : va_W => b.map Prod.fst))) hC
      simpa [List.map_map, Function.comp_def] using this
    rw [h1]
    have := congrArg (List.map some) ha
    simpa [List.map_map, Function.comp_def, adr] using this.symm
  · have := wset_all (Pp := fun b : va_W => ∀ q ∈ b, q ∈ w1.flatten ∨ (q ∈ ws.flatten ∧ ∀ x ∈ wc.flatten, x.1 ≠ q.1)) is w1 ws hlen (fun b hb q hq => Or.inl (List.mem_flatten.mpr ⟨b, hb, hq⟩)) (fun k b hk hn q hq => Or.inr ⟨List.mem_flatten.mpr ⟨b, List.mem_of_getElem? hk, hq⟩, fun x hx => ?_⟩)
    · intro q hq
      obtain ⟨b, hb, hqb⟩ := List.mem_flatten.mp hq
      exact this b hb q hqb
    · obtain ⟨c, hc, hxc⟩ := List.mem_flatten.mp hx
      obtain ⟨k2, hk2⟩ := List.getElem?_of_mem hc
      obtain ⟨i, hi1, hi2⟩ := blk_in hC hk2
      refine gD_ne hD hi2 hk (fun z => ?_) hxc hq
      subst z
      exact hn (List.mem_of_getElem? hi1)
theorem g_callV {R : Type} {F : Option R} {v : R → Option Value} {w : R → List va_W} {wc : List va_W} {y : MethodName} {bytes : ByteArray} {maxL index n : Nat} {ret : Option FieldType} {wsy : List Cond} {rm : Room} {As : List Value} {b : Nat} {C : String} (S : CallFix p m c cc nL s args Ts own) (hK : va_K D vwCl tys s) (hA : ∀ q : Nat, s.heap.size ≤ q → A q) (Wd : gw D A s.heap ws H locs)
    (hM : gM l y wsy rm D tys wc (.ref b :: As) F v w) (cw : CallW Rm s args own C index y bytes maxL ret wsy rm 0 0 n) {u : R} (hu : F = some u) (is : List Nat) (hnd : va_nd is = true) (hC : is.map (fun i => ws[i]?) = wc.map some) (kr ci : Nat) {fs : List Value} {qc : vw_C} (hb : wc[kr]? = some [(b, .inr (ci, fs))]) (hqc : vwCl[ci]? = some qc) (hqC : qc.1 = C)
    (ha : adr (w u) = adr wc) (hws : wset ws is (w u) = ws') (hst : (v u).toList ++ rest = st1) (hn : As.length = n) (hsize : ls.size = nL) (hst0 : st0 = As.reverse ++ .ref b :: rest) (hW : (rest.map fun v => v.category).sum ≤ 8) (hdg : decode cc pc = .ok (.invokevirtual index, 3)) (hcs : cells ≤ Rm.cells ∧ slots ≤ Rm.slots)
    (kk : ∀ (H1 : Heap) (locs1 : List Loc), gw D A s.heap ws' H1 locs1 → W p l e Rm s m args below meth c H1 locs1 cells slots Q (F0 m (pc + 3) ls st1)) : W p l e Rm s m args below meth c H locs cells slots Q (F0 m pc ls st0) := by
  obtain ⟨hsub, hadr, hnew⟩ := g_part (w1 := w u) Wd.2.1 is hC ha
  have hPc : va_P D vwCl wc.flatten H := va_P.of (fun q h => Wd.1.all q (hsub q h))
  have hDc := gD_sub Wd.2.1 is hnd hC
  subst hws
  refine g_call (va_runV (As := As) (rest := rest) (g := F0 m pc ls st0) S (hM (by rw [hu]; exact fun z => by cases z) H.size) cw ⟨g_blind, ?_, fun U hU hW => ⟨rfl, by rw [hU], by rw [hU]; exact hPc, va_K.moved hW.alike hK, hDc.weaken (fun _ _ _ _ => trivial)⟩⟩ rfl hn hsize hst0 (lv_room hW) hdg ⟨hcs.1, hcs.2⟩) hA Wd hsub hu hadr hnew hst kk
  subst hqC
  obtain ⟨q0, hq0, -⟩ := blk1 hb
  exact va_recv hK hPc hqc hq0
theorem g_callS {R : Type} {F : Option R} {v : R → Option Value} {w : R → List va_W} {wc : List va_W} {y : MethodName} {bytes : ByteArray} {maxL index n : Nat} {ret : Option FieldType} {wsy : List Cond} {rm : Room} {As : List Value} (S : CallFix p m c cc nL s args Ts own) (hK : va_K D vwCl tys s) (hA : ∀ q : Nat, s.heap.size ≤ q → A q) (Wd : gw D A s.heap ws H locs)
    (hM : gM l y wsy rm D tys wc As F v w) (cw : CallB Rm s args own index y bytes maxL ret wsy rm 0 0 n ∧ (Cond.static y).before args s = true) {u : R} (hu : F = some u) (is : List Nat) (hnd : va_nd is = true) (hC : is.map (fun i => ws[i]?) = wc.map some)
    (ha : adr (w u) = adr wc) (hws : wset ws is (w u) = ws') (hst : (v u).toList ++ rest = st1) (hn : As.length = n) (hsize : ls.size = nL) (hst0 : st0 = As.reverse ++ rest) (hW : (rest.map fun v => v.category).sum ≤ 8) (hdg : decode cc pc = .ok (.invokestatic index, 3)) (hcs : cells ≤ Rm.cells ∧ slots ≤ Rm.slots)
    (kk : ∀ (H1 : Heap) (locs1 : List Loc), gw D A s.heap ws' H1 locs1 → W p l e Rm s m args below meth c H1 locs1 cells slots Q (F0 m (pc + 3) ls st1)) : W p l e Rm s m args below meth c H locs cells slots Q (F0 m pc ls st0) := by
  obtain ⟨hsub, hadr, hnew⟩ := g_part (w1 := w u) Wd.2.1 is hC ha
  have hPc : va_P D vwCl wc.flatten H := va_P.of (fun q h => Wd.1.all q (hsub q h))
  have hDc := gD_sub Wd.2.1 is hnd hC
  subst hws
  exact g_call (va_runS (As := As) (rest := rest) (g := F0 m pc ls st0) S (hM (by rw [hu]; exact fun z => by cases z) H.size) cw ⟨g_blind, fun U hU hW => ⟨rfl, by rw [hU], by rw [hU]; exact hPc, va_K.moved hW.alike hK, hDc.weaken (fun _ _ _ _ => trivial)⟩⟩ rfl hn hsize hst0 (lv_room hW) hdg ⟨hcs.1, hcs.2⟩) hA Wd hsub hu hadr hnew hst kk
theorem g_get {C : String} {T : u_T} {N ci index : Nat} (S : CallFix p m c cc nL s args Ts own) (hK : va_K D vwCl tys s) (Wd : gw D A H0 ws H locs) (hin : ∀ w ∈ u_ws C T N, w ∈ Ts) (q0 : Nat) {fs : List Value} (he : ws[q0]? = some [(a, .inr (ci, fs))]) (hc : vwCl[ci]? = some (C, T, N)) (k : Nat) (hk : Nat.blt k N = true) {f1 f2 f3 : String} {fin : Bool} (hT : T k = (f1, f2, f3, fin)) (hlink : Cond.fieldLink own index f1 f2 f3 ∈ Ts) {v : Value} (hv : fs[k]? = some v) (hdg : decode cc pc = .ok (.getfield index, 3))
    (kk : W p l e Rm s m args below meth c H locs cells slots Q (F0 m (pc + 3) ls (v :: rest))) : W p l e Rm s m args below meth c H locs cells slots Q (F0 m pc ls (.ref a :: rest)) := by
  obtain ⟨q1, hq1, -⟩ := blk1 he
  exact va_get (ref := (T k).1) S.1 S.2.1 S.2.2.2.2 hin S.2.2.2.1 hK Wd.1 q1 hq1 hc k (Nat.blt_eq.mp hk) (S.2.2.2.2 _ (by rw [hT]; exact hlink)) (fun _ h9 => h9) hv hdg kk
theorem g_put {C : String} {T : u_T} {N ci index : Nat} (S : CallFix p m c cc nL s args Ts own) (hK : va_K D vwCl tys s) (Wd : gw D A H0 ws H locs) (hin : ∀ w ∈ u_ws C T N, w ∈ Ts) (ty0 : Nat → FieldType) (hty : ∀ k, k < N → parseFieldDescriptor (T k).2.2.1 = some (ty0 k)) (hnm : ∀ a, a < N → ∀ b, b < N → a ≠ b → (T a).2.1 ≠ (T b).2.1) (q0 : Nat) {fs : List Value} (he : ws[q0]? = some [(a, .inr (ci, fs))]) (hc : vwCl[ci]? = some (C, T, N)) (k : Nat) (hk : Nat.blt k N = true) {f1 f2 f3 : String} (hT : T k = (f1, f2, f3, false)) (hlink : Cond.fieldLink own index f1 f2 f3 ∈ Ts) {v : Value} (hn : narrow (ty0 k) v = v) (hfit : fits (ty0 k) v = true) (hl : Nat.blt k fs.length = true)
    (hdg : decode cc pc = .ok (.putfield index, 3)) (hws : ws.set q0 [(a, .inr (ci, fs.set k v))] = ws') (kk : ∀ (H1 : Heap) (locs1 : List Loc), gw D A H0 ws' H1 locs1 → W p l e Rm s m args below meth c H1 locs1 cells slots Q (F0 m (pc + 3) ls rest)) : W p l e Rm s m args below meth c H locs cells slots Q (F0 m pc ls (v :: .ref a :: rest)) := by
  subst hws
  obtain ⟨q1, hq1, hset⟩ := blk1 he
  exact va_put (ref := (T k).1) S.1 S.2.1 S.2.2.2.2 hin ty0 hty hnm S.2.2.2.1 hK Wd.1 Wd.2.1 Wd.2.2 q1 hq1 hc k (Nat.blt_eq.mp hk) (S.2.2.2.2 _ (by rw [hT]; exact hlink)) (fun _ h9 => h9) (by rw [hT]) (hty k (Nat.blt_eq.mp hk)) hn hfit (Nat.blt_eq.mp hl) hdg (fun H1 locs1 h1 h2 h3 => kk H1 locs1 ⟨by rw [← hset]; exact h1, by rw [← hset]; exact h2, h3⟩)
theorem g_iald (S : CallFix p m c cc nL s args Ts own) (hK : va_K D vwCl tys s) (Wd : gw D A H0 ws H locs) (q0 t0 : Nat) {cA : ClassId} {n : Nat} {f : Nat → Int32} (ha : ws[q0]? = some [(a, .inl (cA, n, .inl f))]) (ht : tys[t0]? = some (cA, .int)) {i : Int32} (hin : vp_in i n) (hdg : decode cc pc = .ok (.iaload, 1))
    (kk : W p l e Rm s m args below meth c H locs cells slots Q (F0 m (pc + 1) ls (.int (f i.toNatClampNeg) :: rest))) : W p l e Rm s m args below meth c H locs cells slots Q (F0 m pc ls (.int i :: .ref a :: rest)) := by
  obtain ⟨q1, hq1, -⟩ := blk1 ha
  exact va_iald S.1 S.2.1 hK Wd.1 q1 t0 hq1 ht hin hdg kk
theorem g_bald (S : CallFix p m c cc nL s args Ts own) (hK : va_K D vwCl tys s) (Wd : gw D A H0 ws H locs) (q0 t0 : Nat) {cA : ClassId} {n : Nat} {f : Nat → Int32} (ha : ws[q0]? = some [(a, .inl (cA, n, .inl f))]) (ht : tys[t0]? = some (cA, .byte)) {i : Int32} (hin : vp_in i n) (hdg : decode cc pc = .ok (.baload, 1))
    (kk : W p l e Rm s m args below meth c H locs cells slots Q (F0 m (pc + 1) ls (.int (f i.toNatClampNeg) :: rest))) : W p l e Rm s m args below meth c H locs cells slots Q (F0 m pc ls (.int i :: .ref a :: rest)) := by
  obtain ⟨q1, hq1, -⟩ := blk1 ha
  exact va_bald S.1 S.2.1 hK Wd.1 q1 t0 hq1 ht hin hdg kk
theorem g_zald (S : CallFix p m c cc nL s args Ts own) (hK : va_K D vwCl tys s) (Wd : gw D A H0 ws H locs) (q0 t0 : Nat) {cA : ClassId} {n : Nat} {f : Nat → Int32} (ha : ws[q0]? = some [(a, .inl (cA, n, .inl f))]) (ht : tys[t0]? = some (cA, .boolean)) {i : Int32} (hin : vp_in i n) (hdg : decode cc pc = .ok (.baload, 1))
    (kk : W p l e Rm s m args below meth c H locs cells slots Q (F0 m (pc + 1) ls (.int (f i.toNatClampNeg) :: rest))) : W p l e Rm s m args below meth c H locs cells slots Q (F0 m pc ls (.int i :: .ref a :: rest)) := by
  obtain ⟨q1, hq1, -⟩ := blk1 ha
  exact va_zald S.1 S.2.1 hK Wd.1 q1 t0 hq1 ht hin hdg kk
theorem g_aldq {C : String} (S : CallFix p m c cc nL s args Ts own) (hK : va_K D vwCl tys s) (Wd : gw D A H0 ws H locs) (q0 t0 : Nat) {cA : ClassId} {n : Nat} {f : Nat → Option Nat} (ha : ws[q0]? = some [(a, .inl (cA, n, .inr (.inr (.inr (.inr f)))))]) (ht : tys[t0]? = some (cA, .object C)) {i : Int32} (hin : vp_in i n) {x : Nat} (hx : f i.toNatClampNeg = some x) (hdg : decode cc pc = .ok (.aaload, 1))
    (kk : W p l e Rm s m args below meth c H locs cells slots Q (F0 m (pc + 1) ls (.ref x :: rest))) : W p l e Rm s m args below meth c H locs cells slots Q (F0 m pc ls (.int i :: .ref a :: rest)) := by
  obtain ⟨q1, hq1, -⟩ := blk1 ha
  exact va_aldq S.1 S.2.1 hK Wd.1 q1 t0 hq1 ht hin hdg (by rw [hx]; exact kk)
theorem g_aldA {ty : FieldType} (S : CallFix p m c cc nL s args Ts own) (hK : va_K D vwCl tys s) (Wd : gw D A H0 ws H locs) (q0 t0 : Nat) {cA : ClassId} {n : Nat} {f : Nat → Option Nat} (ha : ws[q0]? = some [(a, .inl (cA, n, .inr (.inr (.inr (.inr f)))))]) (ht : tys[t0]? = some (cA, .array ty)) {i : Int32} (hin : vp_in i n) {x : Nat} (hx : f i.toNatClampNeg = some x) (hdg : decode cc pc = .ok (.aaload, 1))
    (kk : W p l e Rm s m args below meth c H locs cells slots Q (F0 m (pc + 1) ls (.ref x :: rest))) : W p l e Rm s m args below meth c H locs cells slots Q (F0 m pc ls (.int i :: .ref a :: rest)) := by
  obtain ⟨q1, hq1, -⟩ := blk1 ha
  have hlt : i.toNatClampNeg < n := Nat.not_le.mp fun q => hin (Or.inr q)
  refine W.aald (v := va_rf (f i.toNatClampNeg)) (ty := .array ty) S.1 S.2.1 (Wd.1 q1 _ hq1) ((hK.2 t0 _ ht).1 n (fun j => va_rf (f j))) rfl (fun q => by cases q) (by show ¬ (i < 0 ∨ (arrV _ _ _).slots.size ≤ _); rw [arrV_size]; exact hin) (by show (arrV _ _ _).slots[_]? = _; rw [arrV_read _ _ hlt]) rfl rfl hdg ?_
  rw [hx]
  exact kk
theorem g_iast (S : CallFix p m c cc nL s args Ts own) (hK : va_K D vwCl tys s) (Wd : gw D A H0 ws H locs) (q0 t0 : Nat) {cA : ClassId} {n : Nat} {f : Nat → Int32} (ha : ws[q0]? = some [(a, .inl (cA, n, .inl f))]) (ht : tys[t0]? = some (cA, .int)) {i x : Int32} (hin : vp_in i n) (hdg : decode cc pc = .ok (.iastore, 1))
    (hws : ws.set q0 [(a, .inl (cA, n, .inl (upd f i.toNatClampNeg x)))] = ws') (kk : ∀ (H1 : Heap) (locs1 : List Loc), gw D A H0 ws' H1 locs1 → W p l e Rm s m args below meth c H1 locs1 cells slots Q (F0 m (pc + 1) ls rest)) : W p l e Rm s m args below meth c H locs cells slots Q (F0 m pc ls (.int x :: .int i :: .ref a :: rest)) := by
  subst hws
  obtain ⟨q1, hq1, hset⟩ := blk1 ha
  exact va_iast S.1 S.2.1 hK Wd.1 Wd.2.1 Wd.2.2 q1 t0 hq1 ht hin hdg (fun H1 locs1 h1 h2 h3 => kk H1 locs1 ⟨by rw [← hset]; exact h1, by rw [← hset]; exact h2, h3⟩)
theorem g_bast (S : CallFix p m c cc nL s args Ts own) (hK : va_K D vwCl tys s) (Wd : gw D A H0 ws H locs) (q0 t0 : Nat) {cA : ClassId} {n : Nat} {f : Nat → Int32} (ha : ws[q0]? = some [(a, .inl (cA, n, .inl f))]) (ht : tys[t0]? = some (cA, .byte)) {i x : Int32} (hin : vp_in i n) (hdg : decode cc pc = .ok (.bastore, 1))
    (hws : ws.set q0 [(a, .inl (cA, n, .inl (upd f i.toNatClampNeg (vp_nar .byte x))))] = ws') (kk : ∀ (H1 : Heap) (locs1 : List Loc), gw D A H0 ws' H1 locs1 → W p l e Rm s m args below meth c H1 locs1 cells slots Q (F0 m (pc + 1) ls rest)) : W p l e Rm s m args below meth c H locs cells slots Q (F0 m pc ls (.int x :: .int i :: .ref a :: rest)) := by
  subst hws
  obtain ⟨q1, hq1, hset⟩ := blk1 ha
  exact va_bast S.1 S.2.1 hK Wd.1 Wd.2.1 Wd.2.2 q1 t0 hq1 ht hin hdg (fun H1 locs1 h1 h2 h3 => kk H1 locs1 ⟨by rw [← hset]; exact h1, by rw [← hset]; exact h2, h3⟩)
theorem g_zast (S : CallFix p m c cc nL s args Ts own) (hK : va_K D vwCl tys s) (Wd : gw D A H0 ws H locs) (q0 t0 : Nat) {cA : ClassId} {n : Nat} {f : Nat → Int32} (ha : ws[q0]? = some [(a, .inl (cA, n, .inl f))]) (ht : tys[t0]? = some (cA, .boolean)) {i x : Int32} (hin : vp_in i n) (hdg : decode cc pc = .ok (.bastore, 1))
    (hws : ws.set q0 [(a, .inl (cA, n, .inl (upd f i.toNatClampNeg (vp_nar .boolean x))))] = ws') (kk : ∀ (H1 : Heap) (locs1 : List Loc), gw D A H0 ws' H1 locs1 → W p l e Rm s m args below meth c H1 locs1 cells slots Q (F0 m (pc + 1) ls rest)) : W p l e Rm s m args below meth c H locs cells slots Q (F0 m pc ls (.int x :: .int i :: .ref a :: rest)) := by
  subst hws
  obtain ⟨q1, hq1, hset⟩ := blk1 ha
  exact va_zast S.1 S.2.1 hK Wd.1 Wd.2.1 Wd.2.2 q1 t0 hq1 ht hin hdg (fun H1 locs1 h1 h2 h3 => kk H1 locs1 ⟨by rw [← hset]; exact h1, by rw [← hset]; exact h2, h3⟩)
/-- a switch, by the number that it reads -/
theorem g_tabIn {dflt lo hi : Int} {offs : Array Int} {len : Nat} {x k : Int32} {off : Int} {tgt : Nat} (S : CallFix p m c cc nL s args Ts own) (hx : x = k) (hdg : decode cc pc = .ok (.tableswitch dflt lo hi offs, len)) (h1 : ¬ k.toInt < lo) (h2 : ¬ hi < k.toInt) (ho : offs[(k.toInt - lo).toNat]? = some off) (ht : (pc : Int) + off = (tgt : Int))
    (kk : W p l e Rm s m args below meth c H locs cells slots Q (F0 m tgt ls rest)) : W p l e Rm s m args below meth c H locs cells slots Q (F0 m pc ls (.int x :: rest)) := by
  subst hx
  exact lv_tableIn S.1 S.2.1 hdg h1 h2 ho ht kk
end GK
theorem g_if {α : Type} {c : Prop} [Decidable c] {F A B : α} (hf : F = if c then A else B) (h : c) : F = A := hf.trans (if_pos h)
theorem g_ifn {α : Type} {c : Prop} [Decidable c] {F A B : α} (hf : F = if c then A else B) (h : ¬ c) : F = B := hf.trans (if_neg h)
/-- the pure function's own test of an index -/
def gi {R : Type} (i : Int32) (n : Nat) (k : Option R) : Option R := if i < 0 ∨ n ≤ i.toNatClampNeg then none else k
theorem g_gi {R : Type} {F k : Option R} {i : Int32} {n : Nat} (hF : F ≠ none) (hf : F = gi i n k) : vp_in i n ∧ F = k := by
  unfold gi at hf
  by_cases h : i < 0 ∨ n ≤ i.toNatClampNeg
  · rw [if_pos h] at hf
    exact absurd hf hF
  · rw [if_neg h] at hf
    exact ⟨h, hf⟩
/-- .. of a thing that has to hold -/
def gc {R : Type} (c : Prop) [Decidable c] (k : Option R) : Option R := if c then k else none
theorem g_gc {R : Type} {c : Prop} [Decidable c] {F k : Option R} (hF : F ≠ none) (hf : F = gc c k) : c ∧ F = k := by
  unfold gc at hf
  by_cases h : c
  · rw [if_pos h] at hf
    exact ⟨h, hf⟩
  · rw [if_neg h] at hf
    exact absurd hf hF
theorem g_bind {R T : Type} {F : Option R} {x : Option T} {k : T → Option R} (hF : F ≠ none) (hf : F = x.bind k) : ∃ u, x = some u ∧ F = k u := by
  cases x with
  | none => exact absurd hf hF
  | some u => exact ⟨u, rfl, hf⟩
/-- no index of a table is meant -/
theorem g_ne {x k : Int32} (h : ¬ x = k) : x.toInt ≠ k.toInt := fun e => h (Int32.toInt_inj.mp e)
abbrev gT (cI cB cZ cM cJ cK : ClassId) : List (ClassId × FieldType) := [(cI, .int), (cB, .byte), (cZ, .boolean), (cM, .object "FeastMarch$March"), (cJ, .object "FeastMarch$Image"), (cK, .array .int)]
/-! families: arrays whose elements are cells of one kind -/
def famR (n : Nat) (r : Nat → Nat) : Nat → Option Nat := fun k => if k < n then some (r k) else none
def faC (cI : ClassId) (r : Nat → Nat) (f : Nat → Nat → Int32) : va_W := [(r 0, .inl (cI, 8, .inl (f 0))), (r 1, .inl (cI, 8, .inl (f 1))), (r 2, .inl (cI, 8, .inl (f 2))), (r 3, .inl (cI, 8, .inl (f 3))), (r 4, .inl (cI, 8, .inl (f 4))), (r 5, .inl (cI, 8, .inl (f 5))), (r 6, .inl (cI, 8, .inl (f 6))), (r 7, .inl (cI, 8, .inl (f 7)))]
def foE (r : Nat → Nat) (f : Nat → Nat → Int32) (k : Nat) : Nat × va_E := (r k, .inr (3, [.int (f k 0), .int (f k 1), .int (f k 2), .int (f k 3), .int (f k 4), .int (f k 5)]))
def foC (r : Nat → Nat) (f : Nat → Nat → Int32) : va_W := [foE r f 0, foE r f 1, foE r f 2, foE r f 3, foE r f 4, foE r f 5, foE r f 6, foE r f 7, foE r f 8, foE r f 9]
def saR (a b : Nat) : Nat → Option Nat := fun k => if k = 0 then some a else if k = 1 then some b else none
def rec6 (a b c d e f : Int32) : Nat → Int32 := fun k => if k = 0 then a else if k = 1 then b else if k = 2 then c else if k = 3 then d else if k = 4 then e else f
theorem g_lt {i : Int32} {n : Nat} (h : vp_in i n) : i.toNatClampNeg < n := Nat.not_le.mp fun q => h (Or.inr q)
theorem famR_at {n : Nat} {r : Nat → Nat} {k : Nat} (h : k < n) : famR n r k = some (r k) := if_pos h
theorem faC_get {cI : ClassId} {r : Nat → Nat} {f : Nat → Nat → Int32} {j : Nat} (hj : j < 8) : (faC cI r f)[j]? = some (r j, .inl (cI, 8, .inl (f j))) := by
  rcases (show j = 0 ∨ j = 1 ∨ j = 2 ∨ j = 3 ∨ j = 4 ∨ j = 5 ∨ j = 6 ∨ j = 7 by omega) with rfl | rfl | rfl | rfl | rfl | rfl | rfl | rfl <;> rfl
theorem faC_set {cI : ClassId} {r : Nat → Nat} {f : Nat → Nat → Int32} {j : Nat} (hj : j < 8) (x : Nat → Int32) : (faC cI r f).set j (r j, .inl (cI, 8, .inl x)) = faC cI r (va_up f j x) := by
  rcases (show j = 0 ∨ j = 1 ∨ j = 2 ∨ j = 3 ∨ j = 4 ∨ j = 5 ∨ j = 6 ∨ j = 7 by omega) with rfl | rfl | rfl | rfl | rfl | rfl | rfl | rfl <;> rfl
theorem g_ten {j : Nat} (hj : j < 10) : j = 0 ∨ j = 1 ∨ j = 2 ∨ j = 3 ∨ j = 4 ∨ j = 5 ∨ j = 6 ∨ j = 7 ∨ j = 8 ∨ j = 9 := by omega
theorem foC_get {r : Nat → Nat} {f : Nat → Nat → Int32} {j : Nat} (hj : j < 10) : (foC r f)[j]? = some (foE r f j) := by
  rcases g_ten hj with rfl | rfl | rfl | rfl | rfl | rfl | rfl | rfl | rfl | rfl <;> rfl
theorem foC_set {r : Nat → Nat} {f : Nat → Nat → Int32} {j : Nat} (hj : j < 10) (a b c d e g : Int32) : (foC r f).set j (r j, .inr (3, [.int a, .int b, .int c, .int d, .int e, .int g])) = foC r (va_up f j (rec6 a b c d e g)) := by
  rcases g_ten hj with rfl | rfl | rfl | rfl | rfl | rfl | rfl | rfl | rfl | rfl <;> rfl
theorem foC_keep {r : Nat → Nat} {f f' : Nat → Nat → Int32} {j : Nat} (hj : j < 10) (he : f' j = f j) : (foC r f').set j (r j, .inr (3, [.int (f j 0), .int (f j 1), .int (f j 2), .int (f j 3), .int (f j 4), .int (f j 5)])) = foC r f' := by
  rw [← he]
  rcases g_ten hj with rfl | rfl | rfl | rfl | rfl | rfl | rfl | rfl | rfl | rfl <;> rfl
theorem foC_len {r : Nat → Nat} {f : Nat → Nat → Int32} : (foC r f).length = 10 := rfl
theorem foC_adr {r : Nat → Nat} {f g : Nat → Nat → Int32} : (foC r f).map Prod.fst = (foC r g).map Prod.fst := rfl
section GK2
variable {p : Program} {l : Launch} {e : Env} {Rm : Room} {s : State} {m : MethodId} {args : Array Value} {below : List Frame} {meth : Method} {c : Code} {H : Heap} {locs : List Loc} {cells slots : Nat} {Q : State → Prop}
variable {cc : ByteArray} {pc nL : Nat} {ls : Array Slot} {rest st0 st1 : List Value} {D : va_G} {A : Nat → Prop} {a a0 : Nat} {tys : List (ClassId × FieldType)} {ws ws' : List va_W} {H0 : Heap} {Ts : List Cond} {own : String}
theorem g_copy {index : Nat} {cA cB : ClassId} {n0 n1 : Nat} {f g : Nat → Int32} (S : CallFix p m c cc nL s args Ts own) (hK : va_K D vwCl tys s) (Wd : gw D A H0 ws H locs) (hsz : ls.size = nL) (hlink : (Cond.methodLink own index arraycopyName).before args s = true) (hnat : (Cond.native arraycopyName).before args s = true) (hstat : (Cond.static arraycopyName).before args s = true) (hini : (Cond.initialized "java/lang/System").before args s = true)
    (q0 q1 : Nat) (ha0 : ws[q0]? = some [(a0, .inl (cA, n0, .inl f))]) (ha1 : ws[q1]? = some [(a, .inl (cB, n1, .inl g))]) {sp dp n : Int32} (h1 : ¬ sp < 0) (h2 : ¬ dp < 0) (h3 : ¬ n < 0) (h4 : sp.toNatClampNeg + n.toNatClampNeg ≤ n0) (h5 : dp.toNatClampNeg + n.toNatClampNeg ≤ n1)
    (ht0 : tys[0]? = some (cA, .int)) (ht1 : tys[0]? = some (cB, .int)) (hframes : 1 ≤ Rm.frames) (hlocals : (rest.map fun v => v.category).sum + (nativeFrameWords "java/lang/System" "arraycopy" 5 + 11) ≤ Rm.locals) (hdg : decode cc pc = .ok (.invokestatic index, 3)) (hws : ws.set q1 [(a, .inl (cB, n1, .inl (va_cpy f g sp.toNatClampNeg dp.toNatClampNeg n.toNatClampNeg)))] = ws')
    (kk : ∀ (H1 : Heap) (locs1 : List Loc), gw D A H0 ws' H1 locs1 → W p l e Rm s m args below meth c H1 locs1 cells slots Q (F0 m (pc + 3) ls rest)) : W p l e Rm s m args below meth c H locs cells slots Q (F0 m pc ls (.int n :: .int dp :: .ref a :: .int sp :: .ref a0 :: rest)) := by
  subst hws
  obtain ⟨z0, hz0, -⟩ := blk1 ha0
  obtain ⟨z1, hz1, hset⟩ := blk1 ha1
  exact va_copyi S.1 S.2.1 (S.2.2.1.trans hsz.symm) S.2.2.2.1 hlink hnat hstat hini hK Wd.1 Wd.2.1 Wd.2.2 z0 z1 0 0 hz0 hz1 ht0 ht1 rfl h1 h2 h3 h4 h5 (fun _ _ => rfl) hframes hlocals hdg (fun H1 locs1 h1 h2 h3 => kk H1 locs1 ⟨by rw [← hset]; exact h1, by rw [← hset]; exact h2, h3⟩)
theorem g_faald (S : CallFix p m c cc nL s args Ts own) (hK : va_K D vwCl tys s) (Wd : gw D A H0 ws H locs) (q0 : Nat) {cI : ClassId} {r : Nat → Nat} {f : Nat → Nat → Int32} (ha : ws[q0]? = some (faC cI r f)) (ht : tys[0]? = some (cI, .int)) {j : Nat} (hj : j < 8) {i : Int32} (hin : vp_in i 8) (hdg : decode cc pc = .ok (.iaload, 1))
    (kk : W p l e Rm s m args below meth c H locs cells slots Q (F0 m (pc + 1) ls (.int (f j i.toNatClampNeg) :: rest))) : W p l e Rm s m args below meth c H locs cells slots Q (F0 m pc ls (.int i :: .ref (r j) :: rest)) := by
  obtain ⟨hq1, -⟩ := blkj ws q0 j _ _ ha (faC_get hj)
  exact va_iald S.1 S.2.1 hK Wd.1 _ 0 hq1 ht hin hdg kk
theorem g_faast (S : CallFix p m c cc nL s args Ts own) (hK : va_K D vwCl tys s) (Wd : gw D A H0 ws H locs) (q0 : Nat) {cI : ClassId} {r : Nat → Nat} {f : Nat → Nat → Int32} (ha : ws[q0]? = some (faC cI r f)) (ht : tys[0]? = some (cI, .int)) {j : Nat} (hj : j < 8) {i x : Int32} (hin : vp_in i 8) (hdg : decode cc pc = .ok (.iastore, 1))
    (hws : ws.set q0 (faC cI r (va_up f j (upd (f j) i.toNatClampNeg x))) = ws') (kk : ∀ (H1 : Heap) (locs1 : List Loc), gw D A H0 ws' H1 locs1 → W p l e Rm s m args below meth c H1 locs1 cells slots Q (F0 m (pc + 1) ls rest)) : W p l e Rm s m args below meth c H locs cells slots Q (F0 m pc ls (.int x :: .int i :: .ref (r j) :: rest)) := by
  subst hws
  obtain ⟨hq1, hset⟩ := blkj ws q0 j _ _ ha (faC_get hj)
  exact va_iast S.1 S.2.1 hK Wd.1 Wd.2.1 Wd.2.2 _ 0 hq1 ht hin hdg (fun H1 locs1 h1 h2 h3 => kk H1 locs1 ⟨by rw [← faC_set hj, ← hset]; exact h1, by rw [← faC_set hj, ← hset]; exact h2, h3⟩)
/-- a call on two cells, of families or alone: by their blocks and their places there -/
theorem g_callE {R : Type} {F : Option R} {v : R → Option Value} {w : R → List va_W} {y : MethodName} {bytes : ByteArray} {maxL index n : Nat} {ret : Option FieldType} {wsy : List Cond} {rm : Room} {As : List Value} {b b2 : Nat} {C : String} {e1 e2 e1' e2' : va_E} (S : CallFix p m c cc nL s args Ts own) (hK : va_K D vwCl tys s) (hA : ∀ q : Nat, s.heap.size ≤ q → A q) (Wd : gw D A s.heap ws H locs)
    (hM : gM l y wsy rm D tys [[(b, e1)], [(b2, e2)]] (.ref b :: As) F v w) (cw : CallW Rm s args own C index y bytes maxL ret wsy rm 0 0 n) {u : R} (hu : F = some u) (hw : w u = [[(b, e1')], [(b2, e2')]]) (k1 j1 k2 j2 : Nat) {B1 B2 : va_W} (h1 : ws[k1]? = some B1) (g1 : B1[j1]? = some (b, e1)) (h2 : ws[k2]? = some B2) (g2 : B2[j2]? = some (b2, e2)) (hne : k1 ≠ k2 ∨ j1 ≠ j2) {ci : Nat} {fs : List Value} {qc : vw_C} (he1 : e1 = .inr (ci, fs)) (hqc : vwCl[ci]? = some qc) (hqC : qc.1 = C)
    (hws : (if k1 = k2 then ws.set k1 ((B1.set j1 (b, e1')).set j2 (b2, e2')) else (ws.set k1 (B1.set j1 (b, e1'))).set k2 (B2.set j2 (b2, e2'))) = ws') (hst : (v u).toList ++ rest = st1) (hn : As.length = n) (hsize : ls.size = nL) (hst0 : st0 = As.reverse ++ .ref b :: rest) (hW : (rest.map fun v => v.category).sum ≤ 8) (hdg : decode cc pc = .ok (.invokevirtual index, 3)) (hcs : cells ≤ Rm.cells ∧ slots ≤ Rm.slots)
    (kk : ∀ (H1 : Heap) (locs1 : List Loc), gw D A s.heap ws' H1 locs1 → W p l e Rm s m args below meth c H1 locs1 cells slots Q (F0 m (pc + 3) ls st1)) : W p l e Rm s m args below meth c H locs cells slots Q (F0 m pc ls st0) := by
  have m1 : (b, e1) ∈ ws.flatten := List.mem_flatten.mpr ⟨B1, List.mem_of_getElem? h1, List.mem_of_getElem? g1⟩
  have m2 : (b2, e2) ∈ ws.flatten := List.mem_flatten.mpr ⟨B2, List.mem_of_getElem? h2, List.mem_of_getElem? g2⟩
  obtain ⟨f1, -⟩ := blkj ws k1 j1 _ _ h1 g1
  obtain ⟨f2, -⟩ := blkj ws k2 j2 _ _ h2 g2
  have l1 := (List.getElem?_eq_some_iff.mp g1).1
  have l2 := (List.getElem?_eq_some_iff.mp g2).1
  have o1 := (List.getElem?_eq_some_iff.mp h1).1
  have o2 := (List.getElem?_eq_some_iff.mp h2).1
  have hbb : b ≠ b2 := by
    intro z
    have := Wd.2.1.1 _ _ _ _ f1 f2 z
    rcases Nat.lt_trichotomy k1 k2 with q | q | q
    · have := blk_lt ws k1 k2 j1 j2 B1 h1 l1 q o2
      omega
    · subst q
      rcases hne with q | q
      · exact q rfl
      · exact q (by omega)
    · have := blk_lt ws k2 k1 j2 j1 B2 h2 l2 q o1
      omega
  have hsub : ∀ q ∈ ([[(b, e1)], [(b2, e2)]] : List va_W).flatten, q ∈ ws.flatten := by
    intro q hq
    simp at hq
    rcases hq with rfl | rfl
    · exact m1
    · exact m2
  have hPc : va_P D vwCl ([[(b, e1)], [(b2, e2)]] : List va_W).flatten H := va_P.of (fun q h => Wd.1.all q (hsub q h))
  have hDc : va_D (fun _ => True) ([[(b, e1)], [(b2, e2)]] : List va_W).flatten := by
    rw [va_D_iff]
    simp [hbb]
  have hadr : adr ws' = adr ws := by
    subst hws
    have e1s : ∀ (B : va_W) (j : Nat) (a : Nat) (x y : va_E), B[j]? = some (a, x) → (B.set j (a, y)).map Prod.fst = B.map Prod.fst := by
      intro B j a x y h
      apply List.ext_getElem?
      intro i
      by_cases z : i = j
      · subst z
        rw [List.getElem?_map, List.getElem?_map, List.getElem?_set_self (List.getElem?_eq_some_iff.mp h).1, h]
        rfl
      · rw [List.getElem?_map, List.getElem?_map, List.getElem?_set_ne (Ne.symm z)]
    have ebs : ∀ (bs : List va_W) (k : Nat) (B B' : va_W), bs[k]? = some B → B'.map Prod.fst = B.map Prod.fst → adr (bs.set k B') = adr bs := by
      intro bs k B B' h h'
      apply List.ext_getElem?
      intro i
      unfold adr
      by_cases z : i = k
      · subst z
        rw [List.getElem?_map, List.getElem?_map, List.getElem?_set_self (List.getElem?_eq_some_iff.mp h).1, h]
        simp [h']
      · rw [List.getElem?_map, List.getElem?_map, List.getElem?_set_ne (Ne.symm z)]
    by_cases z : k1 = k2
    · rw [if_pos z]
      subst z
      cases h1.symm.trans h2
      have hj : j1 ≠ j2 := hne.resolve_left (fun q => q rfl)
      refine ebs ws k1 B1 _ h1 ?_
      rw [e1s (B1.set j1 (b, e1')) j2 b2 e2 e2' (by rw [List.getElem?_set_ne hj]; exact g2), e1s B1 j1 b e1 e1' g1]
    · rw [if_neg z]
      rw [ebs (ws.set k1 (B1.set j1 (b, e1'))) k2 B2 _ (by rw [List.getElem?_set_ne z]; exact h2) (e1s B2 j2 b2 e2 e2' g2), ebs ws k1 B1 _ h1 (e1s B1 j1 b e1 e1' g1)]
  have hD := Wd.2.1
  have hnew : ∀ q ∈ ws'.flatten, q ∈ (w u).flatten ∨ (q ∈ ws.flatten ∧ ∀ x ∈ ([[(b, e1)], [(b2, e2)]] : List va_W).flatten, x.1 ≠ q.1) := by
    subst hws
    rw [hw]
    obtain ⟨t1, s1⟩ := blkj ws k1 j1 _ _ h1 g1
    obtain ⟨t2, s2⟩ := blkj ws k2 j2 _ _ h2 g2
    have hq12 : (ws.take k1).flatten.length + j1 ≠ (ws.take k2).flatten.length + j2 := by
      intro z
      rw [z] at t1
      rw [t2] at t1
      exact hbb (congrArg Prod.fst (Option.some.inj t1)).symm
    have hfl : (if k1 = k2 then ws.set k1 ((B1.set j1 (b, e1')).set j2 (b2, e2')) else (ws.set k1 (B1.set j1 (b, e1'))).set k2 (B2.set j2 (b2, e2'))).flatten = (ws.flatten.set ((ws.take k1).flatten.length + j1) (b, e1')).set ((ws.take k2).flatten.length + j2) (b2, e2') := by
      by_cases z : k1 = k2
      · rw [if_pos z]
        subst z
        cases h1.symm.trans h2
        have hj : j1 ≠ j2 := hne.resolve_left (fun q => q rfl)
        rw [s1]
        obtain ⟨-, s3⟩ := blkj (ws.set k1 (B1.set j1 (b, e1'))) k1 j2 (B1.set j1 (b, e1')) (b2, e2) (by rw [List.getElem?_set_self o1]) (by rw [List.getElem?_set_ne hj]; exact g2)
        have s4 := s3 (b2, e2')
        rw [List.take_set_of_le (Nat.le_refl _), List.set_set] at s4
        exact s4.symm
      · rw [if_neg z, s1]
        have o3 : (ws.set k1 (B1.set j1 (b, e1')))[k2]? = some B2 := by rw [List.getElem?_set_ne z]; exact h2
        obtain ⟨-, s3⟩ := blkj (ws.set k1 (B1.set j1 (b, e1'))) k2 j2 B2 (b2, e2) o3 g2
        have s4 := s3 (b2, e2')
        have hlen : ((ws.set k1 (B1.set j1 (b, e1'))).take k2).flatten.length = (ws.take k2).flatten.length := by
          rw [List.length_flatten, List.length_flatten]
          congr 1
          rw [List.map_take, List.map_take]
          congr 1
          apply List.ext_getElem?
          intro i
          by_cases y : i = k1
          · subst y
            rw [List.getElem?_map, List.getElem?_map, List.getElem?_set_self o1, h1]
            simp
          · rw [List.getElem?_map, List.getElem?_map, List.getElem?_set_ne (Ne.symm y)]
        rw [hlen] at s4
        exact s4.symm
    intro q hq
    rw [hfl] at hq
    obtain ⟨i, hi⟩ := List.getElem?_of_mem hq
    have lf1 := (List.getElem?_eq_some_iff.mp t1).1
    have lf2 := (List.getElem?_eq_some_iff.mp t2).1
    by_cases z2 : i = (ws.take k2).flatten.length + j2
    · subst z2
      rw [List.getElem?_set_self (by simpa using lf2)] at hi
      cases hi
      exact Or.inl (by simp)
    · rw [List.getElem?_set_ne (Ne.symm z2)] at hi
      by_cases z1 : i = (ws.take k1).flatten.length + j1
      · subst z1
        rw [List.getElem?_set_self lf1] at hi
        cases hi
        exact Or.inl (by simp)
      · rw [List.getElem?_set_ne (Ne.symm z1)] at hi
        refine Or.inr ⟨List.mem_of_getElem? hi, fun x hx => ?_⟩
        simp at hx
        rcases hx with rfl | rfl
        · exact fun z => z1 (hD.1 _ _ _ _ hi t1 z.symm)
        · exact fun z => z2 (hD.1 _ _ _ _ hi t2 z.symm)
  refine g_call (va_runV (As := As) (rest := rest) (g := F0 m pc ls st0) S (hM (by rw [hu]; exact fun z => by cases z) H.size) cw ⟨g_blind, ?_, fun U hU hW => ⟨rfl, by rw [hU], by rw [hU]; exact hPc, va_K.moved hW.alike hK, hDc⟩⟩ rfl hn hsize hst0 (lv_room hW) hdg ⟨hcs.1, hcs.2⟩) hA Wd hsub hu hadr hnew hst kk
  subst hqC
  subst he1
  exact va_recv hK Wd.1 hqc f1
end GK2
