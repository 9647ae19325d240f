/-! a world with some cells written anew, in place -/
def wset : va_W → List Nat → va_W → va_W
  | ws, i :: is, x :: xs => wset (ws.set i x) is xs
  | ws, _, _ => ws
theorem wset_P {D : va_G} {cl : List vw_C} {H1 : Heap} : ∀ (is : List Nat) (xs ws : va_W), is.length = xs.length → va_P D cl xs H1 → (∀ (k : Nat) (q : Nat × va_E), ws[k]? = some q → k ∉ is → va_at D cl q H1) → va_P D cl (wset ws is xs) H1
  | [], [], ws, _, _, hk => fun k q h => hk k q h (fun z => by cases z)
  | i :: is, x :: xs, ws, hl, hx, hk => by
    show va_P D cl (wset (ws.set i x) is xs) H1
    refine wset_P is xs (ws.set i x) (by simpa using hl) (fun k q h => hx (k + 1) q (by simpa using h)) (fun k q h hn => ?_)
    by_cases e : k = i
    · subst e
      have hlt : k < ws.length := by
        have := (List.getElem?_eq_some_iff.mp h).1
        simpa using this
      rw [List.getElem?_set_self hlt] at h
      cases h
      exact hx 0 x rfl
    · rw [List.getElem?_set_ne (Ne.symm e)] at h
      exact hk k q h (fun z => by
        rcases List.mem_cons.mp z with z | z
        · exact e z
        · exact hn z)
theorem wset_D {A : Nat → Prop} : ∀ (is : List Nat) (xs ws : va_W), is.map (fun i => (ws[i]?).map Prod.fst) = xs.map (fun x => some x.1) → va_D A ws → va_D A (wset ws is xs)
  | [], [], ws, _, h => h
  | i :: is, x :: xs, ws, hl, h => by
    show va_D A (wset (ws.set i x) is xs)
    have h0 : (ws[i]?).map Prod.fst = some x.1 := (List.cons.inj hl).1
    obtain ⟨q, hq, hqx⟩ : ∃ q, ws[i]? = some q ∧ q.1 = x.1 := by
      cases e : ws[i]? with
      | none => rw [e] at h0; cases h0
      | some q => rw [e] at h0; exact ⟨q, rfl, Option.some.inj h0⟩
    have hset : va_D A (ws.set i x) := by
      have := va_D.set (p := i) (a := x.1) (e0 := q.2) (e := x.2) h (by rw [hq, ← hqx])
      exact this
    refine wset_D is xs (ws.set i x) ?_ hset
    rw [← (List.cons.inj hl).2]
    apply List.map_congr_left
    intro j _
    by_cases e : j = i
    · subst e
      rw [List.getElem?_set_self (List.getElem?_eq_some_iff.mp hq).1, hq]
      simp [hqx]
    · rw [List.getElem?_set_ne (Ne.symm e)]
/-- a method's start: its world, nothing else asked -/
def gP (D : va_G) (tys : List (ClassId × FieldType)) (ws : va_W) (sz : Nat) : State → Prop := fun U => U.heap.size = sz ∧ va_P D vwCl ws U.heap ∧ va_K D vwCl tys U ∧ va_D (fun _ => True) ws
/-- its end: what the pure function F says -/
def gQ {R : Type} (F : Option R) (v : R → Option Value) (w : R → va_W) (D : va_G) (A : Nat → Prop) : Array Value → State → Outcome → State → Prop := fun _ st oc t => (∃ u, F = some u ∧ oc = .returned (v u) ∧ va_P D vwCl (w u) t.heap) ∧ va_F A st t
def gM {R : Type} (l : Launch) (y : MethodName) (wsy : List Cond) (rm : Room) (D : va_G) (tys : List (ClassId × FieldType)) (wc : va_W) (av : List Value) (F : Option R) (v : R → Option Value) (w : R → va_W) : Prop :=
  F ≠ none → ∀ sz : Nat, Met l y wsy rm (va_Pc av (gP D tys wc sz)) (gQ F v w D (va_A wc sz)) 0 0 (va_A wc sz)
/-- where a walk stands in the heap -/
def gw (D : va_G) (A : Nat → Prop) (H0 : Heap) (ws : va_W) (H : Heap) (locs : List Loc) : Prop := va_P D vwCl ws H ∧ va_D A ws ∧ va_S A H0 H locs
theorem g_blind {av : List Value} {D : va_G} {tys : List (ClassId × FieldType)} {ws : va_W} {sz : Nat} : FrameBlind (va_Pc av (gP D tys ws sz)) := fun a U g mk q => by
  obtain ⟨q0, q1, qP, qK, qD⟩ := q
  exact ⟨q0, q1, qP, va_K.moved (u := U) (U := U.calling g mk a) (Vm.Alike.refl U.vm) qK, qD⟩
section GK
variable {p : Program} {l : Launch} {e : Env} {Rm : Room} {s : State} {m : MethodId} {args : Array Value} {below : List Frame} {meth : Method} {c : Code} {H : Heap} {locs : List Loc} {cells slots : Nat} {Q : State → Prop}
variable {cc : ByteArray} {pc nL : Nat} {ls : Array Slot} {rest st0 st1 : List Value} {D : va_G} {A : Nat → Prop} {a : Nat} {tys : List (ClassId × FieldType)} {ws ws' : va_W} {H0 : Heap} {Ts : List Cond} {own : String}
theorem g_start {R : Type} {y : MethodName} {wsy ws0 : List Cond} {rm : Room} {wc : va_W} {av : List Value} {F : Option R} {v : R → Option Value} {w : R → va_W} {maxL : Nat} {ret : Option FieldType} (hy : plainName y.cls = true) (hw : wsy = Cond.code y cc maxL ret :: ws0) (hlen : (lg_sl av).length ≤ maxL)
    (body : F ≠ none → ∀ (p : Program) (e : Env) (s : State) (m : MethodId) (below : List Frame) (meth : Method) (c : Code) (A : Nat → Prop) (ls : Array Slot), CallFix p m c cc maxL s av.toArray wsy y.cls → va_K D vwCl tys s → (∀ q : Nat, s.heap.size ≤ q → A q) → gw D A s.heap wc s.heap [] → meth.sig.returnType = ret → meth.locks = false → meth.name = y.name → lv_has ls maxL (lv_args 0 av) →
      W p l e (headSpec wsy rm).room s m av.toArray below meth c s.heap [] 0 0 (MQ below (gQ F v w D A) av.toArray s 0 0 A) (F0 m 0 ls [])) : gM l y wsy rm D tys wc av F v w := by
  intro hF sz
  refine Met.ofW (cc := cc) (maxL := maxL) (ret := ret) hy hw ?_
  intro p e s m args below meth c s₁ B hml hv
  obtain ⟨rfl, hsz, hP, hK, hD0⟩ := hv
  subst hsz
  have hts := atoms_spec (ws := wsy) B.pre
  have hl := lv_entry av (n := maxL) hlen
  rw [lg_entry_eq]
  refine body hF p e s m below meth c (va_A wc s.heap.size) _ ⟨B.exec, B.bytes, hml, findClass_of_methodNamed B.named, hts⟩ hK (fun q h => Or.inr h) ⟨hP, hD0.self, va_S.rf⟩ B.returns B.notSynchronized (name_of_methodNamed B.named B.method).1 hl
theorem g_iret {R : Type} {F : Option R} {v : R → Option Value} {w : R → va_W} {x : Int32} (S : CallFix p m c cc nL s args Ts own) (Wd : gw D A s.heap ws H locs) (hr : meth.sig.returnType = some .int) (hlocks : meth.locks = false) (hdg : decode cc pc = .ok (.ireturn, 1)) (u : R) (hF : F = some u) (hv : v u = some (.int x)) (hw : w u = ws) :
    W p l e Rm s m args below meth c H locs cells slots (MQ below (gQ F v w D A) args s cells slots A) (F0 m pc ls [.int x]) := by
  refine W.iret S.1 S.2.1 hr (fun t ht _ => ?_) Wd.2.2.2.2 hdg hlocks
  exact ⟨⟨u, hF, by rw [hv], by rw [ht, hw]; exact Wd.1⟩, Wd.2.2.F ht⟩
theorem g_zret {R : Type} {F : Option R} {v : R → Option Value} {w : R → va_W} {x : Int32} (S : CallFix p m c cc nL s args Ts own) (Wd : gw D A s.heap ws H locs) (hr : meth.sig.returnType = some .boolean) (hlocks : meth.locks = false) (hn : narrow .boolean (.int x) = .int x) (hdg : decode cc pc = .ok (.ireturn, 1)) (u : R) (hF : F = some u) (hv : v u = some (.int x)) (hw : w u = ws) :
    W p l e Rm s m args below meth c H locs cells slots (MQ below (gQ F v w D A) args s cells slots A) (F0 m pc ls [.int x]) := by
  refine W.zret S.1 S.2.1 hr hn (fun t ht _ => ?_) Wd.2.2.2.2 hdg hlocks
  exact ⟨⟨u, hF, by rw [hv], by rw [ht, hw]; exact Wd.1⟩, Wd.2.2.F ht⟩
theorem g_lret {R : Type} {F : Option R} {v : R → Option Value} {w : R → va_W} {x : Int64} (S : CallFix p m c cc nL s args Ts own) (Wd : gw D A s.heap ws H locs) (hr : meth.sig.returnType = some .long) (hlocks : meth.locks = false) (hdg : decode cc pc = .ok (.lreturn, 1)) (u : R) (hF : F = some u) (hv : v u = some (.long x)) (hw : w u = ws) :
    W p l e Rm s m args below meth c H locs cells slots (MQ below (gQ F v w D A) args s cells slots A) (F0 m pc ls [.long x]) := by
  refine W.lret S.1 S.2.1 hr (fun t ht _ => ?_) Wd.2.2.2.2 hdg hlocks
  exact ⟨⟨u, hF, by rw [hv], by rw [ht, hw]; exact Wd.1⟩, Wd.2.2.F ht⟩
theorem g_vret {R : Type} {F : Option R} {v : R → Option Value} {w : R → va_W} (S : CallFix p m c cc nL s args Ts own) (Wd : gw D A s.heap ws H locs) (hr : meth.sig.returnType = none) (hlocks : meth.locks = false) (hdg : decode cc pc = .ok (.return_, 1)) (u : R) (hF : F = some u) (hv : v u = none) (hw : w u = ws) :
    W p l e Rm s m args below meth c H locs cells slots (MQ below (gQ F v w D A) args s cells slots A) (F0 m pc ls []) := by
  refine W.vret S.1 S.2.1 hr (fun t ht _ => ?_) Wd.2.2.2.2 hdg hlocks
  exact ⟨⟨u, hF, by rw [hv], by rw [ht, hw]; exact Wd.1⟩, Wd.2.2.F ht⟩
theorem g_call {R : Type} {F : Option R} {v : R → Option Value} {w : R → va_W} {wc : va_W} {av : Array Value} (hr : va_Run p l e Rm s m args below meth c H locs cells slots 0 0 (F0 m pc ls st0) rest (gQ F v w D (va_A wc H.size) av) (va_A wc H.size)) (hA : ∀ q : Nat, s.heap.size ≤ q → A q) (Wd : gw D A s.heap ws H locs)
    (is : List Nat) (hC : is.map (fun i => ws[i]?) = wc.map some) {u : R} (hu : F = some u) (ha : (w u).map Prod.fst = wc.map Prod.fst) (hws : wset ws is (w u) = ws') (hst : (v u).toList ++ rest = st1)
    (kk : ∀ (H1 : Heap) (locs1 : List Loc), gw D A s.heap ws' H1 locs1 → W p l e Rm s m args below meth c H1 locs1 cells slots Q (F0 m (pc + 3) ls st1)) : W p l e Rm s m args below meth c H locs cells slots Q (F0 m pc ls st0) := by
  obtain ⟨hP, hD, hS⟩ := Wd
  have hF : ∀ q, va_A wc H.size q → A q := va_free hD hS hA is hC
  intro T hT X
  obtain ⟨vv, st₀, t, T', L, h0, X', hL, e1, e2, ⟨⟨u', hu', hv, hp⟩, hz, hk⟩, st⟩ := hr T hT X
  have hvv : vv = v u' := by injection hv
  subst hvv
  cases hu.symm.trans hu'
  rw [h0] at hz hk
  have at' : ∀ (k : Nat) (q : Nat × va_E), wc[k]? = some q → ∃ i, is[k]? = some i ∧ ws[i]? = some q := fun k q h => va_in_of is hC h
  have hlen : is.length = (w u).length := by
    have h1 := congrArg List.length hC
    have h2 := congrArg List.length ha
    simp only [List.length_map] at h1 h2
    omega
  have key : gw D A s.heap ws' T'.heap (locs ++ L) := by
    subst hws
    refine ⟨wset_P is (w u) ws hlen (by rw [e1]; exact hp) (fun k q hq hn => ?_), wset_D is (w u) ws ?_ hD, ?_⟩
    · have hl := (hP k q hq).lt
      refine (hP k q hq).kept ?_
      rw [e1]
      refine hk q.1 hl (fun h => ?_)
      rcases h with ⟨k2, e3, h⟩ | h
      · obtain ⟨j, h3, h4⟩ := at' k2 (q.1, e3) h
        have hij := hD.1 k j q (q.1, e3) hq h4 rfl
        subst hij
        exact hn (List.mem_of_getElem? h3)
      · omega
    · have h1 : is.map (fun i => (ws[i]?).map Prod.fst) = wc.map (fun x => some x.1) := by
        have := congrArg (List.map (Option.map Prod.fst)) hC
        simpa [List.map_map, Function.comp_def] using this
      rw [h1]
      have := congrArg (List.map some) ha
      simpa [List.map_map, Function.comp_def] using this.symm
    · refine ⟨Nat.le_trans hS.1 (by rw [e1]; exact hz), fun q h1 h2 => ?_, fun q hq => ?_⟩
      · rw [e1, hk q (Nat.lt_of_lt_of_le h1 hS.1) (fun z => h2 (hF q z))]
        exact hS.2.1 q h1 h2
      · rcases List.mem_append.mp hq with h | h
        · exact hS.2.2 q h
        · exact hF _ (hL q h)
  subst hst
  obtain ⟨t2, a1, b1⟩ := kk T'.heap (locs ++ L) key T' rfl X'
  exact ⟨t2, st t2 a1, b1⟩
theorem g_callV {R : Type} {F : Option R} {v : R → Option Value} {w : R → va_W} {wc : va_W} {y : MethodName} {bytes : ByteArray} {maxL index n : Nat} {ret : Option FieldType} {wsy : List Cond} {rm : Room} {As : List Value} {b : Nat} {C : String} (S : CallFix p m c cc nL s args Ts own) (hK : va_K D vwCl tys s) (hA : ∀ q : Nat, s.heap.size ≤ q → A q) (Wd : gw D A s.heap ws H locs)
    (hM : gM l y wsy rm D tys wc (.ref b :: As) F v w) (cw : CallW Rm s args own C index y bytes maxL ret wsy rm 0 0 n) {u : R} (hu : F = some u) (is : List Nat) (hnd : va_nd is = true) (hC : is.map (fun i => ws[i]?) = wc.map some) (kr ci : Nat) {fs : List Value} {qc : vw_C} (hb : wc[kr]? = some (b, .inr (ci, fs))) (hqc : vwCl[ci]? = some qc) (hqC : qc.1 = C)
    (ha : (w u).map Prod.fst = wc.map Prod.fst) (hws : wset ws is (w u) = ws') (hst : (v u).toList ++ rest = st1) (hn : As.length = n) (hsize : ls.size = nL) (hst0 : st0 = As.reverse ++ .ref b :: rest) (hW : (rest.map fun v => v.category).sum ≤ 8) (hdg : decode cc pc = .ok (.invokevirtual index, 3)) (hcs : cells ≤ Rm.cells ∧ slots ≤ Rm.slots)
    (kk : ∀ (H1 : Heap) (locs1 : List Loc), gw D A s.heap ws' H1 locs1 → W p l e Rm s m args below meth c H1 locs1 cells slots Q (F0 m (pc + 3) ls st1)) : W p l e Rm s m args below meth c H locs cells slots Q (F0 m pc ls st0) := by
  have hPc : va_P D vwCl wc H := fun k q h => by
    obtain ⟨i, -, hi⟩ := va_in_of is hC h
    exact Wd.1 i q hi
  have hDc := Wd.2.1.sub is hnd hC
  refine g_call (va_runV (As := As) (rest := rest) (g := F0 m pc ls st0) S (hM (by rw [hu]; exact fun z => by cases z) H.size) cw ⟨g_blind, ?_, fun U hU hW => ⟨rfl, by rw [hU], by rw [hU]; exact hPc, va_K.moved hW.alike hK, hDc.weaken (fun _ _ _ _ => trivial)⟩⟩ rfl hn hsize hst0 (lv_room hW) hdg ⟨hcs.1, hcs.2⟩) hA Wd is hC hu ha hws hst kk
  subst hqC
  exact va_recv hK hPc hqc hb
theorem g_callS {R : Type} {F : Option R} {v : R → Option Value} {w : R → va_W} {wc : va_W} {y : MethodName} {bytes : ByteArray} {maxL index n : Nat} {ret : Option FieldType} {wsy : List Cond} {rm : Room} {As : List Value} (S : CallFix p m c cc nL s args Ts own) (hK : va_K D vwCl tys s) (hA : ∀ q : Nat, s.heap.size ≤ q → A q) (Wd : gw D A s.heap ws H locs)
    (hM : gM l y wsy rm D tys wc As F v w) (cw : CallB Rm s args own index y bytes maxL ret wsy rm 0 0 n ∧ (Cond.static y).before args s = true) {u : R} (hu : F = some u) (is : List Nat) (hnd : va_nd is = true) (hC : is.map (fun i => ws[i]?) = wc.map some)
    (ha : (w u).map Prod.fst = wc.map Prod.fst) (hws : wset ws is (w u) = ws') (hst : (v u).toList ++ rest = st1) (hn : As.length = n) (hsize : ls.size = nL) (hst0 : st0 = As.reverse ++ rest) (hW : (rest.map fun v => v.category).sum ≤ 8) (hdg : decode cc pc = .ok (.invokestatic index, 3)) (hcs : cells ≤ Rm.cells ∧ slots ≤ Rm.slots)
    (kk : ∀ (H1 : Heap) (locs1 : List Loc), gw D A s.heap ws' H1 locs1 → W p l e Rm s m args below meth c H1 locs1 cells slots Q (F0 m (pc + 3) ls st1)) : W p l e Rm s m args below meth c H locs cells slots Q (F0 m pc ls st0) := by
  have hPc : va_P D vwCl wc H := fun k q h => by
    obtain ⟨i, -, hi⟩ := va_in_of is hC h
    exact Wd.1 i q hi
  have hDc := Wd.2.1.sub is hnd hC
  exact g_call (va_runS (As := As) (rest := rest) (g := F0 m pc ls st0) S (hM (by rw [hu]; exact fun z => by cases z) H.size) cw ⟨g_blind, fun U hU hW => ⟨rfl, by rw [hU], by rw [hU]; exact hPc, va_K.moved hW.alike hK, hDc.weaken (fun _ _ _ _ => trivial)⟩⟩ rfl hn hsize hst0 (lv_room hW) hdg ⟨hcs.1, hcs.2⟩) hA Wd is hC hu ha hws hst kk
theorem g_get {C : String} {T : u_T} {N ci index : Nat} (S : CallFix p m c cc nL s args Ts own) (hK : va_K D vwCl tys s) (Wd : gw D A H0 ws H locs) (hin : ∀ w ∈ u_ws C T N, w ∈ Ts) (q0 : Nat) {fs : List Value} (he : ws[q0]? = some (a, .inr (ci, fs))) (hc : vwCl[ci]? = some (C, T, N)) (k : Nat) (hk : Nat.blt k N = true) {f1 f2 f3 : String} {fin : Bool} (hT : T k = (f1, f2, f3, fin)) (hlink : Cond.fieldLink own index f1 f2 f3 ∈ Ts) {v : Value} (hv : fs[k]? = some v) (hdg : decode cc pc = .ok (.getfield index, 3))
    (kk : W p l e Rm s m args below meth c H locs cells slots Q (F0 m (pc + 3) ls (v :: rest))) : W p l e Rm s m args below meth c H locs cells slots Q (F0 m pc ls (.ref a :: rest)) :=
  va_get (ref := (T k).1) S.1 S.2.1 S.2.2.2.2 hin S.2.2.2.1 hK Wd.1 q0 he hc k (Nat.blt_eq.mp hk) (S.2.2.2.2 _ (by rw [hT]; exact hlink)) (fun _ h9 => h9) hv hdg kk
theorem g_put {C : String} {T : u_T} {N ci index : Nat} (S : CallFix p m c cc nL s args Ts own) (hK : va_K D vwCl tys s) (Wd : gw D A H0 ws H locs) (hin : ∀ w ∈ u_ws C T N, w ∈ Ts) (ty0 : Nat → FieldType) (hty : ∀ k, k < N → parseFieldDescriptor (T k).2.2.1 = some (ty0 k)) (hnm : ∀ a, a < N → ∀ b, b < N → a ≠ b → (T a).2.1 ≠ (T b).2.1) (q0 : Nat) {fs : List Value} (he : ws[q0]? = some (a, .inr (ci, fs))) (hc : vwCl[ci]? = some (C, T, N)) (k : Nat) (hk : Nat.blt k N = true) {f1 f2 f3 : String} (hT : T k = (f1, f2, f3, false)) (hlink : Cond.fieldLink own index f1 f2 f3 ∈ Ts) {v : Value} (hn : narrow (ty0 k) v = v) (hfit : fits (ty0 k) v = true) (hl : Nat.blt k fs.length = true)
    (hdg : decode cc pc = .ok (.putfield index, 3)) (hws : ws.set q0 (a, .inr (ci, fs.set k v)) = ws') (kk : ∀ (H1 : Heap) (locs1 : List Loc), gw D A H0 ws' H1 locs1 → W p l e Rm s m args below meth c H1 locs1 cells slots Q (F0 m (pc + 3) ls rest)) : W p l e Rm s m args below meth c H locs cells slots Q (F0 m pc ls (v :: .ref a :: rest)) := by
  subst hws
  exact va_put (ref := (T k).1) S.1 S.2.1 S.2.2.2.2 hin ty0 hty hnm S.2.2.2.1 hK Wd.1 Wd.2.1 Wd.2.2 q0 he hc k (Nat.blt_eq.mp hk) (S.2.2.2.2 _ (by rw [hT]; exact hlink)) (fun _ h9 => h9) (by rw [hT]) (hty k (Nat.blt_eq.mp hk)) hn hfit (Nat.blt_eq.mp hl) hdg (fun H1 locs1 h1 h2 h3 => kk H1 locs1 ⟨h1, h2, h3⟩)
theorem g_iald (S : CallFix p m c cc nL s args Ts own) (hK : va_K D vwCl tys s) (Wd : gw D A H0 ws H locs) (q0 t0 : Nat) {cA : ClassId} {n : Nat} {f : Nat → Int32} (ha : ws[q0]? = some (a, .inl (cA, n, .inl f))) (ht : tys[t0]? = some (cA, .int)) {i : Int32} (hin : vp_in i n) (hdg : decode cc pc = .ok (.iaload, 1))
    (kk : W p l e Rm s m args below meth c H locs cells slots Q (F0 m (pc + 1) ls (.int (f i.toNatClampNeg) :: rest))) : W p l e Rm s m args below meth c H locs cells slots Q (F0 m pc ls (.int i :: .ref a :: rest)) := va_iald S.1 S.2.1 hK Wd.1 q0 t0 ha ht hin hdg kk
theorem g_bald (S : CallFix p m c cc nL s args Ts own) (hK : va_K D vwCl tys s) (Wd : gw D A H0 ws H locs) (q0 t0 : Nat) {cA : ClassId} {n : Nat} {f : Nat → Int32} (ha : ws[q0]? = some (a, .inl (cA, n, .inl f))) (ht : tys[t0]? = some (cA, .byte)) {i : Int32} (hin : vp_in i n) (hdg : decode cc pc = .ok (.baload, 1))
    (kk : W p l e Rm s m args below meth c H locs cells slots Q (F0 m (pc + 1) ls (.int (f i.toNatClampNeg) :: rest))) : W p l e Rm s m args below meth c H locs cells slots Q (F0 m pc ls (.int i :: .ref a :: rest)) := va_bald S.1 S.2.1 hK Wd.1 q0 t0 ha ht hin hdg kk
theorem g_zald (S : CallFix p m c cc nL s args Ts own) (hK : va_K D vwCl tys s) (Wd : gw D A H0 ws H locs) (q0 t0 : Nat) {cA : ClassId} {n : Nat} {f : Nat → Int32} (ha : ws[q0]? = some (a, .inl (cA, n, .inl f))) (ht : tys[t0]? = some (cA, .boolean)) {i : Int32} (hin : vp_in i n) (hdg : decode cc pc = .ok (.baload, 1))
    (kk : W p l e Rm s m args below meth c H locs cells slots Q (F0 m (pc + 1) ls (.int (f i.toNatClampNeg) :: rest))) : W p l e Rm s m args below meth c H locs cells slots Q (F0 m pc ls (.int i :: .ref a :: rest)) := va_zald S.1 S.2.1 hK Wd.1 q0 t0 ha ht hin hdg kk
theorem g_aldq {C : String} (S : CallFix p m c cc nL s args Ts own) (hK : va_K D vwCl tys s) (Wd : gw D A H0 ws H locs) (q0 t0 : Nat) {cA : ClassId} {n : Nat} {f : Nat → Option Nat} (ha : ws[q0]? = some (a, .inl (cA, n, .inr (.inr (.inr (.inr f)))))) (ht : tys[t0]? = some (cA, .object C)) {i : Int32} (hin : vp_in i n) {x : Nat} (hx : f i.toNatClampNeg = some x) (hdg : decode cc pc = .ok (.aaload, 1))
    (kk : W p l e Rm s m args below meth c H locs cells slots Q (F0 m (pc + 1) ls (.ref x :: rest))) : W p l e Rm s m args below meth c H locs cells slots Q (F0 m pc ls (.int i :: .ref a :: rest)) := va_aldq S.1 S.2.1 hK Wd.1 q0 t0 ha ht hin hdg (by rw [hx]; exact kk)
theorem g_aldA {ty : FieldType} (S : CallFix p m c cc nL s args Ts own) (hK : va_K D vwCl tys s) (Wd : gw D A H0 ws H locs) (q0 t0 : Nat) {cA : ClassId} {n : Nat} {f : Nat → Option Nat} (ha : ws[q0]? = some (a, .inl (cA, n, .inr (.inr (.inr (.inr f)))))) (ht : tys[t0]? = some (cA, .array ty)) {i : Int32} (hin : vp_in i n) {x : Nat} (hx : f i.toNatClampNeg = some x) (hdg : decode cc pc = .ok (.aaload, 1))
    (kk : W p l e Rm s m args below meth c H locs cells slots Q (F0 m (pc + 1) ls (.ref x :: rest))) : W p l e Rm s m args below meth c H locs cells slots Q (F0 m pc ls (.int i :: .ref a :: rest)) := by
  have hlt : i.toNatClampNeg < n := Nat.not_le.mp fun q => hin (Or.inr q)
  refine W.aald (v := va_rf (f i.toNatClampNeg)) (ty := .array ty) S.1 S.2.1 (Wd.1 q0 _ ha) ((hK.2 t0 _ ht).1 n (fun j => va_rf (f j))) rfl (fun q => by cases q) (by show ¬ (i < 0 ∨ (arrV _ _ _).slots.size ≤ _); rw [arrV_size]; exact hin) (by show (arrV _ _ _).slots[_]? = _; rw [arrV_read _ _ hlt]) rfl rfl hdg ?_
  rw [hx]
  exact kk
theorem g_iast (S : CallFix p m c cc nL s args Ts own) (hK : va_K D vwCl tys s) (Wd : gw D A H0 ws H locs) (q0 t0 : Nat) {cA : ClassId} {n : Nat} {f : Nat → Int32} (ha : ws[q0]? = some (a, .inl (cA, n, .inl f))) (ht : tys[t0]? = some (cA, .int)) {i x : Int32} (hin : vp_in i n) (hdg : decode cc pc = .ok (.iastore, 1))
    (hws : ws.set q0 (a, .inl (cA, n, .inl (upd f i.toNatClampNeg x))) = ws') (kk : ∀ (H1 : Heap) (locs1 : List Loc), gw D A H0 ws' H1 locs1 → W p l e Rm s m args below meth c H1 locs1 cells slots Q (F0 m (pc + 1) ls rest)) : W p l e Rm s m args below meth c H locs cells slots Q (F0 m pc ls (.int x :: .int i :: .ref a :: rest)) := by
  subst hws
  exact va_iast S.1 S.2.1 hK Wd.1 Wd.2.1 Wd.2.2 q0 t0 ha ht hin hdg (fun H1 locs1 h1 h2 h3 => kk H1 locs1 ⟨h1, h2, h3⟩)
theorem g_bast (S : CallFix p m c cc nL s args Ts own) (hK : va_K D vwCl tys s) (Wd : gw D A H0 ws H locs) (q0 t0 : Nat) {cA : ClassId} {n : Nat} {f : Nat → Int32} (ha : ws[q0]? = some (a, .inl (cA, n, .inl f))) (ht : tys[t0]? = some (cA, .byte)) {i x : Int32} (hin : vp_in i n) (hdg : decode cc pc = .ok (.bastore, 1))
    (hws : ws.set q0 (a, .inl (cA, n, .inl (upd f i.toNatClampNeg (vp_nar .byte x)))) = ws') (kk : ∀ (H1 : Heap) (locs1 : List Loc), gw D A H0 ws' H1 locs1 → W p l e Rm s m args below meth c H1 locs1 cells slots Q (F0 m (pc + 1) ls rest)) : W p l e Rm s m args below meth c H locs cells slots Q (F0 m pc ls (.int x :: .int i :: .ref a :: rest)) := by
  subst hws
  exact va_bast S.1 S.2.1 hK Wd.1 Wd.2.1 Wd.2.2 q0 t0 ha ht hin hdg (fun H1 locs1 h1 h2 h3 => kk H1 locs1 ⟨h1, h2, h3⟩)
theorem g_zast (S : CallFix p m c cc nL s args Ts own) (hK : va_K D vwCl tys s) (Wd : gw D A H0 ws H locs) (q0 t0 : Nat) {cA : ClassId} {n : Nat} {f : Nat → Int32} (ha : ws[q0]? = some (a, .inl (cA, n, .inl f))) (ht : tys[t0]? = some (cA, .boolean)) {i x : Int32} (hin : vp_in i n) (hdg : decode cc pc = .ok (.bastore, 1))
    (hws : ws.set q0 (a, .inl (cA, n, .inl (upd f i.toNatClampNeg (vp_nar .boolean x)))) = ws') (kk : ∀ (H1 : Heap) (locs1 : List Loc), gw D A H0 ws' H1 locs1 → W p l e Rm s m args below meth c H1 locs1 cells slots Q (F0 m (pc + 1) ls rest)) : W p l e Rm s m args below meth c H locs cells slots Q (F0 m pc ls (.int x :: .int i :: .ref a :: rest)) := by
  subst hws
  exact va_zast S.1 S.2.1 hK Wd.1 Wd.2.1 Wd.2.2 q0 t0 ha ht hin hdg (fun H1 locs1 h1 h2 h3 => kk H1 locs1 ⟨h1, h2, h3⟩)
/-- a switch, by the number that it reads -/
theorem g_tabIn {dflt lo hi : Int} {offs : Array Int} {len : Nat} {x k : Int32} {off : Int} {tgt : Nat} (S : CallFix p m c cc nL s args Ts own) (hx : x = k) (hdg : decode cc pc = .ok (.tableswitch dflt lo hi offs, len)) (h1 : ¬ k.toInt < lo) (h2 : ¬ hi < k.toInt) (ho : offs[(k.toInt - lo).toNat]? = some off) (ht : (pc : Int) + off = (tgt : Int))
    (kk : W p l e Rm s m args below meth c H locs cells slots Q (F0 m tgt ls rest)) : W p l e Rm s m args below meth c H locs cells slots Q (F0 m pc ls (.int x :: rest)) := by
  subst hx
  exact lv_tableIn S.1 S.2.1 hdg h1 h2 ho ht kk
end GK
theorem g_if {α : Type} {c : Prop} [Decidable c] {F A B : α} (hf : F = if c then A else B) (h : c) : F = A := hf.trans (if_pos h)
theorem g_ifn {α : Type} {c : Prop} [Decidable c] {F A B : α} (hf : F = if c then A else B) (h : ¬ c) : F = B := hf.trans (if_neg h)
/-- the pure function's own test of an index -/
def gi {R : Type} (i : Int32) (n : Nat) (k : Option R) : Option R := if i < 0 ∨ n ≤ i.toNatClampNeg then none else k
theorem g_gi {R : Type} {F k : Option R} {i : Int32} {n : Nat} (hF : F ≠ none) (hf : F = gi i n k) : vp_in i n ∧ F = k := by
  unfold gi at hf
  by_cases h : i < 0 ∨ n ≤ i.toNatClampNeg
  · rw [if_pos h] at hf
    exact absurd hf hF
  · rw [if_neg h] at hf
    exact ⟨h, hf⟩
/-- .. of a thing that has to hold -/
def gc {R : Type} (c : Prop) [Decidable c] (k : Option R) : Option R := if c then k else none
theorem g_gc {R : Type} {c : Prop} [Decidable c] {F k : Option R} (hF : F ≠ none) (hf : F = gc c k) : c ∧ F = k := by
  unfold gc at hf
  by_cases h : c
  · rw [if_pos h] at hf
    exact ⟨h, hf⟩
  · rw [if_neg h] at hf
    exact absurd hf hF
theorem g_bind {R T : Type} {F : Option R} {x : Option T} {k : T → Option R} (hF : F ≠ none) (hf : F = x.bind k) : ∃ u, x = some u ∧ F = k u := by
  cases x with
  | none => exact absurd hf hF
  | some u => exact ⟨u, rfl, hf⟩
/-- no index of a table is meant -/
theorem g_ne {x k : Int32} (h : ¬ x = k) : x.toInt ≠ k.toInt := fun e => h (Int32.toInt_inj.mp e)
abbrev gT (cI cB cZ cM cJ cK : ClassId) : List (ClassId × FieldType) := [(cI, .int), (cB, .byte), (cZ, .boolean), (cM, .object "FeastMarch$March"), (cJ, .object "FeastMarch$Image"), (cK, .array .int)]
/-! families: arrays whose elements are cells of one kind -/
def famR (n : Nat) (r : Nat → Nat) : Nat → Option Nat := fun k => if k < n then some (r k) else none
def faC (cI : ClassId) (r : Nat → Nat) (f : Nat → Nat → Int32) : va_W := [(r 0, .inl (cI, 8, .inl (f 0))), (r 1, .inl (cI, 8, .inl (f 1))), (r 2, .inl (cI, 8, .inl (f 2))), (r 3, .inl (cI, 8, .inl (f 3))), (r 4, .inl (cI, 8, .inl (f 4))), (r 5, .inl (cI, 8, .inl (f 5))), (r 6, .inl (cI, 8, .inl (f 6))), (r 7, .inl (cI, 8, .inl (f 7)))]
def foE (r : Nat → Nat) (f : Nat → Nat → Int32) (k : Nat) : Nat × va_E := (r k, .inr (3, [.int (f k 0), .int (f k 1), .int (f k 2), .int (f k 3), .int (f k 4), .int (f k 5)]))
def foC (r : Nat → Nat) (f : Nat → Nat → Int32) : va_W := [foE r f 0, foE r f 1, foE r f 2, foE r f 3, foE r f 4, foE r f 5, foE r f 6, foE r f 7, foE r f 8, foE r f 9]
def saR (a b : Nat) : Nat → Option Nat := fun k => if k = 0 then some a else if k = 1 then some b else none
def rec6 (a b c d e f : Int32) : Nat → Int32 := fun k => if k = 0 then a else if k = 1 then b else if k = 2 then c else if k = 3 then d else if k = 4 then e else f
theorem g_lt {i : Int32} {n : Nat} (h : vp_in i n) : i.toNatClampNeg < n := Nat.not_le.mp fun q => h (Or.inr q)
theorem famR_at {n : Nat} {r : Nat → Nat} {k : Nat} (h : k < n) : famR n r k = some (r k) := if_pos h
theorem g_c8 {P : Nat → Prop} (h0 : P 0) (h1 : P 1) (h2 : P 2) (h3 : P 3) (h4 : P 4) (h5 : P 5) (h6 : P 6) (h7 : P 7) {j : Nat} (hj : j < 8) : P j := by
  rcases (show j = 0 ∨ j = 1 ∨ j = 2 ∨ j = 3 ∨ j = 4 ∨ j = 5 ∨ j = 6 ∨ j = 7 by omega) with rfl | rfl | rfl | rfl | rfl | rfl | rfl | rfl <;> assumption
theorem g_ten {j : Nat} (hj : j < 10) : j = 0 ∨ j = 1 ∨ j = 2 ∨ j = 3 ∨ j = 4 ∨ j = 5 ∨ j = 6 ∨ j = 7 ∨ j = 8 ∨ j = 9 := by omega
theorem g_c10 {P : Nat → Prop} (h0 : P 0) (h1 : P 1) (h2 : P 2) (h3 : P 3) (h4 : P 4) (h5 : P 5) (h6 : P 6) (h7 : P 7) (h8 : P 8) (h9 : P 9) {j : Nat} (hj : j < 10) : P j := by
  rcases g_ten hj with rfl | rfl | rfl | rfl | rfl | rfl | rfl | rfl | rfl | rfl <;> assumption
theorem g_cc10 {P : Nat → Nat → Prop} (h : ∀ i j : Nat, i < 10 → j < 10 → P i j) {i j : Nat} (hi : i < 10) (hj : j < 10) : P i j := h i j hi hj
theorem g_f8 {ws : va_W} {b : Nat} {g : Nat → Nat × va_E} (h0 : ws[b]? = some (g 0)) (h1 : ws[b + 1]? = some (g 1)) (h2 : ws[b + 2]? = some (g 2)) (h3 : ws[b + 3]? = some (g 3)) (h4 : ws[b + 4]? = some (g 4)) (h5 : ws[b + 5]? = some (g 5)) (h6 : ws[b + 6]? = some (g 6)) (h7 : ws[b + 7]? = some (g 7)) {j : Nat} (hj : j < 8) : ws[b + j]? = some (g j) := g_c8 (P := fun j => ws[b + j]? = some (g j)) h0 h1 h2 h3 h4 h5 h6 h7 hj
theorem g_f10 {ws : va_W} {b : Nat} {g : Nat → Nat × va_E} (h0 : ws[b]? = some (g 0)) (h1 : ws[b + 1]? = some (g 1)) (h2 : ws[b + 2]? = some (g 2)) (h3 : ws[b + 3]? = some (g 3)) (h4 : ws[b + 4]? = some (g 4)) (h5 : ws[b + 5]? = some (g 5)) (h6 : ws[b + 6]? = some (g 6)) (h7 : ws[b + 7]? = some (g 7)) (h8 : ws[b + 8]? = some (g 8)) (h9 : ws[b + 9]? = some (g 9)) {j : Nat} (hj : j < 10) : ws[b + j]? = some (g j) := g_c10 (P := fun j => ws[b + j]? = some (g j)) h0 h1 h2 h3 h4 h5 h6 h7 h8 h9 hj
theorem mapc {ws xs : va_W} {i : Nat} {is : List Nat} {x : Nat × va_E} (h : ws[i]? = some x) (h2 : is.map (fun i => ws[i]?) = xs.map some) : (i :: is).map (fun i => ws[i]?) = (x :: xs).map some := by
  rw [List.map_cons, List.map_cons, h, h2]
theorem g_nd2 {a b : Nat} (h : ¬ a = b) : va_nd [a, b] = true := by
  simp [va_nd, h]
section GK2
variable {p : Program} {l : Launch} {e : Env} {Rm : Room} {s : State} {m : MethodId} {args : Array Value} {below : List Frame} {meth : Method} {c : Code} {H : Heap} {locs : List Loc} {cells slots : Nat} {Q : State → Prop}
variable {cc : ByteArray} {pc nL : Nat} {ls : Array Slot} {rest st0 st1 : List Value} {D : va_G} {A : Nat → Prop} {a a0 : Nat} {tys : List (ClassId × FieldType)} {ws ws' : va_W} {H0 : Heap} {Ts : List Cond} {own : String}
theorem g_copy {index : Nat} {cA cB : ClassId} {n0 n1 : Nat} {f g : Nat → Int32} (S : CallFix p m c cc nL s args Ts own) (hK : va_K D vwCl tys s) (Wd : gw D A H0 ws H locs) (hsz : ls.size = nL) (hlink : (Cond.methodLink own index arraycopyName).before args s = true) (hnat : (Cond.native arraycopyName).before args s = true) (hstat : (Cond.static arraycopyName).before args s = true) (hini : (Cond.initialized "java/lang/System").before args s = true)
    (q0 q1 : Nat) (ha0 : ws[q0]? = some (a0, .inl (cA, n0, .inl f))) (ha1 : ws[q1]? = some (a, .inl (cB, n1, .inl g))) {sp dp n : Int32} (h1 : ¬ sp < 0) (h2 : ¬ dp < 0) (h3 : ¬ n < 0) (h4 : sp.toNatClampNeg + n.toNatClampNeg ≤ n0) (h5 : dp.toNatClampNeg + n.toNatClampNeg ≤ n1)
    (ht0 : tys[0]? = some (cA, .int)) (ht1 : tys[0]? = some (cB, .int)) (hframes : 1 ≤ Rm.frames) (hlocals : (rest.map fun v => v.category).sum + (nativeFrameWords "java/lang/System" "arraycopy" 5 + 11) ≤ Rm.locals) (hdg : decode cc pc = .ok (.invokestatic index, 3)) (hws : ws.set q1 (a, .inl (cB, n1, .inl (va_cpy f g sp.toNatClampNeg dp.toNatClampNeg n.toNatClampNeg))) = ws')
    (kk : ∀ (H1 : Heap) (locs1 : List Loc), gw D A H0 ws' H1 locs1 → W p l e Rm s m args below meth c H1 locs1 cells slots Q (F0 m (pc + 3) ls rest)) : W p l e Rm s m args below meth c H locs cells slots Q (F0 m pc ls (.int n :: .int dp :: .ref a :: .int sp :: .ref a0 :: rest)) := by
  subst hws
  exact va_copyi S.1 S.2.1 (S.2.2.1.trans hsz.symm) S.2.2.2.1 hlink hnat hstat hini hK Wd.1 Wd.2.1 Wd.2.2 q0 q1 0 0 ha0 ha1 ht0 ht1 rfl h1 h2 h3 h4 h5 (fun _ _ => rfl) hframes hlocals hdg (fun H1 locs1 h1 h2 h3 => kk H1 locs1 ⟨h1, h2, h3⟩)
end GK2
