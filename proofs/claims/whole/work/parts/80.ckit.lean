def va_AOA (ty : FieldType) (U : State) : Prop := (Cond.arrayOver (.array ty)).before #[] U = true
theorem va_AOA.use {ty : FieldType} {A : Array Value} {U : State} (h : va_AOA ty U) : (Cond.arrayOver (.array ty)).before A U = true := h
theorem va_AOA.moved {ty : FieldType} {u U : State} (hvm : u.vm.Alike U.vm) (h : va_AOA ty u) : va_AOA ty U := Cond.overAtom_setVm (args := #[]) hvm (.arrayOver (.array ty)) rfl h
/-! ===== BEGIN new T[n][m]: the outer array a place, the inner ones among the pooled ===== -/
/-- f, but v at every address of l -/
def vr_up {α : Type} (f : Nat → α) (l : List Nat) (v : α) : Nat → α := fun a => if a ∈ l then v else f a
theorem vr_up_in {α : Type} {f : Nat → α} {l : List Nat} {v : α} {a : Nat} (h : a ∈ l) : vr_up f l v a = v := if_pos h
theorem vr_up_ne {α : Type} {f : Nat → α} {l : List Nat} {v : α} {a : Nat} (h : a ∉ l) : vr_up f l v a = f a := if_neg h
theorem vr_rows {L l : List Nat} {f : Nat → va_E} {e : va_E} (h : ∀ a, a ∈ l → a ∉ L) : va_pl L f ++ l.map (fun a => (a, e)) = va_pl (L ++ l) (vr_up f l e) := by
  unfold va_pl
  rw [List.map_append]
  congr 1
  · apply List.map_congr_left
    intro a ha
    rw [vr_up_ne (fun q => h a q ha)]
  · apply List.map_congr_left
    intro a ha
    rw [vr_up_in ha]
theorem vr_lay {X rows : va_W} {x : Nat × va_E} {pl : va_W} {D : va_G} {cl : List vw_C} {H : Heap} (hP : va_P D cl (((X ++ pl) ++ [x]) ++ rows) H) : va_P D cl ((X ++ [x]) ++ (pl ++ rows)) H := by
  rw [List.append_assoc (X ++ pl)] at hP
  have h := va_P.swap hP
  rw [← List.append_assoc X] at h
  have h2 := va_P.swap h
  rw [List.append_assoc (X ++ [x])] at h2
  exact h2
theorem vr_layD {X rows : va_W} {x : Nat × va_E} {pl : va_W} {A : Nat → Prop} (hD : va_D A (((X ++ pl) ++ [x]) ++ rows)) : va_D A ((X ++ [x]) ++ (pl ++ rows)) := by
  rw [List.append_assoc (X ++ pl)] at hD
  have h := va_D.swap hD
  rw [← List.append_assoc X] at h
  have h2 := va_D.swap h
  rw [List.append_assoc (X ++ [x])] at h2
  exact h2
theorem vr_outer (c : ClassId) (N h0 : Nat) : ∀ i : Nat, Jvm.Free.Multi.outerC c N h0 i = arrV c N (fun j => va_rf (if j < i then some (h0 + 1 + j) else none))
  | 0 => by
    show ({ cls := c, slots := Array.replicate N .null, vm := .none } : Cell) = _
    rw [arrV_new]
    refine congrArg (arrV c N) (funext fun j => ?_)
    simp [va_rf]
  | i + 1 => by
    show (Jvm.Free.Multi.outerC c N h0 i).setSlot i (.ref (h0 + 1 + i)) = _
    rw [vr_outer c N h0 i, arrV_store]
    refine congrArg (arrV c N) (funext fun j => ?_)
    by_cases e : j = i
    · subst e
      simp [updV, va_rf]
    · by_cases h : j < i
      · simp [updV, e, h, Nat.lt_succ_of_lt h]
      · simp [updV, e, h, show ¬ j < i + 1 by omega]
section VGM
variable {p : Program} {l : Launch} {e : Env} {R : Room} {s : State} {m : MethodId} {args : Array Value} {below : List Frame} {meth : Method} {c : Code} {H : Heap} {locs : List Loc} {cells slots : Nat} {Q : State → Prop}
variable {cc : ByteArray} {pc : Nat} {ls : Array Slot} {rest : List Value} {D : va_G} {cl : List vw_C} {A : Nat → Prop} {a : Nat} {tys : List (ClassId × FieldType)} {ws : va_W} {H0 : Heap}
theorem va_mna {X : va_W} {L : List Nat} {f : Nat → va_E} {cc : ByteArray} (hexec : p.tables.exec = Jvm.exec) (hb : c.code = cc) {own : String} {index : Nat} {ty : FieldType} {cy : ClassId} (hown : s.vm.findClass own = some m.cls) (hclink : (Cond.classLink own index ("[" ++ (FieldType.array ty).toString)).before args s = true) (hover : va_AOA ty s) (harr : (Cond.arrayClass ty).before args s = true) (hcy : s.vm.findClass (FieldType.array ty).toString = some cy)
    (hK : va_K D cl tys s) (hP : va_P D cl (X ++ va_pl L f) H) (hD : va_D A (X ++ va_pl L f)) (hS : va_S A H0 H locs) (hA : ∀ q, H0.size ≤ q → A q) {n k : Int32} {N' K' : Nat} {z : vp_A} (hn : ¬ n < 0) (hk : ¬ k < 0) (hN : n.toNatClampNeg = N') (hM : k.toNatClampNeg = K')
    (hb1 : N' * 4 ≤ 536870912) (hb2 : K' * componentBytes ty ≤ 536870912) (hb3 : K' ≤ 536870912) (hdf : fits ty (defaultValue ty) = true) (hdd : (defaultValue ty).isDefault = true) (hcells : cells + (1 + N') ≤ R.cells) (hslots : slots + (N' + N' * K') ≤ R.slots) (hz : ∀ c : ClassId, Jvm.Free.Multi.innerC c K' (defaultValue ty) = vp_cell c z) (hdg : decode cc pc = .ok (.multianewarray index 2, 4))
    (kk : ∀ (q : Nat) (r : Nat → Nat) (cA : ClassId) (H1 : Heap), (∀ i j : Nat, i < N' → j < N' → r i = r j → i = j) → (∀ i : Nat, i < N' → r i ∉ L) → va_K D cl (tys ++ [(cA, .array ty)]) s →
      va_P D cl ((X ++ [(q, .inl (cA, N', .inr (.inr (.inr (.inr (fun i => if i < N' then some (r i) else none))))))]) ++ va_pl (L ++ (List.range N').map r) (vr_up f ((List.range N').map r) (.inl (cy, z)))) H1 → va_D A ((X ++ [(q, .inl (cA, N', .inr (.inr (.inr (.inr (fun i => if i < N' then some (r i) else none))))))]) ++ va_pl (L ++ (List.range N').map r) (vr_up f ((List.range N').map r) (.inl (cy, z)))) → va_S A H0 H1 locs →
      W p l e R s m args below meth c H1 locs (cells + 1 + N') (slots + N' + N' * K') Q (F0 m (pc + 4) ls (.ref q :: rest))) : W p l e R s m args below meth c H locs cells slots Q (F0 m pc ls (.int k :: .int n :: rest)) := by
  subst hN
  subst hM
  intro T hT Xs
  obtain ⟨vm₁, cA, comp, -, fA, fC, hO, -, X', step⟩ := Xs.multianewarray2F hexec hown hclink (va_AOA.use hover) harr (g := F0 m pc ls (.int k :: .int n :: rest)) rfl (by rw [hb]; exact hdg) rfl hn hk hb1 hb2 hb3 hdf hdd hcells hslots
  have ec : some cy = some comp := hcy.symm.trans fC
  cases ec
  generalize hF : Jvm.Free.Multi.fill (T.setVm vm₁) cA cy n.toNatClampNeg k.toNatClampNeg (defaultValue ty) n.toNatClampNeg = F at X' step
  have hTh : (T.setVm vm₁).heap = H := hT
  obtain ⟨f1, f2, -, -⟩ := Jvm.Free.Multi.fill_facts (T.setVm vm₁) cA cy n.toNatClampNeg k.toNatClampNeg (defaultValue ty) n.toNatClampNeg
  rw [hF, hTh] at f1 f2
  have hold : ∀ x : Nat, x < H.size → F.heap[x]? = H[x]? := fun x hx => by
    have := Jvm.Free.Multi.fill_old (T.setVm vm₁) cA cy n.toNatClampNeg k.toNatClampNeg (defaultValue ty) (a := x) (by rw [hTh]; exact hx) n.toNatClampNeg
    rw [hF, hTh] at this
    exact this
  have hrow : ∀ j : Nat, j < n.toNatClampNeg → F.heap[H.size + 1 + j]? = some (vp_cell cy z) := fun j hj => by
    have := Jvm.Free.Multi.fill_inner (T.setVm vm₁) cA cy n.toNatClampNeg k.toNatClampNeg (defaultValue ty) n.toNatClampNeg j hj
    rw [hF, hTh, hz] at this
    exact this
  have hout : Jvm.Free.Multi.outerC cA n.toNatClampNeg H.size n.toNatClampNeg = vp_cell cA (n.toNatClampNeg, .inr (.inr (.inr (.inr (fun i => if i < n.toNatClampNeg then some (H.size + 1 + i) else none))))) := by
    rw [vp_cell_q]
    exact vr_outer cA n.toNatClampNeg H.size n.toNatClampNeg
  rw [hout] at f2
  have hlt : ∀ a, a ∈ L → a < H.size := fun a ha => by
    obtain ⟨k9, hk9⟩ := va_pl_get (X := X) (f := f) ha
    exact (hP k9 _ hk9).lt
  have hnl : ∀ i : Nat, i < n.toNatClampNeg → H.size + 1 + i ∉ L := fun i _ h => by
    have := hlt _ h
    omega
  have hnm : ∀ a, a ∈ (List.range n.toNatClampNeg).map (fun i => H.size + 1 + i) → a ∉ L := fun a ha h => by
    obtain ⟨i, -, rfl⟩ := List.mem_map.mp ha
    have := hlt _ h
    omega
  have hP0 : va_P D cl (X ++ va_pl L f) F.heap := hP.kept (fun k9 x hx => hold x.1 ((hP k9 x hx).lt))
  have hP1 : va_P D cl ((X ++ va_pl L f) ++ [(H.size, .inl (cA, n.toNatClampNeg, .inr (.inr (.inr (.inr (fun i => if i < n.toNatClampNeg then some (H.size + 1 + i) else none))))))]) F.heap := hP0.app (fun k9 x hx => by
    have h0 : k9 < 1 := (List.getElem?_eq_some_iff.mp hx).1
    rw [show k9 = 0 by omega] at hx
    cases hx
    exact f2)
  have hP2 : va_P D cl (((X ++ va_pl L f) ++ [(H.size, .inl (cA, n.toNatClampNeg, .inr (.inr (.inr (.inr (fun i => if i < n.toNatClampNeg then some (H.size + 1 + i) else none))))))]) ++ ((List.range n.toNatClampNeg).map (fun i => H.size + 1 + i)).map (fun a => (a, .inl (cy, z)))) F.heap := hP1.app (fun k9 x hx => by
    obtain ⟨a, ha, rfl⟩ := List.mem_map.mp (List.mem_of_getElem? hx)
    obtain ⟨i, hi, rfl⟩ := List.mem_map.mp ha
    exact hrow i (List.mem_range.mp hi))
  have hD2 : va_D A (((X ++ va_pl L f) ++ [(H.size, .inl (cA, n.toNatClampNeg, .inr (.inr (.inr (.inr (fun i => if i < n.toNatClampNeg then some (H.size + 1 + i) else none))))))]) ++ ((List.range n.toNatClampNeg).map (fun i => H.size + 1 + i)).map (fun a => (a, .inl (cy, z)))) := by
    have hD1 := hD.push (e := .inl (cA, n.toNatClampNeg, .inr (.inr (.inr (.inr (fun i => if i < n.toNatClampNeg then some (H.size + 1 + i) else none)))))) hP rfl (hA _ hS.1)
    generalize hW1 : (X ++ va_pl L f) ++ [(H.size, .inl (cA, n.toNatClampNeg, .inr (.inr (.inr (.inr (fun i => if i < n.toNatClampNeg then some (H.size + 1 + i) else none))))))] = W1 at hD1 hP1 ⊢
    have hle : ∀ (k9 : Nat) (x : Nat × va_E), W1[k9]? = some x → x.1 ≤ H.size := fun k9 x hx => by
      rw [← hW1] at hx
      by_cases hl : k9 < (X ++ va_pl L f).length
      · rw [List.getElem?_append_left hl] at hx
        exact Nat.le_of_lt ((hP k9 x hx).lt)
      · rw [List.getElem?_append_right (by omega)] at hx
        have h0 : k9 - (X ++ va_pl L f).length < 1 := (List.getElem?_eq_some_iff.mp hx).1
        rw [show k9 - (X ++ va_pl L f).length = 0 by omega] at hx
        cases hx
        exact Nat.le_refl _
    have hr : ∀ (k9 : Nat) (x : Nat × va_E), (((List.range n.toNatClampNeg).map (fun i => H.size + 1 + i)).map (fun a => ((a, .inl (cy, z)) : Nat × va_E)))[k9]? = some x → x.1 = H.size + 1 + k9 := fun k9 x hx => by
      rw [List.getElem?_map, List.getElem?_map] at hx
      by_cases h9 : k9 < n.toNatClampNeg
      · rw [List.getElem?_range h9] at hx
        cases hx
        rfl
      · have hn0 : (List.range n.toNatClampNeg)[k9]? = none := List.getElem?_eq_none (by rw [List.length_range]; omega)
        rw [hn0] at hx
        cases hx
    refine ⟨fun i j x y hi hj hxy => ?_, fun k9 x hx => ?_⟩
    · by_cases h1 : i < W1.length <;> by_cases h2 : j < W1.length
      · rw [List.getElem?_append_left h1] at hi
        rw [List.getElem?_append_left h2] at hj
        exact hD1.1 i j x y hi hj hxy
      · rw [List.getElem?_append_left h1] at hi
        rw [List.getElem?_append_right (by omega)] at hj
        have := hle _ _ hi
        have := hr _ _ hj
        omega
      · rw [List.getElem?_append_right (by omega)] at hi
        rw [List.getElem?_append_left h2] at hj
        have := hle _ _ hj
        have := hr _ _ hi
        omega
      · rw [List.getElem?_append_right (by omega)] at hi hj
        have := hr _ _ hi
        have := hr _ _ hj
        omega
    · by_cases h1 : k9 < W1.length
      · rw [List.getElem?_append_left h1] at hx
        exact hD1.2 k9 x hx
      · rw [List.getElem?_append_right (by omega)] at hx
        have := hr _ _ hx
        exact hA _ (by have := hS.1; omega)
  have hAr : ArrOfT s cA (.array ty) := fun N9 z9 => by
    obtain ⟨-, k9, hk9, cm9, hkk9⟩ := (hO 0 0 0).1
    exact ⟨(fun q hq => by cases hq), k9, hk9, cm9, hkk9⟩
  have hK2 : va_K D cl (tys ++ [(cA, .array ty)]) s := ⟨hK.1, fun k9 x hx => by
    by_cases hl : k9 < tys.length
    · rw [List.getElem?_append_left hl] at hx
      exact hK.2 k9 x hx
    · rw [List.getElem?_append_right (by omega)] at hx
      have h0 : k9 - tys.length < 1 := (List.getElem?_eq_some_iff.mp hx).1
      rw [show k9 - tys.length = 0 by omega] at hx
      cases hx
      exact ⟨hAr, fA⟩⟩
  obtain ⟨t, a1, b1⟩ := kk H.size (fun i => H.size + 1 + i) cA F.heap (fun i j _ _ h => by have h9 : H.size + 1 + i = H.size + 1 + j := h; omega) hnl hK2 (by rw [← vr_rows hnm]; exact vr_lay hP2) (by rw [← vr_rows hnm]; exact vr_layD hD2) ⟨by rw [f1]; have := hS.1; omega, fun x h1 h2 => (hold x (Nat.lt_of_lt_of_le h1 hS.1)).trans (hS.2.1 x h1 h2), hS.2.2⟩ F rfl X'
  refine ⟨t, step t ?_, b1⟩
  have e : T.heap.size = H.size := by rw [hT]
  rw [e]
  exact a1
end VGM
/-! ===== END ===== -/
/-- what the makers ask of the tables beside their words -/
def gE (U : State) : Prop := va_AO "FeastMarch$March" U ∧ va_AO "FeastMarch$Image" U ∧ va_AOA .int U ∧ va_Nw (.methodLinkNest RX1 17 yX3_init "FeastMarch") U ∧ va_Nw (.methodLinkNest RX2 9 yX3_init "FeastMarch") U ∧ va_Nw (.methodLinkNest RX5 20 yX3_init "FeastMarch") U ∧ va_Nw (.methodLinkNest RX6 23 yX3_init "FeastMarch") U ∧ va_Nw (.methodLinkNest RX9 11 yX8_init "FeastMarch") U ∧ va_Nw (.methodLinkNest RX9 18 yX0_init "FeastMarch") U ∧ va_Nw (.methodLinkNest RX9 28 yX3_init "FeastMarch") U ∧ va_Nw (.methodLinkNest RX9 48 yX6_init "FeastMarch") U ∧ va_Nw (.methodLinkNest RX9 55 yX4_init "FeastMarch") U ∧ va_Nw (.methodLinkNest RX9 62 yX7_init "FeastMarch") U ∧ va_Nw (.methodLinkNest RX9 69 yX5_init "FeastMarch") U ∧ va_Nw (.methodLinkNest RX9 74 yX2_init "FeastMarch") U
theorem gE.warm {s U : State} (hW : s.WarmedH U.vm) (h : gE s) : gE U := ⟨h.1.moved hW.alike, h.2.1.moved hW.alike, h.2.2.1.moved hW.alike, va_Nw.warmM hW (h.2.2.2.1), va_Nw.warmM hW (h.2.2.2.2.1), va_Nw.warmM hW (h.2.2.2.2.2.1), va_Nw.warmM hW (h.2.2.2.2.2.2.1), va_Nw.warmM hW (h.2.2.2.2.2.2.2.1), va_Nw.warmM hW (h.2.2.2.2.2.2.2.2.1), va_Nw.warmM hW (h.2.2.2.2.2.2.2.2.2.1), va_Nw.warmM hW (h.2.2.2.2.2.2.2.2.2.2.1), va_Nw.warmM hW (h.2.2.2.2.2.2.2.2.2.2.2.1), va_Nw.warmM hW (h.2.2.2.2.2.2.2.2.2.2.2.2.1), va_Nw.warmM hW (h.2.2.2.2.2.2.2.2.2.2.2.2.2.1), va_Nw.warmM hW (h.2.2.2.2.2.2.2.2.2.2.2.2.2.2)⟩
theorem gE.same {u U : State} (e : u.vm = U.vm) (h : gE u) : gE U := ⟨h.1.moved (e ▸ Vm.Alike.refl u.vm), h.2.1.moved (e ▸ Vm.Alike.refl u.vm), h.2.2.1.moved (e ▸ Vm.Alike.refl u.vm), va_Nw.same rfl e (h.2.2.2.1), va_Nw.same rfl e (h.2.2.2.2.1), va_Nw.same rfl e (h.2.2.2.2.2.1), va_Nw.same rfl e (h.2.2.2.2.2.2.1), va_Nw.same rfl e (h.2.2.2.2.2.2.2.1), va_Nw.same rfl e (h.2.2.2.2.2.2.2.2.1), va_Nw.same rfl e (h.2.2.2.2.2.2.2.2.2.1), va_Nw.same rfl e (h.2.2.2.2.2.2.2.2.2.2.1), va_Nw.same rfl e (h.2.2.2.2.2.2.2.2.2.2.2.1), va_Nw.same rfl e (h.2.2.2.2.2.2.2.2.2.2.2.2.1), va_Nw.same rfl e (h.2.2.2.2.2.2.2.2.2.2.2.2.2.1), va_Nw.same rfl e (h.2.2.2.2.2.2.2.2.2.2.2.2.2.2)⟩
def gQN (P : List va_W → Prop) (D : va_G) (A : Nat → Prop) : Array Value → State → Outcome → State → Prop := fun _ st oc t => (∃ w1, P w1 ∧ oc = .returned none ∧ va_P D vwCl w1.flatten t.heap ∧ va_D A w1.flatten) ∧ va_F A st t
def gPN (D : va_G) (tys : List (ClassId × FieldType)) (ws : List va_W) (sz : Nat) : State → Prop := fun U => gP D tys ws sz U ∧ gE U
def gN (l : Launch) (y : MethodName) (wsy : List Cond) (rm : Room) (D : va_G) (tys : List (ClassId × FieldType)) (wc : List va_W) (av : List Value) (mc ms : Nat) (P : List va_W → Prop) : Prop :=
  ∀ sz : Nat, Met l y wsy rm (va_Pc av (gPN D tys wc sz)) (gQN P D (va_A wc.flatten sz)) mc ms (va_A wc.flatten sz)
theorem g_blindN {av : List Value} {D : va_G} {tys : List (ClassId × FieldType)} {ws : List va_W} {sz : Nat} : FrameBlind (va_Pc av (gPN D tys ws sz)) := fun a U g mk q => by
  obtain ⟨q0, ⟨q1, qP, qK, qD⟩, qE⟩ := q
  exact ⟨q0, ⟨q1, qP, va_K.moved (u := U) (U := U.calling g mk a) (Vm.Alike.refl U.vm) qK, qD⟩, qE.same (u := U) (U := U.calling g mk a) rfl⟩
theorem g_same {U : State} {c1 c2 : ClassId} {ty : FieldType} (h1 : va_RA U c1 ty) (h2 : va_RA U c2 ty) : c1 = c2 := by
  cases ty with
  | object C =>
    obtain ⟨_, _, -, -, -, h1⟩ := h1
    obtain ⟨_, _, -, -, -, h2⟩ := h2
    exact Option.some.inj (h1.symm.trans h2)
  | _ => exact Option.some.inj (Eq.trans (Eq.symm h1) h2)
theorem flat1 {ws : List va_W} {x : Nat × va_E} : (ws ++ [[x]]).flatten = ws.flatten ++ [x] := by simp
def r10 (a b c d e f g h i j : Nat) : Nat → Nat := fun k => if k = 0 then a else if k = 1 then b else if k = 2 then c else if k = 3 then d else if k = 4 then e else if k = 5 then f else if k = 6 then g else if k = 7 then h else if k = 8 then i else j
theorem fam10_of (a b c d e f g h i j : Nat) : va_up (va_up (va_up (va_up (va_up (va_up (va_up (va_up (va_up (va_up (fun _ => none) 0 (some a)) 1 (some b)) 2 (some c)) 3 (some d)) 4 (some e)) 5 (some f)) 6 (some g)) 7 (some h)) 8 (some i)) 9 (some j) = famR 10 (r10 a b c d e f g h i j) := by
  funext k
  by_cases hk : k < 10
  · rcases g_ten hk with rfl | rfl | rfl | rfl | rfl | rfl | rfl | rfl | rfl | rfl <;> rfl
  · simp only [va_up, famR, if_neg hk]
    repeat rw [if_neg (by omega)]
theorem saR_of (a b : Nat) : va_up (va_up (fun _ => none) 0 (some a)) 1 (some b) = saR a b := by
  funext k
  by_cases h0 : k = 0
  · subst h0; rfl
  · by_cases h1 : k = 1
    · subst h1; rfl
    · simp [va_up, saR, h0, h1]
section GN
variable {p : Program} {l : Launch} {e : Env} {Rm : Room} {s : State} {m : MethodId} {args : Array Value} {below : List Frame} {meth : Method} {c : Code} {H : Heap} {locs : List Loc} {cells slots cells' slots' : Nat} {Q : State → Prop}
variable {cc : ByteArray} {pc nL : Nat} {ls : Array Slot} {rest st0 : List Value} {D : va_G} {A : Nat → Prop} {a : Nat} {tys : List (ClassId × FieldType)} {ws wr : List va_W} {Ts : List Cond} {own : String}
theorem g_startN {y : MethodName} {wsy ws0 : List Cond} {rm : Room} {wc : List va_W} {av : List Value} {P : List va_W → Prop} {maxL mc ms : Nat} (hy : plainName y.cls = true) (hw : wsy = Cond.code y cc maxL none :: ws0) (hlen : (lg_sl av).length ≤ maxL)
    (body : ∀ (p : Program) (e : Env) (s : State) (m : MethodId) (below : List Frame) (meth : Method) (c : Code) (A : Nat → Prop) (ls : Array Slot), CallFix p m c cc maxL s av.toArray wsy y.cls → va_K D vwCl tys s → gE s → (∀ q : Nat, s.heap.size ≤ q → A q) → gw D A s.heap wc s.heap [] → meth.sig.returnType = none → meth.locks = false → meth.name = y.name → lv_has ls maxL (lv_args 0 av) →
      W p l e rm s m av.toArray below meth c s.heap [] 0 0 (MQ below (gQN P D A) av.toArray s mc ms A) (F0 m 0 ls [])) : gN l y wsy rm D tys wc av mc ms P := by
  intro sz
  refine Met.ofW (cc := cc) (maxL := maxL) (ret := none) hy hw ?_
  intro p e s m args below meth c s₁ B hml hv
  obtain ⟨rfl, ⟨hsz, hP, hK, hD0⟩, hE⟩ := hv
  subst hsz
  have hts := atoms_spec (ws := wsy) B.pre
  have hl := lv_entry av (n := maxL) hlen
  rw [lg_entry_eq]
  refine body p e s m below meth c (va_A wc.flatten s.heap.size) _ ⟨B.exec, B.bytes, hml, findClass_of_methodNamed B.named, hts⟩ hK hE (fun q h => Or.inr h) ⟨hP, hD0.self, va_S.rf⟩ B.returns B.notSynchronized (name_of_methodNamed B.named B.method).1 hl
theorem g_vretN {P : List va_W → Prop} (S : CallFix p m c cc nL s args Ts own) (Wd : gw D A s.heap ws H locs) (hr : meth.sig.returnType = none) (hlocks : meth.locks = false) (hdg : decode cc pc = .ok (.return_, 1)) (hP : P ws) :
    W p l e Rm s m args below meth c H locs cells slots (MQ below (gQN P D A) args s cells slots A) (F0 m pc ls []) := by
  refine W.vret S.1 S.2.1 hr (fun t ht _ => ?_) Wd.2.2.2.2 hdg hlocks
  exact ⟨⟨ws, hP, rfl, by rw [ht]; exact Wd.1, Wd.2.1⟩, Wd.2.2.F ht⟩
theorem g_putF {C : String} {T : u_T} {N ci index : Nat} {ws' : List va_W} (S : CallFix p m c cc nL s args Ts own) (hK : va_K D vwCl tys s) (Wd : gw D A s.heap ws H locs) (hin : ∀ w ∈ u_ws C T N, w ∈ Ts) (ty0 : Nat → FieldType) (hty : ∀ k, k < N → parseFieldDescriptor (T k).2.2.1 = some (ty0 k)) (hnm : ∀ a, a < N → ∀ b, b < N → a ≠ b → (T a).2.1 ≠ (T b).2.1) (q0 : Nat) {fs : List Value} (he : ws[q0]? = some [(a, .inr (ci, fs))]) (hc : vwCl[ci]? = some (C, T, N)) (k : Nat) (hk : Nat.blt k N = true) {f1 f2 f3 : String} (hT : T k = (f1, f2, f3, true)) (hlink : Cond.fieldLink own index f1 f2 f3 ∈ Ts) (hin2 : meth.name = "<init>") (hdecl : (T k).1 = own) {v : Value} (hn : narrow (ty0 k) v = v) (hfit : fits (ty0 k) v = true) (hl : Nat.blt k fs.length = true)
    (hdg : decode cc pc = .ok (.putfield index, 3)) (hws : ws.set q0 [(a, .inr (ci, fs.set k v))] = ws') (kk : ∀ (H1 : Heap) (locs1 : List Loc), gw D A s.heap ws' H1 locs1 → W p l e Rm s m args below meth c H1 locs1 cells slots Q (F0 m (pc + 3) ls rest)) : W p l e Rm s m args below meth c H locs cells slots Q (F0 m pc ls (v :: .ref a :: rest)) := by
  subst hws
  obtain ⟨q1, hq1, hset⟩ := blk1 he
  exact va_putF (ref := (T k).1) S.1 S.2.1 S.2.2.2.2 hin ty0 hty hnm S.2.2.2.1 hK Wd.1 Wd.2.1 Wd.2.2 q1 hq1 hc k (Nat.blt_eq.mp hk) (S.2.2.2.2 _ (by rw [hT]; exact hlink)) (fun _ h9 => h9) (by rw [hT]) hin2 hdecl (hty k (Nat.blt_eq.mp hk)) hn hfit (Nat.blt_eq.mp hl) hdg (fun H1 locs1 h1 h2 h3 => kk H1 locs1 ⟨by rw [← hset]; exact h1, by rw [← hset]; exact h2, h3⟩)
theorem g_astq {ws' : List va_W} {r : vw_C} {n j v : Nat} {vs : List Value} {cA : ClassId} {f : Nat → Option Nat} (S : CallFix p m c cc nL s args Ts own) (hK : va_K D vwCl tys s) (Wd : gw D A s.heap ws H locs) (q0 t0 qk : Nat) (ci : Nat) (ha : ws[q0]? = some [(a, .inl (cA, n, .inr (.inr (.inr (.inr f)))))]) (hc : vwCl[ci]? = some r) (ht : tys[t0]? = some (cA, .object r.1)) (hv : ws[qk]? = some [(v, .inr (ci, vs))]) {i : Int32} (hin : vp_in i n) (hj : i.toNatClampNeg = j)
    (hws : ws.set q0 [(a, .inl (cA, n, .inr (.inr (.inr (.inr (va_up f j (some v)))))))] = ws') (hdg : decode cc pc = .ok (.aastore, 1)) (kk : ∀ (H1 : Heap) (locs1 : List Loc), gw D A s.heap ws' H1 locs1 → W p l e Rm s m args below meth c H1 locs1 cells slots Q (F0 m (pc + 1) ls rest)) : W p l e Rm s m args below meth c H locs cells slots Q (F0 m pc ls (.ref v :: .int i :: .ref a :: rest)) := by
  subst hws
  subst hj
  obtain ⟨z0, hz0, hset⟩ := blk1 ha
  obtain ⟨z1, hz1, -⟩ := blk1 hv
  exact va_astq S.1 S.2.1 hK Wd.1 Wd.2.1 Wd.2.2 z0 t0 z1 ci hz0 ht hz1 hc hin hdg (fun H1 locs1 h1 h2 h3 => kk H1 locs1 ⟨by rw [← hset]; exact h1, by rw [← hset]; exact h2, h3⟩)
theorem g_newo {C : String} {T : u_T} {N ci index : Nat} {ws' : Nat → List va_W} (S : CallFix p m c cc nL s args Ts own) (hK : va_K D vwCl tys s) (hA : ∀ q : Nat, s.heap.size ≤ q → A q) (Wd : gw D A s.heap ws H locs) (hin : ∀ w ∈ u_ws C T N, w ∈ Ts) (ty0 : Nat → FieldType) (hty : ∀ k, k < N → parseFieldDescriptor (T k).2.2.1 = some (ty0 k)) (hcl : (Cond.classLink own index C).before args s = true) (hinst : (Cond.instantiable C N).before args s = true) (hini : (Cond.initialized C).before args s = true) (hc : vwCl[ci]? = some (C, T, N)) {fs : List Value} (hfs : ∀ j, j < N → defaultValue (ty0 j) = vp_V fs j) (hcells : cells + 1 ≤ Rm.cells) (hslots : slots + N ≤ Rm.slots) (hc2 : cells + 1 = cells') (hs2 : slots + N = slots')
    (hws : ∀ q, ws ++ [[(q, .inr (ci, fs))]] = ws' q) (hdg : decode cc pc = .ok (.new index, 3)) (kk : ∀ (q : Nat) (H1 : Heap), gw D A s.heap (ws' q) H1 locs → W p l e Rm s m args below meth c H1 locs cells' slots' Q (F0 m (pc + 3) ls (.ref q :: rest))) : W p l e Rm s m args below meth c H locs cells slots Q (F0 m pc ls rest) := by
  subst hc2
  subst hs2
  refine va_new S.1 S.2.1 S.2.2.2.2 hin ty0 hty S.2.2.2.1 hcl hinst hini hK Wd.1 Wd.2.1 Wd.2.2 hA hc hfs hcells hslots hdg (fun q H1 h1 h2 h3 => kk q H1 ?_)
  rw [← hws]
  exact ⟨by rw [flat1]; exact h1, by rw [flat1]; exact h2, h3⟩
theorem g_newarr {atype : ArrayType} {cA : ClassId} {ty : FieldType} {ws' : Nat → List va_W} {n : Int32} {N' : Nat} {a0 : vp_A} (S : CallFix p m c cc nL s args Ts own) (hK : va_K D vwCl tys s) (hA : ∀ q : Nat, s.heap.size ≤ q → A q) (Wd : gw D A s.heap ws H locs) (harr : (Cond.arrayClass (newarray.typeOf atype)).before args s = true) (hty : newarray.typeOf atype = ty) (t0 : Nat) (ht : tys[t0]? = some (cA, ty)) (ha : ∀ cA : ClassId, vp_cell cA a0 = arrV cA N' (fun _ => defaultValue ty)) (hn : ¬ n < 0) (hN : n.toNatClampNeg = N') (hbytes : N' * componentBytes ty ≤ 536870912) (hcells : cells + 1 ≤ Rm.cells) (hslots : slots + N' ≤ Rm.slots) (hc2 : cells + 1 = cells') (hs2 : slots + N' = slots')
    (hws : ∀ q, ws ++ [[(q, .inl (cA, a0))]] = ws' q) (hdg : decode cc pc = .ok (.newarray atype, 2)) (kk : ∀ (q : Nat) (H1 : Heap), gw D A s.heap (ws' q) H1 locs → W p l e Rm s m args below meth c H1 locs cells' slots' Q (F0 m (pc + 2) ls (.ref q :: rest))) : W p l e Rm s m args below meth c H locs cells slots Q (F0 m pc ls (.int n :: rest)) := by
  subst hc2
  subst hs2
  refine va_newa S.1 S.2.1 harr hty hK Wd.1 Wd.2.1 Wd.2.2 hA ha hn hN hbytes hcells hslots hdg (fun q cA2 H1 hK1 h1 h2 h3 => kk q H1 ?_)
  have e : cA2 = cA := g_same (hK1.2 tys.length (cA2, ty) (by simp)).2 (hK.2 t0 _ ht).2
  subst e
  rw [← hws]
  exact ⟨by rw [flat1]; exact h1, by rw [flat1]; exact h2, h3⟩
theorem g_newq {C : String} {index : Nat} {cA : ClassId} {ws' : Nat → List va_W} {n : Int32} {N' : Nat} (S : CallFix p m c cc nL s args Ts own) (hK : va_K D vwCl tys s) (hA : ∀ q : Nat, s.heap.size ≤ q → A q) (Wd : gw D A s.heap ws H locs) (hclink : (Cond.classLink own index C).before args s = true) (hover : va_AO C s) (t0 : Nat) (ht : tys[t0]? = some (cA, .object C)) (hn : ¬ n < 0) (hN : n.toNatClampNeg = N') (hbytes : N' * 4 ≤ 536870912) (hcells : cells + 1 ≤ Rm.cells) (hslots : slots + N' ≤ Rm.slots) (hc2 : cells + 1 = cells') (hs2 : slots + N' = slots')
    (hws : ∀ q, ws ++ [[(q, .inl (cA, N', .inr (.inr (.inr (.inr (fun _ => none))))))]] = ws' q) (hdg : decode cc pc = .ok (.anewarray index, 3)) (kk : ∀ (q : Nat) (H1 : Heap), gw D A s.heap (ws' q) H1 locs → W p l e Rm s m args below meth c H1 locs cells' slots' Q (F0 m (pc + 3) ls (.ref q :: rest))) : W p l e Rm s m args below meth c H locs cells slots Q (F0 m pc ls (.int n :: rest)) := by
  subst hc2
  subst hs2
  refine va_newq S.1 S.2.1 S.2.2.2.1 hclink hover hK Wd.1 Wd.2.1 Wd.2.2 hA hn hN hbytes hcells hslots hdg (fun q cA2 H1 hK1 h1 h2 h3 => kk q H1 ?_)
  have e : cA2 = cA := g_same (hK1.2 tys.length (cA2, .object C) (by simp)).2 (hK.2 t0 _ ht).2
  subst e
  rw [← hws]
  exact ⟨by rw [flat1]; exact h1, by rw [flat1]; exact h2, h3⟩
theorem mna_rows (cI : ClassId) (r : Nat → Nat) (f : Nat → va_E) : va_pl ([] ++ (List.range 8).map r) (vr_up f ((List.range 8).map r) (.inl (cI, 8, .inl (fun _ => 0)))) = faC cI r (fun _ _ => 0) := by
  rw [List.nil_append]
  unfold va_pl
  rw [List.map_congr_left (g := fun a => (a, (.inl (cI, 8, .inl (fun _ => 0)) : va_E))) (fun a ha => by rw [vr_up_in ha])]
  rfl
theorem g_mna {index : Nat} {cI cB cZ cM cJ cK : ClassId} {ws' : Nat → (Nat → Nat) → List va_W} (S : CallFix p m c cc nL s args Ts own) (hK : va_K D vwCl (gT cI cB cZ cM cJ cK) s) (hA : ∀ q : Nat, s.heap.size ≤ q → A q) (Wd : gw D A s.heap ws H locs) (hclink : (Cond.classLink own index "[[I").before args s = true) (hover : va_AOA .int s) (harr : (Cond.arrayClass .int).before args s = true) (hcells : cells + (1 + 8) ≤ Rm.cells) (hslots : slots + (8 + 8 * 8) ≤ Rm.slots) (hc2 : cells + 1 + 8 = cells') (hs2 : slots + 8 + 8 * 8 = slots')
    (hws : ∀ q r, ws ++ [[(q, .inl (cK, 8, .inr (.inr (.inr (.inr (famR 8 r))))))], faC cI r (fun _ _ => 0)] = ws' q r) (hdg : decode cc pc = .ok (.multianewarray index 2, 4)) (kk : ∀ (q : Nat) (r : Nat → Nat) (H1 : Heap), gw D A s.heap (ws' q r) H1 locs → W p l e Rm s m args below meth c H1 locs cells' slots' Q (F0 m (pc + 4) ls (.ref q :: rest))) : W p l e Rm s m args below meth c H locs cells slots Q (F0 m pc ls (.int 8 :: .int 8 :: rest)) := by
  subst hc2
  subst hs2
  have hcy : s.vm.findClass (FieldType.array .int).toString = some cI := (hK.2 0 _ rfl).2
  have hnil : ws.flatten ++ va_pl [] (fun _ => (.inl (cI, 8, .inl (fun _ => 0)) : va_E)) = ws.flatten := List.append_nil _
  refine va_mna (X := ws.flatten) (L := []) (f := fun _ => (.inl (cI, 8, .inl (fun _ => 0)) : va_E)) (N' := 8) (K' := 8) (z := (8, .inl (fun _ => 0))) S.1 S.2.1 S.2.2.2.1 hclink hover harr hcy hK (by rw [hnil]; exact Wd.1) (by rw [hnil]; exact Wd.2.1) Wd.2.2 hA (by decide) (by decide) (by decide) (by decide) (by decide) (by decide) (by decide) rfl rfl hcells hslots (fun c0 => ?_) hdg (fun q r cA H1 _ _ hK1 h1 h2 h3 => kk q r H1 ?_)
  · show ({ cls := c0, slots := Array.replicate 8 (defaultValue .int), vm := .none } : Cell) = _
    rw [arrV_new]
    rfl
  · have e : cA = cK := g_same (hK1.2 6 (cA, .array .int) rfl).2 (hK.2 5 _ rfl).2
    subst e
    rw [← hws]
    rw [mna_rows] at h1 h2
    have hf : (ws ++ [[(q, .inl (cA, 8, .inr (.inr (.inr (.inr (famR 8 r))))))], faC cI r (fun _ _ => 0)]).flatten = (ws.flatten ++ [(q, .inl (cA, 8, .inr (.inr (.inr (.inr (famR 8 r))))))]) ++ faC cI r (fun _ _ => 0) := by simp
    exact ⟨by rw [hf]; exact h1, by rw [hf]; exact h2, h3⟩
theorem g_ctor {P : List va_W → Prop} {y : MethodName} {bytes : ByteArray} {maxL index mc ms b : Nat} {wsy : List Cond} {rm : Room} {host : String} {e0 : va_E} (S : CallFix p m c cc nL s args Ts own) (hK : va_K D vwCl tys s) (hA : ∀ q : Nat, s.heap.size ≤ q → A q) (hE : gE s) (Wd : gw D A s.heap ws H locs) (hM : gN l y wsy rm D tys [[(b, e0)]] [.ref b] mc ms P)
    (cw : (CallB Rm s args own index y bytes maxL none wsy rm mc ms 0 ∧ y.name = "<init>" ∧ (Cond.instanceMethod y).before args s = true) ∨ (va_CN Rm s args own index y host bytes maxL none wsy rm mc ms 0 ∧ y.name = "<init>" ∧ (Cond.instanceMethod y).before args s = true))
    (k : Nat) (hk : ws[k]? = some [(b, e0)]) (isR : List Nat) (hR : isR.map (fun i => ws[i]?) = wr.map some) (hn : va_nd isR = true) (hdis : ∀ i ∈ isR, i ≠ k) (hsize : ls.size = nL) (hst0 : st0 = .ref b :: rest) (hW : (rest.map fun v => v.category).sum ≤ 8) (hdg : decode cc pc = .ok (.invokespecial index, 3)) (hf : cells + mc ≤ Rm.cells ∧ slots + ms ≤ Rm.slots) (hc2 : cells + mc = cells') (hs2 : slots + ms = slots')
    (kk : ∀ (w1 : List va_W) (H1 : Heap) (locs1 : List Loc), P w1 → gw D A s.heap (wr ++ w1) H1 locs1 → W p l e Rm s m args below meth c H1 locs1 cells' slots' Q (F0 m (pc + 3) ls rest)) : W p l e Rm s m args below meth c H locs cells slots Q (F0 m pc ls st0) := by
  subst hc2
  subst hs2
  obtain ⟨hP, hD, hS⟩ := Wd
  have hbm : (b, e0) ∈ ws.flatten := List.mem_flatten.mpr ⟨_, List.mem_of_getElem? hk, by simp⟩
  have hPc : va_P D vwCl ([[(b, e0)]] : List va_W).flatten H := va_P.of (fun q hq => by simp at hq; rw [hq]; exact hP.all _ hbm)
  have hDc : va_D (fun _ => True) ([[(b, e0)]] : List va_W).flatten := by
    rw [va_D_iff]
    simp
  have hAb : A b := by
    obtain ⟨i, hi⟩ := List.getElem?_of_mem hbm
    exact hD.2 i _ hi
  have hF : ∀ q, va_A ([[(b, e0)]] : List va_W).flatten H.size q → A q := by
    intro q h
    rcases h with ⟨k2, e2, h⟩ | h
    · have := List.mem_of_getElem? h
      simp at this
      rw [this.1]
      exact hAb
    · exact hA q (Nat.le_trans hS.1 h)
  have hp : PreS s H (va_Pc [.ref b] (gPN D tys [[(b, e0)]] H.size)) (.ref b :: []) := ⟨g_blindN, fun U hU hW => ⟨rfl, ⟨by rw [hU], by rw [hU]; exact hPc, va_K.moved hW.alike hK, hDc⟩, hE.warm hW⟩⟩
  have hr : va_Run p l e Rm s m args below meth c H locs cells slots mc ms (F0 m pc ls st0) rest (gQN P D (va_A ([[(b, e0)]] : List va_W).flatten H.size) (Value.ref b :: []).toArray) (va_A ([[(b, e0)]] : List va_W).flatten H.size) := by
    rcases cw with cw | cw
    · exact va_runI (As := []) (rest := rest) (g := F0 m pc ls st0) S (hM H.size) cw hp rfl rfl hsize hst0 (lv_room hW) hdg hf
    · exact va_runIN (As := []) (rest := rest) (g := F0 m pc ls st0) S (hM H.size) cw hp rfl rfl hsize hst0 (lv_room hW) hdg hf
  intro T hT X
  obtain ⟨vv, st₀, t, T', L, h0, X', hL, e1, e2, ⟨⟨w1, hw1, hv, hp1, hd1⟩, hz, hkk⟩, st⟩ := hr T hT X
  have hvv : vv = none := by injection hv
  subst hvv
  rw [h0] at hz hkk
  have ne : ∀ q ∈ wr.flatten, q ∈ ws.flatten ∧ q.1 ≠ b := by
    intro q hq
    obtain ⟨B, hB, hqB⟩ := List.mem_flatten.mp hq
    obtain ⟨j, hj⟩ := List.getElem?_of_mem hB
    obtain ⟨i, hi1, hi2⟩ := blk_in hR hj
    exact ⟨List.mem_flatten.mpr ⟨B, List.mem_of_getElem? hi2, hqB⟩, gD_ne (q2 := (b, e0)) hD hi2 hk (hdis i (List.mem_of_getElem? hi1)) hqB (List.mem_singleton.mpr rfl)⟩
  have nA : ∀ q ∈ wr.flatten, q.1 < H.size ∧ ¬ va_A ([[(b, e0)]] : List va_W).flatten H.size q.1 := by
    intro q hq
    obtain ⟨h1, h2⟩ := ne q hq
    have hlt := (hP.all q h1).lt
    refine ⟨hlt, fun z => ?_⟩
    rcases z with ⟨k2, e3, z⟩ | z
    · have := List.mem_of_getElem? z
      simp at this
      exact h2 this.1
    · omega
  have key : gw D A s.heap (wr ++ w1) T'.heap (locs ++ L) := by
    unfold gw
    rw [List.flatten_append]
    refine ⟨va_P.app (va_P.of (fun q hq => ?_)) (by rw [e1]; exact hp1), va_D.app (gD_sub hD isR hn hR) (hd1.weaken (fun _ q _ h => hF q.1 h)) (fun i j x y hx hy hxy => ?_), ?_⟩
    · obtain ⟨h1, h2⟩ := nA q hq
      refine (hP.all q (ne q hq).1).kept ?_
      rw [e1]
      exact hkk q.1 h1 h2
    · refine (nA x (List.mem_of_getElem? hx)).2 ?_
      rw [hxy]
      exact hd1.2 j y hy
    · refine ⟨Nat.le_trans hS.1 (by rw [e1]; exact hz), fun q h1 h2 => ?_, fun q hq => ?_⟩
      · rw [e1, hkk q (Nat.lt_of_lt_of_le h1 hS.1) (fun z => h2 (hF q z))]
        exact hS.2.1 q h1 h2
      · rcases List.mem_append.mp hq with h | h
        · exact hS.2.2 q h
        · exact hF _ (hL q h)
  obtain ⟨t2, a1, b1⟩ := kk w1 T'.heap (locs ++ L) hw1 key T' rfl X'
  exact ⟨t2, st t2 a1, b1⟩
end GN
theorem dfX0 : ∀ j, j < 9 → defaultValue (tyX0 j) = vp_V [.int 0, .int 0, .int 0, .null, .null, .null, .null, .null, .null] j := by
  intro j hj
  rcases (show j = 0 ∨ j = 1 ∨ j = 2 ∨ j = 3 ∨ j = 4 ∨ j = 5 ∨ j = 6 ∨ j = 7 ∨ j = 8 by omega) with rfl | rfl | rfl | rfl | rfl | rfl | rfl | rfl | rfl <;> rfl
theorem dfX1 : ∀ j, j < 2 → defaultValue (tyX1 j) = vp_V [.null, .int 0] j := by
  intro j hj
  rcases (show j = 0 ∨ j = 1 by omega) with rfl | rfl <;> rfl
theorem dfX2 : ∀ j, j < 3 → defaultValue (tyX2 j) = vp_V [.int 0, .null, .null] j := by
  intro j hj
  rcases (show j = 0 ∨ j = 1 ∨ j = 2 by omega) with rfl | rfl | rfl <;> rfl
theorem dfX3 : ∀ j, j < 6 → defaultValue (tyX3 j) = vp_V [.int 0, .int 0, .int 0, .int 0, .int 0, .int 0] j := by
  intro j hj
  rcases (show j = 0 ∨ j = 1 ∨ j = 2 ∨ j = 3 ∨ j = 4 ∨ j = 5 by omega) with rfl | rfl | rfl | rfl | rfl | rfl <;> rfl
theorem dfX4 : ∀ j, j < 14 → defaultValue (tyX4 j) = vp_V [.int 0, .int 0, .null, .int 0, .int 0, .int 0, .null, .int 0, .int 0, .int 0, .int 0, .int 0, .int 0, .int 0] j := by
  intro j hj
  rcases (show j = 0 ∨ j = 1 ∨ j = 2 ∨ j = 3 ∨ j = 4 ∨ j = 5 ∨ j = 6 ∨ j = 7 ∨ j = 8 ∨ j = 9 ∨ j = 10 ∨ j = 11 ∨ j = 12 ∨ j = 13 by omega) with rfl | rfl | rfl | rfl | rfl | rfl | rfl | rfl | rfl | rfl | rfl | rfl | rfl | rfl <;> rfl
theorem dfX5 : ∀ j, j < 5 → defaultValue (tyX5 j) = vp_V [.null, .null, .null, .int 0, .int 0] j := by
  intro j hj
  rcases (show j = 0 ∨ j = 1 ∨ j = 2 ∨ j = 3 ∨ j = 4 by omega) with rfl | rfl | rfl | rfl | rfl <;> rfl
theorem dfX6 : ∀ j, j < 6 → defaultValue (tyX6 j) = vp_V [.null, .null, .null, .null, .int 0, .int 0] j := by
  intro j hj
  rcases (show j = 0 ∨ j = 1 ∨ j = 2 ∨ j = 3 ∨ j = 4 ∨ j = 5 by omega) with rfl | rfl | rfl | rfl | rfl | rfl <;> rfl
theorem dfX7 : ∀ j, j < 3 → defaultValue (tyX7 j) = vp_V [.null, .null, .int 0] j := by
  intro j hj
  rcases (show j = 0 ∨ j = 1 ∨ j = 2 by omega) with rfl | rfl | rfl <;> rfl
theorem dfX8 : ∀ j, j < 6 → defaultValue (tyX8 j) = vp_V [.null, .int 0, .int 0, .int 0, .int 0, .int 0] j := by
  intro j hj
  rcases (show j = 0 ∨ j = 1 ∨ j = 2 ∨ j = 3 ∨ j = 4 ∨ j = 5 by omega) with rfl | rfl | rfl | rfl | rfl | rfl <;> rfl
theorem dfX9 : ∀ j, j < 11 → defaultValue (tyX9 j) = vp_V [.null, .null, .null, .null, .null, .null, .null, .null, .null, .null, .long 0] j := by
  intro j hj
  rcases (show j = 0 ∨ j = 1 ∨ j = 2 ∨ j = 3 ∨ j = 4 ∨ j = 5 ∨ j = 6 ∨ j = 7 ∨ j = 8 ∨ j = 9 ∨ j = 10 by omega) with rfl | rfl | rfl | rfl | rfl | rfl | rfl | rfl | rfl | rfl | rfl <;> rfl
theorem dfX10 : ∀ j, j < 31 → defaultValue (tyX10 j) = vp_V [.long 0, .null, .int 0, .null, .null, .null, .null, .null, .null, .null, .int 0, .int 0, .int 0, .int 0, .int 0, .null, .null, .null, .null, .null, .int 0, .null, .null, .int 0, .null, .int 0, .null, .null, .int 0, .null, .int 0] j := by
  intro j hj
  rcases (show j = 0 ∨ j = 1 ∨ j = 2 ∨ j = 3 ∨ j = 4 ∨ j = 5 ∨ j = 6 ∨ j = 7 ∨ j = 8 ∨ j = 9 ∨ j = 10 ∨ j = 11 ∨ j = 12 ∨ j = 13 ∨ j = 14 ∨ j = 15 ∨ j = 16 ∨ j = 17 ∨ j = 18 ∨ j = 19 ∨ j = 20 ∨ j = 21 ∨ j = 22 ∨ j = 23 ∨ j = 24 ∨ j = 25 ∨ j = 26 ∨ j = 27 ∨ j = 28 ∨ j = 29 ∨ j = 30 by omega) with rfl | rfl | rfl | rfl | rfl | rfl | rfl | rfl | rfl | rfl | rfl | rfl | rfl | rfl | rfl | rfl | rfl | rfl | rfl | rfl | rfl | rfl | rfl | rfl | rfl | rfl | rfl | rfl | rfl | rfl | rfl <;> rfl
