def wX8_append (cI cB cZ cM cJ cK : ClassId) (a_t a_t_bytes : Nat) (t_length t_place t_start t_token t_value : Int32) (t_bytes : Nat → Int32) : List va_W := [[(a_t, .inr (8, [.ref a_t_bytes, .int t_length, .int t_place, .int t_start, .int t_token, .int t_value]))], [(a_t_bytes, .inl (cI, 150, .inl t_bytes))]]
def rmX8_append : Room := { frames := 0, cells := 0, slots := 0, locals := 0 }
theorem kX8_append_1 : Cond.fieldLink RX8 15 "FeastMarch$Text" "length" "I" ∈ wsX8_append := List.mem_of_getElem? (i := 1) rfl
theorem kX8_append_2 : Cond.fieldLink RX8 9 "FeastMarch$Text" "bytes" "[I" ∈ wsX8_append := List.mem_of_getElem? (i := 2) rfl
theorem iX8_append_X8 : ∀ w ∈ wsX80, w ∈ wsX8_append := fun _ h => List.mem_cons_of_mem _ (List.mem_append_right _ h)
theorem n_X8_append : yX8_append.cls = RX8 ∧ yX8_append.cls ≠ "java/lang/invoke/MethodHandle" ∧ yX8_append.cls ≠ "java/lang/invoke/VarHandle" ∧ (parseMethodDescriptor yX8_append.desc).map (fun d => d.parameters.length) = some 1 := by decide +kernel
set_option maxHeartbeats 4000000 in
set_option maxRecDepth 100000 in
theorem c_X8_append (l : Launch) (D : va_G) (N : Nat) (cI cB cZ cM cJ cK : ClassId) (a_t a_t_bytes : Nat) (t_length t_place t_start t_token t_value : Int32) (t_bytes : Nat → Int32) (x1 : Int32) : gM l yX8_append wsX8_append rmX8_append D (gT cI cB cZ cM cJ cK) (wX8_append cI cB cZ cM cJ cK  a_t a_t_bytes t_length t_place t_start t_token t_value t_bytes) [.ref a_t, .int x1] (fX8_append N t_length t_bytes x1) (fun _u : Int32 × Int32 × (Nat → Int32) => some (.int _u.1)) (fun _u : Int32 × Int32 × (Nat → Int32) => (wX8_append cI cB cZ cM cJ cK  a_t a_t_bytes _u.2.1 t_place t_start t_token t_value _u.2.2)) := by
  refine g_start (cc := cX8_append) (maxL := 2) (ret := (some .boolean)) (by decide) rfl (Nat.le_of_ble_eq_true rfl) ?_
  intro F hf hF p e s m below meth c A ls S hK hA Wd hr hlk hnm hl
  refine lv_aload_n S.1 S.2.1 dX8_append_0 rfl (lv_at hl 0 rfl) ?_
  refine g_get (a := a_t) S hK Wd iX8_append_X8 0 rfl rfl 1 rfl rfl kX8_append_1 rfl dX8_append_1 ?_
  refine lv_sipush (v := 150) S.1 S.2.1 dX8_append_4 (by decide) ?_
  refine lv_icmp_lt (tgt := 12) S.1 S.2.1 dX8_append_7 rfl (fun c1 => ?_) (fun c1 => ?_)
  · have hf := g_if hf c1
    refine lv_aload_n S.1 S.2.1 dX8_append_12 rfl (lv_at hl 0 rfl) ?_
    refine g_get (a := a_t) S hK Wd iX8_append_X8 0 rfl rfl 0 rfl rfl kX8_append_2 rfl dX8_append_13 ?_
    refine lv_aload_n S.1 S.2.1 dX8_append_16 rfl (lv_at hl 0 rfl) ?_
    refine g_get (a := a_t) S hK Wd iX8_append_X8 0 rfl rfl 1 rfl rfl kX8_append_1 rfl dX8_append_17 ?_
    refine lv_iload_n S.1 S.2.1 dX8_append_20 rfl (lv_at hl 1 rfl) ?_
    obtain ⟨h2, hf⟩ := g_gi hF hf
    refine g_iast (a := a_t_bytes) (ws' := (wX8_append cI cB cZ cM cJ cK  a_t a_t_bytes t_length t_place t_start t_token t_value (upd t_bytes t_length.toNatClampNeg x1))) S hK Wd 1 0 rfl rfl h2 dX8_append_21 rfl (fun H locs Wd => ?_)
    refine lv_aload_n S.1 S.2.1 dX8_append_22 rfl (lv_at hl 0 rfl) ?_
    refine lv_dup S.1 S.2.1 dX8_append_23 rfl ?_
    refine g_get (a := a_t) S hK Wd iX8_append_X8 0 rfl rfl 1 rfl rfl kX8_append_1 rfl dX8_append_24 ?_
    refine lv_iconst (v := 1) S.1 S.2.1 dX8_append_27 (by decide) ?_
    refine lv_iadd S.1 S.2.1 dX8_append_28 ?_
    refine g_put (a := a_t) (ws' := (wX8_append cI cB cZ cM cJ cK  a_t a_t_bytes (t_length + (1 : Int32)) t_place t_start t_token t_value (upd t_bytes t_length.toNatClampNeg x1))) S hK Wd iX8_append_X8 tyX8 tyX8_ok nmX8 0 rfl rfl 1 rfl rfl kX8_append_1 rfl rfl rfl dX8_append_29 rfl (fun H locs Wd => ?_)
    refine lv_iconst (v := 1) S.1 S.2.1 dX8_append_32 (by decide) ?_
    exact g_zret S Wd hr hlk rfl dX8_append_33 ((1 : Int32), (t_length + (1 : Int32)), (upd t_bytes t_length.toNatClampNeg x1)) hf rfl rfl
  · have hf := g_ifn hf c1
    refine lv_iconst (v := 0) S.1 S.2.1 dX8_append_10 (by decide) ?_
    exact g_zret S Wd hr hlk rfl dX8_append_11 ((0 : Int32), t_length, t_bytes) hf rfl rfl
def wX8_skip (cI cB cZ cM cJ cK : ClassId) (a_t a_t_bytes : Nat) (t_length t_place t_start t_token t_value : Int32) (t_bytes : Nat → Int32) : List va_W := [[(a_t, .inr (8, [.ref a_t_bytes, .int t_length, .int t_place, .int t_start, .int t_token, .int t_value]))], [(a_t_bytes, .inl (cI, 150, .inl t_bytes))]]
def rmX8_skip : Room := { frames := 0, cells := 0, slots := 0, locals := 0 }
theorem kX8_skip_1 : Cond.fieldLink RX8 24 "FeastMarch$Text" "place" "I" ∈ wsX8_skip := List.mem_of_getElem? (i := 1) rfl
theorem kX8_skip_2 : Cond.fieldLink RX8 15 "FeastMarch$Text" "length" "I" ∈ wsX8_skip := List.mem_of_getElem? (i := 2) rfl
theorem kX8_skip_3 : Cond.fieldLink RX8 9 "FeastMarch$Text" "bytes" "[I" ∈ wsX8_skip := List.mem_of_getElem? (i := 3) rfl
theorem iX8_skip_X8 : ∀ w ∈ wsX80, w ∈ wsX8_skip := fun _ h => List.mem_cons_of_mem _ (List.mem_append_right _ h)
theorem n_X8_skip : yX8_skip.cls = RX8 ∧ yX8_skip.cls ≠ "java/lang/invoke/MethodHandle" ∧ yX8_skip.cls ≠ "java/lang/invoke/VarHandle" ∧ (parseMethodDescriptor yX8_skip.desc).map (fun d => d.parameters.length) = some 2 := by decide +kernel
set_option maxHeartbeats 4000000 in
set_option maxRecDepth 100000 in
theorem c_X8_skip (l : Launch) (D : va_G) (N : Nat) (cI cB cZ cM cJ cK : ClassId) (a_t a_t_bytes : Nat) (t_length t_place t_start t_token t_value : Int32) (t_bytes : Nat → Int32) (x1 x2 : Int32) : gM l yX8_skip wsX8_skip rmX8_skip D (gT cI cB cZ cM cJ cK) (wX8_skip cI cB cZ cM cJ cK  a_t a_t_bytes t_length t_place t_start t_token t_value t_bytes) [.ref a_t, .int x1, .int x2] (fX8_skip N t_length t_place t_bytes x1 x2) (fun _u : Int32 × Int32 => some (.int _u.1)) (fun _u : Int32 × Int32 => (wX8_skip cI cB cZ cM cJ cK  a_t a_t_bytes t_length _u.2 t_start t_token t_value t_bytes)) := by
  refine g_start (cc := cX8_skip) (maxL := 4) (ret := (some .boolean)) (by decide) rfl (Nat.le_of_ble_eq_true rfl) ?_
  intro F hf hF p e s m below meth c A ls S hK hA Wd hr hlk hnm hl
  have b55 : ∀ (t_place x3 : Int32) (H1 : Heap) (locs1 : List Loc) (ls1 : Array Slot), gw D A s.heap (wX8_skip cI cB cZ cM cJ cK  a_t a_t_bytes t_length t_place t_start t_token t_value t_bytes) H1 locs1 → lv_has ls1 4 [(0, .ref a_t), (3, .int x3)] → F = fX8_skip_b55 N t_length t_bytes x1 x2  t_place x3 → W p l e rmX8_skip s m [.ref a_t, .int x1, .int x2].toArray below meth c H1 locs1 0 0 (MQ below (gQ F (fun _u : Int32 × Int32 => some (.int _u.1)) (fun _u : Int32 × Int32 => (wX8_skip cI cB cZ cM cJ cK  a_t a_t_bytes t_length _u.2 t_start t_token t_value t_bytes)) D A) [.ref a_t, .int x1, .int x2].toArray s 0 0 A) (F0 m 55 ls1 []) := by
    intro  t_place x3 H locs ls Wd hl hf
    refine lv_aload_n S.1 S.2.1 dX8_skip_55 rfl (lv_at hl 0 rfl) ?_
    refine g_get (a := a_t) S hK Wd iX8_skip_X8 0 rfl rfl 2 rfl rfl kX8_skip_1 rfl dX8_skip_56 ?_
    refine lv_iload_n S.1 S.2.1 dX8_skip_59 rfl (lv_at hl 1 rfl) ?_
    refine lv_icmp_le (tgt := 67) S.1 S.2.1 dX8_skip_60 rfl (fun c6 => ?_) (fun c6 => ?_)
    · have hf := g_if hf c6
      refine lv_iconst (v := 0) S.1 S.2.1 dX8_skip_67 (by decide) ?_
      exact g_zret S Wd hr hlk rfl dX8_skip_68 ((0 : Int32), t_place) hf rfl rfl
    · have hf := g_ifn hf c6
      refine lv_iconst (v := 1) S.1 S.2.1 dX8_skip_63 (by decide) ?_
      refine lv_goto (tgt := 68) S.1 S.2.1 dX8_skip_64 rfl ?_
      exact g_zret S Wd hr hlk rfl dX8_skip_68 ((1 : Int32), t_place) hf rfl rfl
  have b5 : ∀ (n : Nat), ∀ (t_place x3 : Int32) (H1 : Heap) (locs1 : List Loc) (ls1 : Array Slot), gw D A s.heap (wX8_skip cI cB cZ cM cJ cK  a_t a_t_bytes t_length t_place t_start t_token t_value t_bytes) H1 locs1 → lv_has ls1 4 [(0, .ref a_t), (1, .int x1), (2, .int x2), (3, .int x3)] → F = fX8_skip_b5 N t_length t_bytes x1 x2  n t_place x3 → W p l e rmX8_skip s m [.ref a_t, .int x1, .int x2].toArray below meth c H1 locs1 0 0 (MQ below (gQ F (fun _u : Int32 × Int32 => some (.int _u.1)) (fun _u : Int32 × Int32 => (wX8_skip cI cB cZ cM cJ cK  a_t a_t_bytes t_length _u.2 t_start t_token t_value t_bytes)) D A) [.ref a_t, .int x1, .int x2].toArray s 0 0 A) (F0 m 5 ls1 []) := by
    intro  n
    induction n with
    | zero => intro t_place x3 H locs ls Wd hl hf; exact absurd hf hF
    | succ n ih =>
      intro t_place x3 H locs ls Wd hl hf
      refine lv_aload_n S.1 S.2.1 dX8_skip_5 rfl (lv_at hl 0 rfl) ?_
      refine g_get (a := a_t) S hK Wd iX8_skip_X8 0 rfl rfl 2 rfl rfl kX8_skip_1 rfl dX8_skip_6 ?_
      refine lv_aload_n S.1 S.2.1 dX8_skip_9 rfl (lv_at hl 0 rfl) ?_
      refine g_get (a := a_t) S hK Wd iX8_skip_X8 0 rfl rfl 1 rfl rfl kX8_skip_2 rfl dX8_skip_10 ?_
      refine lv_icmp_ge (tgt := 55) S.1 S.2.1 dX8_skip_13 rfl (fun c1 => ?_) (fun c1 => ?_)
      · have hf := g_if hf c1
        exact b55  t_place x3 _ _ _ Wd (lv_sub hl [0, 3] rfl) hf
      · have hf := g_ifn hf c1
        refine lv_aload_n S.1 S.2.1 dX8_skip_16 rfl (lv_at hl 0 rfl) ?_
        refine g_get (a := a_t) S hK Wd iX8_skip_X8 0 rfl rfl 0 rfl rfl kX8_skip_3 rfl dX8_skip_17 ?_
        refine lv_aload_n S.1 S.2.1 dX8_skip_20 rfl (lv_at hl 0 rfl) ?_
        refine g_get (a := a_t) S hK Wd iX8_skip_X8 0 rfl rfl 2 rfl rfl kX8_skip_1 rfl dX8_skip_21 ?_
        obtain ⟨h2, hf⟩ := g_gi hF hf
        refine g_iald (a := a_t_bytes) S hK Wd 1 0 rfl rfl h2 dX8_skip_24 ?_
        refine lv_iload_n S.1 S.2.1 dX8_skip_25 rfl (lv_at hl 1 rfl) ?_
        refine lv_icmp_lt (tgt := 55) S.1 S.2.1 dX8_skip_26 rfl (fun c3 => ?_) (fun c3 => ?_)
        · have hf := g_if hf c3
          exact b55  t_place x3 _ _ _ Wd (lv_sub hl [0, 3] rfl) hf
        · have hf := g_ifn hf c3
          refine lv_aload_n S.1 S.2.1 dX8_skip_29 rfl (lv_at hl 0 rfl) ?_
          refine g_get (a := a_t) S hK Wd iX8_skip_X8 0 rfl rfl 0 rfl rfl kX8_skip_3 rfl dX8_skip_30 ?_
          refine lv_aload_n S.1 S.2.1 dX8_skip_33 rfl (lv_at hl 0 rfl) ?_
          refine g_get (a := a_t) S hK Wd iX8_skip_X8 0 rfl rfl 2 rfl rfl kX8_skip_1 rfl dX8_skip_34 ?_
          obtain ⟨h4, hf⟩ := g_gi hF hf
          refine g_iald (a := a_t_bytes) S hK Wd 1 0 rfl rfl h4 dX8_skip_37 ?_
          refine lv_iload_n S.1 S.2.1 dX8_skip_38 rfl (lv_at hl 2 rfl) ?_
          refine lv_icmp_gt (tgt := 55) S.1 S.2.1 dX8_skip_39 rfl (fun c5 => ?_) (fun c5 => ?_)
          · have hf := g_if hf c5
            exact b55  t_place x3 _ _ _ Wd (lv_sub hl [0, 3] rfl) hf
          · have hf := g_ifn hf c5
            refine lv_aload_n S.1 S.2.1 dX8_skip_42 rfl (lv_at hl 0 rfl) ?_
            refine lv_dup S.1 S.2.1 dX8_skip_43 rfl ?_
            refine g_get (a := a_t) S hK Wd iX8_skip_X8 0 rfl rfl 2 rfl rfl kX8_skip_1 rfl dX8_skip_44 ?_
            refine lv_iconst (v := 1) S.1 S.2.1 dX8_skip_47 (by decide) ?_
            refine lv_iadd S.1 S.2.1 dX8_skip_48 ?_
            refine g_put (a := a_t) (ws' := (wX8_skip cI cB cZ cM cJ cK  a_t a_t_bytes t_length (t_place + (1 : Int32)) t_start t_token t_value t_bytes)) S hK Wd iX8_skip_X8 tyX8 tyX8_ok nmX8 0 rfl rfl 2 rfl rfl kX8_skip_1 rfl rfl rfl dX8_skip_49 rfl (fun H locs Wd => ?_)
            refine lv_goto (tgt := 5) S.1 S.2.1 dX8_skip_52 rfl ?_
            exact ih (t_place + (1 : Int32)) x3 _ _ _ Wd hl hf
  refine lv_aload_n S.1 S.2.1 dX8_skip_0 rfl (lv_at hl 0 rfl) ?_
  refine g_get (a := a_t) S hK Wd iX8_skip_X8 0 rfl rfl 2 rfl rfl kX8_skip_1 rfl dX8_skip_1 ?_
  refine lv_istore_n (lv' := [(3, .int t_place), (0, .ref a_t), (1, .int x1), (2, .int x2)]) S.1 S.2.1 dX8_skip_4 rfl hl (by decide) rfl (fun ls hl => ?_)
  exact b5  N t_place t_place _ _ _ Wd (lv_sub hl [1, 2, 3, 0] rfl) hf
def wX8_advance (cI cB cZ cM cJ cK : ClassId) (a_t a_t_bytes : Nat) (t_length t_place t_start t_token t_value : Int32) (t_bytes : Nat → Int32) : List va_W := [[(a_t, .inr (8, [.ref a_t_bytes, .int t_length, .int t_place, .int t_start, .int t_token, .int t_value]))], [(a_t_bytes, .inl (cI, 150, .inl t_bytes))]]
def rmX8_advance : Room := { frames := 1, cells := 0, slots := 0, locals := 23 }
theorem kX8_advance_1 : Cond.fieldLink RX8 24 "FeastMarch$Text" "place" "I" ∈ wsX8_advance := List.mem_of_getElem? (i := 1) rfl
theorem kX8_advance_2 : Cond.fieldLink RX8 37 "FeastMarch$Text" "start" "I" ∈ wsX8_advance := List.mem_of_getElem? (i := 2) rfl
theorem kX8_advance_3 : Cond.fieldLink RX8 30 "FeastMarch$Text" "token" "I" ∈ wsX8_advance := List.mem_of_getElem? (i := 3) rfl
theorem kX8_advance_4 : Cond.fieldLink RX8 9 "FeastMarch$Text" "bytes" "[I" ∈ wsX8_advance := List.mem_of_getElem? (i := 4) rfl
theorem kX8_advance_5 : Cond.fieldLink RX8 40 "FeastMarch$Text" "value" "I" ∈ wsX8_advance := List.mem_of_getElem? (i := 5) rfl
theorem kX8_advance_6 : Cond.fieldLink RX8 15 "FeastMarch$Text" "length" "I" ∈ wsX8_advance := List.mem_of_getElem? (i := 6) rfl
theorem iX8_advance_X8 : ∀ w ∈ wsX80, w ∈ wsX8_advance := fun _ h => List.mem_cons_of_mem _ (List.mem_append_right _ h)
theorem n_X8_advance : yX8_advance.cls = RX8 ∧ yX8_advance.cls ≠ "java/lang/invoke/MethodHandle" ∧ yX8_advance.cls ≠ "java/lang/invoke/VarHandle" ∧ (parseMethodDescriptor yX8_advance.desc).map (fun d => d.parameters.length) = some 0 := by decide +kernel
set_option maxHeartbeats 4000000 in
set_option maxRecDepth 100000 in
theorem c_X8_advance (l : Launch) (D : va_G) (N : Nat) (cI cB cZ cM cJ cK : ClassId) (a_t a_t_bytes : Nat) (t_length t_place t_start t_token t_value : Int32) (t_bytes : Nat → Int32) : gM l yX8_advance wsX8_advance rmX8_advance D (gT cI cB cZ cM cJ cK) (wX8_advance cI cB cZ cM cJ cK  a_t a_t_bytes t_length t_place t_start t_token t_value t_bytes) [.ref a_t] (fX8_advance N t_length t_place t_start t_token t_value t_bytes) (fun _u : Int32 × Int32 × Int32 × Int32 => none) (fun _u : Int32 × Int32 × Int32 × Int32 => (wX8_advance cI cB cZ cM cJ cK  a_t a_t_bytes t_length _u.1 _u.2.1 _u.2.2.1 _u.2.2.2 t_bytes)) := by
  refine g_start (cc := cX8_advance) (maxL := 1) (ret := none) (by decide) rfl (Nat.le_of_ble_eq_true rfl) ?_
  intro F hf hF p e s m below meth c A ls S hK hA Wd hr hlk hnm hl
  have b47 : ∀ (t_place t_start t_token t_value y0 : Int32) (H1 : Heap) (locs1 : List Loc) (ls1 : Array Slot), gw D A s.heap (wX8_advance cI cB cZ cM cJ cK  a_t a_t_bytes t_length t_place t_start t_token t_value t_bytes) H1 locs1 → lv_has ls1 1 [(0, .ref a_t)] → F = fX8_advance_b47 N t_length t_bytes  t_place t_start t_token t_value y0 → W p l e rmX8_advance s m [.ref a_t].toArray below meth c H1 locs1 0 0 (MQ below (gQ F (fun _u : Int32 × Int32 × Int32 × Int32 => none) (fun _u : Int32 × Int32 × Int32 × Int32 => (wX8_advance cI cB cZ cM cJ cK  a_t a_t_bytes t_length _u.1 _u.2.1 _u.2.2.1 _u.2.2.2 t_bytes)) D A) [.ref a_t].toArray s 0 0 A) (F0 m 47 ls1 [.int y0, .ref a_t]) := by
    intro  t_place t_start t_token t_value y0 H locs ls Wd hl hf
    refine g_put (a := a_t) (ws' := (wX8_advance cI cB cZ cM cJ cK  a_t a_t_bytes t_length t_place t_start y0 t_value t_bytes)) S hK Wd iX8_advance_X8 tyX8 tyX8_ok nmX8 0 rfl rfl 4 rfl rfl kX8_advance_3 rfl rfl rfl dX8_advance_47 rfl (fun H locs Wd => ?_)
    refine lv_aload_n S.1 S.2.1 dX8_advance_50 rfl (lv_at hl 0 rfl) ?_
    refine lv_aload_n S.1 S.2.1 dX8_advance_51 rfl (lv_at hl 0 rfl) ?_
    refine g_get (a := a_t) S hK Wd iX8_advance_X8 0 rfl rfl 0 rfl rfl kX8_advance_4 rfl dX8_advance_52 ?_
    refine lv_aload_n S.1 S.2.1 dX8_advance_55 rfl (lv_at hl 0 rfl) ?_
    refine g_get (a := a_t) S hK Wd iX8_advance_X8 0 rfl rfl 3 rfl rfl kX8_advance_2 rfl dX8_advance_56 ?_
    obtain ⟨h11, hf⟩ := g_gi hF hf
    refine g_iald (a := a_t_bytes) S hK Wd 1 0 rfl rfl h11 dX8_advance_59 ?_
    refine lv_bipush (v := 48) S.1 S.2.1 dX8_advance_60 (by decide) ?_
    refine lv_isub S.1 S.2.1 dX8_advance_62 ?_
    refine g_put (a := a_t) (ws' := (wX8_advance cI cB cZ cM cJ cK  a_t a_t_bytes t_length t_place t_start y0 ((t_bytes t_start.toNatClampNeg) - (48 : Int32)) t_bytes)) S hK Wd iX8_advance_X8 tyX8 tyX8_ok nmX8 0 rfl rfl 5 rfl rfl kX8_advance_5 rfl rfl rfl dX8_advance_63 rfl (fun H locs Wd => ?_)
    refine lv_goto (tgt := 170) S.1 S.2.1 dX8_advance_66 rfl ?_
    exact g_vret S Wd hr hlk dX8_advance_170 (t_place, t_start, y0, ((t_bytes t_start.toNatClampNeg) - (48 : Int32))) hf rfl rfl
  have b99 : ∀ (t_place t_start t_token t_value y0 : Int32) (H1 : Heap) (locs1 : List Loc) (ls1 : Array Slot), gw D A s.heap (wX8_advance cI cB cZ cM cJ cK  a_t a_t_bytes t_length t_place t_start t_token t_value t_bytes) H1 locs1 → lv_has ls1 1 [(0, .ref a_t)] → F = fX8_advance_b99 N t_length t_bytes  t_place t_start t_token t_value y0 → W p l e rmX8_advance s m [.ref a_t].toArray below meth c H1 locs1 0 0 (MQ below (gQ F (fun _u : Int32 × Int32 × Int32 × Int32 => none) (fun _u : Int32 × Int32 × Int32 × Int32 => (wX8_advance cI cB cZ cM cJ cK  a_t a_t_bytes t_length _u.1 _u.2.1 _u.2.2.1 _u.2.2.2 t_bytes)) D A) [.ref a_t].toArray s 0 0 A) (F0 m 99 ls1 [.int y0, .ref a_t]) := by
    intro  t_place t_start t_token t_value y0 H locs ls Wd hl hf
    refine g_put (a := a_t) (ws' := (wX8_advance cI cB cZ cM cJ cK  a_t a_t_bytes t_length t_place t_start y0 t_value t_bytes)) S hK Wd iX8_advance_X8 tyX8 tyX8_ok nmX8 0 rfl rfl 4 rfl rfl kX8_advance_3 rfl rfl rfl dX8_advance_99 rfl (fun H locs Wd => ?_)
    refine lv_aload_n S.1 S.2.1 dX8_advance_102 rfl (lv_at hl 0 rfl) ?_
    refine lv_aload_n S.1 S.2.1 dX8_advance_103 rfl (lv_at hl 0 rfl) ?_
    refine g_get (a := a_t) S hK Wd iX8_advance_X8 0 rfl rfl 0 rfl rfl kX8_advance_4 rfl dX8_advance_104 ?_
    refine lv_aload_n S.1 S.2.1 dX8_advance_107 rfl (lv_at hl 0 rfl) ?_
    refine g_get (a := a_t) S hK Wd iX8_advance_X8 0 rfl rfl 3 rfl rfl kX8_advance_2 rfl dX8_advance_108 ?_
    obtain ⟨h12, hf⟩ := g_gi hF hf
    refine g_iald (a := a_t_bytes) S hK Wd 1 0 rfl rfl h12 dX8_advance_111 ?_
    refine g_put (a := a_t) (ws' := (wX8_advance cI cB cZ cM cJ cK  a_t a_t_bytes t_length t_place t_start y0 (t_bytes t_start.toNatClampNeg) t_bytes)) S hK Wd iX8_advance_X8 tyX8 tyX8_ok nmX8 0 rfl rfl 5 rfl rfl kX8_advance_5 rfl rfl rfl dX8_advance_112 rfl (fun H locs Wd => ?_)
    refine lv_goto (tgt := 170) S.1 S.2.1 dX8_advance_115 rfl ?_
    exact g_vret S Wd hr hlk dX8_advance_170 (t_place, t_start, y0, (t_bytes t_start.toNatClampNeg)) hf rfl rfl
  have b149 : ∀ (t_place t_start t_token t_value y0 : Int32) (H1 : Heap) (locs1 : List Loc) (ls1 : Array Slot), gw D A s.heap (wX8_advance cI cB cZ cM cJ cK  a_t a_t_bytes t_length t_place t_start t_token t_value t_bytes) H1 locs1 → lv_has ls1 1 [(0, .ref a_t)] → F = fX8_advance_b149 N t_length t_bytes  t_place t_start t_token t_value y0 → W p l e rmX8_advance s m [.ref a_t].toArray below meth c H1 locs1 0 0 (MQ below (gQ F (fun _u : Int32 × Int32 × Int32 × Int32 => none) (fun _u : Int32 × Int32 × Int32 × Int32 => (wX8_advance cI cB cZ cM cJ cK  a_t a_t_bytes t_length _u.1 _u.2.1 _u.2.2.1 _u.2.2.2 t_bytes)) D A) [.ref a_t].toArray s 0 0 A) (F0 m 149 ls1 [.int y0, .ref a_t]) := by
    intro  t_place t_start t_token t_value y0 H locs ls Wd hl hf
    refine g_put (a := a_t) (ws' := (wX8_advance cI cB cZ cM cJ cK  a_t a_t_bytes t_length t_place t_start y0 t_value t_bytes)) S hK Wd iX8_advance_X8 tyX8 tyX8_ok nmX8 0 rfl rfl 4 rfl rfl kX8_advance_3 rfl rfl rfl dX8_advance_149 rfl (fun H locs Wd => ?_)
    refine lv_aload_n S.1 S.2.1 dX8_advance_152 rfl (lv_at hl 0 rfl) ?_
    refine lv_dup S.1 S.2.1 dX8_advance_153 rfl ?_
    refine g_get (a := a_t) S hK Wd iX8_advance_X8 0 rfl rfl 2 rfl rfl kX8_advance_1 rfl dX8_advance_154 ?_
    refine lv_iconst (v := 1) S.1 S.2.1 dX8_advance_157 (by decide) ?_
    refine lv_iadd S.1 S.2.1 dX8_advance_158 ?_
    refine g_put (a := a_t) (ws' := (wX8_advance cI cB cZ cM cJ cK  a_t a_t_bytes t_length (t_place + (1 : Int32)) t_start y0 t_value t_bytes)) S hK Wd iX8_advance_X8 tyX8 tyX8_ok nmX8 0 rfl rfl 2 rfl rfl kX8_advance_1 rfl rfl rfl dX8_advance_159 rfl (fun H locs Wd => ?_)
    refine lv_goto (tgt := 170) S.1 S.2.1 dX8_advance_162 rfl ?_
    exact g_vret S Wd hr hlk dX8_advance_170 ((t_place + (1 : Int32)), t_start, y0, t_value) hf rfl rfl
  refine lv_aload_n S.1 S.2.1 dX8_advance_0 rfl (lv_at hl 0 rfl) ?_
  refine lv_bipush (v := 32) S.1 S.2.1 dX8_advance_1 (by decide) ?_
  refine lv_bipush (v := 32) S.1 S.2.1 dX8_advance_3 (by decide) ?_
  obtain ⟨u1, hu1, hf⟩ := g_bind hF hf
  refine g_callV (ws' := (wX8_advance cI cB cZ cM cJ cK  a_t a_t_bytes t_length u1.2 t_start t_token t_value t_bytes)) (As := [.int (32 : Int32), .int (32 : Int32)]) (rest := []) (st1 := [.int u1.1]) S hK hA Wd (c_X8_skip l D N cI cB cZ cM cJ cK a_t a_t_bytes t_length t_place t_start t_token t_value t_bytes (32 : Int32) (32 : Int32)) (cwV 2 S.2.2.2.2 gX8_advance_X8_skip rfl rfl rfl n_X8_skip ⟨Nat.le_of_ble_eq_true rfl, Nat.le_of_ble_eq_true rfl⟩) hu1 [0, 1] rfl rfl 0 8 rfl rfl rfl rfl rfl rfl rfl hl.1 rfl (Nat.le_of_ble_eq_true rfl) dX8_advance_5 ⟨Nat.zero_le _, Nat.zero_le _⟩ (fun H locs Wd => ?_)
  refine lv_pop S.1 S.2.1 dX8_advance_8 rfl ?_
  refine lv_aload_n S.1 S.2.1 dX8_advance_9 rfl (lv_at hl 0 rfl) ?_
  refine lv_aload_n S.1 S.2.1 dX8_advance_10 rfl (lv_at hl 0 rfl) ?_
  refine g_get (a := a_t) S hK Wd iX8_advance_X8 0 rfl rfl 2 rfl rfl kX8_advance_1 rfl dX8_advance_11 ?_
  refine g_put (a := a_t) (ws' := (wX8_advance cI cB cZ cM cJ cK  a_t a_t_bytes t_length u1.2 u1.2 t_token t_value t_bytes)) S hK Wd iX8_advance_X8 tyX8 tyX8_ok nmX8 0 rfl rfl 3 rfl rfl kX8_advance_2 rfl rfl rfl dX8_advance_14 rfl (fun H locs Wd => ?_)
  refine lv_aload_n S.1 S.2.1 dX8_advance_17 rfl (lv_at hl 0 rfl) ?_
  refine lv_bipush (v := 48) S.1 S.2.1 dX8_advance_18 (by decide) ?_
  refine lv_bipush (v := 57) S.1 S.2.1 dX8_advance_20 (by decide) ?_
  obtain ⟨u2, hu2, hf⟩ := g_bind hF hf
  refine g_callV (ws' := (wX8_advance cI cB cZ cM cJ cK  a_t a_t_bytes t_length u2.2 u1.2 t_token t_value t_bytes)) (As := [.int (48 : Int32), .int (57 : Int32)]) (rest := []) (st1 := [.int u2.1]) S hK hA Wd (c_X8_skip l D N cI cB cZ cM cJ cK a_t a_t_bytes t_length u1.2 u1.2 t_token t_value t_bytes (48 : Int32) (57 : Int32)) (cwV 2 S.2.2.2.2 gX8_advance_X8_skip rfl rfl rfl n_X8_skip ⟨Nat.le_of_ble_eq_true rfl, Nat.le_of_ble_eq_true rfl⟩) hu2 [0, 1] rfl rfl 0 8 rfl rfl rfl rfl rfl rfl rfl hl.1 rfl (Nat.le_of_ble_eq_true rfl) dX8_advance_22 ⟨Nat.zero_le _, Nat.zero_le _⟩ (fun H locs Wd => ?_)
  refine lv_if_eq (tgt := 69) S.1 S.2.1 dX8_advance_25 rfl (fun c3 => ?_) (fun c3 => ?_)
  · have hf := g_if hf c3
    refine lv_aload_n S.1 S.2.1 dX8_advance_69 rfl (lv_at hl 0 rfl) ?_
    refine lv_bipush (v := 97) S.1 S.2.1 dX8_advance_70 (by decide) ?_
    refine lv_bipush (v := 122) S.1 S.2.1 dX8_advance_72 (by decide) ?_
    obtain ⟨u4, hu4, hf⟩ := g_bind hF hf
    refine g_callV (ws' := (wX8_advance cI cB cZ cM cJ cK  a_t a_t_bytes t_length u4.2 u1.2 t_token t_value t_bytes)) (As := [.int (97 : Int32), .int (122 : Int32)]) (rest := []) (st1 := [.int u4.1]) S hK hA Wd (c_X8_skip l D N cI cB cZ cM cJ cK a_t a_t_bytes t_length u2.2 u1.2 t_token t_value t_bytes (97 : Int32) (122 : Int32)) (cwV 2 S.2.2.2.2 gX8_advance_X8_skip rfl rfl rfl n_X8_skip ⟨Nat.le_of_ble_eq_true rfl, Nat.le_of_ble_eq_true rfl⟩) hu4 [0, 1] rfl rfl 0 8 rfl rfl rfl rfl rfl rfl rfl hl.1 rfl (Nat.le_of_ble_eq_true rfl) dX8_advance_74 ⟨Nat.zero_le _, Nat.zero_le _⟩ (fun H locs Wd => ?_)
    refine lv_if_eq (tgt := 118) S.1 S.2.1 dX8_advance_77 rfl (fun c5 => ?_) (fun c5 => ?_)
    · have hf := g_if hf c5
      refine lv_aload_n S.1 S.2.1 dX8_advance_118 rfl (lv_at hl 0 rfl) ?_
      refine g_get (a := a_t) S hK Wd iX8_advance_X8 0 rfl rfl 2 rfl rfl kX8_advance_1 rfl dX8_advance_119 ?_
      refine lv_aload_n S.1 S.2.1 dX8_advance_122 rfl (lv_at hl 0 rfl) ?_
      refine g_get (a := a_t) S hK Wd iX8_advance_X8 0 rfl rfl 1 rfl rfl kX8_advance_6 rfl dX8_advance_123 ?_
      refine lv_icmp_ge (tgt := 165) S.1 S.2.1 dX8_advance_126 rfl (fun c6 => ?_) (fun c6 => ?_)
      · have hf := g_if hf c6
        refine lv_aload_n S.1 S.2.1 dX8_advance_165 rfl (lv_at hl 0 rfl) ?_
        refine lv_iconst (v := 0) S.1 S.2.1 dX8_advance_166 (by decide) ?_
        refine g_put (a := a_t) (ws' := (wX8_advance cI cB cZ cM cJ cK  a_t a_t_bytes t_length u4.2 u1.2 (0 : Int32) t_value t_bytes)) S hK Wd iX8_advance_X8 tyX8 tyX8_ok nmX8 0 rfl rfl 4 rfl rfl kX8_advance_3 rfl rfl rfl dX8_advance_167 rfl (fun H locs Wd => ?_)
        exact g_vret S Wd hr hlk dX8_advance_170 (u4.2, u1.2, (0 : Int32), t_value) hf rfl rfl
      · have hf := g_ifn hf c6
        refine lv_aload_n S.1 S.2.1 dX8_advance_129 rfl (lv_at hl 0 rfl) ?_
        refine lv_aload_n S.1 S.2.1 dX8_advance_130 rfl (lv_at hl 0 rfl) ?_
        refine g_get (a := a_t) S hK Wd iX8_advance_X8 0 rfl rfl 0 rfl rfl kX8_advance_4 rfl dX8_advance_131 ?_
        refine lv_aload_n S.1 S.2.1 dX8_advance_134 rfl (lv_at hl 0 rfl) ?_
        refine g_get (a := a_t) S hK Wd iX8_advance_X8 0 rfl rfl 2 rfl rfl kX8_advance_1 rfl dX8_advance_135 ?_
        obtain ⟨h7, hf⟩ := g_gi hF hf
        refine g_iald (a := a_t_bytes) S hK Wd 1 0 rfl rfl h7 dX8_advance_138 ?_
        refine lv_bipush (v := 59) S.1 S.2.1 dX8_advance_139 (by decide) ?_
        refine lv_icmp_ne (tgt := 148) S.1 S.2.1 dX8_advance_141 rfl (fun c8 => ?_) (fun c8 => ?_)
        · have hf := g_ifn hf c8
          refine lv_iconst (v := 4) S.1 S.2.1 dX8_advance_148 (by decide) ?_
          exact b149  u4.2 u1.2 t_token t_value (4 : Int32) _ _ _ Wd hl hf
        · have hf := g_if hf c8
          refine lv_iconst (v := 3) S.1 S.2.1 dX8_advance_144 (by decide) ?_
          refine lv_goto (tgt := 149) S.1 S.2.1 dX8_advance_145 rfl ?_
          exact b149  u4.2 u1.2 t_token t_value (3 : Int32) _ _ _ Wd hl hf
    · have hf := g_ifn hf c5
      refine lv_aload_n S.1 S.2.1 dX8_advance_80 rfl (lv_at hl 0 rfl) ?_
      refine lv_aload_n S.1 S.2.1 dX8_advance_81 rfl (lv_at hl 0 rfl) ?_
      refine g_get (a := a_t) S hK Wd iX8_advance_X8 0 rfl rfl 2 rfl rfl kX8_advance_1 rfl dX8_advance_82 ?_
      refine lv_aload_n S.1 S.2.1 dX8_advance_85 rfl (lv_at hl 0 rfl) ?_
      refine g_get (a := a_t) S hK Wd iX8_advance_X8 0 rfl rfl 3 rfl rfl kX8_advance_2 rfl dX8_advance_86 ?_
      refine lv_isub S.1 S.2.1 dX8_advance_89 ?_
      refine lv_iconst (v := 1) S.1 S.2.1 dX8_advance_90 (by decide) ?_
      refine lv_icmp_ne (tgt := 98) S.1 S.2.1 dX8_advance_91 rfl (fun c9 => ?_) (fun c9 => ?_)
      · have hf := g_ifn hf c9
        refine lv_iconst (v := 4) S.1 S.2.1 dX8_advance_98 (by decide) ?_
        exact b99  u4.2 u1.2 t_token t_value (4 : Int32) _ _ _ Wd hl hf
      · have hf := g_if hf c9
        refine lv_iconst (v := 1) S.1 S.2.1 dX8_advance_94 (by decide) ?_
        refine lv_goto (tgt := 99) S.1 S.2.1 dX8_advance_95 rfl ?_
        exact b99  u4.2 u1.2 t_token t_value (1 : Int32) _ _ _ Wd hl hf
  · have hf := g_ifn hf c3
    refine lv_aload_n S.1 S.2.1 dX8_advance_28 rfl (lv_at hl 0 rfl) ?_
    refine lv_aload_n S.1 S.2.1 dX8_advance_29 rfl (lv_at hl 0 rfl) ?_
    refine g_get (a := a_t) S hK Wd iX8_advance_X8 0 rfl rfl 2 rfl rfl kX8_advance_1 rfl dX8_advance_30 ?_
    refine lv_aload_n S.1 S.2.1 dX8_advance_33 rfl (lv_at hl 0 rfl) ?_
    refine g_get (a := a_t) S hK Wd iX8_advance_X8 0 rfl rfl 3 rfl rfl kX8_advance_2 rfl dX8_advance_34 ?_
    refine lv_isub S.1 S.2.1 dX8_advance_37 ?_
    refine lv_iconst (v := 1) S.1 S.2.1 dX8_advance_38 (by decide) ?_
    refine lv_icmp_ne (tgt := 46) S.1 S.2.1 dX8_advance_39 rfl (fun c10 => ?_) (fun c10 => ?_)
    · have hf := g_ifn hf c10
      refine lv_iconst (v := 4) S.1 S.2.1 dX8_advance_46 (by decide) ?_
      exact b47  u2.2 u1.2 t_token t_value (4 : Int32) _ _ _ Wd hl hf
    · have hf := g_if hf c10
      refine lv_iconst (v := 2) S.1 S.2.1 dX8_advance_42 (by decide) ?_
      refine lv_goto (tgt := 47) S.1 S.2.1 dX8_advance_43 rfl ?_
      exact b47  u2.2 u1.2 t_token t_value (2 : Int32) _ _ _ Wd hl hf
def wX8_readNumber (cI cB cZ cM cJ cK : ClassId) (a_t a_t_bytes : Nat) (t_length t_place t_start t_token t_value : Int32) (t_bytes : Nat → Int32) : List va_W := [[(a_t, .inr (8, [.ref a_t_bytes, .int t_length, .int t_place, .int t_start, .int t_token, .int t_value]))], [(a_t_bytes, .inl (cI, 150, .inl t_bytes))]]
def rmX8_readNumber : Room := { frames := 2, cells := 0, slots := 0, locals := 43 }
theorem kX8_readNumber_1 : Cond.fieldLink RX8 30 "FeastMarch$Text" "token" "I" ∈ wsX8_readNumber := List.mem_of_getElem? (i := 1) rfl
theorem kX8_readNumber_2 : Cond.fieldLink RX8 40 "FeastMarch$Text" "value" "I" ∈ wsX8_readNumber := List.mem_of_getElem? (i := 2) rfl
theorem iX8_readNumber_X8 : ∀ w ∈ wsX80, w ∈ wsX8_readNumber := fun _ h => List.mem_cons_of_mem _ (List.mem_append_right _ h)
theorem n_X8_readNumber : yX8_readNumber.cls = RX8 ∧ yX8_readNumber.cls ≠ "java/lang/invoke/MethodHandle" ∧ yX8_readNumber.cls ≠ "java/lang/invoke/VarHandle" ∧ (parseMethodDescriptor yX8_readNumber.desc).map (fun d => d.parameters.length) = some 2 := by decide +kernel
set_option maxHeartbeats 4000000 in
set_option maxRecDepth 100000 in
theorem c_X8_readNumber (l : Launch) (D : va_G) (N : Nat) (cI cB cZ cM cJ cK : ClassId) (a_t a_t_bytes : Nat) (t_length t_place t_start t_token t_value : Int32) (t_bytes : Nat → Int32) (x1 x2 : Int32) : gM l yX8_readNumber wsX8_readNumber rmX8_readNumber D (gT cI cB cZ cM cJ cK) (wX8_readNumber cI cB cZ cM cJ cK  a_t a_t_bytes t_length t_place t_start t_token t_value t_bytes) [.ref a_t, .int x1, .int x2] (fX8_readNumber N t_length t_place t_start t_token t_value t_bytes x1 x2) (fun _u : Int32 × Int32 × Int32 × Int32 × Int32 => some (.int _u.1)) (fun _u : Int32 × Int32 × Int32 × Int32 × Int32 => (wX8_readNumber cI cB cZ cM cJ cK  a_t a_t_bytes t_length _u.2.1 _u.2.2.1 _u.2.2.2.1 _u.2.2.2.2 t_bytes)) := by
  refine g_start (cc := cX8_readNumber) (maxL := 3) (ret := (some .boolean)) (by decide) rfl (Nat.le_of_ble_eq_true rfl) ?_
  intro F hf hF p e s m below meth c A ls S hK hA Wd hr hlk hnm hl
  refine lv_aload_n S.1 S.2.1 dX8_readNumber_0 rfl (lv_at hl 0 rfl) ?_
  obtain ⟨u1, hu1, hf⟩ := g_bind hF hf
  refine g_callV (ws' := (wX8_readNumber cI cB cZ cM cJ cK  a_t a_t_bytes t_length u1.1 u1.2.1 u1.2.2.1 u1.2.2.2 t_bytes)) (As := []) (rest := []) (st1 := []) S hK hA Wd (c_X8_advance l D N cI cB cZ cM cJ cK a_t a_t_bytes t_length t_place t_start t_token t_value t_bytes) (cwV 0 S.2.2.2.2 gX8_readNumber_X8_advance rfl rfl rfl n_X8_advance ⟨Nat.le_of_ble_eq_true rfl, Nat.le_of_ble_eq_true rfl⟩) hu1 [0, 1] rfl rfl 0 8 rfl rfl rfl rfl rfl rfl rfl hl.1 rfl (Nat.le_of_ble_eq_true rfl) dX8_readNumber_1 ⟨Nat.zero_le _, Nat.zero_le _⟩ (fun H locs Wd => ?_)
  refine lv_aload_n S.1 S.2.1 dX8_readNumber_4 rfl (lv_at hl 0 rfl) ?_
  refine g_get (a := a_t) S hK Wd iX8_readNumber_X8 0 rfl rfl 4 rfl rfl kX8_readNumber_1 rfl dX8_readNumber_5 ?_
  refine lv_iconst (v := 2) S.1 S.2.1 dX8_readNumber_8 (by decide) ?_
  refine lv_icmp_ne (tgt := 32) S.1 S.2.1 dX8_readNumber_9 rfl (fun c2 => ?_) (fun c2 => ?_)
  · have hf := g_ifn hf c2
    refine lv_iconst (v := 0) S.1 S.2.1 dX8_readNumber_32 (by decide) ?_
    exact g_zret S Wd hr hlk rfl dX8_readNumber_33 ((0 : Int32), u1.1, u1.2.1, u1.2.2.1, u1.2.2.2) hf rfl rfl
  · have hf := g_if hf c2
    refine lv_aload_n S.1 S.2.1 dX8_readNumber_12 rfl (lv_at hl 0 rfl) ?_
    refine g_get (a := a_t) S hK Wd iX8_readNumber_X8 0 rfl rfl 5 rfl rfl kX8_readNumber_2 rfl dX8_readNumber_13 ?_
    refine lv_iload_n S.1 S.2.1 dX8_readNumber_16 rfl (lv_at hl 1 rfl) ?_
    refine lv_icmp_lt (tgt := 32) S.1 S.2.1 dX8_readNumber_17 rfl (fun c3 => ?_) (fun c3 => ?_)
    · have hf := g_if hf c3
      refine lv_iconst (v := 0) S.1 S.2.1 dX8_readNumber_32 (by decide) ?_
      exact g_zret S Wd hr hlk rfl dX8_readNumber_33 ((0 : Int32), u1.1, u1.2.1, u1.2.2.1, u1.2.2.2) hf rfl rfl
    · have hf := g_ifn hf c3
      refine lv_aload_n S.1 S.2.1 dX8_readNumber_20 rfl (lv_at hl 0 rfl) ?_
      refine g_get (a := a_t) S hK Wd iX8_readNumber_X8 0 rfl rfl 5 rfl rfl kX8_readNumber_2 rfl dX8_readNumber_21 ?_
      refine lv_iload_n S.1 S.2.1 dX8_readNumber_24 rfl (lv_at hl 2 rfl) ?_
      refine lv_icmp_gt (tgt := 32) S.1 S.2.1 dX8_readNumber_25 rfl (fun c4 => ?_) (fun c4 => ?_)
      · have hf := g_if hf c4
        refine lv_iconst (v := 0) S.1 S.2.1 dX8_readNumber_32 (by decide) ?_
        exact g_zret S Wd hr hlk rfl dX8_readNumber_33 ((0 : Int32), u1.1, u1.2.1, u1.2.2.1, u1.2.2.2) hf rfl rfl
      · have hf := g_ifn hf c4
        refine lv_iconst (v := 1) S.1 S.2.1 dX8_readNumber_28 (by decide) ?_
        refine lv_goto (tgt := 33) S.1 S.2.1 dX8_readNumber_29 rfl ?_
        exact g_zret S Wd hr hlk rfl dX8_readNumber_33 ((1 : Int32), u1.1, u1.2.1, u1.2.2.1, u1.2.2.2) hf rfl rfl
def wX8_readStop (cI cB cZ cM cJ cK : ClassId) (a_t a_t_bytes : Nat) (t_length t_place t_start t_token t_value : Int32) (t_bytes : Nat → Int32) : List va_W := [[(a_t, .inr (8, [.ref a_t_bytes, .int t_length, .int t_place, .int t_start, .int t_token, .int t_value]))], [(a_t_bytes, .inl (cI, 150, .inl t_bytes))]]
def rmX8_readStop : Room := { frames := 2, cells := 0, slots := 0, locals := 43 }
theorem kX8_readStop_1 : Cond.fieldLink RX8 30 "FeastMarch$Text" "token" "I" ∈ wsX8_readStop := List.mem_of_getElem? (i := 1) rfl
theorem iX8_readStop_X8 : ∀ w ∈ wsX80, w ∈ wsX8_readStop := fun _ h => List.mem_cons_of_mem _ (List.mem_append_right _ h)
theorem n_X8_readStop : yX8_readStop.cls = RX8 ∧ yX8_readStop.cls ≠ "java/lang/invoke/MethodHandle" ∧ yX8_readStop.cls ≠ "java/lang/invoke/VarHandle" ∧ (parseMethodDescriptor yX8_readStop.desc).map (fun d => d.parameters.length) = some 0 := by decide +kernel
set_option maxHeartbeats 4000000 in
set_option maxRecDepth 100000 in
theorem c_X8_readStop (l : Launch) (D : va_G) (N : Nat) (cI cB cZ cM cJ cK : ClassId) (a_t a_t_bytes : Nat) (t_length t_place t_start t_token t_value : Int32) (t_bytes : Nat → Int32) : gM l yX8_readStop wsX8_readStop rmX8_readStop D (gT cI cB cZ cM cJ cK) (wX8_readStop cI cB cZ cM cJ cK  a_t a_t_bytes t_length t_place t_start t_token t_value t_bytes) [.ref a_t] (fX8_readStop N t_length t_place t_start t_token t_value t_bytes) (fun _u : Int32 × Int32 × Int32 × Int32 × Int32 => some (.int _u.1)) (fun _u : Int32 × Int32 × Int32 × Int32 × Int32 => (wX8_readStop cI cB cZ cM cJ cK  a_t a_t_bytes t_length _u.2.1 _u.2.2.1 _u.2.2.2.1 _u.2.2.2.2 t_bytes)) := by
  refine g_start (cc := cX8_readStop) (maxL := 1) (ret := (some .boolean)) (by decide) rfl (Nat.le_of_ble_eq_true rfl) ?_
  intro F hf hF p e s m below meth c A ls S hK hA Wd hr hlk hnm hl
  refine lv_aload_n S.1 S.2.1 dX8_readStop_0 rfl (lv_at hl 0 rfl) ?_
  obtain ⟨u1, hu1, hf⟩ := g_bind hF hf
  refine g_callV (ws' := (wX8_readStop cI cB cZ cM cJ cK  a_t a_t_bytes t_length u1.1 u1.2.1 u1.2.2.1 u1.2.2.2 t_bytes)) (As := []) (rest := []) (st1 := []) S hK hA Wd (c_X8_advance l D N cI cB cZ cM cJ cK a_t a_t_bytes t_length t_place t_start t_token t_value t_bytes) (cwV 0 S.2.2.2.2 gX8_readStop_X8_advance rfl rfl rfl n_X8_advance ⟨Nat.le_of_ble_eq_true rfl, Nat.le_of_ble_eq_true rfl⟩) hu1 [0, 1] rfl rfl 0 8 rfl rfl rfl rfl rfl rfl rfl hl.1 rfl (Nat.le_of_ble_eq_true rfl) dX8_readStop_1 ⟨Nat.zero_le _, Nat.zero_le _⟩ (fun H locs Wd => ?_)
  refine lv_aload_n S.1 S.2.1 dX8_readStop_4 rfl (lv_at hl 0 rfl) ?_
  refine g_get (a := a_t) S hK Wd iX8_readStop_X8 0 rfl rfl 4 rfl rfl kX8_readStop_1 rfl dX8_readStop_5 ?_
  refine lv_iconst (v := 3) S.1 S.2.1 dX8_readStop_8 (by decide) ?_
  refine lv_icmp_ne (tgt := 16) S.1 S.2.1 dX8_readStop_9 rfl (fun c2 => ?_) (fun c2 => ?_)
  · have hf := g_ifn hf c2
    refine lv_iconst (v := 0) S.1 S.2.1 dX8_readStop_16 (by decide) ?_
    exact g_zret S Wd hr hlk rfl dX8_readStop_17 ((0 : Int32), u1.1, u1.2.1, u1.2.2.1, u1.2.2.2) hf rfl rfl
  · have hf := g_if hf c2
    refine lv_iconst (v := 1) S.1 S.2.1 dX8_readStop_12 (by decide) ?_
    refine lv_goto (tgt := 17) S.1 S.2.1 dX8_readStop_13 rfl ?_
    exact g_zret S Wd hr hlk rfl dX8_readStop_17 ((1 : Int32), u1.1, u1.2.1, u1.2.2.1, u1.2.2.2) hf rfl rfl
def wX8_readCorners (cI cB cZ cM cJ cK : ClassId) (a_t a_t_bytes a_p1 a_p1_first a_p1_second a_p1_hours a_p1_home a_p1_feet a_p1_far : Nat) (t_length t_place t_start t_token t_value : Int32) (t_bytes : Nat → Int32) (p1_corners p1_streets p1_leaders : Int32) (p1_first p1_second p1_hours p1_home p1_feet : Nat → Int32) : List va_W := [[(a_t, .inr (8, [.ref a_t_bytes, .int t_length, .int t_place, .int t_start, .int t_token, .int t_value]))], [(a_t_bytes, .inl (cI, 150, .inl t_bytes))], [(a_p1, .inr (0, [.int p1_corners, .int p1_streets, .int p1_leaders, .ref a_p1_first, .ref a_p1_second, .ref a_p1_hours, .ref a_p1_home, .ref a_p1_feet, .ref a_p1_far]))], [(a_p1_first, .inl (cI, 12, .inl p1_first))], [(a_p1_second, .inl (cI, 12, .inl p1_second))], [(a_p1_hours, .inl (cI, 12, .inl p1_hours))], [(a_p1_home, .inl (cI, 6, .inl p1_home))], [(a_p1_feet, .inl (cI, 6, .inl p1_feet))]]
def rmX8_readCorners : Room := { frames := 3, cells := 0, slots := 0, locals := 65 }
theorem kX8_readCorners_1 : Cond.fieldLink RX8 40 "FeastMarch$Text" "value" "I" ∈ wsX8_readCorners := List.mem_of_getElem? (i := 1) rfl
theorem kX8_readCorners_2 : Cond.fieldLink RX8 63 "FeastMarch$City" "corners" "I" ∈ wsX8_readCorners := List.mem_of_getElem? (i := 2) rfl
theorem iX8_readCorners_X0 : ∀ w ∈ wsX00, w ∈ wsX8_readCorners := fun _ h => List.mem_cons_of_mem _ (List.mem_append_right _ h)
theorem iX8_readCorners_X8 : ∀ w ∈ wsX80, w ∈ wsX8_readCorners := fun _ h => List.mem_cons_of_mem _ (List.mem_append_left _ (List.mem_append_right _ h))
theorem n_X8_readCorners : yX8_readCorners.cls = RX8 ∧ yX8_readCorners.cls ≠ "java/lang/invoke/MethodHandle" ∧ yX8_readCorners.cls ≠ "java/lang/invoke/VarHandle" ∧ (parseMethodDescriptor yX8_readCorners.desc).map (fun d => d.parameters.length) = some 1 := by decide +kernel
set_option maxHeartbeats 4000000 in
set_option maxRecDepth 100000 in
theorem c_X8_readCorners (l : Launch) (D : va_G) (N : Nat) (cI cB cZ cM cJ cK : ClassId) (a_t a_t_bytes a_p1 a_p1_first a_p1_second a_p1_hours a_p1_home a_p1_feet a_p1_far : Nat) (t_length t_place t_start t_token t_value : Int32) (t_bytes : Nat → Int32) (p1_corners p1_streets p1_leaders : Int32) (p1_first p1_second p1_hours p1_home p1_feet : Nat → Int32) : gM l yX8_readCorners wsX8_readCorners rmX8_readCorners D (gT cI cB cZ cM cJ cK) (wX8_readCorners cI cB cZ cM cJ cK  a_t a_t_bytes a_p1 a_p1_first a_p1_second a_p1_hours a_p1_home a_p1_feet a_p1_far t_length t_place t_start t_token t_value t_bytes p1_corners p1_streets p1_leaders p1_first p1_second p1_hours p1_home p1_feet) [.ref a_t, .ref a_p1] (fX8_readCorners N t_length t_place t_start t_token t_value t_bytes p1_corners) (fun _u : Int32 × Int32 × Int32 × Int32 × Int32 × Int32 => some (.int _u.1)) (fun _u : Int32 × Int32 × Int32 × Int32 × Int32 × Int32 => (wX8_readCorners cI cB cZ cM cJ cK  a_t a_t_bytes a_p1 a_p1_first a_p1_second a_p1_hours a_p1_home a_p1_feet a_p1_far t_length _u.2.1 _u.2.2.1 _u.2.2.2.1 _u.2.2.2.2.1 t_bytes _u.2.2.2.2.2 p1_streets p1_leaders p1_first p1_second p1_hours p1_home p1_feet)) := by
  refine g_start (cc := cX8_readCorners) (maxL := 2) (ret := (some .boolean)) (by decide) rfl (Nat.le_of_ble_eq_true rfl) ?_
  intro F hf hF p e s m below meth c A ls S hK hA Wd hr hlk hnm hl
  refine lv_aload_n S.1 S.2.1 dX8_readCorners_0 rfl (lv_at hl 0 rfl) ?_
  refine lv_iconst (v := 1) S.1 S.2.1 dX8_readCorners_1 (by decide) ?_
  refine lv_bipush (v := 8) S.1 S.2.1 dX8_readCorners_2 (by decide) ?_
  obtain ⟨u1, hu1, hf⟩ := g_bind hF hf
  refine g_callV (ws' := (wX8_readCorners cI cB cZ cM cJ cK  a_t a_t_bytes a_p1 a_p1_first a_p1_second a_p1_hours a_p1_home a_p1_feet a_p1_far t_length u1.2.1 u1.2.2.1 u1.2.2.2.1 u1.2.2.2.2 t_bytes p1_corners p1_streets p1_leaders p1_first p1_second p1_hours p1_home p1_feet)) (As := [.int (1 : Int32), .int (8 : Int32)]) (rest := []) (st1 := [.int u1.1]) S hK hA Wd (c_X8_readNumber l D N cI cB cZ cM cJ cK a_t a_t_bytes t_length t_place t_start t_token t_value t_bytes (1 : Int32) (8 : Int32)) (cwV 2 S.2.2.2.2 gX8_readCorners_X8_readNumber rfl rfl rfl n_X8_readNumber ⟨Nat.le_of_ble_eq_true rfl, Nat.le_of_ble_eq_true rfl⟩) hu1 [0, 1] rfl rfl 0 8 rfl rfl rfl rfl rfl rfl rfl hl.1 rfl (Nat.le_of_ble_eq_true rfl) dX8_readCorners_4 ⟨Nat.zero_le _, Nat.zero_le _⟩ (fun H locs Wd => ?_)
  refine lv_if_ne (tgt := 12) S.1 S.2.1 dX8_readCorners_7 rfl (fun c2 => ?_) (fun c2 => ?_)
  · have hf := g_ifn hf c2
    refine lv_aload_n S.1 S.2.1 dX8_readCorners_12 rfl (lv_at hl 1 rfl) ?_
    refine lv_aload_n S.1 S.2.1 dX8_readCorners_13 rfl (lv_at hl 0 rfl) ?_
    refine g_get (a := a_t) S hK Wd iX8_readCorners_X8 0 rfl rfl 5 rfl rfl kX8_readCorners_1 rfl dX8_readCorners_14 ?_
    refine g_put (a := a_p1) (ws' := (wX8_readCorners cI cB cZ cM cJ cK  a_t a_t_bytes a_p1 a_p1_first a_p1_second a_p1_hours a_p1_home a_p1_feet a_p1_far t_length u1.2.1 u1.2.2.1 u1.2.2.2.1 u1.2.2.2.2 t_bytes u1.2.2.2.2 p1_streets p1_leaders p1_first p1_second p1_hours p1_home p1_feet)) S hK Wd iX8_readCorners_X0 tyX0 tyX0_ok nmX0 2 rfl rfl 0 rfl rfl kX8_readCorners_2 rfl rfl rfl dX8_readCorners_17 rfl (fun H locs Wd => ?_)
    refine lv_aload_n S.1 S.2.1 dX8_readCorners_20 rfl (lv_at hl 0 rfl) ?_
    obtain ⟨u3, hu3, hf⟩ := g_bind hF hf
    refine g_callV (ws' := (wX8_readCorners cI cB cZ cM cJ cK  a_t a_t_bytes a_p1 a_p1_first a_p1_second a_p1_hours a_p1_home a_p1_feet a_p1_far t_length u3.2.1 u3.2.2.1 u3.2.2.2.1 u3.2.2.2.2 t_bytes u1.2.2.2.2 p1_streets p1_leaders p1_first p1_second p1_hours p1_home p1_feet)) (As := []) (rest := []) (st1 := [.int u3.1]) S hK hA Wd (c_X8_readStop l D N cI cB cZ cM cJ cK a_t a_t_bytes t_length u1.2.1 u1.2.2.1 u1.2.2.2.1 u1.2.2.2.2 t_bytes) (cwV 0 S.2.2.2.2 gX8_readCorners_X8_readStop rfl rfl rfl n_X8_readStop ⟨Nat.le_of_ble_eq_true rfl, Nat.le_of_ble_eq_true rfl⟩) hu3 [0, 1] rfl rfl 0 8 rfl rfl rfl rfl rfl rfl rfl hl.1 rfl (Nat.le_of_ble_eq_true rfl) dX8_readCorners_21 ⟨Nat.zero_le _, Nat.zero_le _⟩ (fun H locs Wd => ?_)
    obtain ⟨h4, hf⟩ := g_gc hF hf
    exact g_zret S Wd hr hlk (congrArg Value.int h4) dX8_readCorners_24 (u3.1, u3.2.1, u3.2.2.1, u3.2.2.2.1, u3.2.2.2.2, u1.2.2.2.2) hf rfl rfl
  · have hf := g_if hf c2
    refine lv_iconst (v := 0) S.1 S.2.1 dX8_readCorners_10 (by decide) ?_
    exact g_zret S Wd hr hlk rfl dX8_readCorners_11 ((0 : Int32), u1.2.1, u1.2.2.1, u1.2.2.2.1, u1.2.2.2.2, p1_corners) hf rfl rfl
def wX8_readStreet (cI cB cZ cM cJ cK : ClassId) (a_t a_t_bytes a_p1 a_p1_first a_p1_second a_p1_hours a_p1_home a_p1_feet a_p1_far : Nat) (t_length t_place t_start t_token t_value : Int32) (t_bytes : Nat → Int32) (p1_corners p1_streets p1_leaders : Int32) (p1_first p1_second p1_hours p1_home p1_feet : Nat → Int32) : List va_W := [[(a_t, .inr (8, [.ref a_t_bytes, .int t_length, .int t_place, .int t_start, .int t_token, .int t_value]))], [(a_t_bytes, .inl (cI, 150, .inl t_bytes))], [(a_p1, .inr (0, [.int p1_corners, .int p1_streets, .int p1_leaders, .ref a_p1_first, .ref a_p1_second, .ref a_p1_hours, .ref a_p1_home, .ref a_p1_feet, .ref a_p1_far]))], [(a_p1_first, .inl (cI, 12, .inl p1_first))], [(a_p1_second, .inl (cI, 12, .inl p1_second))], [(a_p1_hours, .inl (cI, 12, .inl p1_hours))], [(a_p1_home, .inl (cI, 6, .inl p1_home))], [(a_p1_feet, .inl (cI, 6, .inl p1_feet))]]
def rmX8_readStreet : Room := { frames := 3, cells := 0, slots := 0, locals := 65 }
theorem kX8_readStreet_1 : Cond.fieldLink RX8 63 "FeastMarch$City" "corners" "I" ∈ wsX8_readStreet := List.mem_of_getElem? (i := 1) rfl
theorem kX8_readStreet_2 : Cond.fieldLink RX8 40 "FeastMarch$Text" "value" "I" ∈ wsX8_readStreet := List.mem_of_getElem? (i := 2) rfl
theorem iX8_readStreet_X0 : ∀ w ∈ wsX00, w ∈ wsX8_readStreet := fun _ h => List.mem_cons_of_mem _ (List.mem_append_left _ (List.mem_append_right _ h))
theorem iX8_readStreet_X8 : ∀ w ∈ wsX80, w ∈ wsX8_readStreet := fun _ h => List.mem_cons_of_mem _ (List.mem_append_right _ h)
theorem n_X8_readStreet : yX8_readStreet.cls = RX8 ∧ yX8_readStreet.cls ≠ "java/lang/invoke/MethodHandle" ∧ yX8_readStreet.cls ≠ "java/lang/invoke/VarHandle" ∧ (parseMethodDescriptor yX8_readStreet.desc).map (fun d => d.parameters.length) = some 1 := by decide +kernel
set_option maxHeartbeats 4000000 in
set_option maxRecDepth 100000 in
theorem c_X8_readStreet (l : Launch) (D : va_G) (N : Nat) (cI cB cZ cM cJ cK : ClassId) (a_t a_t_bytes a_p1 a_p1_first a_p1_second a_p1_hours a_p1_home a_p1_feet a_p1_far : Nat) (t_length t_place t_start t_token t_value : Int32) (t_bytes : Nat → Int32) (p1_corners p1_streets p1_leaders : Int32) (p1_first p1_second p1_hours p1_home p1_feet : Nat → Int32) : gM l yX8_readStreet wsX8_readStreet rmX8_readStreet D (gT cI cB cZ cM cJ cK) (wX8_readStreet cI cB cZ cM cJ cK  a_t a_t_bytes a_p1 a_p1_first a_p1_second a_p1_hours a_p1_home a_p1_feet a_p1_far t_length t_place t_start t_token t_value t_bytes p1_corners p1_streets p1_leaders p1_first p1_second p1_hours p1_home p1_feet) [.ref a_t, .ref a_p1] (fX8_readStreet N t_length t_place t_start t_token t_value t_bytes p1_corners p1_streets p1_first p1_second p1_hours) (fun _u : Int32 × Int32 × Int32 × Int32 × Int32 × Int32 × (Nat → Int32) × (Nat → Int32) × (Nat → Int32) => some (.int _u.1)) (fun _u : Int32 × Int32 × Int32 × Int32 × Int32 × Int32 × (Nat → Int32) × (Nat → Int32) × (Nat → Int32) => (wX8_readStreet cI cB cZ cM cJ cK  a_t a_t_bytes a_p1 a_p1_first a_p1_second a_p1_hours a_p1_home a_p1_feet a_p1_far t_length _u.2.1 _u.2.2.1 _u.2.2.2.1 _u.2.2.2.2.1 t_bytes p1_corners _u.2.2.2.2.2.1 p1_leaders _u.2.2.2.2.2.2.1 _u.2.2.2.2.2.2.2.1 _u.2.2.2.2.2.2.2.2 p1_home p1_feet)) := by
  refine g_start (cc := cX8_readStreet) (maxL := 4) (ret := (some .boolean)) (by decide) rfl (Nat.le_of_ble_eq_true rfl) ?_
  intro F hf hF p e s m below meth c A ls S hK hA Wd hr hlk hnm hl
  refine lv_aload_n S.1 S.2.1 dX8_readStreet_0 rfl (lv_at hl 0 rfl) ?_
  refine lv_iconst (v := 0) S.1 S.2.1 dX8_readStreet_1 (by decide) ?_
  refine lv_aload_n S.1 S.2.1 dX8_readStreet_2 rfl (lv_at hl 1 rfl) ?_
  refine g_get (a := a_p1) S hK Wd iX8_readStreet_X0 2 rfl rfl 0 rfl rfl kX8_readStreet_1 rfl dX8_readStreet_3 ?_
  refine lv_iconst (v := 1) S.1 S.2.1 dX8_readStreet_6 (by decide) ?_
  refine lv_isub S.1 S.2.1 dX8_readStreet_7 ?_
  obtain ⟨u1, hu1, hf⟩ := g_bind hF hf
  refine g_callV (ws' := (wX8_readStreet cI cB cZ cM cJ cK  a_t a_t_bytes a_p1 a_p1_first a_p1_second a_p1_hours a_p1_home a_p1_feet a_p1_far t_length u1.2.1 u1.2.2.1 u1.2.2.2.1 u1.2.2.2.2 t_bytes p1_corners p1_streets p1_leaders p1_first p1_second p1_hours p1_home p1_feet)) (As := [.int (0 : Int32), .int (p1_corners - (1 : Int32))]) (rest := []) (st1 := [.int u1.1]) S hK hA Wd (c_X8_readNumber l D N cI cB cZ cM cJ cK a_t a_t_bytes t_length t_place t_start t_token t_value t_bytes (0 : Int32) (p1_corners - (1 : Int32))) (cwV 2 S.2.2.2.2 gX8_readStreet_X8_readNumber rfl rfl rfl n_X8_readNumber ⟨Nat.le_of_ble_eq_true rfl, Nat.le_of_ble_eq_true rfl⟩) hu1 [0, 1] rfl rfl 0 8 rfl rfl rfl rfl rfl rfl rfl hl.1 rfl (Nat.le_of_ble_eq_true rfl) dX8_readStreet_8 ⟨Nat.zero_le _, Nat.zero_le _⟩ (fun H locs Wd => ?_)
  refine lv_if_ne (tgt := 16) S.1 S.2.1 dX8_readStreet_11 rfl (fun c2 => ?_) (fun c2 => ?_)
  · have hf := g_ifn hf c2
    refine lv_aload_n S.1 S.2.1 dX8_readStreet_16 rfl (lv_at hl 0 rfl) ?_
    refine g_get (a := a_t) S hK Wd iX8_readStreet_X8 0 rfl rfl 5 rfl rfl kX8_readStreet_2 rfl dX8_readStreet_17 ?_
    refine lv_istore_n (lv' := [(2, .int u1.2.2.2.2), (0, .ref a_t), (1, .ref a_p1)]) S.1 S.2.1 dX8_readStreet_20 rfl hl (by decide) rfl (fun ls hl => ?_)
    refine lv_aload_n S.1 S.2.1 dX8_readStreet_21 rfl (lv_at hl 1 rfl) ?_
    refine lv_iconst (v := 0) S.1 S.2.1 dX8_readStreet_22 (by decide) ?_
    refine lv_aload_n S.1 S.2.1 dX8_readStreet_23 rfl (lv_at hl 2 rfl) ?_
    refine g_get (a := a_p1) S hK Wd iX8_readStreet_X0 2 rfl rfl 0 rfl rfl kX8_readStreet_1 rfl dX8_readStreet_24 ?_
    refine lv_iconst (v := 1) S.1 S.2.1 dX8_readStreet_27 (by decide) ?_
    refine lv_isub S.1 S.2.1 dX8_readStreet_28 ?_
    obtain ⟨u3, hu3, hf⟩ := g_bind hF hf
    refine g_callV (ws' := (wX8_readStreet cI cB cZ cM cJ cK  a_t a_t_bytes a_p1 a_p1_first a_p1_second a_p1_hours a_p1_home a_p1_feet a_p1_far t_length u3.2.1 u3.2.2.1 u3.2.2.2.1 u3.2.2.2.2 t_bytes p1_corners p1_streets p1_leaders p1_first p1_second p1_hours p1_home p1_feet)) (As := [.int (0 : Int32), .int (p1_corners - (1 : Int32))]) (rest := []) (st1 := [.int u3.1]) S hK hA Wd (c_X8_readNumber l D N cI cB cZ cM cJ cK a_t a_t_bytes t_length u1.2.1 u1.2.2.1 u1.2.2.2.1 u1.2.2.2.2 t_bytes (0 : Int32) (p1_corners - (1 : Int32))) (cwV 2 S.2.2.2.2 gX8_readStreet_X8_readNumber rfl rfl rfl n_X8_readNumber ⟨Nat.le_of_ble_eq_true rfl, Nat.le_of_ble_eq_true rfl⟩) hu3 [0, 1] rfl rfl 0 8 rfl rfl rfl rfl rfl rfl rfl hl.1 rfl (Nat.le_of_ble_eq_true rfl) dX8_readStreet_29 ⟨Nat.zero_le _, Nat.zero_le _⟩ (fun H locs Wd => ?_)
    refine lv_if_eq (tgt := 43) S.1 S.2.1 dX8_readStreet_32 rfl (fun c4 => ?_) (fun c4 => ?_)
    · have hf := g_if hf c4
      refine lv_iconst (v := 0) S.1 S.2.1 dX8_readStreet_43 (by decide) ?_
      exact g_zret S Wd hr hlk rfl dX8_readStreet_44 ((0 : Int32), u3.2.1, u3.2.2.1, u3.2.2.2.1, u3.2.2.2.2, p1_streets, p1_first, p1_second, p1_hours) hf rfl rfl
    · have hf := g_ifn hf c4
      refine lv_aload_n S.1 S.2.1 dX8_readStreet_35 rfl (lv_at hl 1 rfl) ?_
      refine g_get (a := a_t) S hK Wd iX8_readStreet_X8 0 rfl rfl 5 rfl rfl kX8_readStreet_2 rfl dX8_readStreet_36 ?_
      refine lv_iload_n S.1 S.2.1 dX8_readStreet_39 rfl (lv_at hl 0 rfl) ?_
      refine lv_icmp_ne (tgt := 45) S.1 S.2.1 dX8_readStreet_40 rfl (fun c5 => ?_) (fun c5 => ?_)
      · have hf := g_ifn hf c5
        refine lv_aload_n S.1 S.2.1 dX8_readStreet_45 rfl (lv_at hl 1 rfl) ?_
        refine g_get (a := a_t) S hK Wd iX8_readStreet_X8 0 rfl rfl 5 rfl rfl kX8_readStreet_2 rfl dX8_readStreet_46 ?_
        refine lv_istore_n (lv' := [(3, .int u3.2.2.2.2), (2, .int u1.2.2.2.2), (0, .ref a_t), (1, .ref a_p1)]) S.1 S.2.1 dX8_readStreet_49 rfl hl (by decide) rfl (fun ls hl => ?_)
        refine lv_aload_n S.1 S.2.1 dX8_readStreet_50 rfl (lv_at hl 2 rfl) ?_
        refine lv_iconst (v := 1) S.1 S.2.1 dX8_readStreet_51 (by decide) ?_
        refine lv_bipush (v := 9) S.1 S.2.1 dX8_readStreet_52 (by decide) ?_
        obtain ⟨u6, hu6, hf⟩ := g_bind hF hf
        refine g_callV (ws' := (wX8_readStreet cI cB cZ cM cJ cK  a_t a_t_bytes a_p1 a_p1_first a_p1_second a_p1_hours a_p1_home a_p1_feet a_p1_far t_length u6.2.1 u6.2.2.1 u6.2.2.2.1 u6.2.2.2.2 t_bytes p1_corners p1_streets p1_leaders p1_first p1_second p1_hours p1_home p1_feet)) (As := [.int (1 : Int32), .int (9 : Int32)]) (rest := []) (st1 := [.int u6.1]) S hK hA Wd (c_X8_readNumber l D N cI cB cZ cM cJ cK a_t a_t_bytes t_length u3.2.1 u3.2.2.1 u3.2.2.2.1 u3.2.2.2.2 t_bytes (1 : Int32) (9 : Int32)) (cwV 2 S.2.2.2.2 gX8_readStreet_X8_readNumber rfl rfl rfl n_X8_readNumber ⟨Nat.le_of_ble_eq_true rfl, Nat.le_of_ble_eq_true rfl⟩) hu6 [0, 1] rfl rfl 0 8 rfl rfl rfl rfl rfl rfl rfl hl.1 rfl (Nat.le_of_ble_eq_true rfl) dX8_readStreet_54 ⟨Nat.zero_le _, Nat.zero_le _⟩ (fun H locs Wd => ?_)
        refine lv_if_ne (tgt := 62) S.1 S.2.1 dX8_readStreet_57 rfl (fun c7 => ?_) (fun c7 => ?_)
        · have hf := g_ifn hf c7
          refine lv_aload_n S.1 S.2.1 dX8_readStreet_62 rfl (lv_at hl 3 rfl) ?_
          refine lv_iload_n S.1 S.2.1 dX8_readStreet_63 rfl (lv_at hl 1 rfl) ?_
          refine lv_iload_n S.1 S.2.1 dX8_readStreet_64 rfl (lv_at hl 0 rfl) ?_
          refine lv_aload_n S.1 S.2.1 dX8_readStreet_65 rfl (lv_at hl 2 rfl) ?_
          refine g_get (a := a_t) S hK Wd iX8_readStreet_X8 0 rfl rfl 5 rfl rfl kX8_readStreet_2 rfl dX8_readStreet_66 ?_
          obtain ⟨u8, hu8, hf⟩ := g_bind hF hf
          refine g_callV (ws' := (wX8_readStreet cI cB cZ cM cJ cK  a_t a_t_bytes a_p1 a_p1_first a_p1_second a_p1_hours a_p1_home a_p1_feet a_p1_far t_length u6.2.1 u6.2.2.1 u6.2.2.2.1 u6.2.2.2.2 t_bytes p1_corners u8.1 p1_leaders u8.2.1 u8.2.2.1 u8.2.2.2 p1_home p1_feet)) (As := [.int u1.2.2.2.2, .int u3.2.2.2.2, .int u6.2.2.2.2]) (rest := []) (st1 := []) S hK hA Wd (c_X0_addStreet l D N cI cB cZ cM cJ cK a_p1 a_p1_first a_p1_second a_p1_hours a_p1_home a_p1_feet a_p1_far p1_corners p1_streets p1_leaders p1_first p1_second p1_hours u1.2.2.2.2 u3.2.2.2.2 u6.2.2.2.2) (cwV 3 S.2.2.2.2 gX8_readStreet_X0_addStreet rfl rfl rfl n_X0_addStreet ⟨Nat.le_of_ble_eq_true rfl, Nat.le_of_ble_eq_true rfl⟩) hu8 [2, 3, 4, 5] rfl rfl 0 0 rfl rfl rfl rfl rfl rfl rfl hl.1 rfl (Nat.le_of_ble_eq_true rfl) dX8_readStreet_69 ⟨Nat.zero_le _, Nat.zero_le _⟩ (fun H locs Wd => ?_)
          refine lv_aload_n S.1 S.2.1 dX8_readStreet_72 rfl (lv_at hl 2 rfl) ?_
          obtain ⟨u9, hu9, hf⟩ := g_bind hF hf
          refine g_callV (ws' := (wX8_readStreet cI cB cZ cM cJ cK  a_t a_t_bytes a_p1 a_p1_first a_p1_second a_p1_hours a_p1_home a_p1_feet a_p1_far t_length u9.2.1 u9.2.2.1 u9.2.2.2.1 u9.2.2.2.2 t_bytes p1_corners u8.1 p1_leaders u8.2.1 u8.2.2.1 u8.2.2.2 p1_home p1_feet)) (As := []) (rest := []) (st1 := [.int u9.1]) S hK hA Wd (c_X8_readStop l D N cI cB cZ cM cJ cK a_t a_t_bytes t_length u6.2.1 u6.2.2.1 u6.2.2.2.1 u6.2.2.2.2 t_bytes) (cwV 0 S.2.2.2.2 gX8_readStreet_X8_readStop rfl rfl rfl n_X8_readStop ⟨Nat.le_of_ble_eq_true rfl, Nat.le_of_ble_eq_true rfl⟩) hu9 [0, 1] rfl rfl 0 8 rfl rfl rfl rfl rfl rfl rfl hl.1 rfl (Nat.le_of_ble_eq_true rfl) dX8_readStreet_73 ⟨Nat.zero_le _, Nat.zero_le _⟩ (fun H locs Wd => ?_)
          obtain ⟨h10, hf⟩ := g_gc hF hf
          exact g_zret S Wd hr hlk (congrArg Value.int h10) dX8_readStreet_76 (u9.1, u9.2.1, u9.2.2.1, u9.2.2.2.1, u9.2.2.2.2, u8.1, u8.2.1, u8.2.2.1, u8.2.2.2) hf rfl rfl
        · have hf := g_if hf c7
          refine lv_iconst (v := 0) S.1 S.2.1 dX8_readStreet_60 (by decide) ?_
          exact g_zret S Wd hr hlk rfl dX8_readStreet_61 ((0 : Int32), u6.2.1, u6.2.2.1, u6.2.2.2.1, u6.2.2.2.2, p1_streets, p1_first, p1_second, p1_hours) hf rfl rfl
      · have hf := g_if hf c5
        refine lv_iconst (v := 0) S.1 S.2.1 dX8_readStreet_43 (by decide) ?_
        exact g_zret S Wd hr hlk rfl dX8_readStreet_44 ((0 : Int32), u3.2.1, u3.2.2.1, u3.2.2.2.1, u3.2.2.2.2, p1_streets, p1_first, p1_second, p1_hours) hf rfl rfl
  · have hf := g_if hf c2
    refine lv_iconst (v := 0) S.1 S.2.1 dX8_readStreet_14 (by decide) ?_
    exact g_zret S Wd hr hlk rfl dX8_readStreet_15 ((0 : Int32), u1.2.1, u1.2.2.1, u1.2.2.2.1, u1.2.2.2.2, p1_streets, p1_first, p1_second, p1_hours) hf rfl rfl
def wX8_readLeader (cI cB cZ cM cJ cK : ClassId) (a_t a_t_bytes a_p1 a_p1_first a_p1_second a_p1_hours a_p1_home a_p1_feet a_p1_far : Nat) (t_length t_place t_start t_token t_value : Int32) (t_bytes : Nat → Int32) (p1_corners p1_streets p1_leaders : Int32) (p1_first p1_second p1_hours p1_home p1_feet : Nat → Int32) : List va_W := [[(a_t, .inr (8, [.ref a_t_bytes, .int t_length, .int t_place, .int t_start, .int t_token, .int t_value]))], [(a_t_bytes, .inl (cI, 150, .inl t_bytes))], [(a_p1, .inr (0, [.int p1_corners, .int p1_streets, .int p1_leaders, .ref a_p1_first, .ref a_p1_second, .ref a_p1_hours, .ref a_p1_home, .ref a_p1_feet, .ref a_p1_far]))], [(a_p1_first, .inl (cI, 12, .inl p1_first))], [(a_p1_second, .inl (cI, 12, .inl p1_second))], [(a_p1_hours, .inl (cI, 12, .inl p1_hours))], [(a_p1_home, .inl (cI, 6, .inl p1_home))], [(a_p1_feet, .inl (cI, 6, .inl p1_feet))]]
def rmX8_readLeader : Room := { frames := 3, cells := 0, slots := 0, locals := 65 }
theorem kX8_readLeader_1 : Cond.fieldLink RX8 63 "FeastMarch$City" "corners" "I" ∈ wsX8_readLeader := List.mem_of_getElem? (i := 1) rfl
theorem kX8_readLeader_2 : Cond.fieldLink RX8 40 "FeastMarch$Text" "value" "I" ∈ wsX8_readLeader := List.mem_of_getElem? (i := 2) rfl
theorem iX8_readLeader_X0 : ∀ w ∈ wsX00, w ∈ wsX8_readLeader := fun _ h => List.mem_cons_of_mem _ (List.mem_append_left _ (List.mem_append_right _ h))
theorem iX8_readLeader_X8 : ∀ w ∈ wsX80, w ∈ wsX8_readLeader := fun _ h => List.mem_cons_of_mem _ (List.mem_append_right _ h)
theorem n_X8_readLeader : yX8_readLeader.cls = RX8 ∧ yX8_readLeader.cls ≠ "java/lang/invoke/MethodHandle" ∧ yX8_readLeader.cls ≠ "java/lang/invoke/VarHandle" ∧ (parseMethodDescriptor yX8_readLeader.desc).map (fun d => d.parameters.length) = some 1 := by decide +kernel
set_option maxHeartbeats 4000000 in
set_option maxRecDepth 100000 in
theorem c_X8_readLeader (l : Launch) (D : va_G) (N : Nat) (cI cB cZ cM cJ cK : ClassId) (a_t a_t_bytes a_p1 a_p1_first a_p1_second a_p1_hours a_p1_home a_p1_feet a_p1_far : Nat) (t_length t_place t_start t_token t_value : Int32) (t_bytes : Nat → Int32) (p1_corners p1_streets p1_leaders : Int32) (p1_first p1_second p1_hours p1_home p1_feet : Nat → Int32) : gM l yX8_readLeader wsX8_readLeader rmX8_readLeader D (gT cI cB cZ cM cJ cK) (wX8_readLeader cI cB cZ cM cJ cK  a_t a_t_bytes a_p1 a_p1_first a_p1_second a_p1_hours a_p1_home a_p1_feet a_p1_far t_length t_place t_start t_token t_value t_bytes p1_corners p1_streets p1_leaders p1_first p1_second p1_hours p1_home p1_feet) [.ref a_t, .ref a_p1] (fX8_readLeader N t_length t_place t_start t_token t_value t_bytes p1_corners p1_leaders p1_home p1_feet) (fun _u : Int32 × Int32 × Int32 × Int32 × Int32 × Int32 × (Nat → Int32) × (Nat → Int32) => some (.int _u.1)) (fun _u : Int32 × Int32 × Int32 × Int32 × Int32 × Int32 × (Nat → Int32) × (Nat → Int32) => (wX8_readLeader cI cB cZ cM cJ cK  a_t a_t_bytes a_p1 a_p1_first a_p1_second a_p1_hours a_p1_home a_p1_feet a_p1_far t_length _u.2.1 _u.2.2.1 _u.2.2.2.1 _u.2.2.2.2.1 t_bytes p1_corners p1_streets _u.2.2.2.2.2.1 p1_first p1_second p1_hours _u.2.2.2.2.2.2.1 _u.2.2.2.2.2.2.2)) := by
  refine g_start (cc := cX8_readLeader) (maxL := 3) (ret := (some .boolean)) (by decide) rfl (Nat.le_of_ble_eq_true rfl) ?_
  intro F hf hF p e s m below meth c A ls S hK hA Wd hr hlk hnm hl
  refine lv_aload_n S.1 S.2.1 dX8_readLeader_0 rfl (lv_at hl 0 rfl) ?_
  refine lv_iconst (v := 0) S.1 S.2.1 dX8_readLeader_1 (by decide) ?_
  refine lv_aload_n S.1 S.2.1 dX8_readLeader_2 rfl (lv_at hl 1 rfl) ?_
  refine g_get (a := a_p1) S hK Wd iX8_readLeader_X0 2 rfl rfl 0 rfl rfl kX8_readLeader_1 rfl dX8_readLeader_3 ?_
  refine lv_iconst (v := 1) S.1 S.2.1 dX8_readLeader_6 (by decide) ?_
  refine lv_isub S.1 S.2.1 dX8_readLeader_7 ?_
  obtain ⟨u1, hu1, hf⟩ := g_bind hF hf
  refine g_callV (ws' := (wX8_readLeader cI cB cZ cM cJ cK  a_t a_t_bytes a_p1 a_p1_first a_p1_second a_p1_hours a_p1_home a_p1_feet a_p1_far t_length u1.2.1 u1.2.2.1 u1.2.2.2.1 u1.2.2.2.2 t_bytes p1_corners p1_streets p1_leaders p1_first p1_second p1_hours p1_home p1_feet)) (As := [.int (0 : Int32), .int (p1_corners - (1 : Int32))]) (rest := []) (st1 := [.int u1.1]) S hK hA Wd (c_X8_readNumber l D N cI cB cZ cM cJ cK a_t a_t_bytes t_length t_place t_start t_token t_value t_bytes (0 : Int32) (p1_corners - (1 : Int32))) (cwV 2 S.2.2.2.2 gX8_readLeader_X8_readNumber rfl rfl rfl n_X8_readNumber ⟨Nat.le_of_ble_eq_true rfl, Nat.le_of_ble_eq_true rfl⟩) hu1 [0, 1] rfl rfl 0 8 rfl rfl rfl rfl rfl rfl rfl hl.1 rfl (Nat.le_of_ble_eq_true rfl) dX8_readLeader_8 ⟨Nat.zero_le _, Nat.zero_le _⟩ (fun H locs Wd => ?_)
  refine lv_if_ne (tgt := 16) S.1 S.2.1 dX8_readLeader_11 rfl (fun c2 => ?_) (fun c2 => ?_)
  · have hf := g_ifn hf c2
    refine lv_aload_n S.1 S.2.1 dX8_readLeader_16 rfl (lv_at hl 0 rfl) ?_
    refine g_get (a := a_t) S hK Wd iX8_readLeader_X8 0 rfl rfl 5 rfl rfl kX8_readLeader_2 rfl dX8_readLeader_17 ?_
    refine lv_istore_n (lv' := [(2, .int u1.2.2.2.2), (0, .ref a_t), (1, .ref a_p1)]) S.1 S.2.1 dX8_readLeader_20 rfl hl (by decide) rfl (fun ls hl => ?_)
    refine lv_aload_n S.1 S.2.1 dX8_readLeader_21 rfl (lv_at hl 1 rfl) ?_
    refine lv_iconst (v := 1) S.1 S.2.1 dX8_readLeader_22 (by decide) ?_
    refine lv_iconst (v := 5) S.1 S.2.1 dX8_readLeader_23 (by decide) ?_
    obtain ⟨u3, hu3, hf⟩ := g_bind hF hf
    refine g_callV (ws' := (wX8_readLeader cI cB cZ cM cJ cK  a_t a_t_bytes a_p1 a_p1_first a_p1_second a_p1_hours a_p1_home a_p1_feet a_p1_far t_length u3.2.1 u3.2.2.1 u3.2.2.2.1 u3.2.2.2.2 t_bytes p1_corners p1_streets p1_leaders p1_first p1_second p1_hours p1_home p1_feet)) (As := [.int (1 : Int32), .int (5 : Int32)]) (rest := []) (st1 := [.int u3.1]) S hK hA Wd (c_X8_readNumber l D N cI cB cZ cM cJ cK a_t a_t_bytes t_length u1.2.1 u1.2.2.1 u1.2.2.2.1 u1.2.2.2.2 t_bytes (1 : Int32) (5 : Int32)) (cwV 2 S.2.2.2.2 gX8_readLeader_X8_readNumber rfl rfl rfl n_X8_readNumber ⟨Nat.le_of_ble_eq_true rfl, Nat.le_of_ble_eq_true rfl⟩) hu3 [0, 1] rfl rfl 0 8 rfl rfl rfl rfl rfl rfl rfl hl.1 rfl (Nat.le_of_ble_eq_true rfl) dX8_readLeader_24 ⟨Nat.zero_le _, Nat.zero_le _⟩ (fun H locs Wd => ?_)
    refine lv_if_ne (tgt := 32) S.1 S.2.1 dX8_readLeader_27 rfl (fun c4 => ?_) (fun c4 => ?_)
    · have hf := g_ifn hf c4
      refine lv_aload_n S.1 S.2.1 dX8_readLeader_32 rfl (lv_at hl 2 rfl) ?_
      refine lv_iload_n S.1 S.2.1 dX8_readLeader_33 rfl (lv_at hl 0 rfl) ?_
      refine lv_aload_n S.1 S.2.1 dX8_readLeader_34 rfl (lv_at hl 1 rfl) ?_
      refine g_get (a := a_t) S hK Wd iX8_readLeader_X8 0 rfl rfl 5 rfl rfl kX8_readLeader_2 rfl dX8_readLeader_35 ?_
      obtain ⟨u5, hu5, hf⟩ := g_bind hF hf
      refine g_callV (ws' := (wX8_readLeader cI cB cZ cM cJ cK  a_t a_t_bytes a_p1 a_p1_first a_p1_second a_p1_hours a_p1_home a_p1_feet a_p1_far t_length u3.2.1 u3.2.2.1 u3.2.2.2.1 u3.2.2.2.2 t_bytes p1_corners p1_streets u5.1 p1_first p1_second p1_hours u5.2.1 u5.2.2)) (As := [.int u1.2.2.2.2, .int u3.2.2.2.2]) (rest := []) (st1 := []) S hK hA Wd (c_X0_addLeader l D N cI cB cZ cM cJ cK a_p1 a_p1_first a_p1_second a_p1_hours a_p1_home a_p1_feet a_p1_far p1_corners p1_streets p1_leaders p1_home p1_feet u1.2.2.2.2 u3.2.2.2.2) (cwV 2 S.2.2.2.2 gX8_readLeader_X0_addLeader rfl rfl rfl n_X0_addLeader ⟨Nat.le_of_ble_eq_true rfl, Nat.le_of_ble_eq_true rfl⟩) hu5 [2, 6, 7] rfl rfl 0 0 rfl rfl rfl rfl rfl rfl rfl hl.1 rfl (Nat.le_of_ble_eq_true rfl) dX8_readLeader_38 ⟨Nat.zero_le _, Nat.zero_le _⟩ (fun H locs Wd => ?_)
      refine lv_aload_n S.1 S.2.1 dX8_readLeader_41 rfl (lv_at hl 1 rfl) ?_
      obtain ⟨u6, hu6, hf⟩ := g_bind hF hf
      refine g_callV (ws' := (wX8_readLeader cI cB cZ cM cJ cK  a_t a_t_bytes a_p1 a_p1_first a_p1_second a_p1_hours a_p1_home a_p1_feet a_p1_far t_length u6.2.1 u6.2.2.1 u6.2.2.2.1 u6.2.2.2.2 t_bytes p1_corners p1_streets u5.1 p1_first p1_second p1_hours u5.2.1 u5.2.2)) (As := []) (rest := []) (st1 := [.int u6.1]) S hK hA Wd (c_X8_readStop l D N cI cB cZ cM cJ cK a_t a_t_bytes t_length u3.2.1 u3.2.2.1 u3.2.2.2.1 u3.2.2.2.2 t_bytes) (cwV 0 S.2.2.2.2 gX8_readLeader_X8_readStop rfl rfl rfl n_X8_readStop ⟨Nat.le_of_ble_eq_true rfl, Nat.le_of_ble_eq_true rfl⟩) hu6 [0, 1] rfl rfl 0 8 rfl rfl rfl rfl rfl rfl rfl hl.1 rfl (Nat.le_of_ble_eq_true rfl) dX8_readLeader_42 ⟨Nat.zero_le _, Nat.zero_le _⟩ (fun H locs Wd => ?_)
      obtain ⟨h7, hf⟩ := g_gc hF hf
      exact g_zret S Wd hr hlk (congrArg Value.int h7) dX8_readLeader_45 (u6.1, u6.2.1, u6.2.2.1, u6.2.2.2.1, u6.2.2.2.2, u5.1, u5.2.1, u5.2.2) hf rfl rfl
    · have hf := g_if hf c4
      refine lv_iconst (v := 0) S.1 S.2.1 dX8_readLeader_30 (by decide) ?_
      exact g_zret S Wd hr hlk rfl dX8_readLeader_31 ((0 : Int32), u3.2.1, u3.2.2.1, u3.2.2.2.1, u3.2.2.2.2, p1_leaders, p1_home, p1_feet) hf rfl rfl
  · have hf := g_if hf c2
    refine lv_iconst (v := 0) S.1 S.2.1 dX8_readLeader_14 (by decide) ?_
    exact g_zret S Wd hr hlk rfl dX8_readLeader_15 ((0 : Int32), u1.2.1, u1.2.2.1, u1.2.2.2.1, u1.2.2.2.2, p1_leaders, p1_home, p1_feet) hf rfl rfl
def wX8_readItem (cI cB cZ cM cJ cK : ClassId) (a_t a_t_bytes a_p1 a_p1_first a_p1_second a_p1_hours a_p1_home a_p1_feet a_p1_far : Nat) (t_length t_place t_start t_token t_value : Int32) (t_bytes : Nat → Int32) (p1_corners p1_streets p1_leaders : Int32) (p1_first p1_second p1_hours p1_home p1_feet : Nat → Int32) : List va_W := [[(a_t, .inr (8, [.ref a_t_bytes, .int t_length, .int t_place, .int t_start, .int t_token, .int t_value]))], [(a_t_bytes, .inl (cI, 150, .inl t_bytes))], [(a_p1, .inr (0, [.int p1_corners, .int p1_streets, .int p1_leaders, .ref a_p1_first, .ref a_p1_second, .ref a_p1_hours, .ref a_p1_home, .ref a_p1_feet, .ref a_p1_far]))], [(a_p1_first, .inl (cI, 12, .inl p1_first))], [(a_p1_second, .inl (cI, 12, .inl p1_second))], [(a_p1_hours, .inl (cI, 12, .inl p1_hours))], [(a_p1_home, .inl (cI, 6, .inl p1_home))], [(a_p1_feet, .inl (cI, 6, .inl p1_feet))]]
def rmX8_readItem : Room := { frames := 4, cells := 0, slots := 0, locals := 88 }
theorem kX8_readItem_1 : Cond.fieldLink RX8 30 "FeastMarch$Text" "token" "I" ∈ wsX8_readItem := List.mem_of_getElem? (i := 1) rfl
theorem kX8_readItem_2 : Cond.fieldLink RX8 40 "FeastMarch$Text" "value" "I" ∈ wsX8_readItem := List.mem_of_getElem? (i := 2) rfl
theorem kX8_readItem_3 : Cond.fieldLink RX8 47 "FeastMarch$City" "streets" "I" ∈ wsX8_readItem := List.mem_of_getElem? (i := 3) rfl
theorem kX8_readItem_4 : Cond.fieldLink RX8 53 "FeastMarch$City" "leaders" "I" ∈ wsX8_readItem := List.mem_of_getElem? (i := 4) rfl
theorem iX8_readItem_X0 : ∀ w ∈ wsX00, w ∈ wsX8_readItem := fun _ h => List.mem_cons_of_mem _ (List.mem_append_right _ h)
theorem iX8_readItem_X8 : ∀ w ∈ wsX80, w ∈ wsX8_readItem := fun _ h => List.mem_cons_of_mem _ (List.mem_append_left _ (List.mem_append_right _ h))
theorem n_X8_readItem : yX8_readItem.cls = RX8 ∧ yX8_readItem.cls ≠ "java/lang/invoke/MethodHandle" ∧ yX8_readItem.cls ≠ "java/lang/invoke/VarHandle" ∧ (parseMethodDescriptor yX8_readItem.desc).map (fun d => d.parameters.length) = some 2 := by decide +kernel
set_option maxHeartbeats 4000000 in
set_option maxRecDepth 100000 in
theorem c_X8_readItem (l : Launch) (D : va_G) (N : Nat) (cI cB cZ cM cJ cK : ClassId) (a_t a_t_bytes a_p1 a_p1_first a_p1_second a_p1_hours a_p1_home a_p1_feet a_p1_far : Nat) (t_length t_place t_start t_token t_value : Int32) (t_bytes : Nat → Int32) (p1_corners p1_streets p1_leaders : Int32) (p1_first p1_second p1_hours p1_home p1_feet : Nat → Int32) (x2 : Int32) : gM l yX8_readItem wsX8_readItem rmX8_readItem D (gT cI cB cZ cM cJ cK) (wX8_readItem cI cB cZ cM cJ cK  a_t a_t_bytes a_p1 a_p1_first a_p1_second a_p1_hours a_p1_home a_p1_feet a_p1_far t_length t_place t_start t_token t_value t_bytes p1_corners p1_streets p1_leaders p1_first p1_second p1_hours p1_home p1_feet) [.ref a_t, .ref a_p1, .int x2] (fX8_readItem N t_length t_place t_start t_token t_value t_bytes p1_corners p1_streets p1_leaders p1_first p1_second p1_hours p1_home p1_feet x2) (fun _u : Int32 × Int32 × Int32 × Int32 × Int32 × Int32 × Int32 × Int32 × (Nat → Int32) × (Nat → Int32) × (Nat → Int32) × (Nat → Int32) × (Nat → Int32) => some (.int _u.1)) (fun _u : Int32 × Int32 × Int32 × Int32 × Int32 × Int32 × Int32 × Int32 × (Nat → Int32) × (Nat → Int32) × (Nat → Int32) × (Nat → Int32) × (Nat → Int32) => (wX8_readItem cI cB cZ cM cJ cK  a_t a_t_bytes a_p1 a_p1_first a_p1_second a_p1_hours a_p1_home a_p1_feet a_p1_far t_length _u.2.1 _u.2.2.1 _u.2.2.2.1 _u.2.2.2.2.1 t_bytes _u.2.2.2.2.2.1 _u.2.2.2.2.2.2.1 _u.2.2.2.2.2.2.2.1 _u.2.2.2.2.2.2.2.2.1 _u.2.2.2.2.2.2.2.2.2.1 _u.2.2.2.2.2.2.2.2.2.2.1 _u.2.2.2.2.2.2.2.2.2.2.2.1 _u.2.2.2.2.2.2.2.2.2.2.2.2)) := by
  refine g_start (cc := cX8_readItem) (maxL := 3) (ret := (some .boolean)) (by decide) rfl (Nat.le_of_ble_eq_true rfl) ?_
  intro F hf hF p e s m below meth c A ls S hK hA Wd hr hlk hnm hl
  refine lv_aload_n S.1 S.2.1 dX8_readItem_0 rfl (lv_at hl 0 rfl) ?_
  refine g_get (a := a_t) S hK Wd iX8_readItem_X8 0 rfl rfl 4 rfl rfl kX8_readItem_1 rfl dX8_readItem_1 ?_
  refine lv_iconst (v := 1) S.1 S.2.1 dX8_readItem_4 (by decide) ?_
  refine lv_icmp_eq (tgt := 10) S.1 S.2.1 dX8_readItem_5 rfl (fun c1 => ?_) (fun c1 => ?_)
  · have hf := g_if hf c1
    refine lv_aload_n S.1 S.2.1 dX8_readItem_10 rfl (lv_at hl 0 rfl) ?_
    refine g_get (a := a_t) S hK Wd iX8_readItem_X8 0 rfl rfl 5 rfl rfl kX8_readItem_2 rfl dX8_readItem_11 ?_
    by_cases c2 : t_value = (99 : Int32)
    · have hf := g_if hf c2
      refine lv_lookup (tgt := 48) S.1 S.2.1 dX8_readItem_14 (by decide) (by rw [c2]; try decide) rfl ?_
      refine lv_iload_n S.1 S.2.1 dX8_readItem_48 rfl (lv_at hl 2 rfl) ?_
      refine lv_if_eq (tgt := 64) S.1 S.2.1 dX8_readItem_49 rfl (fun c3 => ?_) (fun c3 => ?_)
      · have hf := g_if hf c3
        refine lv_iconst (v := 0) S.1 S.2.1 dX8_readItem_64 (by decide) ?_
        exact g_zret S Wd hr hlk rfl dX8_readItem_65 ((0 : Int32), t_place, t_start, t_token, t_value, p1_corners, p1_streets, p1_leaders, p1_first, p1_second, p1_hours, p1_home, p1_feet) hf rfl rfl
      · have hf := g_ifn hf c3
        refine lv_aload_n S.1 S.2.1 dX8_readItem_52 rfl (lv_at hl 0 rfl) ?_
        refine lv_aload_n S.1 S.2.1 dX8_readItem_53 rfl (lv_at hl 1 rfl) ?_
        obtain ⟨u4, hu4, hf⟩ := g_bind hF hf
        refine g_callV (ws' := (wX8_readItem cI cB cZ cM cJ cK  a_t a_t_bytes a_p1 a_p1_first a_p1_second a_p1_hours a_p1_home a_p1_feet a_p1_far t_length u4.2.1 u4.2.2.1 u4.2.2.2.1 u4.2.2.2.2.1 t_bytes u4.2.2.2.2.2 p1_streets p1_leaders p1_first p1_second p1_hours p1_home p1_feet)) (As := [.ref a_p1]) (rest := []) (st1 := [.int u4.1]) S hK hA Wd (c_X8_readCorners l D N cI cB cZ cM cJ cK a_t a_t_bytes a_p1 a_p1_first a_p1_second a_p1_hours a_p1_home a_p1_feet a_p1_far t_length t_place t_start t_token t_value t_bytes p1_corners p1_streets p1_leaders p1_first p1_second p1_hours p1_home p1_feet) (cwV 1 S.2.2.2.2 gX8_readItem_X8_readCorners rfl rfl rfl n_X8_readCorners ⟨Nat.le_of_ble_eq_true rfl, Nat.le_of_ble_eq_true rfl⟩) hu4 [0, 1, 2, 3, 4, 5, 6, 7] rfl rfl 0 8 rfl rfl rfl rfl rfl rfl rfl hl.1 rfl (Nat.le_of_ble_eq_true rfl) dX8_readItem_54 ⟨Nat.zero_le _, Nat.zero_le _⟩ (fun H locs Wd => ?_)
        refine lv_if_eq (tgt := 64) S.1 S.2.1 dX8_readItem_57 rfl (fun c5 => ?_) (fun c5 => ?_)
        · have hf := g_if hf c5
          refine lv_iconst (v := 0) S.1 S.2.1 dX8_readItem_64 (by decide) ?_
          exact g_zret S Wd hr hlk rfl dX8_readItem_65 ((0 : Int32), u4.2.1, u4.2.2.1, u4.2.2.2.1, u4.2.2.2.2.1, u4.2.2.2.2.2, p1_streets, p1_leaders, p1_first, p1_second, p1_hours, p1_home, p1_feet) hf rfl rfl
        · have hf := g_ifn hf c5
          refine lv_iconst (v := 1) S.1 S.2.1 dX8_readItem_60 (by decide) ?_
          refine lv_goto (tgt := 65) S.1 S.2.1 dX8_readItem_61 rfl ?_
          exact g_zret S Wd hr hlk rfl dX8_readItem_65 ((1 : Int32), u4.2.1, u4.2.2.1, u4.2.2.2.1, u4.2.2.2.2.1, u4.2.2.2.2.2, p1_streets, p1_leaders, p1_first, p1_second, p1_hours, p1_home, p1_feet) hf rfl rfl
    have hf := g_ifn hf c2
    by_cases c6 : t_value = (108 : Int32)
    · have hf := g_if hf c6
      refine lv_lookup (tgt := 93) S.1 S.2.1 dX8_readItem_14 (by decide) (by rw [c6]; try decide) rfl ?_
      refine lv_iload_n S.1 S.2.1 dX8_readItem_93 rfl (lv_at hl 2 rfl) ?_
      refine lv_if_ne (tgt := 118) S.1 S.2.1 dX8_readItem_94 rfl (fun c7 => ?_) (fun c7 => ?_)
      · have hf := g_ifn hf c7
        refine lv_iconst (v := 0) S.1 S.2.1 dX8_readItem_118 (by decide) ?_
        exact g_zret S Wd hr hlk rfl dX8_readItem_119 ((0 : Int32), t_place, t_start, t_token, t_value, p1_corners, p1_streets, p1_leaders, p1_first, p1_second, p1_hours, p1_home, p1_feet) hf rfl rfl
      · have hf := g_if hf c7
        refine lv_aload_n S.1 S.2.1 dX8_readItem_97 rfl (lv_at hl 1 rfl) ?_
        refine g_get (a := a_p1) S hK Wd iX8_readItem_X0 2 rfl rfl 2 rfl rfl kX8_readItem_4 rfl dX8_readItem_98 ?_
        refine lv_bipush (v := 6) S.1 S.2.1 dX8_readItem_101 (by decide) ?_
        refine lv_icmp_ge (tgt := 118) S.1 S.2.1 dX8_readItem_103 rfl (fun c8 => ?_) (fun c8 => ?_)
        · have hf := g_if hf c8
          refine lv_iconst (v := 0) S.1 S.2.1 dX8_readItem_118 (by decide) ?_
          exact g_zret S Wd hr hlk rfl dX8_readItem_119 ((0 : Int32), t_place, t_start, t_token, t_value, p1_corners, p1_streets, p1_leaders, p1_first, p1_second, p1_hours, p1_home, p1_feet) hf rfl rfl
        · have hf := g_ifn hf c8
          refine lv_aload_n S.1 S.2.1 dX8_readItem_106 rfl (lv_at hl 0 rfl) ?_
          refine lv_aload_n S.1 S.2.1 dX8_readItem_107 rfl (lv_at hl 1 rfl) ?_
          obtain ⟨u9, hu9, hf⟩ := g_bind hF hf
          refine g_callV (ws' := (wX8_readItem cI cB cZ cM cJ cK  a_t a_t_bytes a_p1 a_p1_first a_p1_second a_p1_hours a_p1_home a_p1_feet a_p1_far t_length u9.2.1 u9.2.2.1 u9.2.2.2.1 u9.2.2.2.2.1 t_bytes p1_corners p1_streets u9.2.2.2.2.2.1 p1_first p1_second p1_hours u9.2.2.2.2.2.2.1 u9.2.2.2.2.2.2.2)) (As := [.ref a_p1]) (rest := []) (st1 := [.int u9.1]) S hK hA Wd (c_X8_readLeader l D N cI cB cZ cM cJ cK a_t a_t_bytes a_p1 a_p1_first a_p1_second a_p1_hours a_p1_home a_p1_feet a_p1_far t_length t_place t_start t_token t_value t_bytes p1_corners p1_streets p1_leaders p1_first p1_second p1_hours p1_home p1_feet) (cwV 1 S.2.2.2.2 gX8_readItem_X8_readLeader rfl rfl rfl n_X8_readLeader ⟨Nat.le_of_ble_eq_true rfl, Nat.le_of_ble_eq_true rfl⟩) hu9 [0, 1, 2, 3, 4, 5, 6, 7] rfl rfl 0 8 rfl rfl rfl rfl rfl rfl rfl hl.1 rfl (Nat.le_of_ble_eq_true rfl) dX8_readItem_108 ⟨Nat.zero_le _, Nat.zero_le _⟩ (fun H locs Wd => ?_)
          refine lv_if_eq (tgt := 118) S.1 S.2.1 dX8_readItem_111 rfl (fun c10 => ?_) (fun c10 => ?_)
          · have hf := g_if hf c10
            refine lv_iconst (v := 0) S.1 S.2.1 dX8_readItem_118 (by decide) ?_
            exact g_zret S Wd hr hlk rfl dX8_readItem_119 ((0 : Int32), u9.2.1, u9.2.2.1, u9.2.2.2.1, u9.2.2.2.2.1, p1_corners, p1_streets, u9.2.2.2.2.2.1, p1_first, p1_second, p1_hours, u9.2.2.2.2.2.2.1, u9.2.2.2.2.2.2.2) hf rfl rfl
          · have hf := g_ifn hf c10
            refine lv_iconst (v := 1) S.1 S.2.1 dX8_readItem_114 (by decide) ?_
            refine lv_goto (tgt := 119) S.1 S.2.1 dX8_readItem_115 rfl ?_
            exact g_zret S Wd hr hlk rfl dX8_readItem_119 ((1 : Int32), u9.2.1, u9.2.2.1, u9.2.2.2.1, u9.2.2.2.2.1, p1_corners, p1_streets, u9.2.2.2.2.2.1, p1_first, p1_second, p1_hours, u9.2.2.2.2.2.2.1, u9.2.2.2.2.2.2.2) hf rfl rfl
    have hf := g_ifn hf c6
    by_cases c11 : t_value = (115 : Int32)
    · have hf := g_if hf c11
      refine lv_lookup (tgt := 66) S.1 S.2.1 dX8_readItem_14 (by decide) (by rw [c11]; try decide) rfl ?_
      refine lv_iload_n S.1 S.2.1 dX8_readItem_66 rfl (lv_at hl 2 rfl) ?_
      refine lv_if_ne (tgt := 91) S.1 S.2.1 dX8_readItem_67 rfl (fun c12 => ?_) (fun c12 => ?_)
      · have hf := g_ifn hf c12
        refine lv_iconst (v := 0) S.1 S.2.1 dX8_readItem_91 (by decide) ?_
        exact g_zret S Wd hr hlk rfl dX8_readItem_92 ((0 : Int32), t_place, t_start, t_token, t_value, p1_corners, p1_streets, p1_leaders, p1_first, p1_second, p1_hours, p1_home, p1_feet) hf rfl rfl
      · have hf := g_if hf c12
        refine lv_aload_n S.1 S.2.1 dX8_readItem_70 rfl (lv_at hl 1 rfl) ?_
        refine g_get (a := a_p1) S hK Wd iX8_readItem_X0 2 rfl rfl 1 rfl rfl kX8_readItem_3 rfl dX8_readItem_71 ?_
        refine lv_bipush (v := 12) S.1 S.2.1 dX8_readItem_74 (by decide) ?_
        refine lv_icmp_ge (tgt := 91) S.1 S.2.1 dX8_readItem_76 rfl (fun c13 => ?_) (fun c13 => ?_)
        · have hf := g_if hf c13
          refine lv_iconst (v := 0) S.1 S.2.1 dX8_readItem_91 (by decide) ?_
          exact g_zret S Wd hr hlk rfl dX8_readItem_92 ((0 : Int32), t_place, t_start, t_token, t_value, p1_corners, p1_streets, p1_leaders, p1_first, p1_second, p1_hours, p1_home, p1_feet) hf rfl rfl
        · have hf := g_ifn hf c13
          refine lv_aload_n S.1 S.2.1 dX8_readItem_79 rfl (lv_at hl 0 rfl) ?_
          refine lv_aload_n S.1 S.2.1 dX8_readItem_80 rfl (lv_at hl 1 rfl) ?_
          obtain ⟨u14, hu14, hf⟩ := g_bind hF hf
          refine g_callV (ws' := (wX8_readItem cI cB cZ cM cJ cK  a_t a_t_bytes a_p1 a_p1_first a_p1_second a_p1_hours a_p1_home a_p1_feet a_p1_far t_length u14.2.1 u14.2.2.1 u14.2.2.2.1 u14.2.2.2.2.1 t_bytes p1_corners u14.2.2.2.2.2.1 p1_leaders u14.2.2.2.2.2.2.1 u14.2.2.2.2.2.2.2.1 u14.2.2.2.2.2.2.2.2 p1_home p1_feet)) (As := [.ref a_p1]) (rest := []) (st1 := [.int u14.1]) S hK hA Wd (c_X8_readStreet l D N cI cB cZ cM cJ cK a_t a_t_bytes a_p1 a_p1_first a_p1_second a_p1_hours a_p1_home a_p1_feet a_p1_far t_length t_place t_start t_token t_value t_bytes p1_corners p1_streets p1_leaders p1_first p1_second p1_hours p1_home p1_feet) (cwV 1 S.2.2.2.2 gX8_readItem_X8_readStreet rfl rfl rfl n_X8_readStreet ⟨Nat.le_of_ble_eq_true rfl, Nat.le_of_ble_eq_true rfl⟩) hu14 [0, 1, 2, 3, 4, 5, 6, 7] rfl rfl 0 8 rfl rfl rfl rfl rfl rfl rfl hl.1 rfl (Nat.le_of_ble_eq_true rfl) dX8_readItem_81 ⟨Nat.zero_le _, Nat.zero_le _⟩ (fun H locs Wd => ?_)
          refine lv_if_eq (tgt := 91) S.1 S.2.1 dX8_readItem_84 rfl (fun c15 => ?_) (fun c15 => ?_)
          · have hf := g_if hf c15
            refine lv_iconst (v := 0) S.1 S.2.1 dX8_readItem_91 (by decide) ?_
            exact g_zret S Wd hr hlk rfl dX8_readItem_92 ((0 : Int32), u14.2.1, u14.2.2.1, u14.2.2.2.1, u14.2.2.2.2.1, p1_corners, u14.2.2.2.2.2.1, p1_leaders, u14.2.2.2.2.2.2.1, u14.2.2.2.2.2.2.2.1, u14.2.2.2.2.2.2.2.2, p1_home, p1_feet) hf rfl rfl
          · have hf := g_ifn hf c15
            refine lv_iconst (v := 1) S.1 S.2.1 dX8_readItem_87 (by decide) ?_
            refine lv_goto (tgt := 92) S.1 S.2.1 dX8_readItem_88 rfl ?_
            exact g_zret S Wd hr hlk rfl dX8_readItem_92 ((1 : Int32), u14.2.1, u14.2.2.1, u14.2.2.2.1, u14.2.2.2.2.1, p1_corners, u14.2.2.2.2.2.1, p1_leaders, u14.2.2.2.2.2.2.1, u14.2.2.2.2.2.2.2.1, u14.2.2.2.2.2.2.2.2, p1_home, p1_feet) hf rfl rfl
    have hf := g_ifn hf c11
    refine lv_lookup (tgt := 120) (off := 106) S.1 S.2.1 dX8_readItem_14 (by decide) ?_ rfl ?_
    · have z0 : ¬ (t_value).toInt = 99 := fun e => g_ne c2 (e.trans (by decide))
      have z1 : ¬ (t_value).toInt = 108 := fun e => g_ne c6 (e.trans (by decide))
      have z2 : ¬ (t_value).toInt = 115 := fun e => g_ne c11 (e.trans (by decide))
      simp only [Op.lookupswitch.offset]
      simp [Op.lookupswitch.offset, z0, z1, z2, Ne.symm z0, Ne.symm z1, Ne.symm z2]
    refine lv_iconst (v := 0) S.1 S.2.1 dX8_readItem_120 (by decide) ?_
    exact g_zret S Wd hr hlk rfl dX8_readItem_121 ((0 : Int32), t_place, t_start, t_token, t_value, p1_corners, p1_streets, p1_leaders, p1_first, p1_second, p1_hours, p1_home, p1_feet) hf rfl rfl
  · have hf := g_ifn hf c1
    refine lv_iconst (v := 0) S.1 S.2.1 dX8_readItem_8 (by decide) ?_
    exact g_zret S Wd hr hlk rfl dX8_readItem_9 ((0 : Int32), t_place, t_start, t_token, t_value, p1_corners, p1_streets, p1_leaders, p1_first, p1_second, p1_hours, p1_home, p1_feet) hf rfl rfl
def wX8_read (cI cB cZ cM cJ cK : ClassId) (a_t a_t_bytes a_p1 a_p1_first a_p1_second a_p1_hours a_p1_home a_p1_feet a_p1_far : Nat) (t_length t_place t_start t_token t_value : Int32) (t_bytes : Nat → Int32) (p1_corners p1_streets p1_leaders : Int32) (p1_first p1_second p1_hours p1_home p1_feet : Nat → Int32) : List va_W := [[(a_t, .inr (8, [.ref a_t_bytes, .int t_length, .int t_place, .int t_start, .int t_token, .int t_value]))], [(a_t_bytes, .inl (cI, 150, .inl t_bytes))], [(a_p1, .inr (0, [.int p1_corners, .int p1_streets, .int p1_leaders, .ref a_p1_first, .ref a_p1_second, .ref a_p1_hours, .ref a_p1_home, .ref a_p1_feet, .ref a_p1_far]))], [(a_p1_first, .inl (cI, 12, .inl p1_first))], [(a_p1_second, .inl (cI, 12, .inl p1_second))], [(a_p1_hours, .inl (cI, 12, .inl p1_hours))], [(a_p1_home, .inl (cI, 6, .inl p1_home))], [(a_p1_feet, .inl (cI, 6, .inl p1_feet))]]
def rmX8_read : Room := { frames := 5, cells := 0, slots := 0, locals := 110 }
theorem kX8_read_1 : Cond.fieldLink RX8 24 "FeastMarch$Text" "place" "I" ∈ wsX8_read := List.mem_of_getElem? (i := 1) rfl
theorem kX8_read_2 : Cond.fieldLink RX8 30 "FeastMarch$Text" "token" "I" ∈ wsX8_read := List.mem_of_getElem? (i := 2) rfl
theorem kX8_read_3 : Cond.fieldLink RX8 37 "FeastMarch$Text" "start" "I" ∈ wsX8_read := List.mem_of_getElem? (i := 3) rfl
theorem iX8_read_X8 : ∀ w ∈ wsX80, w ∈ wsX8_read := fun _ h => List.mem_cons_of_mem _ (List.mem_append_left _ (List.mem_append_right _ h))
theorem n_X8_read : yX8_read.cls = RX8 ∧ yX8_read.cls ≠ "java/lang/invoke/MethodHandle" ∧ yX8_read.cls ≠ "java/lang/invoke/VarHandle" ∧ (parseMethodDescriptor yX8_read.desc).map (fun d => d.parameters.length) = some 1 := by decide +kernel
set_option maxHeartbeats 4000000 in
set_option maxRecDepth 100000 in
theorem c_X8_read (l : Launch) (D : va_G) (N : Nat) (cI cB cZ cM cJ cK : ClassId) (a_t a_t_bytes a_p1 a_p1_first a_p1_second a_p1_hours a_p1_home a_p1_feet a_p1_far : Nat) (t_length t_place t_start t_token t_value : Int32) (t_bytes : Nat → Int32) (p1_corners p1_streets p1_leaders : Int32) (p1_first p1_second p1_hours p1_home p1_feet : Nat → Int32) : gM l yX8_read wsX8_read rmX8_read D (gT cI cB cZ cM cJ cK) (wX8_read cI cB cZ cM cJ cK  a_t a_t_bytes a_p1 a_p1_first a_p1_second a_p1_hours a_p1_home a_p1_feet a_p1_far t_length t_place t_start t_token t_value t_bytes p1_corners p1_streets p1_leaders p1_first p1_second p1_hours p1_home p1_feet) [.ref a_t, .ref a_p1] (fX8_read N t_length t_place t_start t_token t_value t_bytes p1_corners p1_streets p1_leaders p1_first p1_second p1_hours p1_home p1_feet) (fun _u : Int32 × Int32 × Int32 × Int32 × Int32 × Int32 × Int32 × Int32 × (Nat → Int32) × (Nat → Int32) × (Nat → Int32) × (Nat → Int32) × (Nat → Int32) => some (.int _u.1)) (fun _u : Int32 × Int32 × Int32 × Int32 × Int32 × Int32 × Int32 × Int32 × (Nat → Int32) × (Nat → Int32) × (Nat → Int32) × (Nat → Int32) × (Nat → Int32) => (wX8_read cI cB cZ cM cJ cK  a_t a_t_bytes a_p1 a_p1_first a_p1_second a_p1_hours a_p1_home a_p1_feet a_p1_far t_length _u.2.1 _u.2.2.1 _u.2.2.2.1 _u.2.2.2.2.1 t_bytes _u.2.2.2.2.2.1 _u.2.2.2.2.2.2.1 _u.2.2.2.2.2.2.2.1 _u.2.2.2.2.2.2.2.2.1 _u.2.2.2.2.2.2.2.2.2.1 _u.2.2.2.2.2.2.2.2.2.2.1 _u.2.2.2.2.2.2.2.2.2.2.2.1 _u.2.2.2.2.2.2.2.2.2.2.2.2)) := by
  refine g_start (cc := cX8_read) (maxL := 3) (ret := (some .int)) (by decide) rfl (Nat.le_of_ble_eq_true rfl) ?_
  intro F hf hF p e s m below meth c A ls S hK hA Wd hr hlk hnm hl
  have b42 : ∀ (K11 : Int32 → Int32 → Int32 → Int32 → Int32 → Int32 → Int32 → (Nat → Int32) → (Nat → Int32) → (Nat → Int32) → (Nat → Int32) → (Nat → Int32) → Int32 → Option (Int32 × Int32 × Int32 × Int32 × Int32 × Int32 × Int32 × Int32 × (Nat → Int32) × (Nat → Int32) × (Nat → Int32) × (Nat → Int32) × (Nat → Int32))) (hK11 : ∀ (t_place t_start t_token t_value p1_corners p1_streets p1_leaders : Int32) (p1_first p1_second p1_hours p1_home p1_feet : Nat → Int32) (x2 : Int32) (H1 : Heap) (locs1 : List Loc) (ls1 : Array Slot), gw D A s.heap (wX8_read cI cB cZ cM cJ cK  a_t a_t_bytes a_p1 a_p1_first a_p1_second a_p1_hours a_p1_home a_p1_feet a_p1_far t_length t_place t_start t_token t_value t_bytes p1_corners p1_streets p1_leaders p1_first p1_second p1_hours p1_home p1_feet) H1 locs1 → lv_has ls1 3 [(0, .ref a_t), (1, .ref a_p1), (2, .int x2)] → F = K11 t_place t_start t_token t_value p1_corners p1_streets p1_leaders p1_first p1_second p1_hours p1_home p1_feet x2 → W p l e rmX8_read s m [.ref a_t, .ref a_p1].toArray below meth c H1 locs1 0 0 (MQ below (gQ F (fun _u : Int32 × Int32 × Int32 × Int32 × Int32 × Int32 × Int32 × Int32 × (Nat → Int32) × (Nat → Int32) × (Nat → Int32) × (Nat → Int32) × (Nat → Int32) => some (.int _u.1)) (fun _u : Int32 × Int32 × Int32 × Int32 × Int32 × Int32 × Int32 × Int32 × (Nat → Int32) × (Nat → Int32) × (Nat → Int32) × (Nat → Int32) × (Nat → Int32) => (wX8_read cI cB cZ cM cJ cK  a_t a_t_bytes a_p1 a_p1_first a_p1_second a_p1_hours a_p1_home a_p1_feet a_p1_far t_length _u.2.1 _u.2.2.1 _u.2.2.2.1 _u.2.2.2.2.1 t_bytes _u.2.2.2.2.2.1 _u.2.2.2.2.2.2.1 _u.2.2.2.2.2.2.2.1 _u.2.2.2.2.2.2.2.2.1 _u.2.2.2.2.2.2.2.2.2.1 _u.2.2.2.2.2.2.2.2.2.2.1 _u.2.2.2.2.2.2.2.2.2.2.2.1 _u.2.2.2.2.2.2.2.2.2.2.2.2)) D A) [.ref a_t, .ref a_p1].toArray s 0 0 A) (F0 m 11 ls1 [])) , ∀ (t_place t_start t_token t_value p1_corners p1_streets p1_leaders : Int32) (p1_first p1_second p1_hours p1_home p1_feet : Nat → Int32) (x2 y0 : Int32) (H1 : Heap) (locs1 : List Loc) (ls1 : Array Slot), gw D A s.heap (wX8_read cI cB cZ cM cJ cK  a_t a_t_bytes a_p1 a_p1_first a_p1_second a_p1_hours a_p1_home a_p1_feet a_p1_far t_length t_place t_start t_token t_value t_bytes p1_corners p1_streets p1_leaders p1_first p1_second p1_hours p1_home p1_feet) H1 locs1 → lv_has ls1 3 [(0, .ref a_t), (1, .ref a_p1), (2, .int x2)] → F = fX8_read_b42 N t_length t_bytes K11 t_place t_start t_token t_value p1_corners p1_streets p1_leaders p1_first p1_second p1_hours p1_home p1_feet x2 y0 → W p l e rmX8_read s m [.ref a_t, .ref a_p1].toArray below meth c H1 locs1 0 0 (MQ below (gQ F (fun _u : Int32 × Int32 × Int32 × Int32 × Int32 × Int32 × Int32 × Int32 × (Nat → Int32) × (Nat → Int32) × (Nat → Int32) × (Nat → Int32) × (Nat → Int32) => some (.int _u.1)) (fun _u : Int32 × Int32 × Int32 × Int32 × Int32 × Int32 × Int32 × Int32 × (Nat → Int32) × (Nat → Int32) × (Nat → Int32) × (Nat → Int32) × (Nat → Int32) => (wX8_read cI cB cZ cM cJ cK  a_t a_t_bytes a_p1 a_p1_first a_p1_second a_p1_hours a_p1_home a_p1_feet a_p1_far t_length _u.2.1 _u.2.2.1 _u.2.2.2.1 _u.2.2.2.2.1 t_bytes _u.2.2.2.2.2.1 _u.2.2.2.2.2.2.1 _u.2.2.2.2.2.2.2.1 _u.2.2.2.2.2.2.2.2.1 _u.2.2.2.2.2.2.2.2.2.1 _u.2.2.2.2.2.2.2.2.2.2.1 _u.2.2.2.2.2.2.2.2.2.2.2.1 _u.2.2.2.2.2.2.2.2.2.2.2.2)) D A) [.ref a_t, .ref a_p1].toArray s 0 0 A) (F0 m 42 ls1 [.int y0, .ref a_p1, .ref a_t]) := by
    intro K11 hK11 t_place t_start t_token t_value p1_corners p1_streets p1_leaders p1_first p1_second p1_hours p1_home p1_feet x2 y0 H locs ls Wd hl hf
    obtain ⟨u6, hu6, hf⟩ := g_bind hF hf
    refine g_callV (ws' := (wX8_read cI cB cZ cM cJ cK  a_t a_t_bytes a_p1 a_p1_first a_p1_second a_p1_hours a_p1_home a_p1_feet a_p1_far t_length u6.2.1 u6.2.2.1 u6.2.2.2.1 u6.2.2.2.2.1 t_bytes u6.2.2.2.2.2.1 u6.2.2.2.2.2.2.1 u6.2.2.2.2.2.2.2.1 u6.2.2.2.2.2.2.2.2.1 u6.2.2.2.2.2.2.2.2.2.1 u6.2.2.2.2.2.2.2.2.2.2.1 u6.2.2.2.2.2.2.2.2.2.2.2.1 u6.2.2.2.2.2.2.2.2.2.2.2.2)) (As := [.ref a_p1, .int y0]) (rest := []) (st1 := [.int u6.1]) S hK hA Wd (c_X8_readItem l D N cI cB cZ cM cJ cK a_t a_t_bytes a_p1 a_p1_first a_p1_second a_p1_hours a_p1_home a_p1_feet a_p1_far t_length t_place t_start t_token t_value t_bytes p1_corners p1_streets p1_leaders p1_first p1_second p1_hours p1_home p1_feet y0) (cwV 2 S.2.2.2.2 gX8_read_X8_readItem rfl rfl rfl n_X8_readItem ⟨Nat.le_of_ble_eq_true rfl, Nat.le_of_ble_eq_true rfl⟩) hu6 [0, 1, 2, 3, 4, 5, 6, 7] rfl rfl 0 8 rfl rfl rfl rfl rfl rfl rfl hl.1 rfl (Nat.le_of_ble_eq_true rfl) dX8_read_42 ⟨Nat.zero_le _, Nat.zero_le _⟩ (fun H locs Wd => ?_)
    refine lv_if_ne (tgt := 51) S.1 S.2.1 dX8_read_45 rfl (fun c7 => ?_) (fun c7 => ?_)
    · have hf := g_ifn hf c7
      refine lv_iinc (v := (x2 + (1 : Int32))) (lv' := [(2, .int (x2 + (1 : Int32))), (0, .ref a_t), (1, .ref a_p1)]) S.1 S.2.1 dX8_read_51 hl (k := 2) rfl rfl (by decide) rfl (fun ls hl => ?_)
      refine lv_goto (tgt := 11) S.1 S.2.1 dX8_read_54 rfl ?_
      exact hK11 u6.2.1 u6.2.2.1 u6.2.2.2.1 u6.2.2.2.2.1 u6.2.2.2.2.2.1 u6.2.2.2.2.2.2.1 u6.2.2.2.2.2.2.2.1 u6.2.2.2.2.2.2.2.2.1 u6.2.2.2.2.2.2.2.2.2.1 u6.2.2.2.2.2.2.2.2.2.2.1 u6.2.2.2.2.2.2.2.2.2.2.2.1 u6.2.2.2.2.2.2.2.2.2.2.2.2 (x2 + (1 : Int32)) _ _ _ Wd (lv_sub hl [1, 2, 0] rfl) hf
    · have hf := g_if hf c7
      refine lv_goto (tgt := 57) S.1 S.2.1 dX8_read_48 rfl ?_
      refine lv_bipush (v := (-10)) S.1 S.2.1 dX8_read_57 (by decide) ?_
      refine lv_aload_n S.1 S.2.1 dX8_read_59 rfl (lv_at hl 0 rfl) ?_
      refine g_get (a := a_t) S hK Wd iX8_read_X8 0 rfl rfl 3 rfl rfl kX8_read_3 rfl dX8_read_60 ?_
      refine lv_isub S.1 S.2.1 dX8_read_63 ?_
      exact g_iret S Wd hr hlk dX8_read_64 (((-10 : Int32) - u6.2.2.1), u6.2.1, u6.2.2.1, u6.2.2.2.1, u6.2.2.2.2.1, u6.2.2.2.2.2.1, u6.2.2.2.2.2.2.1, u6.2.2.2.2.2.2.2.1, u6.2.2.2.2.2.2.2.2.1, u6.2.2.2.2.2.2.2.2.2.1, u6.2.2.2.2.2.2.2.2.2.2.1, u6.2.2.2.2.2.2.2.2.2.2.2.1, u6.2.2.2.2.2.2.2.2.2.2.2.2) hf rfl rfl
  have b11 : ∀ (n : Nat), ∀ (t_place t_start t_token t_value p1_corners p1_streets p1_leaders : Int32) (p1_first p1_second p1_hours p1_home p1_feet : Nat → Int32) (x2 : Int32) (H1 : Heap) (locs1 : List Loc) (ls1 : Array Slot), gw D A s.heap (wX8_read cI cB cZ cM cJ cK  a_t a_t_bytes a_p1 a_p1_first a_p1_second a_p1_hours a_p1_home a_p1_feet a_p1_far t_length t_place t_start t_token t_value t_bytes p1_corners p1_streets p1_leaders p1_first p1_second p1_hours p1_home p1_feet) H1 locs1 → lv_has ls1 3 [(0, .ref a_t), (1, .ref a_p1), (2, .int x2)] → F = fX8_read_b11 N t_length t_bytes  n t_place t_start t_token t_value p1_corners p1_streets p1_leaders p1_first p1_second p1_hours p1_home p1_feet x2 → W p l e rmX8_read s m [.ref a_t, .ref a_p1].toArray below meth c H1 locs1 0 0 (MQ below (gQ F (fun _u : Int32 × Int32 × Int32 × Int32 × Int32 × Int32 × Int32 × Int32 × (Nat → Int32) × (Nat → Int32) × (Nat → Int32) × (Nat → Int32) × (Nat → Int32) => some (.int _u.1)) (fun _u : Int32 × Int32 × Int32 × Int32 × Int32 × Int32 × Int32 × Int32 × (Nat → Int32) × (Nat → Int32) × (Nat → Int32) × (Nat → Int32) × (Nat → Int32) => (wX8_read cI cB cZ cM cJ cK  a_t a_t_bytes a_p1 a_p1_first a_p1_second a_p1_hours a_p1_home a_p1_feet a_p1_far t_length _u.2.1 _u.2.2.1 _u.2.2.2.1 _u.2.2.2.2.1 t_bytes _u.2.2.2.2.2.1 _u.2.2.2.2.2.2.1 _u.2.2.2.2.2.2.2.1 _u.2.2.2.2.2.2.2.2.1 _u.2.2.2.2.2.2.2.2.2.1 _u.2.2.2.2.2.2.2.2.2.2.1 _u.2.2.2.2.2.2.2.2.2.2.2.1 _u.2.2.2.2.2.2.2.2.2.2.2.2)) D A) [.ref a_t, .ref a_p1].toArray s 0 0 A) (F0 m 11 ls1 []) := by
    intro  n
    induction n with
    | zero => intro t_place t_start t_token t_value p1_corners p1_streets p1_leaders p1_first p1_second p1_hours p1_home p1_feet x2 H locs ls Wd hl hf; exact absurd hf hF
    | succ n ih =>
      intro t_place t_start t_token t_value p1_corners p1_streets p1_leaders p1_first p1_second p1_hours p1_home p1_feet x2 H locs ls Wd hl hf
      refine lv_iload_n S.1 S.2.1 dX8_read_11 rfl (lv_at hl 2 rfl) ?_
      refine lv_sipush (v := 150) S.1 S.2.1 dX8_read_12 (by decide) ?_
      refine lv_icmp_ge (tgt := 57) S.1 S.2.1 dX8_read_15 rfl (fun c2 => ?_) (fun c2 => ?_)
      · have hf := g_if hf c2
        refine lv_bipush (v := (-10)) S.1 S.2.1 dX8_read_57 (by decide) ?_
        refine lv_aload_n S.1 S.2.1 dX8_read_59 rfl (lv_at hl 0 rfl) ?_
        refine g_get (a := a_t) S hK Wd iX8_read_X8 0 rfl rfl 3 rfl rfl kX8_read_3 rfl dX8_read_60 ?_
        refine lv_isub S.1 S.2.1 dX8_read_63 ?_
        exact g_iret S Wd hr hlk dX8_read_64 (((-10 : Int32) - t_start), t_place, t_start, t_token, t_value, p1_corners, p1_streets, p1_leaders, p1_first, p1_second, p1_hours, p1_home, p1_feet) hf rfl rfl
      · have hf := g_ifn hf c2
        refine lv_aload_n S.1 S.2.1 dX8_read_18 rfl (lv_at hl 0 rfl) ?_
        obtain ⟨u3, hu3, hf⟩ := g_bind hF hf
        refine g_callV (ws' := (wX8_read cI cB cZ cM cJ cK  a_t a_t_bytes a_p1 a_p1_first a_p1_second a_p1_hours a_p1_home a_p1_feet a_p1_far t_length u3.1 u3.2.1 u3.2.2.1 u3.2.2.2 t_bytes p1_corners p1_streets p1_leaders p1_first p1_second p1_hours p1_home p1_feet)) (As := []) (rest := []) (st1 := []) S hK hA Wd (c_X8_advance l D N cI cB cZ cM cJ cK a_t a_t_bytes t_length t_place t_start t_token t_value t_bytes) (cwV 0 S.2.2.2.2 gX8_read_X8_advance rfl rfl rfl n_X8_advance ⟨Nat.le_of_ble_eq_true rfl, Nat.le_of_ble_eq_true rfl⟩) hu3 [0, 1] rfl rfl 0 8 rfl rfl rfl rfl rfl rfl rfl hl.1 rfl (Nat.le_of_ble_eq_true rfl) dX8_read_19 ⟨Nat.zero_le _, Nat.zero_le _⟩ (fun H locs Wd => ?_)
        refine lv_aload_n S.1 S.2.1 dX8_read_22 rfl (lv_at hl 0 rfl) ?_
        refine g_get (a := a_t) S hK Wd iX8_read_X8 0 rfl rfl 4 rfl rfl kX8_read_2 rfl dX8_read_23 ?_
        refine lv_if_ne (tgt := 31) S.1 S.2.1 dX8_read_26 rfl (fun c4 => ?_) (fun c4 => ?_)
        · have hf := g_ifn hf c4
          refine lv_aload_n S.1 S.2.1 dX8_read_31 rfl (lv_at hl 0 rfl) ?_
          refine lv_aload_n S.1 S.2.1 dX8_read_32 rfl (lv_at hl 1 rfl) ?_
          refine lv_iload_n S.1 S.2.1 dX8_read_33 rfl (lv_at hl 2 rfl) ?_
          refine lv_if_ne (tgt := 41) S.1 S.2.1 dX8_read_34 rfl (fun c5 => ?_) (fun c5 => ?_)
          · have hf := g_ifn hf c5
            refine lv_iconst (v := 0) S.1 S.2.1 dX8_read_41 (by decide) ?_
            exact b42 (fun t_place t_start t_token t_value p1_corners p1_streets p1_leaders p1_first p1_second p1_hours p1_home p1_feet x2 => fX8_read_b11 N t_length t_bytes n t_place t_start t_token t_value p1_corners p1_streets p1_leaders p1_first p1_second p1_hours p1_home p1_feet x2) ih u3.1 u3.2.1 u3.2.2.1 u3.2.2.2 p1_corners p1_streets p1_leaders p1_first p1_second p1_hours p1_home p1_feet x2 (0 : Int32) _ _ _ Wd hl hf
          · have hf := g_if hf c5
            refine lv_iconst (v := 1) S.1 S.2.1 dX8_read_37 (by decide) ?_
            refine lv_goto (tgt := 42) S.1 S.2.1 dX8_read_38 rfl ?_
            exact b42 (fun t_place t_start t_token t_value p1_corners p1_streets p1_leaders p1_first p1_second p1_hours p1_home p1_feet x2 => fX8_read_b11 N t_length t_bytes n t_place t_start t_token t_value p1_corners p1_streets p1_leaders p1_first p1_second p1_hours p1_home p1_feet x2) ih u3.1 u3.2.1 u3.2.2.1 u3.2.2.2 p1_corners p1_streets p1_leaders p1_first p1_second p1_hours p1_home p1_feet x2 (1 : Int32) _ _ _ Wd hl hf
        · have hf := g_if hf c4
          refine lv_iload_n S.1 S.2.1 dX8_read_29 rfl (lv_at hl 2 rfl) ?_
          exact g_iret S Wd hr hlk dX8_read_30 (x2, u3.1, u3.2.1, u3.2.2.1, u3.2.2.2, p1_corners, p1_streets, p1_leaders, p1_first, p1_second, p1_hours, p1_home, p1_feet) hf rfl rfl
  refine lv_aload_n S.1 S.2.1 dX8_read_0 rfl (lv_at hl 1 rfl) ?_
  obtain ⟨u1, hu1, hf⟩ := g_bind hF hf
  refine g_callV (ws' := (wX8_read cI cB cZ cM cJ cK  a_t a_t_bytes a_p1 a_p1_first a_p1_second a_p1_hours a_p1_home a_p1_feet a_p1_far t_length t_place t_start t_token t_value t_bytes u1.1 u1.2.1 u1.2.2 p1_first p1_second p1_hours p1_home p1_feet)) (As := []) (rest := []) (st1 := []) S hK hA Wd (c_X0_empty l D N cI cB cZ cM cJ cK a_p1 a_p1_first a_p1_second a_p1_hours a_p1_home a_p1_feet a_p1_far p1_corners p1_streets p1_leaders) (cwV 0 S.2.2.2.2 gX8_read_X0_empty rfl rfl rfl n_X0_empty ⟨Nat.le_of_ble_eq_true rfl, Nat.le_of_ble_eq_true rfl⟩) hu1 [2] rfl rfl 0 0 rfl rfl rfl rfl rfl rfl rfl hl.1 rfl (Nat.le_of_ble_eq_true rfl) dX8_read_1 ⟨Nat.zero_le _, Nat.zero_le _⟩ (fun H locs Wd => ?_)
  refine lv_aload_n S.1 S.2.1 dX8_read_4 rfl (lv_at hl 0 rfl) ?_
  refine lv_iconst (v := 0) S.1 S.2.1 dX8_read_5 (by decide) ?_
  refine g_put (a := a_t) (ws' := (wX8_read cI cB cZ cM cJ cK  a_t a_t_bytes a_p1 a_p1_first a_p1_second a_p1_hours a_p1_home a_p1_feet a_p1_far t_length (0 : Int32) t_start t_token t_value t_bytes u1.1 u1.2.1 u1.2.2 p1_first p1_second p1_hours p1_home p1_feet)) S hK Wd iX8_read_X8 tyX8 tyX8_ok nmX8 0 rfl rfl 2 rfl rfl kX8_read_1 rfl rfl rfl dX8_read_6 rfl (fun H locs Wd => ?_)
  refine lv_iconst (v := 0) S.1 S.2.1 dX8_read_9 (by decide) ?_
  refine lv_istore_n (lv' := [(2, .int (0 : Int32)), (0, .ref a_t), (1, .ref a_p1)]) S.1 S.2.1 dX8_read_10 rfl hl (by decide) rfl (fun ls hl => ?_)
  exact b11  N (0 : Int32) t_start t_token t_value u1.1 u1.2.1 u1.2.2 p1_first p1_second p1_hours p1_home p1_feet (0 : Int32) _ _ _ Wd (lv_sub hl [1, 2, 0] rfl) hf
