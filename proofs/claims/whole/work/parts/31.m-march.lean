def wX3_become (cI cB cZ cM cJ cK : ClassId) (a_t a_p1 : Nat) (t_at t_hour t_fines t_led t_taken t_shut p1_at p1_hour p1_fines p1_led p1_taken p1_shut : Int32) : List va_W := [[(a_t, .inr (3, [.int t_at, .int t_hour, .int t_fines, .int t_led, .int t_taken, .int t_shut]))], [(a_p1, .inr (3, [.int p1_at, .int p1_hour, .int p1_fines, .int p1_led, .int p1_taken, .int p1_shut]))]]
def rmX3_become : Room := { frames := 0, cells := 0, slots := 0, locals := 0 }
theorem kX3_become_1 : Cond.fieldLink RX3 9 "FeastMarch$March" "at" "I" ∈ wsX3_become := List.mem_of_getElem? (i := 1) rfl
theorem kX3_become_2 : Cond.fieldLink RX3 15 "FeastMarch$March" "hour" "I" ∈ wsX3_become := List.mem_of_getElem? (i := 2) rfl
theorem kX3_become_3 : Cond.fieldLink RX3 18 "FeastMarch$March" "fines" "I" ∈ wsX3_become := List.mem_of_getElem? (i := 3) rfl
theorem kX3_become_4 : Cond.fieldLink RX3 21 "FeastMarch$March" "led" "I" ∈ wsX3_become := List.mem_of_getElem? (i := 4) rfl
theorem kX3_become_5 : Cond.fieldLink RX3 24 "FeastMarch$March" "taken" "I" ∈ wsX3_become := List.mem_of_getElem? (i := 5) rfl
theorem kX3_become_6 : Cond.fieldLink RX3 27 "FeastMarch$March" "shut" "I" ∈ wsX3_become := List.mem_of_getElem? (i := 6) rfl
theorem iX3_become_X3 : ∀ w ∈ wsX30, w ∈ wsX3_become := fun _ h => List.mem_cons_of_mem _ (List.mem_append_right _ h)
theorem n_X3_become : yX3_become.cls = RX3 ∧ yX3_become.cls ≠ "java/lang/invoke/MethodHandle" ∧ yX3_become.cls ≠ "java/lang/invoke/VarHandle" ∧ (parseMethodDescriptor yX3_become.desc).map (fun d => d.parameters.length) = some 1 := by decide +kernel
set_option maxHeartbeats 4000000 in
set_option maxRecDepth 100000 in
theorem c_X3_become (l : Launch) (D : va_G) (N : Nat) (cI cB cZ cM cJ cK : ClassId) (a_t a_p1 : Nat) (t_at t_hour t_fines t_led t_taken t_shut p1_at p1_hour p1_fines p1_led p1_taken p1_shut : Int32) : gM l yX3_become wsX3_become rmX3_become D (gT cI cB cZ cM cJ cK) (wX3_become cI cB cZ cM cJ cK  a_t a_p1 t_at t_hour t_fines t_led t_taken t_shut p1_at p1_hour p1_fines p1_led p1_taken p1_shut) [.ref a_t, .ref a_p1] (fX3_become N t_at t_hour t_fines t_led t_taken t_shut p1_at p1_hour p1_fines p1_led p1_taken p1_shut) (fun _u : Int32 × Int32 × Int32 × Int32 × Int32 × Int32 => none) (fun _u : Int32 × Int32 × Int32 × Int32 × Int32 × Int32 => (wX3_become cI cB cZ cM cJ cK  a_t a_p1 _u.1 _u.2.1 _u.2.2.1 _u.2.2.2.1 _u.2.2.2.2.1 _u.2.2.2.2.2 p1_at p1_hour p1_fines p1_led p1_taken p1_shut)) := by
  refine g_start (cc := cX3_become) (maxL := 2) (ret := none) (by decide) rfl (Nat.le_of_ble_eq_true rfl) ?_
  intro F hf hF p e s m below meth c A ls S hK hA Wd hr hlk hnm hl
  refine lv_aload_n S.1 S.2.1 dX3_become_0 rfl (lv_at hl 0 rfl) ?_
  refine lv_aload_n S.1 S.2.1 dX3_become_1 rfl (lv_at hl 1 rfl) ?_
  refine g_get (a := a_p1) S hK Wd iX3_become_X3 1 rfl rfl 0 rfl rfl kX3_become_1 rfl dX3_become_2 ?_
  refine g_put (a := a_t) (ws' := (wX3_become cI cB cZ cM cJ cK  a_t a_p1 p1_at t_hour t_fines t_led t_taken t_shut p1_at p1_hour p1_fines p1_led p1_taken p1_shut)) S hK Wd iX3_become_X3 tyX3 tyX3_ok nmX3 0 rfl rfl 0 rfl rfl kX3_become_1 rfl rfl rfl dX3_become_5 rfl (fun H locs Wd => ?_)
  refine lv_aload_n S.1 S.2.1 dX3_become_8 rfl (lv_at hl 0 rfl) ?_
  refine lv_aload_n S.1 S.2.1 dX3_become_9 rfl (lv_at hl 1 rfl) ?_
  refine g_get (a := a_p1) S hK Wd iX3_become_X3 1 rfl rfl 1 rfl rfl kX3_become_2 rfl dX3_become_10 ?_
  refine g_put (a := a_t) (ws' := (wX3_become cI cB cZ cM cJ cK  a_t a_p1 p1_at p1_hour t_fines t_led t_taken t_shut p1_at p1_hour p1_fines p1_led p1_taken p1_shut)) S hK Wd iX3_become_X3 tyX3 tyX3_ok nmX3 0 rfl rfl 1 rfl rfl kX3_become_2 rfl rfl rfl dX3_become_13 rfl (fun H locs Wd => ?_)
  refine lv_aload_n S.1 S.2.1 dX3_become_16 rfl (lv_at hl 0 rfl) ?_
  refine lv_aload_n S.1 S.2.1 dX3_become_17 rfl (lv_at hl 1 rfl) ?_
  refine g_get (a := a_p1) S hK Wd iX3_become_X3 1 rfl rfl 2 rfl rfl kX3_become_3 rfl dX3_become_18 ?_
  refine g_put (a := a_t) (ws' := (wX3_become cI cB cZ cM cJ cK  a_t a_p1 p1_at p1_hour p1_fines t_led t_taken t_shut p1_at p1_hour p1_fines p1_led p1_taken p1_shut)) S hK Wd iX3_become_X3 tyX3 tyX3_ok nmX3 0 rfl rfl 2 rfl rfl kX3_become_3 rfl rfl rfl dX3_become_21 rfl (fun H locs Wd => ?_)
  refine lv_aload_n S.1 S.2.1 dX3_become_24 rfl (lv_at hl 0 rfl) ?_
  refine lv_aload_n S.1 S.2.1 dX3_become_25 rfl (lv_at hl 1 rfl) ?_
  refine g_get (a := a_p1) S hK Wd iX3_become_X3 1 rfl rfl 3 rfl rfl kX3_become_4 rfl dX3_become_26 ?_
  refine g_put (a := a_t) (ws' := (wX3_become cI cB cZ cM cJ cK  a_t a_p1 p1_at p1_hour p1_fines p1_led t_taken t_shut p1_at p1_hour p1_fines p1_led p1_taken p1_shut)) S hK Wd iX3_become_X3 tyX3 tyX3_ok nmX3 0 rfl rfl 3 rfl rfl kX3_become_4 rfl rfl rfl dX3_become_29 rfl (fun H locs Wd => ?_)
  refine lv_aload_n S.1 S.2.1 dX3_become_32 rfl (lv_at hl 0 rfl) ?_
  refine lv_aload_n S.1 S.2.1 dX3_become_33 rfl (lv_at hl 1 rfl) ?_
  refine g_get (a := a_p1) S hK Wd iX3_become_X3 1 rfl rfl 4 rfl rfl kX3_become_5 rfl dX3_become_34 ?_
  refine g_put (a := a_t) (ws' := (wX3_become cI cB cZ cM cJ cK  a_t a_p1 p1_at p1_hour p1_fines p1_led p1_taken t_shut p1_at p1_hour p1_fines p1_led p1_taken p1_shut)) S hK Wd iX3_become_X3 tyX3 tyX3_ok nmX3 0 rfl rfl 4 rfl rfl kX3_become_5 rfl rfl rfl dX3_become_37 rfl (fun H locs Wd => ?_)
  refine lv_aload_n S.1 S.2.1 dX3_become_40 rfl (lv_at hl 0 rfl) ?_
  refine lv_aload_n S.1 S.2.1 dX3_become_41 rfl (lv_at hl 1 rfl) ?_
  refine g_get (a := a_p1) S hK Wd iX3_become_X3 1 rfl rfl 5 rfl rfl kX3_become_6 rfl dX3_become_42 ?_
  refine g_put (a := a_t) (ws' := (wX3_become cI cB cZ cM cJ cK  a_t a_p1 p1_at p1_hour p1_fines p1_led p1_taken p1_shut p1_at p1_hour p1_fines p1_led p1_taken p1_shut)) S hK Wd iX3_become_X3 tyX3 tyX3_ok nmX3 0 rfl rfl 5 rfl rfl kX3_become_6 rfl rfl rfl dX3_become_45 rfl (fun H locs Wd => ?_)
  exact g_vret S Wd hr hlk dX3_become_48 (p1_at, p1_hour, p1_fines, p1_led, p1_taken, p1_shut) hf rfl rfl
def wX1_loseOldest (cI cB cZ cM cJ cK : ClassId) (a_t a_t_past : Nat) (r_t_past : Nat → Nat) (t_size : Int32) (t_past : Nat → Nat → Int32) : List va_W := [[(a_t, .inr (1, [.ref a_t_past, .int t_size]))], [(a_t_past, .inl (cM, 10, .inr (.inr (.inr (.inr (famR 10 r_t_past))))))], foC r_t_past t_past]
def rmX1_loseOldest : Room := { frames := 1, cells := 0, slots := 0, locals := 21 }
theorem kX1_loseOldest_1 : Cond.fieldLink RX1 18 "FeastMarch$History" "size" "I" ∈ wsX1_loseOldest := List.mem_of_getElem? (i := 1) rfl
theorem kX1_loseOldest_2 : Cond.fieldLink RX1 11 "FeastMarch$History" "past" "[LFeastMarch$March;" ∈ wsX1_loseOldest := List.mem_of_getElem? (i := 2) rfl
theorem iX1_loseOldest_X1 : ∀ w ∈ wsX10, w ∈ wsX1_loseOldest := fun _ h => List.mem_cons_of_mem _ (List.mem_append_left _ (List.mem_append_right _ h))
theorem n_X1_loseOldest : yX1_loseOldest.cls = RX1 ∧ yX1_loseOldest.cls ≠ "java/lang/invoke/MethodHandle" ∧ yX1_loseOldest.cls ≠ "java/lang/invoke/VarHandle" ∧ (parseMethodDescriptor yX1_loseOldest.desc).map (fun d => d.parameters.length) = some 0 := by decide +kernel
set_option maxHeartbeats 4000000 in
set_option maxRecDepth 100000 in
theorem c_X1_loseOldest (l : Launch) (D : va_G) (N : Nat) (cI cB cZ cM cJ cK : ClassId) (a_t a_t_past : Nat) (r_t_past : Nat → Nat) (t_size : Int32) (t_past : Nat → Nat → Int32) : gM l yX1_loseOldest wsX1_loseOldest rmX1_loseOldest D (gT cI cB cZ cM cJ cK) (wX1_loseOldest cI cB cZ cM cJ cK  a_t a_t_past r_t_past t_size t_past) [.ref a_t] (fX1_loseOldest N t_size t_past) (fun _u : Int32 × (Nat → Nat → Int32) => none) (fun _u : Int32 × (Nat → Nat → Int32) => (wX1_loseOldest cI cB cZ cM cJ cK  a_t a_t_past r_t_past _u.1 _u.2)) := by
  refine g_start (cc := cX1_loseOldest) (maxL := 2) (ret := none) (by decide) rfl (Nat.le_of_ble_eq_true rfl) ?_
  intro F hf hF p e s m below meth c A ls S hK hA Wd hr hlk hnm hl
  have b2 : ∀ (n : Nat), ∀ (t_size : Int32) (t_past : Nat → Nat → Int32) (x1 : Int32) (H1 : Heap) (locs1 : List Loc) (ls1 : Array Slot), gw D A s.heap (wX1_loseOldest cI cB cZ cM cJ cK  a_t a_t_past r_t_past t_size t_past) H1 locs1 → lv_has ls1 2 [(0, .ref a_t), (1, .int x1)] → F = fX1_loseOldest_b2 N  n t_size t_past x1 → W p l e rmX1_loseOldest s m [.ref a_t].toArray below meth c H1 locs1 0 0 (MQ below (gQ F (fun _u : Int32 × (Nat → Nat → Int32) => none) (fun _u : Int32 × (Nat → Nat → Int32) => (wX1_loseOldest cI cB cZ cM cJ cK  a_t a_t_past r_t_past _u.1 _u.2)) D A) [.ref a_t].toArray s 0 0 A) (F0 m 2 ls1 []) := by
    intro  n
    induction n with
    | zero => intro t_size t_past x1 H locs ls Wd hl hf; exact absurd hf hF
    | succ n ih =>
      intro t_size t_past x1 H locs ls Wd hl hf
      refine lv_iload_n S.1 S.2.1 dX1_loseOldest_2 rfl (lv_at hl 1 rfl) ?_
      refine lv_aload_n S.1 S.2.1 dX1_loseOldest_3 rfl (lv_at hl 0 rfl) ?_
      refine g_get (a := a_t) S hK Wd iX1_loseOldest_X1 0 rfl rfl 1 rfl rfl kX1_loseOldest_1 rfl dX1_loseOldest_4 ?_
      refine lv_icmp_ge (tgt := 33) S.1 S.2.1 dX1_loseOldest_7 rfl (fun c1 => ?_) (fun c1 => ?_)
      · have hf := g_if hf c1
        refine lv_aload_n S.1 S.2.1 dX1_loseOldest_33 rfl (lv_at hl 0 rfl) ?_
        refine lv_dup S.1 S.2.1 dX1_loseOldest_34 rfl ?_
        refine g_get (a := a_t) S hK Wd iX1_loseOldest_X1 0 rfl rfl 1 rfl rfl kX1_loseOldest_1 rfl dX1_loseOldest_35 ?_
        refine lv_iconst (v := 1) S.1 S.2.1 dX1_loseOldest_38 (by decide) ?_
        refine lv_isub S.1 S.2.1 dX1_loseOldest_39 ?_
        refine g_put (a := a_t) (ws' := (wX1_loseOldest cI cB cZ cM cJ cK  a_t a_t_past r_t_past (t_size - (1 : Int32)) t_past)) S hK Wd iX1_loseOldest_X1 tyX1 tyX1_ok nmX1 0 rfl rfl 1 rfl rfl kX1_loseOldest_1 rfl rfl rfl dX1_loseOldest_40 rfl (fun H locs Wd => ?_)
        exact g_vret S Wd hr hlk dX1_loseOldest_43 ((t_size - (1 : Int32)), t_past) hf rfl rfl
      · have hf := g_ifn hf c1
        refine lv_aload_n S.1 S.2.1 dX1_loseOldest_10 rfl (lv_at hl 0 rfl) ?_
        refine g_get (a := a_t) S hK Wd iX1_loseOldest_X1 0 rfl rfl 0 rfl rfl kX1_loseOldest_2 rfl dX1_loseOldest_11 ?_
        refine lv_iload_n S.1 S.2.1 dX1_loseOldest_14 rfl (lv_at hl 1 rfl) ?_
        refine lv_iconst (v := 1) S.1 S.2.1 dX1_loseOldest_15 (by decide) ?_
        refine lv_isub S.1 S.2.1 dX1_loseOldest_16 ?_
        obtain ⟨h2, hf⟩ := g_gi hF hf
        refine g_aldq (a := a_t_past) (x := r_t_past ((x1 - (1 : Int32)).toNatClampNeg)) S hK Wd 1 3 rfl rfl h2 (famR_at (g_lt h2)) dX1_loseOldest_17 ?_
        refine lv_aload_n S.1 S.2.1 dX1_loseOldest_18 rfl (lv_at hl 0 rfl) ?_
        refine g_get (a := a_t) S hK Wd iX1_loseOldest_X1 0 rfl rfl 0 rfl rfl kX1_loseOldest_2 rfl dX1_loseOldest_19 ?_
        refine lv_iload_n S.1 S.2.1 dX1_loseOldest_22 rfl (lv_at hl 1 rfl) ?_
        obtain ⟨h3, hf⟩ := g_gi hF hf
        refine g_aldq (a := a_t_past) (x := r_t_past x1.toNatClampNeg) S hK Wd 1 3 rfl rfl h3 (famR_at (g_lt h3)) dX1_loseOldest_23 ?_
        obtain ⟨h4, hf⟩ := g_gc hF hf
        obtain ⟨u5, hu5, hf⟩ := g_bind hF hf
        refine g_callE (ws' := (wX1_loseOldest cI cB cZ cM cJ cK  a_t a_t_past r_t_past t_size (va_up t_past ((x1 - (1 : Int32)).toNatClampNeg) (rec6 u5.1 u5.2.1 u5.2.2.1 u5.2.2.2.1 u5.2.2.2.2.1 u5.2.2.2.2.2)))) (As := [.ref (r_t_past x1.toNatClampNeg)]) (rest := []) (st1 := []) S hK hA Wd (c_X3_become l D N cI cB cZ cM cJ cK (r_t_past ((x1 - (1 : Int32)).toNatClampNeg)) (r_t_past x1.toNatClampNeg) (t_past ((x1 - (1 : Int32)).toNatClampNeg) 0) (t_past ((x1 - (1 : Int32)).toNatClampNeg) 1) (t_past ((x1 - (1 : Int32)).toNatClampNeg) 2) (t_past ((x1 - (1 : Int32)).toNatClampNeg) 3) (t_past ((x1 - (1 : Int32)).toNatClampNeg) 4) (t_past ((x1 - (1 : Int32)).toNatClampNeg) 5) (t_past x1.toNatClampNeg 0) (t_past x1.toNatClampNeg 1) (t_past x1.toNatClampNeg 2) (t_past x1.toNatClampNeg 3) (t_past x1.toNatClampNeg 4) (t_past x1.toNatClampNeg 5)) (cwV 1 S.2.2.2.2 gX1_loseOldest_X3_become rfl rfl rfl n_X3_become ⟨Nat.le_of_ble_eq_true rfl, Nat.le_of_ble_eq_true rfl⟩) hu5 rfl 2 ((x1 - (1 : Int32)).toNatClampNeg) 2 x1.toNatClampNeg rfl (foC_get (g_lt h2)) rfl (foC_get (g_lt h3)) (Or.inr h4) rfl rfl rfl (by rw [if_pos rfl, foC_set (g_lt h2), foC_keep (g_lt h3) (va_up_ne _ _ (fun z => h4 z.symm))]; rfl) rfl rfl hl.1 rfl (Nat.le_of_ble_eq_true rfl) dX1_loseOldest_24 ⟨Nat.zero_le _, Nat.zero_le _⟩ (fun H locs Wd => ?_)
        refine lv_iinc (v := (x1 + (1 : Int32))) (lv' := [(1, .int (x1 + (1 : Int32))), (0, .ref a_t)]) S.1 S.2.1 dX1_loseOldest_27 hl (k := 1) rfl rfl (by decide) rfl (fun ls hl => ?_)
        refine lv_goto (tgt := 2) S.1 S.2.1 dX1_loseOldest_30 rfl ?_
        exact ih t_size (va_up t_past ((x1 - (1 : Int32)).toNatClampNeg) (rec6 u5.1 u5.2.1 u5.2.2.1 u5.2.2.2.1 u5.2.2.2.2.1 u5.2.2.2.2.2)) (x1 + (1 : Int32)) _ _ _ Wd (lv_sub hl [1, 0] rfl) hf
  refine lv_iconst (v := 1) S.1 S.2.1 dX1_loseOldest_0 (by decide) ?_
  refine lv_istore_n (lv' := [(1, .int (1 : Int32)), (0, .ref a_t)]) S.1 S.2.1 dX1_loseOldest_1 rfl hl (by decide) rfl (fun ls hl => ?_)
  exact b2  N t_size t_past (1 : Int32) _ _ _ Wd (lv_sub hl [1, 0] rfl) hf
def wX1_remember (cI cB cZ cM cJ cK : ClassId) (a_t a_t_past : Nat) (r_t_past : Nat → Nat) (a_p1 : Nat) (t_size : Int32) (t_past : Nat → Nat → Int32) (p1_at p1_hour p1_fines p1_led p1_taken p1_shut : Int32) : List va_W := [[(a_t, .inr (1, [.ref a_t_past, .int t_size]))], [(a_t_past, .inl (cM, 10, .inr (.inr (.inr (.inr (famR 10 r_t_past))))))], foC r_t_past t_past, [(a_p1, .inr (3, [.int p1_at, .int p1_hour, .int p1_fines, .int p1_led, .int p1_taken, .int p1_shut]))]]
def rmX1_remember : Room := { frames := 2, cells := 0, slots := 0, locals := 42 }
theorem kX1_remember_1 : Cond.fieldLink RX1 18 "FeastMarch$History" "size" "I" ∈ wsX1_remember := List.mem_of_getElem? (i := 1) rfl
theorem kX1_remember_2 : Cond.fieldLink RX1 11 "FeastMarch$History" "past" "[LFeastMarch$March;" ∈ wsX1_remember := List.mem_of_getElem? (i := 2) rfl
theorem iX1_remember_X1 : ∀ w ∈ wsX10, w ∈ wsX1_remember := fun _ h => List.mem_cons_of_mem _ (List.mem_append_left _ (List.mem_append_right _ h))
theorem n_X1_remember : yX1_remember.cls = RX1 ∧ yX1_remember.cls ≠ "java/lang/invoke/MethodHandle" ∧ yX1_remember.cls ≠ "java/lang/invoke/VarHandle" ∧ (parseMethodDescriptor yX1_remember.desc).map (fun d => d.parameters.length) = some 1 := by decide +kernel
set_option maxHeartbeats 4000000 in
set_option maxRecDepth 100000 in
theorem c_X1_remember (l : Launch) (D : va_G) (N : Nat) (cI cB cZ cM cJ cK : ClassId) (a_t a_t_past : Nat) (r_t_past : Nat → Nat) (a_p1 : Nat) (t_size : Int32) (t_past : Nat → Nat → Int32) (p1_at p1_hour p1_fines p1_led p1_taken p1_shut : Int32) : gM l yX1_remember wsX1_remember rmX1_remember D (gT cI cB cZ cM cJ cK) (wX1_remember cI cB cZ cM cJ cK  a_t a_t_past r_t_past a_p1 t_size t_past p1_at p1_hour p1_fines p1_led p1_taken p1_shut) [.ref a_t, .ref a_p1] (fX1_remember N t_size t_past p1_at p1_hour p1_fines p1_led p1_taken p1_shut) (fun _u : Int32 × (Nat → Nat → Int32) => none) (fun _u : Int32 × (Nat → Nat → Int32) => (wX1_remember cI cB cZ cM cJ cK  a_t a_t_past r_t_past a_p1 _u.1 _u.2 p1_at p1_hour p1_fines p1_led p1_taken p1_shut)) := by
  refine g_start (cc := cX1_remember) (maxL := 2) (ret := none) (by decide) rfl (Nat.le_of_ble_eq_true rfl) ?_
  intro F hf hF p e s m below meth c A ls S hK hA Wd hr hlk hnm hl
  have b13 : ∀ (t_size : Int32) (t_past : Nat → Nat → Int32) (H1 : Heap) (locs1 : List Loc) (ls1 : Array Slot), gw D A s.heap (wX1_remember cI cB cZ cM cJ cK  a_t a_t_past r_t_past a_p1 t_size t_past p1_at p1_hour p1_fines p1_led p1_taken p1_shut) H1 locs1 → lv_has ls1 2 [(0, .ref a_t), (1, .ref a_p1)] → F = fX1_remember_b13 N p1_at p1_hour p1_fines p1_led p1_taken p1_shut  t_size t_past → W p l e rmX1_remember s m [.ref a_t, .ref a_p1].toArray below meth c H1 locs1 0 0 (MQ below (gQ F (fun _u : Int32 × (Nat → Nat → Int32) => none) (fun _u : Int32 × (Nat → Nat → Int32) => (wX1_remember cI cB cZ cM cJ cK  a_t a_t_past r_t_past a_p1 _u.1 _u.2 p1_at p1_hour p1_fines p1_led p1_taken p1_shut)) D A) [.ref a_t, .ref a_p1].toArray s 0 0 A) (F0 m 13 ls1 []) := by
    intro  t_size t_past H locs ls Wd hl hf
    refine lv_aload_n S.1 S.2.1 dX1_remember_13 rfl (lv_at hl 0 rfl) ?_
    refine g_get (a := a_t) S hK Wd iX1_remember_X1 0 rfl rfl 0 rfl rfl kX1_remember_2 rfl dX1_remember_14 ?_
    refine lv_aload_n S.1 S.2.1 dX1_remember_17 rfl (lv_at hl 0 rfl) ?_
    refine g_get (a := a_t) S hK Wd iX1_remember_X1 0 rfl rfl 1 rfl rfl kX1_remember_1 rfl dX1_remember_18 ?_
    obtain ⟨h3, hf⟩ := g_gi hF hf
    refine g_aldq (a := a_t_past) (x := r_t_past t_size.toNatClampNeg) S hK Wd 1 3 rfl rfl h3 (famR_at (g_lt h3)) dX1_remember_21 ?_
    refine lv_aload_n S.1 S.2.1 dX1_remember_22 rfl (lv_at hl 1 rfl) ?_
    obtain ⟨u4, hu4, hf⟩ := g_bind hF hf
    refine g_callE (ws' := (wX1_remember cI cB cZ cM cJ cK  a_t a_t_past r_t_past a_p1 t_size (va_up t_past t_size.toNatClampNeg (rec6 u4.1 u4.2.1 u4.2.2.1 u4.2.2.2.1 u4.2.2.2.2.1 u4.2.2.2.2.2)) p1_at p1_hour p1_fines p1_led p1_taken p1_shut)) (As := [.ref a_p1]) (rest := []) (st1 := []) S hK hA Wd (c_X3_become l D N cI cB cZ cM cJ cK (r_t_past t_size.toNatClampNeg) a_p1 (t_past t_size.toNatClampNeg 0) (t_past t_size.toNatClampNeg 1) (t_past t_size.toNatClampNeg 2) (t_past t_size.toNatClampNeg 3) (t_past t_size.toNatClampNeg 4) (t_past t_size.toNatClampNeg 5) p1_at p1_hour p1_fines p1_led p1_taken p1_shut) (cwV 1 S.2.2.2.2 gX1_remember_X3_become rfl rfl rfl n_X3_become ⟨Nat.le_of_ble_eq_true rfl, Nat.le_of_ble_eq_true rfl⟩) hu4 rfl 2 t_size.toNatClampNeg 3 0 rfl (foC_get (g_lt h3)) rfl rfl (Or.inl (by decide)) rfl rfl rfl (by rw [if_neg (by decide), foC_set (g_lt h3)]; rfl) rfl rfl hl.1 rfl (Nat.le_of_ble_eq_true rfl) dX1_remember_23 ⟨Nat.zero_le _, Nat.zero_le _⟩ (fun H locs Wd => ?_)
    refine lv_aload_n S.1 S.2.1 dX1_remember_26 rfl (lv_at hl 0 rfl) ?_
    refine lv_dup S.1 S.2.1 dX1_remember_27 rfl ?_
    refine g_get (a := a_t) S hK Wd iX1_remember_X1 0 rfl rfl 1 rfl rfl kX1_remember_1 rfl dX1_remember_28 ?_
    refine lv_iconst (v := 1) S.1 S.2.1 dX1_remember_31 (by decide) ?_
    refine lv_iadd S.1 S.2.1 dX1_remember_32 ?_
    refine g_put (a := a_t) (ws' := (wX1_remember cI cB cZ cM cJ cK  a_t a_t_past r_t_past a_p1 (t_size + (1 : Int32)) (va_up t_past t_size.toNatClampNeg (rec6 u4.1 u4.2.1 u4.2.2.1 u4.2.2.2.1 u4.2.2.2.2.1 u4.2.2.2.2.2)) p1_at p1_hour p1_fines p1_led p1_taken p1_shut)) S hK Wd iX1_remember_X1 tyX1 tyX1_ok nmX1 0 rfl rfl 1 rfl rfl kX1_remember_1 rfl rfl rfl dX1_remember_33 rfl (fun H locs Wd => ?_)
    exact g_vret S Wd hr hlk dX1_remember_36 ((t_size + (1 : Int32)), (va_up t_past t_size.toNatClampNeg (rec6 u4.1 u4.2.1 u4.2.2.1 u4.2.2.2.1 u4.2.2.2.2.1 u4.2.2.2.2.2))) hf rfl rfl
  refine lv_aload_n S.1 S.2.1 dX1_remember_0 rfl (lv_at hl 0 rfl) ?_
  refine g_get (a := a_t) S hK Wd iX1_remember_X1 0 rfl rfl 1 rfl rfl kX1_remember_1 rfl dX1_remember_1 ?_
  refine lv_bipush (v := 10) S.1 S.2.1 dX1_remember_4 (by decide) ?_
  refine lv_icmp_ne (tgt := 13) S.1 S.2.1 dX1_remember_6 rfl (fun c1 => ?_) (fun c1 => ?_)
  · have hf := g_ifn hf c1
    exact b13  t_size t_past _ _ _ Wd hl hf
  · have hf := g_if hf c1
    refine lv_aload_n S.1 S.2.1 dX1_remember_9 rfl (lv_at hl 0 rfl) ?_
    obtain ⟨u2, hu2, hf⟩ := g_bind hF hf
    refine g_callV (ws' := (wX1_remember cI cB cZ cM cJ cK  a_t a_t_past r_t_past a_p1 u2.1 u2.2 p1_at p1_hour p1_fines p1_led p1_taken p1_shut)) (As := []) (rest := []) (st1 := []) S hK hA Wd (c_X1_loseOldest l D N cI cB cZ cM cJ cK a_t a_t_past r_t_past t_size t_past) (cwV 0 S.2.2.2.2 gX1_remember_X1_loseOldest rfl rfl rfl n_X1_loseOldest ⟨Nat.le_of_ble_eq_true rfl, Nat.le_of_ble_eq_true rfl⟩) hu2 [0, 1, 2] rfl rfl 0 1 rfl rfl rfl rfl rfl rfl rfl hl.1 rfl (Nat.le_of_ble_eq_true rfl) dX1_remember_10 ⟨Nat.zero_le _, Nat.zero_le _⟩ (fun H locs Wd => ?_)
    exact b13  u2.1 u2.2 _ _ _ Wd hl hf
def wX1_restore (cI cB cZ cM cJ cK : ClassId) (a_t a_t_past : Nat) (r_t_past : Nat → Nat) (a_p1 : Nat) (t_size : Int32) (t_past : Nat → Nat → Int32) (p1_at p1_hour p1_fines p1_led p1_taken p1_shut : Int32) : List va_W := [[(a_t, .inr (1, [.ref a_t_past, .int t_size]))], [(a_t_past, .inl (cM, 10, .inr (.inr (.inr (.inr (famR 10 r_t_past))))))], foC r_t_past t_past, [(a_p1, .inr (3, [.int p1_at, .int p1_hour, .int p1_fines, .int p1_led, .int p1_taken, .int p1_shut]))]]
def rmX1_restore : Room := { frames := 1, cells := 0, slots := 0, locals := 21 }
theorem kX1_restore_1 : Cond.fieldLink RX1 18 "FeastMarch$History" "size" "I" ∈ wsX1_restore := List.mem_of_getElem? (i := 1) rfl
theorem kX1_restore_2 : Cond.fieldLink RX1 11 "FeastMarch$History" "past" "[LFeastMarch$March;" ∈ wsX1_restore := List.mem_of_getElem? (i := 2) rfl
theorem iX1_restore_X1 : ∀ w ∈ wsX10, w ∈ wsX1_restore := fun _ h => List.mem_cons_of_mem _ (List.mem_append_left _ (List.mem_append_right _ h))
theorem n_X1_restore : yX1_restore.cls = RX1 ∧ yX1_restore.cls ≠ "java/lang/invoke/MethodHandle" ∧ yX1_restore.cls ≠ "java/lang/invoke/VarHandle" ∧ (parseMethodDescriptor yX1_restore.desc).map (fun d => d.parameters.length) = some 1 := by decide +kernel
set_option maxHeartbeats 4000000 in
set_option maxRecDepth 100000 in
theorem c_X1_restore (l : Launch) (D : va_G) (N : Nat) (cI cB cZ cM cJ cK : ClassId) (a_t a_t_past : Nat) (r_t_past : Nat → Nat) (a_p1 : Nat) (t_size : Int32) (t_past : Nat → Nat → Int32) (p1_at p1_hour p1_fines p1_led p1_taken p1_shut : Int32) : gM l yX1_restore wsX1_restore rmX1_restore D (gT cI cB cZ cM cJ cK) (wX1_restore cI cB cZ cM cJ cK  a_t a_t_past r_t_past a_p1 t_size t_past p1_at p1_hour p1_fines p1_led p1_taken p1_shut) [.ref a_t, .ref a_p1] (fX1_restore N t_size t_past p1_at p1_hour p1_fines p1_led p1_taken p1_shut) (fun _u : Int32 × Int32 × Int32 × Int32 × Int32 × Int32 × Int32 => none) (fun _u : Int32 × Int32 × Int32 × Int32 × Int32 × Int32 × Int32 => (wX1_restore cI cB cZ cM cJ cK  a_t a_t_past r_t_past a_p1 _u.1 t_past _u.2.1 _u.2.2.1 _u.2.2.2.1 _u.2.2.2.2.1 _u.2.2.2.2.2.1 _u.2.2.2.2.2.2)) := by
  refine g_start (cc := cX1_restore) (maxL := 2) (ret := none) (by decide) rfl (Nat.le_of_ble_eq_true rfl) ?_
  intro F hf hF p e s m below meth c A ls S hK hA Wd hr hlk hnm hl
  refine lv_aload_n S.1 S.2.1 dX1_restore_0 rfl (lv_at hl 0 rfl) ?_
  refine g_get (a := a_t) S hK Wd iX1_restore_X1 0 rfl rfl 1 rfl rfl kX1_restore_1 rfl dX1_restore_1 ?_
  refine lv_if_le (tgt := 30) S.1 S.2.1 dX1_restore_4 rfl (fun c1 => ?_) (fun c1 => ?_)
  · have hf := g_if hf c1
    exact g_vret S Wd hr hlk dX1_restore_30 (t_size, p1_at, p1_hour, p1_fines, p1_led, p1_taken, p1_shut) hf rfl rfl
  · have hf := g_ifn hf c1
    refine lv_aload_n S.1 S.2.1 dX1_restore_7 rfl (lv_at hl 0 rfl) ?_
    refine lv_dup S.1 S.2.1 dX1_restore_8 rfl ?_
    refine g_get (a := a_t) S hK Wd iX1_restore_X1 0 rfl rfl 1 rfl rfl kX1_restore_1 rfl dX1_restore_9 ?_
    refine lv_iconst (v := 1) S.1 S.2.1 dX1_restore_12 (by decide) ?_
    refine lv_isub S.1 S.2.1 dX1_restore_13 ?_
    refine g_put (a := a_t) (ws' := (wX1_restore cI cB cZ cM cJ cK  a_t a_t_past r_t_past a_p1 (t_size - (1 : Int32)) t_past p1_at p1_hour p1_fines p1_led p1_taken p1_shut)) S hK Wd iX1_restore_X1 tyX1 tyX1_ok nmX1 0 rfl rfl 1 rfl rfl kX1_restore_1 rfl rfl rfl dX1_restore_14 rfl (fun H locs Wd => ?_)
    refine lv_aload_n S.1 S.2.1 dX1_restore_17 rfl (lv_at hl 1 rfl) ?_
    refine lv_aload_n S.1 S.2.1 dX1_restore_18 rfl (lv_at hl 0 rfl) ?_
    refine g_get (a := a_t) S hK Wd iX1_restore_X1 0 rfl rfl 0 rfl rfl kX1_restore_2 rfl dX1_restore_19 ?_
    refine lv_aload_n S.1 S.2.1 dX1_restore_22 rfl (lv_at hl 0 rfl) ?_
    refine g_get (a := a_t) S hK Wd iX1_restore_X1 0 rfl rfl 1 rfl rfl kX1_restore_1 rfl dX1_restore_23 ?_
    obtain ⟨h2, hf⟩ := g_gi hF hf
    refine g_aldq (a := a_t_past) (x := r_t_past ((t_size - (1 : Int32)).toNatClampNeg)) S hK Wd 1 3 rfl rfl h2 (famR_at (g_lt h2)) dX1_restore_26 ?_
    obtain ⟨u3, hu3, hf⟩ := g_bind hF hf
    refine g_callE (ws' := (wX1_restore cI cB cZ cM cJ cK  a_t a_t_past r_t_past a_p1 (t_size - (1 : Int32)) t_past u3.1 u3.2.1 u3.2.2.1 u3.2.2.2.1 u3.2.2.2.2.1 u3.2.2.2.2.2)) (As := [.ref (r_t_past ((t_size - (1 : Int32)).toNatClampNeg))]) (rest := []) (st1 := []) S hK hA Wd (c_X3_become l D N cI cB cZ cM cJ cK a_p1 (r_t_past ((t_size - (1 : Int32)).toNatClampNeg)) p1_at p1_hour p1_fines p1_led p1_taken p1_shut (t_past ((t_size - (1 : Int32)).toNatClampNeg) 0) (t_past ((t_size - (1 : Int32)).toNatClampNeg) 1) (t_past ((t_size - (1 : Int32)).toNatClampNeg) 2) (t_past ((t_size - (1 : Int32)).toNatClampNeg) 3) (t_past ((t_size - (1 : Int32)).toNatClampNeg) 4) (t_past ((t_size - (1 : Int32)).toNatClampNeg) 5)) (cwV 1 S.2.2.2.2 gX1_restore_X3_become rfl rfl rfl n_X3_become ⟨Nat.le_of_ble_eq_true rfl, Nat.le_of_ble_eq_true rfl⟩) hu3 rfl 3 0 2 ((t_size - (1 : Int32)).toNatClampNeg) rfl rfl rfl (foC_get (g_lt h2)) (Or.inl (by decide)) rfl rfl rfl (by rw [if_neg (by decide), foC_keep (g_lt h2) rfl]; rfl) rfl rfl hl.1 rfl (Nat.le_of_ble_eq_true rfl) dX1_restore_27 ⟨Nat.zero_le _, Nat.zero_le _⟩ (fun H locs Wd => ?_)
    exact g_vret S Wd hr hlk dX1_restore_30 ((t_size - (1 : Int32)), u3.1, u3.2.1, u3.2.2.1, u3.2.2.2.1, u3.2.2.2.2.1, u3.2.2.2.2.2) hf rfl rfl
def wX1_become (cI cB cZ cM cJ cK : ClassId) (a_t a_t_past : Nat) (r_t_past : Nat → Nat) (a_p1 a_p1_past : Nat) (r_p1_past : Nat → Nat) (t_size : Int32) (t_past : Nat → Nat → Int32) (p1_size : Int32) (p1_past : Nat → Nat → Int32) : List va_W := [[(a_t, .inr (1, [.ref a_t_past, .int t_size]))], [(a_t_past, .inl (cM, 10, .inr (.inr (.inr (.inr (famR 10 r_t_past))))))], foC r_t_past t_past, [(a_p1, .inr (1, [.ref a_p1_past, .int p1_size]))], [(a_p1_past, .inl (cM, 10, .inr (.inr (.inr (.inr (famR 10 r_p1_past))))))], foC r_p1_past p1_past]
def rmX1_become : Room := { frames := 1, cells := 0, slots := 0, locals := 21 }
theorem kX1_become_1 : Cond.fieldLink RX1 18 "FeastMarch$History" "size" "I" ∈ wsX1_become := List.mem_of_getElem? (i := 1) rfl
theorem kX1_become_2 : Cond.fieldLink RX1 11 "FeastMarch$History" "past" "[LFeastMarch$March;" ∈ wsX1_become := List.mem_of_getElem? (i := 2) rfl
theorem iX1_become_X1 : ∀ w ∈ wsX10, w ∈ wsX1_become := fun _ h => List.mem_cons_of_mem _ (List.mem_append_left _ (List.mem_append_right _ h))
theorem n_X1_become : yX1_become.cls = RX1 ∧ yX1_become.cls ≠ "java/lang/invoke/MethodHandle" ∧ yX1_become.cls ≠ "java/lang/invoke/VarHandle" ∧ (parseMethodDescriptor yX1_become.desc).map (fun d => d.parameters.length) = some 1 := by decide +kernel
set_option maxHeartbeats 4000000 in
set_option maxRecDepth 100000 in
theorem c_X1_become (l : Launch) (D : va_G) (N : Nat) (cI cB cZ cM cJ cK : ClassId) (a_t a_t_past : Nat) (r_t_past : Nat → Nat) (a_p1 a_p1_past : Nat) (r_p1_past : Nat → Nat) (t_size : Int32) (t_past : Nat → Nat → Int32) (p1_size : Int32) (p1_past : Nat → Nat → Int32) : gM l yX1_become wsX1_become rmX1_become D (gT cI cB cZ cM cJ cK) (wX1_become cI cB cZ cM cJ cK  a_t a_t_past r_t_past a_p1 a_p1_past r_p1_past t_size t_past p1_size p1_past) [.ref a_t, .ref a_p1] (fX1_become N t_size t_past p1_size p1_past) (fun _u : Int32 × (Nat → Nat → Int32) => none) (fun _u : Int32 × (Nat → Nat → Int32) => (wX1_become cI cB cZ cM cJ cK  a_t a_t_past r_t_past a_p1 a_p1_past r_p1_past _u.1 _u.2 p1_size p1_past)) := by
  refine g_start (cc := cX1_become) (maxL := 3) (ret := none) (by decide) rfl (Nat.le_of_ble_eq_true rfl) ?_
  intro F hf hF p e s m below meth c A ls S hK hA Wd hr hlk hnm hl
  have b10 : ∀ (n : Nat), ∀ (t_size : Int32) (t_past : Nat → Nat → Int32) (x2 : Int32) (H1 : Heap) (locs1 : List Loc) (ls1 : Array Slot), gw D A s.heap (wX1_become cI cB cZ cM cJ cK  a_t a_t_past r_t_past a_p1 a_p1_past r_p1_past t_size t_past p1_size p1_past) H1 locs1 → lv_has ls1 3 [(0, .ref a_t), (1, .ref a_p1), (2, .int x2)] → F = fX1_become_b10 N p1_size p1_past  n t_size t_past x2 → W p l e rmX1_become s m [.ref a_t, .ref a_p1].toArray below meth c H1 locs1 0 0 (MQ below (gQ F (fun _u : Int32 × (Nat → Nat → Int32) => none) (fun _u : Int32 × (Nat → Nat → Int32) => (wX1_become cI cB cZ cM cJ cK  a_t a_t_past r_t_past a_p1 a_p1_past r_p1_past _u.1 _u.2 p1_size p1_past)) D A) [.ref a_t, .ref a_p1].toArray s 0 0 A) (F0 m 10 ls1 []) := by
    intro  n
    induction n with
    | zero => intro t_size t_past x2 H locs ls Wd hl hf; exact absurd hf hF
    | succ n ih =>
      intro t_size t_past x2 H locs ls Wd hl hf
      refine lv_iload_n S.1 S.2.1 dX1_become_10 rfl (lv_at hl 2 rfl) ?_
      refine lv_aload_n S.1 S.2.1 dX1_become_11 rfl (lv_at hl 0 rfl) ?_
      refine g_get (a := a_t) S hK Wd iX1_become_X1 0 rfl rfl 1 rfl rfl kX1_become_1 rfl dX1_become_12 ?_
      refine lv_icmp_ge (tgt := 39) S.1 S.2.1 dX1_become_15 rfl (fun c1 => ?_) (fun c1 => ?_)
      · have hf := g_if hf c1
        exact g_vret S Wd hr hlk dX1_become_39 (t_size, t_past) hf rfl rfl
      · have hf := g_ifn hf c1
        refine lv_aload_n S.1 S.2.1 dX1_become_18 rfl (lv_at hl 0 rfl) ?_
        refine g_get (a := a_t) S hK Wd iX1_become_X1 0 rfl rfl 0 rfl rfl kX1_become_2 rfl dX1_become_19 ?_
        refine lv_iload_n S.1 S.2.1 dX1_become_22 rfl (lv_at hl 2 rfl) ?_
        obtain ⟨h2, hf⟩ := g_gi hF hf
        refine g_aldq (a := a_t_past) (x := r_t_past x2.toNatClampNeg) S hK Wd 1 3 rfl rfl h2 (famR_at (g_lt h2)) dX1_become_23 ?_
        refine lv_aload_n S.1 S.2.1 dX1_become_24 rfl (lv_at hl 1 rfl) ?_
        refine g_get (a := a_p1) S hK Wd iX1_become_X1 3 rfl rfl 0 rfl rfl kX1_become_2 rfl dX1_become_25 ?_
        refine lv_iload_n S.1 S.2.1 dX1_become_28 rfl (lv_at hl 2 rfl) ?_
        obtain ⟨h3, hf⟩ := g_gi hF hf
        refine g_aldq (a := a_p1_past) (x := r_p1_past x2.toNatClampNeg) S hK Wd 4 3 rfl rfl h3 (famR_at (g_lt h3)) dX1_become_29 ?_
        obtain ⟨u4, hu4, hf⟩ := g_bind hF hf
        refine g_callE (ws' := (wX1_become cI cB cZ cM cJ cK  a_t a_t_past r_t_past a_p1 a_p1_past r_p1_past t_size (va_up t_past x2.toNatClampNeg (rec6 u4.1 u4.2.1 u4.2.2.1 u4.2.2.2.1 u4.2.2.2.2.1 u4.2.2.2.2.2)) p1_size p1_past)) (As := [.ref (r_p1_past x2.toNatClampNeg)]) (rest := []) (st1 := []) S hK hA Wd (c_X3_become l D N cI cB cZ cM cJ cK (r_t_past x2.toNatClampNeg) (r_p1_past x2.toNatClampNeg) (t_past x2.toNatClampNeg 0) (t_past x2.toNatClampNeg 1) (t_past x2.toNatClampNeg 2) (t_past x2.toNatClampNeg 3) (t_past x2.toNatClampNeg 4) (t_past x2.toNatClampNeg 5) (p1_past x2.toNatClampNeg 0) (p1_past x2.toNatClampNeg 1) (p1_past x2.toNatClampNeg 2) (p1_past x2.toNatClampNeg 3) (p1_past x2.toNatClampNeg 4) (p1_past x2.toNatClampNeg 5)) (cwV 1 S.2.2.2.2 gX1_become_X3_become rfl rfl rfl n_X3_become ⟨Nat.le_of_ble_eq_true rfl, Nat.le_of_ble_eq_true rfl⟩) hu4 rfl 2 x2.toNatClampNeg 5 x2.toNatClampNeg rfl (foC_get (g_lt h2)) rfl (foC_get (g_lt h3)) (Or.inl (by decide)) rfl rfl rfl (by rw [if_neg (by decide), foC_set (g_lt h2), foC_keep (g_lt h3) rfl]; rfl) rfl rfl hl.1 rfl (Nat.le_of_ble_eq_true rfl) dX1_become_30 ⟨Nat.zero_le _, Nat.zero_le _⟩ (fun H locs Wd => ?_)
        refine lv_iinc (v := (x2 + (1 : Int32))) (lv' := [(2, .int (x2 + (1 : Int32))), (0, .ref a_t), (1, .ref a_p1)]) S.1 S.2.1 dX1_become_33 hl (k := 2) rfl rfl (by decide) rfl (fun ls hl => ?_)
        refine lv_goto (tgt := 10) S.1 S.2.1 dX1_become_36 rfl ?_
        exact ih t_size (va_up t_past x2.toNatClampNeg (rec6 u4.1 u4.2.1 u4.2.2.1 u4.2.2.2.1 u4.2.2.2.2.1 u4.2.2.2.2.2)) (x2 + (1 : Int32)) _ _ _ Wd (lv_sub hl [1, 2, 0] rfl) hf
  refine lv_aload_n S.1 S.2.1 dX1_become_0 rfl (lv_at hl 0 rfl) ?_
  refine lv_aload_n S.1 S.2.1 dX1_become_1 rfl (lv_at hl 1 rfl) ?_
  refine g_get (a := a_p1) S hK Wd iX1_become_X1 3 rfl rfl 1 rfl rfl kX1_become_1 rfl dX1_become_2 ?_
  refine g_put (a := a_t) (ws' := (wX1_become cI cB cZ cM cJ cK  a_t a_t_past r_t_past a_p1 a_p1_past r_p1_past p1_size t_past p1_size p1_past)) S hK Wd iX1_become_X1 tyX1 tyX1_ok nmX1 0 rfl rfl 1 rfl rfl kX1_become_1 rfl rfl rfl dX1_become_5 rfl (fun H locs Wd => ?_)
  refine lv_iconst (v := 0) S.1 S.2.1 dX1_become_8 (by decide) ?_
  refine lv_istore_n (lv' := [(2, .int (0 : Int32)), (0, .ref a_t), (1, .ref a_p1)]) S.1 S.2.1 dX1_become_9 rfl hl (by decide) rfl (fun ls hl => ?_)
  exact b10  N p1_size t_past (0 : Int32) _ _ _ Wd (lv_sub hl [1, 2, 0] rfl) hf
def wX2_take (cI cB cZ cM cJ cK : ClassId) (a_t a_t_march a_t_history a_t_history_past : Nat) (r_t_history_past : Nat → Nat) (a_p1 a_p2 a_p2_past : Nat) (r_p2_past : Nat → Nat) (t_kept t_march_at t_march_hour t_march_fines t_march_led t_march_taken t_march_shut t_history_size : Int32) (t_history_past : Nat → Nat → Int32) (p1_at p1_hour p1_fines p1_led p1_taken p1_shut p2_size : Int32) (p2_past : Nat → Nat → Int32) : List va_W := [[(a_t, .inr (2, [.int t_kept, .ref a_t_march, .ref a_t_history]))], [(a_t_march, .inr (3, [.int t_march_at, .int t_march_hour, .int t_march_fines, .int t_march_led, .int t_march_taken, .int t_march_shut]))], [(a_t_history, .inr (1, [.ref a_t_history_past, .int t_history_size]))], [(a_t_history_past, .inl (cM, 10, .inr (.inr (.inr (.inr (famR 10 r_t_history_past))))))], foC r_t_history_past t_history_past, [(a_p1, .inr (3, [.int p1_at, .int p1_hour, .int p1_fines, .int p1_led, .int p1_taken, .int p1_shut]))], [(a_p2, .inr (1, [.ref a_p2_past, .int p2_size]))], [(a_p2_past, .inl (cM, 10, .inr (.inr (.inr (.inr (famR 10 r_p2_past))))))], foC r_p2_past p2_past]
def rmX2_take : Room := { frames := 2, cells := 0, slots := 0, locals := 43 }
theorem kX2_take_1 : Cond.fieldLink RX2 10 "FeastMarch$Image" "march" "LFeastMarch$March;" ∈ wsX2_take := List.mem_of_getElem? (i := 1) rfl
theorem kX2_take_2 : Cond.fieldLink RX2 19 "FeastMarch$Image" "history" "LFeastMarch$History;" ∈ wsX2_take := List.mem_of_getElem? (i := 2) rfl
theorem kX2_take_3 : Cond.fieldLink RX2 30 "FeastMarch$Image" "kept" "Z" ∈ wsX2_take := List.mem_of_getElem? (i := 3) rfl
theorem iX2_take_X2 : ∀ w ∈ wsX20, w ∈ wsX2_take := fun _ h => List.mem_cons_of_mem _ (List.mem_append_left _ (List.mem_append_left _ (List.mem_append_right _ h)))
theorem n_X2_take : yX2_take.cls = RX2 ∧ yX2_take.cls ≠ "java/lang/invoke/MethodHandle" ∧ yX2_take.cls ≠ "java/lang/invoke/VarHandle" ∧ (parseMethodDescriptor yX2_take.desc).map (fun d => d.parameters.length) = some 2 := by decide +kernel
set_option maxHeartbeats 4000000 in
set_option maxRecDepth 100000 in
theorem c_X2_take (l : Launch) (D : va_G) (N : Nat) (cI cB cZ cM cJ cK : ClassId) (a_t a_t_march a_t_history a_t_history_past : Nat) (r_t_history_past : Nat → Nat) (a_p1 a_p2 a_p2_past : Nat) (r_p2_past : Nat → Nat) (t_kept t_march_at t_march_hour t_march_fines t_march_led t_march_taken t_march_shut t_history_size : Int32) (t_history_past : Nat → Nat → Int32) (p1_at p1_hour p1_fines p1_led p1_taken p1_shut p2_size : Int32) (p2_past : Nat → Nat → Int32) : gM l yX2_take wsX2_take rmX2_take D (gT cI cB cZ cM cJ cK) (wX2_take cI cB cZ cM cJ cK  a_t a_t_march a_t_history a_t_history_past r_t_history_past a_p1 a_p2 a_p2_past r_p2_past t_kept t_march_at t_march_hour t_march_fines t_march_led t_march_taken t_march_shut t_history_size t_history_past p1_at p1_hour p1_fines p1_led p1_taken p1_shut p2_size p2_past) [.ref a_t, .ref a_p1, .ref a_p2] (fX2_take N t_kept t_march_at t_march_hour t_march_fines t_march_led t_march_taken t_march_shut t_history_size t_history_past p1_at p1_hour p1_fines p1_led p1_taken p1_shut p2_size p2_past) (fun _u : Int32 × Int32 × Int32 × Int32 × Int32 × Int32 × Int32 × Int32 × (Nat → Nat → Int32) => none) (fun _u : Int32 × Int32 × Int32 × Int32 × Int32 × Int32 × Int32 × Int32 × (Nat → Nat → Int32) => (wX2_take cI cB cZ cM cJ cK  a_t a_t_march a_t_history a_t_history_past r_t_history_past a_p1 a_p2 a_p2_past r_p2_past _u.1 _u.2.1 _u.2.2.1 _u.2.2.2.1 _u.2.2.2.2.1 _u.2.2.2.2.2.1 _u.2.2.2.2.2.2.1 _u.2.2.2.2.2.2.2.1 _u.2.2.2.2.2.2.2.2 p1_at p1_hour p1_fines p1_led p1_taken p1_shut p2_size p2_past)) := by
  refine g_start (cc := cX2_take) (maxL := 3) (ret := none) (by decide) rfl (Nat.le_of_ble_eq_true rfl) ?_
  intro F hf hF p e s m below meth c A ls S hK hA Wd hr hlk hnm hl
  refine lv_aload_n S.1 S.2.1 dX2_take_0 rfl (lv_at hl 0 rfl) ?_
  refine g_get (a := a_t) S hK Wd iX2_take_X2 0 rfl rfl 1 rfl rfl kX2_take_1 rfl dX2_take_1 ?_
  refine lv_aload_n S.1 S.2.1 dX2_take_4 rfl (lv_at hl 1 rfl) ?_
  obtain ⟨u1, hu1, hf⟩ := g_bind hF hf
  refine g_callV (ws' := (wX2_take cI cB cZ cM cJ cK  a_t a_t_march a_t_history a_t_history_past r_t_history_past a_p1 a_p2 a_p2_past r_p2_past t_kept u1.1 u1.2.1 u1.2.2.1 u1.2.2.2.1 u1.2.2.2.2.1 u1.2.2.2.2.2 t_history_size t_history_past p1_at p1_hour p1_fines p1_led p1_taken p1_shut p2_size p2_past)) (As := [.ref a_p1]) (rest := []) (st1 := []) S hK hA Wd (c_X3_become l D N cI cB cZ cM cJ cK a_t_march a_p1 t_march_at t_march_hour t_march_fines t_march_led t_march_taken t_march_shut p1_at p1_hour p1_fines p1_led p1_taken p1_shut) (cwV 1 S.2.2.2.2 gX2_take_X3_become rfl rfl rfl n_X3_become ⟨Nat.le_of_ble_eq_true rfl, Nat.le_of_ble_eq_true rfl⟩) hu1 [1, 5] rfl rfl 0 3 rfl rfl rfl rfl rfl rfl rfl hl.1 rfl (Nat.le_of_ble_eq_true rfl) dX2_take_5 ⟨Nat.zero_le _, Nat.zero_le _⟩ (fun H locs Wd => ?_)
  refine lv_aload_n S.1 S.2.1 dX2_take_8 rfl (lv_at hl 0 rfl) ?_
  refine g_get (a := a_t) S hK Wd iX2_take_X2 0 rfl rfl 2 rfl rfl kX2_take_2 rfl dX2_take_9 ?_
  refine lv_aload_n S.1 S.2.1 dX2_take_12 rfl (lv_at hl 2 rfl) ?_
  obtain ⟨u2, hu2, hf⟩ := g_bind hF hf
  refine g_callV (ws' := (wX2_take cI cB cZ cM cJ cK  a_t a_t_march a_t_history a_t_history_past r_t_history_past a_p1 a_p2 a_p2_past r_p2_past t_kept u1.1 u1.2.1 u1.2.2.1 u1.2.2.2.1 u1.2.2.2.2.1 u1.2.2.2.2.2 u2.1 u2.2 p1_at p1_hour p1_fines p1_led p1_taken p1_shut p2_size p2_past)) (As := [.ref a_p2]) (rest := []) (st1 := []) S hK hA Wd (c_X1_become l D N cI cB cZ cM cJ cK a_t_history a_t_history_past r_t_history_past a_p2 a_p2_past r_p2_past t_history_size t_history_past p2_size p2_past) (cwV 1 S.2.2.2.2 gX2_take_X1_become rfl rfl rfl n_X1_become ⟨Nat.le_of_ble_eq_true rfl, Nat.le_of_ble_eq_true rfl⟩) hu2 [2, 3, 4, 6, 7, 8] rfl rfl 0 1 rfl rfl rfl rfl rfl rfl rfl hl.1 rfl (Nat.le_of_ble_eq_true rfl) dX2_take_13 ⟨Nat.zero_le _, Nat.zero_le _⟩ (fun H locs Wd => ?_)
  refine lv_aload_n S.1 S.2.1 dX2_take_16 rfl (lv_at hl 0 rfl) ?_
  refine lv_iconst (v := 1) S.1 S.2.1 dX2_take_17 (by decide) ?_
  refine g_put (a := a_t) (ws' := (wX2_take cI cB cZ cM cJ cK  a_t a_t_march a_t_history a_t_history_past r_t_history_past a_p1 a_p2 a_p2_past r_p2_past (1 : Int32) u1.1 u1.2.1 u1.2.2.1 u1.2.2.2.1 u1.2.2.2.2.1 u1.2.2.2.2.2 u2.1 u2.2 p1_at p1_hour p1_fines p1_led p1_taken p1_shut p2_size p2_past)) S hK Wd iX2_take_X2 tyX2 tyX2_ok nmX2 0 rfl rfl 0 rfl rfl kX2_take_3 rfl rfl rfl dX2_take_18 rfl (fun H locs Wd => ?_)
  exact g_vret S Wd hr hlk dX2_take_21 ((1 : Int32), u1.1, u1.2.1, u1.2.2.1, u1.2.2.2.1, u1.2.2.2.2.1, u1.2.2.2.2.2, u2.1, u2.2) hf rfl rfl
def wX2_give (cI cB cZ cM cJ cK : ClassId) (a_t a_t_march a_t_history a_t_history_past : Nat) (r_t_history_past : Nat → Nat) (a_p1 a_p2 a_p2_past : Nat) (r_p2_past : Nat → Nat) (t_kept t_march_at t_march_hour t_march_fines t_march_led t_march_taken t_march_shut t_history_size : Int32) (t_history_past : Nat → Nat → Int32) (p1_at p1_hour p1_fines p1_led p1_taken p1_shut p2_size : Int32) (p2_past : Nat → Nat → Int32) : List va_W := [[(a_t, .inr (2, [.int t_kept, .ref a_t_march, .ref a_t_history]))], [(a_t_march, .inr (3, [.int t_march_at, .int t_march_hour, .int t_march_fines, .int t_march_led, .int t_march_taken, .int t_march_shut]))], [(a_t_history, .inr (1, [.ref a_t_history_past, .int t_history_size]))], [(a_t_history_past, .inl (cM, 10, .inr (.inr (.inr (.inr (famR 10 r_t_history_past))))))], foC r_t_history_past t_history_past, [(a_p1, .inr (3, [.int p1_at, .int p1_hour, .int p1_fines, .int p1_led, .int p1_taken, .int p1_shut]))], [(a_p2, .inr (1, [.ref a_p2_past, .int p2_size]))], [(a_p2_past, .inl (cM, 10, .inr (.inr (.inr (.inr (famR 10 r_p2_past))))))], foC r_p2_past p2_past]
def rmX2_give : Room := { frames := 2, cells := 0, slots := 0, locals := 43 }
theorem kX2_give_1 : Cond.fieldLink RX2 10 "FeastMarch$Image" "march" "LFeastMarch$March;" ∈ wsX2_give := List.mem_of_getElem? (i := 1) rfl
theorem kX2_give_2 : Cond.fieldLink RX2 19 "FeastMarch$Image" "history" "LFeastMarch$History;" ∈ wsX2_give := List.mem_of_getElem? (i := 2) rfl
theorem iX2_give_X2 : ∀ w ∈ wsX20, w ∈ wsX2_give := fun _ h => List.mem_cons_of_mem _ (List.mem_append_left _ (List.mem_append_left _ (List.mem_append_right _ h)))
theorem n_X2_give : yX2_give.cls = RX2 ∧ yX2_give.cls ≠ "java/lang/invoke/MethodHandle" ∧ yX2_give.cls ≠ "java/lang/invoke/VarHandle" ∧ (parseMethodDescriptor yX2_give.desc).map (fun d => d.parameters.length) = some 2 := by decide +kernel
set_option maxHeartbeats 4000000 in
set_option maxRecDepth 100000 in
theorem c_X2_give (l : Launch) (D : va_G) (N : Nat) (cI cB cZ cM cJ cK : ClassId) (a_t a_t_march a_t_history a_t_history_past : Nat) (r_t_history_past : Nat → Nat) (a_p1 a_p2 a_p2_past : Nat) (r_p2_past : Nat → Nat) (t_kept t_march_at t_march_hour t_march_fines t_march_led t_march_taken t_march_shut t_history_size : Int32) (t_history_past : Nat → Nat → Int32) (p1_at p1_hour p1_fines p1_led p1_taken p1_shut p2_size : Int32) (p2_past : Nat → Nat → Int32) : gM l yX2_give wsX2_give rmX2_give D (gT cI cB cZ cM cJ cK) (wX2_give cI cB cZ cM cJ cK  a_t a_t_march a_t_history a_t_history_past r_t_history_past a_p1 a_p2 a_p2_past r_p2_past t_kept t_march_at t_march_hour t_march_fines t_march_led t_march_taken t_march_shut t_history_size t_history_past p1_at p1_hour p1_fines p1_led p1_taken p1_shut p2_size p2_past) [.ref a_t, .ref a_p1, .ref a_p2] (fX2_give N t_march_at t_march_hour t_march_fines t_march_led t_march_taken t_march_shut t_history_size t_history_past p1_at p1_hour p1_fines p1_led p1_taken p1_shut p2_size p2_past) (fun _u : Int32 × Int32 × Int32 × Int32 × Int32 × Int32 × Int32 × (Nat → Nat → Int32) => none) (fun _u : Int32 × Int32 × Int32 × Int32 × Int32 × Int32 × Int32 × (Nat → Nat → Int32) => (wX2_give cI cB cZ cM cJ cK  a_t a_t_march a_t_history a_t_history_past r_t_history_past a_p1 a_p2 a_p2_past r_p2_past t_kept t_march_at t_march_hour t_march_fines t_march_led t_march_taken t_march_shut t_history_size t_history_past _u.1 _u.2.1 _u.2.2.1 _u.2.2.2.1 _u.2.2.2.2.1 _u.2.2.2.2.2.1 _u.2.2.2.2.2.2.1 _u.2.2.2.2.2.2.2)) := by
  refine g_start (cc := cX2_give) (maxL := 3) (ret := none) (by decide) rfl (Nat.le_of_ble_eq_true rfl) ?_
  intro F hf hF p e s m below meth c A ls S hK hA Wd hr hlk hnm hl
  refine lv_aload_n S.1 S.2.1 dX2_give_0 rfl (lv_at hl 1 rfl) ?_
  refine lv_aload_n S.1 S.2.1 dX2_give_1 rfl (lv_at hl 0 rfl) ?_
  refine g_get (a := a_t) S hK Wd iX2_give_X2 0 rfl rfl 1 rfl rfl kX2_give_1 rfl dX2_give_2 ?_
  obtain ⟨u1, hu1, hf⟩ := g_bind hF hf
  refine g_callV (ws' := (wX2_give cI cB cZ cM cJ cK  a_t a_t_march a_t_history a_t_history_past r_t_history_past a_p1 a_p2 a_p2_past r_p2_past t_kept t_march_at t_march_hour t_march_fines t_march_led t_march_taken t_march_shut t_history_size t_history_past u1.1 u1.2.1 u1.2.2.1 u1.2.2.2.1 u1.2.2.2.2.1 u1.2.2.2.2.2 p2_size p2_past)) (As := [.ref a_t_march]) (rest := []) (st1 := []) S hK hA Wd (c_X3_become l D N cI cB cZ cM cJ cK a_p1 a_t_march p1_at p1_hour p1_fines p1_led p1_taken p1_shut t_march_at t_march_hour t_march_fines t_march_led t_march_taken t_march_shut) (cwV 1 S.2.2.2.2 gX2_give_X3_become rfl rfl rfl n_X3_become ⟨Nat.le_of_ble_eq_true rfl, Nat.le_of_ble_eq_true rfl⟩) hu1 [5, 1] rfl rfl 0 3 rfl rfl rfl rfl rfl rfl rfl hl.1 rfl (Nat.le_of_ble_eq_true rfl) dX2_give_5 ⟨Nat.zero_le _, Nat.zero_le _⟩ (fun H locs Wd => ?_)
  refine lv_aload_n S.1 S.2.1 dX2_give_8 rfl (lv_at hl 2 rfl) ?_
  refine lv_aload_n S.1 S.2.1 dX2_give_9 rfl (lv_at hl 0 rfl) ?_
  refine g_get (a := a_t) S hK Wd iX2_give_X2 0 rfl rfl 2 rfl rfl kX2_give_2 rfl dX2_give_10 ?_
  obtain ⟨u2, hu2, hf⟩ := g_bind hF hf
  refine g_callV (ws' := (wX2_give cI cB cZ cM cJ cK  a_t a_t_march a_t_history a_t_history_past r_t_history_past a_p1 a_p2 a_p2_past r_p2_past t_kept t_march_at t_march_hour t_march_fines t_march_led t_march_taken t_march_shut t_history_size t_history_past u1.1 u1.2.1 u1.2.2.1 u1.2.2.2.1 u1.2.2.2.2.1 u1.2.2.2.2.2 u2.1 u2.2)) (As := [.ref a_t_history]) (rest := []) (st1 := []) S hK hA Wd (c_X1_become l D N cI cB cZ cM cJ cK a_p2 a_p2_past r_p2_past a_t_history a_t_history_past r_t_history_past p2_size p2_past t_history_size t_history_past) (cwV 1 S.2.2.2.2 gX2_give_X1_become rfl rfl rfl n_X1_become ⟨Nat.le_of_ble_eq_true rfl, Nat.le_of_ble_eq_true rfl⟩) hu2 [6, 7, 8, 2, 3, 4] rfl rfl 0 1 rfl rfl rfl rfl rfl rfl rfl hl.1 rfl (Nat.le_of_ble_eq_true rfl) dX2_give_13 ⟨Nat.zero_le _, Nat.zero_le _⟩ (fun H locs Wd => ?_)
  exact g_vret S Wd hr hlk dX2_give_16 (u1.1, u1.2.1, u1.2.2.1, u1.2.2.2.1, u1.2.2.2.2.1, u1.2.2.2.2.2, u2.1, u2.2) hf rfl rfl
def wX3_begin (cI cB cZ cM cJ cK : ClassId) (a_t : Nat) (t_at t_hour t_fines t_led t_taken t_shut : Int32) : List va_W := [[(a_t, .inr (3, [.int t_at, .int t_hour, .int t_fines, .int t_led, .int t_taken, .int t_shut]))]]
def rmX3_begin : Room := { frames := 0, cells := 0, slots := 0, locals := 0 }
theorem kX3_begin_1 : Cond.fieldLink RX3 9 "FeastMarch$March" "at" "I" ∈ wsX3_begin := List.mem_of_getElem? (i := 1) rfl
theorem kX3_begin_2 : Cond.fieldLink RX3 15 "FeastMarch$March" "hour" "I" ∈ wsX3_begin := List.mem_of_getElem? (i := 2) rfl
theorem kX3_begin_3 : Cond.fieldLink RX3 18 "FeastMarch$March" "fines" "I" ∈ wsX3_begin := List.mem_of_getElem? (i := 3) rfl
theorem kX3_begin_4 : Cond.fieldLink RX3 21 "FeastMarch$March" "led" "I" ∈ wsX3_begin := List.mem_of_getElem? (i := 4) rfl
theorem kX3_begin_5 : Cond.fieldLink RX3 24 "FeastMarch$March" "taken" "I" ∈ wsX3_begin := List.mem_of_getElem? (i := 5) rfl
theorem kX3_begin_6 : Cond.fieldLink RX3 27 "FeastMarch$March" "shut" "I" ∈ wsX3_begin := List.mem_of_getElem? (i := 6) rfl
theorem iX3_begin_X3 : ∀ w ∈ wsX30, w ∈ wsX3_begin := fun _ h => List.mem_cons_of_mem _ (List.mem_append_right _ h)
theorem n_X3_begin : yX3_begin.cls = RX3 ∧ yX3_begin.cls ≠ "java/lang/invoke/MethodHandle" ∧ yX3_begin.cls ≠ "java/lang/invoke/VarHandle" ∧ (parseMethodDescriptor yX3_begin.desc).map (fun d => d.parameters.length) = some 0 := by decide +kernel
set_option maxHeartbeats 4000000 in
set_option maxRecDepth 100000 in
theorem c_X3_begin (l : Launch) (D : va_G) (N : Nat) (cI cB cZ cM cJ cK : ClassId) (a_t : Nat) (t_at t_hour t_fines t_led t_taken t_shut : Int32) : gM l yX3_begin wsX3_begin rmX3_begin D (gT cI cB cZ cM cJ cK) (wX3_begin cI cB cZ cM cJ cK  a_t t_at t_hour t_fines t_led t_taken t_shut) [.ref a_t] (fX3_begin N t_at t_hour t_fines t_led t_taken t_shut) (fun _u : Int32 × Int32 × Int32 × Int32 × Int32 × Int32 => none) (fun _u : Int32 × Int32 × Int32 × Int32 × Int32 × Int32 => (wX3_begin cI cB cZ cM cJ cK  a_t _u.1 _u.2.1 _u.2.2.1 _u.2.2.2.1 _u.2.2.2.2.1 _u.2.2.2.2.2)) := by
  refine g_start (cc := cX3_begin) (maxL := 1) (ret := none) (by decide) rfl (Nat.le_of_ble_eq_true rfl) ?_
  intro F hf hF p e s m below meth c A ls S hK hA Wd hr hlk hnm hl
  refine lv_aload_n S.1 S.2.1 dX3_begin_0 rfl (lv_at hl 0 rfl) ?_
  refine lv_iconst (v := 0) S.1 S.2.1 dX3_begin_1 (by decide) ?_
  refine g_put (a := a_t) (ws' := (wX3_begin cI cB cZ cM cJ cK  a_t (0 : Int32) t_hour t_fines t_led t_taken t_shut)) S hK Wd iX3_begin_X3 tyX3 tyX3_ok nmX3 0 rfl rfl 0 rfl rfl kX3_begin_1 rfl rfl rfl dX3_begin_2 rfl (fun H locs Wd => ?_)
  refine lv_aload_n S.1 S.2.1 dX3_begin_5 rfl (lv_at hl 0 rfl) ?_
  refine lv_iconst (v := 0) S.1 S.2.1 dX3_begin_6 (by decide) ?_
  refine g_put (a := a_t) (ws' := (wX3_begin cI cB cZ cM cJ cK  a_t (0 : Int32) (0 : Int32) t_fines t_led t_taken t_shut)) S hK Wd iX3_begin_X3 tyX3 tyX3_ok nmX3 0 rfl rfl 1 rfl rfl kX3_begin_2 rfl rfl rfl dX3_begin_7 rfl (fun H locs Wd => ?_)
  refine lv_aload_n S.1 S.2.1 dX3_begin_10 rfl (lv_at hl 0 rfl) ?_
  refine lv_iconst (v := 0) S.1 S.2.1 dX3_begin_11 (by decide) ?_
  refine g_put (a := a_t) (ws' := (wX3_begin cI cB cZ cM cJ cK  a_t (0 : Int32) (0 : Int32) (0 : Int32) t_led t_taken t_shut)) S hK Wd iX3_begin_X3 tyX3 tyX3_ok nmX3 0 rfl rfl 2 rfl rfl kX3_begin_3 rfl rfl rfl dX3_begin_12 rfl (fun H locs Wd => ?_)
  refine lv_aload_n S.1 S.2.1 dX3_begin_15 rfl (lv_at hl 0 rfl) ?_
  refine lv_iconst (v := 0) S.1 S.2.1 dX3_begin_16 (by decide) ?_
  refine g_put (a := a_t) (ws' := (wX3_begin cI cB cZ cM cJ cK  a_t (0 : Int32) (0 : Int32) (0 : Int32) (0 : Int32) t_taken t_shut)) S hK Wd iX3_begin_X3 tyX3 tyX3_ok nmX3 0 rfl rfl 3 rfl rfl kX3_begin_4 rfl rfl rfl dX3_begin_17 rfl (fun H locs Wd => ?_)
  refine lv_aload_n S.1 S.2.1 dX3_begin_20 rfl (lv_at hl 0 rfl) ?_
  refine lv_iconst (v := 0) S.1 S.2.1 dX3_begin_21 (by decide) ?_
  refine g_put (a := a_t) (ws' := (wX3_begin cI cB cZ cM cJ cK  a_t (0 : Int32) (0 : Int32) (0 : Int32) (0 : Int32) (0 : Int32) t_shut)) S hK Wd iX3_begin_X3 tyX3 tyX3_ok nmX3 0 rfl rfl 4 rfl rfl kX3_begin_5 rfl rfl rfl dX3_begin_22 rfl (fun H locs Wd => ?_)
  refine lv_aload_n S.1 S.2.1 dX3_begin_25 rfl (lv_at hl 0 rfl) ?_
  refine lv_iconst (v := 0) S.1 S.2.1 dX3_begin_26 (by decide) ?_
  refine g_put (a := a_t) (ws' := (wX3_begin cI cB cZ cM cJ cK  a_t (0 : Int32) (0 : Int32) (0 : Int32) (0 : Int32) (0 : Int32) (0 : Int32))) S hK Wd iX3_begin_X3 tyX3 tyX3_ok nmX3 0 rfl rfl 5 rfl rfl kX3_begin_6 rfl rfl rfl dX3_begin_27 rfl (fun H locs Wd => ?_)
  exact g_vret S Wd hr hlk dX3_begin_30 ((0 : Int32), (0 : Int32), (0 : Int32), (0 : Int32), (0 : Int32), (0 : Int32)) hf rfl rfl
def wX3_hasLed (cI cB cZ cM cJ cK : ClassId) (a_t : Nat) (t_at t_hour t_fines t_led t_taken t_shut : Int32) : List va_W := [[(a_t, .inr (3, [.int t_at, .int t_hour, .int t_fines, .int t_led, .int t_taken, .int t_shut]))]]
def rmX3_hasLed : Room := { frames := 0, cells := 0, slots := 0, locals := 0 }
theorem kX3_hasLed_1 : Cond.fieldLink RX3 21 "FeastMarch$March" "led" "I" ∈ wsX3_hasLed := List.mem_of_getElem? (i := 1) rfl
theorem iX3_hasLed_X3 : ∀ w ∈ wsX30, w ∈ wsX3_hasLed := fun _ h => List.mem_cons_of_mem _ (List.mem_append_right _ h)
theorem n_X3_hasLed : yX3_hasLed.cls = RX3 ∧ yX3_hasLed.cls ≠ "java/lang/invoke/MethodHandle" ∧ yX3_hasLed.cls ≠ "java/lang/invoke/VarHandle" ∧ (parseMethodDescriptor yX3_hasLed.desc).map (fun d => d.parameters.length) = some 1 := by decide +kernel
set_option maxHeartbeats 4000000 in
set_option maxRecDepth 100000 in
theorem c_X3_hasLed (l : Launch) (D : va_G) (N : Nat) (cI cB cZ cM cJ cK : ClassId) (a_t : Nat) (t_at t_hour t_fines t_led t_taken t_shut x1 : Int32) : gM l yX3_hasLed wsX3_hasLed rmX3_hasLed D (gT cI cB cZ cM cJ cK) (wX3_hasLed cI cB cZ cM cJ cK  a_t t_at t_hour t_fines t_led t_taken t_shut) [.ref a_t, .int x1] (fX3_hasLed N t_led x1) (fun _u : Int32 => some (.int _u)) (fun _u : Int32 => (wX3_hasLed cI cB cZ cM cJ cK  a_t t_at t_hour t_fines t_led t_taken t_shut)) := by
  refine g_start (cc := cX3_hasLed) (maxL := 2) (ret := (some .boolean)) (by decide) rfl (Nat.le_of_ble_eq_true rfl) ?_
  intro F hf hF p e s m below meth c A ls S hK hA Wd hr hlk hnm hl
  refine lv_aload_n S.1 S.2.1 dX3_hasLed_0 rfl (lv_at hl 0 rfl) ?_
  refine g_get (a := a_t) S hK Wd iX3_hasLed_X3 0 rfl rfl 3 rfl rfl kX3_hasLed_1 rfl dX3_hasLed_1 ?_
  refine lv_iload_n S.1 S.2.1 dX3_hasLed_4 rfl (lv_at hl 1 rfl) ?_
  refine lv_ishr S.1 S.2.1 dX3_hasLed_5 ?_
  refine lv_iconst (v := 1) S.1 S.2.1 dX3_hasLed_6 (by decide) ?_
  refine lv_iand S.1 S.2.1 dX3_hasLed_7 ?_
  refine lv_iconst (v := 1) S.1 S.2.1 dX3_hasLed_8 (by decide) ?_
  refine lv_icmp_ne (tgt := 16) S.1 S.2.1 dX3_hasLed_9 rfl (fun c1 => ?_) (fun c1 => ?_)
  · have hf := g_ifn hf c1
    refine lv_iconst (v := 0) S.1 S.2.1 dX3_hasLed_16 (by decide) ?_
    exact g_zret S Wd hr hlk rfl dX3_hasLed_17 (0 : Int32) hf rfl rfl
  · have hf := g_if hf c1
    refine lv_iconst (v := 1) S.1 S.2.1 dX3_hasLed_12 (by decide) ?_
    refine lv_goto (tgt := 17) S.1 S.2.1 dX3_hasLed_13 rfl ?_
    exact g_zret S Wd hr hlk rfl dX3_hasLed_17 (1 : Int32) hf rfl rfl
def wX3_waysTaken (cI cB cZ cM cJ cK : ClassId) (a_t : Nat) (t_at t_hour t_fines t_led t_taken t_shut : Int32) : List va_W := [[(a_t, .inr (3, [.int t_at, .int t_hour, .int t_fines, .int t_led, .int t_taken, .int t_shut]))]]
def rmX3_waysTaken : Room := { frames := 0, cells := 0, slots := 0, locals := 0 }
theorem kX3_waysTaken_1 : Cond.fieldLink RX3 24 "FeastMarch$March" "taken" "I" ∈ wsX3_waysTaken := List.mem_of_getElem? (i := 1) rfl
theorem iX3_waysTaken_X3 : ∀ w ∈ wsX30, w ∈ wsX3_waysTaken := fun _ h => List.mem_cons_of_mem _ (List.mem_append_right _ h)
theorem n_X3_waysTaken : yX3_waysTaken.cls = RX3 ∧ yX3_waysTaken.cls ≠ "java/lang/invoke/MethodHandle" ∧ yX3_waysTaken.cls ≠ "java/lang/invoke/VarHandle" ∧ (parseMethodDescriptor yX3_waysTaken.desc).map (fun d => d.parameters.length) = some 1 := by decide +kernel
set_option maxHeartbeats 4000000 in
set_option maxRecDepth 100000 in
theorem c_X3_waysTaken (l : Launch) (D : va_G) (N : Nat) (cI cB cZ cM cJ cK : ClassId) (a_t : Nat) (t_at t_hour t_fines t_led t_taken t_shut x1 : Int32) : gM l yX3_waysTaken wsX3_waysTaken rmX3_waysTaken D (gT cI cB cZ cM cJ cK) (wX3_waysTaken cI cB cZ cM cJ cK  a_t t_at t_hour t_fines t_led t_taken t_shut) [.ref a_t, .int x1] (fX3_waysTaken N t_taken x1) (fun _u : Int32 => some (.int _u)) (fun _u : Int32 => (wX3_waysTaken cI cB cZ cM cJ cK  a_t t_at t_hour t_fines t_led t_taken t_shut)) := by
  refine g_start (cc := cX3_waysTaken) (maxL := 2) (ret := (some .int)) (by decide) rfl (Nat.le_of_ble_eq_true rfl) ?_
  intro F hf hF p e s m below meth c A ls S hK hA Wd hr hlk hnm hl
  refine lv_aload_n S.1 S.2.1 dX3_waysTaken_0 rfl (lv_at hl 0 rfl) ?_
  refine g_get (a := a_t) S hK Wd iX3_waysTaken_X3 0 rfl rfl 4 rfl rfl kX3_waysTaken_1 rfl dX3_waysTaken_1 ?_
  refine lv_iload_n S.1 S.2.1 dX3_waysTaken_4 rfl (lv_at hl 1 rfl) ?_
  refine lv_ishr S.1 S.2.1 dX3_waysTaken_5 ?_
  refine lv_iconst (v := 1) S.1 S.2.1 dX3_waysTaken_6 (by decide) ?_
  refine lv_iand S.1 S.2.1 dX3_waysTaken_7 ?_
  refine lv_aload_n S.1 S.2.1 dX3_waysTaken_8 rfl (lv_at hl 0 rfl) ?_
  refine g_get (a := a_t) S hK Wd iX3_waysTaken_X3 0 rfl rfl 4 rfl rfl kX3_waysTaken_1 rfl dX3_waysTaken_9 ?_
  refine lv_iload_n S.1 S.2.1 dX3_waysTaken_12 rfl (lv_at hl 1 rfl) ?_
  refine lv_bipush (v := 12) S.1 S.2.1 dX3_waysTaken_13 (by decide) ?_
  refine lv_iadd S.1 S.2.1 dX3_waysTaken_15 ?_
  refine lv_ishr S.1 S.2.1 dX3_waysTaken_16 ?_
  refine lv_iconst (v := 1) S.1 S.2.1 dX3_waysTaken_17 (by decide) ?_
  refine lv_iand S.1 S.2.1 dX3_waysTaken_18 ?_
  refine lv_iconst (v := 1) S.1 S.2.1 dX3_waysTaken_19 (by decide) ?_
  refine lv_ishl S.1 S.2.1 dX3_waysTaken_20 ?_
  refine lv_ior S.1 S.2.1 dX3_waysTaken_21 ?_
  exact g_iret S Wd hr hlk dX3_waysTaken_22 (((t_taken >>> (x1 &&& 31)) &&& (1 : Int32)) ||| (((t_taken >>> ((x1 + (12 : Int32)) &&& 31)) &&& (1 : Int32)) <<< ((1 : Int32) &&& 31))) hf rfl rfl
def wX3_walked (cI cB cZ cM cJ cK : ClassId) (a_t : Nat) (t_at t_hour t_fines t_led t_taken t_shut : Int32) : List va_W := [[(a_t, .inr (3, [.int t_at, .int t_hour, .int t_fines, .int t_led, .int t_taken, .int t_shut]))]]
def rmX3_walked : Room := { frames := 0, cells := 0, slots := 0, locals := 0 }
theorem kX3_walked_1 : Cond.fieldLink RX3 24 "FeastMarch$March" "taken" "I" ∈ wsX3_walked := List.mem_of_getElem? (i := 1) rfl
theorem iX3_walked_X3 : ∀ w ∈ wsX30, w ∈ wsX3_walked := fun _ h => List.mem_cons_of_mem _ (List.mem_append_right _ h)
theorem n_X3_walked : yX3_walked.cls = RX3 ∧ yX3_walked.cls ≠ "java/lang/invoke/MethodHandle" ∧ yX3_walked.cls ≠ "java/lang/invoke/VarHandle" ∧ (parseMethodDescriptor yX3_walked.desc).map (fun d => d.parameters.length) = some 0 := by decide +kernel
set_option maxHeartbeats 4000000 in
set_option maxRecDepth 100000 in
theorem c_X3_walked (l : Launch) (D : va_G) (N : Nat) (cI cB cZ cM cJ cK : ClassId) (a_t : Nat) (t_at t_hour t_fines t_led t_taken t_shut : Int32) : gM l yX3_walked wsX3_walked rmX3_walked D (gT cI cB cZ cM cJ cK) (wX3_walked cI cB cZ cM cJ cK  a_t t_at t_hour t_fines t_led t_taken t_shut) [.ref a_t] (fX3_walked N t_taken) (fun _u : Int32 => some (.int _u)) (fun _u : Int32 => (wX3_walked cI cB cZ cM cJ cK  a_t t_at t_hour t_fines t_led t_taken t_shut)) := by
  refine g_start (cc := cX3_walked) (maxL := 1) (ret := (some .int)) (by decide) rfl (Nat.le_of_ble_eq_true rfl) ?_
  intro F hf hF p e s m below meth c A ls S hK hA Wd hr hlk hnm hl
  refine lv_aload_n S.1 S.2.1 dX3_walked_0 rfl (lv_at hl 0 rfl) ?_
  refine g_get (a := a_t) S hK Wd iX3_walked_X3 0 rfl rfl 4 rfl rfl kX3_walked_1 rfl dX3_walked_1 ?_
  refine lv_aload_n S.1 S.2.1 dX3_walked_4 rfl (lv_at hl 0 rfl) ?_
  refine g_get (a := a_t) S hK Wd iX3_walked_X3 0 rfl rfl 4 rfl rfl kX3_walked_1 rfl dX3_walked_5 ?_
  refine lv_bipush (v := 12) S.1 S.2.1 dX3_walked_8 (by decide) ?_
  refine lv_ishr S.1 S.2.1 dX3_walked_10 ?_
  refine lv_ior S.1 S.2.1 dX3_walked_11 ?_
  refine lv_sipush (v := 4095) S.1 S.2.1 dX3_walked_12 (by decide) ?_
  refine lv_iand S.1 S.2.1 dX3_walked_15 ?_
  exact g_iret S Wd hr hlk dX3_walked_16 ((t_taken ||| (t_taken >>> ((12 : Int32) &&& 31))) &&& (4095 : Int32)) hf rfl rfl
def wX3_goBy (cI cB cZ cM cJ cK : ClassId) (a_t a_p1 a_p1_first a_p1_second a_p1_hours a_p1_home a_p1_feet a_p1_far : Nat) (r_p1_far : Nat → Nat) (t_at t_hour t_fines t_led t_taken t_shut p1_corners p1_streets p1_leaders : Int32) (p1_first p1_second p1_hours p1_home p1_feet : Nat → Int32) (p1_far : Nat → Nat → Int32) : List va_W := [[(a_t, .inr (3, [.int t_at, .int t_hour, .int t_fines, .int t_led, .int t_taken, .int t_shut]))], [(a_p1, .inr (0, [.int p1_corners, .int p1_streets, .int p1_leaders, .ref a_p1_first, .ref a_p1_second, .ref a_p1_hours, .ref a_p1_home, .ref a_p1_feet, .ref a_p1_far]))], [(a_p1_first, .inl (cI, 12, .inl p1_first))], [(a_p1_second, .inl (cI, 12, .inl p1_second))], [(a_p1_hours, .inl (cI, 12, .inl p1_hours))], [(a_p1_home, .inl (cI, 6, .inl p1_home))], [(a_p1_feet, .inl (cI, 6, .inl p1_feet))], [(a_p1_far, .inl (cK, 8, .inr (.inr (.inr (.inr (famR 8 r_p1_far))))))], faC cI r_p1_far p1_far]
def rmX3_goBy : Room := { frames := 2, cells := 0, slots := 0, locals := 51 }
theorem kX3_goBy_1 : Cond.fieldLink RX3 36 "FeastMarch$City" "home" "[I" ∈ wsX3_goBy := List.mem_of_getElem? (i := 1) rfl
theorem kX3_goBy_2 : Cond.fieldLink RX3 40 "FeastMarch$City" "feet" "[I" ∈ wsX3_goBy := List.mem_of_getElem? (i := 2) rfl
theorem kX3_goBy_3 : Cond.fieldLink RX3 21 "FeastMarch$March" "led" "I" ∈ wsX3_goBy := List.mem_of_getElem? (i := 3) rfl
theorem kX3_goBy_4 : Cond.fieldLink RX3 9 "FeastMarch$March" "at" "I" ∈ wsX3_goBy := List.mem_of_getElem? (i := 4) rfl
theorem kX3_goBy_5 : Cond.fieldLink RX3 24 "FeastMarch$March" "taken" "I" ∈ wsX3_goBy := List.mem_of_getElem? (i := 5) rfl
theorem kX3_goBy_6 : Cond.fieldLink RX3 27 "FeastMarch$March" "shut" "I" ∈ wsX3_goBy := List.mem_of_getElem? (i := 6) rfl
theorem kX3_goBy_7 : Cond.fieldLink RX3 18 "FeastMarch$March" "fines" "I" ∈ wsX3_goBy := List.mem_of_getElem? (i := 7) rfl
theorem kX3_goBy_8 : Cond.fieldLink RX3 15 "FeastMarch$March" "hour" "I" ∈ wsX3_goBy := List.mem_of_getElem? (i := 8) rfl
theorem iX3_goBy_X0 : ∀ w ∈ wsX00, w ∈ wsX3_goBy := fun _ h => List.mem_cons_of_mem _ (List.mem_append_left _ (List.mem_append_right _ h))
theorem iX3_goBy_X3 : ∀ w ∈ wsX30, w ∈ wsX3_goBy := fun _ h => List.mem_cons_of_mem _ (List.mem_append_right _ h)
theorem n_X3_goBy : yX3_goBy.cls = RX3 ∧ yX3_goBy.cls ≠ "java/lang/invoke/MethodHandle" ∧ yX3_goBy.cls ≠ "java/lang/invoke/VarHandle" ∧ (parseMethodDescriptor yX3_goBy.desc).map (fun d => d.parameters.length) = some 2 := by decide +kernel
set_option maxHeartbeats 4000000 in
set_option maxRecDepth 100000 in
theorem c_X3_goBy (l : Launch) (D : va_G) (N : Nat) (cI cB cZ cM cJ cK : ClassId) (a_t a_p1 a_p1_first a_p1_second a_p1_hours a_p1_home a_p1_feet a_p1_far : Nat) (r_p1_far : Nat → Nat) (t_at t_hour t_fines t_led t_taken t_shut p1_corners p1_streets p1_leaders : Int32) (p1_first p1_second p1_hours p1_home p1_feet : Nat → Int32) (p1_far : Nat → Nat → Int32) (x2 : Int32) : gM l yX3_goBy wsX3_goBy rmX3_goBy D (gT cI cB cZ cM cJ cK) (wX3_goBy cI cB cZ cM cJ cK  a_t a_p1 a_p1_first a_p1_second a_p1_hours a_p1_home a_p1_feet a_p1_far r_p1_far t_at t_hour t_fines t_led t_taken t_shut p1_corners p1_streets p1_leaders p1_first p1_second p1_hours p1_home p1_feet p1_far) [.ref a_t, .ref a_p1, .int x2] (fX3_goBy N t_at t_hour t_fines t_led t_taken t_shut p1_streets p1_leaders p1_first p1_second p1_hours p1_home p1_feet p1_far x2) (fun _u : Int32 × Int32 × Int32 × Int32 × Int32 × Int32 => some (.int _u.1)) (fun _u : Int32 × Int32 × Int32 × Int32 × Int32 × Int32 => (wX3_goBy cI cB cZ cM cJ cK  a_t a_p1 a_p1_first a_p1_second a_p1_hours a_p1_home a_p1_feet a_p1_far r_p1_far _u.2.1 _u.2.2.1 _u.2.2.2.1 _u.2.2.2.2.1 _u.2.2.2.2.2 t_shut p1_corners p1_streets p1_leaders p1_first p1_second p1_hours p1_home p1_feet p1_far)) := by
  refine g_start (cc := cX3_goBy) (maxL := 8) (ret := (some .boolean)) (by decide) rfl (Nat.le_of_ble_eq_true rfl) ?_
  intro F hf hF p e s m below meth c A ls S hK hA Wd hr hlk hnm hl
  have b63 : ∀ (K43 : Int32 → Int32 → Int32 → Int32 → Int32 → Int32 → Int32 → Int32 → Int32 → Option (Int32 × Int32 × Int32 × Int32 × Int32 × Int32)) (hK43 : ∀ (t_at t_hour t_fines t_led t_taken x3 x4 x5 x6 : Int32) (H1 : Heap) (locs1 : List Loc) (ls1 : Array Slot), gw D A s.heap (wX3_goBy cI cB cZ cM cJ cK  a_t a_p1 a_p1_first a_p1_second a_p1_hours a_p1_home a_p1_feet a_p1_far r_p1_far t_at t_hour t_fines t_led t_taken t_shut p1_corners p1_streets p1_leaders p1_first p1_second p1_hours p1_home p1_feet p1_far) H1 locs1 → lv_has ls1 8 [(0, .ref a_t), (1, .ref a_p1), (3, .int x3), (4, .int x4), (5, .int x5), (6, .int x6)] → F = K43 t_at t_hour t_fines t_led t_taken x3 x4 x5 x6 → W p l e rmX3_goBy s m [.ref a_t, .ref a_p1, .int x2].toArray below meth c H1 locs1 0 0 (MQ below (gQ F (fun _u : Int32 × Int32 × Int32 × Int32 × Int32 × Int32 => some (.int _u.1)) (fun _u : Int32 × Int32 × Int32 × Int32 × Int32 × Int32 => (wX3_goBy cI cB cZ cM cJ cK  a_t a_p1 a_p1_first a_p1_second a_p1_hours a_p1_home a_p1_feet a_p1_far r_p1_far _u.2.1 _u.2.2.1 _u.2.2.2.1 _u.2.2.2.2.1 _u.2.2.2.2.2 t_shut p1_corners p1_streets p1_leaders p1_first p1_second p1_hours p1_home p1_feet p1_far)) D A) [.ref a_t, .ref a_p1, .int x2].toArray s 0 0 A) (F0 m 43 ls1 [])) , ∀ (t_at t_hour t_fines t_led t_taken x3 x4 x5 x6 : Int32) (H1 : Heap) (locs1 : List Loc) (ls1 : Array Slot), gw D A s.heap (wX3_goBy cI cB cZ cM cJ cK  a_t a_p1 a_p1_first a_p1_second a_p1_hours a_p1_home a_p1_feet a_p1_far r_p1_far t_at t_hour t_fines t_led t_taken t_shut p1_corners p1_streets p1_leaders p1_first p1_second p1_hours p1_home p1_feet p1_far) H1 locs1 → lv_has ls1 8 [(0, .ref a_t), (1, .ref a_p1), (3, .int x3), (4, .int x4), (5, .int x5), (6, .int x6)] → F = fX3_goBy_b63 N t_shut p1_streets p1_leaders p1_first p1_second p1_hours p1_home p1_feet p1_far x2 K43 t_at t_hour t_fines t_led t_taken x3 x4 x5 x6 → W p l e rmX3_goBy s m [.ref a_t, .ref a_p1, .int x2].toArray below meth c H1 locs1 0 0 (MQ below (gQ F (fun _u : Int32 × Int32 × Int32 × Int32 × Int32 × Int32 => some (.int _u.1)) (fun _u : Int32 × Int32 × Int32 × Int32 × Int32 × Int32 => (wX3_goBy cI cB cZ cM cJ cK  a_t a_p1 a_p1_first a_p1_second a_p1_hours a_p1_home a_p1_feet a_p1_far r_p1_far _u.2.1 _u.2.2.1 _u.2.2.2.1 _u.2.2.2.2.1 _u.2.2.2.2.2 t_shut p1_corners p1_streets p1_leaders p1_first p1_second p1_hours p1_home p1_feet p1_far)) D A) [.ref a_t, .ref a_p1, .int x2].toArray s 0 0 A) (F0 m 63 ls1 []) := by
    intro K43 hK43 t_at t_hour t_fines t_led t_taken x3 x4 x5 x6 H locs ls Wd hl hf
    refine lv_aload_n S.1 S.2.1 dX3_goBy_63 rfl (lv_at hl 1 rfl) ?_
    refine lv_aload_n S.1 S.2.1 dX3_goBy_64 rfl (lv_at hl 0 rfl) ?_
    refine g_get (a := a_t) S hK Wd iX3_goBy_X3 0 rfl rfl 0 rfl rfl kX3_goBy_4 rfl dX3_goBy_65 ?_
    refine lv_iload_n S.1 S.2.1 dX3_goBy_68 rfl (lv_at hl 2 rfl) ?_
    refine lv_aload_n S.1 S.2.1 dX3_goBy_69 rfl (lv_at hl 0 rfl) ?_
    refine g_get (a := a_t) S hK Wd iX3_goBy_X3 0 rfl rfl 4 rfl rfl kX3_goBy_5 rfl dX3_goBy_70 ?_
    refine lv_aload_n S.1 S.2.1 dX3_goBy_73 rfl (lv_at hl 0 rfl) ?_
    refine g_get (a := a_t) S hK Wd iX3_goBy_X3 0 rfl rfl 5 rfl rfl kX3_goBy_6 rfl dX3_goBy_74 ?_
    refine lv_ior S.1 S.2.1 dX3_goBy_77 ?_
    refine lv_aload_n S.1 S.2.1 dX3_goBy_78 rfl (lv_at hl 0 rfl) ?_
    refine g_get (a := a_t) S hK Wd iX3_goBy_X3 0 rfl rfl 5 rfl rfl kX3_goBy_6 rfl dX3_goBy_79 ?_
    refine lv_bipush (v := 12) S.1 S.2.1 dX3_goBy_82 (by decide) ?_
    refine lv_ishl S.1 S.2.1 dX3_goBy_84 ?_
    refine lv_ior S.1 S.2.1 dX3_goBy_85 ?_
    obtain ⟨u10, hu10, hf⟩ := g_bind hF hf
    refine g_callV (ws' := (wX3_goBy cI cB cZ cM cJ cK  a_t a_p1 a_p1_first a_p1_second a_p1_hours a_p1_home a_p1_feet a_p1_far r_p1_far t_at t_hour t_fines t_led t_taken t_shut p1_corners p1_streets p1_leaders p1_first p1_second p1_hours p1_home p1_feet p1_far)) (As := [.int t_at, .int x3, .int ((t_taken ||| t_shut) ||| (t_shut <<< ((12 : Int32) &&& 31)))]) (rest := []) (st1 := [.int u10]) S hK hA Wd (c_X0_wantedWay l D N cI cB cZ cM cJ cK a_p1 a_p1_first a_p1_second a_p1_hours a_p1_home a_p1_feet a_p1_far r_p1_far p1_corners p1_streets p1_leaders p1_first p1_second p1_hours p1_far t_at x3 ((t_taken ||| t_shut) ||| (t_shut <<< ((12 : Int32) &&& 31)))) (cwV 3 S.2.2.2.2 gX3_goBy_X0_wantedWay rfl rfl rfl n_X0_wantedWay ⟨Nat.le_of_ble_eq_true rfl, Nat.le_of_ble_eq_true rfl⟩) hu10 [1, 2, 3, 4, 7, 8] rfl rfl 0 0 rfl rfl rfl rfl rfl rfl rfl hl.1 rfl (Nat.le_of_ble_eq_true rfl) dX3_goBy_86 ⟨Nat.zero_le _, Nat.zero_le _⟩ (fun H locs Wd => ?_)
    refine lv_istore (lv' := [(7, .int u10), (0, .ref a_t), (1, .ref a_p1), (3, .int x3), (4, .int x4), (5, .int x5), (6, .int x6)]) S.1 S.2.1 dX3_goBy_89 hl (by decide) rfl (fun ls hl => ?_)
    refine lv_iload S.1 S.2.1 dX3_goBy_91 (lv_at hl 0 rfl) ?_
    refine lv_bipush (v := (-9)) S.1 S.2.1 dX3_goBy_93 (by decide) ?_
    refine lv_icmp_ne (tgt := 114) S.1 S.2.1 dX3_goBy_95 rfl (fun c11 => ?_) (fun c11 => ?_)
    · have hf := g_ifn hf c11
      refine lv_aload_n S.1 S.2.1 dX3_goBy_114 rfl (lv_at hl 1 rfl) ?_
      refine lv_dup S.1 S.2.1 dX3_goBy_115 rfl ?_
      refine g_get (a := a_t) S hK Wd iX3_goBy_X3 0 rfl rfl 4 rfl rfl kX3_goBy_5 rfl dX3_goBy_116 ?_
      refine lv_iconst (v := 1) S.1 S.2.1 dX3_goBy_119 (by decide) ?_
      refine lv_iload S.1 S.2.1 dX3_goBy_120 (lv_at hl 0 rfl) ?_
      refine lv_ishl S.1 S.2.1 dX3_goBy_122 ?_
      refine lv_ior S.1 S.2.1 dX3_goBy_123 ?_
      refine g_put (a := a_t) (ws' := (wX3_goBy cI cB cZ cM cJ cK  a_t a_p1 a_p1_first a_p1_second a_p1_hours a_p1_home a_p1_feet a_p1_far r_p1_far t_at t_hour t_fines t_led (t_taken ||| ((1 : Int32) <<< (u10 &&& 31))) t_shut p1_corners p1_streets p1_leaders p1_first p1_second p1_hours p1_home p1_feet p1_far)) S hK Wd iX3_goBy_X3 tyX3 tyX3_ok nmX3 0 rfl rfl 4 rfl rfl kX3_goBy_5 rfl rfl rfl dX3_goBy_124 rfl (fun H locs Wd => ?_)
      refine lv_aload_n S.1 S.2.1 dX3_goBy_127 rfl (lv_at hl 1 rfl) ?_
      refine lv_dup S.1 S.2.1 dX3_goBy_128 rfl ?_
      refine g_get (a := a_t) S hK Wd iX3_goBy_X3 0 rfl rfl 1 rfl rfl kX3_goBy_8 rfl dX3_goBy_129 ?_
      refine lv_aload_n S.1 S.2.1 dX3_goBy_132 rfl (lv_at hl 2 rfl) ?_
      refine lv_iload S.1 S.2.1 dX3_goBy_133 (lv_at hl 0 rfl) ?_
      obtain ⟨u12, hu12, hf⟩ := g_bind hF hf
      refine g_callV (ws' := (wX3_goBy cI cB cZ cM cJ cK  a_t a_p1 a_p1_first a_p1_second a_p1_hours a_p1_home a_p1_feet a_p1_far r_p1_far t_at t_hour t_fines t_led (t_taken ||| ((1 : Int32) <<< (u10 &&& 31))) t_shut p1_corners p1_streets p1_leaders p1_first p1_second p1_hours p1_home p1_feet p1_far)) (As := [.int u10]) (rest := [.int t_hour, .ref a_t]) (st1 := [.int u12, .int t_hour, .ref a_t]) S hK hA Wd (c_X0_hoursOf l D N cI cB cZ cM cJ cK a_p1 a_p1_first a_p1_second a_p1_hours a_p1_home a_p1_feet a_p1_far p1_corners p1_streets p1_leaders p1_hours u10) (cwV 1 S.2.2.2.2 gX3_goBy_X0_hoursOf rfl rfl rfl n_X0_hoursOf ⟨Nat.le_of_ble_eq_true rfl, Nat.le_of_ble_eq_true rfl⟩) hu12 [1, 4] rfl rfl 0 0 rfl rfl rfl rfl rfl rfl rfl hl.1 rfl (Nat.le_of_ble_eq_true rfl) dX3_goBy_135 ⟨Nat.zero_le _, Nat.zero_le _⟩ (fun H locs Wd => ?_)
      refine lv_iadd S.1 S.2.1 dX3_goBy_138 ?_
      refine g_put (a := a_t) (ws' := (wX3_goBy cI cB cZ cM cJ cK  a_t a_p1 a_p1_first a_p1_second a_p1_hours a_p1_home a_p1_feet a_p1_far r_p1_far t_at (t_hour + u12) t_fines t_led (t_taken ||| ((1 : Int32) <<< (u10 &&& 31))) t_shut p1_corners p1_streets p1_leaders p1_first p1_second p1_hours p1_home p1_feet p1_far)) S hK Wd iX3_goBy_X3 tyX3 tyX3_ok nmX3 0 rfl rfl 1 rfl rfl kX3_goBy_8 rfl rfl rfl dX3_goBy_139 rfl (fun H locs Wd => ?_)
      refine lv_aload_n S.1 S.2.1 dX3_goBy_142 rfl (lv_at hl 1 rfl) ?_
      refine lv_aload_n S.1 S.2.1 dX3_goBy_143 rfl (lv_at hl 2 rfl) ?_
      refine lv_iload S.1 S.2.1 dX3_goBy_144 (lv_at hl 0 rfl) ?_
      obtain ⟨u13, hu13, hf⟩ := g_bind hF hf
      refine g_callV (ws' := (wX3_goBy cI cB cZ cM cJ cK  a_t a_p1 a_p1_first a_p1_second a_p1_hours a_p1_home a_p1_feet a_p1_far r_p1_far t_at (t_hour + u12) t_fines t_led (t_taken ||| ((1 : Int32) <<< (u10 &&& 31))) t_shut p1_corners p1_streets p1_leaders p1_first p1_second p1_hours p1_home p1_feet p1_far)) (As := [.int u10]) (rest := [.ref a_t]) (st1 := [.int u13, .ref a_t]) S hK hA Wd (c_X0_otherEnd l D N cI cB cZ cM cJ cK a_p1 a_p1_first a_p1_second a_p1_hours a_p1_home a_p1_feet a_p1_far p1_corners p1_streets p1_leaders p1_first p1_second u10) (cwV 1 S.2.2.2.2 gX3_goBy_X0_otherEnd rfl rfl rfl n_X0_otherEnd ⟨Nat.le_of_ble_eq_true rfl, Nat.le_of_ble_eq_true rfl⟩) hu13 [1, 2, 3] rfl rfl 0 0 rfl rfl rfl rfl rfl rfl rfl hl.1 rfl (Nat.le_of_ble_eq_true rfl) dX3_goBy_146 ⟨Nat.zero_le _, Nat.zero_le _⟩ (fun H locs Wd => ?_)
      refine g_put (a := a_t) (ws' := (wX3_goBy cI cB cZ cM cJ cK  a_t a_p1 a_p1_first a_p1_second a_p1_hours a_p1_home a_p1_feet a_p1_far r_p1_far u13 (t_hour + u12) t_fines t_led (t_taken ||| ((1 : Int32) <<< (u10 &&& 31))) t_shut p1_corners p1_streets p1_leaders p1_first p1_second p1_hours p1_home p1_feet p1_far)) S hK Wd iX3_goBy_X3 tyX3 tyX3_ok nmX3 0 rfl rfl 0 rfl rfl kX3_goBy_4 rfl rfl rfl dX3_goBy_149 rfl (fun H locs Wd => ?_)
      refine lv_iinc (v := (x6 + (1 : Int32))) (lv' := [(6, .int (x6 + (1 : Int32))), (7, .int u10), (0, .ref a_t), (1, .ref a_p1), (3, .int x3), (4, .int x4), (5, .int x5)]) S.1 S.2.1 dX3_goBy_152 hl (k := 6) rfl rfl (by decide) rfl (fun ls hl => ?_)
      refine lv_goto (tgt := 43) S.1 S.2.1 dX3_goBy_155 rfl ?_
      exact hK43 u13 (t_hour + u12) t_fines t_led (t_taken ||| ((1 : Int32) <<< (u10 &&& 31))) x3 x4 x5 (x6 + (1 : Int32)) _ _ _ Wd (lv_sub hl [2, 3, 4, 5, 6, 0] rfl) hf
    · have hf := g_if hf c11
      refine lv_aload_n S.1 S.2.1 dX3_goBy_98 rfl (lv_at hl 1 rfl) ?_
      refine lv_dup S.1 S.2.1 dX3_goBy_99 rfl ?_
      refine g_get (a := a_t) S hK Wd iX3_goBy_X3 0 rfl rfl 2 rfl rfl kX3_goBy_7 rfl dX3_goBy_100 ?_
      refine lv_iconst (v := 1) S.1 S.2.1 dX3_goBy_103 (by decide) ?_
      refine lv_iadd S.1 S.2.1 dX3_goBy_104 ?_
      refine g_put (a := a_t) (ws' := (wX3_goBy cI cB cZ cM cJ cK  a_t a_p1 a_p1_first a_p1_second a_p1_hours a_p1_home a_p1_feet a_p1_far r_p1_far t_at t_hour (t_fines + (1 : Int32)) t_led t_taken t_shut p1_corners p1_streets p1_leaders p1_first p1_second p1_hours p1_home p1_feet p1_far)) S hK Wd iX3_goBy_X3 tyX3 tyX3_ok nmX3 0 rfl rfl 2 rfl rfl kX3_goBy_7 rfl rfl rfl dX3_goBy_105 rfl (fun H locs Wd => ?_)
      refine lv_iconst (v := 1) S.1 S.2.1 dX3_goBy_108 (by decide) ?_
      refine lv_istore (lv' := [(5, .int (1 : Int32)), (7, .int u10), (0, .ref a_t), (1, .ref a_p1), (3, .int x3), (4, .int x4), (6, .int x6)]) S.1 S.2.1 dX3_goBy_109 hl (by decide) rfl (fun ls hl => ?_)
      refine lv_goto (tgt := 158) S.1 S.2.1 dX3_goBy_111 rfl ?_
      refine lv_iload S.1 S.2.1 dX3_goBy_158 (lv_at hl 0 rfl) ?_
      exact g_zret S Wd hr hlk rfl dX3_goBy_160 ((1 : Int32), t_at, t_hour, (t_fines + (1 : Int32)), t_led, t_taken) hf rfl rfl
  have b43 : ∀ (n : Nat), ∀ (t_at t_hour t_fines t_led t_taken x3 x4 x5 x6 : Int32) (H1 : Heap) (locs1 : List Loc) (ls1 : Array Slot), gw D A s.heap (wX3_goBy cI cB cZ cM cJ cK  a_t a_p1 a_p1_first a_p1_second a_p1_hours a_p1_home a_p1_feet a_p1_far r_p1_far t_at t_hour t_fines t_led t_taken t_shut p1_corners p1_streets p1_leaders p1_first p1_second p1_hours p1_home p1_feet p1_far) H1 locs1 → lv_has ls1 8 [(0, .ref a_t), (1, .ref a_p1), (3, .int x3), (4, .int x4), (5, .int x5), (6, .int x6)] → F = fX3_goBy_b43 N t_shut p1_streets p1_leaders p1_first p1_second p1_hours p1_home p1_feet p1_far x2  n t_at t_hour t_fines t_led t_taken x3 x4 x5 x6 → W p l e rmX3_goBy s m [.ref a_t, .ref a_p1, .int x2].toArray below meth c H1 locs1 0 0 (MQ below (gQ F (fun _u : Int32 × Int32 × Int32 × Int32 × Int32 × Int32 => some (.int _u.1)) (fun _u : Int32 × Int32 × Int32 × Int32 × Int32 × Int32 => (wX3_goBy cI cB cZ cM cJ cK  a_t a_p1 a_p1_first a_p1_second a_p1_hours a_p1_home a_p1_feet a_p1_far r_p1_far _u.2.1 _u.2.2.1 _u.2.2.2.1 _u.2.2.2.2.1 _u.2.2.2.2.2 t_shut p1_corners p1_streets p1_leaders p1_first p1_second p1_hours p1_home p1_feet p1_far)) D A) [.ref a_t, .ref a_p1, .int x2].toArray s 0 0 A) (F0 m 43 ls1 []) := by
    intro  n
    induction n with
    | zero => intro t_at t_hour t_fines t_led t_taken x3 x4 x5 x6 H locs ls Wd hl hf; exact absurd hf hF
    | succ n ih =>
      intro t_at t_hour t_fines t_led t_taken x3 x4 x5 x6 H locs ls Wd hl hf
      refine lv_iload S.1 S.2.1 dX3_goBy_43 (lv_at hl 5 rfl) ?_
      refine lv_iload S.1 S.2.1 dX3_goBy_45 (lv_at hl 3 rfl) ?_
      refine lv_icmp_ge (tgt := 158) S.1 S.2.1 dX3_goBy_47 rfl (fun c5 => ?_) (fun c5 => ?_)
      · have hf := g_if hf c5
        refine lv_iload S.1 S.2.1 dX3_goBy_158 (lv_at hl 4 rfl) ?_
        obtain ⟨h6, hf⟩ := g_gc hF hf
        exact g_zret S Wd hr hlk (congrArg Value.int h6) dX3_goBy_160 (x5, t_at, t_hour, t_fines, t_led, t_taken) hf rfl rfl
      · have hf := g_ifn hf c5
        refine lv_iload S.1 S.2.1 dX3_goBy_50 (lv_at hl 5 rfl) ?_
        refine lv_if_eq (tgt := 63) S.1 S.2.1 dX3_goBy_52 rfl (fun c7 => ?_) (fun c7 => ?_)
        · have hf := g_if hf c7
          exact b63 (fun t_at t_hour t_fines t_led t_taken x3 x4 x5 x6 => fX3_goBy_b43 N t_shut p1_streets p1_leaders p1_first p1_second p1_hours p1_home p1_feet p1_far x2 n t_at t_hour t_fines t_led t_taken x3 x4 x5 x6) ih t_at t_hour t_fines t_led t_taken x3 x4 x5 x6 _ _ _ Wd hl hf
        · have hf := g_ifn hf c7
          refine lv_aload_n S.1 S.2.1 dX3_goBy_55 rfl (lv_at hl 0 rfl) ?_
          refine g_get (a := a_t) S hK Wd iX3_goBy_X3 0 rfl rfl 0 rfl rfl kX3_goBy_4 rfl dX3_goBy_56 ?_
          refine lv_iload_n S.1 S.2.1 dX3_goBy_59 rfl (lv_at hl 2 rfl) ?_
          refine lv_icmp_eq (tgt := 158) S.1 S.2.1 dX3_goBy_60 rfl (fun c8 => ?_) (fun c8 => ?_)
          · have hf := g_if hf c8
            refine lv_iload S.1 S.2.1 dX3_goBy_158 (lv_at hl 4 rfl) ?_
            obtain ⟨h9, hf⟩ := g_gc hF hf
            exact g_zret S Wd hr hlk (congrArg Value.int h9) dX3_goBy_160 (x5, t_at, t_hour, t_fines, t_led, t_taken) hf rfl rfl
          · have hf := g_ifn hf c8
            exact b63 (fun t_at t_hour t_fines t_led t_taken x3 x4 x5 x6 => fX3_goBy_b43 N t_shut p1_streets p1_leaders p1_first p1_second p1_hours p1_home p1_feet p1_far x2 n t_at t_hour t_fines t_led t_taken x3 x4 x5 x6) ih t_at t_hour t_fines t_led t_taken x3 x4 x5 x6 _ _ _ Wd hl hf
  refine lv_aload_n S.1 S.2.1 dX3_goBy_0 rfl (lv_at hl 1 rfl) ?_
  refine lv_iload_n S.1 S.2.1 dX3_goBy_1 rfl (lv_at hl 2 rfl) ?_
  obtain ⟨u1, hu1, hf⟩ := g_bind hF hf
  refine g_callV (ws' := (wX3_goBy cI cB cZ cM cJ cK  a_t a_p1 a_p1_first a_p1_second a_p1_hours a_p1_home a_p1_feet a_p1_far r_p1_far t_at t_hour t_fines t_led t_taken t_shut p1_corners p1_streets p1_leaders p1_first p1_second p1_hours p1_home p1_feet p1_far)) (As := [.int x2]) (rest := []) (st1 := [.int u1]) S hK hA Wd (c_X0_hasLeader l D N cI cB cZ cM cJ cK a_p1 a_p1_first a_p1_second a_p1_hours a_p1_home a_p1_feet a_p1_far p1_corners p1_streets p1_leaders x2) (cwV 1 S.2.2.2.2 gX3_goBy_X0_hasLeader rfl rfl rfl n_X0_hasLeader ⟨Nat.le_of_ble_eq_true rfl, Nat.le_of_ble_eq_true rfl⟩) hu1 [1] rfl rfl 0 0 rfl rfl rfl rfl rfl rfl rfl hl.1 rfl (Nat.le_of_ble_eq_true rfl) dX3_goBy_2 ⟨Nat.zero_le _, Nat.zero_le _⟩ (fun H locs Wd => ?_)
  refine lv_if_ne (tgt := 10) S.1 S.2.1 dX3_goBy_5 rfl (fun c2 => ?_) (fun c2 => ?_)
  · have hf := g_ifn hf c2
    refine lv_aload_n S.1 S.2.1 dX3_goBy_10 rfl (lv_at hl 1 rfl) ?_
    refine g_get (a := a_p1) S hK Wd iX3_goBy_X0 1 rfl rfl 6 rfl rfl kX3_goBy_1 rfl dX3_goBy_11 ?_
    refine lv_iload_n S.1 S.2.1 dX3_goBy_14 rfl (lv_at hl 2 rfl) ?_
    obtain ⟨h3, hf⟩ := g_gi hF hf
    refine g_iald (a := a_p1_home) S hK Wd 5 0 rfl rfl h3 dX3_goBy_15 ?_
    refine lv_istore_n (lv' := [(3, .int (p1_home x2.toNatClampNeg)), (0, .ref a_t), (1, .ref a_p1), (2, .int x2)]) S.1 S.2.1 dX3_goBy_16 rfl hl (by decide) rfl (fun ls hl => ?_)
    refine lv_aload_n S.1 S.2.1 dX3_goBy_17 rfl (lv_at hl 2 rfl) ?_
    refine g_get (a := a_p1) S hK Wd iX3_goBy_X0 1 rfl rfl 7 rfl rfl kX3_goBy_2 rfl dX3_goBy_18 ?_
    refine lv_iload_n S.1 S.2.1 dX3_goBy_21 rfl (lv_at hl 3 rfl) ?_
    obtain ⟨h4, hf⟩ := g_gi hF hf
    refine g_iald (a := a_p1_feet) S hK Wd 6 0 rfl rfl h4 dX3_goBy_22 ?_
    refine lv_istore (lv' := [(4, .int (p1_feet x2.toNatClampNeg)), (3, .int (p1_home x2.toNatClampNeg)), (0, .ref a_t), (1, .ref a_p1), (2, .int x2)]) S.1 S.2.1 dX3_goBy_23 hl (by decide) rfl (fun ls hl => ?_)
    refine lv_iconst (v := 0) S.1 S.2.1 dX3_goBy_25 (by decide) ?_
    refine lv_istore (lv' := [(5, .int (0 : Int32)), (4, .int (p1_feet x2.toNatClampNeg)), (3, .int (p1_home x2.toNatClampNeg)), (0, .ref a_t), (1, .ref a_p1), (2, .int x2)]) S.1 S.2.1 dX3_goBy_26 hl (by decide) rfl (fun ls hl => ?_)
    refine lv_aload_n S.1 S.2.1 dX3_goBy_28 rfl (lv_at hl 3 rfl) ?_
    refine lv_dup S.1 S.2.1 dX3_goBy_29 rfl ?_
    refine g_get (a := a_t) S hK Wd iX3_goBy_X3 0 rfl rfl 3 rfl rfl kX3_goBy_3 rfl dX3_goBy_30 ?_
    refine lv_iconst (v := 1) S.1 S.2.1 dX3_goBy_33 (by decide) ?_
    refine lv_iload_n S.1 S.2.1 dX3_goBy_34 rfl (lv_at hl 5 rfl) ?_
    refine lv_ishl S.1 S.2.1 dX3_goBy_35 ?_
    refine lv_ior S.1 S.2.1 dX3_goBy_36 ?_
    refine g_put (a := a_t) (ws' := (wX3_goBy cI cB cZ cM cJ cK  a_t a_p1 a_p1_first a_p1_second a_p1_hours a_p1_home a_p1_feet a_p1_far r_p1_far t_at t_hour t_fines (t_led ||| ((1 : Int32) <<< (x2 &&& 31))) t_taken t_shut p1_corners p1_streets p1_leaders p1_first p1_second p1_hours p1_home p1_feet p1_far)) S hK Wd iX3_goBy_X3 tyX3 tyX3_ok nmX3 0 rfl rfl 3 rfl rfl kX3_goBy_3 rfl rfl rfl dX3_goBy_37 rfl (fun H locs Wd => ?_)
    refine lv_iconst (v := 0) S.1 S.2.1 dX3_goBy_40 (by decide) ?_
    refine lv_istore (lv' := [(6, .int (0 : Int32)), (5, .int (0 : Int32)), (4, .int (p1_feet x2.toNatClampNeg)), (3, .int (p1_home x2.toNatClampNeg)), (0, .ref a_t), (1, .ref a_p1), (2, .int x2)]) S.1 S.2.1 dX3_goBy_41 hl (by decide) rfl (fun ls hl => ?_)
    exact b43  N t_at t_hour t_fines (t_led ||| ((1 : Int32) <<< (x2 &&& 31))) t_taken (p1_home x2.toNatClampNeg) (p1_feet x2.toNatClampNeg) (0 : Int32) (0 : Int32) _ _ _ Wd (lv_sub hl [4, 5, 3, 2, 1, 0] rfl) hf
  · have hf := g_if hf c2
    refine lv_iconst (v := 0) S.1 S.2.1 dX3_goBy_8 (by decide) ?_
    exact g_zret S Wd hr hlk rfl dX3_goBy_9 ((0 : Int32), t_at, t_hour, t_fines, t_led, t_taken) hf rfl rfl
