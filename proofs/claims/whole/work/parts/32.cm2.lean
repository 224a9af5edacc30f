/-! generated: contracts -/
theorem iX8_goTo_8 : ∀ w ∈ wsX80, w ∈ wsX8_goTo := fun w h => List.mem_cons_of_mem _ (List.mem_append_right _ h)
theorem hdX8_goTo : yX8_goTo.cls = RX8 ∧ yX8_goTo.cls ≠ "java/lang/invoke/MethodHandle" ∧ yX8_goTo.cls ≠ "java/lang/invoke/VarHandle" ∧ (parseMethodDescriptor yX8_goTo.desc).map (fun d => d.parameters.length) = some 1 := by decide +kernel
set_option maxHeartbeats 4000000 in
set_option maxRecDepth 100000 in
theorem lX8_goTo_2 {p : Program} {l : Launch} {e : Env} {s : State} {m : MethodId} {args : Array Value} {below : List Frame} {meth : Method} {c : Code} {g : XG} {A : Nat → Prop} (C0 : xC g A wsX8_goTo RX8 cX8_goTo 3 none p s m args meth c) (f1 : Int32) (post : XS → Prop) (kx : Int32 → XS → Prop)
    (hkx : ∀ (m2 : Int32) (σ : XS) (H : Heap) (locs : List Loc) (ls : Array Slot), kx m2 σ → xO g A s σ H locs → lv_has ls 3 [(0, .ref (xa g 24)), (1, .int f1), (2, .int m2)] → W p l e (headSpec wsX8_goTo rmX8_goTo).room s m args below meth c H locs 0 0 (MQ below (va_Qv post (xAt g A) A) args s 0 0 A) (F0 m 28 ls [])) :
    ∀ (n : Nat) (m2 : Int32) (σ : XS) (H : Heap) (locs : List Loc) (ls : Array Slot), LX8_goTo_2 f1 post kx n m2 σ → xO g A s σ H locs → lv_has ls 3 [(0, .ref (xa g 24)), (1, .int f1), (2, .int m2)] → W p l e (headSpec wsX8_goTo rmX8_goTo).room s m args below meth c H locs 0 0 (MQ below (va_Qv post (xAt g A) A) args s 0 0 A) (F0 m 2 ls []) := by
  have hx := C0.1
  have hb := C0.2.1
  have hown := C0.2.2.2.2.2.1
  have hts := C0.2.2.2.2.2.2.1
  intro n
  induction n with
  | zero =>
    intro m2 σ H locs ls hw
    exact hw.elim
  | succ n ih =>
    intro m2 σ H locs ls hw hO hl
    rw [LX8_goTo_2] at hw
    refine lv_iload_n hx hb dX8_goTo_2 rfl (lv_at hl 2 rfl) ?_
    refine lv_bipush (v := 6) hx hb dX8_goTo_3 (by decide) ?_
    refine lv_icmp_ge (tgt := 28) hx hb dX8_goTo_5 (by decide) (fun c1 => ?_) (fun c1 => ?_)
    · replace hw := hw.1 c1
      exact hkx _ _ _ _ _ hw hO (lv_sub hl [0, 1, 2] rfl)
    · replace hw := hw.2 c1
      refine lv_aload_n hx hb dX8_goTo_8 rfl (lv_at hl 0 rfl) ?_
      refine x_getr C0 hO 24 27 37 rfl rfl (by decide) rfl iX8_goTo_8 rfl (List.mem_of_getElem? (i := 1) rfl) dX8_goTo_9 ?_
      refine lv_iload_n hx hb dX8_goTo_12 rfl (lv_at hl 2 rfl) ?_
      refine lv_iload_n hx hb dX8_goTo_13 rfl (lv_at hl 2 rfl) ?_
      refine x_iast C0 hO 37 rfl hw.1 dX8_goTo_14 (fun σ2 H locs eσ2 hO => ?_)
      replace hw := hw.2 σ2 eσ2
      refine lv_aload_n hx hb dX8_goTo_15 rfl (lv_at hl 0 rfl) ?_
      refine x_getr C0 hO 24 28 38 rfl rfl (by decide) rfl iX8_goTo_8 rfl (List.mem_of_getElem? (i := 2) rfl) dX8_goTo_16 ?_
      refine lv_iload_n hx hb dX8_goTo_19 rfl (lv_at hl 2 rfl) ?_
      refine lv_iconst (v := 0) hx hb dX8_goTo_20 (by decide) ?_
      refine x_iast C0 hO 38 rfl hw.1 dX8_goTo_21 (fun σ3 H locs eσ3 hO => ?_)
      replace hw := hw.2 σ3 eσ3
      obtain ⟨x4, ex4⟩ : ∃ z : Int32, z = m2 + 1 := ⟨_, rfl⟩
      replace hw := hw x4 ex4
      refine lv_iinc (v := x4) (lv' := [(2, .int x4), (0, .ref (xa g 24)), (1, .int f1)]) hx hb dX8_goTo_22 hl (k := 2) rfl (by rw [ex4]; rfl) (by decide) rfl (fun ls hl => ?_)
      refine lv_goto (tgt := 2) hx hb dX8_goTo_25 (by decide) ?_
      exact ih _ _ _ _ _ hw hO (lv_sub hl [1, 2, 0] rfl)
set_option maxHeartbeats 4000000 in
set_option maxRecDepth 100000 in
theorem lX8_goTo_30 {p : Program} {l : Launch} {e : Env} {s : State} {m : MethodId} {args : Array Value} {below : List Frame} {meth : Method} {c : Code} {g : XG} {A : Nat → Prop} (C0 : xC g A wsX8_goTo RX8 cX8_goTo 3 none p s m args meth c) (f1 : Int32) (post : XS → Prop) (kx : Int32 → XS → Prop)
    (hkx : ∀ (m2 : Int32) (σ : XS) (H : Heap) (locs : List Loc) (ls : Array Slot), kx m2 σ → xO g A s σ H locs → lv_has ls 3 [(0, .ref (xa g 24)), (1, .int f1), (2, .int m2)] → W p l e (headSpec wsX8_goTo rmX8_goTo).room s m args below meth c H locs 0 0 (MQ below (va_Qv post (xAt g A) A) args s 0 0 A) (F0 m 46 ls [])) :
    ∀ (n : Nat) (m2 : Int32) (σ : XS) (H : Heap) (locs : List Loc) (ls : Array Slot), LX8_goTo_30 f1 post kx n m2 σ → xO g A s σ H locs → lv_has ls 3 [(0, .ref (xa g 24)), (1, .int f1), (2, .int m2)] → W p l e (headSpec wsX8_goTo rmX8_goTo).room s m args below meth c H locs 0 0 (MQ below (va_Qv post (xAt g A) A) args s 0 0 A) (F0 m 30 ls []) := by
  have hx := C0.1
  have hb := C0.2.1
  have hown := C0.2.2.2.2.2.1
  have hts := C0.2.2.2.2.2.2.1
  intro n
  induction n with
  | zero =>
    intro m2 σ H locs ls hw
    exact hw.elim
  | succ n ih =>
    intro m2 σ H locs ls hw hO hl
    rw [LX8_goTo_30] at hw
    refine lv_iload_n hx hb dX8_goTo_30 rfl (lv_at hl 2 rfl) ?_
    refine lv_iload_n hx hb dX8_goTo_31 rfl (lv_at hl 1 rfl) ?_
    refine lv_icmp_gt (tgt := 46) hx hb dX8_goTo_32 (by decide) (fun c7 => ?_) (fun c7 => ?_)
    · replace hw := hw.1 c7
      exact hkx _ _ _ _ _ hw hO (lv_sub hl [0, 1, 2] rfl)
    · replace hw := hw.2 c7
      refine lv_aload_n hx hb dX8_goTo_35 rfl (lv_at hl 0 rfl) ?_
      refine lv_iload_n hx hb dX8_goTo_36 rfl (lv_at hl 2 rfl) ?_
      refine x_callv C0 hO (x_runV (As := [.int m2]) (rest := []) C0 hO (kX8_goNight l g _ m2 σ _ hw) 1 rfl (xRecv C0 hO (j := 24) rfl rfl) gX8_goTo_X8_goNight rfl rfl rfl hdX8_goNight ⟨Nat.le_of_ble_eq_true rfl, Nat.le_of_ble_eq_true rfl⟩ hl.1 rfl (Nat.le_of_ble_eq_true rfl) dX8_goTo_37 ⟨Nat.le_of_ble_eq_true rfl, Nat.le_of_ble_eq_true rfl⟩) (fun σ8 H locs hw hO => ?_)
      obtain ⟨x9, ex9⟩ : ∃ z : Int32, z = m2 + 1 := ⟨_, rfl⟩
      replace hw := hw x9 ex9
      refine lv_iinc (v := x9) (lv' := [(2, .int x9), (0, .ref (xa g 24)), (1, .int f1)]) hx hb dX8_goTo_40 hl (k := 2) rfl (by rw [ex9]; rfl) (by decide) rfl (fun ls hl => ?_)
      refine lv_goto (tgt := 30) hx hb dX8_goTo_43 (by decide) ?_
      exact ih _ _ _ _ _ hw hO (lv_sub hl [1, 2, 0] rfl)
set_option maxHeartbeats 4000000 in
set_option maxRecDepth 100000 in
theorem kX8_goTo (l : Launch) (g : XG) (sz : Nat) (a1 : Int32) (σ : XS) (post : XS → Prop) (hw : PX8_goTo a1 σ post) : xMv l yX8_goTo wsX8_goTo rmX8_goTo 0 0 g sz [.ref (xa g 24), .int a1] σ post := by
  unfold PX8_goTo at hw
  refine x_head (Qc := fun A => va_Qv post (xAt g A) A) (cc := cX8_goTo) (maxL := 3) (ret := none) (by decide) rfl ?_
  intro p e s m below meth c A C0 hnm hO
  refine x_entry (Nat.le_of_ble_eq_true rfl) (fun ls hl => ?_)
  have hl : lv_has ls 3 [(0, .ref (xa g 24)), (1, .int a1)] := hl
  have hx := C0.1
  have hb := C0.2.1
  have hown := C0.2.2.2.2.2.1
  have hts := C0.2.2.2.2.2.2.1
  refine lv_iconst (v := 0) hx hb dX8_goTo_0 (by decide) ?_
  refine lv_istore_n (lv' := [(2, .int (0 : Int32)), (0, .ref (xa g 24)), (1, .int a1)]) hx hb dX8_goTo_1 rfl hl (by decide) rfl (fun ls hl => ?_)
  refine lX8_goTo_2 C0 a1 post _ (fun x5 σ6 H locs ls hw hO hl => ?_) 1000 _ _ _ _ _ hw hO (lv_sub hl [1, 2, 0] rfl)
  refine lv_iconst (v := 0) hx hb dX8_goTo_28 (by decide) ?_
  refine lv_istore_n (lv' := [(2, .int (0 : Int32)), (0, .ref (xa g 24)), (1, .int a1)]) hx hb dX8_goTo_29 rfl hl (by decide) rfl (fun ls hl => ?_)
  refine lX8_goTo_30 C0 a1 post _ (fun x10 σ11 H locs ls hw hO hl => ?_) 1000 _ _ _ _ _ hw hO (lv_sub hl [1, 2, 0] rfl)
  exact x_vret C0 hO hw dX8_goTo_46
theorem iX8_layers_8 : ∀ w ∈ wsX80, w ∈ wsX8_layers := fun w h => List.mem_cons_of_mem _ (List.mem_append_right _ h)
theorem hdX8_layers : yX8_layers.cls = RX8 ∧ yX8_layers.cls ≠ "java/lang/invoke/MethodHandle" ∧ yX8_layers.cls ≠ "java/lang/invoke/VarHandle" ∧ (parseMethodDescriptor yX8_layers.desc).map (fun d => d.parameters.length) = some 2 := by decide +kernel
set_option maxHeartbeats 4000000 in
set_option maxRecDepth 100000 in
theorem kX8_layers (l : Launch) (g : XG) (sz : Nat) (a1 : Int32) (a2 : Int32) (σ : XS) (post : Int32 → XS → Prop) (hw : PX8_layers a1 a2 σ post) : xMi l yX8_layers wsX8_layers rmX8_layers 0 0 g sz [.ref (xa g 24), .int a1, .int a2] σ post := by
  unfold PX8_layers at hw
  refine x_head (Qc := fun A => va_Qi post (xAt g A) A) (cc := cX8_layers) (maxL := 3) (ret := (some .int)) (by decide) rfl ?_
  intro p e s m below meth c A C0 hnm hO
  refine x_entry (Nat.le_of_ble_eq_true rfl) (fun ls hl => ?_)
  have hl : lv_has ls 3 [(0, .ref (xa g 24)), (1, .int a1), (2, .int a2)] := hl
  have hx := C0.1
  have hb := C0.2.1
  have hown := C0.2.2.2.2.2.1
  have hts := C0.2.2.2.2.2.2.1
  refine lv_aload_n hx hb dX8_layers_0 rfl (lv_at hl 0 rfl) ?_
  refine lv_iload_n hx hb dX8_layers_1 rfl (lv_at hl 1 rfl) ?_
  refine x_calli C0 hO (x_runV (As := [.int a1]) (rest := []) C0 hO (kX8_noPlace l g _ a1 σ _ hw) 1 rfl (xRecv C0 hO (j := 24) rfl rfl) gX8_layers_X8_noPlace rfl rfl rfl hdX8_noPlace ⟨Nat.le_of_ble_eq_true rfl, Nat.le_of_ble_eq_true rfl⟩ hl.1 rfl (Nat.le_of_ble_eq_true rfl) dX8_layers_2 ⟨Nat.le_of_ble_eq_true rfl, Nat.le_of_ble_eq_true rfl⟩) (fun r1 σ' H locs hw hO => ?_)
  obtain ⟨hσ, hw⟩ := hw
  subst hσ
  refine lv_if_eq (tgt := 10) hx hb dX8_layers_5 (by decide) (fun c2 => ?_) (fun c2 => ?_)
  · replace hw := hw.1 c2
    refine lv_iload_n hx hb dX8_layers_10 rfl (lv_at hl 2 rfl) ?_
    refine x_calli C0 hO (x_runS (As := [.int a2]) (rest := []) C0 hO (kX8_isNight l g _ a2 σ _ hw) 1 rfl gX8_layers_X8_isNight rfl rfl rfl hdX8_isNight.2 ⟨Nat.le_of_ble_eq_true rfl, Nat.le_of_ble_eq_true rfl⟩ hl.1 rfl (Nat.le_of_ble_eq_true rfl) dX8_layers_11 ⟨Nat.le_of_ble_eq_true rfl, Nat.le_of_ble_eq_true rfl⟩) (fun r3 σ' H locs hw hO => ?_)
    obtain ⟨hσ, hw⟩ := hw
    subst hσ
    refine lv_if_ne (tgt := 20) hx hb dX8_layers_14 (by decide) (fun c4 => ?_) (fun c4 => ?_)
    · replace hw := hw.2 c4
      refine lv_aload_n hx hb dX8_layers_20 rfl (lv_at hl 0 rfl) ?_
      refine lv_iload_n hx hb dX8_layers_21 rfl (lv_at hl 2 rfl) ?_
      refine x_callv C0 hO (x_runV (As := [.int a2]) (rest := []) C0 hO (kX8_goTo l g _ a2 σ _ hw) 1 rfl (xRecv C0 hO (j := 24) rfl rfl) gX8_layers_X8_goTo rfl rfl rfl hdX8_goTo ⟨Nat.le_of_ble_eq_true rfl, Nat.le_of_ble_eq_true rfl⟩ hl.1 rfl (Nat.le_of_ble_eq_true rfl) dX8_layers_22 ⟨Nat.le_of_ble_eq_true rfl, Nat.le_of_ble_eq_true rfl⟩) (fun σ5 H locs hw hO => ?_)
      refine lv_aload_n hx hb dX8_layers_25 rfl (lv_at hl 0 rfl) ?_
      refine x_getr C0 hO 24 28 38 rfl rfl (by decide) rfl iX8_layers_8 rfl (List.mem_of_getElem? (i := 1) rfl) dX8_layers_26 ?_
      refine lv_aload_n hx hb dX8_layers_29 rfl (lv_at hl 0 rfl) ?_
      refine x_getr C0 hO 24 27 37 rfl rfl (by decide) rfl iX8_layers_8 rfl (List.mem_of_getElem? (i := 2) rfl) dX8_layers_30 ?_
      refine lv_iload_n hx hb dX8_layers_33 rfl (lv_at hl 1 rfl) ?_
      refine x_iald C0 hO 37 rfl hw.1 dX8_layers_34 ?_
      replace hw := hw.2
      refine x_iald C0 hO 38 rfl hw.1 dX8_layers_35 ?_
      replace hw := hw.2
      exact x_iret C0 hO hw dX8_layers_36
    · replace hw := hw.1 c4
      refine lv_bipush (v := -2) hx hb dX8_layers_17 (by decide) ?_
      exact x_iret C0 hO hw dX8_layers_19
  · replace hw := hw.2 c2
    refine lv_iconst (v := -1) hx hb dX8_layers_8 (by decide) ?_
    exact x_iret C0 hO hw dX8_layers_9
theorem iX8_layerAt_8 : ∀ w ∈ wsX80, w ∈ wsX8_layerAt := fun w h => List.mem_cons_of_mem _ (List.mem_append_right _ h)
theorem hdX8_layerAt : yX8_layerAt.cls = RX8 ∧ yX8_layerAt.cls ≠ "java/lang/invoke/MethodHandle" ∧ yX8_layerAt.cls ≠ "java/lang/invoke/VarHandle" ∧ (parseMethodDescriptor yX8_layerAt.desc).map (fun d => d.parameters.length) = some 2 := by decide +kernel
set_option maxHeartbeats 4000000 in
set_option maxRecDepth 100000 in
theorem kX8_layerAt (l : Launch) (g : XG) (sz : Nat) (a1 : Int32) (a2 : Int32) (σ : XS) (post : Int32 → Prop) (hw : PX8_layerAt a1 a2 σ post) : xMi l yX8_layerAt wsX8_layerAt rmX8_layerAt 0 0 g sz [.ref (xa g 24), .int a1, .int a2] σ (fun r u => σ = u ∧ post r) := by
  unfold PX8_layerAt at hw
  refine x_head (Qc := fun A => va_Qi (fun r u => σ = u ∧ post r) (xAt g A) A) (cc := cX8_layerAt) (maxL := 4) (ret := (some .int)) (by decide) rfl ?_
  intro p e s m below meth c A C0 hnm hO
  refine x_entry (Nat.le_of_ble_eq_true rfl) (fun ls hl => ?_)
  have hl : lv_has ls 4 [(0, .ref (xa g 24)), (1, .int a1), (2, .int a2)] := hl
  have hx := C0.1
  have hb := C0.2.1
  have hown := C0.2.2.2.2.2.1
  have hts := C0.2.2.2.2.2.2.1
  refine lv_aload_n hx hb dX8_layerAt_0 rfl (lv_at hl 0 rfl) ?_
  refine x_getr C0 hO 24 27 37 rfl rfl (by decide) rfl iX8_layerAt_8 rfl (List.mem_of_getElem? (i := 1) rfl) dX8_layerAt_1 ?_
  refine lv_iload_n hx hb dX8_layerAt_4 rfl (lv_at hl 1 rfl) ?_
  refine x_iald C0 hO 37 rfl hw.1 dX8_layerAt_5 ?_
  replace hw := hw.2
  refine lv_topi (fun x1 ex1 => ?_)
  replace hw := hw x1 ex1
  refine lv_istore_n (lv' := [(3, .int x1), (0, .ref (xa g 24)), (1, .int a1), (2, .int a2)]) hx hb dX8_layerAt_6 rfl hl (by decide) rfl (fun ls hl => ?_)
  refine lv_iload_n hx hb dX8_layerAt_7 rfl (lv_at hl 3 rfl) ?_
  refine lv_aload_n hx hb dX8_layerAt_8 rfl (lv_at hl 1 rfl) ?_
  refine x_getr C0 hO 24 28 38 rfl rfl (by decide) rfl iX8_layerAt_8 rfl (List.mem_of_getElem? (i := 2) rfl) dX8_layerAt_9 ?_
  refine lv_iload_n hx hb dX8_layerAt_12 rfl (lv_at hl 0 rfl) ?_
  refine x_iald C0 hO 38 rfl hw.1 dX8_layerAt_13 ?_
  replace hw := hw.2
  refine lv_icmp_ge (tgt := 31) hx hb dX8_layerAt_14 (by decide) (fun c2 => ?_) (fun c2 => ?_)
  · replace hw := hw.1 c2
    refine lv_bipush (v := -9) hx hb dX8_layerAt_31 (by decide) ?_
    exact x_iret C0 hO ⟨rfl, hw⟩ dX8_layerAt_33
  · replace hw := hw.2 c2
    refine lv_aload_n hx hb dX8_layerAt_17 rfl (lv_at hl 1 rfl) ?_
    refine x_getr C0 hO 24 29 39 rfl rfl (by decide) rfl iX8_layerAt_8 rfl (List.mem_of_getElem? (i := 3) rfl) dX8_layerAt_18 ?_
    refine lv_bipush (v := 25) hx hb dX8_layerAt_21 (by decide) ?_
    refine lv_iload_n hx hb dX8_layerAt_23 rfl (lv_at hl 0 rfl) ?_
    refine lv_imul hx hb dX8_layerAt_24 ?_
    refine lv_iload_n hx hb dX8_layerAt_25 rfl (lv_at hl 3 rfl) ?_
    refine lv_iadd hx hb dX8_layerAt_26 ?_
    refine x_iald C0 hO 39 rfl hw.1 dX8_layerAt_27 ?_
    replace hw := hw.2
    refine lv_goto (tgt := 33) hx hb dX8_layerAt_28 (by decide) ?_
    exact x_iret C0 hO ⟨rfl, hw⟩ dX8_layerAt_33
theorem iX8_gumBy_8 : ∀ w ∈ wsX80, w ∈ wsX8_gumBy := fun w h => List.mem_cons_of_mem _ (List.mem_append_right _ h)
theorem hdX8_gumBy : yX8_gumBy.cls = RX8 ∧ yX8_gumBy.cls ≠ "java/lang/invoke/MethodHandle" ∧ yX8_gumBy.cls ≠ "java/lang/invoke/VarHandle" ∧ (parseMethodDescriptor yX8_gumBy.desc).map (fun d => d.parameters.length) = some 1 := by decide +kernel
set_option maxHeartbeats 4000000 in
set_option maxRecDepth 100000 in
theorem kX8_gumBy (l : Launch) (g : XG) (sz : Nat) (a1 : Int32) (σ : XS) (post : Int32 → Prop) (hw : PX8_gumBy a1 σ post) : xMi l yX8_gumBy wsX8_gumBy rmX8_gumBy 0 0 g sz [.ref (xa g 24), .int a1] σ (fun r u => σ = u ∧ post r) := by
  unfold PX8_gumBy at hw
  refine x_head (Qc := fun A => va_Qi (fun r u => σ = u ∧ post r) (xAt g A) A) (cc := cX8_gumBy) (maxL := 2) (ret := (some .int)) (by decide) rfl ?_
  intro p e s m below meth c A C0 hnm hO
  refine x_entry (Nat.le_of_ble_eq_true rfl) (fun ls hl => ?_)
  have hl : lv_has ls 2 [(0, .ref (xa g 24)), (1, .int a1)] := hl
  have hx := C0.1
  have hb := C0.2.1
  have hown := C0.2.2.2.2.2.1
  have hts := C0.2.2.2.2.2.2.1
  refine lv_aload_n hx hb dX8_gumBy_0 rfl (lv_at hl 0 rfl) ?_
  refine lv_aload_n hx hb dX8_gumBy_1 rfl (lv_at hl 0 rfl) ?_
  refine x_getr C0 hO 24 11 29 rfl rfl (by decide) rfl iX8_gumBy_8 rfl (List.mem_of_getElem? (i := 1) rfl) dX8_gumBy_2 ?_
  refine lv_iload_n hx hb dX8_gumBy_5 rfl (lv_at hl 1 rfl) ?_
  refine x_iald C0 hO 29 rfl hw.1 dX8_gumBy_6 ?_
  replace hw := hw.2
  refine lv_aload_n hx hb dX8_gumBy_7 rfl (lv_at hl 0 rfl) ?_
  refine x_getr C0 hO 24 13 31 rfl rfl (by decide) rfl iX8_gumBy_8 rfl (List.mem_of_getElem? (i := 2) rfl) dX8_gumBy_8 ?_
  refine lv_iload_n hx hb dX8_gumBy_11 rfl (lv_at hl 1 rfl) ?_
  refine x_iald C0 hO 31 rfl hw.1 dX8_gumBy_12 ?_
  replace hw := hw.2
  refine x_calli C0 hO (x_runV (As := [.int (gI σ 29 a1.toNatClampNeg), .int (gI σ 31 a1.toNatClampNeg)]) (rest := []) C0 hO (kX8_gumOf l g _ (gI σ 29 a1.toNatClampNeg) (gI σ 31 a1.toNatClampNeg) σ _ hw) 2 rfl (xRecv C0 hO (j := 24) rfl rfl) gX8_gumBy_X8_gumOf rfl rfl rfl hdX8_gumOf ⟨Nat.le_of_ble_eq_true rfl, Nat.le_of_ble_eq_true rfl⟩ hl.1 rfl (Nat.le_of_ble_eq_true rfl) dX8_gumBy_13 ⟨Nat.le_of_ble_eq_true rfl, Nat.le_of_ble_eq_true rfl⟩) (fun r1 σ' H locs hw hO => ?_)
  obtain ⟨hσ, hw⟩ := hw
  subst hσ
  exact x_iret C0 hO ⟨rfl, hw⟩ dX8_gumBy_16
theorem hdX8_under : yX8_under.cls = RX8 ∧ yX8_under.cls ≠ "java/lang/invoke/MethodHandle" ∧ yX8_under.cls ≠ "java/lang/invoke/VarHandle" ∧ (parseMethodDescriptor yX8_under.desc).map (fun d => d.parameters.length) = some 4 := by decide +kernel
set_option maxHeartbeats 4000000 in
set_option maxRecDepth 100000 in
theorem kX8_under (l : Launch) (g : XG) (sz : Nat) (a1 : Int32) (a2 : Int32) (a3 : Int32) (a4 : Int32) (σ : XS) (post : Int32 → XS → Prop) (hw : PX8_under a1 a2 a3 a4 σ post) : xMi l yX8_under wsX8_under rmX8_under 0 0 g sz [.ref (xa g 24), .int a1, .int a2, .int a3, .int a4] σ post := by
  unfold PX8_under at hw
  refine x_head (Qc := fun A => va_Qi post (xAt g A) A) (cc := cX8_under) (maxL := 6) (ret := (some .int)) (by decide) rfl ?_
  intro p e s m below meth c A C0 hnm hO
  refine x_entry (Nat.le_of_ble_eq_true rfl) (fun ls hl => ?_)
  have hl : lv_has ls 6 [(0, .ref (xa g 24)), (1, .int a1), (2, .int a2), (3, .int a3), (4, .int a4)] := hl
  have hx := C0.1
  have hb := C0.2.1
  have hown := C0.2.2.2.2.2.1
  have hts := C0.2.2.2.2.2.2.1
  refine lv_aload_n hx hb dX8_under_0 rfl (lv_at hl 0 rfl) ?_
  refine lv_iload_n hx hb dX8_under_1 rfl (lv_at hl 1 rfl) ?_
  refine x_calli C0 hO (x_runV (As := [.int a1]) (rest := []) C0 hO (kX8_noPlace l g _ a1 σ _ hw) 1 rfl (xRecv C0 hO (j := 24) rfl rfl) gX8_under_X8_noPlace rfl rfl rfl hdX8_noPlace ⟨Nat.le_of_ble_eq_true rfl, Nat.le_of_ble_eq_true rfl⟩ hl.1 rfl (Nat.le_of_ble_eq_true rfl) dX8_under_2 ⟨Nat.le_of_ble_eq_true rfl, Nat.le_of_ble_eq_true rfl⟩) (fun r1 σ' H locs hw hO => ?_)
  obtain ⟨hσ, hw⟩ := hw
  subst hσ
  refine lv_if_ne (tgt := 12) hx hb dX8_under_5 (by decide) (fun c2 => ?_) (fun c2 => ?_)
  · replace hw := hw.2 c2
    refine lv_iconst (v := -1) hx hb dX8_under_12 (by decide) ?_
    exact x_iret C0 hO hw dX8_under_13
  · replace hw := hw.1 c2
    refine lv_iload_n hx hb dX8_under_8 rfl (lv_at hl 3 rfl) ?_
    refine lv_if_ge (tgt := 14) hx hb dX8_under_9 (by decide) (fun c3 => ?_) (fun c3 => ?_)
    · replace hw := hw.1 c3
      refine lv_iload_n hx hb dX8_under_14 rfl (lv_at hl 2 rfl) ?_
      refine x_calli C0 hO (x_runS (As := [.int a2]) (rest := []) C0 hO (kX8_isNight l g _ a2 σ _ hw) 1 rfl gX8_under_X8_isNight rfl rfl rfl hdX8_isNight.2 ⟨Nat.le_of_ble_eq_true rfl, Nat.le_of_ble_eq_true rfl⟩ hl.1 rfl (Nat.le_of_ble_eq_true rfl) dX8_under_15 ⟨Nat.le_of_ble_eq_true rfl, Nat.le_of_ble_eq_true rfl⟩) (fun r4 σ' H locs hw hO => ?_)
      obtain ⟨hσ, hw⟩ := hw
      subst hσ
      refine lv_if_eq (tgt := 32) hx hb dX8_under_18 (by decide) (fun c5 => ?_) (fun c5 => ?_)
      · replace hw := hw.1 c5
        refine lv_bipush (v := -2) hx hb dX8_under_32 (by decide) ?_
        exact x_iret C0 hO hw dX8_under_34
      · replace hw := hw.2 c5
        refine lv_iload hx hb dX8_under_21 (lv_at hl 4 rfl) ?_
        refine lv_i2l hx hb dX8_under_23 rfl ?_
        refine lv_lconst (v := 0) hx hb dX8_under_24 (by decide) ?_
        refine lv_lconst (v := 1) hx hb dX8_under_25 (by decide) ?_
        refine x_calli C0 hO (x_runS (As := [.long a4.toInt64, .long (0 : Int64), .long (1 : Int64)]) (rest := []) C0 hO (kX8_in l g _ a4.toInt64 (0 : Int64) (1 : Int64) σ _ hw) 3 rfl gX8_under_X8_in rfl rfl rfl hdX8_in.2 ⟨Nat.le_of_ble_eq_true rfl, Nat.le_of_ble_eq_true rfl⟩ hl.1 rfl (Nat.le_of_ble_eq_true rfl) dX8_under_26 ⟨Nat.le_of_ble_eq_true rfl, Nat.le_of_ble_eq_true rfl⟩) (fun r6 σ' H locs hw hO => ?_)
        obtain ⟨hσ, hw⟩ := hw
        subst hσ
        refine lv_if_ne (tgt := 35) hx hb dX8_under_29 (by decide) (fun c7 => ?_) (fun c7 => ?_)
        · replace hw := hw.2 c7
          refine lv_aload_n hx hb dX8_under_35 rfl (lv_at hl 0 rfl) ?_
          refine lv_iload_n hx hb dX8_under_36 rfl (lv_at hl 2 rfl) ?_
          refine x_callv C0 hO (x_runV (As := [.int a2]) (rest := []) C0 hO (kX8_goTo l g _ a2 σ _ hw) 1 rfl (xRecv C0 hO (j := 24) rfl rfl) gX8_under_X8_goTo rfl rfl rfl hdX8_goTo ⟨Nat.le_of_ble_eq_true rfl, Nat.le_of_ble_eq_true rfl⟩ hl.1 rfl (Nat.le_of_ble_eq_true rfl) dX8_under_37 ⟨Nat.le_of_ble_eq_true rfl, Nat.le_of_ble_eq_true rfl⟩) (fun σ8 H locs hw hO => ?_)
          refine lv_aload_n hx hb dX8_under_40 rfl (lv_at hl 0 rfl) ?_
          refine lv_iload_n hx hb dX8_under_41 rfl (lv_at hl 1 rfl) ?_
          refine lv_iload_n hx hb dX8_under_42 rfl (lv_at hl 3 rfl) ?_
          refine x_calli C0 hO (x_runV (As := [.int a1, .int a3]) (rest := []) C0 hO (kX8_layerAt l g _ a1 a3 σ8 _ hw) 2 rfl (xRecv C0 hO (j := 24) rfl rfl) gX8_under_X8_layerAt rfl rfl rfl hdX8_layerAt ⟨Nat.le_of_ble_eq_true rfl, Nat.le_of_ble_eq_true rfl⟩ hl.1 rfl (Nat.le_of_ble_eq_true rfl) dX8_under_43 ⟨Nat.le_of_ble_eq_true rfl, Nat.le_of_ble_eq_true rfl⟩) (fun r9 σ' H locs hw hO => ?_)
          obtain ⟨hσ, hw⟩ := hw
          subst hσ
          refine lv_istore (lv' := [(5, .int r9), (0, .ref (xa g 24)), (1, .int a1), (2, .int a2), (3, .int a3), (4, .int a4)]) hx hb dX8_under_46 hl (by decide) rfl (fun ls hl => ?_)
          refine lv_iload hx hb dX8_under_48 (lv_at hl 0 rfl) ?_
          refine lv_if_ge (tgt := 58) hx hb dX8_under_50 (by decide) (fun c10 => ?_) (fun c10 => ?_)
          · replace hw := hw.1 c10
            refine lv_iload hx hb dX8_under_58 (lv_at hl 5 rfl) ?_
            refine lv_iconst (v := 1) hx hb dX8_under_60 (by decide) ?_
            refine lv_icmp_ne (tgt := 69) hx hb dX8_under_61 (by decide) (fun c11 => ?_) (fun c11 => ?_)
            · replace hw := hw.2 c11
              refine lv_aload_n hx hb dX8_under_69 rfl (lv_at hl 1 rfl) ?_
              refine lv_iload hx hb dX8_under_70 (lv_at hl 0 rfl) ?_
              refine x_calli C0 hO (x_runV (As := [.int r9]) (rest := []) C0 hO (kX8_gumBy l g _ r9 σ8 _ hw) 1 rfl (xRecv C0 hO (j := 24) rfl rfl) gX8_under_X8_gumBy rfl rfl rfl hdX8_gumBy ⟨Nat.le_of_ble_eq_true rfl, Nat.le_of_ble_eq_true rfl⟩ hl.1 rfl (Nat.le_of_ble_eq_true rfl) dX8_under_72 ⟨Nat.le_of_ble_eq_true rfl, Nat.le_of_ble_eq_true rfl⟩) (fun r12 σ' H locs hw hO => ?_)
              obtain ⟨hσ, hw⟩ := hw
              subst hσ
              exact x_iret C0 hO hw dX8_under_75
            · replace hw := hw.1 c11
              refine lv_iload hx hb dX8_under_64 (lv_at hl 0 rfl) ?_
              refine lv_goto (tgt := 75) hx hb dX8_under_66 (by decide) ?_
              exact x_iret C0 hO hw dX8_under_75
          · replace hw := hw.2 c10
            refine lv_bipush (v := -9) hx hb dX8_under_53 (by decide) ?_
            refine lv_goto (tgt := 75) hx hb dX8_under_55 (by decide) ?_
            exact x_iret C0 hO hw dX8_under_75
        · replace hw := hw.1 c7
          refine lv_bipush (v := -2) hx hb dX8_under_32 (by decide) ?_
          exact x_iret C0 hO hw dX8_under_34
    · replace hw := hw.2 c3
      refine lv_iconst (v := -1) hx hb dX8_under_12 (by decide) ?_
      exact x_iret C0 hO hw dX8_under_13
theorem iX8_chair_8 : ∀ w ∈ wsX80, w ∈ wsX8_chair := fun w h => List.mem_cons_of_mem _ (List.mem_append_right _ h)
theorem hdX8_chair : yX8_chair.cls = RX8 ∧ yX8_chair.cls ≠ "java/lang/invoke/MethodHandle" ∧ yX8_chair.cls ≠ "java/lang/invoke/VarHandle" ∧ (parseMethodDescriptor yX8_chair.desc).map (fun d => d.parameters.length) = some 2 := by decide +kernel
set_option maxHeartbeats 4000000 in
set_option maxRecDepth 100000 in
theorem kX8_chair (l : Launch) (g : XG) (sz : Nat) (a1 : Int32) (a2 : Int32) (σ : XS) (post : Int32 → XS → Prop) (hw : PX8_chair a1 a2 σ post) : xMi l yX8_chair wsX8_chair rmX8_chair 0 0 g sz [.ref (xa g 24), .int a1, .int a2] σ post := by
  unfold PX8_chair at hw
  refine x_head (Qc := fun A => va_Qi post (xAt g A) A) (cc := cX8_chair) (maxL := 3) (ret := (some .int)) (by decide) rfl ?_
  intro p e s m below meth c A C0 hnm hO
  refine x_entry (Nat.le_of_ble_eq_true rfl) (fun ls hl => ?_)
  have hl : lv_has ls 3 [(0, .ref (xa g 24)), (1, .int a1), (2, .int a2)] := hl
  have hx := C0.1
  have hb := C0.2.1
  have hown := C0.2.2.2.2.2.1
  have hts := C0.2.2.2.2.2.2.1
  refine lv_aload_n hx hb dX8_chair_0 rfl (lv_at hl 0 rfl) ?_
  refine lv_iload_n hx hb dX8_chair_1 rfl (lv_at hl 1 rfl) ?_
  refine x_calli C0 hO (x_runV (As := [.int a1]) (rest := []) C0 hO (kX8_noPlace l g _ a1 σ _ hw) 1 rfl (xRecv C0 hO (j := 24) rfl rfl) gX8_chair_X8_noPlace rfl rfl rfl hdX8_noPlace ⟨Nat.le_of_ble_eq_true rfl, Nat.le_of_ble_eq_true rfl⟩ hl.1 rfl (Nat.le_of_ble_eq_true rfl) dX8_chair_2 ⟨Nat.le_of_ble_eq_true rfl, Nat.le_of_ble_eq_true rfl⟩) (fun r1 σ' H locs hw hO => ?_)
  obtain ⟨hσ, hw⟩ := hw
  subst hσ
  refine lv_if_eq (tgt := 10) hx hb dX8_chair_5 (by decide) (fun c2 => ?_) (fun c2 => ?_)
  · replace hw := hw.1 c2
    refine lv_iload_n hx hb dX8_chair_10 rfl (lv_at hl 2 rfl) ?_
    refine x_calli C0 hO (x_runS (As := [.int a2]) (rest := []) C0 hO (kX8_isNight l g _ a2 σ _ hw) 1 rfl gX8_chair_X8_isNight rfl rfl rfl hdX8_isNight.2 ⟨Nat.le_of_ble_eq_true rfl, Nat.le_of_ble_eq_true rfl⟩ hl.1 rfl (Nat.le_of_ble_eq_true rfl) dX8_chair_11 ⟨Nat.le_of_ble_eq_true rfl, Nat.le_of_ble_eq_true rfl⟩) (fun r3 σ' H locs hw hO => ?_)
    obtain ⟨hσ, hw⟩ := hw
    subst hσ
    refine lv_if_ne (tgt := 20) hx hb dX8_chair_14 (by decide) (fun c4 => ?_) (fun c4 => ?_)
    · replace hw := hw.2 c4
      refine lv_aload_n hx hb dX8_chair_20 rfl (lv_at hl 0 rfl) ?_
      refine lv_iload_n hx hb dX8_chair_21 rfl (lv_at hl 2 rfl) ?_
      refine x_callv C0 hO (x_runV (As := [.int a2]) (rest := []) C0 hO (kX8_goTo l g _ a2 σ _ hw) 1 rfl (xRecv C0 hO (j := 24) rfl rfl) gX8_chair_X8_goTo rfl rfl rfl hdX8_goTo ⟨Nat.le_of_ble_eq_true rfl, Nat.le_of_ble_eq_true rfl⟩ hl.1 rfl (Nat.le_of_ble_eq_true rfl) dX8_chair_22 ⟨Nat.le_of_ble_eq_true rfl, Nat.le_of_ble_eq_true rfl⟩) (fun σ5 H locs hw hO => ?_)
      refine lv_aload_n hx hb dX8_chair_25 rfl (lv_at hl 0 rfl) ?_
      refine x_getr C0 hO 24 27 37 rfl rfl (by decide) rfl iX8_chair_8 rfl (List.mem_of_getElem? (i := 1) rfl) dX8_chair_26 ?_
      refine lv_iload_n hx hb dX8_chair_29 rfl (lv_at hl 1 rfl) ?_
      refine x_iald C0 hO 37 rfl hw.1 dX8_chair_30 ?_
      replace hw := hw.2
      exact x_iret C0 hO hw dX8_chair_31
    · replace hw := hw.1 c4
      refine lv_bipush (v := -2) hx hb dX8_chair_17 (by decide) ?_
      exact x_iret C0 hO hw dX8_chair_19
  · replace hw := hw.2 c2
    refine lv_iconst (v := -1) hx hb dX8_chair_8 (by decide) ?_
    exact x_iret C0 hO hw dX8_chair_9
theorem iX8_beside_8 : ∀ w ∈ wsX80, w ∈ wsX8_beside := fun w h => List.mem_cons_of_mem _ (List.mem_append_right _ h)
theorem hdX8_beside : yX8_beside.cls = RX8 ∧ yX8_beside.cls ≠ "java/lang/invoke/MethodHandle" ∧ yX8_beside.cls ≠ "java/lang/invoke/VarHandle" ∧ (parseMethodDescriptor yX8_beside.desc).map (fun d => d.parameters.length) = some 2 := by decide +kernel
set_option maxHeartbeats 4000000 in
set_option maxRecDepth 100000 in
theorem lX8_beside_40 {p : Program} {l : Launch} {e : Env} {s : State} {m : MethodId} {args : Array Value} {below : List Frame} {meth : Method} {c : Code} {g : XG} {A : Nat → Prop} (C0 : xC g A wsX8_beside RX8 cX8_beside 8 (some .int) p s m args meth c) (σ : XS) (f1 : Int32) (f2 : Int32) (f4 : Int32) (post : Int32 → Prop) (kx : Int32 → Int32 → Prop)
    (hkx : ∀ (m3 : Int32) (m5 : Int32) (H : Heap) (locs : List Loc) (ls : Array Slot), kx m3 m5 → xO g A s σ H locs → lv_has ls 8 [(0, .ref (xa g 24)), (1, .int f1), (2, .int f2), (3, .int m3), (4, .int f4), (5, .int m5)] → W p l e (headSpec wsX8_beside rmX8_beside).room s m args below meth c H locs 0 0 (MQ below (va_Qi (fun r u => σ = u ∧ post r) (xAt g A) A) args s 0 0 A) (F0 m 143 ls [])) :
    ∀ (n : Nat) (m3 : Int32) (m5 : Int32) (H : Heap) (locs : List Loc) (ls : Array Slot), LX8_beside_40 σ f1 f2 f4 post kx n m3 m5 → xO g A s σ H locs → lv_has ls 8 [(0, .ref (xa g 24)), (1, .int f1), (2, .int f2), (3, .int m3), (4, .int f4), (5, .int m5)] → W p l e (headSpec wsX8_beside rmX8_beside).room s m args below meth c H locs 0 0 (MQ below (va_Qi (fun r u => σ = u ∧ post r) (xAt g A) A) args s 0 0 A) (F0 m 40 ls []) := by
  have hx := C0.1
  have hb := C0.2.1
  have hown := C0.2.2.2.2.2.1
  have hts := C0.2.2.2.2.2.2.1
  intro n
  induction n with
  | zero =>
    intro m3 m5 H locs ls hw
    exact hw.elim
  | succ n ih =>
    intro m3 m5 H locs ls hw hO hl
    rw [LX8_beside_40] at hw
    refine lv_iload hx hb dX8_beside_40 (lv_at hl 5 rfl) ?_
    refine lv_aload_n hx hb dX8_beside_42 rfl (lv_at hl 0 rfl) ?_
    refine x_geti C0 hO 24 10 rfl rfl (by decide) rfl iX8_beside_8 rfl (List.mem_of_getElem? (i := 1) rfl) dX8_beside_43 ?_
    refine lv_icmp_ge (tgt := 143) hx hb dX8_beside_46 (by decide) (fun c7 => ?_) (fun c7 => ?_)
    · replace hw := hw.1 c7
      exact hkx _ _ _ _ _ hw hO (lv_sub hl [0, 1, 2, 3, 4, 5] rfl)
    · replace hw := hw.2 c7
      refine lv_aload_n hx hb dX8_beside_49 rfl (lv_at hl 0 rfl) ?_
      refine x_getr C0 hO 24 11 29 rfl rfl (by decide) rfl iX8_beside_8 rfl (List.mem_of_getElem? (i := 2) rfl) dX8_beside_50 ?_
      refine lv_iload hx hb dX8_beside_53 (lv_at hl 4 rfl) ?_
      refine x_iald C0 hO 29 rfl hw.1 dX8_beside_55 ?_
      replace hw := hw.2
      refine lv_iload_n hx hb dX8_beside_56 rfl (lv_at hl 1 rfl) ?_
      refine lv_icmp_ne (tgt := 92) hx hb dX8_beside_57 (by decide) (fun c8 => ?_) (fun c8 => ?_)
      · replace hw := hw.2 c8
        refine lv_iconst (v := 0) hx hb dX8_beside_92 (by decide) ?_
        refine lv_istore (lv' := [(6, .int (0 : Int32)), (0, .ref (xa g 24)), (1, .int f1), (2, .int f2), (3, .int m3), (4, .int f4), (5, .int m5)]) hx hb dX8_beside_93 hl (by decide) rfl (fun ls hl => ?_)
        refine lv_aload_n hx hb dX8_beside_95 rfl (lv_at hl 1 rfl) ?_
        refine x_getr C0 hO 24 12 30 rfl rfl (by decide) rfl iX8_beside_8 rfl (List.mem_of_getElem? (i := 4) rfl) dX8_beside_96 ?_
        refine lv_iload hx hb dX8_beside_99 (lv_at hl 5 rfl) ?_
        refine x_iald C0 hO 30 rfl hw.1 dX8_beside_101 ?_
        replace hw := hw.2
        refine lv_aload_n hx hb dX8_beside_102 rfl (lv_at hl 1 rfl) ?_
        refine x_getr C0 hO 24 12 30 rfl rfl (by decide) rfl iX8_beside_8 rfl (List.mem_of_getElem? (i := 4) rfl) dX8_beside_103 ?_
        refine lv_iload hx hb dX8_beside_106 (lv_at hl 6 rfl) ?_
        refine x_iald C0 hO 30 rfl hw.1 dX8_beside_108 ?_
        replace hw := hw.2
        refine lv_isub hx hb dX8_beside_109 ?_
        refine lv_topi (fun x9 ex9 => ?_)
        replace hw := hw x9 ex9
        refine lv_istore (lv' := [(7, .int x9), (6, .int (0 : Int32)), (0, .ref (xa g 24)), (1, .int f1), (2, .int f2), (3, .int m3), (4, .int f4), (5, .int m5)]) hx hb dX8_beside_110 hl (by decide) rfl (fun ls hl => ?_)
        refine lv_iload_n hx hb dX8_beside_112 rfl (lv_at hl 5 rfl) ?_
        refine lv_iload hx hb dX8_beside_113 (lv_at hl 1 rfl) ?_
        refine lv_if_eq (tgt := 134) hx hb dX8_beside_115 (by decide) (fun c10 => ?_) (fun c10 => ?_)
        · replace hw := hw.1 c10
          refine lv_iconst (v := 0) hx hb dX8_beside_134 (by decide) ?_
          refine lv_iadd hx hb dX8_beside_135 ?_
          refine lv_topi (fun x11 ex11 => ?_)
          replace hw := hw x11 ex11
          refine lv_istore_n (lv' := [(3, .int x11), (7, .int x9), (6, .int (0 : Int32)), (0, .ref (xa g 24)), (1, .int f1), (2, .int f2), (4, .int f4), (5, .int m5)]) hx hb dX8_beside_136 rfl hl (by decide) rfl (fun ls hl => ?_)
          obtain ⟨x12, ex12⟩ : ∃ z : Int32, z = m5 + 1 := ⟨_, rfl⟩
          replace hw := hw x12 ex12
          refine lv_iinc (v := x12) (lv' := [(5, .int x12), (3, .int x11), (7, .int x9), (6, .int (0 : Int32)), (0, .ref (xa g 24)), (1, .int f1), (2, .int f2), (4, .int f4)]) hx hb dX8_beside_137 hl (k := 7) rfl (by rw [ex12]; rfl) (by decide) rfl (fun ls hl => ?_)
          refine lv_goto (tgt := 40) hx hb dX8_beside_140 (by decide) ?_
          exact ih _ _ _ _ _ hw hO (lv_sub hl [4, 5, 6, 1, 7, 0] rfl)
        · replace hw := hw.2 c10
          refine lv_iload hx hb dX8_beside_118 (lv_at hl 0 rfl) ?_
          refine lv_iconst (v := 1) hx hb dX8_beside_120 (by decide) ?_
          refine lv_icmp_eq (tgt := 130) hx hb dX8_beside_121 (by decide) (fun c13 => ?_) (fun c13 => ?_)
          · replace hw := hw.1 c13
            refine lv_iconst (v := 1) hx hb dX8_beside_130 (by decide) ?_
            refine lv_goto (tgt := 135) hx hb dX8_beside_131 (by decide) ?_
            refine lv_iadd hx hb dX8_beside_135 ?_
            refine lv_topi (fun x14 ex14 => ?_)
            replace hw := hw x14 ex14
            refine lv_istore_n (lv' := [(3, .int x14), (7, .int x9), (6, .int (0 : Int32)), (0, .ref (xa g 24)), (1, .int f1), (2, .int f2), (4, .int f4), (5, .int m5)]) hx hb dX8_beside_136 rfl hl (by decide) rfl (fun ls hl => ?_)
            obtain ⟨x15, ex15⟩ : ∃ z : Int32, z = m5 + 1 := ⟨_, rfl⟩
            replace hw := hw x15 ex15
            refine lv_iinc (v := x15) (lv' := [(5, .int x15), (3, .int x14), (7, .int x9), (6, .int (0 : Int32)), (0, .ref (xa g 24)), (1, .int f1), (2, .int f2), (4, .int f4)]) hx hb dX8_beside_137 hl (k := 7) rfl (by rw [ex15]; rfl) (by decide) rfl (fun ls hl => ?_)
            refine lv_goto (tgt := 40) hx hb dX8_beside_140 (by decide) ?_
            exact ih _ _ _ _ _ hw hO (lv_sub hl [4, 5, 6, 1, 7, 0] rfl)
          · replace hw := hw.2 c13
            refine lv_iload hx hb dX8_beside_124 (lv_at hl 0 rfl) ?_
            refine lv_iconst (v := -1) hx hb dX8_beside_126 (by decide) ?_
            refine lv_icmp_ne (tgt := 134) hx hb dX8_beside_127 (by decide) (fun c16 => ?_) (fun c16 => ?_)
            · replace hw := hw.2 c16
              refine lv_iconst (v := 0) hx hb dX8_beside_134 (by decide) ?_
              refine lv_iadd hx hb dX8_beside_135 ?_
              refine lv_topi (fun x17 ex17 => ?_)
              replace hw := hw x17 ex17
              refine lv_istore_n (lv' := [(3, .int x17), (7, .int x9), (6, .int (0 : Int32)), (0, .ref (xa g 24)), (1, .int f1), (2, .int f2), (4, .int f4), (5, .int m5)]) hx hb dX8_beside_136 rfl hl (by decide) rfl (fun ls hl => ?_)
              obtain ⟨x18, ex18⟩ : ∃ z : Int32, z = m5 + 1 := ⟨_, rfl⟩
              replace hw := hw x18 ex18
              refine lv_iinc (v := x18) (lv' := [(5, .int x18), (3, .int x17), (7, .int x9), (6, .int (0 : Int32)), (0, .ref (xa g 24)), (1, .int f1), (2, .int f2), (4, .int f4)]) hx hb dX8_beside_137 hl (k := 7) rfl (by rw [ex18]; rfl) (by decide) rfl (fun ls hl => ?_)
              refine lv_goto (tgt := 40) hx hb dX8_beside_140 (by decide) ?_
              exact ih _ _ _ _ _ hw hO (lv_sub hl [4, 5, 6, 1, 7, 0] rfl)
            · replace hw := hw.1 c16
              refine lv_iconst (v := 1) hx hb dX8_beside_130 (by decide) ?_
              refine lv_goto (tgt := 135) hx hb dX8_beside_131 (by decide) ?_
              refine lv_iadd hx hb dX8_beside_135 ?_
              refine lv_topi (fun x19 ex19 => ?_)
              replace hw := hw x19 ex19
              refine lv_istore_n (lv' := [(3, .int x19), (7, .int x9), (6, .int (0 : Int32)), (0, .ref (xa g 24)), (1, .int f1), (2, .int f2), (4, .int f4), (5, .int m5)]) hx hb dX8_beside_136 rfl hl (by decide) rfl (fun ls hl => ?_)
              obtain ⟨x20, ex20⟩ : ∃ z : Int32, z = m5 + 1 := ⟨_, rfl⟩
              replace hw := hw x20 ex20
              refine lv_iinc (v := x20) (lv' := [(5, .int x20), (3, .int x19), (7, .int x9), (6, .int (0 : Int32)), (0, .ref (xa g 24)), (1, .int f1), (2, .int f2), (4, .int f4)]) hx hb dX8_beside_137 hl (k := 7) rfl (by rw [ex20]; rfl) (by decide) rfl (fun ls hl => ?_)
              refine lv_goto (tgt := 40) hx hb dX8_beside_140 (by decide) ?_
              exact ih _ _ _ _ _ hw hO (lv_sub hl [4, 5, 6, 1, 7, 0] rfl)
      · replace hw := hw.1 c8
        refine lv_aload_n hx hb dX8_beside_60 rfl (lv_at hl 0 rfl) ?_
        refine x_getr C0 hO 24 11 29 rfl rfl (by decide) rfl iX8_beside_8 rfl (List.mem_of_getElem? (i := 2) rfl) dX8_beside_61 ?_
        refine lv_iload hx hb dX8_beside_64 (lv_at hl 5 rfl) ?_
        refine x_iald C0 hO 29 rfl hw.1 dX8_beside_66 ?_
        replace hw := hw.2
        refine lv_iload_n hx hb dX8_beside_67 rfl (lv_at hl 2 rfl) ?_
        refine lv_icmp_ne (tgt := 92) hx hb dX8_beside_68 (by decide) (fun c21 => ?_) (fun c21 => ?_)
        · replace hw := hw.2 c21
          refine lv_iconst (v := 0) hx hb dX8_beside_92 (by decide) ?_
          refine lv_istore (lv' := [(6, .int (0 : Int32)), (0, .ref (xa g 24)), (1, .int f1), (2, .int f2), (3, .int m3), (4, .int f4), (5, .int m5)]) hx hb dX8_beside_93 hl (by decide) rfl (fun ls hl => ?_)
          refine lv_aload_n hx hb dX8_beside_95 rfl (lv_at hl 1 rfl) ?_
          refine x_getr C0 hO 24 12 30 rfl rfl (by decide) rfl iX8_beside_8 rfl (List.mem_of_getElem? (i := 4) rfl) dX8_beside_96 ?_
          refine lv_iload hx hb dX8_beside_99 (lv_at hl 5 rfl) ?_
          refine x_iald C0 hO 30 rfl hw.1 dX8_beside_101 ?_
          replace hw := hw.2
          refine lv_aload_n hx hb dX8_beside_102 rfl (lv_at hl 1 rfl) ?_
          refine x_getr C0 hO 24 12 30 rfl rfl (by decide) rfl iX8_beside_8 rfl (List.mem_of_getElem? (i := 4) rfl) dX8_beside_103 ?_
          refine lv_iload hx hb dX8_beside_106 (lv_at hl 6 rfl) ?_
          refine x_iald C0 hO 30 rfl hw.1 dX8_beside_108 ?_
          replace hw := hw.2
          refine lv_isub hx hb dX8_beside_109 ?_
          refine lv_topi (fun x22 ex22 => ?_)
          replace hw := hw x22 ex22
          refine lv_istore (lv' := [(7, .int x22), (6, .int (0 : Int32)), (0, .ref (xa g 24)), (1, .int f1), (2, .int f2), (3, .int m3), (4, .int f4), (5, .int m5)]) hx hb dX8_beside_110 hl (by decide) rfl (fun ls hl => ?_)
          refine lv_iload_n hx hb dX8_beside_112 rfl (lv_at hl 5 rfl) ?_
          refine lv_iload hx hb dX8_beside_113 (lv_at hl 1 rfl) ?_
          refine lv_if_eq (tgt := 134) hx hb dX8_beside_115 (by decide) (fun c23 => ?_) (fun c23 => ?_)
          · replace hw := hw.1 c23
            refine lv_iconst (v := 0) hx hb dX8_beside_134 (by decide) ?_
            refine lv_iadd hx hb dX8_beside_135 ?_
            refine lv_topi (fun x24 ex24 => ?_)
            replace hw := hw x24 ex24
            refine lv_istore_n (lv' := [(3, .int x24), (7, .int x22), (6, .int (0 : Int32)), (0, .ref (xa g 24)), (1, .int f1), (2, .int f2), (4, .int f4), (5, .int m5)]) hx hb dX8_beside_136 rfl hl (by decide) rfl (fun ls hl => ?_)
            obtain ⟨x25, ex25⟩ : ∃ z : Int32, z = m5 + 1 := ⟨_, rfl⟩
            replace hw := hw x25 ex25
            refine lv_iinc (v := x25) (lv' := [(5, .int x25), (3, .int x24), (7, .int x22), (6, .int (0 : Int32)), (0, .ref (xa g 24)), (1, .int f1), (2, .int f2), (4, .int f4)]) hx hb dX8_beside_137 hl (k := 7) rfl (by rw [ex25]; rfl) (by decide) rfl (fun ls hl => ?_)
            refine lv_goto (tgt := 40) hx hb dX8_beside_140 (by decide) ?_
            exact ih _ _ _ _ _ hw hO (lv_sub hl [4, 5, 6, 1, 7, 0] rfl)
          · replace hw := hw.2 c23
            refine lv_iload hx hb dX8_beside_118 (lv_at hl 0 rfl) ?_
            refine lv_iconst (v := 1) hx hb dX8_beside_120 (by decide) ?_
            refine lv_icmp_eq (tgt := 130) hx hb dX8_beside_121 (by decide) (fun c26 => ?_) (fun c26 => ?_)
            · replace hw := hw.1 c26
              refine lv_iconst (v := 1) hx hb dX8_beside_130 (by decide) ?_
              refine lv_goto (tgt := 135) hx hb dX8_beside_131 (by decide) ?_
              refine lv_iadd hx hb dX8_beside_135 ?_
              refine lv_topi (fun x27 ex27 => ?_)
              replace hw := hw x27 ex27
              refine lv_istore_n (lv' := [(3, .int x27), (7, .int x22), (6, .int (0 : Int32)), (0, .ref (xa g 24)), (1, .int f1), (2, .int f2), (4, .int f4), (5, .int m5)]) hx hb dX8_beside_136 rfl hl (by decide) rfl (fun ls hl => ?_)
              obtain ⟨x28, ex28⟩ : ∃ z : Int32, z = m5 + 1 := ⟨_, rfl⟩
              replace hw := hw x28 ex28
              refine lv_iinc (v := x28) (lv' := [(5, .int x28), (3, .int x27), (7, .int x22), (6, .int (0 : Int32)), (0, .ref (xa g 24)), (1, .int f1), (2, .int f2), (4, .int f4)]) hx hb dX8_beside_137 hl (k := 7) rfl (by rw [ex28]; rfl) (by decide) rfl (fun ls hl => ?_)
              refine lv_goto (tgt := 40) hx hb dX8_beside_140 (by decide) ?_
              exact ih _ _ _ _ _ hw hO (lv_sub hl [4, 5, 6, 1, 7, 0] rfl)
            · replace hw := hw.2 c26
              refine lv_iload hx hb dX8_beside_124 (lv_at hl 0 rfl) ?_
              refine lv_iconst (v := -1) hx hb dX8_beside_126 (by decide) ?_
              refine lv_icmp_ne (tgt := 134) hx hb dX8_beside_127 (by decide) (fun c29 => ?_) (fun c29 => ?_)
              · replace hw := hw.2 c29
                refine lv_iconst (v := 0) hx hb dX8_beside_134 (by decide) ?_
                refine lv_iadd hx hb dX8_beside_135 ?_
                refine lv_topi (fun x30 ex30 => ?_)
                replace hw := hw x30 ex30
                refine lv_istore_n (lv' := [(3, .int x30), (7, .int x22), (6, .int (0 : Int32)), (0, .ref (xa g 24)), (1, .int f1), (2, .int f2), (4, .int f4), (5, .int m5)]) hx hb dX8_beside_136 rfl hl (by decide) rfl (fun ls hl => ?_)
                obtain ⟨x31, ex31⟩ : ∃ z : Int32, z = m5 + 1 := ⟨_, rfl⟩
                replace hw := hw x31 ex31
                refine lv_iinc (v := x31) (lv' := [(5, .int x31), (3, .int x30), (7, .int x22), (6, .int (0 : Int32)), (0, .ref (xa g 24)), (1, .int f1), (2, .int f2), (4, .int f4)]) hx hb dX8_beside_137 hl (k := 7) rfl (by rw [ex31]; rfl) (by decide) rfl (fun ls hl => ?_)
                refine lv_goto (tgt := 40) hx hb dX8_beside_140 (by decide) ?_
                exact ih _ _ _ _ _ hw hO (lv_sub hl [4, 5, 6, 1, 7, 0] rfl)
              · replace hw := hw.1 c29
                refine lv_iconst (v := 1) hx hb dX8_beside_130 (by decide) ?_
                refine lv_goto (tgt := 135) hx hb dX8_beside_131 (by decide) ?_
                refine lv_iadd hx hb dX8_beside_135 ?_
                refine lv_topi (fun x32 ex32 => ?_)
                replace hw := hw x32 ex32
                refine lv_istore_n (lv' := [(3, .int x32), (7, .int x22), (6, .int (0 : Int32)), (0, .ref (xa g 24)), (1, .int f1), (2, .int f2), (4, .int f4), (5, .int m5)]) hx hb dX8_beside_136 rfl hl (by decide) rfl (fun ls hl => ?_)
                obtain ⟨x33, ex33⟩ : ∃ z : Int32, z = m5 + 1 := ⟨_, rfl⟩
                replace hw := hw x33 ex33
                refine lv_iinc (v := x33) (lv' := [(5, .int x33), (3, .int x32), (7, .int x22), (6, .int (0 : Int32)), (0, .ref (xa g 24)), (1, .int f1), (2, .int f2), (4, .int f4)]) hx hb dX8_beside_137 hl (k := 7) rfl (by rw [ex33]; rfl) (by decide) rfl (fun ls hl => ?_)
                refine lv_goto (tgt := 40) hx hb dX8_beside_140 (by decide) ?_
                exact ih _ _ _ _ _ hw hO (lv_sub hl [4, 5, 6, 1, 7, 0] rfl)
        · replace hw := hw.1 c21
          refine lv_aload_n hx hb dX8_beside_71 rfl (lv_at hl 0 rfl) ?_
          refine x_getr C0 hO 24 13 31 rfl rfl (by decide) rfl iX8_beside_8 rfl (List.mem_of_getElem? (i := 3) rfl) dX8_beside_72 ?_
          refine lv_iload hx hb dX8_beside_75 (lv_at hl 4 rfl) ?_
          refine x_iald C0 hO 31 rfl hw.1 dX8_beside_77 ?_
          replace hw := hw.2
          refine lv_aload_n hx hb dX8_beside_78 rfl (lv_at hl 0 rfl) ?_
          refine x_getr C0 hO 24 13 31 rfl rfl (by decide) rfl iX8_beside_8 rfl (List.mem_of_getElem? (i := 3) rfl) dX8_beside_79 ?_
          refine lv_iload hx hb dX8_beside_82 (lv_at hl 5 rfl) ?_
          refine x_iald C0 hO 31 rfl hw.1 dX8_beside_84 ?_
          replace hw := hw.2
          refine lv_icmp_ne (tgt := 92) hx hb dX8_beside_85 (by decide) (fun c34 => ?_) (fun c34 => ?_)
          · replace hw := hw.2 c34
            refine lv_iconst (v := 0) hx hb dX8_beside_92 (by decide) ?_
            refine lv_istore (lv' := [(6, .int (0 : Int32)), (0, .ref (xa g 24)), (1, .int f1), (2, .int f2), (3, .int m3), (4, .int f4), (5, .int m5)]) hx hb dX8_beside_93 hl (by decide) rfl (fun ls hl => ?_)
            refine lv_aload_n hx hb dX8_beside_95 rfl (lv_at hl 1 rfl) ?_
            refine x_getr C0 hO 24 12 30 rfl rfl (by decide) rfl iX8_beside_8 rfl (List.mem_of_getElem? (i := 4) rfl) dX8_beside_96 ?_
            refine lv_iload hx hb dX8_beside_99 (lv_at hl 5 rfl) ?_
            refine x_iald C0 hO 30 rfl hw.1 dX8_beside_101 ?_
            replace hw := hw.2
            refine lv_aload_n hx hb dX8_beside_102 rfl (lv_at hl 1 rfl) ?_
            refine x_getr C0 hO 24 12 30 rfl rfl (by decide) rfl iX8_beside_8 rfl (List.mem_of_getElem? (i := 4) rfl) dX8_beside_103 ?_
            refine lv_iload hx hb dX8_beside_106 (lv_at hl 6 rfl) ?_
            refine x_iald C0 hO 30 rfl hw.1 dX8_beside_108 ?_
            replace hw := hw.2
            refine lv_isub hx hb dX8_beside_109 ?_
            refine lv_topi (fun x35 ex35 => ?_)
            replace hw := hw x35 ex35
            refine lv_istore (lv' := [(7, .int x35), (6, .int (0 : Int32)), (0, .ref (xa g 24)), (1, .int f1), (2, .int f2), (3, .int m3), (4, .int f4), (5, .int m5)]) hx hb dX8_beside_110 hl (by decide) rfl (fun ls hl => ?_)
            refine lv_iload_n hx hb dX8_beside_112 rfl (lv_at hl 5 rfl) ?_
            refine lv_iload hx hb dX8_beside_113 (lv_at hl 1 rfl) ?_
            refine lv_if_eq (tgt := 134) hx hb dX8_beside_115 (by decide) (fun c36 => ?_) (fun c36 => ?_)
            · replace hw := hw.1 c36
              refine lv_iconst (v := 0) hx hb dX8_beside_134 (by decide) ?_
              refine lv_iadd hx hb dX8_beside_135 ?_
              refine lv_topi (fun x37 ex37 => ?_)
              replace hw := hw x37 ex37
              refine lv_istore_n (lv' := [(3, .int x37), (7, .int x35), (6, .int (0 : Int32)), (0, .ref (xa g 24)), (1, .int f1), (2, .int f2), (4, .int f4), (5, .int m5)]) hx hb dX8_beside_136 rfl hl (by decide) rfl (fun ls hl => ?_)
              obtain ⟨x38, ex38⟩ : ∃ z : Int32, z = m5 + 1 := ⟨_, rfl⟩
              replace hw := hw x38 ex38
              refine lv_iinc (v := x38) (lv' := [(5, .int x38), (3, .int x37), (7, .int x35), (6, .int (0 : Int32)), (0, .ref (xa g 24)), (1, .int f1), (2, .int f2), (4, .int f4)]) hx hb dX8_beside_137 hl (k := 7) rfl (by rw [ex38]; rfl) (by decide) rfl (fun ls hl => ?_)
              refine lv_goto (tgt := 40) hx hb dX8_beside_140 (by decide) ?_
              exact ih _ _ _ _ _ hw hO (lv_sub hl [4, 5, 6, 1, 7, 0] rfl)
            · replace hw := hw.2 c36
              refine lv_iload hx hb dX8_beside_118 (lv_at hl 0 rfl) ?_
              refine lv_iconst (v := 1) hx hb dX8_beside_120 (by decide) ?_
              refine lv_icmp_eq (tgt := 130) hx hb dX8_beside_121 (by decide) (fun c39 => ?_) (fun c39 => ?_)
              · replace hw := hw.1 c39
                refine lv_iconst (v := 1) hx hb dX8_beside_130 (by decide) ?_
                refine lv_goto (tgt := 135) hx hb dX8_beside_131 (by decide) ?_
                refine lv_iadd hx hb dX8_beside_135 ?_
                refine lv_topi (fun x40 ex40 => ?_)
                replace hw := hw x40 ex40
                refine lv_istore_n (lv' := [(3, .int x40), (7, .int x35), (6, .int (0 : Int32)), (0, .ref (xa g 24)), (1, .int f1), (2, .int f2), (4, .int f4), (5, .int m5)]) hx hb dX8_beside_136 rfl hl (by decide) rfl (fun ls hl => ?_)
                obtain ⟨x41, ex41⟩ : ∃ z : Int32, z = m5 + 1 := ⟨_, rfl⟩
                replace hw := hw x41 ex41
                refine lv_iinc (v := x41) (lv' := [(5, .int x41), (3, .int x40), (7, .int x35), (6, .int (0 : Int32)), (0, .ref (xa g 24)), (1, .int f1), (2, .int f2), (4, .int f4)]) hx hb dX8_beside_137 hl (k := 7) rfl (by rw [ex41]; rfl) (by decide) rfl (fun ls hl => ?_)
                refine lv_goto (tgt := 40) hx hb dX8_beside_140 (by decide) ?_
                exact ih _ _ _ _ _ hw hO (lv_sub hl [4, 5, 6, 1, 7, 0] rfl)
              · replace hw := hw.2 c39
                refine lv_iload hx hb dX8_beside_124 (lv_at hl 0 rfl) ?_
                refine lv_iconst (v := -1) hx hb dX8_beside_126 (by decide) ?_
                refine lv_icmp_ne (tgt := 134) hx hb dX8_beside_127 (by decide) (fun c42 => ?_) (fun c42 => ?_)
                · replace hw := hw.2 c42
                  refine lv_iconst (v := 0) hx hb dX8_beside_134 (by decide) ?_
                  refine lv_iadd hx hb dX8_beside_135 ?_
                  refine lv_topi (fun x43 ex43 => ?_)
                  replace hw := hw x43 ex43
                  refine lv_istore_n (lv' := [(3, .int x43), (7, .int x35), (6, .int (0 : Int32)), (0, .ref (xa g 24)), (1, .int f1), (2, .int f2), (4, .int f4), (5, .int m5)]) hx hb dX8_beside_136 rfl hl (by decide) rfl (fun ls hl => ?_)
                  obtain ⟨x44, ex44⟩ : ∃ z : Int32, z = m5 + 1 := ⟨_, rfl⟩
                  replace hw := hw x44 ex44
                  refine lv_iinc (v := x44) (lv' := [(5, .int x44), (3, .int x43), (7, .int x35), (6, .int (0 : Int32)), (0, .ref (xa g 24)), (1, .int f1), (2, .int f2), (4, .int f4)]) hx hb dX8_beside_137 hl (k := 7) rfl (by rw [ex44]; rfl) (by decide) rfl (fun ls hl => ?_)
                  refine lv_goto (tgt := 40) hx hb dX8_beside_140 (by decide) ?_
                  exact ih _ _ _ _ _ hw hO (lv_sub hl [4, 5, 6, 1, 7, 0] rfl)
                · replace hw := hw.1 c42
                  refine lv_iconst (v := 1) hx hb dX8_beside_130 (by decide) ?_
                  refine lv_goto (tgt := 135) hx hb dX8_beside_131 (by decide) ?_
                  refine lv_iadd hx hb dX8_beside_135 ?_
                  refine lv_topi (fun x45 ex45 => ?_)
                  replace hw := hw x45 ex45
                  refine lv_istore_n (lv' := [(3, .int x45), (7, .int x35), (6, .int (0 : Int32)), (0, .ref (xa g 24)), (1, .int f1), (2, .int f2), (4, .int f4), (5, .int m5)]) hx hb dX8_beside_136 rfl hl (by decide) rfl (fun ls hl => ?_)
                  obtain ⟨x46, ex46⟩ : ∃ z : Int32, z = m5 + 1 := ⟨_, rfl⟩
                  replace hw := hw x46 ex46
                  refine lv_iinc (v := x46) (lv' := [(5, .int x46), (3, .int x45), (7, .int x35), (6, .int (0 : Int32)), (0, .ref (xa g 24)), (1, .int f1), (2, .int f2), (4, .int f4)]) hx hb dX8_beside_137 hl (k := 7) rfl (by rw [ex46]; rfl) (by decide) rfl (fun ls hl => ?_)
                  refine lv_goto (tgt := 40) hx hb dX8_beside_140 (by decide) ?_
                  exact ih _ _ _ _ _ hw hO (lv_sub hl [4, 5, 6, 1, 7, 0] rfl)
          · replace hw := hw.1 c34
            refine lv_iconst (v := 1) hx hb dX8_beside_88 (by decide) ?_
            refine lv_goto (tgt := 93) hx hb dX8_beside_89 (by decide) ?_
            refine lv_istore (lv' := [(6, .int (1 : Int32)), (0, .ref (xa g 24)), (1, .int f1), (2, .int f2), (3, .int m3), (4, .int f4), (5, .int m5)]) hx hb dX8_beside_93 hl (by decide) rfl (fun ls hl => ?_)
            refine lv_aload_n hx hb dX8_beside_95 rfl (lv_at hl 1 rfl) ?_
            refine x_getr C0 hO 24 12 30 rfl rfl (by decide) rfl iX8_beside_8 rfl (List.mem_of_getElem? (i := 4) rfl) dX8_beside_96 ?_
            refine lv_iload hx hb dX8_beside_99 (lv_at hl 5 rfl) ?_
            refine x_iald C0 hO 30 rfl hw.1 dX8_beside_101 ?_
            replace hw := hw.2
            refine lv_aload_n hx hb dX8_beside_102 rfl (lv_at hl 1 rfl) ?_
            refine x_getr C0 hO 24 12 30 rfl rfl (by decide) rfl iX8_beside_8 rfl (List.mem_of_getElem? (i := 4) rfl) dX8_beside_103 ?_
            refine lv_iload hx hb dX8_beside_106 (lv_at hl 6 rfl) ?_
            refine x_iald C0 hO 30 rfl hw.1 dX8_beside_108 ?_
            replace hw := hw.2
            refine lv_isub hx hb dX8_beside_109 ?_
            refine lv_topi (fun x47 ex47 => ?_)
            replace hw := hw x47 ex47
            refine lv_istore (lv' := [(7, .int x47), (6, .int (1 : Int32)), (0, .ref (xa g 24)), (1, .int f1), (2, .int f2), (3, .int m3), (4, .int f4), (5, .int m5)]) hx hb dX8_beside_110 hl (by decide) rfl (fun ls hl => ?_)
            refine lv_iload_n hx hb dX8_beside_112 rfl (lv_at hl 5 rfl) ?_
            refine lv_iload hx hb dX8_beside_113 (lv_at hl 1 rfl) ?_
            refine lv_if_eq (tgt := 134) hx hb dX8_beside_115 (by decide) (fun c48 => ?_) (fun c48 => ?_)
            · replace hw := hw.1 c48
              refine lv_iconst (v := 0) hx hb dX8_beside_134 (by decide) ?_
              refine lv_iadd hx hb dX8_beside_135 ?_
              refine lv_topi (fun x49 ex49 => ?_)
              replace hw := hw x49 ex49
              refine lv_istore_n (lv' := [(3, .int x49), (7, .int x47), (6, .int (1 : Int32)), (0, .ref (xa g 24)), (1, .int f1), (2, .int f2), (4, .int f4), (5, .int m5)]) hx hb dX8_beside_136 rfl hl (by decide) rfl (fun ls hl => ?_)
              obtain ⟨x50, ex50⟩ : ∃ z : Int32, z = m5 + 1 := ⟨_, rfl⟩
              replace hw := hw x50 ex50
              refine lv_iinc (v := x50) (lv' := [(5, .int x50), (3, .int x49), (7, .int x47), (6, .int (1 : Int32)), (0, .ref (xa g 24)), (1, .int f1), (2, .int f2), (4, .int f4)]) hx hb dX8_beside_137 hl (k := 7) rfl (by rw [ex50]; rfl) (by decide) rfl (fun ls hl => ?_)
              refine lv_goto (tgt := 40) hx hb dX8_beside_140 (by decide) ?_
              exact ih _ _ _ _ _ hw hO (lv_sub hl [4, 5, 6, 1, 7, 0] rfl)
            · replace hw := hw.2 c48
              refine lv_iload hx hb dX8_beside_118 (lv_at hl 0 rfl) ?_
              refine lv_iconst (v := 1) hx hb dX8_beside_120 (by decide) ?_
              refine lv_icmp_eq (tgt := 130) hx hb dX8_beside_121 (by decide) (fun c51 => ?_) (fun c51 => ?_)
              · replace hw := hw.1 c51
                refine lv_iconst (v := 1) hx hb dX8_beside_130 (by decide) ?_
                refine lv_goto (tgt := 135) hx hb dX8_beside_131 (by decide) ?_
                refine lv_iadd hx hb dX8_beside_135 ?_
                refine lv_topi (fun x52 ex52 => ?_)
                replace hw := hw x52 ex52
                refine lv_istore_n (lv' := [(3, .int x52), (7, .int x47), (6, .int (1 : Int32)), (0, .ref (xa g 24)), (1, .int f1), (2, .int f2), (4, .int f4), (5, .int m5)]) hx hb dX8_beside_136 rfl hl (by decide) rfl (fun ls hl => ?_)
                obtain ⟨x53, ex53⟩ : ∃ z : Int32, z = m5 + 1 := ⟨_, rfl⟩
                replace hw := hw x53 ex53
                refine lv_iinc (v := x53) (lv' := [(5, .int x53), (3, .int x52), (7, .int x47), (6, .int (1 : Int32)), (0, .ref (xa g 24)), (1, .int f1), (2, .int f2), (4, .int f4)]) hx hb dX8_beside_137 hl (k := 7) rfl (by rw [ex53]; rfl) (by decide) rfl (fun ls hl => ?_)
                refine lv_goto (tgt := 40) hx hb dX8_beside_140 (by decide) ?_
                exact ih _ _ _ _ _ hw hO (lv_sub hl [4, 5, 6, 1, 7, 0] rfl)
              · replace hw := hw.2 c51
                refine lv_iload hx hb dX8_beside_124 (lv_at hl 0 rfl) ?_
                refine lv_iconst (v := -1) hx hb dX8_beside_126 (by decide) ?_
                refine lv_icmp_ne (tgt := 134) hx hb dX8_beside_127 (by decide) (fun c54 => ?_) (fun c54 => ?_)
                · replace hw := hw.2 c54
                  refine lv_iconst (v := 0) hx hb dX8_beside_134 (by decide) ?_
                  refine lv_iadd hx hb dX8_beside_135 ?_
                  refine lv_topi (fun x55 ex55 => ?_)
                  replace hw := hw x55 ex55
                  refine lv_istore_n (lv' := [(3, .int x55), (7, .int x47), (6, .int (1 : Int32)), (0, .ref (xa g 24)), (1, .int f1), (2, .int f2), (4, .int f4), (5, .int m5)]) hx hb dX8_beside_136 rfl hl (by decide) rfl (fun ls hl => ?_)
                  obtain ⟨x56, ex56⟩ : ∃ z : Int32, z = m5 + 1 := ⟨_, rfl⟩
                  replace hw := hw x56 ex56
                  refine lv_iinc (v := x56) (lv' := [(5, .int x56), (3, .int x55), (7, .int x47), (6, .int (1 : Int32)), (0, .ref (xa g 24)), (1, .int f1), (2, .int f2), (4, .int f4)]) hx hb dX8_beside_137 hl (k := 7) rfl (by rw [ex56]; rfl) (by decide) rfl (fun ls hl => ?_)
                  refine lv_goto (tgt := 40) hx hb dX8_beside_140 (by decide) ?_
                  exact ih _ _ _ _ _ hw hO (lv_sub hl [4, 5, 6, 1, 7, 0] rfl)
                · replace hw := hw.1 c54
                  refine lv_iconst (v := 1) hx hb dX8_beside_130 (by decide) ?_
                  refine lv_goto (tgt := 135) hx hb dX8_beside_131 (by decide) ?_
                  refine lv_iadd hx hb dX8_beside_135 ?_
                  refine lv_topi (fun x57 ex57 => ?_)
                  replace hw := hw x57 ex57
                  refine lv_istore_n (lv' := [(3, .int x57), (7, .int x47), (6, .int (1 : Int32)), (0, .ref (xa g 24)), (1, .int f1), (2, .int f2), (4, .int f4), (5, .int m5)]) hx hb dX8_beside_136 rfl hl (by decide) rfl (fun ls hl => ?_)
                  obtain ⟨x58, ex58⟩ : ∃ z : Int32, z = m5 + 1 := ⟨_, rfl⟩
                  replace hw := hw x58 ex58
                  refine lv_iinc (v := x58) (lv' := [(5, .int x58), (3, .int x57), (7, .int x47), (6, .int (1 : Int32)), (0, .ref (xa g 24)), (1, .int f1), (2, .int f2), (4, .int f4)]) hx hb dX8_beside_137 hl (k := 7) rfl (by rw [ex58]; rfl) (by decide) rfl (fun ls hl => ?_)
                  refine lv_goto (tgt := 40) hx hb dX8_beside_140 (by decide) ?_
                  exact ih _ _ _ _ _ hw hO (lv_sub hl [4, 5, 6, 1, 7, 0] rfl)
set_option maxHeartbeats 4000000 in
set_option maxRecDepth 100000 in
theorem lX8_beside_28 {p : Program} {l : Launch} {e : Env} {s : State} {m : MethodId} {args : Array Value} {below : List Frame} {meth : Method} {c : Code} {g : XG} {A : Nat → Prop} (C0 : xC g A wsX8_beside RX8 cX8_beside 8 (some .int) p s m args meth c) (σ : XS) (f1 : Int32) (f2 : Int32) (post : Int32 → Prop) (kx : Int32 → Int32 → Prop)
    (hkx : ∀ (m3 : Int32) (m4 : Int32) (H : Heap) (locs : List Loc) (ls : Array Slot), kx m3 m4 → xO g A s σ H locs → lv_has ls 8 [(0, .ref (xa g 24)), (1, .int f1), (2, .int f2), (3, .int m3), (4, .int m4)] → W p l e (headSpec wsX8_beside rmX8_beside).room s m args below meth c H locs 0 0 (MQ below (va_Qi (fun r u => σ = u ∧ post r) (xAt g A) A) args s 0 0 A) (F0 m 149 ls [])) :
    ∀ (n : Nat) (m3 : Int32) (m4 : Int32) (H : Heap) (locs : List Loc) (ls : Array Slot), LX8_beside_28 σ f1 f2 post kx n m3 m4 → xO g A s σ H locs → lv_has ls 8 [(0, .ref (xa g 24)), (1, .int f1), (2, .int f2), (3, .int m3), (4, .int m4)] → W p l e (headSpec wsX8_beside rmX8_beside).room s m args below meth c H locs 0 0 (MQ below (va_Qi (fun r u => σ = u ∧ post r) (xAt g A) A) args s 0 0 A) (F0 m 28 ls []) := by
  have hx := C0.1
  have hb := C0.2.1
  have hown := C0.2.2.2.2.2.1
  have hts := C0.2.2.2.2.2.2.1
  intro n
  induction n with
  | zero =>
    intro m3 m4 H locs ls hw
    exact hw.elim
  | succ n ih =>
    intro m3 m4 H locs ls hw hO hl
    rw [LX8_beside_28] at hw
    refine lv_iload hx hb dX8_beside_28 (lv_at hl 4 rfl) ?_
    refine lv_aload_n hx hb dX8_beside_30 rfl (lv_at hl 0 rfl) ?_
    refine x_geti C0 hO 24 10 rfl rfl (by decide) rfl iX8_beside_8 rfl (List.mem_of_getElem? (i := 1) rfl) dX8_beside_31 ?_
    refine lv_icmp_ge (tgt := 149) hx hb dX8_beside_34 (by decide) (fun c6 => ?_) (fun c6 => ?_)
    · replace hw := hw.1 c6
      exact hkx _ _ _ _ _ hw hO (lv_sub hl [0, 1, 2, 3, 4] rfl)
    · replace hw := hw.2 c6
      refine lv_iconst (v := 0) hx hb dX8_beside_37 (by decide) ?_
      refine lv_istore (lv' := [(5, .int (0 : Int32)), (0, .ref (xa g 24)), (1, .int f1), (2, .int f2), (3, .int m3), (4, .int m4)]) hx hb dX8_beside_38 hl (by decide) rfl (fun ls hl => ?_)
      refine lX8_beside_40 C0 σ f1 f2 m4 post _ (fun x59 x60 H locs ls hw hO hl => ?_) 1000 _ _ _ _ _ hw hO (lv_sub hl [1, 2, 3, 4, 5, 0] rfl)
      obtain ⟨x61, ex61⟩ : ∃ z : Int32, z = m4 + 1 := ⟨_, rfl⟩
      replace hw := hw x61 ex61
      refine lv_iinc (v := x61) (lv' := [(4, .int x61), (0, .ref (xa g 24)), (1, .int f1), (2, .int f2), (3, .int x59), (5, .int x60)]) hx hb dX8_beside_143 hl (k := 4) rfl (by rw [ex61]; rfl) (by decide) rfl (fun ls hl => ?_)
      refine lv_goto (tgt := 28) hx hb dX8_beside_146 (by decide) ?_
      exact ih _ _ _ _ _ hw hO (lv_sub hl [1, 2, 3, 4, 0] rfl)
set_option maxHeartbeats 4000000 in
set_option maxRecDepth 100000 in
theorem kX8_beside (l : Launch) (g : XG) (sz : Nat) (a1 : Int32) (a2 : Int32) (σ : XS) (post : Int32 → Prop) (hw : PX8_beside a1 a2 σ post) : xMi l yX8_beside wsX8_beside rmX8_beside 0 0 g sz [.ref (xa g 24), .int a1, .int a2] σ (fun r u => σ = u ∧ post r) := by
  unfold PX8_beside at hw
  refine x_head (Qc := fun A => va_Qi (fun r u => σ = u ∧ post r) (xAt g A) A) (cc := cX8_beside) (maxL := 8) (ret := (some .int)) (by decide) rfl ?_
  intro p e s m below meth c A C0 hnm hO
  refine x_entry (Nat.le_of_ble_eq_true rfl) (fun ls hl => ?_)
  have hl : lv_has ls 8 [(0, .ref (xa g 24)), (1, .int a1), (2, .int a2)] := hl
  have hx := C0.1
  have hb := C0.2.1
  have hown := C0.2.2.2.2.2.1
  have hts := C0.2.2.2.2.2.2.1
  refine lv_aload_n hx hb dX8_beside_0 rfl (lv_at hl 0 rfl) ?_
  refine lv_iload_n hx hb dX8_beside_1 rfl (lv_at hl 1 rfl) ?_
  refine x_calli C0 hO (x_runV (As := [.int a1]) (rest := []) C0 hO (kX8_noPerson l g _ a1 σ _ hw) 1 rfl (xRecv C0 hO (j := 24) rfl rfl) gX8_beside_X8_noPerson rfl rfl rfl hdX8_noPerson ⟨Nat.le_of_ble_eq_true rfl, Nat.le_of_ble_eq_true rfl⟩ hl.1 rfl (Nat.le_of_ble_eq_true rfl) dX8_beside_2 ⟨Nat.le_of_ble_eq_true rfl, Nat.le_of_ble_eq_true rfl⟩) (fun r1 σ' H locs hw hO => ?_)
  obtain ⟨hσ, hw⟩ := hw
  subst hσ
  refine lv_if_ne (tgt := 21) hx hb dX8_beside_5 (by decide) (fun c2 => ?_) (fun c2 => ?_)
  · replace hw := hw.2 c2
    refine lv_iconst (v := -1) hx hb dX8_beside_21 (by decide) ?_
    exact x_iret C0 hO ⟨rfl, hw⟩ dX8_beside_22
  · replace hw := hw.1 c2
    refine lv_aload_n hx hb dX8_beside_8 rfl (lv_at hl 0 rfl) ?_
    refine lv_iload_n hx hb dX8_beside_9 rfl (lv_at hl 2 rfl) ?_
    refine x_calli C0 hO (x_runV (As := [.int a2]) (rest := []) C0 hO (kX8_noPerson l g _ a2 σ _ hw) 1 rfl (xRecv C0 hO (j := 24) rfl rfl) gX8_beside_X8_noPerson rfl rfl rfl hdX8_noPerson ⟨Nat.le_of_ble_eq_true rfl, Nat.le_of_ble_eq_true rfl⟩ hl.1 rfl (Nat.le_of_ble_eq_true rfl) dX8_beside_10 ⟨Nat.le_of_ble_eq_true rfl, Nat.le_of_ble_eq_true rfl⟩) (fun r3 σ' H locs hw hO => ?_)
    obtain ⟨hσ, hw⟩ := hw
    subst hσ
    refine lv_if_ne (tgt := 21) hx hb dX8_beside_13 (by decide) (fun c4 => ?_) (fun c4 => ?_)
    · replace hw := hw.2 c4
      refine lv_iconst (v := -1) hx hb dX8_beside_21 (by decide) ?_
      exact x_iret C0 hO ⟨rfl, hw⟩ dX8_beside_22
    · replace hw := hw.1 c4
      refine lv_iload_n hx hb dX8_beside_16 rfl (lv_at hl 1 rfl) ?_
      refine lv_iload_n hx hb dX8_beside_17 rfl (lv_at hl 2 rfl) ?_
      refine lv_icmp_ne (tgt := 23) hx hb dX8_beside_18 (by decide) (fun c5 => ?_) (fun c5 => ?_)
      · replace hw := hw.2 c5
        refine lv_iconst (v := 0) hx hb dX8_beside_23 (by decide) ?_
        refine lv_istore_n (lv' := [(3, .int (0 : Int32)), (0, .ref (xa g 24)), (1, .int a1), (2, .int a2)]) hx hb dX8_beside_24 rfl hl (by decide) rfl (fun ls hl => ?_)
        refine lv_iconst (v := 0) hx hb dX8_beside_25 (by decide) ?_
        refine lv_istore (lv' := [(4, .int (0 : Int32)), (3, .int (0 : Int32)), (0, .ref (xa g 24)), (1, .int a1), (2, .int a2)]) hx hb dX8_beside_26 hl (by decide) rfl (fun ls hl => ?_)
        refine lX8_beside_28 C0 σ a1 a2 post _ (fun x62 x63 H locs ls hw hO hl => ?_) 1000 _ _ _ _ _ hw hO (lv_sub hl [2, 3, 4, 1, 0] rfl)
        refine lv_iload_n hx hb dX8_beside_149 rfl (lv_at hl 3 rfl) ?_
        exact x_iret C0 hO ⟨rfl, hw⟩ dX8_beside_150
      · replace hw := hw.1 c5
        refine lv_iconst (v := -1) hx hb dX8_beside_21 (by decide) ?_
        exact x_iret C0 hO ⟨rfl, hw⟩ dX8_beside_22
theorem iX8_oftenAt_8 : ∀ w ∈ wsX80, w ∈ wsX8_oftenAt := fun w h => List.mem_cons_of_mem _ (List.mem_append_right _ h)
theorem hdX8_oftenAt : yX8_oftenAt.cls = RX8 ∧ yX8_oftenAt.cls ≠ "java/lang/invoke/MethodHandle" ∧ yX8_oftenAt.cls ≠ "java/lang/invoke/VarHandle" ∧ (parseMethodDescriptor yX8_oftenAt.desc).map (fun d => d.parameters.length) = some 2 := by decide +kernel
set_option maxHeartbeats 4000000 in
set_option maxRecDepth 100000 in
theorem lX8_oftenAt_5 {p : Program} {l : Launch} {e : Env} {s : State} {m : MethodId} {args : Array Value} {below : List Frame} {meth : Method} {c : Code} {g : XG} {A : Nat → Prop} (C0 : xC g A wsX8_oftenAt RX8 cX8_oftenAt 5 (some .int) p s m args meth c) (σ : XS) (f1 : Int32) (f2 : Int32) (post : Int32 → Prop) (kx : Int32 → Int32 → Prop)
    (hkx : ∀ (m3 : Int32) (m4 : Int32) (H : Heap) (locs : List Loc) (ls : Array Slot), kx m3 m4 → xO g A s σ H locs → lv_has ls 5 [(0, .ref (xa g 24)), (1, .int f1), (2, .int f2), (3, .int m3), (4, .int m4)] → W p l e (headSpec wsX8_oftenAt rmX8_oftenAt).room s m args below meth c H locs 0 0 (MQ below (va_Qi (fun r u => σ = u ∧ post r) (xAt g A) A) args s 0 0 A) (F0 m 50 ls [])) :
    ∀ (n : Nat) (m3 : Int32) (m4 : Int32) (H : Heap) (locs : List Loc) (ls : Array Slot), LX8_oftenAt_5 σ f1 f2 post kx n m3 m4 → xO g A s σ H locs → lv_has ls 5 [(0, .ref (xa g 24)), (1, .int f1), (2, .int f2), (3, .int m3), (4, .int m4)] → W p l e (headSpec wsX8_oftenAt rmX8_oftenAt).room s m args below meth c H locs 0 0 (MQ below (va_Qi (fun r u => σ = u ∧ post r) (xAt g A) A) args s 0 0 A) (F0 m 5 ls []) := by
  have hx := C0.1
  have hb := C0.2.1
  have hown := C0.2.2.2.2.2.1
  have hts := C0.2.2.2.2.2.2.1
  intro n
  induction n with
  | zero =>
    intro m3 m4 H locs ls hw
    exact hw.elim
  | succ n ih =>
    intro m3 m4 H locs ls hw hO hl
    rw [LX8_oftenAt_5] at hw
    refine lv_iload hx hb dX8_oftenAt_5 (lv_at hl 4 rfl) ?_
    refine lv_aload_n hx hb dX8_oftenAt_7 rfl (lv_at hl 0 rfl) ?_
    refine x_geti C0 hO 24 10 rfl rfl (by decide) rfl iX8_oftenAt_8 rfl (List.mem_of_getElem? (i := 1) rfl) dX8_oftenAt_8 ?_
    refine lv_icmp_ge (tgt := 50) hx hb dX8_oftenAt_11 (by decide) (fun c1 => ?_) (fun c1 => ?_)
    · replace hw := hw.1 c1
      exact hkx _ _ _ _ _ hw hO (lv_sub hl [0, 1, 2, 3, 4] rfl)
    · replace hw := hw.2 c1
      refine lv_iload_n hx hb dX8_oftenAt_14 rfl (lv_at hl 3 rfl) ?_
      refine lv_aload_n hx hb dX8_oftenAt_15 rfl (lv_at hl 0 rfl) ?_
      refine x_getr C0 hO 24 11 29 rfl rfl (by decide) rfl iX8_oftenAt_8 rfl (List.mem_of_getElem? (i := 2) rfl) dX8_oftenAt_16 ?_
      refine lv_iload hx hb dX8_oftenAt_19 (lv_at hl 4 rfl) ?_
      refine x_iald C0 hO 29 rfl hw.1 dX8_oftenAt_21 ?_
      replace hw := hw.2
      refine lv_iload_n hx hb dX8_oftenAt_22 rfl (lv_at hl 1 rfl) ?_
      refine lv_icmp_ne (tgt := 41) hx hb dX8_oftenAt_23 (by decide) (fun c2 => ?_) (fun c2 => ?_)
      · replace hw := hw.2 c2
        refine lv_iconst (v := 0) hx hb dX8_oftenAt_41 (by decide) ?_
        refine lv_iadd hx hb dX8_oftenAt_42 ?_
        refine lv_topi (fun x3 ex3 => ?_)
        replace hw := hw x3 ex3
        refine lv_istore_n (lv' := [(3, .int x3), (0, .ref (xa g 24)), (1, .int f1), (2, .int f2), (4, .int m4)]) hx hb dX8_oftenAt_43 rfl hl (by decide) rfl (fun ls hl => ?_)
        obtain ⟨x4, ex4⟩ : ∃ z : Int32, z = m4 + 1 := ⟨_, rfl⟩
        replace hw := hw x4 ex4
        refine lv_iinc (v := x4) (lv' := [(4, .int x4), (3, .int x3), (0, .ref (xa g 24)), (1, .int f1), (2, .int f2)]) hx hb dX8_oftenAt_44 hl (k := 4) rfl (by rw [ex4]; rfl) (by decide) rfl (fun ls hl => ?_)
        refine lv_goto (tgt := 5) hx hb dX8_oftenAt_47 (by decide) ?_
        exact ih _ _ _ _ _ hw hO (lv_sub hl [2, 3, 4, 1, 0] rfl)
      · replace hw := hw.1 c2
        refine lv_aload_n hx hb dX8_oftenAt_26 rfl (lv_at hl 0 rfl) ?_
        refine x_getr C0 hO 24 12 30 rfl rfl (by decide) rfl iX8_oftenAt_8 rfl (List.mem_of_getElem? (i := 3) rfl) dX8_oftenAt_27 ?_
        refine lv_iload hx hb dX8_oftenAt_30 (lv_at hl 4 rfl) ?_
        refine x_iald C0 hO 30 rfl hw.1 dX8_oftenAt_32 ?_
        replace hw := hw.2
        refine lv_iload_n hx hb dX8_oftenAt_33 rfl (lv_at hl 2 rfl) ?_
        refine lv_icmp_ne (tgt := 41) hx hb dX8_oftenAt_34 (by decide) (fun c5 => ?_) (fun c5 => ?_)
        · replace hw := hw.2 c5
          refine lv_iconst (v := 0) hx hb dX8_oftenAt_41 (by decide) ?_
          refine lv_iadd hx hb dX8_oftenAt_42 ?_
          refine lv_topi (fun x6 ex6 => ?_)
          replace hw := hw x6 ex6
          refine lv_istore_n (lv' := [(3, .int x6), (0, .ref (xa g 24)), (1, .int f1), (2, .int f2), (4, .int m4)]) hx hb dX8_oftenAt_43 rfl hl (by decide) rfl (fun ls hl => ?_)
          obtain ⟨x7, ex7⟩ : ∃ z : Int32, z = m4 + 1 := ⟨_, rfl⟩
          replace hw := hw x7 ex7
          refine lv_iinc (v := x7) (lv' := [(4, .int x7), (3, .int x6), (0, .ref (xa g 24)), (1, .int f1), (2, .int f2)]) hx hb dX8_oftenAt_44 hl (k := 4) rfl (by rw [ex7]; rfl) (by decide) rfl (fun ls hl => ?_)
          refine lv_goto (tgt := 5) hx hb dX8_oftenAt_47 (by decide) ?_
          exact ih _ _ _ _ _ hw hO (lv_sub hl [2, 3, 4, 1, 0] rfl)
        · replace hw := hw.1 c5
          refine lv_iconst (v := 1) hx hb dX8_oftenAt_37 (by decide) ?_
          refine lv_goto (tgt := 42) hx hb dX8_oftenAt_38 (by decide) ?_
          refine lv_iadd hx hb dX8_oftenAt_42 ?_
          refine lv_topi (fun x8 ex8 => ?_)
          replace hw := hw x8 ex8
          refine lv_istore_n (lv' := [(3, .int x8), (0, .ref (xa g 24)), (1, .int f1), (2, .int f2), (4, .int m4)]) hx hb dX8_oftenAt_43 rfl hl (by decide) rfl (fun ls hl => ?_)
          obtain ⟨x9, ex9⟩ : ∃ z : Int32, z = m4 + 1 := ⟨_, rfl⟩
          replace hw := hw x9 ex9
          refine lv_iinc (v := x9) (lv' := [(4, .int x9), (3, .int x8), (0, .ref (xa g 24)), (1, .int f1), (2, .int f2)]) hx hb dX8_oftenAt_44 hl (k := 4) rfl (by rw [ex9]; rfl) (by decide) rfl (fun ls hl => ?_)
          refine lv_goto (tgt := 5) hx hb dX8_oftenAt_47 (by decide) ?_
          exact ih _ _ _ _ _ hw hO (lv_sub hl [2, 3, 4, 1, 0] rfl)
set_option maxHeartbeats 4000000 in
set_option maxRecDepth 100000 in
theorem kX8_oftenAt (l : Launch) (g : XG) (sz : Nat) (a1 : Int32) (a2 : Int32) (σ : XS) (post : Int32 → Prop) (hw : PX8_oftenAt a1 a2 σ post) : xMi l yX8_oftenAt wsX8_oftenAt rmX8_oftenAt 0 0 g sz [.ref (xa g 24), .int a1, .int a2] σ (fun r u => σ = u ∧ post r) := by
  unfold PX8_oftenAt at hw
  refine x_head (Qc := fun A => va_Qi (fun r u => σ = u ∧ post r) (xAt g A) A) (cc := cX8_oftenAt) (maxL := 5) (ret := (some .int)) (by decide) rfl ?_
  intro p e s m below meth c A C0 hnm hO
  refine x_entry (Nat.le_of_ble_eq_true rfl) (fun ls hl => ?_)
  have hl : lv_has ls 5 [(0, .ref (xa g 24)), (1, .int a1), (2, .int a2)] := hl
  have hx := C0.1
  have hb := C0.2.1
  have hown := C0.2.2.2.2.2.1
  have hts := C0.2.2.2.2.2.2.1
  refine lv_iconst (v := 0) hx hb dX8_oftenAt_0 (by decide) ?_
  refine lv_istore_n (lv' := [(3, .int (0 : Int32)), (0, .ref (xa g 24)), (1, .int a1), (2, .int a2)]) hx hb dX8_oftenAt_1 rfl hl (by decide) rfl (fun ls hl => ?_)
  refine lv_iconst (v := 0) hx hb dX8_oftenAt_2 (by decide) ?_
  refine lv_istore (lv' := [(4, .int (0 : Int32)), (3, .int (0 : Int32)), (0, .ref (xa g 24)), (1, .int a1), (2, .int a2)]) hx hb dX8_oftenAt_3 hl (by decide) rfl (fun ls hl => ?_)
  refine lX8_oftenAt_5 C0 σ a1 a2 post _ (fun x10 x11 H locs ls hw hO hl => ?_) 1000 _ _ _ _ _ hw hO (lv_sub hl [2, 3, 4, 1, 0] rfl)
  refine lv_iload_n hx hb dX8_oftenAt_50 rfl (lv_at hl 3 rfl) ?_
  exact x_iret C0 hO ⟨rfl, hw⟩ dX8_oftenAt_51
theorem iX8_habit_8 : ∀ w ∈ wsX80, w ∈ wsX8_habit := fun w h => List.mem_cons_of_mem _ (List.mem_append_right _ h)
theorem hdX8_habit : yX8_habit.cls = RX8 ∧ yX8_habit.cls ≠ "java/lang/invoke/MethodHandle" ∧ yX8_habit.cls ≠ "java/lang/invoke/VarHandle" ∧ (parseMethodDescriptor yX8_habit.desc).map (fun d => d.parameters.length) = some 2 := by decide +kernel
set_option maxHeartbeats 4000000 in
set_option maxRecDepth 100000 in
theorem lX8_habit_32 {p : Program} {l : Launch} {e : Env} {s : State} {m : MethodId} {args : Array Value} {below : List Frame} {meth : Method} {c : Code} {g : XG} {A : Nat → Prop} (C0 : xC g A wsX8_habit RX8 cX8_habit 7 (some .int) p s m args meth c) (σ : XS) (f1 : Int32) (f2 : Int32) (post : Int32 → Prop) (kx : Int32 → Int32 → Int32 → Prop)
    (hkx : ∀ (m3 : Int32) (m4 : Int32) (m5 : Int32) (H : Heap) (locs : List Loc) (ls : Array Slot), kx m3 m4 m5 → xO g A s σ H locs → lv_has ls 7 [(0, .ref (xa g 24)), (1, .int f1), (2, .int f2), (3, .int m3), (4, .int m4), (5, .int m5)] → W p l e (headSpec wsX8_habit rmX8_habit).room s m args below meth c H locs 0 0 (MQ below (va_Qi (fun r u => σ = u ∧ post r) (xAt g A) A) args s 0 0 A) (F0 m 86 ls [])) :
    ∀ (n : Nat) (m3 : Int32) (m4 : Int32) (m5 : Int32) (H : Heap) (locs : List Loc) (ls : Array Slot), LX8_habit_32 σ f1 f2 post kx n m3 m4 m5 → xO g A s σ H locs → lv_has ls 7 [(0, .ref (xa g 24)), (1, .int f1), (2, .int f2), (3, .int m3), (4, .int m4), (5, .int m5)] → W p l e (headSpec wsX8_habit rmX8_habit).room s m args below meth c H locs 0 0 (MQ below (va_Qi (fun r u => σ = u ∧ post r) (xAt g A) A) args s 0 0 A) (F0 m 32 ls []) := by
  have hx := C0.1
  have hb := C0.2.1
  have hown := C0.2.2.2.2.2.1
  have hts := C0.2.2.2.2.2.2.1
  intro n
  induction n with
  | zero =>
    intro m3 m4 m5 H locs ls hw
    exact hw.elim
  | succ n ih =>
    intro m3 m4 m5 H locs ls hw hO hl
    rw [LX8_habit_32] at hw
    refine lv_iload hx hb dX8_habit_32 (lv_at hl 5 rfl) ?_
    refine lv_aload_n hx hb dX8_habit_34 rfl (lv_at hl 0 rfl) ?_
    refine x_geti C0 hO 24 1 rfl rfl (by decide) rfl iX8_habit_8 rfl (List.mem_of_getElem? (i := 1) rfl) dX8_habit_35 ?_
    refine lv_icmp_ge (tgt := 86) hx hb dX8_habit_38 (by decide) (fun c5 => ?_) (fun c5 => ?_)
    · replace hw := hw.1 c5
      exact hkx _ _ _ _ _ _ hw hO (lv_sub hl [0, 1, 2, 3, 4, 5] rfl)
    · replace hw := hw.2 c5
      refine lv_aload_n hx hb dX8_habit_41 rfl (lv_at hl 0 rfl) ?_
      refine lv_iload_n hx hb dX8_habit_42 rfl (lv_at hl 1 rfl) ?_
      refine lv_iload hx hb dX8_habit_43 (lv_at hl 5 rfl) ?_
      refine x_calli C0 hO (x_runV (As := [.int f1, .int m5]) (rest := []) C0 hO (kX8_oftenAt l g _ f1 m5 σ _ hw) 2 rfl (xRecv C0 hO (j := 24) rfl rfl) gX8_habit_X8_oftenAt rfl rfl rfl hdX8_oftenAt ⟨Nat.le_of_ble_eq_true rfl, Nat.le_of_ble_eq_true rfl⟩ hl.1 rfl (Nat.le_of_ble_eq_true rfl) dX8_habit_45 ⟨Nat.le_of_ble_eq_true rfl, Nat.le_of_ble_eq_true rfl⟩) (fun r6 σ' H locs hw hO => ?_)
      obtain ⟨hσ, hw⟩ := hw
      subst hσ
      refine lv_istore (lv' := [(6, .int r6), (0, .ref (xa g 24)), (1, .int f1), (2, .int f2), (3, .int m3), (4, .int m4), (5, .int m5)]) hx hb dX8_habit_48 hl (by decide) rfl (fun ls hl => ?_)
      refine lv_iload hx hb dX8_habit_50 (lv_at hl 0 rfl) ?_
      refine lv_iload hx hb dX8_habit_52 (lv_at hl 5 rfl) ?_
      refine lv_icmp_le (tgt := 62) hx hb dX8_habit_54 (by decide) (fun c7 => ?_) (fun c7 => ?_)
      · replace hw := hw.1 c7
        refine lv_iload_n hx hb dX8_habit_62 rfl (lv_at hl 4 rfl) ?_
        refine lv_istore_n (lv' := [(3, .int m3), (6, .int r6), (0, .ref (xa g 24)), (1, .int f1), (2, .int f2), (4, .int m4), (5, .int m5)]) hx hb dX8_habit_63 rfl hl (by decide) rfl (fun ls hl => ?_)
        refine lv_iload hx hb dX8_habit_64 (lv_at hl 1 rfl) ?_
        refine lv_iload hx hb dX8_habit_66 (lv_at hl 5 rfl) ?_
        refine lv_icmp_le (tgt := 76) hx hb dX8_habit_68 (by decide) (fun c8 => ?_) (fun c8 => ?_)
        · replace hw := hw.1 c8
          refine lv_iload hx hb dX8_habit_76 (lv_at hl 5 rfl) ?_
          refine lv_istore (lv' := [(4, .int m4), (3, .int m3), (6, .int r6), (0, .ref (xa g 24)), (1, .int f1), (2, .int f2), (5, .int m5)]) hx hb dX8_habit_78 hl (by decide) rfl (fun ls hl => ?_)
          obtain ⟨x9, ex9⟩ : ∃ z : Int32, z = m5 + 1 := ⟨_, rfl⟩
          replace hw := hw x9 ex9
          refine lv_iinc (v := x9) (lv' := [(5, .int x9), (4, .int m4), (3, .int m3), (6, .int r6), (0, .ref (xa g 24)), (1, .int f1), (2, .int f2)]) hx hb dX8_habit_80 hl (k := 6) rfl (by rw [ex9]; rfl) (by decide) rfl (fun ls hl => ?_)
          refine lv_goto (tgt := 32) hx hb dX8_habit_83 (by decide) ?_
          exact ih _ _ _ _ _ _ hw hO (lv_sub hl [4, 5, 6, 2, 1, 0] rfl)
        · replace hw := hw.2 c8
          refine lv_iload hx hb dX8_habit_71 (lv_at hl 1 rfl) ?_
          refine lv_goto (tgt := 78) hx hb dX8_habit_73 (by decide) ?_
          refine lv_istore (lv' := [(4, .int r6), (3, .int m3), (6, .int r6), (0, .ref (xa g 24)), (1, .int f1), (2, .int f2), (5, .int m5)]) hx hb dX8_habit_78 hl (by decide) rfl (fun ls hl => ?_)
          obtain ⟨x10, ex10⟩ : ∃ z : Int32, z = m5 + 1 := ⟨_, rfl⟩
          replace hw := hw x10 ex10
          refine lv_iinc (v := x10) (lv' := [(5, .int x10), (4, .int r6), (3, .int m3), (6, .int r6), (0, .ref (xa g 24)), (1, .int f1), (2, .int f2)]) hx hb dX8_habit_80 hl (k := 6) rfl (by rw [ex10]; rfl) (by decide) rfl (fun ls hl => ?_)
          refine lv_goto (tgt := 32) hx hb dX8_habit_83 (by decide) ?_
          exact ih _ _ _ _ _ _ hw hO (lv_sub hl [4, 5, 6, 2, 1, 0] rfl)
      · replace hw := hw.2 c7
        refine lv_iload hx hb dX8_habit_57 (lv_at hl 6 rfl) ?_
        refine lv_goto (tgt := 63) hx hb dX8_habit_59 (by decide) ?_
        refine lv_istore_n (lv' := [(3, .int m5), (6, .int r6), (0, .ref (xa g 24)), (1, .int f1), (2, .int f2), (4, .int m4), (5, .int m5)]) hx hb dX8_habit_63 rfl hl (by decide) rfl (fun ls hl => ?_)
        refine lv_iload hx hb dX8_habit_64 (lv_at hl 1 rfl) ?_
        refine lv_iload hx hb dX8_habit_66 (lv_at hl 5 rfl) ?_
        refine lv_icmp_le (tgt := 76) hx hb dX8_habit_68 (by decide) (fun c11 => ?_) (fun c11 => ?_)
        · replace hw := hw.1 c11
          refine lv_iload hx hb dX8_habit_76 (lv_at hl 5 rfl) ?_
          refine lv_istore (lv' := [(4, .int m4), (3, .int m5), (6, .int r6), (0, .ref (xa g 24)), (1, .int f1), (2, .int f2), (5, .int m5)]) hx hb dX8_habit_78 hl (by decide) rfl (fun ls hl => ?_)
          obtain ⟨x12, ex12⟩ : ∃ z : Int32, z = m5 + 1 := ⟨_, rfl⟩
          replace hw := hw x12 ex12
          refine lv_iinc (v := x12) (lv' := [(5, .int x12), (4, .int m4), (3, .int m5), (6, .int r6), (0, .ref (xa g 24)), (1, .int f1), (2, .int f2)]) hx hb dX8_habit_80 hl (k := 6) rfl (by rw [ex12]; rfl) (by decide) rfl (fun ls hl => ?_)
          refine lv_goto (tgt := 32) hx hb dX8_habit_83 (by decide) ?_
          exact ih _ _ _ _ _ _ hw hO (lv_sub hl [4, 5, 6, 2, 1, 0] rfl)
        · replace hw := hw.2 c11
          refine lv_iload hx hb dX8_habit_71 (lv_at hl 1 rfl) ?_
          refine lv_goto (tgt := 78) hx hb dX8_habit_73 (by decide) ?_
          refine lv_istore (lv' := [(4, .int r6), (3, .int m5), (6, .int r6), (0, .ref (xa g 24)), (1, .int f1), (2, .int f2), (5, .int m5)]) hx hb dX8_habit_78 hl (by decide) rfl (fun ls hl => ?_)
          obtain ⟨x13, ex13⟩ : ∃ z : Int32, z = m5 + 1 := ⟨_, rfl⟩
          replace hw := hw x13 ex13
          refine lv_iinc (v := x13) (lv' := [(5, .int x13), (4, .int r6), (3, .int m5), (6, .int r6), (0, .ref (xa g 24)), (1, .int f1), (2, .int f2)]) hx hb dX8_habit_80 hl (k := 6) rfl (by rw [ex13]; rfl) (by decide) rfl (fun ls hl => ?_)
          refine lv_goto (tgt := 32) hx hb dX8_habit_83 (by decide) ?_
          exact ih _ _ _ _ _ _ hw hO (lv_sub hl [4, 5, 6, 2, 1, 0] rfl)
set_option maxHeartbeats 4000000 in
set_option maxRecDepth 100000 in
theorem kX8_habit (l : Launch) (g : XG) (sz : Nat) (a1 : Int32) (a2 : Int32) (σ : XS) (post : Int32 → Prop) (hw : PX8_habit a1 a2 σ post) : xMi l yX8_habit wsX8_habit rmX8_habit 0 0 g sz [.ref (xa g 24), .int a1, .int a2] σ (fun r u => σ = u ∧ post r) := by
  unfold PX8_habit at hw
  refine x_head (Qc := fun A => va_Qi (fun r u => σ = u ∧ post r) (xAt g A) A) (cc := cX8_habit) (maxL := 7) (ret := (some .int)) (by decide) rfl ?_
  intro p e s m below meth c A C0 hnm hO
  refine x_entry (Nat.le_of_ble_eq_true rfl) (fun ls hl => ?_)
  have hl : lv_has ls 7 [(0, .ref (xa g 24)), (1, .int a1), (2, .int a2)] := hl
  have hx := C0.1
  have hb := C0.2.1
  have hown := C0.2.2.2.2.2.1
  have hts := C0.2.2.2.2.2.2.1
  refine lv_aload_n hx hb dX8_habit_0 rfl (lv_at hl 0 rfl) ?_
  refine lv_iload_n hx hb dX8_habit_1 rfl (lv_at hl 1 rfl) ?_
  refine x_calli C0 hO (x_runV (As := [.int a1]) (rest := []) C0 hO (kX8_noPerson l g _ a1 σ _ hw) 1 rfl (xRecv C0 hO (j := 24) rfl rfl) gX8_habit_X8_noPerson rfl rfl rfl hdX8_noPerson ⟨Nat.le_of_ble_eq_true rfl, Nat.le_of_ble_eq_true rfl⟩ hl.1 rfl (Nat.le_of_ble_eq_true rfl) dX8_habit_2 ⟨Nat.le_of_ble_eq_true rfl, Nat.le_of_ble_eq_true rfl⟩) (fun r1 σ' H locs hw hO => ?_)
  obtain ⟨hσ, hw⟩ := hw
  subst hσ
  refine lv_if_eq (tgt := 10) hx hb dX8_habit_5 (by decide) (fun c2 => ?_) (fun c2 => ?_)
  · replace hw := hw.1 c2
    refine lv_iload_n hx hb dX8_habit_10 rfl (lv_at hl 2 rfl) ?_
    refine lv_i2l hx hb dX8_habit_11 rfl ?_
    refine lv_lconst (v := 0) hx hb dX8_habit_12 (by decide) ?_
    refine lv_lconst (v := 1) hx hb dX8_habit_13 (by decide) ?_
    refine x_calli C0 hO (x_runS (As := [.long a2.toInt64, .long (0 : Int64), .long (1 : Int64)]) (rest := []) C0 hO (kX8_in l g _ a2.toInt64 (0 : Int64) (1 : Int64) σ _ hw) 3 rfl gX8_habit_X8_in rfl rfl rfl hdX8_in.2 ⟨Nat.le_of_ble_eq_true rfl, Nat.le_of_ble_eq_true rfl⟩ hl.1 rfl (Nat.le_of_ble_eq_true rfl) dX8_habit_14 ⟨Nat.le_of_ble_eq_true rfl, Nat.le_of_ble_eq_true rfl⟩) (fun r3 σ' H locs hw hO => ?_)
    obtain ⟨hσ, hw⟩ := hw
    subst hσ
    refine lv_if_ne (tgt := 23) hx hb dX8_habit_17 (by decide) (fun c4 => ?_) (fun c4 => ?_)
    · replace hw := hw.2 c4
      refine lv_bipush (v := -9) hx hb dX8_habit_23 (by decide) ?_
      refine lv_istore_n (lv' := [(3, .int (-9 : Int32)), (0, .ref (xa g 24)), (1, .int a1), (2, .int a2)]) hx hb dX8_habit_25 rfl hl (by decide) rfl (fun ls hl => ?_)
      refine lv_iconst (v := 0) hx hb dX8_habit_26 (by decide) ?_
      refine lv_istore (lv' := [(4, .int (0 : Int32)), (3, .int (-9 : Int32)), (0, .ref (xa g 24)), (1, .int a1), (2, .int a2)]) hx hb dX8_habit_27 hl (by decide) rfl (fun ls hl => ?_)
      refine lv_iconst (v := 0) hx hb dX8_habit_29 (by decide) ?_
      refine lv_istore (lv' := [(5, .int (0 : Int32)), (4, .int (0 : Int32)), (3, .int (-9 : Int32)), (0, .ref (xa g 24)), (1, .int a1), (2, .int a2)]) hx hb dX8_habit_30 hl (by decide) rfl (fun ls hl => ?_)
      refine lX8_habit_32 C0 σ a1 a2 post _ (fun x14 x15 x16 H locs ls hw hO hl => ?_) 1000 _ _ _ _ _ _ hw hO (lv_sub hl [3, 4, 5, 2, 1, 0] rfl)
      refine lv_iload_n hx hb dX8_habit_86 rfl (lv_at hl 2 rfl) ?_
      refine lv_if_ne (tgt := 94) hx hb dX8_habit_87 (by decide) (fun c17 => ?_) (fun c17 => ?_)
      · replace hw := hw.2 c17
        refine lv_iload hx hb dX8_habit_94 (lv_at hl 4 rfl) ?_
        exact x_iret C0 hO ⟨rfl, hw⟩ dX8_habit_96
      · replace hw := hw.1 c17
        refine lv_iload_n hx hb dX8_habit_90 rfl (lv_at hl 3 rfl) ?_
        refine lv_goto (tgt := 96) hx hb dX8_habit_91 (by decide) ?_
        exact x_iret C0 hO ⟨rfl, hw⟩ dX8_habit_96
    · replace hw := hw.1 c4
      refine lv_bipush (v := -2) hx hb dX8_habit_20 (by decide) ?_
      exact x_iret C0 hO ⟨rfl, hw⟩ dX8_habit_22
  · replace hw := hw.2 c2
    refine lv_iconst (v := -1) hx hb dX8_habit_8 (by decide) ?_
    exact x_iret C0 hO ⟨rfl, hw⟩ dX8_habit_9
theorem iX8_makers_8 : ∀ w ∈ wsX80, w ∈ wsX8_makers := fun w h => List.mem_cons_of_mem _ (List.mem_append_right _ h)
theorem hdX8_makers : yX8_makers.cls = RX8 ∧ yX8_makers.cls ≠ "java/lang/invoke/MethodHandle" ∧ yX8_makers.cls ≠ "java/lang/invoke/VarHandle" ∧ (parseMethodDescriptor yX8_makers.desc).map (fun d => d.parameters.length) = some 2 := by decide +kernel
set_option maxHeartbeats 4000000 in
set_option maxRecDepth 100000 in
theorem lX8_makers_37 {p : Program} {l : Launch} {e : Env} {s : State} {m : MethodId} {args : Array Value} {below : List Frame} {meth : Method} {c : Code} {g : XG} {A : Nat → Prop} (C0 : xC g A wsX8_makers RX8 cX8_makers 5 (some .int) p s m args meth c) (σ : XS) (f1 : Int32) (f2 : Int32) (post : Int32 → Prop) (kx : Int32 → Int32 → Prop)
    (hkx : ∀ (m3 : Int32) (m4 : Int32) (H : Heap) (locs : List Loc) (ls : Array Slot), kx m3 m4 → xO g A s σ H locs → lv_has ls 5 [(0, .ref (xa g 24)), (1, .int f1), (2, .int f2), (3, .int m3), (4, .int m4)] → W p l e (headSpec wsX8_makers rmX8_makers).room s m args below meth c H locs 0 0 (MQ below (va_Qi (fun r u => σ = u ∧ post r) (xAt g A) A) args s 0 0 A) (F0 m 74 ls [])) :
    ∀ (n : Nat) (m3 : Int32) (m4 : Int32) (H : Heap) (locs : List Loc) (ls : Array Slot), LX8_makers_37 σ f1 f2 post kx n m3 m4 → xO g A s σ H locs → lv_has ls 5 [(0, .ref (xa g 24)), (1, .int f1), (2, .int f2), (3, .int m3), (4, .int m4)] → W p l e (headSpec wsX8_makers rmX8_makers).room s m args below meth c H locs 0 0 (MQ below (va_Qi (fun r u => σ = u ∧ post r) (xAt g A) A) args s 0 0 A) (F0 m 37 ls []) := by
  have hx := C0.1
  have hb := C0.2.1
  have hown := C0.2.2.2.2.2.1
  have hts := C0.2.2.2.2.2.2.1
  intro n
  induction n with
  | zero =>
    intro m3 m4 H locs ls hw
    exact hw.elim
  | succ n ih =>
    intro m3 m4 H locs ls hw hO hl
    rw [LX8_makers_37] at hw
    refine lv_iload hx hb dX8_makers_37 (lv_at hl 4 rfl) ?_
    refine lv_aload_n hx hb dX8_makers_39 rfl (lv_at hl 0 rfl) ?_
    refine x_geti C0 hO 24 2 rfl rfl (by decide) rfl iX8_makers_8 rfl (List.mem_of_getElem? (i := 2) rfl) dX8_makers_40 ?_
    refine lv_icmp_ge (tgt := 74) hx hb dX8_makers_43 (by decide) (fun c6 => ?_) (fun c6 => ?_)
    · replace hw := hw.1 c6
      exact hkx _ _ _ _ _ hw hO (lv_sub hl [0, 1, 2, 3, 4] rfl)
    · replace hw := hw.2 c6
      refine lv_iload_n hx hb dX8_makers_46 rfl (lv_at hl 3 rfl) ?_
      refine lv_aload_n hx hb dX8_makers_47 rfl (lv_at hl 0 rfl) ?_
      refine lv_iload hx hb dX8_makers_48 (lv_at hl 4 rfl) ?_
      refine lv_iload_n hx hb dX8_makers_50 rfl (lv_at hl 2 rfl) ?_
      refine x_calli C0 hO (x_runV (As := [.int m4, .int f2]) (rest := [.int m3]) C0 hO (kX8_gumOf l g _ m4 f2 σ _ hw) 2 rfl (xRecv C0 hO (j := 24) rfl rfl) gX8_makers_X8_gumOf rfl rfl rfl hdX8_gumOf ⟨Nat.le_of_ble_eq_true rfl, Nat.le_of_ble_eq_true rfl⟩ hl.1 rfl (Nat.le_of_ble_eq_true rfl) dX8_makers_51 ⟨Nat.le_of_ble_eq_true rfl, Nat.le_of_ble_eq_true rfl⟩) (fun r7 σ' H locs hw hO => ?_)
      obtain ⟨hσ, hw⟩ := hw
      subst hσ
      refine lv_iload_n hx hb dX8_makers_54 rfl (lv_at hl 1 rfl) ?_
      refine lv_icmp_ne (tgt := 65) hx hb dX8_makers_55 (by decide) (fun c8 => ?_) (fun c8 => ?_)
      · replace hw := hw.2 c8
        refine lv_iconst (v := 0) hx hb dX8_makers_65 (by decide) ?_
        refine lv_ior hx hb dX8_makers_66 ?_
        refine lv_topi (fun x9 ex9 => ?_)
        replace hw := hw x9 ex9
        refine lv_istore_n (lv' := [(3, .int x9), (0, .ref (xa g 24)), (1, .int f1), (2, .int f2), (4, .int m4)]) hx hb dX8_makers_67 rfl hl (by decide) rfl (fun ls hl => ?_)
        obtain ⟨x10, ex10⟩ : ∃ z : Int32, z = m4 + 1 := ⟨_, rfl⟩
        replace hw := hw x10 ex10
        refine lv_iinc (v := x10) (lv' := [(4, .int x10), (3, .int x9), (0, .ref (xa g 24)), (1, .int f1), (2, .int f2)]) hx hb dX8_makers_68 hl (k := 4) rfl (by rw [ex10]; rfl) (by decide) rfl (fun ls hl => ?_)
        refine lv_goto (tgt := 37) hx hb dX8_makers_71 (by decide) ?_
        exact ih _ _ _ _ _ hw hO (lv_sub hl [2, 3, 4, 1, 0] rfl)
      · replace hw := hw.1 c8
        refine lv_iconst (v := 1) hx hb dX8_makers_58 (by decide) ?_
        refine lv_iload hx hb dX8_makers_59 (lv_at hl 4 rfl) ?_
        refine lv_ishl hx hb dX8_makers_61 ?_
        refine lv_goto (tgt := 66) hx hb dX8_makers_62 (by decide) ?_
        refine lv_ior hx hb dX8_makers_66 ?_
        refine lv_topi (fun x11 ex11 => ?_)
        replace hw := hw x11 ex11
        refine lv_istore_n (lv' := [(3, .int x11), (0, .ref (xa g 24)), (1, .int f1), (2, .int f2), (4, .int m4)]) hx hb dX8_makers_67 rfl hl (by decide) rfl (fun ls hl => ?_)
        obtain ⟨x12, ex12⟩ : ∃ z : Int32, z = m4 + 1 := ⟨_, rfl⟩
        replace hw := hw x12 ex12
        refine lv_iinc (v := x12) (lv' := [(4, .int x12), (3, .int x11), (0, .ref (xa g 24)), (1, .int f1), (2, .int f2)]) hx hb dX8_makers_68 hl (k := 4) rfl (by rw [ex12]; rfl) (by decide) rfl (fun ls hl => ?_)
        refine lv_goto (tgt := 37) hx hb dX8_makers_71 (by decide) ?_
        exact ih _ _ _ _ _ hw hO (lv_sub hl [2, 3, 4, 1, 0] rfl)
set_option maxHeartbeats 4000000 in
set_option maxRecDepth 100000 in
theorem kX8_makers (l : Launch) (g : XG) (sz : Nat) (a1 : Int32) (a2 : Int32) (σ : XS) (post : Int32 → Prop) (hw : PX8_makers a1 a2 σ post) : xMi l yX8_makers wsX8_makers rmX8_makers 0 0 g sz [.ref (xa g 24), .int a1, .int a2] σ (fun r u => σ = u ∧ post r) := by
  unfold PX8_makers at hw
  refine x_head (Qc := fun A => va_Qi (fun r u => σ = u ∧ post r) (xAt g A) A) (cc := cX8_makers) (maxL := 5) (ret := (some .int)) (by decide) rfl ?_
  intro p e s m below meth c A C0 hnm hO
  refine x_entry (Nat.le_of_ble_eq_true rfl) (fun ls hl => ?_)
  have hl : lv_has ls 5 [(0, .ref (xa g 24)), (1, .int a1), (2, .int a2)] := hl
  have hx := C0.1
  have hb := C0.2.1
  have hown := C0.2.2.2.2.2.1
  have hts := C0.2.2.2.2.2.2.1
  refine lv_iload_n hx hb dX8_makers_0 rfl (lv_at hl 1 rfl) ?_
  refine lv_i2l hx hb dX8_makers_1 rfl ?_
  refine lv_lconst (v := 0) hx hb dX8_makers_2 (by decide) ?_
  refine lv_ldc2 (v := 7) hx hb hown (hts _ (List.mem_of_getElem? (i := 1) rfl)) dX8_makers_3 ?_
  refine x_calli C0 hO (x_runS (As := [.long a1.toInt64, .long (0 : Int64), .long (7 : Int64)]) (rest := []) C0 hO (kX8_in l g _ a1.toInt64 (0 : Int64) (7 : Int64) σ _ hw) 3 rfl gX8_makers_X8_in rfl rfl rfl hdX8_in.2 ⟨Nat.le_of_ble_eq_true rfl, Nat.le_of_ble_eq_true rfl⟩ hl.1 rfl (Nat.le_of_ble_eq_true rfl) dX8_makers_6 ⟨Nat.le_of_ble_eq_true rfl, Nat.le_of_ble_eq_true rfl⟩) (fun r1 σ' H locs hw hO => ?_)
  obtain ⟨hσ, hw⟩ := hw
  subst hσ
  refine lv_if_eq (tgt := 19) hx hb dX8_makers_9 (by decide) (fun c2 => ?_) (fun c2 => ?_)
  · replace hw := hw.1 c2
    refine lv_bipush (v := -2) hx hb dX8_makers_19 (by decide) ?_
    exact x_iret C0 hO ⟨rfl, hw⟩ dX8_makers_21
  · replace hw := hw.2 c2
    refine lv_iload_n hx hb dX8_makers_12 rfl (lv_at hl 2 rfl) ?_
    refine x_calli C0 hO (x_runS (As := [.int a2]) (rest := []) C0 hO (kX8_isNight l g _ a2 σ _ hw) 1 rfl gX8_makers_X8_isNight rfl rfl rfl hdX8_isNight.2 ⟨Nat.le_of_ble_eq_true rfl, Nat.le_of_ble_eq_true rfl⟩ hl.1 rfl (Nat.le_of_ble_eq_true rfl) dX8_makers_13 ⟨Nat.le_of_ble_eq_true rfl, Nat.le_of_ble_eq_true rfl⟩) (fun r3 σ' H locs hw hO => ?_)
    obtain ⟨hσ, hw⟩ := hw
    subst hσ
    refine lv_if_ne (tgt := 22) hx hb dX8_makers_16 (by decide) (fun c4 => ?_) (fun c4 => ?_)
    · replace hw := hw.2 c4
      refine lv_aload_n hx hb dX8_makers_22 rfl (lv_at hl 0 rfl) ?_
      refine x_geti C0 hO 24 2 rfl rfl (by decide) rfl iX8_makers_8 rfl (List.mem_of_getElem? (i := 2) rfl) dX8_makers_23 ?_
      refine lv_if_ne (tgt := 32) hx hb dX8_makers_26 (by decide) (fun c5 => ?_) (fun c5 => ?_)
      · replace hw := hw.2 c5
        refine lv_iconst (v := 0) hx hb dX8_makers_32 (by decide) ?_
        refine lv_istore_n (lv' := [(3, .int (0 : Int32)), (0, .ref (xa g 24)), (1, .int a1), (2, .int a2)]) hx hb dX8_makers_33 rfl hl (by decide) rfl (fun ls hl => ?_)
        refine lv_iconst (v := 0) hx hb dX8_makers_34 (by decide) ?_
        refine lv_istore (lv' := [(4, .int (0 : Int32)), (3, .int (0 : Int32)), (0, .ref (xa g 24)), (1, .int a1), (2, .int a2)]) hx hb dX8_makers_35 hl (by decide) rfl (fun ls hl => ?_)
        refine lX8_makers_37 C0 σ a1 a2 post _ (fun x13 x14 H locs ls hw hO hl => ?_) 1000 _ _ _ _ _ hw hO (lv_sub hl [2, 3, 4, 1, 0] rfl)
        refine lv_iload_n hx hb dX8_makers_74 rfl (lv_at hl 3 rfl) ?_
        exact x_iret C0 hO ⟨rfl, hw⟩ dX8_makers_75
      · replace hw := hw.1 c5
        refine lv_bipush (v := -3) hx hb dX8_makers_29 (by decide) ?_
        exact x_iret C0 hO ⟨rfl, hw⟩ dX8_makers_31
    · replace hw := hw.1 c4
      refine lv_bipush (v := -2) hx hb dX8_makers_19 (by decide) ?_
      exact x_iret C0 hO ⟨rfl, hw⟩ dX8_makers_21
