/-! generated: contracts -/
theorem iX4_init_0 : ∀ w ∈ wsX00, w ∈ wsX4_init := fun w h => List.mem_cons_of_mem _ (List.mem_append_left _ (List.mem_append_left _ (List.mem_append_right _ h)))
theorem iX4_init_2 : ∀ w ∈ wsX20, w ∈ wsX4_init := fun w h => List.mem_cons_of_mem _ (List.mem_append_left _ (List.mem_append_right _ h))
theorem iX4_init_4 : ∀ w ∈ wsX40, w ∈ wsX4_init := fun w h => List.mem_cons_of_mem _ (List.mem_append_right _ h)
theorem hdX4_init : yX4_init.cls = RX4 ∧ yX4_init.cls ≠ "java/lang/invoke/MethodHandle" ∧ yX4_init.cls ≠ "java/lang/invoke/VarHandle" ∧ (parseMethodDescriptor yX4_init.desc).map (fun d => d.parameters.length) = some 1 := by decide +kernel
set_option maxHeartbeats 4000000 in
set_option maxRecDepth 100000 in
theorem kX4_init (l : Launch) (g : XG) (sz : Nat) (a : Nat) (a1 : Int32) (σ : XS) (post : XS → Prop) (hw : PX4_init a a1 σ post) : xMv l yX4_init wsX4_init rmX4_init 0 0 g sz [.ref a, .int a1] σ post := by
  unfold PX4_init at hw
  refine x_head (Qc := fun A => va_Qv post (xAt g A) A) (cc := cX4_init) (maxL := 2) (ret := none) (by decide) rfl ?_
  intro p e s m below meth c A C0 hnm hO
  refine x_entry (Nat.le_of_ble_eq_true rfl) (fun ls hl => ?_)
  have hl : lv_has ls 2 [(0, .ref a), (1, .int a1)] := hl
  have hx := C0.1
  have hb := C0.2.1
  have hown := C0.2.2.2.2.2.1
  have hts := C0.2.2.2.2.2.2.1
  refine lv_aload_n hx hb dX4_init_0 rfl (lv_at hl 0 rfl) ?_
  refine W.objInit hx hb hown (hts _ (List.mem_of_getElem? (i := 1) rfl)) (hts _ (List.mem_of_getElem? (i := 2) rfl)) (hts _ (List.mem_of_getElem? (i := 3) rfl)) rfl (by rw [C0.2.2.2.2.1]; exact hl.1) rfl dX4_init_1 (Nat.le_of_ble_eq_true rfl) (Nat.le_of_ble_eq_true rfl) ?_
  refine W.eq (g2 := F0 m 4 ls []) rfl ?_
  refine lv_aload_n hx hb dX4_init_4 rfl (lv_at hl 0 rfl) ?_
  refine lv_iload_n hx hb dX4_init_5 rfl (lv_at hl 1 rfl) ?_
  refine x_putV C0 hO hnm rfl hw.1 iX4_init_0 iX4_init_2 iX4_init_4 (List.mem_of_getElem? (i := 4) rfl) dX4_init_6 (fun σ1 H locs eσ1 hO => ?_)
  replace hw := hw.2 σ1 eσ1
  exact x_vret C0 hO hw dX4_init_9
theorem hdX2_init : yX2_init.cls = RX2 ∧ yX2_init.cls ≠ "java/lang/invoke/MethodHandle" ∧ yX2_init.cls ≠ "java/lang/invoke/VarHandle" ∧ (parseMethodDescriptor yX2_init.desc).map (fun d => d.parameters.length) = some 1 := by decide +kernel
set_option maxHeartbeats 4000000 in
set_option maxRecDepth 100000 in
theorem kX2_init (l : Launch) (g : XG) (sz : Nat) (a : Nat) (a1 : Int32) (σ : XS) (post : XS → Prop) (hw : PX2_init a a1 σ post) : xMv l yX2_init wsX2_init rmX2_init 0 0 g sz [.ref a, .int a1] σ post := by
  unfold PX2_init at hw
  refine x_head (Qc := fun A => va_Qv post (xAt g A) A) (cc := cX2_init) (maxL := 2) (ret := none) (by decide) rfl ?_
  intro p e s m below meth c A C0 hnm hO
  refine x_entry (Nat.le_of_ble_eq_true rfl) (fun ls hl => ?_)
  have hl : lv_has ls 2 [(0, .ref a), (1, .int a1)] := hl
  have hx := C0.1
  have hb := C0.2.1
  have hown := C0.2.2.2.2.2.1
  have hts := C0.2.2.2.2.2.2.1
  refine lv_aload_n hx hb dX2_init_0 rfl (lv_at hl 0 rfl) ?_
  refine lv_iload_n hx hb dX2_init_1 rfl (lv_at hl 1 rfl) ?_
  refine x_callv C0 hO (x_runI (As := [.int a1]) (rest := []) C0 hO (kX4_init l g _ a a1 σ _ hw) 1 rfl gX2_init_X4_init rfl rfl rfl (List.mem_of_getElem? (i := 3) rfl) (List.mem_of_getElem? (i := 1) rfl) (List.mem_of_getElem? (i := 2) rfl) rfl hdX4_init.2 ⟨Nat.le_of_ble_eq_true rfl, Nat.le_of_ble_eq_true rfl⟩ hl.1 rfl (Nat.le_of_ble_eq_true rfl) dX2_init_2 ⟨Nat.le_of_ble_eq_true rfl, Nat.le_of_ble_eq_true rfl⟩) (fun σ1 H locs hw hO => ?_)
  exact x_vret C0 hO hw dX2_init_5
theorem hdX0_init : yX0_init.cls = RX0 ∧ yX0_init.cls ≠ "java/lang/invoke/MethodHandle" ∧ yX0_init.cls ≠ "java/lang/invoke/VarHandle" ∧ (parseMethodDescriptor yX0_init.desc).map (fun d => d.parameters.length) = some 1 := by decide +kernel
set_option maxHeartbeats 4000000 in
set_option maxRecDepth 100000 in
theorem kX0_init (l : Launch) (g : XG) (sz : Nat) (a : Nat) (a1 : Int32) (σ : XS) (post : XS → Prop) (hw : PX0_init a a1 σ post) : xMv l yX0_init wsX0_init rmX0_init 0 0 g sz [.ref a, .int a1] σ post := by
  unfold PX0_init at hw
  refine x_head (Qc := fun A => va_Qv post (xAt g A) A) (cc := cX0_init) (maxL := 2) (ret := none) (by decide) rfl ?_
  intro p e s m below meth c A C0 hnm hO
  refine x_entry (Nat.le_of_ble_eq_true rfl) (fun ls hl => ?_)
  have hl : lv_has ls 2 [(0, .ref a), (1, .int a1)] := hl
  have hx := C0.1
  have hb := C0.2.1
  have hown := C0.2.2.2.2.2.1
  have hts := C0.2.2.2.2.2.2.1
  refine lv_aload_n hx hb dX0_init_0 rfl (lv_at hl 0 rfl) ?_
  refine lv_iload_n hx hb dX0_init_1 rfl (lv_at hl 1 rfl) ?_
  refine x_callv C0 hO (x_runI (As := [.int a1]) (rest := []) C0 hO (kX2_init l g _ a a1 σ _ hw) 1 rfl gX0_init_X2_init rfl rfl rfl (List.mem_of_getElem? (i := 3) rfl) (List.mem_of_getElem? (i := 1) rfl) (List.mem_of_getElem? (i := 2) rfl) rfl hdX2_init.2 ⟨Nat.le_of_ble_eq_true rfl, Nat.le_of_ble_eq_true rfl⟩ hl.1 rfl (Nat.le_of_ble_eq_true rfl) dX0_init_2 ⟨Nat.le_of_ble_eq_true rfl, Nat.le_of_ble_eq_true rfl⟩) (fun σ1 H locs hw hO => ?_)
  exact x_vret C0 hO hw dX0_init_5
theorem hdX0_kindNumber : yX0_kindNumber.cls = RX0 ∧ yX0_kindNumber.cls ≠ "java/lang/invoke/MethodHandle" ∧ yX0_kindNumber.cls ≠ "java/lang/invoke/VarHandle" ∧ (parseMethodDescriptor yX0_kindNumber.desc).map (fun d => d.parameters.length) = some 0 := by decide +kernel
set_option maxHeartbeats 4000000 in
set_option maxRecDepth 100000 in
theorem kX0_kindNumber (l : Launch) (g : XG) (sz : Nat) (a : Nat) (σ : XS) (post : Int32 → Prop) (hw : PX0_kindNumber a  σ post) : xMi l yX0_kindNumber wsX0_kindNumber rmX0_kindNumber 0 0 g sz [.ref a] σ (fun r u => σ = u ∧ post r) := by
  unfold PX0_kindNumber at hw
  refine x_head (Qc := fun A => va_Qi (fun r u => σ = u ∧ post r) (xAt g A) A) (cc := cX0_kindNumber) (maxL := 1) (ret := (some .int)) (by decide) rfl ?_
  intro p e s m below meth c A C0 hnm hO
  refine x_entry (Nat.le_of_ble_eq_true rfl) (fun ls hl => ?_)
  have hl : lv_has ls 1 [(0, .ref a)] := hl
  have hx := C0.1
  have hb := C0.2.1
  have hown := C0.2.2.2.2.2.1
  have hts := C0.2.2.2.2.2.2.1
  refine lv_iconst (v := 2) hx hb dX0_kindNumber_0 (by decide) ?_
  exact x_iret C0 hO ⟨rfl, hw⟩ dX0_kindNumber_1
theorem iX2_leaves_0 : ∀ w ∈ wsX00, w ∈ wsX2_leaves := fun w h => List.mem_cons_of_mem _ (List.mem_append_left _ (List.mem_append_left _ (List.mem_append_right _ h)))
theorem iX2_leaves_2 : ∀ w ∈ wsX20, w ∈ wsX2_leaves := fun w h => List.mem_cons_of_mem _ (List.mem_append_left _ (List.mem_append_right _ h))
theorem iX2_leaves_4 : ∀ w ∈ wsX40, w ∈ wsX2_leaves := fun w h => List.mem_cons_of_mem _ (List.mem_append_right _ h)
theorem hdX2_leaves : yX2_leaves.cls = RX2 ∧ yX2_leaves.cls ≠ "java/lang/invoke/MethodHandle" ∧ yX2_leaves.cls ≠ "java/lang/invoke/VarHandle" ∧ (parseMethodDescriptor yX2_leaves.desc).map (fun d => d.parameters.length) = some 1 := by decide +kernel
set_option maxHeartbeats 4000000 in
set_option maxRecDepth 100000 in
theorem kX2_leaves (l : Launch) (g : XG) (sz : Nat) (a : Nat) (a1 : Int32) (σ : XS) (post : Int32 → Prop) (hw : PX2_leaves a a1 σ post) : xMi l yX2_leaves wsX2_leaves rmX2_leaves 0 0 g sz [.ref a, .int a1] σ (fun r u => σ = u ∧ post r) := by
  unfold PX2_leaves at hw
  refine x_head (Qc := fun A => va_Qi (fun r u => σ = u ∧ post r) (xAt g A) A) (cc := cX2_leaves) (maxL := 2) (ret := (some .int)) (by decide) rfl ?_
  intro p e s m below meth c A C0 hnm hO
  refine x_entry (Nat.le_of_ble_eq_true rfl) (fun ls hl => ?_)
  have hl : lv_has ls 2 [(0, .ref a), (1, .int a1)] := hl
  have hx := C0.1
  have hb := C0.2.1
  have hown := C0.2.2.2.2.2.1
  have hts := C0.2.2.2.2.2.2.1
  refine lv_aload_n hx hb dX2_leaves_0 rfl (lv_at hl 0 rfl) ?_
  refine x_flav C0 hO hw.1 iX2_leaves_0 iX2_leaves_2 iX2_leaves_4 (List.mem_of_getElem? (i := 1) rfl) (u_same (hts _ (List.mem_of_getElem? (i := 2) rfl))) dX2_leaves_1 ?_
  replace hw := hw.2
  refine lv_iload_n hx hb dX2_leaves_4 rfl (lv_at hl 1 rfl) ?_
  refine lv_bipush (v := 10) hx hb dX2_leaves_5 (by decide) ?_
  refine lv_idiv hx hb dX2_leaves_7 hw.1 ?_
  replace hw := hw.2
  refine lv_iadd hx hb dX2_leaves_8 ?_
  refine lv_iconst (v := 4) hx hb dX2_leaves_9 (by decide) ?_
  refine lv_irem hx hb dX2_leaves_10 hw.1 ?_
  replace hw := hw.2
  exact x_iret C0 hO ⟨rfl, hw⟩ dX2_leaves_11
theorem hdX0_leaves : yX0_leaves.cls = RX0 ∧ yX0_leaves.cls ≠ "java/lang/invoke/MethodHandle" ∧ yX0_leaves.cls ≠ "java/lang/invoke/VarHandle" ∧ (parseMethodDescriptor yX0_leaves.desc).map (fun d => d.parameters.length) = some 1 := by decide +kernel
set_option maxHeartbeats 4000000 in
set_option maxRecDepth 100000 in
theorem kX0_leaves (l : Launch) (g : XG) (sz : Nat) (a : Nat) (a1 : Int32) (σ : XS) (post : Int32 → Prop) (hw : PX0_leaves a a1 σ post) : xMi l yX0_leaves wsX0_leaves rmX0_leaves 0 0 g sz [.ref a, .int a1] σ (fun r u => σ = u ∧ post r) := by
  unfold PX0_leaves at hw
  refine x_head (Qc := fun A => va_Qi (fun r u => σ = u ∧ post r) (xAt g A) A) (cc := cX0_leaves) (maxL := 2) (ret := (some .int)) (by decide) rfl ?_
  intro p e s m below meth c A C0 hnm hO
  refine x_entry (Nat.le_of_ble_eq_true rfl) (fun ls hl => ?_)
  have hl : lv_has ls 2 [(0, .ref a), (1, .int a1)] := hl
  have hx := C0.1
  have hb := C0.2.1
  have hown := C0.2.2.2.2.2.1
  have hts := C0.2.2.2.2.2.2.1
  refine lv_aload_n hx hb dX0_leaves_0 rfl (lv_at hl 0 rfl) ?_
  refine lv_iload_n hx hb dX0_leaves_1 rfl (lv_at hl 1 rfl) ?_
  have hpe := hw.1
  have hk := hw.2.1
  replace hw := hw.2.2 hk
  refine x_calli C0 hO (x_runSU (As := [.int a1]) (rest := []) (ci := 0) C0 hO (kX2_leaves l g _ a a1 σ _ hw) 1 rfl rfl (xRecvP C0 hO hpe.1 hk (ci := 0) rfl) gX0_leaves_X2_leaves_s7 rfl rfl rfl ⟨by decide, hdX2_leaves.2.2.2⟩ ⟨Nat.le_of_ble_eq_true rfl, Nat.le_of_ble_eq_true rfl⟩ hl.1 rfl (Nat.le_of_ble_eq_true rfl) dX0_leaves_2 ⟨Nat.le_of_ble_eq_true rfl, Nat.le_of_ble_eq_true rfl⟩) (fun r1 σ' H locs hw hO => ?_)
  obtain ⟨hσ, hw⟩ := hw
  subst hσ
  refine lv_iconst (v := 4) hx hb dX0_leaves_5 (by decide) ?_
  refine lv_iadd hx hb dX0_leaves_6 ?_
  exact x_iret C0 hO ⟨rfl, hw⟩ dX0_leaves_7
theorem iX6_mark_6 : ∀ w ∈ wsX60, w ∈ wsX6_mark := fun w h => List.mem_cons_of_mem _ (List.mem_append_right _ h)
theorem hdX6_mark : yX6_mark.cls = RX6 ∧ yX6_mark.cls ≠ "java/lang/invoke/MethodHandle" ∧ yX6_mark.cls ≠ "java/lang/invoke/VarHandle" ∧ (parseMethodDescriptor yX6_mark.desc).map (fun d => d.parameters.length) = some 1 := by decide +kernel
set_option maxHeartbeats 4000000 in
set_option maxRecDepth 100000 in
theorem kX6_mark (l : Launch) (g : XG) (sz : Nat) (a1 : Int32) (σ : XS) (post : XS → Prop) (hw : PX6_mark a1 σ post) : xMv l yX6_mark wsX6_mark rmX6_mark 0 0 g sz [.ref (xa g 15), .int a1] σ post := by
  unfold PX6_mark at hw
  refine x_head (Qc := fun A => va_Qv post (xAt g A) A) (cc := cX6_mark) (maxL := 2) (ret := none) (by decide) rfl ?_
  intro p e s m below meth c A C0 hnm hO
  refine x_entry (Nat.le_of_ble_eq_true rfl) (fun ls hl => ?_)
  have hl : lv_has ls 2 [(0, .ref (xa g 15)), (1, .int a1)] := hl
  have hx := C0.1
  have hb := C0.2.1
  have hown := C0.2.2.2.2.2.1
  have hts := C0.2.2.2.2.2.2.1
  refine lv_aload_n hx hb dX6_mark_0 rfl (lv_at hl 0 rfl) ?_
  refine lv_bipush (v := 31) hx hb dX6_mark_1 (by decide) ?_
  refine lv_aload_n hx hb dX6_mark_3 rfl (lv_at hl 0 rfl) ?_
  refine x_geti C0 hO 15 0 rfl rfl (by decide) rfl iX6_mark_6 rfl (List.mem_of_getElem? (i := 1) rfl) dX6_mark_4 ?_
  refine lv_imul hx hb dX6_mark_7 ?_
  refine lv_iload_n hx hb dX6_mark_8 rfl (lv_at hl 1 rfl) ?_
  refine lv_iadd hx hb dX6_mark_9 ?_
  refine x_puti C0 hO 15 0 tyX6 tyX6_ok nmX6 rfl rfl (by decide) rfl iX6_mark_6 rfl rfl rfl (List.mem_of_getElem? (i := 1) rfl) dX6_mark_10 (fun σ1 H locs eσ1 hO => ?_)
  replace hw := hw σ1 eσ1
  exact x_vret C0 hO hw dX6_mark_13
theorem iX4_saysPlainly_0 : ∀ w ∈ wsX00, w ∈ wsX4_saysPlainly := fun w h => List.mem_cons_of_mem _ (List.mem_append_left _ (List.mem_append_left _ (List.mem_append_left _ (List.mem_append_right _ h))))
theorem iX4_saysPlainly_2 : ∀ w ∈ wsX20, w ∈ wsX4_saysPlainly := fun w h => List.mem_cons_of_mem _ (List.mem_append_left _ (List.mem_append_left _ (List.mem_append_right _ h)))
theorem iX4_saysPlainly_4 : ∀ w ∈ wsX40, w ∈ wsX4_saysPlainly := fun w h => List.mem_cons_of_mem _ (List.mem_append_left _ (List.mem_append_right _ h))
theorem hdX4_saysPlainly : yX4_saysPlainly.cls = RX4 ∧ yX4_saysPlainly.cls ≠ "java/lang/invoke/MethodHandle" ∧ yX4_saysPlainly.cls ≠ "java/lang/invoke/VarHandle" ∧ (parseMethodDescriptor yX4_saysPlainly.desc).map (fun d => d.parameters.length) = some 1 := by decide +kernel
set_option maxHeartbeats 4000000 in
set_option maxRecDepth 100000 in
theorem kX4_saysPlainly (l : Launch) (g : XG) (sz : Nat) (a : Nat) (σ : XS) (post : Int32 → XS → Prop) (hw : PX4_saysPlainly a  σ post) : xMi l yX4_saysPlainly wsX4_saysPlainly rmX4_saysPlainly 0 0 g sz [.ref a, .ref (xa g 15)] σ post := by
  unfold PX4_saysPlainly at hw
  refine x_head (Qc := fun A => va_Qi post (xAt g A) A) (cc := cX4_saysPlainly) (maxL := 2) (ret := (some .int)) (by decide) rfl ?_
  intro p e s m below meth c A C0 hnm hO
  refine x_entry (Nat.le_of_ble_eq_true rfl) (fun ls hl => ?_)
  have hl : lv_has ls 2 [(0, .ref a), (1, .ref (xa g 15))] := hl
  have hx := C0.1
  have hb := C0.2.1
  have hown := C0.2.2.2.2.2.1
  have hts := C0.2.2.2.2.2.2.1
  refine lv_aload_n hx hb dX4_saysPlainly_0 rfl (lv_at hl 1 rfl) ?_
  refine lv_iconst (v := 1) hx hb dX4_saysPlainly_1 (by decide) ?_
  refine x_callv C0 hO (x_runV (As := [.int (1 : Int32)]) (rest := []) C0 hO (kX6_mark l g _ (1 : Int32) σ _ hw) 1 rfl (xRecv C0 hO (j := 15) rfl rfl) gX4_saysPlainly_X6_mark rfl rfl rfl hdX6_mark ⟨Nat.le_of_ble_eq_true rfl, Nat.le_of_ble_eq_true rfl⟩ hl.1 rfl (Nat.le_of_ble_eq_true rfl) dX4_saysPlainly_2 ⟨Nat.le_of_ble_eq_true rfl, Nat.le_of_ble_eq_true rfl⟩) (fun σ1 H locs hw hO => ?_)
  refine lv_aload_n hx hb dX4_saysPlainly_5 rfl (lv_at hl 0 rfl) ?_
  refine x_flav C0 hO hw.1 iX4_saysPlainly_0 iX4_saysPlainly_2 iX4_saysPlainly_4 (List.mem_of_getElem? (i := 1) rfl) (fun _ h => h) dX4_saysPlainly_6 ?_
  replace hw := hw.2
  exact x_iret C0 hO hw dX4_saysPlainly_9
theorem hdX4_says : yX4_says.cls = RX4 ∧ yX4_says.cls ≠ "java/lang/invoke/MethodHandle" ∧ yX4_says.cls ≠ "java/lang/invoke/VarHandle" ∧ (parseMethodDescriptor yX4_says.desc).map (fun d => d.parameters.length) = some 1 := by decide +kernel
set_option maxHeartbeats 4000000 in
set_option maxRecDepth 100000 in
theorem kX4_says (l : Launch) (g : XG) (sz : Nat) (a : Nat) (σ : XS) (post : Int32 → XS → Prop) (hw : PX4_says a  σ post) : xMi l yX4_says wsX4_says rmX4_says 0 0 g sz [.ref a, .ref (xa g 15)] σ post := by
  unfold PX4_says at hw
  refine x_head (Qc := fun A => va_Qi post (xAt g A) A) (cc := cX4_says) (maxL := 2) (ret := (some .int)) (by decide) rfl ?_
  intro p e s m below meth c A C0 hnm hO
  refine x_entry (Nat.le_of_ble_eq_true rfl) (fun ls hl => ?_)
  have hl : lv_has ls 2 [(0, .ref a), (1, .ref (xa g 15))] := hl
  have hx := C0.1
  have hb := C0.2.1
  have hown := C0.2.2.2.2.2.1
  have hts := C0.2.2.2.2.2.2.1
  refine lv_aload_n hx hb dX4_says_0 rfl (lv_at hl 0 rfl) ?_
  refine lv_aload_n hx hb dX4_says_1 rfl (lv_at hl 1 rfl) ?_
  have hpe := hw.1
  rcases hw.2.1 with hk | hk | hk
  · replace hw := hw.2.2.1 hk
    refine x_calli C0 hO (x_runV (As := [.ref (xa g 15)]) (rest := []) C0 hO (kX4_saysPlainly l g _ a σ _ hw) 1 rfl (xRecvP C0 hO hpe.1 hk (ci := 4) rfl) gX4_says_X4_saysPlainly rfl rfl rfl hdX4_saysPlainly ⟨Nat.le_of_ble_eq_true rfl, Nat.le_of_ble_eq_true rfl⟩ hl.1 rfl (Nat.le_of_ble_eq_true rfl) dX4_says_2 ⟨Nat.le_of_ble_eq_true rfl, Nat.le_of_ble_eq_true rfl⟩) (fun r1 σ2 H locs hw hO => ?_)
    exact x_iret C0 hO hw dX4_says_5
  · replace hw := hw.2.2.2.1 hk
    refine x_calli C0 hO (x_runU (As := [.ref (xa g 15)]) (rest := []) C0 hO (kX4_saysPlainly l g _ a σ _ hw) 1 rfl (xRecvP C0 hO hpe.1 hk (ci := 2) rfl) gX4_says_X4_saysPlainly_u13X2 rfl rfl rfl rfl (by decide +kernel) ⟨Nat.le_of_ble_eq_true rfl, Nat.le_of_ble_eq_true rfl⟩ hl.1 rfl (Nat.le_of_ble_eq_true rfl) dX4_says_2 ⟨Nat.le_of_ble_eq_true rfl, Nat.le_of_ble_eq_true rfl⟩) (fun r3 σ4 H locs hw hO => ?_)
    exact x_iret C0 hO hw dX4_says_5
  · replace hw := hw.2.2.2.2 hk
    refine x_calli C0 hO (x_runU (As := [.ref (xa g 15)]) (rest := []) C0 hO (kX4_saysPlainly l g _ a σ _ hw) 1 rfl (xRecvP C0 hO hpe.1 hk (ci := 0) rfl) gX4_says_X4_saysPlainly_u13X0 rfl rfl rfl rfl (by decide +kernel) ⟨Nat.le_of_ble_eq_true rfl, Nat.le_of_ble_eq_true rfl⟩ hl.1 rfl (Nat.le_of_ble_eq_true rfl) dX4_says_2 ⟨Nat.le_of_ble_eq_true rfl, Nat.le_of_ble_eq_true rfl⟩) (fun r5 σ6 H locs hw hO => ?_)
    exact x_iret C0 hO hw dX4_says_5
theorem hdX2_says : yX2_says.cls = RX2 ∧ yX2_says.cls ≠ "java/lang/invoke/MethodHandle" ∧ yX2_says.cls ≠ "java/lang/invoke/VarHandle" ∧ (parseMethodDescriptor yX2_says.desc).map (fun d => d.parameters.length) = some 1 := by decide +kernel
set_option maxHeartbeats 4000000 in
set_option maxRecDepth 100000 in
theorem kX2_says (l : Launch) (g : XG) (sz : Nat) (a : Nat) (σ : XS) (post : Int32 → XS → Prop) (hw : PX2_says a  σ post) : xMi l yX2_says wsX2_says rmX2_says 0 0 g sz [.ref a, .ref (xa g 15)] σ post := by
  unfold PX2_says at hw
  refine x_head (Qc := fun A => va_Qi post (xAt g A) A) (cc := cX2_says) (maxL := 2) (ret := (some .int)) (by decide) rfl ?_
  intro p e s m below meth c A C0 hnm hO
  refine x_entry (Nat.le_of_ble_eq_true rfl) (fun ls hl => ?_)
  have hl : lv_has ls 2 [(0, .ref a), (1, .ref (xa g 15))] := hl
  have hx := C0.1
  have hb := C0.2.1
  have hown := C0.2.2.2.2.2.1
  have hts := C0.2.2.2.2.2.2.1
  refine lv_aload_n hx hb dX2_says_0 rfl (lv_at hl 1 rfl) ?_
  refine lv_iconst (v := 2) hx hb dX2_says_1 (by decide) ?_
  refine x_callv C0 hO (x_runV (As := [.int (2 : Int32)]) (rest := []) C0 hO (kX6_mark l g _ (2 : Int32) σ _ hw) 1 rfl (xRecv C0 hO (j := 15) rfl rfl) gX2_says_X6_mark rfl rfl rfl hdX6_mark ⟨Nat.le_of_ble_eq_true rfl, Nat.le_of_ble_eq_true rfl⟩ hl.1 rfl (Nat.le_of_ble_eq_true rfl) dX2_says_2 ⟨Nat.le_of_ble_eq_true rfl, Nat.le_of_ble_eq_true rfl⟩) (fun σ1 H locs hw hO => ?_)
  refine lv_aload_n hx hb dX2_says_5 rfl (lv_at hl 0 rfl) ?_
  refine lv_aload_n hx hb dX2_says_6 rfl (lv_at hl 1 rfl) ?_
  have hpe := hw.1
  rcases hw.2.1 with hk | hk
  · replace hw := hw.2.2.1 hk
    refine x_calli C0 hO (x_runSU (As := [.ref (xa g 15)]) (rest := []) (ci := 2) C0 hO (kX4_says l g _ a σ1 _ hw) 1 rfl rfl (xRecvP C0 hO hpe.1 hk (ci := 2) rfl) gX2_says_X4_says_s18 rfl rfl rfl ⟨by decide, hdX4_says.2.2.2⟩ ⟨Nat.le_of_ble_eq_true rfl, Nat.le_of_ble_eq_true rfl⟩ hl.1 rfl (Nat.le_of_ble_eq_true rfl) dX2_says_7 ⟨Nat.le_of_ble_eq_true rfl, Nat.le_of_ble_eq_true rfl⟩) (fun r2 σ3 H locs hw hO => ?_)
    refine lv_bipush (v := 100) hx hb dX2_says_10 (by decide) ?_
    refine lv_iadd hx hb dX2_says_12 ?_
    exact x_iret C0 hO hw dX2_says_13
  · replace hw := hw.2.2.2 hk
    refine x_calli C0 hO (x_runSU (As := [.ref (xa g 15)]) (rest := []) (ci := 0) C0 hO (kX4_says l g _ a σ1 _ hw) 1 rfl rfl (xRecvP C0 hO hpe.1 hk (ci := 0) rfl) gX2_says_X4_says_s18 rfl rfl rfl ⟨by decide, hdX4_says.2.2.2⟩ ⟨Nat.le_of_ble_eq_true rfl, Nat.le_of_ble_eq_true rfl⟩ hl.1 rfl (Nat.le_of_ble_eq_true rfl) dX2_says_7 ⟨Nat.le_of_ble_eq_true rfl, Nat.le_of_ble_eq_true rfl⟩) (fun r4 σ5 H locs hw hO => ?_)
    refine lv_bipush (v := 100) hx hb dX2_says_10 (by decide) ?_
    refine lv_iadd hx hb dX2_says_12 ?_
    exact x_iret C0 hO hw dX2_says_13
theorem hdX0_says : yX0_says.cls = RX0 ∧ yX0_says.cls ≠ "java/lang/invoke/MethodHandle" ∧ yX0_says.cls ≠ "java/lang/invoke/VarHandle" ∧ (parseMethodDescriptor yX0_says.desc).map (fun d => d.parameters.length) = some 1 := by decide +kernel
set_option maxHeartbeats 4000000 in
set_option maxRecDepth 100000 in
theorem kX0_says (l : Launch) (g : XG) (sz : Nat) (a : Nat) (σ : XS) (post : Int32 → XS → Prop) (hw : PX0_says a  σ post) : xMi l yX0_says wsX0_says rmX0_says 0 0 g sz [.ref a, .ref (xa g 15)] σ post := by
  unfold PX0_says at hw
  refine x_head (Qc := fun A => va_Qi post (xAt g A) A) (cc := cX0_says) (maxL := 3) (ret := (some .int)) (by decide) rfl ?_
  intro p e s m below meth c A C0 hnm hO
  refine x_entry (Nat.le_of_ble_eq_true rfl) (fun ls hl => ?_)
  have hl : lv_has ls 3 [(0, .ref a), (1, .ref (xa g 15))] := hl
  have hx := C0.1
  have hb := C0.2.1
  have hown := C0.2.2.2.2.2.1
  have hts := C0.2.2.2.2.2.2.1
  refine lv_aload_n hx hb dX0_says_0 rfl (lv_at hl 1 rfl) ?_
  refine lv_iconst (v := 3) hx hb dX0_says_1 (by decide) ?_
  refine x_callv C0 hO (x_runV (As := [.int (3 : Int32)]) (rest := []) C0 hO (kX6_mark l g _ (3 : Int32) σ _ hw) 1 rfl (xRecv C0 hO (j := 15) rfl rfl) gX0_says_X6_mark rfl rfl rfl hdX6_mark ⟨Nat.le_of_ble_eq_true rfl, Nat.le_of_ble_eq_true rfl⟩ hl.1 rfl (Nat.le_of_ble_eq_true rfl) dX0_says_2 ⟨Nat.le_of_ble_eq_true rfl, Nat.le_of_ble_eq_true rfl⟩) (fun σ1 H locs hw hO => ?_)
  refine lv_aload_n hx hb dX0_says_5 rfl (lv_at hl 0 rfl) ?_
  refine lv_aload_n hx hb dX0_says_6 rfl (lv_at hl 1 rfl) ?_
  have hpe := hw.1
  have hk := hw.2.1
  replace hw := hw.2.2 hk
  refine x_calli C0 hO (x_runSU (As := [.ref (xa g 15)]) (rest := []) (ci := 0) C0 hO (kX2_says l g _ a σ1 _ hw) 1 rfl rfl (xRecvP C0 hO hpe.1 hk (ci := 0) rfl) gX0_says_X2_says_s16 rfl rfl rfl ⟨by decide, hdX2_says.2.2.2⟩ ⟨Nat.le_of_ble_eq_true rfl, Nat.le_of_ble_eq_true rfl⟩ hl.1 rfl (Nat.le_of_ble_eq_true rfl) dX0_says_7 ⟨Nat.le_of_ble_eq_true rfl, Nat.le_of_ble_eq_true rfl⟩) (fun r2 σ3 H locs hw hO => ?_)
  refine lv_istore_n (lv' := [(2, .int r2), (0, .ref a), (1, .ref (xa g 15))]) hx hb dX0_says_10 rfl hl (by decide) rfl (fun ls hl => ?_)
  refine lv_iload_n hx hb dX0_says_11 rfl (lv_at hl 0 rfl) ?_
  refine lv_aload_n hx hb dX0_says_12 rfl (lv_at hl 1 rfl) ?_
  refine lv_aload_n hx hb dX0_says_13 rfl (lv_at hl 2 rfl) ?_
  have hpe := hw.1
  have hk := hw.2.1
  replace hw := hw.2.2 hk
  refine x_calli C0 hO (x_runU (As := [.ref (xa g 15)]) (rest := [.int r2]) C0 hO (kX4_saysPlainly l g _ a σ3 _ hw) 1 rfl (xRecvP C0 hO hpe.1 hk (ci := 0) rfl) gX0_says_X4_saysPlainly_u20X0 rfl rfl rfl rfl (by decide +kernel) ⟨Nat.le_of_ble_eq_true rfl, Nat.le_of_ble_eq_true rfl⟩ hl.1 rfl (Nat.le_of_ble_eq_true rfl) dX0_says_14 ⟨Nat.le_of_ble_eq_true rfl, Nat.le_of_ble_eq_true rfl⟩) (fun r4 σ5 H locs hw hO => ?_)
  refine lv_iadd hx hb dX0_says_17 ?_
  exact x_iret C0 hO hw dX0_says_18
theorem hdX0_isGreeted : yX0_isGreeted.cls = RX0 ∧ yX0_isGreeted.cls ≠ "java/lang/invoke/MethodHandle" ∧ yX0_isGreeted.cls ≠ "java/lang/invoke/VarHandle" ∧ (parseMethodDescriptor yX0_isGreeted.desc).map (fun d => d.parameters.length) = some 2 := by decide +kernel
set_option maxHeartbeats 4000000 in
set_option maxRecDepth 100000 in
theorem kX0_isGreeted (l : Launch) (g : XG) (sz : Nat) (a : Nat) (a1 : Int32) (σ : XS) (post : Int32 → XS → Prop) (hw : PX0_isGreeted a a1 σ post) : xMi l yX0_isGreeted wsX0_isGreeted rmX0_isGreeted 0 0 g sz [.ref a, .int a1, .ref (xa g 15)] σ post := by
  unfold PX0_isGreeted at hw
  refine x_head (Qc := fun A => va_Qi post (xAt g A) A) (cc := cX0_isGreeted) (maxL := 3) (ret := (some .int)) (by decide) rfl ?_
  intro p e s m below meth c A C0 hnm hO
  refine x_entry (Nat.le_of_ble_eq_true rfl) (fun ls hl => ?_)
  have hl : lv_has ls 3 [(0, .ref a), (1, .int a1), (2, .ref (xa g 15))] := hl
  have hx := C0.1
  have hb := C0.2.1
  have hown := C0.2.2.2.2.2.1
  have hts := C0.2.2.2.2.2.2.1
  refine lv_aload_n hx hb dX0_isGreeted_0 rfl (lv_at hl 2 rfl) ?_
  refine lv_iconst (v := 5) hx hb dX0_isGreeted_1 (by decide) ?_
  refine x_callv C0 hO (x_runV (As := [.int (5 : Int32)]) (rest := []) C0 hO (kX6_mark l g _ (5 : Int32) σ _ hw) 1 rfl (xRecv C0 hO (j := 15) rfl rfl) gX0_isGreeted_X6_mark rfl rfl rfl hdX6_mark ⟨Nat.le_of_ble_eq_true rfl, Nat.le_of_ble_eq_true rfl⟩ hl.1 rfl (Nat.le_of_ble_eq_true rfl) dX0_isGreeted_2 ⟨Nat.le_of_ble_eq_true rfl, Nat.le_of_ble_eq_true rfl⟩) (fun σ1 H locs hw hO => ?_)
  refine lv_bipush (v := 70) hx hb dX0_isGreeted_5 (by decide) ?_
  exact x_iret C0 hO hw dX0_isGreeted_7
theorem iX1_reset_1 : ∀ w ∈ wsX10, w ∈ wsX1_reset := fun w h => List.mem_cons_of_mem _ (List.mem_append_right _ h)
theorem hdX1_reset : yX1_reset.cls = RX1 ∧ yX1_reset.cls ≠ "java/lang/invoke/MethodHandle" ∧ yX1_reset.cls ≠ "java/lang/invoke/VarHandle" ∧ (parseMethodDescriptor yX1_reset.desc).map (fun d => d.parameters.length) = some 0 := by decide +kernel
set_option maxHeartbeats 4000000 in
set_option maxRecDepth 100000 in
theorem lX1_reset_2 {p : Program} {l : Launch} {e : Env} {s : State} {m : MethodId} {args : Array Value} {below : List Frame} {meth : Method} {c : Code} {g : XG} {A : Nat → Prop} (C0 : xC g A wsX1_reset RX1 cX1_reset 2 none p s m args meth c) (post : XS → Prop) (kx : Int32 → XS → Prop)
    (hkx : ∀ (m1 : Int32) (σ : XS) (H : Heap) (locs : List Loc) (ls : Array Slot), kx m1 σ → xO g A s σ H locs → lv_has ls 2 [(0, .ref (xa g 11)), (1, .int m1)] → W p l e (headSpec wsX1_reset rmX1_reset).room s m args below meth c H locs 0 0 (MQ below (va_Qv post (xAt g A) A) args s 0 0 A) (F0 m 28 ls [])) :
    ∀ (n : Nat) (m1 : Int32) (σ : XS) (H : Heap) (locs : List Loc) (ls : Array Slot), LX1_reset_2  post kx n m1 σ → xO g A s σ H locs → lv_has ls 2 [(0, .ref (xa g 11)), (1, .int m1)] → W p l e (headSpec wsX1_reset rmX1_reset).room s m args below meth c H locs 0 0 (MQ below (va_Qv post (xAt g A) A) args s 0 0 A) (F0 m 2 ls []) := by
  have hx := C0.1
  have hb := C0.2.1
  have hown := C0.2.2.2.2.2.1
  have hts := C0.2.2.2.2.2.2.1
  intro n
  induction n with
  | zero =>
    intro m1 σ H locs ls hw
    exact hw.elim
  | succ n ih =>
    intro m1 σ H locs ls hw hO hl
    rw [LX1_reset_2] at hw
    refine lv_iload_n hx hb dX1_reset_2 rfl (lv_at hl 1 rfl) ?_
    refine lv_bipush (v := 6) hx hb dX1_reset_3 (by decide) ?_
    refine lv_icmp_ge (tgt := 28) hx hb dX1_reset_5 (by decide) (fun c1 => ?_) (fun c1 => ?_)
    · replace hw := hw.1 c1
      exact hkx _ _ _ _ _ hw hO (lv_sub hl [0, 1] rfl)
    · replace hw := hw.2 c1
      refine lv_aload_n hx hb dX1_reset_8 rfl (lv_at hl 0 rfl) ?_
      refine x_getr C0 hO 11 0 12 rfl rfl (by decide) rfl iX1_reset_1 rfl (List.mem_of_getElem? (i := 1) rfl) dX1_reset_9 ?_
      refine lv_iload_n hx hb dX1_reset_12 rfl (lv_at hl 1 rfl) ?_
      refine lv_iload_n hx hb dX1_reset_13 rfl (lv_at hl 1 rfl) ?_
      refine x_iast C0 hO 12 rfl hw.1 dX1_reset_14 (fun σ2 H locs eσ2 hO => ?_)
      replace hw := hw.2 σ2 eσ2
      refine lv_aload_n hx hb dX1_reset_15 rfl (lv_at hl 0 rfl) ?_
      refine x_getr C0 hO 11 1 13 rfl rfl (by decide) rfl iX1_reset_1 rfl (List.mem_of_getElem? (i := 2) rfl) dX1_reset_16 ?_
      refine lv_iload_n hx hb dX1_reset_19 rfl (lv_at hl 1 rfl) ?_
      refine lv_iconst (v := 0) hx hb dX1_reset_20 (by decide) ?_
      refine x_iast C0 hO 13 rfl hw.1 dX1_reset_21 (fun σ3 H locs eσ3 hO => ?_)
      replace hw := hw.2 σ3 eσ3
      obtain ⟨x4, ex4⟩ : ∃ z : Int32, z = m1 + 1 := ⟨_, rfl⟩
      replace hw := hw x4 ex4
      refine lv_iinc (v := x4) (lv' := [(1, .int x4), (0, .ref (xa g 11))]) hx hb dX1_reset_22 hl (k := 1) rfl (by rw [ex4]; rfl) (by decide) rfl (fun ls hl => ?_)
      refine lv_goto (tgt := 2) hx hb dX1_reset_25 (by decide) ?_
      exact ih _ _ _ _ _ hw hO (lv_sub hl [1, 0] rfl)
set_option maxHeartbeats 4000000 in
set_option maxRecDepth 100000 in
theorem kX1_reset (l : Launch) (g : XG) (sz : Nat) (σ : XS) (post : XS → Prop) (hw : PX1_reset  σ post) : xMv l yX1_reset wsX1_reset rmX1_reset 0 0 g sz [.ref (xa g 11)] σ post := by
  unfold PX1_reset at hw
  refine x_head (Qc := fun A => va_Qv post (xAt g A) A) (cc := cX1_reset) (maxL := 2) (ret := none) (by decide) rfl ?_
  intro p e s m below meth c A C0 hnm hO
  refine x_entry (Nat.le_of_ble_eq_true rfl) (fun ls hl => ?_)
  have hl : lv_has ls 2 [(0, .ref (xa g 11))] := hl
  have hx := C0.1
  have hb := C0.2.1
  have hown := C0.2.2.2.2.2.1
  have hts := C0.2.2.2.2.2.2.1
  refine lv_iconst (v := 0) hx hb dX1_reset_0 (by decide) ?_
  refine lv_istore_n (lv' := [(1, .int (0 : Int32)), (0, .ref (xa g 11))]) hx hb dX1_reset_1 rfl hl (by decide) rfl (fun ls hl => ?_)
  refine lX1_reset_2 C0  post _ (fun x5 σ6 H locs ls hw hO hl => ?_) 1000 _ _ _ _ _ hw hO (lv_sub hl [1, 0] rfl)
  exact x_vret C0 hO hw dX1_reset_28
theorem iX1_chairIn_1 : ∀ w ∈ wsX10, w ∈ wsX1_chairIn := fun w h => List.mem_cons_of_mem _ (List.mem_append_right _ h)
theorem hdX1_chairIn : yX1_chairIn.cls = RX1 ∧ yX1_chairIn.cls ≠ "java/lang/invoke/MethodHandle" ∧ yX1_chairIn.cls ≠ "java/lang/invoke/VarHandle" ∧ (parseMethodDescriptor yX1_chairIn.desc).map (fun d => d.parameters.length) = some 1 := by decide +kernel
set_option maxHeartbeats 4000000 in
set_option maxRecDepth 100000 in
theorem kX1_chairIn (l : Launch) (g : XG) (sz : Nat) (a1 : Int32) (σ : XS) (post : Int32 → Prop) (hw : PX1_chairIn a1 σ post) : xMi l yX1_chairIn wsX1_chairIn rmX1_chairIn 0 0 g sz [.ref (xa g 11), .int a1] σ (fun r u => σ = u ∧ post r) := by
  unfold PX1_chairIn at hw
  refine x_head (Qc := fun A => va_Qi (fun r u => σ = u ∧ post r) (xAt g A) A) (cc := cX1_chairIn) (maxL := 2) (ret := (some .int)) (by decide) rfl ?_
  intro p e s m below meth c A C0 hnm hO
  refine x_entry (Nat.le_of_ble_eq_true rfl) (fun ls hl => ?_)
  have hl : lv_has ls 2 [(0, .ref (xa g 11)), (1, .int a1)] := hl
  have hx := C0.1
  have hb := C0.2.1
  have hown := C0.2.2.2.2.2.1
  have hts := C0.2.2.2.2.2.2.1
  refine lv_iload_n hx hb dX1_chairIn_0 rfl (lv_at hl 1 rfl) ?_
  refine lv_if_lt (tgt := 19) hx hb dX1_chairIn_1 (by decide) (fun c1 => ?_) (fun c1 => ?_)
  · replace hw := hw.1 c1
    refine lv_bipush (v := -9) hx hb dX1_chairIn_19 (by decide) ?_
    exact x_iret C0 hO ⟨rfl, hw⟩ dX1_chairIn_21
  · replace hw := hw.2 c1
    refine lv_iload_n hx hb dX1_chairIn_4 rfl (lv_at hl 1 rfl) ?_
    refine lv_bipush (v := 6) hx hb dX1_chairIn_5 (by decide) ?_
    refine lv_icmp_ge (tgt := 19) hx hb dX1_chairIn_7 (by decide) (fun c2 => ?_) (fun c2 => ?_)
    · replace hw := hw.1 c2
      refine lv_bipush (v := -9) hx hb dX1_chairIn_19 (by decide) ?_
      exact x_iret C0 hO ⟨rfl, hw⟩ dX1_chairIn_21
    · replace hw := hw.2 c2
      refine lv_aload_n hx hb dX1_chairIn_10 rfl (lv_at hl 0 rfl) ?_
      refine x_getr C0 hO 11 0 12 rfl rfl (by decide) rfl iX1_chairIn_1 rfl (List.mem_of_getElem? (i := 1) rfl) dX1_chairIn_11 ?_
      refine lv_iload_n hx hb dX1_chairIn_14 rfl (lv_at hl 1 rfl) ?_
      refine x_iald C0 hO 12 rfl hw.1 dX1_chairIn_15 ?_
      replace hw := hw.2
      refine lv_goto (tgt := 21) hx hb dX1_chairIn_16 (by decide) ?_
      exact x_iret C0 hO ⟨rfl, hw⟩ dX1_chairIn_21
theorem iX1_heightAt_1 : ∀ w ∈ wsX10, w ∈ wsX1_heightAt := fun w h => List.mem_cons_of_mem _ (List.mem_append_right _ h)
theorem hdX1_heightAt : yX1_heightAt.cls = RX1 ∧ yX1_heightAt.cls ≠ "java/lang/invoke/MethodHandle" ∧ yX1_heightAt.cls ≠ "java/lang/invoke/VarHandle" ∧ (parseMethodDescriptor yX1_heightAt.desc).map (fun d => d.parameters.length) = some 1 := by decide +kernel
set_option maxHeartbeats 4000000 in
set_option maxRecDepth 100000 in
theorem kX1_heightAt (l : Launch) (g : XG) (sz : Nat) (a1 : Int32) (σ : XS) (post : Int32 → Prop) (hw : PX1_heightAt a1 σ post) : xMi l yX1_heightAt wsX1_heightAt rmX1_heightAt 0 0 g sz [.ref (xa g 11), .int a1] σ (fun r u => σ = u ∧ post r) := by
  unfold PX1_heightAt at hw
  refine x_head (Qc := fun A => va_Qi (fun r u => σ = u ∧ post r) (xAt g A) A) (cc := cX1_heightAt) (maxL := 3) (ret := (some .int)) (by decide) rfl ?_
  intro p e s m below meth c A C0 hnm hO
  refine x_entry (Nat.le_of_ble_eq_true rfl) (fun ls hl => ?_)
  have hl : lv_has ls 3 [(0, .ref (xa g 11)), (1, .int a1)] := hl
  have hx := C0.1
  have hb := C0.2.1
  have hown := C0.2.2.2.2.2.1
  have hts := C0.2.2.2.2.2.2.1
  refine lv_aload_n hx hb dX1_heightAt_0 rfl (lv_at hl 0 rfl) ?_
  refine lv_iload_n hx hb dX1_heightAt_1 rfl (lv_at hl 1 rfl) ?_
  refine x_calli C0 hO (x_runV (As := [.int a1]) (rest := []) C0 hO (kX1_chairIn l g _ a1 σ _ hw) 1 rfl (xRecv C0 hO (j := 11) rfl rfl) gX1_heightAt_X1_chairIn rfl rfl rfl hdX1_chairIn ⟨Nat.le_of_ble_eq_true rfl, Nat.le_of_ble_eq_true rfl⟩ hl.1 rfl (Nat.le_of_ble_eq_true rfl) dX1_heightAt_2 ⟨Nat.le_of_ble_eq_true rfl, Nat.le_of_ble_eq_true rfl⟩) (fun r1 σ' H locs hw hO => ?_)
  obtain ⟨hσ, hw⟩ := hw
  subst hσ
  refine lv_istore_n (lv' := [(2, .int r1), (0, .ref (xa g 11)), (1, .int a1)]) hx hb dX1_heightAt_5 rfl hl (by decide) rfl (fun ls hl => ?_)
  refine lv_iload_n hx hb dX1_heightAt_6 rfl (lv_at hl 0 rfl) ?_
  refine lv_bipush (v := -9) hx hb dX1_heightAt_7 (by decide) ?_
  refine lv_icmp_ne (tgt := 16) hx hb dX1_heightAt_9 (by decide) (fun c2 => ?_) (fun c2 => ?_)
  · replace hw := hw.2 c2
    refine lv_aload_n hx hb dX1_heightAt_16 rfl (lv_at hl 1 rfl) ?_
    refine x_getr C0 hO 11 1 13 rfl rfl (by decide) rfl iX1_heightAt_1 rfl (List.mem_of_getElem? (i := 1) rfl) dX1_heightAt_17 ?_
    refine lv_iload_n hx hb dX1_heightAt_20 rfl (lv_at hl 0 rfl) ?_
    refine x_iald C0 hO 13 rfl hw.1 dX1_heightAt_21 ?_
    replace hw := hw.2
    exact x_iret C0 hO ⟨rfl, hw⟩ dX1_heightAt_22
  · replace hw := hw.1 c2
    refine lv_iconst (v := 0) hx hb dX1_heightAt_12 (by decide) ?_
    refine lv_goto (tgt := 22) hx hb dX1_heightAt_13 (by decide) ?_
    exact x_iret C0 hO ⟨rfl, hw⟩ dX1_heightAt_22
theorem iX1_layerAt_1 : ∀ w ∈ wsX10, w ∈ wsX1_layerAt := fun w h => List.mem_cons_of_mem _ (List.mem_append_right _ h)
theorem hdX1_layerAt : yX1_layerAt.cls = RX1 ∧ yX1_layerAt.cls ≠ "java/lang/invoke/MethodHandle" ∧ yX1_layerAt.cls ≠ "java/lang/invoke/VarHandle" ∧ (parseMethodDescriptor yX1_layerAt.desc).map (fun d => d.parameters.length) = some 2 := by decide +kernel
set_option maxHeartbeats 4000000 in
set_option maxRecDepth 100000 in
theorem kX1_layerAt (l : Launch) (g : XG) (sz : Nat) (a1 : Int32) (a2 : Int32) (σ : XS) (post : Int32 → Prop) (hw : PX1_layerAt a1 a2 σ post) : xMi l yX1_layerAt wsX1_layerAt rmX1_layerAt 0 0 g sz [.ref (xa g 11), .int a1, .int a2] σ (fun r u => σ = u ∧ post r) := by
  unfold PX1_layerAt at hw
  refine x_head (Qc := fun A => va_Qi (fun r u => σ = u ∧ post r) (xAt g A) A) (cc := cX1_layerAt) (maxL := 3) (ret := (some .int)) (by decide) rfl ?_
  intro p e s m below meth c A C0 hnm hO
  refine x_entry (Nat.le_of_ble_eq_true rfl) (fun ls hl => ?_)
  have hl : lv_has ls 3 [(0, .ref (xa g 11)), (1, .int a1), (2, .int a2)] := hl
  have hx := C0.1
  have hb := C0.2.1
  have hown := C0.2.2.2.2.2.1
  have hts := C0.2.2.2.2.2.2.1
  refine lv_iload_n hx hb dX1_layerAt_0 rfl (lv_at hl 2 rfl) ?_
  refine lv_if_lt (tgt := 13) hx hb dX1_layerAt_1 (by decide) (fun c1 => ?_) (fun c1 => ?_)
  · replace hw := hw.1 c1
    refine lv_bipush (v := -9) hx hb dX1_layerAt_13 (by decide) ?_
    exact x_iret C0 hO ⟨rfl, hw⟩ dX1_layerAt_15
  · replace hw := hw.2 c1
    refine lv_iload_n hx hb dX1_layerAt_4 rfl (lv_at hl 2 rfl) ?_
    refine lv_aload_n hx hb dX1_layerAt_5 rfl (lv_at hl 0 rfl) ?_
    refine lv_iload_n hx hb dX1_layerAt_6 rfl (lv_at hl 1 rfl) ?_
    refine x_calli C0 hO (x_runV (As := [.int a1]) (rest := [.int a2]) C0 hO (kX1_heightAt l g _ a1 σ _ hw) 1 rfl (xRecv C0 hO (j := 11) rfl rfl) gX1_layerAt_X1_heightAt rfl rfl rfl hdX1_heightAt ⟨Nat.le_of_ble_eq_true rfl, Nat.le_of_ble_eq_true rfl⟩ hl.1 rfl (Nat.le_of_ble_eq_true rfl) dX1_layerAt_7 ⟨Nat.le_of_ble_eq_true rfl, Nat.le_of_ble_eq_true rfl⟩) (fun r2 σ' H locs hw hO => ?_)
    obtain ⟨hσ, hw⟩ := hw
    subst hσ
    refine lv_icmp_lt (tgt := 16) hx hb dX1_layerAt_10 (by decide) (fun c3 => ?_) (fun c3 => ?_)
    · replace hw := hw.1 c3
      refine lv_aload_n hx hb dX1_layerAt_16 rfl (lv_at hl 0 rfl) ?_
      refine x_getr C0 hO 11 2 14 rfl rfl (by decide) rfl iX1_layerAt_1 rfl (List.mem_of_getElem? (i := 1) rfl) dX1_layerAt_17 ?_
      refine lv_aload_n hx hb dX1_layerAt_20 rfl (lv_at hl 0 rfl) ?_
      refine lv_iload_n hx hb dX1_layerAt_21 rfl (lv_at hl 1 rfl) ?_
      refine x_calli C0 hO (x_runV (As := [.int a1]) (rest := [.ref (xa g 14)]) C0 hO (kX1_chairIn l g _ a1 σ _ hw) 1 rfl (xRecv C0 hO (j := 11) rfl rfl) gX1_layerAt_X1_chairIn rfl rfl rfl hdX1_chairIn ⟨Nat.le_of_ble_eq_true rfl, Nat.le_of_ble_eq_true rfl⟩ hl.1 rfl (Nat.le_of_ble_eq_true rfl) dX1_layerAt_22 ⟨Nat.le_of_ble_eq_true rfl, Nat.le_of_ble_eq_true rfl⟩) (fun r4 σ' H locs hw hO => ?_)
      obtain ⟨hσ, hw⟩ := hw
      subst hσ
      refine lv_bipush (v := 25) hx hb dX1_layerAt_25 (by decide) ?_
      refine lv_imul hx hb dX1_layerAt_27 ?_
      refine lv_iload_n hx hb dX1_layerAt_28 rfl (lv_at hl 2 rfl) ?_
      refine lv_iadd hx hb dX1_layerAt_29 ?_
      refine x_iald C0 hO 14 rfl hw.1 dX1_layerAt_30 ?_
      replace hw := hw.2
      exact x_iret C0 hO ⟨rfl, hw⟩ dX1_layerAt_31
    · replace hw := hw.2 c3
      refine lv_bipush (v := -9) hx hb dX1_layerAt_13 (by decide) ?_
      exact x_iret C0 hO ⟨rfl, hw⟩ dX1_layerAt_15
theorem iX1_wipe_1 : ∀ w ∈ wsX10, w ∈ wsX1_wipe := fun w h => List.mem_cons_of_mem _ (List.mem_append_right _ h)
theorem hdX1_wipe : yX1_wipe.cls = RX1 ∧ yX1_wipe.cls ≠ "java/lang/invoke/MethodHandle" ∧ yX1_wipe.cls ≠ "java/lang/invoke/VarHandle" ∧ (parseMethodDescriptor yX1_wipe.desc).map (fun d => d.parameters.length) = some 1 := by decide +kernel
set_option maxHeartbeats 4000000 in
set_option maxRecDepth 100000 in
theorem kX1_wipe (l : Launch) (g : XG) (sz : Nat) (a1 : Int32) (σ : XS) (post : XS → Prop) (hw : PX1_wipe a1 σ post) : xMv l yX1_wipe wsX1_wipe rmX1_wipe 0 0 g sz [.ref (xa g 11), .int a1] σ post := by
  unfold PX1_wipe at hw
  refine x_head (Qc := fun A => va_Qv post (xAt g A) A) (cc := cX1_wipe) (maxL := 3) (ret := none) (by decide) rfl ?_
  intro p e s m below meth c A C0 hnm hO
  refine x_entry (Nat.le_of_ble_eq_true rfl) (fun ls hl => ?_)
  have hl : lv_has ls 3 [(0, .ref (xa g 11)), (1, .int a1)] := hl
  have hx := C0.1
  have hb := C0.2.1
  have hown := C0.2.2.2.2.2.1
  have hts := C0.2.2.2.2.2.2.1
  refine lv_aload_n hx hb dX1_wipe_0 rfl (lv_at hl 0 rfl) ?_
  refine lv_iload_n hx hb dX1_wipe_1 rfl (lv_at hl 1 rfl) ?_
  refine x_calli C0 hO (x_runV (As := [.int a1]) (rest := []) C0 hO (kX1_chairIn l g _ a1 σ _ hw) 1 rfl (xRecv C0 hO (j := 11) rfl rfl) gX1_wipe_X1_chairIn rfl rfl rfl hdX1_chairIn ⟨Nat.le_of_ble_eq_true rfl, Nat.le_of_ble_eq_true rfl⟩ hl.1 rfl (Nat.le_of_ble_eq_true rfl) dX1_wipe_2 ⟨Nat.le_of_ble_eq_true rfl, Nat.le_of_ble_eq_true rfl⟩) (fun r1 σ' H locs hw hO => ?_)
  obtain ⟨hσ, hw⟩ := hw
  subst hσ
  refine lv_istore_n (lv' := [(2, .int r1), (0, .ref (xa g 11)), (1, .int a1)]) hx hb dX1_wipe_5 rfl hl (by decide) rfl (fun ls hl => ?_)
  refine lv_iload_n hx hb dX1_wipe_6 rfl (lv_at hl 0 rfl) ?_
  refine lv_bipush (v := -9) hx hb dX1_wipe_7 (by decide) ?_
  refine lv_icmp_eq (tgt := 19) hx hb dX1_wipe_9 (by decide) (fun c2 => ?_) (fun c2 => ?_)
  · replace hw := hw.1 c2
    exact x_vret C0 hO hw dX1_wipe_19
  · replace hw := hw.2 c2
    refine lv_aload_n hx hb dX1_wipe_12 rfl (lv_at hl 1 rfl) ?_
    refine x_getr C0 hO 11 1 13 rfl rfl (by decide) rfl iX1_wipe_1 rfl (List.mem_of_getElem? (i := 1) rfl) dX1_wipe_13 ?_
    refine lv_iload_n hx hb dX1_wipe_16 rfl (lv_at hl 0 rfl) ?_
    refine lv_iconst (v := 0) hx hb dX1_wipe_17 (by decide) ?_
    refine x_iast C0 hO 13 rfl hw.1 dX1_wipe_18 (fun σ3 H locs eσ3 hO => ?_)
    replace hw := hw.2 σ3 eσ3
    exact x_vret C0 hO hw dX1_wipe_19
theorem iX1_swap_1 : ∀ w ∈ wsX10, w ∈ wsX1_swap := fun w h => List.mem_cons_of_mem _ (List.mem_append_right _ h)
theorem hdX1_swap : yX1_swap.cls = RX1 ∧ yX1_swap.cls ≠ "java/lang/invoke/MethodHandle" ∧ yX1_swap.cls ≠ "java/lang/invoke/VarHandle" ∧ (parseMethodDescriptor yX1_swap.desc).map (fun d => d.parameters.length) = some 2 := by decide +kernel
set_option maxHeartbeats 4000000 in
set_option maxRecDepth 100000 in
theorem kX1_swap (l : Launch) (g : XG) (sz : Nat) (a1 : Int32) (a2 : Int32) (σ : XS) (post : XS → Prop) (hw : PX1_swap a1 a2 σ post) : xMv l yX1_swap wsX1_swap rmX1_swap 0 0 g sz [.ref (xa g 11), .int a1, .int a2] σ post := by
  unfold PX1_swap at hw
  refine x_head (Qc := fun A => va_Qv post (xAt g A) A) (cc := cX1_swap) (maxL := 5) (ret := none) (by decide) rfl ?_
  intro p e s m below meth c A C0 hnm hO
  refine x_entry (Nat.le_of_ble_eq_true rfl) (fun ls hl => ?_)
  have hl : lv_has ls 5 [(0, .ref (xa g 11)), (1, .int a1), (2, .int a2)] := hl
  have hx := C0.1
  have hb := C0.2.1
  have hown := C0.2.2.2.2.2.1
  have hts := C0.2.2.2.2.2.2.1
  refine lv_aload_n hx hb dX1_swap_0 rfl (lv_at hl 0 rfl) ?_
  refine lv_iload_n hx hb dX1_swap_1 rfl (lv_at hl 1 rfl) ?_
  refine x_calli C0 hO (x_runV (As := [.int a1]) (rest := []) C0 hO (kX1_chairIn l g _ a1 σ _ hw) 1 rfl (xRecv C0 hO (j := 11) rfl rfl) gX1_swap_X1_chairIn rfl rfl rfl hdX1_chairIn ⟨Nat.le_of_ble_eq_true rfl, Nat.le_of_ble_eq_true rfl⟩ hl.1 rfl (Nat.le_of_ble_eq_true rfl) dX1_swap_2 ⟨Nat.le_of_ble_eq_true rfl, Nat.le_of_ble_eq_true rfl⟩) (fun r1 σ' H locs hw hO => ?_)
  obtain ⟨hσ, hw⟩ := hw
  subst hσ
  refine lv_istore_n (lv' := [(3, .int r1), (0, .ref (xa g 11)), (1, .int a1), (2, .int a2)]) hx hb dX1_swap_5 rfl hl (by decide) rfl (fun ls hl => ?_)
  refine lv_aload_n hx hb dX1_swap_6 rfl (lv_at hl 1 rfl) ?_
  refine lv_iload_n hx hb dX1_swap_7 rfl (lv_at hl 3 rfl) ?_
  refine x_calli C0 hO (x_runV (As := [.int a2]) (rest := []) C0 hO (kX1_chairIn l g _ a2 σ _ hw) 1 rfl (xRecv C0 hO (j := 11) rfl rfl) gX1_swap_X1_chairIn rfl rfl rfl hdX1_chairIn ⟨Nat.le_of_ble_eq_true rfl, Nat.le_of_ble_eq_true rfl⟩ hl.1 rfl (Nat.le_of_ble_eq_true rfl) dX1_swap_8 ⟨Nat.le_of_ble_eq_true rfl, Nat.le_of_ble_eq_true rfl⟩) (fun r2 σ' H locs hw hO => ?_)
  obtain ⟨hσ, hw⟩ := hw
  subst hσ
  refine lv_istore (lv' := [(4, .int r2), (3, .int r1), (0, .ref (xa g 11)), (1, .int a1), (2, .int a2)]) hx hb dX1_swap_11 hl (by decide) rfl (fun ls hl => ?_)
  refine lv_iload_n hx hb dX1_swap_13 rfl (lv_at hl 1 rfl) ?_
  refine lv_bipush (v := -9) hx hb dX1_swap_14 (by decide) ?_
  refine lv_icmp_eq (tgt := 26) hx hb dX1_swap_16 (by decide) (fun c3 => ?_) (fun c3 => ?_)
  · replace hw := hw.1 c3
    exact x_vret C0 hO hw dX1_swap_26
  · replace hw := hw.2 c3
    refine lv_iload hx hb dX1_swap_19 (lv_at hl 0 rfl) ?_
    refine lv_bipush (v := -9) hx hb dX1_swap_21 (by decide) ?_
    refine lv_icmp_ne (tgt := 27) hx hb dX1_swap_23 (by decide) (fun c4 => ?_) (fun c4 => ?_)
    · replace hw := hw.2 c4
      refine lv_aload_n hx hb dX1_swap_27 rfl (lv_at hl 2 rfl) ?_
      refine x_getr C0 hO 11 0 12 rfl rfl (by decide) rfl iX1_swap_1 rfl (List.mem_of_getElem? (i := 1) rfl) dX1_swap_28 ?_
      refine lv_iload_n hx hb dX1_swap_31 rfl (lv_at hl 3 rfl) ?_
      refine lv_iload hx hb dX1_swap_32 (lv_at hl 0 rfl) ?_
      refine x_iast C0 hO 12 rfl hw.1 dX1_swap_34 (fun σ5 H locs eσ5 hO => ?_)
      replace hw := hw.2 σ5 eσ5
      refine lv_aload_n hx hb dX1_swap_35 rfl (lv_at hl 2 rfl) ?_
      refine x_getr C0 hO 11 0 12 rfl rfl (by decide) rfl iX1_swap_1 rfl (List.mem_of_getElem? (i := 1) rfl) dX1_swap_36 ?_
      refine lv_iload_n hx hb dX1_swap_39 rfl (lv_at hl 4 rfl) ?_
      refine lv_iload_n hx hb dX1_swap_40 rfl (lv_at hl 1 rfl) ?_
      refine x_iast C0 hO 12 rfl hw.1 dX1_swap_41 (fun σ6 H locs eσ6 hO => ?_)
      replace hw := hw.2 σ6 eσ6
      exact x_vret C0 hO hw dX1_swap_42
    · replace hw := hw.1 c4
      exact x_vret C0 hO hw dX1_swap_26
theorem iX1_press_1 : ∀ w ∈ wsX10, w ∈ wsX1_press := fun w h => List.mem_cons_of_mem _ (List.mem_append_right _ h)
theorem hdX1_press : yX1_press.cls = RX1 ∧ yX1_press.cls ≠ "java/lang/invoke/MethodHandle" ∧ yX1_press.cls ≠ "java/lang/invoke/VarHandle" ∧ (parseMethodDescriptor yX1_press.desc).map (fun d => d.parameters.length) = some 2 := by decide +kernel
set_option maxHeartbeats 4000000 in
set_option maxRecDepth 100000 in
theorem kX1_press (l : Launch) (g : XG) (sz : Nat) (a1 : Int32) (a2 : Int32) (σ : XS) (post : XS → Prop) (hw : PX1_press a1 a2 σ post) : xMv l yX1_press wsX1_press rmX1_press 0 0 g sz [.ref (xa g 11), .int a1, .int a2] σ post := by
  unfold PX1_press at hw
  refine x_head (Qc := fun A => va_Qv post (xAt g A) A) (cc := cX1_press) (maxL := 4) (ret := none) (by decide) rfl ?_
  intro p e s m below meth c A C0 hnm hO
  refine x_entry (Nat.le_of_ble_eq_true rfl) (fun ls hl => ?_)
  have hl : lv_has ls 4 [(0, .ref (xa g 11)), (1, .int a1), (2, .int a2)] := hl
  have hx := C0.1
  have hb := C0.2.1
  have hown := C0.2.2.2.2.2.1
  have hts := C0.2.2.2.2.2.2.1
  refine lv_aload_n hx hb dX1_press_0 rfl (lv_at hl 0 rfl) ?_
  refine lv_iload_n hx hb dX1_press_1 rfl (lv_at hl 1 rfl) ?_
  refine x_calli C0 hO (x_runV (As := [.int a1]) (rest := []) C0 hO (kX1_chairIn l g _ a1 σ _ hw) 1 rfl (xRecv C0 hO (j := 11) rfl rfl) gX1_press_X1_chairIn rfl rfl rfl hdX1_chairIn ⟨Nat.le_of_ble_eq_true rfl, Nat.le_of_ble_eq_true rfl⟩ hl.1 rfl (Nat.le_of_ble_eq_true rfl) dX1_press_2 ⟨Nat.le_of_ble_eq_true rfl, Nat.le_of_ble_eq_true rfl⟩) (fun r1 σ' H locs hw hO => ?_)
  obtain ⟨hσ, hw⟩ := hw
  subst hσ
  refine lv_istore_n (lv' := [(3, .int r1), (0, .ref (xa g 11)), (1, .int a1), (2, .int a2)]) hx hb dX1_press_5 rfl hl (by decide) rfl (fun ls hl => ?_)
  refine lv_iload_n hx hb dX1_press_6 rfl (lv_at hl 0 rfl) ?_
  refine lv_bipush (v := -9) hx hb dX1_press_7 (by decide) ?_
  refine lv_icmp_eq (tgt := 23) hx hb dX1_press_9 (by decide) (fun c2 => ?_) (fun c2 => ?_)
  · replace hw := hw.1 c2
    exact x_vret C0 hO hw dX1_press_23
  · replace hw := hw.2 c2
    refine lv_aload_n hx hb dX1_press_12 rfl (lv_at hl 1 rfl) ?_
    refine x_getr C0 hO 11 1 13 rfl rfl (by decide) rfl iX1_press_1 rfl (List.mem_of_getElem? (i := 1) rfl) dX1_press_13 ?_
    refine lv_iload_n hx hb dX1_press_16 rfl (lv_at hl 0 rfl) ?_
    refine x_iald C0 hO 13 rfl hw.1 dX1_press_17 ?_
    replace hw := hw.2
    refine lv_bipush (v := 25) hx hb dX1_press_18 (by decide) ?_
    refine lv_icmp_lt (tgt := 24) hx hb dX1_press_20 (by decide) (fun c3 => ?_) (fun c3 => ?_)
    · replace hw := hw.1 c3
      refine lv_aload_n hx hb dX1_press_24 rfl (lv_at hl 1 rfl) ?_
      refine x_getr C0 hO 11 2 14 rfl rfl (by decide) rfl iX1_press_1 rfl (List.mem_of_getElem? (i := 2) rfl) dX1_press_25 ?_
      refine lv_iload_n hx hb dX1_press_28 rfl (lv_at hl 0 rfl) ?_
      refine lv_bipush (v := 25) hx hb dX1_press_29 (by decide) ?_
      refine lv_imul hx hb dX1_press_31 ?_
      refine lv_aload_n hx hb dX1_press_32 rfl (lv_at hl 1 rfl) ?_
      refine x_getr C0 hO 11 1 13 rfl rfl (by decide) rfl iX1_press_1 rfl (List.mem_of_getElem? (i := 1) rfl) dX1_press_33 ?_
      refine lv_iload_n hx hb dX1_press_36 rfl (lv_at hl 0 rfl) ?_
      refine x_iald C0 hO 13 rfl hw.1 dX1_press_37 ?_
      replace hw := hw.2
      refine lv_iadd hx hb dX1_press_38 ?_
      refine lv_iload_n hx hb dX1_press_39 rfl (lv_at hl 3 rfl) ?_
      refine x_iast C0 hO 14 rfl hw.1 dX1_press_40 (fun σ4 H locs eσ4 hO => ?_)
      replace hw := hw.2 σ4 eσ4
      refine lv_aload_n hx hb dX1_press_41 rfl (lv_at hl 1 rfl) ?_
      refine x_getr C0 hO 11 1 13 rfl rfl (by decide) rfl iX1_press_1 rfl (List.mem_of_getElem? (i := 1) rfl) dX1_press_42 ?_
      refine lv_iload_n hx hb dX1_press_45 rfl (lv_at hl 0 rfl) ?_
      refine lv_dup2_11 hx hb dX1_press_46 rfl rfl ?_
      refine x_iald C0 hO 13 rfl hw.1 dX1_press_47 ?_
      replace hw := hw.2
      refine lv_iconst (v := 1) hx hb dX1_press_48 (by decide) ?_
      refine lv_iadd hx hb dX1_press_49 ?_
      refine x_iast C0 hO 13 rfl hw.1 dX1_press_50 (fun σ5 H locs eσ5 hO => ?_)
      replace hw := hw.2 σ5 eσ5
      exact x_vret C0 hO hw dX1_press_51
    · replace hw := hw.2 c3
      exact x_vret C0 hO hw dX1_press_23
theorem hdX2_kindNumber : yX2_kindNumber.cls = RX2 ∧ yX2_kindNumber.cls ≠ "java/lang/invoke/MethodHandle" ∧ yX2_kindNumber.cls ≠ "java/lang/invoke/VarHandle" ∧ (parseMethodDescriptor yX2_kindNumber.desc).map (fun d => d.parameters.length) = some 0 := by decide +kernel
set_option maxHeartbeats 4000000 in
set_option maxRecDepth 100000 in
theorem kX2_kindNumber (l : Launch) (g : XG) (sz : Nat) (a : Nat) (σ : XS) (post : Int32 → Prop) (hw : PX2_kindNumber a  σ post) : xMi l yX2_kindNumber wsX2_kindNumber rmX2_kindNumber 0 0 g sz [.ref a] σ (fun r u => σ = u ∧ post r) := by
  unfold PX2_kindNumber at hw
  refine x_head (Qc := fun A => va_Qi (fun r u => σ = u ∧ post r) (xAt g A) A) (cc := cX2_kindNumber) (maxL := 1) (ret := (some .int)) (by decide) rfl ?_
  intro p e s m below meth c A C0 hnm hO
  refine x_entry (Nat.le_of_ble_eq_true rfl) (fun ls hl => ?_)
  have hl : lv_has ls 1 [(0, .ref a)] := hl
  have hx := C0.1
  have hb := C0.2.1
  have hown := C0.2.2.2.2.2.1
  have hts := C0.2.2.2.2.2.2.1
  refine lv_iconst (v := 1) hx hb dX2_kindNumber_0 (by decide) ?_
  exact x_iret C0 hO ⟨rfl, hw⟩ dX2_kindNumber_1
theorem iX3_isNothing_3 : ∀ w ∈ wsX30, w ∈ wsX3_isNothing := fun w h => List.mem_cons_of_mem _ (List.mem_append_right _ h)
theorem hdX3_isNothing : yX3_isNothing.cls = RX3 ∧ yX3_isNothing.cls ≠ "java/lang/invoke/MethodHandle" ∧ yX3_isNothing.cls ≠ "java/lang/invoke/VarHandle" ∧ (parseMethodDescriptor yX3_isNothing.desc).map (fun d => d.parameters.length) = some 0 := by decide +kernel
set_option maxHeartbeats 4000000 in
set_option maxRecDepth 100000 in
theorem kX3_isNothing (l : Launch) (g : XG) (sz : Nat) (q : Nat) (hq : isSh q) (σ : XS) (post : Int32 → Prop) (hw : PX3_isNothing q  σ post) : xMi l yX3_isNothing wsX3_isNothing rmX3_isNothing 0 0 g sz [.ref (xa g q)] σ (fun r u => σ = u ∧ post r) := by
  unfold PX3_isNothing at hw
  refine x_head (Qc := fun A => va_Qi (fun r u => σ = u ∧ post r) (xAt g A) A) (cc := cX3_isNothing) (maxL := 1) (ret := (some .boolean)) (by decide) rfl ?_
  intro p e s m below meth c A C0 hnm hO
  refine x_entry (Nat.le_of_ble_eq_true rfl) (fun ls hl => ?_)
  have hl : lv_has ls 1 [(0, .ref (xa g q))] := hl
  have hx := C0.1
  have hb := C0.2.1
  have hown := C0.2.2.2.2.2.1
  have hts := C0.2.2.2.2.2.2.1
  refine lv_aload_n hx hb dX3_isNothing_0 rfl (lv_at hl 0 rfl) ?_
  refine x_geti C0 hO q 2 hq.1 rfl (by decide) rfl iX3_isNothing_3 rfl (List.mem_of_getElem? (i := 1) rfl) dX3_isNothing_1 ?_
  refine lv_iconst (v := -1) hx hb dX3_isNothing_4 (by decide) ?_
  refine lv_icmp_ne (tgt := 12) hx hb dX3_isNothing_5 (by decide) (fun c1 => ?_) (fun c1 => ?_)
  · replace hw := hw.2 c1
    refine lv_iconst (v := 0) hx hb dX3_isNothing_12 (by decide) ?_
    exact x_zret C0 hO rfl ⟨rfl, hw⟩ dX3_isNothing_13
  · replace hw := hw.1 c1
    refine lv_iconst (v := 1) hx hb dX3_isNothing_8 (by decide) ?_
    refine lv_goto (tgt := 13) hx hb dX3_isNothing_9 (by decide) ?_
    exact x_zret C0 hO rfl ⟨rfl, hw⟩ dX3_isNothing_13
theorem hdJ7_fill_53178 : yJ7_fill_53178.cls = RJ7 ∧ yJ7_fill_53178.cls ≠ "java/lang/invoke/MethodHandle" ∧ yJ7_fill_53178.cls ≠ "java/lang/invoke/VarHandle" ∧ (parseMethodDescriptor yJ7_fill_53178.desc).map (fun d => d.parameters.length) = some 2 := by decide +kernel
set_option maxHeartbeats 4000000 in
set_option maxRecDepth 100000 in
theorem lJ7_fill_53178_5 {p : Program} {l : Launch} {e : Env} {s : State} {m : MethodId} {args : Array Value} {below : List Frame} {meth : Method} {c : Code} {g : XG} {A : Nat → Prop} (C0 : xC g A wsJ7_fill_53178 RJ7 cJ7_fill_53178 4 none p s m args meth c) (q N : Nat) (hq : xTab[q]? = some (.inl (0, N))) (f1 : Int32) (f3 : Int32) (post : XS → Prop) (kx : Int32 → XS → Prop)
    (hkx : ∀ (m2 : Int32) (σ : XS) (H : Heap) (locs : List Loc) (ls : Array Slot), kx m2 σ → xO g A s σ H locs → lv_has ls 4 [(0, .ref (xa g q)), (1, .int f1), (2, .int m2), (3, .int f3)] → W p l e (headSpec wsJ7_fill_53178 rmJ7_fill_53178).room s m args below meth c H locs 0 0 (MQ below (va_Qv post (xAt g A) A) args s 0 0 A) (F0 m 20 ls [])) :
    ∀ (n : Nat) (m2 : Int32) (σ : XS) (H : Heap) (locs : List Loc) (ls : Array Slot), LJ7_fill_53178_5 q N f1 f3 post kx n m2 σ → xO g A s σ H locs → lv_has ls 4 [(0, .ref (xa g q)), (1, .int f1), (2, .int m2), (3, .int f3)] → W p l e (headSpec wsJ7_fill_53178 rmJ7_fill_53178).room s m args below meth c H locs 0 0 (MQ below (va_Qv post (xAt g A) A) args s 0 0 A) (F0 m 5 ls []) := by
  have hx := C0.1
  have hb := C0.2.1
  have hown := C0.2.2.2.2.2.1
  have hts := C0.2.2.2.2.2.2.1
  intro n
  induction n with
  | zero =>
    intro m2 σ H locs ls hw
    exact hw.elim
  | succ n ih =>
    intro m2 σ H locs ls hw hO hl
    rw [LJ7_fill_53178_5] at hw
    refine lv_iload_n hx hb dJ7_fill_53178_5 rfl (lv_at hl 2 rfl) ?_
    refine lv_iload_n hx hb dJ7_fill_53178_6 rfl (lv_at hl 3 rfl) ?_
    refine lv_icmp_ge (tgt := 20) hx hb dJ7_fill_53178_7 (by decide) (fun c2 => ?_) (fun c2 => ?_)
    · replace hw := hw.1 c2
      exact hkx _ _ _ _ _ hw hO (lv_sub hl [0, 1, 2, 3] rfl)
    · replace hw := hw.2 c2
      refine lv_aload_n hx hb dJ7_fill_53178_10 rfl (lv_at hl 0 rfl) ?_
      refine lv_iload_n hx hb dJ7_fill_53178_11 rfl (lv_at hl 2 rfl) ?_
      refine lv_iload_n hx hb dJ7_fill_53178_12 rfl (lv_at hl 1 rfl) ?_
      refine x_iast C0 hO q hq hw.1 dJ7_fill_53178_13 (fun σ3 H locs eσ3 hO => ?_)
      replace hw := hw.2 σ3 eσ3
      obtain ⟨x4, ex4⟩ : ∃ z : Int32, z = m2 + 1 := ⟨_, rfl⟩
      replace hw := hw x4 ex4
      refine lv_iinc (v := x4) (lv' := [(2, .int x4), (0, .ref (xa g q)), (1, .int f1), (3, .int f3)]) hx hb dJ7_fill_53178_14 hl (k := 2) rfl (by rw [ex4]; rfl) (by decide) rfl (fun ls hl => ?_)
      refine lv_goto (tgt := 5) hx hb dJ7_fill_53178_17 (by decide) ?_
      exact ih _ _ _ _ _ hw hO (lv_sub hl [1, 2, 0, 3] rfl)
set_option maxHeartbeats 4000000 in
set_option maxRecDepth 100000 in
theorem kJ7_fill_53178 (l : Launch) (g : XG) (sz : Nat) (q N : Nat) (hq : xTab[q]? = some (.inl (0, N))) (a1 : Int32) (σ : XS) (post : XS → Prop) (hw : PJ7_fill_53178 q N a1 σ post) : xMv l yJ7_fill_53178 wsJ7_fill_53178 rmJ7_fill_53178 0 0 g sz [.ref (xa g q), .int a1] σ post := by
  unfold PJ7_fill_53178 at hw
  refine x_head (Qc := fun A => va_Qv post (xAt g A) A) (cc := cJ7_fill_53178) (maxL := 4) (ret := none) (by decide) rfl ?_
  intro p e s m below meth c A C0 hnm hO
  refine x_entry (Nat.le_of_ble_eq_true rfl) (fun ls hl => ?_)
  have hl : lv_has ls 4 [(0, .ref (xa g q)), (1, .int a1)] := hl
  have hx := C0.1
  have hb := C0.2.1
  have hown := C0.2.2.2.2.2.1
  have hts := C0.2.2.2.2.2.2.1
  refine lv_iconst (v := 0) hx hb dJ7_fill_53178_0 (by decide) ?_
  refine lv_istore_n (lv' := [(2, .int (0 : Int32)), (0, .ref (xa g q)), (1, .int a1)]) hx hb dJ7_fill_53178_1 rfl hl (by decide) rfl (fun ls hl => ?_)
  refine lv_aload_n hx hb dJ7_fill_53178_2 rfl (lv_at hl 1 rfl) ?_
  refine x_alen C0 hO q hq dJ7_fill_53178_3 ?_
  refine lv_topi (fun x1 ex1 => ?_)
  replace hw := hw x1 ex1
  refine lv_istore_n (lv' := [(3, .int x1), (2, .int (0 : Int32)), (0, .ref (xa g q)), (1, .int a1)]) hx hb dJ7_fill_53178_4 rfl hl (by decide) rfl (fun ls hl => ?_)
  refine lJ7_fill_53178_5 C0 q N hq a1 x1 post _ (fun x5 σ6 H locs ls hw hO hl => ?_) 1000 _ _ _ _ _ hw hO (lv_sub hl [2, 3, 1, 0] rfl)
  exact x_vret C0 hO hw dJ7_fill_53178_20
theorem iX3_renew_3 : ∀ w ∈ wsX30, w ∈ wsX3_renew := fun w h => List.mem_cons_of_mem _ (List.mem_append_right _ h)
theorem hdX3_renew : yX3_renew.cls = RX3 ∧ yX3_renew.cls ≠ "java/lang/invoke/MethodHandle" ∧ yX3_renew.cls ≠ "java/lang/invoke/VarHandle" ∧ (parseMethodDescriptor yX3_renew.desc).map (fun d => d.parameters.length) = some 2 := by decide +kernel
set_option maxHeartbeats 4000000 in
set_option maxRecDepth 100000 in
theorem kX3_renew (l : Launch) (g : XG) (sz : Nat) (q : Nat) (hq : isSh q) (a1 : Int32) (a2 : Int32) (σ : XS) (post : XS → Prop) (hw : PX3_renew q a1 a2 σ post) : xMv l yX3_renew wsX3_renew rmX3_renew 0 0 g sz [.ref (xa g q), .int a1, .int a2] σ post := by
  unfold PX3_renew at hw
  refine x_head (Qc := fun A => va_Qv post (xAt g A) A) (cc := cX3_renew) (maxL := 3) (ret := none) (by decide) rfl ?_
  intro p e s m below meth c A C0 hnm hO
  refine x_entry (Nat.le_of_ble_eq_true rfl) (fun ls hl => ?_)
  have hl : lv_has ls 3 [(0, .ref (xa g q)), (1, .int a1), (2, .int a2)] := hl
  have hx := C0.1
  have hb := C0.2.1
  have hown := C0.2.2.2.2.2.1
  have hts := C0.2.2.2.2.2.2.1
  refine lv_aload_n hx hb dX3_renew_0 rfl (lv_at hl 0 rfl) ?_
  refine x_getr C0 hO q 0 (q + 1) hq.1 rfl (by decide) rfl iX3_renew_3 rfl (List.mem_of_getElem? (i := 1) rfl) dX3_renew_1 ?_
  refine lv_iconst (v := 0) hx hb dX3_renew_4 (by decide) ?_
  refine x_callv C0 hO (x_runS (As := [.ref (xa g (q + 1)), .int (0 : Int32)]) (rest := []) C0 hO (kJ7_fill_53178 l g _ (q + 1) 60 hq.2 (0 : Int32) σ _ hw) 2 rfl gX3_renew_J7_fill_53178 rfl rfl rfl hdJ7_fill_53178.2 ⟨Nat.le_of_ble_eq_true rfl, Nat.le_of_ble_eq_true rfl⟩ hl.1 rfl (Nat.le_of_ble_eq_true rfl) dX3_renew_5 ⟨Nat.le_of_ble_eq_true rfl, Nat.le_of_ble_eq_true rfl⟩) (fun σ1 H locs hw hO => ?_)
  refine lv_aload_n hx hb dX3_renew_8 rfl (lv_at hl 0 rfl) ?_
  refine lv_iconst (v := 0) hx hb dX3_renew_9 (by decide) ?_
  refine lv_iload_n hx hb dX3_renew_10 rfl (lv_at hl 2 rfl) ?_
  refine lv_bipush (v := 60) hx hb dX3_renew_11 (by decide) ?_
  refine va_mmin hx hb (by rw [C0.2.2.2.2.1]; exact hl.1.symm) hown (hts _ (List.mem_of_getElem? (i := 2) rfl)) (hts _ (List.mem_of_getElem? (i := 3) rfl)) (hts _ (List.mem_of_getElem? (i := 4) rfl)) (hts _ (List.mem_of_getElem? (i := 5) rfl)) (Nat.le_of_ble_eq_true rfl) (Nat.le_of_ble_eq_true rfl) (Nat.le_of_ble_eq_true rfl) (Nat.le_of_ble_eq_true rfl) dX3_renew_13 ?_
  refine va_mmax hx hb (by rw [C0.2.2.2.2.1]; exact hl.1.symm) hown (hts _ (List.mem_of_getElem? (i := 6) rfl)) (hts _ (List.mem_of_getElem? (i := 7) rfl)) (hts _ (List.mem_of_getElem? (i := 4) rfl)) (hts _ (List.mem_of_getElem? (i := 8) rfl)) (Nat.le_of_ble_eq_true rfl) (Nat.le_of_ble_eq_true rfl) (Nat.le_of_ble_eq_true rfl) (Nat.le_of_ble_eq_true rfl) dX3_renew_16 ?_
  refine x_puti C0 hO q 1 tyX3 tyX3_ok nmX3 hq.1 rfl (by decide) rfl iX3_renew_3 rfl rfl rfl (List.mem_of_getElem? (i := 9) rfl) dX3_renew_19 (fun σ2 H locs eσ2 hO => ?_)
  replace hw := hw σ2 eσ2
  refine lv_aload_n hx hb dX3_renew_22 rfl (lv_at hl 0 rfl) ?_
  refine lv_iload_n hx hb dX3_renew_23 rfl (lv_at hl 1 rfl) ?_
  refine x_puti C0 hO q 2 tyX3 tyX3_ok nmX3 hq.1 rfl (by decide) rfl iX3_renew_3 rfl rfl rfl (List.mem_of_getElem? (i := 10) rfl) dX3_renew_24 (fun σ3 H locs eσ3 hO => ?_)
  replace hw := hw σ3 eσ3
  exact x_vret C0 hO hw dX3_renew_27
theorem iX3_drop_3 : ∀ w ∈ wsX30, w ∈ wsX3_drop := fun w h => List.mem_cons_of_mem _ (List.mem_append_right _ h)
theorem hdX3_drop : yX3_drop.cls = RX3 ∧ yX3_drop.cls ≠ "java/lang/invoke/MethodHandle" ∧ yX3_drop.cls ≠ "java/lang/invoke/VarHandle" ∧ (parseMethodDescriptor yX3_drop.desc).map (fun d => d.parameters.length) = some 0 := by decide +kernel
set_option maxHeartbeats 4000000 in
set_option maxRecDepth 100000 in
theorem kX3_drop (l : Launch) (g : XG) (sz : Nat) (q : Nat) (hq : isSh q) (σ : XS) (post : XS → Prop) (hw : PX3_drop q  σ post) : xMv l yX3_drop wsX3_drop rmX3_drop 0 0 g sz [.ref (xa g q)] σ post := by
  unfold PX3_drop at hw
  refine x_head (Qc := fun A => va_Qv post (xAt g A) A) (cc := cX3_drop) (maxL := 1) (ret := none) (by decide) rfl ?_
  intro p e s m below meth c A C0 hnm hO
  refine x_entry (Nat.le_of_ble_eq_true rfl) (fun ls hl => ?_)
  have hl : lv_has ls 1 [(0, .ref (xa g q))] := hl
  have hx := C0.1
  have hb := C0.2.1
  have hown := C0.2.2.2.2.2.1
  have hts := C0.2.2.2.2.2.2.1
  refine lv_aload_n hx hb dX3_drop_0 rfl (lv_at hl 0 rfl) ?_
  refine lv_iconst (v := 0) hx hb dX3_drop_1 (by decide) ?_
  refine x_puti C0 hO q 1 tyX3 tyX3_ok nmX3 hq.1 rfl (by decide) rfl iX3_drop_3 rfl rfl rfl (List.mem_of_getElem? (i := 1) rfl) dX3_drop_2 (fun σ1 H locs eσ1 hO => ?_)
  replace hw := hw σ1 eσ1
  refine lv_aload_n hx hb dX3_drop_5 rfl (lv_at hl 0 rfl) ?_
  refine lv_iconst (v := -1) hx hb dX3_drop_6 (by decide) ?_
  refine x_puti C0 hO q 2 tyX3 tyX3_ok nmX3 hq.1 rfl (by decide) rfl iX3_drop_3 rfl rfl rfl (List.mem_of_getElem? (i := 2) rfl) dX3_drop_7 (fun σ2 H locs eσ2 hO => ?_)
  replace hw := hw σ2 eσ2
  exact x_vret C0 hO hw dX3_drop_10
theorem iX3_faultAs_3 : ∀ w ∈ wsX30, w ∈ wsX3_faultAs := fun w h => List.mem_cons_of_mem _ (List.mem_append_right _ h)
theorem hdX3_faultAs : yX3_faultAs.cls = RX3 ∧ yX3_faultAs.cls ≠ "java/lang/invoke/MethodHandle" ∧ yX3_faultAs.cls ≠ "java/lang/invoke/VarHandle" ∧ (parseMethodDescriptor yX3_faultAs.desc).map (fun d => d.parameters.length) = some 1 := by decide +kernel
set_option maxHeartbeats 4000000 in
set_option maxRecDepth 100000 in
theorem kX3_faultAs (l : Launch) (g : XG) (sz : Nat) (q : Nat) (hq : isSh q) (a1 : Int32) (σ : XS) (post : Int32 → Prop) (hw : PX3_faultAs q a1 σ post) : xMi l yX3_faultAs wsX3_faultAs rmX3_faultAs 0 0 g sz [.ref (xa g q), .int a1] σ (fun r u => σ = u ∧ post r) := by
  unfold PX3_faultAs at hw
  refine x_head (Qc := fun A => va_Qi (fun r u => σ = u ∧ post r) (xAt g A) A) (cc := cX3_faultAs) (maxL := 2) (ret := (some .int)) (by decide) rfl ?_
  intro p e s m below meth c A C0 hnm hO
  refine x_entry (Nat.le_of_ble_eq_true rfl) (fun ls hl => ?_)
  have hl : lv_has ls 2 [(0, .ref (xa g q)), (1, .int a1)] := hl
  have hx := C0.1
  have hb := C0.2.1
  have hown := C0.2.2.2.2.2.1
  have hts := C0.2.2.2.2.2.2.1
  refine lv_aload_n hx hb dX3_faultAs_0 rfl (lv_at hl 0 rfl) ?_
  refine x_calli C0 hO (x_runV (As := []) (rest := []) C0 hO (kX3_isNothing l g _ q hq σ _ hw) 0 rfl (xRecv C0 hO (j := q) hq.1 rfl) gX3_faultAs_X3_isNothing rfl rfl rfl hdX3_isNothing ⟨Nat.le_of_ble_eq_true rfl, Nat.le_of_ble_eq_true rfl⟩ hl.1 rfl (Nat.le_of_ble_eq_true rfl) dX3_faultAs_1 ⟨Nat.le_of_ble_eq_true rfl, Nat.le_of_ble_eq_true rfl⟩) (fun r1 σ' H locs hw hO => ?_)
  obtain ⟨hσ, hw⟩ := hw
  subst hσ
  refine lv_if_eq (tgt := 9) hx hb dX3_faultAs_4 (by decide) (fun c2 => ?_) (fun c2 => ?_)
  · replace hw := hw.1 c2
    refine lv_aload_n hx hb dX3_faultAs_9 rfl (lv_at hl 0 rfl) ?_
    refine x_geti C0 hO q 2 hq.1 rfl (by decide) rfl iX3_faultAs_3 rfl (List.mem_of_getElem? (i := 1) rfl) dX3_faultAs_10 ?_
    refine lv_iload_n hx hb dX3_faultAs_13 rfl (lv_at hl 1 rfl) ?_
    refine lv_icmp_ne (tgt := 21) hx hb dX3_faultAs_14 (by decide) (fun c3 => ?_) (fun c3 => ?_)
    · replace hw := hw.2 c3
      refine lv_iconst (v := 2) hx hb dX3_faultAs_21 (by decide) ?_
      exact x_iret C0 hO ⟨rfl, hw⟩ dX3_faultAs_22
    · replace hw := hw.1 c3
      refine lv_iconst (v := 0) hx hb dX3_faultAs_17 (by decide) ?_
      refine lv_goto (tgt := 22) hx hb dX3_faultAs_18 (by decide) ?_
      exact x_iret C0 hO ⟨rfl, hw⟩ dX3_faultAs_22
  · replace hw := hw.2 c2
    refine lv_iconst (v := 1) hx hb dX3_faultAs_7 (by decide) ?_
    exact x_iret C0 hO ⟨rfl, hw⟩ dX3_faultAs_8
theorem iX3_reaches_3 : ∀ w ∈ wsX30, w ∈ wsX3_reaches := fun w h => List.mem_cons_of_mem _ (List.mem_append_right _ h)
theorem hdX3_reaches : yX3_reaches.cls = RX3 ∧ yX3_reaches.cls ≠ "java/lang/invoke/MethodHandle" ∧ yX3_reaches.cls ≠ "java/lang/invoke/VarHandle" ∧ (parseMethodDescriptor yX3_reaches.desc).map (fun d => d.parameters.length) = some 2 := by decide +kernel
set_option maxHeartbeats 4000000 in
set_option maxRecDepth 100000 in
theorem kX3_reaches (l : Launch) (g : XG) (sz : Nat) (q : Nat) (hq : isSh q) (a1 : Int32) (a2 : Int32) (σ : XS) (post : Int32 → Prop) (hw : PX3_reaches q a1 a2 σ post) : xMi l yX3_reaches wsX3_reaches rmX3_reaches 0 0 g sz [.ref (xa g q), .int a1, .int a2] σ (fun r u => σ = u ∧ post r) := by
  unfold PX3_reaches at hw
  refine x_head (Qc := fun A => va_Qi (fun r u => σ = u ∧ post r) (xAt g A) A) (cc := cX3_reaches) (maxL := 3) (ret := (some .boolean)) (by decide) rfl ?_
  intro p e s m below meth c A C0 hnm hO
  refine x_entry (Nat.le_of_ble_eq_true rfl) (fun ls hl => ?_)
  have hl : lv_has ls 3 [(0, .ref (xa g q)), (1, .int a1), (2, .int a2)] := hl
  have hx := C0.1
  have hb := C0.2.1
  have hown := C0.2.2.2.2.2.1
  have hts := C0.2.2.2.2.2.2.1
  refine lv_iload_n hx hb dX3_reaches_0 rfl (lv_at hl 1 rfl) ?_
  refine lv_if_lt (tgt := 30) hx hb dX3_reaches_1 (by decide) (fun c1 => ?_) (fun c1 => ?_)
  · replace hw := hw.1 c1
    refine lv_iconst (v := 0) hx hb dX3_reaches_30 (by decide) ?_
    exact x_zret C0 hO rfl ⟨rfl, hw⟩ dX3_reaches_31
  · replace hw := hw.2 c1
    refine lv_iload_n hx hb dX3_reaches_4 rfl (lv_at hl 1 rfl) ?_
    refine lv_aload_n hx hb dX3_reaches_5 rfl (lv_at hl 0 rfl) ?_
    refine x_geti C0 hO q 1 hq.1 rfl (by decide) rfl iX3_reaches_3 rfl (List.mem_of_getElem? (i := 1) rfl) dX3_reaches_6 ?_
    refine lv_icmp_gt (tgt := 30) hx hb dX3_reaches_9 (by decide) (fun c2 => ?_) (fun c2 => ?_)
    · replace hw := hw.1 c2
      refine lv_iconst (v := 0) hx hb dX3_reaches_30 (by decide) ?_
      exact x_zret C0 hO rfl ⟨rfl, hw⟩ dX3_reaches_31
    · replace hw := hw.2 c2
      refine lv_iload_n hx hb dX3_reaches_12 rfl (lv_at hl 2 rfl) ?_
      refine lv_if_lt (tgt := 30) hx hb dX3_reaches_13 (by decide) (fun c3 => ?_) (fun c3 => ?_)
      · replace hw := hw.1 c3
        refine lv_iconst (v := 0) hx hb dX3_reaches_30 (by decide) ?_
        exact x_zret C0 hO rfl ⟨rfl, hw⟩ dX3_reaches_31
      · replace hw := hw.2 c3
        refine lv_iload_n hx hb dX3_reaches_16 rfl (lv_at hl 2 rfl) ?_
        refine lv_aload_n hx hb dX3_reaches_17 rfl (lv_at hl 0 rfl) ?_
        refine x_geti C0 hO q 1 hq.1 rfl (by decide) rfl iX3_reaches_3 rfl (List.mem_of_getElem? (i := 1) rfl) dX3_reaches_18 ?_
        refine lv_iload_n hx hb dX3_reaches_21 rfl (lv_at hl 1 rfl) ?_
        refine lv_isub hx hb dX3_reaches_22 ?_
        refine lv_icmp_gt (tgt := 30) hx hb dX3_reaches_23 (by decide) (fun c4 => ?_) (fun c4 => ?_)
        · replace hw := hw.1 c4
          refine lv_iconst (v := 0) hx hb dX3_reaches_30 (by decide) ?_
          exact x_zret C0 hO rfl ⟨rfl, hw⟩ dX3_reaches_31
        · replace hw := hw.2 c4
          refine lv_iconst (v := 1) hx hb dX3_reaches_26 (by decide) ?_
          refine lv_goto (tgt := 31) hx hb dX3_reaches_27 (by decide) ?_
          exact x_zret C0 hO rfl ⟨rfl, hw⟩ dX3_reaches_31
theorem iX3_read_3 : ∀ w ∈ wsX30, w ∈ wsX3_read := fun w h => List.mem_cons_of_mem _ (List.mem_append_right _ h)
theorem hdX3_read : yX3_read.cls = RX3 ∧ yX3_read.cls ≠ "java/lang/invoke/MethodHandle" ∧ yX3_read.cls ≠ "java/lang/invoke/VarHandle" ∧ (parseMethodDescriptor yX3_read.desc).map (fun d => d.parameters.length) = some 1 := by decide +kernel
set_option maxHeartbeats 4000000 in
set_option maxRecDepth 100000 in
theorem kX3_read (l : Launch) (g : XG) (sz : Nat) (q : Nat) (hq : isSh q) (a1 : Int32) (σ : XS) (post : Int32 → Prop) (hw : PX3_read q a1 σ post) : xMi l yX3_read wsX3_read rmX3_read 0 0 g sz [.ref (xa g q), .int a1] σ (fun r u => σ = u ∧ post r) := by
  unfold PX3_read at hw
  refine x_head (Qc := fun A => va_Qi (fun r u => σ = u ∧ post r) (xAt g A) A) (cc := cX3_read) (maxL := 2) (ret := (some .int)) (by decide) rfl ?_
  intro p e s m below meth c A C0 hnm hO
  refine x_entry (Nat.le_of_ble_eq_true rfl) (fun ls hl => ?_)
  have hl : lv_has ls 2 [(0, .ref (xa g q)), (1, .int a1)] := hl
  have hx := C0.1
  have hb := C0.2.1
  have hown := C0.2.2.2.2.2.1
  have hts := C0.2.2.2.2.2.2.1
  refine lv_aload_n hx hb dX3_read_0 rfl (lv_at hl 0 rfl) ?_
  refine lv_iload_n hx hb dX3_read_1 rfl (lv_at hl 1 rfl) ?_
  refine lv_iconst (v := 1) hx hb dX3_read_2 (by decide) ?_
  refine x_calli C0 hO (x_runV (As := [.int a1, .int (1 : Int32)]) (rest := []) C0 hO (kX3_reaches l g _ q hq a1 (1 : Int32) σ _ hw) 2 rfl (xRecv C0 hO (j := q) hq.1 rfl) gX3_read_X3_reaches rfl rfl rfl hdX3_reaches ⟨Nat.le_of_ble_eq_true rfl, Nat.le_of_ble_eq_true rfl⟩ hl.1 rfl (Nat.le_of_ble_eq_true rfl) dX3_read_3 ⟨Nat.le_of_ble_eq_true rfl, Nat.le_of_ble_eq_true rfl⟩) (fun r1 σ' H locs hw hO => ?_)
  obtain ⟨hσ, hw⟩ := hw
  subst hσ
  refine lv_if_eq (tgt := 18) hx hb dX3_read_6 (by decide) (fun c2 => ?_) (fun c2 => ?_)
  · replace hw := hw.1 c2
    refine lv_iconst (v := 0) hx hb dX3_read_18 (by decide) ?_
    exact x_iret C0 hO ⟨rfl, hw⟩ dX3_read_19
  · replace hw := hw.2 c2
    refine lv_aload_n hx hb dX3_read_9 rfl (lv_at hl 0 rfl) ?_
    refine x_getr C0 hO q 0 (q + 1) hq.1 rfl (by decide) rfl iX3_read_3 rfl (List.mem_of_getElem? (i := 1) rfl) dX3_read_10 ?_
    refine lv_iload_n hx hb dX3_read_13 rfl (lv_at hl 1 rfl) ?_
    refine x_iald C0 hO (q + 1) hq.2 hw.1 dX3_read_14 ?_
    replace hw := hw.2
    refine lv_goto (tgt := 19) hx hb dX3_read_15 (by decide) ?_
    exact x_iret C0 hO ⟨rfl, hw⟩ dX3_read_19
theorem iX3_cut_3 : ∀ w ∈ wsX30, w ∈ wsX3_cut := fun w h => List.mem_cons_of_mem _ (List.mem_append_right _ h)
theorem hdX3_cut : yX3_cut.cls = RX3 ∧ yX3_cut.cls ≠ "java/lang/invoke/MethodHandle" ∧ yX3_cut.cls ≠ "java/lang/invoke/VarHandle" ∧ (parseMethodDescriptor yX3_cut.desc).map (fun d => d.parameters.length) = some 1 := by decide +kernel
set_option maxHeartbeats 4000000 in
set_option maxRecDepth 100000 in
theorem kX3_cut (l : Launch) (g : XG) (sz : Nat) (q : Nat) (hq : isSh q) (a1 : Int32) (σ : XS) (post : Int32 → Prop) (hw : PX3_cut q a1 σ post) : xMi l yX3_cut wsX3_cut rmX3_cut 0 0 g sz [.ref (xa g q), .int a1] σ (fun r u => σ = u ∧ post r) := by
  unfold PX3_cut at hw
  refine x_head (Qc := fun A => va_Qi (fun r u => σ = u ∧ post r) (xAt g A) A) (cc := cX3_cut) (maxL := 2) (ret := (some .int)) (by decide) rfl ?_
  intro p e s m below meth c A C0 hnm hO
  refine x_entry (Nat.le_of_ble_eq_true rfl) (fun ls hl => ?_)
  have hl : lv_has ls 2 [(0, .ref (xa g q)), (1, .int a1)] := hl
  have hx := C0.1
  have hb := C0.2.1
  have hown := C0.2.2.2.2.2.1
  have hts := C0.2.2.2.2.2.2.1
  refine lv_aload_n hx hb dX3_cut_0 rfl (lv_at hl 0 rfl) ?_
  refine x_geti C0 hO q 2 hq.1 rfl (by decide) rfl iX3_cut_3 rfl (List.mem_of_getElem? (i := 1) rfl) dX3_cut_1 ?_
  refine lv_if_ne (tgt := 10) hx hb dX3_cut_4 (by decide) (fun c1 => ?_) (fun c1 => ?_)
  · replace hw := hw.2 c1
    refine lv_aload_n hx hb dX3_cut_10 rfl (lv_at hl 0 rfl) ?_
    refine x_geti C0 hO q 2 hq.1 rfl (by decide) rfl iX3_cut_3 rfl (List.mem_of_getElem? (i := 1) rfl) dX3_cut_11 ?_
    refine lv_iconst (v := 1) hx hb dX3_cut_14 (by decide) ?_
    refine lv_icmp_ne (tgt := 23) hx hb dX3_cut_15 (by decide) (fun c2 => ?_) (fun c2 => ?_)
    · replace hw := hw.2 c2
      refine lv_iload_n hx hb dX3_cut_23 rfl (lv_at hl 1 rfl) ?_
      exact x_iret C0 hO ⟨rfl, hw⟩ dX3_cut_24
    · replace hw := hw.1 c2
      refine lv_iload_n hx hb dX3_cut_18 rfl (lv_at hl 1 rfl) ?_
      refine lv_i2s hx hb dX3_cut_19 rfl ?_
      refine lv_goto (tgt := 24) hx hb dX3_cut_20 (by decide) ?_
      exact x_iret C0 hO ⟨rfl, hw⟩ dX3_cut_24
  · replace hw := hw.1 c1
    refine lv_iload_n hx hb dX3_cut_7 rfl (lv_at hl 1 rfl) ?_
    refine lv_i2b hx hb dX3_cut_8 rfl ?_
    exact x_iret C0 hO ⟨rfl, hw⟩ dX3_cut_9
theorem iX3_write_3 : ∀ w ∈ wsX30, w ∈ wsX3_write := fun w h => List.mem_cons_of_mem _ (List.mem_append_right _ h)
theorem hdX3_write : yX3_write.cls = RX3 ∧ yX3_write.cls ≠ "java/lang/invoke/MethodHandle" ∧ yX3_write.cls ≠ "java/lang/invoke/VarHandle" ∧ (parseMethodDescriptor yX3_write.desc).map (fun d => d.parameters.length) = some 2 := by decide +kernel
set_option maxHeartbeats 4000000 in
set_option maxRecDepth 100000 in
theorem kX3_write (l : Launch) (g : XG) (sz : Nat) (q : Nat) (hq : isSh q) (a1 : Int32) (a2 : Int32) (σ : XS) (post : XS → Prop) (hw : PX3_write q a1 a2 σ post) : xMv l yX3_write wsX3_write rmX3_write 0 0 g sz [.ref (xa g q), .int a1, .int a2] σ post := by
  unfold PX3_write at hw
  refine x_head (Qc := fun A => va_Qv post (xAt g A) A) (cc := cX3_write) (maxL := 3) (ret := none) (by decide) rfl ?_
  intro p e s m below meth c A C0 hnm hO
  refine x_entry (Nat.le_of_ble_eq_true rfl) (fun ls hl => ?_)
  have hl : lv_has ls 3 [(0, .ref (xa g q)), (1, .int a1), (2, .int a2)] := hl
  have hx := C0.1
  have hb := C0.2.1
  have hown := C0.2.2.2.2.2.1
  have hts := C0.2.2.2.2.2.2.1
  refine lv_aload_n hx hb dX3_write_0 rfl (lv_at hl 0 rfl) ?_
  refine lv_iload_n hx hb dX3_write_1 rfl (lv_at hl 1 rfl) ?_
  refine lv_iconst (v := 1) hx hb dX3_write_2 (by decide) ?_
  refine x_calli C0 hO (x_runV (As := [.int a1, .int (1 : Int32)]) (rest := []) C0 hO (kX3_reaches l g _ q hq a1 (1 : Int32) σ _ hw) 2 rfl (xRecv C0 hO (j := q) hq.1 rfl) gX3_write_X3_reaches rfl rfl rfl hdX3_reaches ⟨Nat.le_of_ble_eq_true rfl, Nat.le_of_ble_eq_true rfl⟩ hl.1 rfl (Nat.le_of_ble_eq_true rfl) dX3_write_3 ⟨Nat.le_of_ble_eq_true rfl, Nat.le_of_ble_eq_true rfl⟩) (fun r1 σ' H locs hw hO => ?_)
  obtain ⟨hσ, hw⟩ := hw
  subst hσ
  refine lv_if_eq (tgt := 20) hx hb dX3_write_6 (by decide) (fun c2 => ?_) (fun c2 => ?_)
  · replace hw := hw.1 c2
    exact x_vret C0 hO hw dX3_write_20
  · replace hw := hw.2 c2
    refine lv_aload_n hx hb dX3_write_9 rfl (lv_at hl 0 rfl) ?_
    refine x_getr C0 hO q 0 (q + 1) hq.1 rfl (by decide) rfl iX3_write_3 rfl (List.mem_of_getElem? (i := 1) rfl) dX3_write_10 ?_
    refine lv_iload_n hx hb dX3_write_13 rfl (lv_at hl 1 rfl) ?_
    refine lv_aload_n hx hb dX3_write_14 rfl (lv_at hl 0 rfl) ?_
    refine lv_iload_n hx hb dX3_write_15 rfl (lv_at hl 2 rfl) ?_
    refine x_calli C0 hO (x_runV (As := [.int a2]) (rest := [.int a1, .ref (xa g (q + 1))]) C0 hO (kX3_cut l g _ q hq a2 σ _ hw) 1 rfl (xRecv C0 hO (j := q) hq.1 rfl) gX3_write_X3_cut rfl rfl rfl hdX3_cut ⟨Nat.le_of_ble_eq_true rfl, Nat.le_of_ble_eq_true rfl⟩ hl.1 rfl (Nat.le_of_ble_eq_true rfl) dX3_write_16 ⟨Nat.le_of_ble_eq_true rfl, Nat.le_of_ble_eq_true rfl⟩) (fun r3 σ' H locs hw hO => ?_)
    obtain ⟨hσ, hw⟩ := hw
    subst hσ
    refine x_iast C0 hO (q + 1) hq.2 hw.1 dX3_write_19 (fun σ4 H locs eσ4 hO => ?_)
    replace hw := hw.2 σ4 eσ4
    exact x_vret C0 hO hw dX3_write_20
theorem iX3_take_3 : ∀ w ∈ wsX30, w ∈ wsX3_take := fun w h => List.mem_cons_of_mem _ (List.mem_append_right _ h)
theorem hdX3_take : yX3_take.cls = RX3 ∧ yX3_take.cls ≠ "java/lang/invoke/MethodHandle" ∧ yX3_take.cls ≠ "java/lang/invoke/VarHandle" ∧ (parseMethodDescriptor yX3_take.desc).map (fun d => d.parameters.length) = some 4 := by decide +kernel
set_option maxHeartbeats 4000000 in
set_option maxRecDepth 100000 in
theorem kX3_take (l : Launch) (g : XG) (sz : Nat) (q : Nat) (hq : isSh q) (a1 : Int32) (q2 : Nat) (a3 : Int32) (a4 : Int32) (hq2 : isSh q2) (σ : XS) (post : XS → Prop) (hw : PX3_take q a1 q2 a3 a4 σ post) : xMv l yX3_take wsX3_take rmX3_take 0 0 g sz [.ref (xa g q), .int a1, .ref (xa g q2), .int a3, .int a4] σ post := by
  unfold PX3_take at hw
  refine x_head (Qc := fun A => va_Qv post (xAt g A) A) (cc := cX3_take) (maxL := 5) (ret := none) (by decide) rfl ?_
  intro p e s m below meth c A C0 hnm hO
  refine x_entry (Nat.le_of_ble_eq_true rfl) (fun ls hl => ?_)
  have hl : lv_has ls 5 [(0, .ref (xa g q)), (1, .int a1), (2, .ref (xa g q2)), (3, .int a3), (4, .int a4)] := hl
  have hx := C0.1
  have hb := C0.2.1
  have hown := C0.2.2.2.2.2.1
  have hts := C0.2.2.2.2.2.2.1
  refine lv_aload_n hx hb dX3_take_0 rfl (lv_at hl 2 rfl) ?_
  refine lv_ifnull hx hb dX3_take_1 ?_
  refine lv_aload_n hx hb dX3_take_4 rfl (lv_at hl 2 rfl) ?_
  refine lv_iload_n hx hb dX3_take_5 rfl (lv_at hl 3 rfl) ?_
  refine lv_iload hx hb dX3_take_6 (lv_at hl 4 rfl) ?_
  refine x_calli C0 hO (x_runV (As := [.int a3, .int a4]) (rest := []) C0 hO (kX3_reaches l g _ q2 hq2 a3 a4 σ _ hw) 2 rfl (xRecv C0 hO (j := q2) hq2.1 rfl) gX3_take_X3_reaches rfl rfl rfl hdX3_reaches ⟨Nat.le_of_ble_eq_true rfl, Nat.le_of_ble_eq_true rfl⟩ hl.1 rfl (Nat.le_of_ble_eq_true rfl) dX3_take_8 ⟨Nat.le_of_ble_eq_true rfl, Nat.le_of_ble_eq_true rfl⟩) (fun r1 σ' H locs hw hO => ?_)
  obtain ⟨hσ, hw⟩ := hw
  subst hσ
  refine lv_if_eq (tgt := 24) hx hb dX3_take_11 (by decide) (fun c2 => ?_) (fun c2 => ?_)
  · replace hw := hw.1 c2
    exact x_vret C0 hO hw dX3_take_24
  · replace hw := hw.2 c2
    refine lv_aload_n hx hb dX3_take_14 rfl (lv_at hl 0 rfl) ?_
    refine lv_iload_n hx hb dX3_take_15 rfl (lv_at hl 1 rfl) ?_
    refine lv_iload hx hb dX3_take_16 (lv_at hl 4 rfl) ?_
    refine x_calli C0 hO (x_runV (As := [.int a1, .int a4]) (rest := []) C0 hO (kX3_reaches l g _ q hq a1 a4 σ _ hw) 2 rfl (xRecv C0 hO (j := q) hq.1 rfl) gX3_take_X3_reaches rfl rfl rfl hdX3_reaches ⟨Nat.le_of_ble_eq_true rfl, Nat.le_of_ble_eq_true rfl⟩ hl.1 rfl (Nat.le_of_ble_eq_true rfl) dX3_take_18 ⟨Nat.le_of_ble_eq_true rfl, Nat.le_of_ble_eq_true rfl⟩) (fun r3 σ' H locs hw hO => ?_)
    obtain ⟨hσ, hw⟩ := hw
    subst hσ
    refine lv_if_ne (tgt := 25) hx hb dX3_take_21 (by decide) (fun c4 => ?_) (fun c4 => ?_)
    · replace hw := hw.2 c4
      refine lv_aload_n hx hb dX3_take_25 rfl (lv_at hl 2 rfl) ?_
      refine x_getr C0 hO q2 0 (q2 + 1) hq2.1 rfl (by decide) rfl iX3_take_3 rfl (List.mem_of_getElem? (i := 1) rfl) dX3_take_26 ?_
      refine lv_iload_n hx hb dX3_take_29 rfl (lv_at hl 3 rfl) ?_
      refine lv_aload_n hx hb dX3_take_30 rfl (lv_at hl 0 rfl) ?_
      refine x_getr C0 hO q 0 (q + 1) hq.1 rfl (by decide) rfl iX3_take_3 rfl (List.mem_of_getElem? (i := 1) rfl) dX3_take_31 ?_
      refine lv_iload_n hx hb dX3_take_34 rfl (lv_at hl 1 rfl) ?_
      refine lv_iload hx hb dX3_take_35 (lv_at hl 4 rfl) ?_
      refine x_copy C0 hO (q2 + 1) (q + 1) hq2.2 hq.2 (hts _ (List.mem_of_getElem? (i := 2) rfl)) (hts _ (List.mem_of_getElem? (i := 3) rfl)) (hts _ (List.mem_of_getElem? (i := 4) rfl)) (hts _ (List.mem_of_getElem? (i := 5) rfl)) hl.1 hw.1 hw.2.1 hw.2.2.1 hw.2.2.2.1 hw.2.2.2.2.1 (Nat.le_of_ble_eq_true rfl) (Nat.le_of_ble_eq_true rfl) dX3_take_37 (fun σ5 H locs eσ5 hO => ?_)
      replace hw := hw.2.2.2.2.2 σ5 eσ5
      exact x_vret C0 hO hw dX3_take_40
    · replace hw := hw.1 c4
      exact x_vret C0 hO hw dX3_take_24
theorem hdX4_kindNumber : yX4_kindNumber.cls = RX4 ∧ yX4_kindNumber.cls ≠ "java/lang/invoke/MethodHandle" ∧ yX4_kindNumber.cls ≠ "java/lang/invoke/VarHandle" ∧ (parseMethodDescriptor yX4_kindNumber.desc).map (fun d => d.parameters.length) = some 0 := by decide +kernel
set_option maxHeartbeats 4000000 in
set_option maxRecDepth 100000 in
theorem kX4_kindNumber (l : Launch) (g : XG) (sz : Nat) (a : Nat) (σ : XS) (post : Int32 → Prop) (hw : PX4_kindNumber a  σ post) : xMi l yX4_kindNumber wsX4_kindNumber rmX4_kindNumber 0 0 g sz [.ref a] σ (fun r u => σ = u ∧ post r) := by
  unfold PX4_kindNumber at hw
  refine x_head (Qc := fun A => va_Qi (fun r u => σ = u ∧ post r) (xAt g A) A) (cc := cX4_kindNumber) (maxL := 1) (ret := (some .int)) (by decide) rfl ?_
  intro p e s m below meth c A C0 hnm hO
  refine x_entry (Nat.le_of_ble_eq_true rfl) (fun ls hl => ?_)
  have hl : lv_has ls 1 [(0, .ref a)] := hl
  have hx := C0.1
  have hb := C0.2.1
  have hown := C0.2.2.2.2.2.1
  have hts := C0.2.2.2.2.2.2.1
  refine lv_iconst (v := 0) hx hb dX4_kindNumber_0 (by decide) ?_
  exact x_iret C0 hO ⟨rfl, hw⟩ dX4_kindNumber_1
theorem iX4_leaves_0 : ∀ w ∈ wsX00, w ∈ wsX4_leaves := fun w h => List.mem_cons_of_mem _ (List.mem_append_left _ (List.mem_append_left _ (List.mem_append_right _ h)))
theorem iX4_leaves_2 : ∀ w ∈ wsX20, w ∈ wsX4_leaves := fun w h => List.mem_cons_of_mem _ (List.mem_append_left _ (List.mem_append_right _ h))
theorem iX4_leaves_4 : ∀ w ∈ wsX40, w ∈ wsX4_leaves := fun w h => List.mem_cons_of_mem _ (List.mem_append_right _ h)
theorem hdX4_leaves : yX4_leaves.cls = RX4 ∧ yX4_leaves.cls ≠ "java/lang/invoke/MethodHandle" ∧ yX4_leaves.cls ≠ "java/lang/invoke/VarHandle" ∧ (parseMethodDescriptor yX4_leaves.desc).map (fun d => d.parameters.length) = some 1 := by decide +kernel
set_option maxHeartbeats 4000000 in
set_option maxRecDepth 100000 in
theorem kX4_leaves (l : Launch) (g : XG) (sz : Nat) (a : Nat) (a1 : Int32) (σ : XS) (post : Int32 → Prop) (hw : PX4_leaves a a1 σ post) : xMi l yX4_leaves wsX4_leaves rmX4_leaves 0 0 g sz [.ref a, .int a1] σ (fun r u => σ = u ∧ post r) := by
  unfold PX4_leaves at hw
  refine x_head (Qc := fun A => va_Qi (fun r u => σ = u ∧ post r) (xAt g A) A) (cc := cX4_leaves) (maxL := 2) (ret := (some .int)) (by decide) rfl ?_
  intro p e s m below meth c A C0 hnm hO
  refine x_entry (Nat.le_of_ble_eq_true rfl) (fun ls hl => ?_)
  have hl : lv_has ls 2 [(0, .ref a), (1, .int a1)] := hl
  have hx := C0.1
  have hb := C0.2.1
  have hown := C0.2.2.2.2.2.1
  have hts := C0.2.2.2.2.2.2.1
  refine lv_aload_n hx hb dX4_leaves_0 rfl (lv_at hl 0 rfl) ?_
  refine x_flav C0 hO hw.1 iX4_leaves_0 iX4_leaves_2 iX4_leaves_4 (List.mem_of_getElem? (i := 1) rfl) (fun _ h => h) dX4_leaves_1 ?_
  replace hw := hw.2
  exact x_iret C0 hO ⟨rfl, hw⟩ dX4_leaves_4
theorem hdX4_isGreeted : yX4_isGreeted.cls = RX4 ∧ yX4_isGreeted.cls ≠ "java/lang/invoke/MethodHandle" ∧ yX4_isGreeted.cls ≠ "java/lang/invoke/VarHandle" ∧ (parseMethodDescriptor yX4_isGreeted.desc).map (fun d => d.parameters.length) = some 2 := by decide +kernel
set_option maxHeartbeats 4000000 in
set_option maxRecDepth 100000 in
theorem kX4_isGreeted (l : Launch) (g : XG) (sz : Nat) (a : Nat) (a1 : Int32) (σ : XS) (post : Int32 → XS → Prop) (hw : PX4_isGreeted a a1 σ post) : xMi l yX4_isGreeted wsX4_isGreeted rmX4_isGreeted 0 0 g sz [.ref a, .int a1, .ref (xa g 15)] σ post := by
  unfold PX4_isGreeted at hw
  refine x_head (Qc := fun A => va_Qi post (xAt g A) A) (cc := cX4_isGreeted) (maxL := 3) (ret := (some .int)) (by decide) rfl ?_
  intro p e s m below meth c A C0 hnm hO
  refine x_entry (Nat.le_of_ble_eq_true rfl) (fun ls hl => ?_)
  have hl : lv_has ls 3 [(0, .ref a), (1, .int a1), (2, .ref (xa g 15))] := hl
  have hx := C0.1
  have hb := C0.2.1
  have hown := C0.2.2.2.2.2.1
  have hts := C0.2.2.2.2.2.2.1
  refine lv_aload_n hx hb dX4_isGreeted_0 rfl (lv_at hl 2 rfl) ?_
  refine lv_iconst (v := 4) hx hb dX4_isGreeted_1 (by decide) ?_
  refine x_callv C0 hO (x_runV (As := [.int (4 : Int32)]) (rest := []) C0 hO (kX6_mark l g _ (4 : Int32) σ _ hw) 1 rfl (xRecv C0 hO (j := 15) rfl rfl) gX4_isGreeted_X6_mark rfl rfl rfl hdX6_mark ⟨Nat.le_of_ble_eq_true rfl, Nat.le_of_ble_eq_true rfl⟩ hl.1 rfl (Nat.le_of_ble_eq_true rfl) dX4_isGreeted_2 ⟨Nat.le_of_ble_eq_true rfl, Nat.le_of_ble_eq_true rfl⟩) (fun σ1 H locs hw hO => ?_)
  refine lv_iload_n hx hb dX4_isGreeted_5 rfl (lv_at hl 1 rfl) ?_
  exact x_iret C0 hO hw dX4_isGreeted_6
theorem iX5_clear_5 : ∀ w ∈ wsX50, w ∈ wsX5_clear := fun w h => List.mem_cons_of_mem _ (List.mem_append_right _ h)
theorem hdX5_clear : yX5_clear.cls = RX5 ∧ yX5_clear.cls ≠ "java/lang/invoke/MethodHandle" ∧ yX5_clear.cls ≠ "java/lang/invoke/VarHandle" ∧ (parseMethodDescriptor yX5_clear.desc).map (fun d => d.parameters.length) = some 0 := by decide +kernel
set_option maxHeartbeats 4000000 in
set_option maxRecDepth 100000 in
theorem kX5_clear (l : Launch) (g : XG) (sz : Nat) (σ : XS) (post : XS → Prop) (hw : PX5_clear  σ post) : xMv l yX5_clear wsX5_clear rmX5_clear 0 0 g sz [.ref (xa g 4)] σ post := by
  unfold PX5_clear at hw
  refine x_head (Qc := fun A => va_Qv post (xAt g A) A) (cc := cX5_clear) (maxL := 1) (ret := none) (by decide) rfl ?_
  intro p e s m below meth c A C0 hnm hO
  refine x_entry (Nat.le_of_ble_eq_true rfl) (fun ls hl => ?_)
  have hl : lv_has ls 1 [(0, .ref (xa g 4))] := hl
  have hx := C0.1
  have hb := C0.2.1
  have hown := C0.2.2.2.2.2.1
  have hts := C0.2.2.2.2.2.2.1
  refine lv_aload_n hx hb dX5_clear_0 rfl (lv_at hl 0 rfl) ?_
  refine x_getr C0 hO 4 0 5 rfl rfl (by decide) rfl iX5_clear_5 rfl (List.mem_of_getElem? (i := 1) rfl) dX5_clear_1 ?_
  refine lv_iconst (v := 0) hx hb dX5_clear_4 (by decide) ?_
  refine x_callv C0 hO (x_runS (As := [.ref (xa g 5), .int (0 : Int32)]) (rest := []) C0 hO (kJ7_fill_53178 l g _ 5 4 rfl (0 : Int32) σ _ hw) 2 rfl gX5_clear_J7_fill_53178 rfl rfl rfl hdJ7_fill_53178.2 ⟨Nat.le_of_ble_eq_true rfl, Nat.le_of_ble_eq_true rfl⟩ hl.1 rfl (Nat.le_of_ble_eq_true rfl) dX5_clear_5 ⟨Nat.le_of_ble_eq_true rfl, Nat.le_of_ble_eq_true rfl⟩) (fun σ1 H locs hw hO => ?_)
  refine lv_aload_n hx hb dX5_clear_8 rfl (lv_at hl 0 rfl) ?_
  refine lv_iconst (v := 0) hx hb dX5_clear_9 (by decide) ?_
  refine x_puti C0 hO 4 6 tyX5 tyX5_ok nmX5 rfl rfl (by decide) rfl iX5_clear_5 rfl rfl rfl (List.mem_of_getElem? (i := 2) rfl) dX5_clear_10 (fun σ2 H locs eσ2 hO => ?_)
  replace hw := hw σ2 eσ2
  exact x_vret C0 hO hw dX5_clear_13
theorem iX5_count_5 : ∀ w ∈ wsX50, w ∈ wsX5_count := fun w h => List.mem_cons_of_mem _ (List.mem_append_right _ h)
theorem hdX5_count : yX5_count.cls = RX5 ∧ yX5_count.cls ≠ "java/lang/invoke/MethodHandle" ∧ yX5_count.cls ≠ "java/lang/invoke/VarHandle" ∧ (parseMethodDescriptor yX5_count.desc).map (fun d => d.parameters.length) = some 1 := by decide +kernel
set_option maxHeartbeats 4000000 in
set_option maxRecDepth 100000 in
theorem kX5_count (l : Launch) (g : XG) (sz : Nat) (a1 : Int32) (σ : XS) (post : Int32 → Prop) (hw : PX5_count a1 σ post) : xMi l yX5_count wsX5_count rmX5_count 0 0 g sz [.ref (xa g 4), .int a1] σ (fun r u => σ = u ∧ post r) := by
  unfold PX5_count at hw
  refine x_head (Qc := fun A => va_Qi (fun r u => σ = u ∧ post r) (xAt g A) A) (cc := cX5_count) (maxL := 2) (ret := (some .int)) (by decide) rfl ?_
  intro p e s m below meth c A C0 hnm hO
  refine x_entry (Nat.le_of_ble_eq_true rfl) (fun ls hl => ?_)
  have hl : lv_has ls 2 [(0, .ref (xa g 4)), (1, .int a1)] := hl
  have hx := C0.1
  have hb := C0.2.1
  have hown := C0.2.2.2.2.2.1
  have hts := C0.2.2.2.2.2.2.1
  refine lv_iload_n hx hb dX5_count_0 rfl (lv_at hl 1 rfl) ?_
  refine lv_if_lt (tgt := 18) hx hb dX5_count_1 (by decide) (fun c1 => ?_) (fun c1 => ?_)
  · replace hw := hw.1 c1
    refine lv_iconst (v := 0) hx hb dX5_count_18 (by decide) ?_
    exact x_iret C0 hO ⟨rfl, hw⟩ dX5_count_19
  · replace hw := hw.2 c1
    refine lv_iload_n hx hb dX5_count_4 rfl (lv_at hl 1 rfl) ?_
    refine lv_iconst (v := 4) hx hb dX5_count_5 (by decide) ?_
    refine lv_icmp_ge (tgt := 18) hx hb dX5_count_6 (by decide) (fun c2 => ?_) (fun c2 => ?_)
    · replace hw := hw.1 c2
      refine lv_iconst (v := 0) hx hb dX5_count_18 (by decide) ?_
      exact x_iret C0 hO ⟨rfl, hw⟩ dX5_count_19
    · replace hw := hw.2 c2
      refine lv_aload_n hx hb dX5_count_9 rfl (lv_at hl 0 rfl) ?_
      refine x_getr C0 hO 4 0 5 rfl rfl (by decide) rfl iX5_count_5 rfl (List.mem_of_getElem? (i := 1) rfl) dX5_count_10 ?_
      refine lv_iload_n hx hb dX5_count_13 rfl (lv_at hl 1 rfl) ?_
      refine x_iald C0 hO 5 rfl hw.1 dX5_count_14 ?_
      replace hw := hw.2
      refine lv_goto (tgt := 19) hx hb dX5_count_15 (by decide) ?_
      exact x_iret C0 hO ⟨rfl, hw⟩ dX5_count_19
theorem iX5_isFull_5 : ∀ w ∈ wsX50, w ∈ wsX5_isFull := fun w h => List.mem_cons_of_mem _ (List.mem_append_right _ h)
theorem hdX5_isFull : yX5_isFull.cls = RX5 ∧ yX5_isFull.cls ≠ "java/lang/invoke/MethodHandle" ∧ yX5_isFull.cls ≠ "java/lang/invoke/VarHandle" ∧ (parseMethodDescriptor yX5_isFull.desc).map (fun d => d.parameters.length) = some 1 := by decide +kernel
set_option maxHeartbeats 4000000 in
set_option maxRecDepth 100000 in
theorem kX5_isFull (l : Launch) (g : XG) (sz : Nat) (a1 : Int32) (σ : XS) (post : Int32 → Prop) (hw : PX5_isFull a1 σ post) : xMi l yX5_isFull wsX5_isFull rmX5_isFull 0 0 g sz [.ref (xa g 4), .int a1] σ (fun r u => σ = u ∧ post r) := by
  unfold PX5_isFull at hw
  refine x_head (Qc := fun A => va_Qi (fun r u => σ = u ∧ post r) (xAt g A) A) (cc := cX5_isFull) (maxL := 2) (ret := (some .boolean)) (by decide) rfl ?_
  intro p e s m below meth c A C0 hnm hO
  refine x_entry (Nat.le_of_ble_eq_true rfl) (fun ls hl => ?_)
  have hl : lv_has ls 2 [(0, .ref (xa g 4)), (1, .int a1)] := hl
  have hx := C0.1
  have hb := C0.2.1
  have hown := C0.2.2.2.2.2.1
  have hts := C0.2.2.2.2.2.2.1
  refine lv_iload_n hx hb dX5_isFull_0 rfl (lv_at hl 1 rfl) ?_
  refine lv_if_lt (tgt := 23) hx hb dX5_isFull_1 (by decide) (fun c1 => ?_) (fun c1 => ?_)
  · replace hw := hw.1 c1
    refine lv_iconst (v := 1) hx hb dX5_isFull_23 (by decide) ?_
    refine lv_goto (tgt := 28) hx hb dX5_isFull_24 (by decide) ?_
    exact x_zret C0 hO rfl ⟨rfl, hw⟩ dX5_isFull_28
  · replace hw := hw.2 c1
    refine lv_iload_n hx hb dX5_isFull_4 rfl (lv_at hl 1 rfl) ?_
    refine lv_iconst (v := 4) hx hb dX5_isFull_5 (by decide) ?_
    refine lv_icmp_ge (tgt := 23) hx hb dX5_isFull_6 (by decide) (fun c2 => ?_) (fun c2 => ?_)
    · replace hw := hw.1 c2
      refine lv_iconst (v := 1) hx hb dX5_isFull_23 (by decide) ?_
      refine lv_goto (tgt := 28) hx hb dX5_isFull_24 (by decide) ?_
      exact x_zret C0 hO rfl ⟨rfl, hw⟩ dX5_isFull_28
    · replace hw := hw.2 c2
      refine lv_aload_n hx hb dX5_isFull_9 rfl (lv_at hl 0 rfl) ?_
      refine x_getr C0 hO 4 0 5 rfl rfl (by decide) rfl iX5_isFull_5 rfl (List.mem_of_getElem? (i := 1) rfl) dX5_isFull_10 ?_
      refine lv_iload_n hx hb dX5_isFull_13 rfl (lv_at hl 1 rfl) ?_
      refine x_iald C0 hO 5 rfl hw.1 dX5_isFull_14 ?_
      replace hw := hw.2
      refine x_most C0 hO (List.mem_of_getElem? (i := 2) rfl) dX5_isFull_15 ?_
      refine lv_iload_n hx hb dX5_isFull_18 rfl (lv_at hl 1 rfl) ?_
      refine x_mostAt C0 hO hw.1 dX5_isFull_19 ?_
      replace hw := hw.2
      refine lv_icmp_lt (tgt := 27) hx hb dX5_isFull_20 (by decide) (fun c3 => ?_) (fun c3 => ?_)
      · replace hw := hw.1 c3
        refine lv_iconst (v := 0) hx hb dX5_isFull_27 (by decide) ?_
        exact x_zret C0 hO rfl ⟨rfl, hw⟩ dX5_isFull_28
      · replace hw := hw.2 c3
        refine lv_iconst (v := 1) hx hb dX5_isFull_23 (by decide) ?_
        refine lv_goto (tgt := 28) hx hb dX5_isFull_24 (by decide) ?_
        exact x_zret C0 hO rfl ⟨rfl, hw⟩ dX5_isFull_28
theorem hdX5_kindIn : yX5_kindIn.cls = RX5 ∧ yX5_kindIn.cls ≠ "java/lang/invoke/MethodHandle" ∧ yX5_kindIn.cls ≠ "java/lang/invoke/VarHandle" ∧ (parseMethodDescriptor yX5_kindIn.desc).map (fun d => d.parameters.length) = some 1 := by decide +kernel
set_option maxHeartbeats 4000000 in
set_option maxRecDepth 100000 in
theorem kX5_kindIn (l : Launch) (g : XG) (sz : Nat) (a0 : Int32) (σ : XS) (post : Int32 → Prop) (hw : PX5_kindIn a0 σ post) : xMi l yX5_kindIn wsX5_kindIn rmX5_kindIn 0 0 g sz [.int a0] σ (fun r u => σ = u ∧ post r) := by
  unfold PX5_kindIn at hw
  refine x_head (Qc := fun A => va_Qi (fun r u => σ = u ∧ post r) (xAt g A) A) (cc := cX5_kindIn) (maxL := 1) (ret := (some .int)) (by decide) rfl ?_
  intro p e s m below meth c A C0 hnm hO
  refine x_entry (Nat.le_of_ble_eq_true rfl) (fun ls hl => ?_)
  have hl : lv_has ls 1 [(0, .int a0)] := hl
  have hx := C0.1
  have hb := C0.2.1
  have hown := C0.2.2.2.2.2.1
  have hts := C0.2.2.2.2.2.2.1
  refine lv_iload_n hx hb dX5_kindIn_0 rfl (lv_at hl 0 rfl) ?_
  refine x_first C0 hO (List.mem_of_getElem? (i := 1) rfl) dX5_kindIn_1 ?_
  refine lv_iconst (v := 1) hx hb dX5_kindIn_4 (by decide) ?_
  refine x_firstAt C0 hO hw.1 dX5_kindIn_5 ?_
  replace hw := hw.2
  refine lv_icmp_ge (tgt := 11) hx hb dX5_kindIn_6 (by decide) (fun c1 => ?_) (fun c1 => ?_)
  · replace hw := hw.1 c1
    refine lv_iload_n hx hb dX5_kindIn_11 rfl (lv_at hl 0 rfl) ?_
    refine x_first C0 hO (List.mem_of_getElem? (i := 1) rfl) dX5_kindIn_12 ?_
    refine lv_iconst (v := 2) hx hb dX5_kindIn_15 (by decide) ?_
    refine x_firstAt C0 hO hw.1 dX5_kindIn_16 ?_
    replace hw := hw.2
    refine lv_icmp_ge (tgt := 22) hx hb dX5_kindIn_17 (by decide) (fun c2 => ?_) (fun c2 => ?_)
    · replace hw := hw.1 c2
      refine lv_iload_n hx hb dX5_kindIn_22 rfl (lv_at hl 0 rfl) ?_
      refine x_first C0 hO (List.mem_of_getElem? (i := 1) rfl) dX5_kindIn_23 ?_
      refine lv_iconst (v := 3) hx hb dX5_kindIn_26 (by decide) ?_
      refine x_firstAt C0 hO hw.1 dX5_kindIn_27 ?_
      replace hw := hw.2
      refine lv_icmp_ge (tgt := 35) hx hb dX5_kindIn_28 (by decide) (fun c3 => ?_) (fun c3 => ?_)
      · replace hw := hw.1 c3
        refine lv_iconst (v := 3) hx hb dX5_kindIn_35 (by decide) ?_
        exact x_iret C0 hO ⟨rfl, hw⟩ dX5_kindIn_36
      · replace hw := hw.2 c3
        refine lv_iconst (v := 2) hx hb dX5_kindIn_31 (by decide) ?_
        refine lv_goto (tgt := 36) hx hb dX5_kindIn_32 (by decide) ?_
        exact x_iret C0 hO ⟨rfl, hw⟩ dX5_kindIn_36
    · replace hw := hw.2 c2
      refine lv_iconst (v := 1) hx hb dX5_kindIn_20 (by decide) ?_
      exact x_iret C0 hO ⟨rfl, hw⟩ dX5_kindIn_21
  · replace hw := hw.2 c1
    refine lv_iconst (v := 0) hx hb dX5_kindIn_9 (by decide) ?_
    exact x_iret C0 hO ⟨rfl, hw⟩ dX5_kindIn_10
