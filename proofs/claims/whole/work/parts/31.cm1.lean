/-! generated: contracts -/
theorem iX8_cellsBarred_8 : ∀ w ∈ wsX80, w ∈ wsX8_cellsBarred := fun w h => List.mem_cons_of_mem _ (List.mem_append_right _ h)
theorem hdX8_cellsBarred : yX8_cellsBarred.cls = RX8 ∧ yX8_cellsBarred.cls ≠ "java/lang/invoke/MethodHandle" ∧ yX8_cellsBarred.cls ≠ "java/lang/invoke/VarHandle" ∧ (parseMethodDescriptor yX8_cellsBarred.desc).map (fun d => d.parameters.length) = some 4 := by decide +kernel
set_option maxHeartbeats 4000000 in
set_option maxRecDepth 100000 in
theorem kX8_cellsBarred (l : Launch) (g : XG) (sz : Nat) (a1 : Int32) (a2 : Int32) (a3 : Int32) (a4 : Int64) (σ : XS) (post : Int32 → XS → Prop) (hw : PX8_cellsBarred a1 a2 a3 a4 σ post) : xMi l yX8_cellsBarred wsX8_cellsBarred rmX8_cellsBarred 0 0 g sz [.ref (xa g 24), .int a1, .int a2, .int a3, .long a4] σ post := by
  unfold PX8_cellsBarred at hw
  refine x_head (Qc := fun A => va_Qi post (xAt g A) A) (cc := cX8_cellsBarred) (maxL := 6) (ret := (some .int)) (by decide) rfl ?_
  intro p e s m below meth c A C0 hnm hO
  refine x_entry (Nat.le_of_ble_eq_true rfl) (fun ls hl => ?_)
  have hl : lv_has ls 6 [(0, .ref (xa g 24)), (1, .int a1), (2, .int a2), (3, .int a3), (4, .long a4)] := hl
  have hx := C0.1
  have hb := C0.2.1
  have hown := C0.2.2.2.2.2.1
  have hts := C0.2.2.2.2.2.2.1
  refine lv_aload_n hx hb dX8_cellsBarred_0 rfl (lv_at hl 0 rfl) ?_
  refine x_getr C0 hO 24 37 46 rfl rfl (by decide) rfl iX8_cellsBarred_8 rfl (List.mem_of_getElem? (i := 1) rfl) dX8_cellsBarred_1 ?_
  refine lv_iload_n hx hb dX8_cellsBarred_4 rfl (lv_at hl 1 rfl) ?_
  refine x_iald C0 hO 46 rfl hw.1 dX8_cellsBarred_5 ?_
  replace hw := hw.2
  refine lv_if_lt (tgt := 25) hx hb dX8_cellsBarred_6 (by decide) (fun c1 => ?_) (fun c1 => ?_)
  · replace hw := hw.1 c1
    refine lv_aload_n hx hb dX8_cellsBarred_25 rfl (lv_at hl 0 rfl) ?_
    refine x_getr C0 hO 24 37 46 rfl rfl (by decide) rfl iX8_cellsBarred_8 rfl (List.mem_of_getElem? (i := 1) rfl) dX8_cellsBarred_26 ?_
    refine lv_iload_n hx hb dX8_cellsBarred_29 rfl (lv_at hl 1 rfl) ?_
    refine x_iald C0 hO 46 rfl hw.1 dX8_cellsBarred_30 ?_
    replace hw := hw.2
    refine lv_if_ge (tgt := 40) hx hb dX8_cellsBarred_31 (by decide) (fun c2 => ?_) (fun c2 => ?_)
    · replace hw := hw.1 c2
      refine lv_lload hx hb dX8_cellsBarred_40 (lv_at hl 4 rfl) ?_
      refine lv_lconst (v := 0) hx hb dX8_cellsBarred_42 (by decide) ?_
      refine W.lcmp hx hb dX8_cellsBarred_43 ?_
      refine lv_if_ge (tgt := 53) hx hb dX8_cellsBarred_44 (by decide) (fun c3 => ?_) (fun c3 => ?_)
      · replace hw := hw.1 c3
        refine lv_iload_n hx hb dX8_cellsBarred_53 rfl (lv_at hl 3 rfl) ?_
        refine lv_lload hx hb dX8_cellsBarred_54 (lv_at hl 4 rfl) ?_
        refine lv_aload_n hx hb dX8_cellsBarred_56 rfl (lv_at hl 0 rfl) ?_
        refine x_getr C0 hO 24 37 46 rfl rfl (by decide) rfl iX8_cellsBarred_8 rfl (List.mem_of_getElem? (i := 1) rfl) dX8_cellsBarred_57 ?_
        refine lv_iload_n hx hb dX8_cellsBarred_60 rfl (lv_at hl 1 rfl) ?_
        refine x_iald C0 hO 46 rfl hw.1 dX8_cellsBarred_61 ?_
        replace hw := hw.2
        refine x_calli C0 hO (x_runS (As := [.int a3, .long a4, .int (gI σ 46 a1.toNatClampNeg)]) (rest := []) C0 hO (kX8_isBeyond l g _ a3 a4 (gI σ 46 a1.toNatClampNeg) σ _ hw) 3 rfl gX8_cellsBarred_X8_isBeyond rfl rfl rfl hdX8_isBeyond.2 ⟨Nat.le_of_ble_eq_true rfl, Nat.le_of_ble_eq_true rfl⟩ hl.1 rfl (Nat.le_of_ble_eq_true rfl) dX8_cellsBarred_62 ⟨Nat.le_of_ble_eq_true rfl, Nat.le_of_ble_eq_true rfl⟩) (fun r4 σ' H locs hw hO => ?_)
        obtain ⟨hσ, hw⟩ := hw
        subst hσ
        refine lv_if_eq (tgt := 76) hx hb dX8_cellsBarred_65 (by decide) (fun c5 => ?_) (fun c5 => ?_)
        · replace hw := hw.1 c5
          refine lv_iconst (v := 0) hx hb dX8_cellsBarred_76 (by decide) ?_
          exact x_iret C0 hO hw dX8_cellsBarred_77
        · replace hw := hw.2 c5
          refine lv_aload_n hx hb dX8_cellsBarred_68 rfl (lv_at hl 0 rfl) ?_
          refine lv_iconst (v := 3) hx hb dX8_cellsBarred_69 (by decide) ?_
          refine x_calli C0 hO (x_runV (As := [.int (3 : Int32)]) (rest := []) C0 hO (kX8_failed l g _ (3 : Int32) σ _ hw) 1 rfl (xRecv C0 hO (j := 24) rfl rfl) gX8_cellsBarred_X8_failed rfl rfl rfl hdX8_failed ⟨Nat.le_of_ble_eq_true rfl, Nat.le_of_ble_eq_true rfl⟩ hl.1 rfl (Nat.le_of_ble_eq_true rfl) dX8_cellsBarred_70 ⟨Nat.le_of_ble_eq_true rfl, Nat.le_of_ble_eq_true rfl⟩) (fun r6 σ7 H locs hw hO => ?_)
          refine lv_goto (tgt := 77) hx hb dX8_cellsBarred_73 (by decide) ?_
          exact x_iret C0 hO hw dX8_cellsBarred_77
      · replace hw := hw.2 c3
        refine lv_aload_n hx hb dX8_cellsBarred_47 rfl (lv_at hl 0 rfl) ?_
        refine lv_iconst (v := 4) hx hb dX8_cellsBarred_48 (by decide) ?_
        refine x_calli C0 hO (x_runV (As := [.int (4 : Int32)]) (rest := []) C0 hO (kX8_failed l g _ (4 : Int32) σ _ hw) 1 rfl (xRecv C0 hO (j := 24) rfl rfl) gX8_cellsBarred_X8_failed rfl rfl rfl hdX8_failed ⟨Nat.le_of_ble_eq_true rfl, Nat.le_of_ble_eq_true rfl⟩ hl.1 rfl (Nat.le_of_ble_eq_true rfl) dX8_cellsBarred_49 ⟨Nat.le_of_ble_eq_true rfl, Nat.le_of_ble_eq_true rfl⟩) (fun r8 σ9 H locs hw hO => ?_)
        exact x_iret C0 hO hw dX8_cellsBarred_52
    · replace hw := hw.2 c2
      refine lv_aload_n hx hb dX8_cellsBarred_34 rfl (lv_at hl 0 rfl) ?_
      refine lv_iconst (v := 1) hx hb dX8_cellsBarred_35 (by decide) ?_
      refine x_calli C0 hO (x_runV (As := [.int (1 : Int32)]) (rest := []) C0 hO (kX8_failed l g _ (1 : Int32) σ _ hw) 1 rfl (xRecv C0 hO (j := 24) rfl rfl) gX8_cellsBarred_X8_failed rfl rfl rfl hdX8_failed ⟨Nat.le_of_ble_eq_true rfl, Nat.le_of_ble_eq_true rfl⟩ hl.1 rfl (Nat.le_of_ble_eq_true rfl) dX8_cellsBarred_36 ⟨Nat.le_of_ble_eq_true rfl, Nat.le_of_ble_eq_true rfl⟩) (fun r10 σ11 H locs hw hO => ?_)
      exact x_iret C0 hO hw dX8_cellsBarred_39
  · replace hw := hw.2 c1
    refine lv_aload_n hx hb dX8_cellsBarred_9 rfl (lv_at hl 0 rfl) ?_
    refine x_getr C0 hO 24 38 47 rfl rfl (by decide) rfl iX8_cellsBarred_8 rfl (List.mem_of_getElem? (i := 2) rfl) dX8_cellsBarred_10 ?_
    refine lv_iload_n hx hb dX8_cellsBarred_13 rfl (lv_at hl 1 rfl) ?_
    refine x_iald C0 hO 47 rfl hw.1 dX8_cellsBarred_14 ?_
    replace hw := hw.2
    refine lv_iload_n hx hb dX8_cellsBarred_15 rfl (lv_at hl 2 rfl) ?_
    refine lv_icmp_eq (tgt := 25) hx hb dX8_cellsBarred_16 (by decide) (fun c12 => ?_) (fun c12 => ?_)
    · replace hw := hw.1 c12
      refine lv_aload_n hx hb dX8_cellsBarred_25 rfl (lv_at hl 0 rfl) ?_
      refine x_getr C0 hO 24 37 46 rfl rfl (by decide) rfl iX8_cellsBarred_8 rfl (List.mem_of_getElem? (i := 1) rfl) dX8_cellsBarred_26 ?_
      refine lv_iload_n hx hb dX8_cellsBarred_29 rfl (lv_at hl 1 rfl) ?_
      refine x_iald C0 hO 46 rfl hw.1 dX8_cellsBarred_30 ?_
      replace hw := hw.2
      refine lv_if_ge (tgt := 40) hx hb dX8_cellsBarred_31 (by decide) (fun c13 => ?_) (fun c13 => ?_)
      · replace hw := hw.1 c13
        refine lv_lload hx hb dX8_cellsBarred_40 (lv_at hl 4 rfl) ?_
        refine lv_lconst (v := 0) hx hb dX8_cellsBarred_42 (by decide) ?_
        refine W.lcmp hx hb dX8_cellsBarred_43 ?_
        refine lv_if_ge (tgt := 53) hx hb dX8_cellsBarred_44 (by decide) (fun c14 => ?_) (fun c14 => ?_)
        · replace hw := hw.1 c14
          refine lv_iload_n hx hb dX8_cellsBarred_53 rfl (lv_at hl 3 rfl) ?_
          refine lv_lload hx hb dX8_cellsBarred_54 (lv_at hl 4 rfl) ?_
          refine lv_aload_n hx hb dX8_cellsBarred_56 rfl (lv_at hl 0 rfl) ?_
          refine x_getr C0 hO 24 37 46 rfl rfl (by decide) rfl iX8_cellsBarred_8 rfl (List.mem_of_getElem? (i := 1) rfl) dX8_cellsBarred_57 ?_
          refine lv_iload_n hx hb dX8_cellsBarred_60 rfl (lv_at hl 1 rfl) ?_
          refine x_iald C0 hO 46 rfl hw.1 dX8_cellsBarred_61 ?_
          replace hw := hw.2
          refine x_calli C0 hO (x_runS (As := [.int a3, .long a4, .int (gI σ 46 a1.toNatClampNeg)]) (rest := []) C0 hO (kX8_isBeyond l g _ a3 a4 (gI σ 46 a1.toNatClampNeg) σ _ hw) 3 rfl gX8_cellsBarred_X8_isBeyond rfl rfl rfl hdX8_isBeyond.2 ⟨Nat.le_of_ble_eq_true rfl, Nat.le_of_ble_eq_true rfl⟩ hl.1 rfl (Nat.le_of_ble_eq_true rfl) dX8_cellsBarred_62 ⟨Nat.le_of_ble_eq_true rfl, Nat.le_of_ble_eq_true rfl⟩) (fun r15 σ' H locs hw hO => ?_)
          obtain ⟨hσ, hw⟩ := hw
          subst hσ
          refine lv_if_eq (tgt := 76) hx hb dX8_cellsBarred_65 (by decide) (fun c16 => ?_) (fun c16 => ?_)
          · replace hw := hw.1 c16
            refine lv_iconst (v := 0) hx hb dX8_cellsBarred_76 (by decide) ?_
            exact x_iret C0 hO hw dX8_cellsBarred_77
          · replace hw := hw.2 c16
            refine lv_aload_n hx hb dX8_cellsBarred_68 rfl (lv_at hl 0 rfl) ?_
            refine lv_iconst (v := 3) hx hb dX8_cellsBarred_69 (by decide) ?_
            refine x_calli C0 hO (x_runV (As := [.int (3 : Int32)]) (rest := []) C0 hO (kX8_failed l g _ (3 : Int32) σ _ hw) 1 rfl (xRecv C0 hO (j := 24) rfl rfl) gX8_cellsBarred_X8_failed rfl rfl rfl hdX8_failed ⟨Nat.le_of_ble_eq_true rfl, Nat.le_of_ble_eq_true rfl⟩ hl.1 rfl (Nat.le_of_ble_eq_true rfl) dX8_cellsBarred_70 ⟨Nat.le_of_ble_eq_true rfl, Nat.le_of_ble_eq_true rfl⟩) (fun r17 σ18 H locs hw hO => ?_)
            refine lv_goto (tgt := 77) hx hb dX8_cellsBarred_73 (by decide) ?_
            exact x_iret C0 hO hw dX8_cellsBarred_77
        · replace hw := hw.2 c14
          refine lv_aload_n hx hb dX8_cellsBarred_47 rfl (lv_at hl 0 rfl) ?_
          refine lv_iconst (v := 4) hx hb dX8_cellsBarred_48 (by decide) ?_
          refine x_calli C0 hO (x_runV (As := [.int (4 : Int32)]) (rest := []) C0 hO (kX8_failed l g _ (4 : Int32) σ _ hw) 1 rfl (xRecv C0 hO (j := 24) rfl rfl) gX8_cellsBarred_X8_failed rfl rfl rfl hdX8_failed ⟨Nat.le_of_ble_eq_true rfl, Nat.le_of_ble_eq_true rfl⟩ hl.1 rfl (Nat.le_of_ble_eq_true rfl) dX8_cellsBarred_49 ⟨Nat.le_of_ble_eq_true rfl, Nat.le_of_ble_eq_true rfl⟩) (fun r19 σ20 H locs hw hO => ?_)
          exact x_iret C0 hO hw dX8_cellsBarred_52
      · replace hw := hw.2 c13
        refine lv_aload_n hx hb dX8_cellsBarred_34 rfl (lv_at hl 0 rfl) ?_
        refine lv_iconst (v := 1) hx hb dX8_cellsBarred_35 (by decide) ?_
        refine x_calli C0 hO (x_runV (As := [.int (1 : Int32)]) (rest := []) C0 hO (kX8_failed l g _ (1 : Int32) σ _ hw) 1 rfl (xRecv C0 hO (j := 24) rfl rfl) gX8_cellsBarred_X8_failed rfl rfl rfl hdX8_failed ⟨Nat.le_of_ble_eq_true rfl, Nat.le_of_ble_eq_true rfl⟩ hl.1 rfl (Nat.le_of_ble_eq_true rfl) dX8_cellsBarred_36 ⟨Nat.le_of_ble_eq_true rfl, Nat.le_of_ble_eq_true rfl⟩) (fun r21 σ22 H locs hw hO => ?_)
        exact x_iret C0 hO hw dX8_cellsBarred_39
    · replace hw := hw.2 c12
      refine lv_aload_n hx hb dX8_cellsBarred_19 rfl (lv_at hl 0 rfl) ?_
      refine lv_iconst (v := 2) hx hb dX8_cellsBarred_20 (by decide) ?_
      refine x_calli C0 hO (x_runV (As := [.int (2 : Int32)]) (rest := []) C0 hO (kX8_failed l g _ (2 : Int32) σ _ hw) 1 rfl (xRecv C0 hO (j := 24) rfl rfl) gX8_cellsBarred_X8_failed rfl rfl rfl hdX8_failed ⟨Nat.le_of_ble_eq_true rfl, Nat.le_of_ble_eq_true rfl⟩ hl.1 rfl (Nat.le_of_ble_eq_true rfl) dX8_cellsBarred_21 ⟨Nat.le_of_ble_eq_true rfl, Nat.le_of_ble_eq_true rfl⟩) (fun r23 σ24 H locs hw hO => ?_)
      exact x_iret C0 hO hw dX8_cellsBarred_24
theorem hdX8_noSheet : yX8_noSheet.cls = RX8 ∧ yX8_noSheet.cls ≠ "java/lang/invoke/MethodHandle" ∧ yX8_noSheet.cls ≠ "java/lang/invoke/VarHandle" ∧ (parseMethodDescriptor yX8_noSheet.desc).map (fun d => d.parameters.length) = some 1 := by decide +kernel
set_option maxHeartbeats 4000000 in
set_option maxRecDepth 100000 in
theorem kX8_noSheet (l : Launch) (g : XG) (sz : Nat) (a0 : Int32) (σ : XS) (post : Int32 → Prop) (hw : PX8_noSheet a0 σ post) : xMi l yX8_noSheet wsX8_noSheet rmX8_noSheet 0 0 g sz [.int a0] σ (fun r u => σ = u ∧ post r) := by
  unfold PX8_noSheet at hw
  refine x_head (Qc := fun A => va_Qi (fun r u => σ = u ∧ post r) (xAt g A) A) (cc := cX8_noSheet) (maxL := 1) (ret := (some .boolean)) (by decide) rfl ?_
  intro p e s m below meth c A C0 hnm hO
  refine x_entry (Nat.le_of_ble_eq_true rfl) (fun ls hl => ?_)
  have hl : lv_has ls 1 [(0, .int a0)] := hl
  have hx := C0.1
  have hb := C0.2.1
  have hown := C0.2.2.2.2.2.1
  have hts := C0.2.2.2.2.2.2.1
  refine lv_iload_n hx hb dX8_noSheet_0 rfl (lv_at hl 0 rfl) ?_
  refine lv_i2l hx hb dX8_noSheet_1 rfl ?_
  refine lv_lconst (v := 0) hx hb dX8_noSheet_2 (by decide) ?_
  refine lv_ldc2 (v := 3) hx hb hown (hts _ (List.mem_of_getElem? (i := 1) rfl)) dX8_noSheet_3 ?_
  refine x_calli C0 hO (x_runS (As := [.long a0.toInt64, .long (0 : Int64), .long (3 : Int64)]) (rest := []) C0 hO (kX8_in l g _ a0.toInt64 (0 : Int64) (3 : Int64) σ _ hw) 3 rfl gX8_noSheet_X8_in rfl rfl rfl hdX8_in.2 ⟨Nat.le_of_ble_eq_true rfl, Nat.le_of_ble_eq_true rfl⟩ hl.1 rfl (Nat.le_of_ble_eq_true rfl) dX8_noSheet_6 ⟨Nat.le_of_ble_eq_true rfl, Nat.le_of_ble_eq_true rfl⟩) (fun r1 σ' H locs hw hO => ?_)
  obtain ⟨hσ, hw⟩ := hw
  subst hσ
  refine lv_if_ne (tgt := 16) hx hb dX8_noSheet_9 (by decide) (fun c2 => ?_) (fun c2 => ?_)
  · replace hw := hw.2 c2
    refine lv_iconst (v := 0) hx hb dX8_noSheet_16 (by decide) ?_
    exact x_zret C0 hO rfl ⟨rfl, hw⟩ dX8_noSheet_17
  · replace hw := hw.1 c2
    refine lv_iconst (v := 1) hx hb dX8_noSheet_12 (by decide) ?_
    refine lv_goto (tgt := 17) hx hb dX8_noSheet_13 (by decide) ?_
    exact x_zret C0 hO rfl ⟨rfl, hw⟩ dX8_noSheet_17
theorem iX8_hall_8 : ∀ w ∈ wsX80, w ∈ wsX8_hall := fun w h => List.mem_cons_of_mem _ (List.mem_append_right _ h)
theorem hdX8_hall : yX8_hall.cls = RX8 ∧ yX8_hall.cls ≠ "java/lang/invoke/MethodHandle" ∧ yX8_hall.cls ≠ "java/lang/invoke/VarHandle" ∧ (parseMethodDescriptor yX8_hall.desc).map (fun d => d.parameters.length) = some 4 := by decide +kernel
set_option maxHeartbeats 4000000 in
set_option maxRecDepth 100000 in
theorem lX8_hall_98 {p : Program} {l : Launch} {e : Env} {s : State} {m : MethodId} {args : Array Value} {below : List Frame} {meth : Method} {c : Code} {g : XG} {A : Nat → Prop} (C0 : xC g A wsX8_hall RX8 cX8_hall 7 (some .int) p s m args meth c) (f1 : Int32) (f2 : Int32) (f3 : Int32) (f4 : Int32) (f5 : Int32) (post : Int32 → XS → Prop) (kx : Int32 → XS → Prop)
    (hkx : ∀ (m6 : Int32) (σ : XS) (H : Heap) (locs : List Loc) (ls : Array Slot), kx m6 σ → xO g A s σ H locs → lv_has ls 7 [(0, .ref (xa g 24)), (1, .int f1), (2, .int f2), (3, .int f3), (4, .int f4), (5, .int f5), (6, .int m6)] → W p l e (headSpec wsX8_hall rmX8_hall).room s m args below meth c H locs 0 0 (MQ below (va_Qi post (xAt g A) A) args s 0 0 A) (F0 m 141 ls [])) :
    ∀ (n : Nat) (m6 : Int32) (σ : XS) (H : Heap) (locs : List Loc) (ls : Array Slot), LX8_hall_98 f1 f2 f3 f4 f5 post kx n m6 σ → xO g A s σ H locs → lv_has ls 7 [(0, .ref (xa g 24)), (1, .int f1), (2, .int f2), (3, .int f3), (4, .int f4), (5, .int f5), (6, .int m6)] → W p l e (headSpec wsX8_hall rmX8_hall).room s m args below meth c H locs 0 0 (MQ below (va_Qi post (xAt g A) A) args s 0 0 A) (F0 m 98 ls []) := by
  have hx := C0.1
  have hb := C0.2.1
  have hown := C0.2.2.2.2.2.1
  have hts := C0.2.2.2.2.2.2.1
  intro n
  induction n with
  | zero =>
    intro m6 σ H locs ls hw
    exact hw.elim
  | succ n ih =>
    intro m6 σ H locs ls hw hO hl
    rw [LX8_hall_98] at hw
    refine lv_iload hx hb dX8_hall_98 (lv_at hl 6 rfl) ?_
    refine lv_aload_n hx hb dX8_hall_100 rfl (lv_at hl 0 rfl) ?_
    refine x_geti C0 hO 24 2 rfl rfl (by decide) rfl iX8_hall_8 rfl (List.mem_of_getElem? (i := 6) rfl) dX8_hall_101 ?_
    refine lv_icmp_ge (tgt := 141) hx hb dX8_hall_104 (by decide) (fun c13 => ?_) (fun c13 => ?_)
    · replace hw := hw.1 c13
      exact hkx _ _ _ _ _ hw hO (lv_sub hl [0, 1, 2, 3, 4, 5, 6] rfl)
    · replace hw := hw.2 c13
      refine lv_aload_n hx hb dX8_hall_107 rfl (lv_at hl 0 rfl) ?_
      refine x_getr C0 hO 24 3 25 rfl rfl (by decide) rfl iX8_hall_8 rfl (List.mem_of_getElem? (i := 7) rfl) dX8_hall_108 ?_
      refine lv_iload hx hb dX8_hall_111 (lv_at hl 6 rfl) ?_
      refine lv_aload_n hx hb dX8_hall_113 rfl (lv_at hl 0 rfl) ?_
      refine x_getr C0 hO 24 8 27 rfl rfl (by decide) rfl iX8_hall_8 rfl (List.mem_of_getElem? (i := 8) rfl) dX8_hall_114 ?_
      refine lv_iload hx hb dX8_hall_117 (lv_at hl 6 rfl) ?_
      refine x_iald C0 hO 27 rfl hw.1 dX8_hall_119 ?_
      replace hw := hw.2
      refine x_iast C0 hO 25 rfl hw.1 dX8_hall_120 (fun σ14 H locs eσ14 hO => ?_)
      replace hw := hw.2 σ14 eσ14
      refine lv_aload_n hx hb dX8_hall_121 rfl (lv_at hl 0 rfl) ?_
      refine x_getr C0 hO 24 4 26 rfl rfl (by decide) rfl iX8_hall_8 rfl (List.mem_of_getElem? (i := 9) rfl) dX8_hall_122 ?_
      refine lv_iload hx hb dX8_hall_125 (lv_at hl 6 rfl) ?_
      refine lv_aload_n hx hb dX8_hall_127 rfl (lv_at hl 0 rfl) ?_
      refine x_getr C0 hO 24 9 28 rfl rfl (by decide) rfl iX8_hall_8 rfl (List.mem_of_getElem? (i := 10) rfl) dX8_hall_128 ?_
      refine lv_iload hx hb dX8_hall_131 (lv_at hl 6 rfl) ?_
      refine x_iald C0 hO 28 rfl hw.1 dX8_hall_133 ?_
      replace hw := hw.2
      refine x_iast C0 hO 26 rfl hw.1 dX8_hall_134 (fun σ15 H locs eσ15 hO => ?_)
      replace hw := hw.2 σ15 eσ15
      obtain ⟨x16, ex16⟩ : ∃ z : Int32, z = m6 + 1 := ⟨_, rfl⟩
      replace hw := hw x16 ex16
      refine lv_iinc (v := x16) (lv' := [(6, .int x16), (0, .ref (xa g 24)), (1, .int f1), (2, .int f2), (3, .int f3), (4, .int f4), (5, .int f5)]) hx hb dX8_hall_135 hl (k := 6) rfl (by rw [ex16]; rfl) (by decide) rfl (fun ls hl => ?_)
      refine lv_goto (tgt := 98) hx hb dX8_hall_138 (by decide) ?_
      exact ih _ _ _ _ _ hw hO (lv_sub hl [1, 2, 3, 4, 5, 6, 0] rfl)
set_option maxHeartbeats 4000000 in
set_option maxRecDepth 100000 in
theorem kX8_hall (l : Launch) (g : XG) (sz : Nat) (a1 : Int32) (a2 : Int32) (a3 : Int32) (a4 : Int32) (σ : XS) (post : Int32 → XS → Prop) (hw : PX8_hall a1 a2 a3 a4 σ post) : xMi l yX8_hall wsX8_hall rmX8_hall 0 0 g sz [.ref (xa g 24), .int a1, .int a2, .int a3, .int a4] σ post := by
  unfold PX8_hall at hw
  refine x_head (Qc := fun A => va_Qi post (xAt g A) A) (cc := cX8_hall) (maxL := 7) (ret := (some .int)) (by decide) rfl ?_
  intro p e s m below meth c A C0 hnm hO
  refine x_entry (Nat.le_of_ble_eq_true rfl) (fun ls hl => ?_)
  have hl : lv_has ls 7 [(0, .ref (xa g 24)), (1, .int a1), (2, .int a2), (3, .int a3), (4, .int a4)] := hl
  have hx := C0.1
  have hb := C0.2.1
  have hown := C0.2.2.2.2.2.1
  have hts := C0.2.2.2.2.2.2.1
  refine lv_iload_n hx hb dX8_hall_0 rfl (lv_at hl 1 rfl) ?_
  refine x_calli C0 hO (x_runS (As := [.int a1]) (rest := []) C0 hO (kX8_noSheet l g _ a1 σ _ hw) 1 rfl gX8_hall_X8_noSheet rfl rfl rfl hdX8_noSheet.2 ⟨Nat.le_of_ble_eq_true rfl, Nat.le_of_ble_eq_true rfl⟩ hl.1 rfl (Nat.le_of_ble_eq_true rfl) dX8_hall_1 ⟨Nat.le_of_ble_eq_true rfl, Nat.le_of_ble_eq_true rfl⟩) (fun r1 σ' H locs hw hO => ?_)
  obtain ⟨hσ, hw⟩ := hw
  subst hσ
  refine lv_if_eq (tgt := 13) hx hb dX8_hall_4 (by decide) (fun c2 => ?_) (fun c2 => ?_)
  · replace hw := hw.1 c2
    refine lv_iload_n hx hb dX8_hall_13 rfl (lv_at hl 2 rfl) ?_
    refine lv_i2l hx hb dX8_hall_14 rfl ?_
    refine lv_lconst (v := 0) hx hb dX8_hall_15 (by decide) ?_
    refine lv_ldc2 (v := 2) hx hb hown (hts _ (List.mem_of_getElem? (i := 1) rfl)) dX8_hall_16 ?_
    refine x_calli C0 hO (x_runS (As := [.long a2.toInt64, .long (0 : Int64), .long (2 : Int64)]) (rest := []) C0 hO (kX8_in l g _ a2.toInt64 (0 : Int64) (2 : Int64) σ _ hw) 3 rfl gX8_hall_X8_in rfl rfl rfl hdX8_in.2 ⟨Nat.le_of_ble_eq_true rfl, Nat.le_of_ble_eq_true rfl⟩ hl.1 rfl (Nat.le_of_ble_eq_true rfl) dX8_hall_19 ⟨Nat.le_of_ble_eq_true rfl, Nat.le_of_ble_eq_true rfl⟩) (fun r3 σ' H locs hw hO => ?_)
    obtain ⟨hσ, hw⟩ := hw
    subst hσ
    refine lv_if_ne (tgt := 32) hx hb dX8_hall_22 (by decide) (fun c4 => ?_) (fun c4 => ?_)
    · replace hw := hw.2 c4
      refine lv_aload_n hx hb dX8_hall_32 rfl (lv_at hl 0 rfl) ?_
      refine lv_iload_n hx hb dX8_hall_33 rfl (lv_at hl 1 rfl) ?_
      refine lv_iload_n hx hb dX8_hall_34 rfl (lv_at hl 2 rfl) ?_
      refine lv_iload_n hx hb dX8_hall_35 rfl (lv_at hl 3 rfl) ?_
      refine lv_iload hx hb dX8_hall_36 (lv_at hl 4 rfl) ?_
      refine lv_i2l hx hb dX8_hall_38 rfl ?_
      refine x_calli C0 hO (x_runV (As := [.int a1, .int a2, .int a3, .long a4.toInt64]) (rest := []) C0 hO (kX8_cellsBarred l g _ a1 a2 a3 a4.toInt64 σ _ hw) 4 rfl (xRecv C0 hO (j := 24) rfl rfl) gX8_hall_X8_cellsBarred rfl rfl rfl hdX8_cellsBarred ⟨Nat.le_of_ble_eq_true rfl, Nat.le_of_ble_eq_true rfl⟩ hl.1 rfl (Nat.le_of_ble_eq_true rfl) dX8_hall_39 ⟨Nat.le_of_ble_eq_true rfl, Nat.le_of_ble_eq_true rfl⟩) (fun r5 σ6 H locs hw hO => ?_)
      refine lv_istore (lv' := [(5, .int r5), (0, .ref (xa g 24)), (1, .int a1), (2, .int a2), (3, .int a3), (4, .int a4)]) hx hb dX8_hall_42 hl (by decide) rfl (fun ls hl => ?_)
      refine lv_iload hx hb dX8_hall_44 (lv_at hl 0 rfl) ?_
      refine lv_if_ge (tgt := 52) hx hb dX8_hall_46 (by decide) (fun c7 => ?_) (fun c7 => ?_)
      · replace hw := hw.1 c7
        refine lv_aload_n hx hb dX8_hall_52 rfl (lv_at hl 1 rfl) ?_
        refine lv_bipush (v := 60) hx hb dX8_hall_53 (by decide) ?_
        refine lv_iload_n hx hb dX8_hall_55 rfl (lv_at hl 2 rfl) ?_
        refine lv_imul hx hb dX8_hall_56 ?_
        refine lv_iload_n hx hb dX8_hall_57 rfl (lv_at hl 4 rfl) ?_
        refine lv_iadd hx hb dX8_hall_58 ?_
        refine lv_iload hx hb dX8_hall_59 (lv_at hl 5 rfl) ?_
        refine x_calli C0 hO (x_runV (As := [.int (((60 : Int32) * a1) + a3), .int a4]) (rest := []) C0 hO (kX8_readsHall l g _ (((60 : Int32) * a1) + a3) a4 σ6 _ hw) 2 rfl (xRecv C0 hO (j := 24) rfl rfl) gX8_hall_X8_readsHall rfl rfl rfl hdX8_readsHall ⟨Nat.le_of_ble_eq_true rfl, Nat.le_of_ble_eq_true rfl⟩ hl.1 rfl (Nat.le_of_ble_eq_true rfl) dX8_hall_61 ⟨Nat.le_of_ble_eq_true rfl, Nat.le_of_ble_eq_true rfl⟩) (fun r8 σ9 H locs hw hO => ?_)
        refine lv_if_ne (tgt := 79) hx hb dX8_hall_64 (by decide) (fun c10 => ?_) (fun c10 => ?_)
        · replace hw := hw.2 c10
          refine lv_aload_n hx hb dX8_hall_79 rfl (lv_at hl 1 rfl) ?_
          refine lv_aload_n hx hb dX8_hall_80 rfl (lv_at hl 1 rfl) ?_
          refine x_geti C0 hO 24 6 rfl rfl (by decide) rfl iX8_hall_8 rfl (List.mem_of_getElem? (i := 3) rfl) dX8_hall_81 ?_
          refine x_puti C0 hO 24 1 tyX8 tyX8_ok nmX8 rfl rfl (by decide) rfl iX8_hall_8 rfl rfl rfl (List.mem_of_getElem? (i := 4) rfl) dX8_hall_84 (fun σ11 H locs eσ11 hO => ?_)
          replace hw := hw σ11 eσ11
          refine lv_aload_n hx hb dX8_hall_87 rfl (lv_at hl 1 rfl) ?_
          refine lv_aload_n hx hb dX8_hall_88 rfl (lv_at hl 1 rfl) ?_
          refine x_geti C0 hO 24 7 rfl rfl (by decide) rfl iX8_hall_8 rfl (List.mem_of_getElem? (i := 5) rfl) dX8_hall_89 ?_
          refine x_puti C0 hO 24 2 tyX8 tyX8_ok nmX8 rfl rfl (by decide) rfl iX8_hall_8 rfl rfl rfl (List.mem_of_getElem? (i := 6) rfl) dX8_hall_92 (fun σ12 H locs eσ12 hO => ?_)
          replace hw := hw σ12 eσ12
          refine lv_iconst (v := 0) hx hb dX8_hall_95 (by decide) ?_
          refine lv_istore (lv' := [(6, .int (0 : Int32)), (5, .int r5), (0, .ref (xa g 24)), (1, .int a1), (2, .int a2), (3, .int a3), (4, .int a4)]) hx hb dX8_hall_96 hl (by decide) rfl (fun ls hl => ?_)
          refine lX8_hall_98 C0 a1 a2 a3 a4 r5 post _ (fun x17 σ18 H locs ls hw hO hl => ?_) 1000 _ _ _ _ _ hw hO (lv_sub hl [2, 3, 4, 5, 6, 1, 0] rfl)
          refine lv_aload_n hx hb dX8_hall_141 rfl (lv_at hl 0 rfl) ?_
          refine lv_iconst (v := 0) hx hb dX8_hall_142 (by decide) ?_
          refine x_puti C0 hO 24 10 tyX8 tyX8_ok nmX8 rfl rfl (by decide) rfl iX8_hall_8 rfl rfl rfl (List.mem_of_getElem? (i := 11) rfl) dX8_hall_143 (fun σ19 H locs eσ19 hO => ?_)
          replace hw := hw σ19 eσ19
          refine lv_aload_n hx hb dX8_hall_146 rfl (lv_at hl 0 rfl) ?_
          refine lv_iconst (v := 0) hx hb dX8_hall_147 (by decide) ?_
          refine x_puti C0 hO 24 14 tyX8 tyX8_ok nmX8 rfl rfl (by decide) rfl iX8_hall_8 rfl rfl rfl (List.mem_of_getElem? (i := 12) rfl) dX8_hall_148 (fun σ20 H locs eσ20 hO => ?_)
          replace hw := hw σ20 eσ20
          refine lv_aload_n hx hb dX8_hall_151 rfl (lv_at hl 0 rfl) ?_
          refine lv_iconst (v := 0) hx hb dX8_hall_152 (by decide) ?_
          refine x_puti C0 hO 24 18 tyX8 tyX8_ok nmX8 rfl rfl (by decide) rfl iX8_hall_8 rfl rfl rfl (List.mem_of_getElem? (i := 13) rfl) dX8_hall_153 (fun σ21 H locs eσ21 hO => ?_)
          replace hw := hw σ21 eσ21
          refine lv_aload_n hx hb dX8_hall_156 rfl (lv_at hl 0 rfl) ?_
          refine lv_iconst (v := 0) hx hb dX8_hall_157 (by decide) ?_
          refine x_puti C0 hO 24 30 tyX8 tyX8_ok nmX8 rfl rfl (by decide) rfl iX8_hall_8 rfl rfl rfl (List.mem_of_getElem? (i := 14) rfl) dX8_hall_158 (fun σ22 H locs eσ22 hO => ?_)
          replace hw := hw σ22 eσ22
          refine lv_aload_n hx hb dX8_hall_161 rfl (lv_at hl 0 rfl) ?_
          refine lv_aload_n hx hb dX8_hall_162 rfl (lv_at hl 0 rfl) ?_
          refine x_geti C0 hO 24 2 rfl rfl (by decide) rfl iX8_hall_8 rfl (List.mem_of_getElem? (i := 6) rfl) dX8_hall_163 ?_
          refine x_calli C0 hO (x_runV (As := [.int (gI σ22 24 2)]) (rest := []) C0 hO (kX8_refused l g _ (gI σ22 24 2) σ22 _ hw) 1 rfl (xRecv C0 hO (j := 24) rfl rfl) gX8_hall_X8_refused rfl rfl rfl hdX8_refused ⟨Nat.le_of_ble_eq_true rfl, Nat.le_of_ble_eq_true rfl⟩ hl.1 rfl (Nat.le_of_ble_eq_true rfl) dX8_hall_166 ⟨Nat.le_of_ble_eq_true rfl, Nat.le_of_ble_eq_true rfl⟩) (fun r23 σ24 H locs hw hO => ?_)
          exact x_iret C0 hO hw dX8_hall_169
        · replace hw := hw.1 c10
          refine lv_aload_n hx hb dX8_hall_67 rfl (lv_at hl 1 rfl) ?_
          refine lv_bipush (v := -100) hx hb dX8_hall_68 (by decide) ?_
          refine lv_aload_n hx hb dX8_hall_70 rfl (lv_at hl 1 rfl) ?_
          refine x_geti C0 hO 24 5 rfl rfl (by decide) rfl iX8_hall_8 rfl (List.mem_of_getElem? (i := 2) rfl) dX8_hall_71 ?_
          refine lv_isub hx hb dX8_hall_74 ?_
          refine x_calli C0 hO (x_runV (As := [.int ((-100 : Int32) - (gI σ9 24 5))]) (rest := []) C0 hO (kX8_refused l g _ ((-100 : Int32) - (gI σ9 24 5)) σ9 _ hw) 1 rfl (xRecv C0 hO (j := 24) rfl rfl) gX8_hall_X8_refused rfl rfl rfl hdX8_refused ⟨Nat.le_of_ble_eq_true rfl, Nat.le_of_ble_eq_true rfl⟩ hl.1 rfl (Nat.le_of_ble_eq_true rfl) dX8_hall_75 ⟨Nat.le_of_ble_eq_true rfl, Nat.le_of_ble_eq_true rfl⟩) (fun r25 σ26 H locs hw hO => ?_)
          exact x_iret C0 hO hw dX8_hall_78
      · replace hw := hw.2 c7
        refine lv_iload hx hb dX8_hall_49 (lv_at hl 0 rfl) ?_
        exact x_iret C0 hO hw dX8_hall_51
    · replace hw := hw.1 c4
      refine lv_aload_n hx hb dX8_hall_25 rfl (lv_at hl 0 rfl) ?_
      refine lv_bipush (v := -2) hx hb dX8_hall_26 (by decide) ?_
      refine x_calli C0 hO (x_runV (As := [.int (-2 : Int32)]) (rest := []) C0 hO (kX8_refused l g _ (-2 : Int32) σ _ hw) 1 rfl (xRecv C0 hO (j := 24) rfl rfl) gX8_hall_X8_refused rfl rfl rfl hdX8_refused ⟨Nat.le_of_ble_eq_true rfl, Nat.le_of_ble_eq_true rfl⟩ hl.1 rfl (Nat.le_of_ble_eq_true rfl) dX8_hall_28 ⟨Nat.le_of_ble_eq_true rfl, Nat.le_of_ble_eq_true rfl⟩) (fun r27 σ28 H locs hw hO => ?_)
      exact x_iret C0 hO hw dX8_hall_31
  · replace hw := hw.2 c2
    refine lv_aload_n hx hb dX8_hall_7 rfl (lv_at hl 0 rfl) ?_
    refine lv_iconst (v := -1) hx hb dX8_hall_8 (by decide) ?_
    refine x_calli C0 hO (x_runV (As := [.int (-1 : Int32)]) (rest := []) C0 hO (kX8_refused l g _ (-1 : Int32) σ _ hw) 1 rfl (xRecv C0 hO (j := 24) rfl rfl) gX8_hall_X8_refused rfl rfl rfl hdX8_refused ⟨Nat.le_of_ble_eq_true rfl, Nat.le_of_ble_eq_true rfl⟩ hl.1 rfl (Nat.le_of_ble_eq_true rfl) dX8_hall_9 ⟨Nat.le_of_ble_eq_true rfl, Nat.le_of_ble_eq_true rfl⟩) (fun r29 σ30 H locs hw hO => ?_)
    exact x_iret C0 hO hw dX8_hall_12
theorem iX8_ofPerson_8 : ∀ w ∈ wsX80, w ∈ wsX8_ofPerson := fun w h => List.mem_cons_of_mem _ (List.mem_append_right _ h)
theorem hdX8_ofPerson : yX8_ofPerson.cls = RX8 ∧ yX8_ofPerson.cls ≠ "java/lang/invoke/MethodHandle" ∧ yX8_ofPerson.cls ≠ "java/lang/invoke/VarHandle" ∧ (parseMethodDescriptor yX8_ofPerson.desc).map (fun d => d.parameters.length) = some 2 := by decide +kernel
set_option maxHeartbeats 4000000 in
set_option maxRecDepth 100000 in
theorem kX8_ofPerson (l : Launch) (g : XG) (sz : Nat) (a1 : Int32) (a2 : Int32) (σ : XS) (post : Int32 → Prop) (hw : PX8_ofPerson a1 a2 σ post) : xMi l yX8_ofPerson wsX8_ofPerson rmX8_ofPerson 0 0 g sz [.ref (xa g 24), .int a1, .int a2] σ (fun r u => σ = u ∧ post r) := by
  unfold PX8_ofPerson at hw
  refine x_head (Qc := fun A => va_Qi (fun r u => σ = u ∧ post r) (xAt g A) A) (cc := cX8_ofPerson) (maxL := 3) (ret := (some .int)) (by decide) rfl ?_
  intro p e s m below meth c A C0 hnm hO
  refine x_entry (Nat.le_of_ble_eq_true rfl) (fun ls hl => ?_)
  have hl : lv_has ls 3 [(0, .ref (xa g 24)), (1, .int a1), (2, .int a2)] := hl
  have hx := C0.1
  have hb := C0.2.1
  have hown := C0.2.2.2.2.2.1
  have hts := C0.2.2.2.2.2.2.1
  refine lv_aload_n hx hb dX8_ofPerson_0 rfl (lv_at hl 0 rfl) ?_
  refine lv_iload_n hx hb dX8_ofPerson_1 rfl (lv_at hl 1 rfl) ?_
  refine x_calli C0 hO (x_runV (As := [.int a1]) (rest := []) C0 hO (kX8_noPerson l g _ a1 σ _ hw) 1 rfl (xRecv C0 hO (j := 24) rfl rfl) gX8_ofPerson_X8_noPerson rfl rfl rfl hdX8_noPerson ⟨Nat.le_of_ble_eq_true rfl, Nat.le_of_ble_eq_true rfl⟩ hl.1 rfl (Nat.le_of_ble_eq_true rfl) dX8_ofPerson_2 ⟨Nat.le_of_ble_eq_true rfl, Nat.le_of_ble_eq_true rfl⟩) (fun r1 σ' H locs hw hO => ?_)
  obtain ⟨hσ, hw⟩ := hw
  subst hσ
  refine lv_if_eq (tgt := 10) hx hb dX8_ofPerson_5 (by decide) (fun c2 => ?_) (fun c2 => ?_)
  · replace hw := hw.1 c2
    refine lv_iload_n hx hb dX8_ofPerson_10 rfl (lv_at hl 2 rfl) ?_
    refine lv_if_ne (tgt := 23) hx hb dX8_ofPerson_11 (by decide) (fun c3 => ?_) (fun c3 => ?_)
    · replace hw := hw.2 c3
      refine lv_iload_n hx hb dX8_ofPerson_23 rfl (lv_at hl 2 rfl) ?_
      refine lv_iconst (v := 1) hx hb dX8_ofPerson_24 (by decide) ?_
      refine lv_icmp_ne (tgt := 37) hx hb dX8_ofPerson_25 (by decide) (fun c4 => ?_) (fun c4 => ?_)
      · replace hw := hw.2 c4
        refine lv_bipush (v := -2) hx hb dX8_ofPerson_37 (by decide) ?_
        exact x_iret C0 hO ⟨rfl, hw⟩ dX8_ofPerson_39
      · replace hw := hw.1 c4
        refine lv_aload_n hx hb dX8_ofPerson_28 rfl (lv_at hl 0 rfl) ?_
        refine x_getr C0 hO 24 4 26 rfl rfl (by decide) rfl iX8_ofPerson_8 rfl (List.mem_of_getElem? (i := 2) rfl) dX8_ofPerson_29 ?_
        refine lv_iload_n hx hb dX8_ofPerson_32 rfl (lv_at hl 1 rfl) ?_
        refine x_iald C0 hO 26 rfl hw.1 dX8_ofPerson_33 ?_
        replace hw := hw.2
        refine lv_goto (tgt := 39) hx hb dX8_ofPerson_34 (by decide) ?_
        exact x_iret C0 hO ⟨rfl, hw⟩ dX8_ofPerson_39
    · replace hw := hw.1 c3
      refine lv_aload_n hx hb dX8_ofPerson_14 rfl (lv_at hl 0 rfl) ?_
      refine x_getr C0 hO 24 3 25 rfl rfl (by decide) rfl iX8_ofPerson_8 rfl (List.mem_of_getElem? (i := 1) rfl) dX8_ofPerson_15 ?_
      refine lv_iload_n hx hb dX8_ofPerson_18 rfl (lv_at hl 1 rfl) ?_
      refine x_iald C0 hO 25 rfl hw.1 dX8_ofPerson_19 ?_
      replace hw := hw.2
      refine lv_goto (tgt := 39) hx hb dX8_ofPerson_20 (by decide) ?_
      exact x_iret C0 hO ⟨rfl, hw⟩ dX8_ofPerson_39
  · replace hw := hw.2 c2
    refine lv_iconst (v := -1) hx hb dX8_ofPerson_8 (by decide) ?_
    exact x_iret C0 hO ⟨rfl, hw⟩ dX8_ofPerson_9
theorem iX8_gumOf_8 : ∀ w ∈ wsX80, w ∈ wsX8_gumOf := fun w h => List.mem_cons_of_mem _ (List.mem_append_right _ h)
theorem hdX8_gumOf : yX8_gumOf.cls = RX8 ∧ yX8_gumOf.cls ≠ "java/lang/invoke/MethodHandle" ∧ yX8_gumOf.cls ≠ "java/lang/invoke/VarHandle" ∧ (parseMethodDescriptor yX8_gumOf.desc).map (fun d => d.parameters.length) = some 2 := by decide +kernel
set_option maxHeartbeats 4000000 in
set_option maxRecDepth 100000 in
theorem kX8_gumOf (l : Launch) (g : XG) (sz : Nat) (a1 : Int32) (a2 : Int32) (σ : XS) (post : Int32 → Prop) (hw : PX8_gumOf a1 a2 σ post) : xMi l yX8_gumOf wsX8_gumOf rmX8_gumOf 0 0 g sz [.ref (xa g 24), .int a1, .int a2] σ (fun r u => σ = u ∧ post r) := by
  unfold PX8_gumOf at hw
  refine x_head (Qc := fun A => va_Qi (fun r u => σ = u ∧ post r) (xAt g A) A) (cc := cX8_gumOf) (maxL := 4) (ret := (some .int)) (by decide) rfl ?_
  intro p e s m below meth c A C0 hnm hO
  refine x_entry (Nat.le_of_ble_eq_true rfl) (fun ls hl => ?_)
  have hl : lv_has ls 4 [(0, .ref (xa g 24)), (1, .int a1), (2, .int a2)] := hl
  have hx := C0.1
  have hb := C0.2.1
  have hown := C0.2.2.2.2.2.1
  have hts := C0.2.2.2.2.2.2.1
  refine lv_aload_n hx hb dX8_gumOf_0 rfl (lv_at hl 0 rfl) ?_
  refine x_getr C0 hO 24 3 25 rfl rfl (by decide) rfl iX8_gumOf_8 rfl (List.mem_of_getElem? (i := 1) rfl) dX8_gumOf_1 ?_
  refine lv_iload_n hx hb dX8_gumOf_4 rfl (lv_at hl 1 rfl) ?_
  refine x_iald C0 hO 25 rfl hw.1 dX8_gumOf_5 ?_
  replace hw := hw.2
  refine lv_if_ne (tgt := 16) hx hb dX8_gumOf_6 (by decide) (fun c1 => ?_) (fun c1 => ?_)
  · replace hw := hw.2 c1
    refine lv_aload_n hx hb dX8_gumOf_16 rfl (lv_at hl 0 rfl) ?_
    refine x_getr C0 hO 24 4 26 rfl rfl (by decide) rfl iX8_gumOf_8 rfl (List.mem_of_getElem? (i := 2) rfl) dX8_gumOf_17 ?_
    refine lv_iload_n hx hb dX8_gumOf_20 rfl (lv_at hl 1 rfl) ?_
    refine x_iald C0 hO 26 rfl hw.1 dX8_gumOf_21 ?_
    replace hw := hw.2
    refine lv_iload_n hx hb dX8_gumOf_22 rfl (lv_at hl 2 rfl) ?_
    refine lv_bipush (v := 10) hx hb dX8_gumOf_23 (by decide) ?_
    refine lv_idiv hx hb dX8_gumOf_25 hw.1 ?_
    replace hw := hw.2
    refine lv_iadd hx hb dX8_gumOf_26 ?_
    refine lv_iconst (v := 4) hx hb dX8_gumOf_27 (by decide) ?_
    refine lv_irem hx hb dX8_gumOf_28 hw.1 ?_
    replace hw := hw.2
    refine lv_topi (fun x2 ex2 => ?_)
    replace hw := hw x2 ex2
    refine lv_istore_n (lv' := [(3, .int x2), (0, .ref (xa g 24)), (1, .int a1), (2, .int a2)]) hx hb dX8_gumOf_29 rfl hl (by decide) rfl (fun ls hl => ?_)
    refine lv_aload_n hx hb dX8_gumOf_30 rfl (lv_at hl 1 rfl) ?_
    refine x_getr C0 hO 24 3 25 rfl rfl (by decide) rfl iX8_gumOf_8 rfl (List.mem_of_getElem? (i := 1) rfl) dX8_gumOf_31 ?_
    refine lv_iload_n hx hb dX8_gumOf_34 rfl (lv_at hl 2 rfl) ?_
    refine x_iald C0 hO 25 rfl hw.1 dX8_gumOf_35 ?_
    replace hw := hw.2
    refine lv_iconst (v := 2) hx hb dX8_gumOf_36 (by decide) ?_
    refine lv_icmp_ne (tgt := 46) hx hb dX8_gumOf_37 (by decide) (fun c3 => ?_) (fun c3 => ?_)
    · replace hw := hw.2 c3
      refine lv_iload_n hx hb dX8_gumOf_46 rfl (lv_at hl 0 rfl) ?_
      exact x_iret C0 hO ⟨rfl, hw⟩ dX8_gumOf_47
    · replace hw := hw.1 c3
      refine lv_iconst (v := 4) hx hb dX8_gumOf_40 (by decide) ?_
      refine lv_iload_n hx hb dX8_gumOf_41 rfl (lv_at hl 0 rfl) ?_
      refine lv_iadd hx hb dX8_gumOf_42 ?_
      refine lv_goto (tgt := 47) hx hb dX8_gumOf_43 (by decide) ?_
      exact x_iret C0 hO ⟨rfl, hw⟩ dX8_gumOf_47
  · replace hw := hw.1 c1
    refine lv_aload_n hx hb dX8_gumOf_9 rfl (lv_at hl 0 rfl) ?_
    refine x_getr C0 hO 24 4 26 rfl rfl (by decide) rfl iX8_gumOf_8 rfl (List.mem_of_getElem? (i := 2) rfl) dX8_gumOf_10 ?_
    refine lv_iload_n hx hb dX8_gumOf_13 rfl (lv_at hl 1 rfl) ?_
    refine x_iald C0 hO 26 rfl hw.1 dX8_gumOf_14 ?_
    replace hw := hw.2
    exact x_iret C0 hO ⟨rfl, hw⟩ dX8_gumOf_15
theorem hdX8_gum : yX8_gum.cls = RX8 ∧ yX8_gum.cls ≠ "java/lang/invoke/MethodHandle" ∧ yX8_gum.cls ≠ "java/lang/invoke/VarHandle" ∧ (parseMethodDescriptor yX8_gum.desc).map (fun d => d.parameters.length) = some 2 := by decide +kernel
set_option maxHeartbeats 4000000 in
set_option maxRecDepth 100000 in
theorem kX8_gum (l : Launch) (g : XG) (sz : Nat) (a1 : Int32) (a2 : Int32) (σ : XS) (post : Int32 → Prop) (hw : PX8_gum a1 a2 σ post) : xMi l yX8_gum wsX8_gum rmX8_gum 0 0 g sz [.ref (xa g 24), .int a1, .int a2] σ (fun r u => σ = u ∧ post r) := by
  unfold PX8_gum at hw
  refine x_head (Qc := fun A => va_Qi (fun r u => σ = u ∧ post r) (xAt g A) A) (cc := cX8_gum) (maxL := 3) (ret := (some .int)) (by decide) rfl ?_
  intro p e s m below meth c A C0 hnm hO
  refine x_entry (Nat.le_of_ble_eq_true rfl) (fun ls hl => ?_)
  have hl : lv_has ls 3 [(0, .ref (xa g 24)), (1, .int a1), (2, .int a2)] := hl
  have hx := C0.1
  have hb := C0.2.1
  have hown := C0.2.2.2.2.2.1
  have hts := C0.2.2.2.2.2.2.1
  refine lv_aload_n hx hb dX8_gum_0 rfl (lv_at hl 0 rfl) ?_
  refine lv_iload_n hx hb dX8_gum_1 rfl (lv_at hl 1 rfl) ?_
  refine x_calli C0 hO (x_runV (As := [.int a1]) (rest := []) C0 hO (kX8_noPerson l g _ a1 σ _ hw) 1 rfl (xRecv C0 hO (j := 24) rfl rfl) gX8_gum_X8_noPerson rfl rfl rfl hdX8_noPerson ⟨Nat.le_of_ble_eq_true rfl, Nat.le_of_ble_eq_true rfl⟩ hl.1 rfl (Nat.le_of_ble_eq_true rfl) dX8_gum_2 ⟨Nat.le_of_ble_eq_true rfl, Nat.le_of_ble_eq_true rfl⟩) (fun r1 σ' H locs hw hO => ?_)
  obtain ⟨hσ, hw⟩ := hw
  subst hσ
  refine lv_if_eq (tgt := 10) hx hb dX8_gum_5 (by decide) (fun c2 => ?_) (fun c2 => ?_)
  · replace hw := hw.1 c2
    refine lv_iload_n hx hb dX8_gum_10 rfl (lv_at hl 2 rfl) ?_
    refine x_calli C0 hO (x_runS (As := [.int a2]) (rest := []) C0 hO (kX8_isNight l g _ a2 σ _ hw) 1 rfl gX8_gum_X8_isNight rfl rfl rfl hdX8_isNight.2 ⟨Nat.le_of_ble_eq_true rfl, Nat.le_of_ble_eq_true rfl⟩ hl.1 rfl (Nat.le_of_ble_eq_true rfl) dX8_gum_11 ⟨Nat.le_of_ble_eq_true rfl, Nat.le_of_ble_eq_true rfl⟩) (fun r3 σ' H locs hw hO => ?_)
    obtain ⟨hσ, hw⟩ := hw
    subst hσ
    refine lv_if_eq (tgt := 26) hx hb dX8_gum_14 (by decide) (fun c4 => ?_) (fun c4 => ?_)
    · replace hw := hw.1 c4
      refine lv_bipush (v := -2) hx hb dX8_gum_26 (by decide) ?_
      exact x_iret C0 hO ⟨rfl, hw⟩ dX8_gum_28
    · replace hw := hw.2 c4
      refine lv_aload_n hx hb dX8_gum_17 rfl (lv_at hl 0 rfl) ?_
      refine lv_iload_n hx hb dX8_gum_18 rfl (lv_at hl 1 rfl) ?_
      refine lv_iload_n hx hb dX8_gum_19 rfl (lv_at hl 2 rfl) ?_
      refine x_calli C0 hO (x_runV (As := [.int a1, .int a2]) (rest := []) C0 hO (kX8_gumOf l g _ a1 a2 σ _ hw) 2 rfl (xRecv C0 hO (j := 24) rfl rfl) gX8_gum_X8_gumOf rfl rfl rfl hdX8_gumOf ⟨Nat.le_of_ble_eq_true rfl, Nat.le_of_ble_eq_true rfl⟩ hl.1 rfl (Nat.le_of_ble_eq_true rfl) dX8_gum_20 ⟨Nat.le_of_ble_eq_true rfl, Nat.le_of_ble_eq_true rfl⟩) (fun r5 σ' H locs hw hO => ?_)
      obtain ⟨hσ, hw⟩ := hw
      subst hσ
      refine lv_goto (tgt := 28) hx hb dX8_gum_23 (by decide) ?_
      exact x_iret C0 hO ⟨rfl, hw⟩ dX8_gum_28
  · replace hw := hw.2 c2
    refine lv_iconst (v := -1) hx hb dX8_gum_8 (by decide) ?_
    exact x_iret C0 hO ⟨rfl, hw⟩ dX8_gum_9
theorem iX8_maySit_8 : ∀ w ∈ wsX80, w ∈ wsX8_maySit := fun w h => List.mem_cons_of_mem _ (List.mem_append_right _ h)
theorem hdX8_maySit : yX8_maySit.cls = RX8 ∧ yX8_maySit.cls ≠ "java/lang/invoke/MethodHandle" ∧ yX8_maySit.cls ≠ "java/lang/invoke/VarHandle" ∧ (parseMethodDescriptor yX8_maySit.desc).map (fun d => d.parameters.length) = some 3 := by decide +kernel
set_option maxHeartbeats 4000000 in
set_option maxRecDepth 100000 in
theorem lX8_maySit_6 {p : Program} {l : Launch} {e : Env} {s : State} {m : MethodId} {args : Array Value} {below : List Frame} {meth : Method} {c : Code} {g : XG} {A : Nat → Prop} (C0 : xC g A wsX8_maySit RX8 cX8_maySit 6 (some .boolean) p s m args meth c) (σ : XS) (f1 : Int32) (f2 : Int32) (f3 : Int32) (post : Int32 → Prop) (kx : Int32 → Int32 → Prop)
    (hkx : ∀ (m4 : Int32) (m5 : Int32) (H : Heap) (locs : List Loc) (ls : Array Slot), kx m4 m5 → xO g A s σ H locs → lv_has ls 6 [(0, .ref (xa g 24)), (1, .int f1), (2, .int f2), (3, .int f3), (4, .int m4), (5, .int m5)] → W p l e (headSpec wsX8_maySit rmX8_maySit).room s m args below meth c H locs 0 0 (MQ below (va_Qi (fun r u => σ = u ∧ post r) (xAt g A) A) args s 0 0 A) (F0 m 66 ls [])) :
    ∀ (n : Nat) (m4 : Int32) (m5 : Int32) (H : Heap) (locs : List Loc) (ls : Array Slot), LX8_maySit_6 σ f1 f2 f3 post kx n m4 m5 → xO g A s σ H locs → lv_has ls 6 [(0, .ref (xa g 24)), (1, .int f1), (2, .int f2), (3, .int f3), (4, .int m4), (5, .int m5)] → W p l e (headSpec wsX8_maySit rmX8_maySit).room s m args below meth c H locs 0 0 (MQ below (va_Qi (fun r u => σ = u ∧ post r) (xAt g A) A) args s 0 0 A) (F0 m 6 ls []) := by
  have hx := C0.1
  have hb := C0.2.1
  have hown := C0.2.2.2.2.2.1
  have hts := C0.2.2.2.2.2.2.1
  intro n
  induction n with
  | zero =>
    intro m4 m5 H locs ls hw
    exact hw.elim
  | succ n ih =>
    intro m4 m5 H locs ls hw hO hl
    rw [LX8_maySit_6] at hw
    refine lv_iload hx hb dX8_maySit_6 (lv_at hl 5 rfl) ?_
    refine lv_aload_n hx hb dX8_maySit_8 rfl (lv_at hl 0 rfl) ?_
    refine x_geti C0 hO 24 10 rfl rfl (by decide) rfl iX8_maySit_8 rfl (List.mem_of_getElem? (i := 1) rfl) dX8_maySit_9 ?_
    refine lv_icmp_ge (tgt := 66) hx hb dX8_maySit_12 (by decide) (fun c1 => ?_) (fun c1 => ?_)
    · replace hw := hw.1 c1
      exact hkx _ _ _ _ _ hw hO (lv_sub hl [0, 1, 2, 3, 4, 5] rfl)
    · replace hw := hw.2 c1
      refine lv_iload hx hb dX8_maySit_15 (lv_at hl 4 rfl) ?_
      refine lv_if_eq (tgt := 57) hx hb dX8_maySit_17 (by decide) (fun c2 => ?_) (fun c2 => ?_)
      · replace hw := hw.1 c2
        refine lv_iconst (v := 0) hx hb dX8_maySit_57 (by decide) ?_
        refine lv_istore (lv' := [(4, .int (0 : Int32)), (0, .ref (xa g 24)), (1, .int f1), (2, .int f2), (3, .int f3), (5, .int m5)]) hx hb dX8_maySit_58 hl (by decide) rfl (fun ls hl => ?_)
        obtain ⟨x3, ex3⟩ : ∃ z : Int32, z = m5 + 1 := ⟨_, rfl⟩
        replace hw := hw x3 ex3
        refine lv_iinc (v := x3) (lv' := [(5, .int x3), (4, .int (0 : Int32)), (0, .ref (xa g 24)), (1, .int f1), (2, .int f2), (3, .int f3)]) hx hb dX8_maySit_60 hl (k := 5) rfl (by rw [ex3]; rfl) (by decide) rfl (fun ls hl => ?_)
        refine lv_goto (tgt := 6) hx hb dX8_maySit_63 (by decide) ?_
        exact ih _ _ _ _ _ hw hO (lv_sub hl [2, 3, 4, 5, 1, 0] rfl)
      · replace hw := hw.2 c2
        refine lv_aload_n hx hb dX8_maySit_20 rfl (lv_at hl 0 rfl) ?_
        refine x_getr C0 hO 24 13 31 rfl rfl (by decide) rfl iX8_maySit_8 rfl (List.mem_of_getElem? (i := 2) rfl) dX8_maySit_21 ?_
        refine lv_iload hx hb dX8_maySit_24 (lv_at hl 5 rfl) ?_
        refine x_iald C0 hO 31 rfl hw.1 dX8_maySit_26 ?_
        replace hw := hw.2
        refine lv_iload_n hx hb dX8_maySit_27 rfl (lv_at hl 3 rfl) ?_
        refine lv_icmp_ne (tgt := 53) hx hb dX8_maySit_28 (by decide) (fun c4 => ?_) (fun c4 => ?_)
        · replace hw := hw.2 c4
          refine lv_iconst (v := 1) hx hb dX8_maySit_53 (by decide) ?_
          refine lv_goto (tgt := 58) hx hb dX8_maySit_54 (by decide) ?_
          refine lv_istore (lv' := [(4, .int (1 : Int32)), (0, .ref (xa g 24)), (1, .int f1), (2, .int f2), (3, .int f3), (5, .int m5)]) hx hb dX8_maySit_58 hl (by decide) rfl (fun ls hl => ?_)
          obtain ⟨x5, ex5⟩ : ∃ z : Int32, z = m5 + 1 := ⟨_, rfl⟩
          replace hw := hw x5 ex5
          refine lv_iinc (v := x5) (lv' := [(5, .int x5), (4, .int (1 : Int32)), (0, .ref (xa g 24)), (1, .int f1), (2, .int f2), (3, .int f3)]) hx hb dX8_maySit_60 hl (k := 5) rfl (by rw [ex5]; rfl) (by decide) rfl (fun ls hl => ?_)
          refine lv_goto (tgt := 6) hx hb dX8_maySit_63 (by decide) ?_
          exact ih _ _ _ _ _ hw hO (lv_sub hl [2, 3, 4, 5, 1, 0] rfl)
        · replace hw := hw.1 c4
          refine lv_aload_n hx hb dX8_maySit_31 rfl (lv_at hl 0 rfl) ?_
          refine x_getr C0 hO 24 11 29 rfl rfl (by decide) rfl iX8_maySit_8 rfl (List.mem_of_getElem? (i := 3) rfl) dX8_maySit_32 ?_
          refine lv_iload hx hb dX8_maySit_35 (lv_at hl 5 rfl) ?_
          refine x_iald C0 hO 29 rfl hw.1 dX8_maySit_37 ?_
          replace hw := hw.2
          refine lv_iload_n hx hb dX8_maySit_38 rfl (lv_at hl 1 rfl) ?_
          refine lv_icmp_eq (tgt := 57) hx hb dX8_maySit_39 (by decide) (fun c6 => ?_) (fun c6 => ?_)
          · replace hw := hw.1 c6
            refine lv_iconst (v := 0) hx hb dX8_maySit_57 (by decide) ?_
            refine lv_istore (lv' := [(4, .int (0 : Int32)), (0, .ref (xa g 24)), (1, .int f1), (2, .int f2), (3, .int f3), (5, .int m5)]) hx hb dX8_maySit_58 hl (by decide) rfl (fun ls hl => ?_)
            obtain ⟨x7, ex7⟩ : ∃ z : Int32, z = m5 + 1 := ⟨_, rfl⟩
            replace hw := hw x7 ex7
            refine lv_iinc (v := x7) (lv' := [(5, .int x7), (4, .int (0 : Int32)), (0, .ref (xa g 24)), (1, .int f1), (2, .int f2), (3, .int f3)]) hx hb dX8_maySit_60 hl (k := 5) rfl (by rw [ex7]; rfl) (by decide) rfl (fun ls hl => ?_)
            refine lv_goto (tgt := 6) hx hb dX8_maySit_63 (by decide) ?_
            exact ih _ _ _ _ _ hw hO (lv_sub hl [2, 3, 4, 5, 1, 0] rfl)
          · replace hw := hw.2 c6
            refine lv_aload_n hx hb dX8_maySit_42 rfl (lv_at hl 0 rfl) ?_
            refine x_getr C0 hO 24 12 30 rfl rfl (by decide) rfl iX8_maySit_8 rfl (List.mem_of_getElem? (i := 4) rfl) dX8_maySit_43 ?_
            refine lv_iload hx hb dX8_maySit_46 (lv_at hl 5 rfl) ?_
            refine x_iald C0 hO 30 rfl hw.1 dX8_maySit_48 ?_
            replace hw := hw.2
            refine lv_iload_n hx hb dX8_maySit_49 rfl (lv_at hl 2 rfl) ?_
            refine lv_icmp_eq (tgt := 57) hx hb dX8_maySit_50 (by decide) (fun c8 => ?_) (fun c8 => ?_)
            · replace hw := hw.1 c8
              refine lv_iconst (v := 0) hx hb dX8_maySit_57 (by decide) ?_
              refine lv_istore (lv' := [(4, .int (0 : Int32)), (0, .ref (xa g 24)), (1, .int f1), (2, .int f2), (3, .int f3), (5, .int m5)]) hx hb dX8_maySit_58 hl (by decide) rfl (fun ls hl => ?_)
              obtain ⟨x9, ex9⟩ : ∃ z : Int32, z = m5 + 1 := ⟨_, rfl⟩
              replace hw := hw x9 ex9
              refine lv_iinc (v := x9) (lv' := [(5, .int x9), (4, .int (0 : Int32)), (0, .ref (xa g 24)), (1, .int f1), (2, .int f2), (3, .int f3)]) hx hb dX8_maySit_60 hl (k := 5) rfl (by rw [ex9]; rfl) (by decide) rfl (fun ls hl => ?_)
              refine lv_goto (tgt := 6) hx hb dX8_maySit_63 (by decide) ?_
              exact ih _ _ _ _ _ hw hO (lv_sub hl [2, 3, 4, 5, 1, 0] rfl)
            · replace hw := hw.2 c8
              refine lv_iconst (v := 1) hx hb dX8_maySit_53 (by decide) ?_
              refine lv_goto (tgt := 58) hx hb dX8_maySit_54 (by decide) ?_
              refine lv_istore (lv' := [(4, .int (1 : Int32)), (0, .ref (xa g 24)), (1, .int f1), (2, .int f2), (3, .int f3), (5, .int m5)]) hx hb dX8_maySit_58 hl (by decide) rfl (fun ls hl => ?_)
              obtain ⟨x10, ex10⟩ : ∃ z : Int32, z = m5 + 1 := ⟨_, rfl⟩
              replace hw := hw x10 ex10
              refine lv_iinc (v := x10) (lv' := [(5, .int x10), (4, .int (1 : Int32)), (0, .ref (xa g 24)), (1, .int f1), (2, .int f2), (3, .int f3)]) hx hb dX8_maySit_60 hl (k := 5) rfl (by rw [ex10]; rfl) (by decide) rfl (fun ls hl => ?_)
              refine lv_goto (tgt := 6) hx hb dX8_maySit_63 (by decide) ?_
              exact ih _ _ _ _ _ hw hO (lv_sub hl [2, 3, 4, 5, 1, 0] rfl)
set_option maxHeartbeats 4000000 in
set_option maxRecDepth 100000 in
theorem kX8_maySit (l : Launch) (g : XG) (sz : Nat) (a1 : Int32) (a2 : Int32) (a3 : Int32) (σ : XS) (post : Int32 → Prop) (hw : PX8_maySit a1 a2 a3 σ post) : xMi l yX8_maySit wsX8_maySit rmX8_maySit 0 0 g sz [.ref (xa g 24), .int a1, .int a2, .int a3] σ (fun r u => σ = u ∧ post r) := by
  unfold PX8_maySit at hw
  refine x_head (Qc := fun A => va_Qi (fun r u => σ = u ∧ post r) (xAt g A) A) (cc := cX8_maySit) (maxL := 6) (ret := (some .boolean)) (by decide) rfl ?_
  intro p e s m below meth c A C0 hnm hO
  refine x_entry (Nat.le_of_ble_eq_true rfl) (fun ls hl => ?_)
  have hl : lv_has ls 6 [(0, .ref (xa g 24)), (1, .int a1), (2, .int a2), (3, .int a3)] := hl
  have hx := C0.1
  have hb := C0.2.1
  have hown := C0.2.2.2.2.2.1
  have hts := C0.2.2.2.2.2.2.1
  refine lv_iconst (v := 1) hx hb dX8_maySit_0 (by decide) ?_
  refine lv_istore (lv' := [(4, .int (1 : Int32)), (0, .ref (xa g 24)), (1, .int a1), (2, .int a2), (3, .int a3)]) hx hb dX8_maySit_1 hl (by decide) rfl (fun ls hl => ?_)
  refine lv_iconst (v := 0) hx hb dX8_maySit_3 (by decide) ?_
  refine lv_istore (lv' := [(5, .int (0 : Int32)), (4, .int (1 : Int32)), (0, .ref (xa g 24)), (1, .int a1), (2, .int a2), (3, .int a3)]) hx hb dX8_maySit_4 hl (by decide) rfl (fun ls hl => ?_)
  refine lX8_maySit_6 C0 σ a1 a2 a3 post _ (fun x11 x12 H locs ls hw hO hl => ?_) 1000 _ _ _ _ _ hw hO (lv_sub hl [2, 3, 4, 5, 1, 0] rfl)
  refine lv_iload hx hb dX8_maySit_66 (lv_at hl 4 rfl) ?_
  exact x_zret C0 hO hw.1 ⟨rfl, hw.2⟩ dX8_maySit_68
theorem iX8_sitDown_8 : ∀ w ∈ wsX80, w ∈ wsX8_sitDown := fun w h => List.mem_cons_of_mem _ (List.mem_append_right _ h)
theorem hdX8_sitDown : yX8_sitDown.cls = RX8 ∧ yX8_sitDown.cls ≠ "java/lang/invoke/MethodHandle" ∧ yX8_sitDown.cls ≠ "java/lang/invoke/VarHandle" ∧ (parseMethodDescriptor yX8_sitDown.desc).map (fun d => d.parameters.length) = some 3 := by decide +kernel
set_option maxHeartbeats 4000000 in
set_option maxRecDepth 100000 in
theorem kX8_sitDown (l : Launch) (g : XG) (sz : Nat) (a1 : Int32) (a2 : Int32) (a3 : Int32) (σ : XS) (post : XS → Prop) (hw : PX8_sitDown a1 a2 a3 σ post) : xMv l yX8_sitDown wsX8_sitDown rmX8_sitDown 0 0 g sz [.ref (xa g 24), .int a1, .int a2, .int a3] σ post := by
  unfold PX8_sitDown at hw
  refine x_head (Qc := fun A => va_Qv post (xAt g A) A) (cc := cX8_sitDown) (maxL := 4) (ret := none) (by decide) rfl ?_
  intro p e s m below meth c A C0 hnm hO
  refine x_entry (Nat.le_of_ble_eq_true rfl) (fun ls hl => ?_)
  have hl : lv_has ls 4 [(0, .ref (xa g 24)), (1, .int a1), (2, .int a2), (3, .int a3)] := hl
  have hx := C0.1
  have hb := C0.2.1
  have hown := C0.2.2.2.2.2.1
  have hts := C0.2.2.2.2.2.2.1
  refine lv_aload_n hx hb dX8_sitDown_0 rfl (lv_at hl 0 rfl) ?_
  refine x_getr C0 hO 24 11 29 rfl rfl (by decide) rfl iX8_sitDown_8 rfl (List.mem_of_getElem? (i := 1) rfl) dX8_sitDown_1 ?_
  refine lv_aload_n hx hb dX8_sitDown_4 rfl (lv_at hl 0 rfl) ?_
  refine x_geti C0 hO 24 10 rfl rfl (by decide) rfl iX8_sitDown_8 rfl (List.mem_of_getElem? (i := 2) rfl) dX8_sitDown_5 ?_
  refine lv_iload_n hx hb dX8_sitDown_8 rfl (lv_at hl 1 rfl) ?_
  refine x_iast C0 hO 29 rfl hw.1 dX8_sitDown_9 (fun σ1 H locs eσ1 hO => ?_)
  replace hw := hw.2 σ1 eσ1
  refine lv_aload_n hx hb dX8_sitDown_10 rfl (lv_at hl 0 rfl) ?_
  refine x_getr C0 hO 24 12 30 rfl rfl (by decide) rfl iX8_sitDown_8 rfl (List.mem_of_getElem? (i := 3) rfl) dX8_sitDown_11 ?_
  refine lv_aload_n hx hb dX8_sitDown_14 rfl (lv_at hl 0 rfl) ?_
  refine x_geti C0 hO 24 10 rfl rfl (by decide) rfl iX8_sitDown_8 rfl (List.mem_of_getElem? (i := 2) rfl) dX8_sitDown_15 ?_
  refine lv_iload_n hx hb dX8_sitDown_18 rfl (lv_at hl 2 rfl) ?_
  refine x_iast C0 hO 30 rfl hw.1 dX8_sitDown_19 (fun σ2 H locs eσ2 hO => ?_)
  replace hw := hw.2 σ2 eσ2
  refine lv_aload_n hx hb dX8_sitDown_20 rfl (lv_at hl 0 rfl) ?_
  refine x_getr C0 hO 24 13 31 rfl rfl (by decide) rfl iX8_sitDown_8 rfl (List.mem_of_getElem? (i := 4) rfl) dX8_sitDown_21 ?_
  refine lv_aload_n hx hb dX8_sitDown_24 rfl (lv_at hl 0 rfl) ?_
  refine x_geti C0 hO 24 10 rfl rfl (by decide) rfl iX8_sitDown_8 rfl (List.mem_of_getElem? (i := 2) rfl) dX8_sitDown_25 ?_
  refine lv_iload_n hx hb dX8_sitDown_28 rfl (lv_at hl 3 rfl) ?_
  refine x_iast C0 hO 31 rfl hw.1 dX8_sitDown_29 (fun σ3 H locs eσ3 hO => ?_)
  replace hw := hw.2 σ3 eσ3
  refine lv_aload_n hx hb dX8_sitDown_30 rfl (lv_at hl 0 rfl) ?_
  refine lv_dup hx hb dX8_sitDown_31 rfl ?_
  refine x_geti C0 hO 24 10 rfl rfl (by decide) rfl iX8_sitDown_8 rfl (List.mem_of_getElem? (i := 2) rfl) dX8_sitDown_32 ?_
  refine lv_iconst (v := 1) hx hb dX8_sitDown_35 (by decide) ?_
  refine lv_iadd hx hb dX8_sitDown_36 ?_
  refine x_puti C0 hO 24 10 tyX8 tyX8_ok nmX8 rfl rfl (by decide) rfl iX8_sitDown_8 rfl rfl rfl (List.mem_of_getElem? (i := 2) rfl) dX8_sitDown_37 (fun σ4 H locs eσ4 hO => ?_)
  replace hw := hw σ4 eσ4
  exact x_vret C0 hO hw dX8_sitDown_40
theorem iX8_sit_8 : ∀ w ∈ wsX80, w ∈ wsX8_sit := fun w h => List.mem_cons_of_mem _ (List.mem_append_right _ h)
theorem hdX8_sit : yX8_sit.cls = RX8 ∧ yX8_sit.cls ≠ "java/lang/invoke/MethodHandle" ∧ yX8_sit.cls ≠ "java/lang/invoke/VarHandle" ∧ (parseMethodDescriptor yX8_sit.desc).map (fun d => d.parameters.length) = some 3 := by decide +kernel
set_option maxHeartbeats 4000000 in
set_option maxRecDepth 100000 in
theorem kX8_sit (l : Launch) (g : XG) (sz : Nat) (a1 : Int32) (a2 : Int32) (a3 : Int32) (σ : XS) (post : Int32 → XS → Prop) (hw : PX8_sit a1 a2 a3 σ post) : xMi l yX8_sit wsX8_sit rmX8_sit 0 0 g sz [.ref (xa g 24), .int a1, .int a2, .int a3] σ post := by
  unfold PX8_sit at hw
  refine x_head (Qc := fun A => va_Qi post (xAt g A) A) (cc := cX8_sit) (maxL := 4) (ret := (some .int)) (by decide) rfl ?_
  intro p e s m below meth c A C0 hnm hO
  refine x_entry (Nat.le_of_ble_eq_true rfl) (fun ls hl => ?_)
  have hl : lv_has ls 4 [(0, .ref (xa g 24)), (1, .int a1), (2, .int a2), (3, .int a3)] := hl
  have hx := C0.1
  have hb := C0.2.1
  have hown := C0.2.2.2.2.2.1
  have hts := C0.2.2.2.2.2.2.1
  refine lv_aload_n hx hb dX8_sit_0 rfl (lv_at hl 0 rfl) ?_
  refine lv_iload_n hx hb dX8_sit_1 rfl (lv_at hl 1 rfl) ?_
  refine x_calli C0 hO (x_runV (As := [.int a1]) (rest := []) C0 hO (kX8_noPerson l g _ a1 σ _ hw) 1 rfl (xRecv C0 hO (j := 24) rfl rfl) gX8_sit_X8_noPerson rfl rfl rfl hdX8_noPerson ⟨Nat.le_of_ble_eq_true rfl, Nat.le_of_ble_eq_true rfl⟩ hl.1 rfl (Nat.le_of_ble_eq_true rfl) dX8_sit_2 ⟨Nat.le_of_ble_eq_true rfl, Nat.le_of_ble_eq_true rfl⟩) (fun r1 σ' H locs hw hO => ?_)
  obtain ⟨hσ, hw⟩ := hw
  subst hσ
  refine lv_if_ne (tgt := 16) hx hb dX8_sit_5 (by decide) (fun c2 => ?_) (fun c2 => ?_)
  · replace hw := hw.2 c2
    refine lv_iconst (v := -1) hx hb dX8_sit_16 (by decide) ?_
    exact x_iret C0 hO hw dX8_sit_17
  · replace hw := hw.1 c2
    refine lv_aload_n hx hb dX8_sit_8 rfl (lv_at hl 0 rfl) ?_
    refine lv_iload_n hx hb dX8_sit_9 rfl (lv_at hl 2 rfl) ?_
    refine x_calli C0 hO (x_runV (As := [.int a2]) (rest := []) C0 hO (kX8_noPlace l g _ a2 σ _ hw) 1 rfl (xRecv C0 hO (j := 24) rfl rfl) gX8_sit_X8_noPlace rfl rfl rfl hdX8_noPlace ⟨Nat.le_of_ble_eq_true rfl, Nat.le_of_ble_eq_true rfl⟩ hl.1 rfl (Nat.le_of_ble_eq_true rfl) dX8_sit_10 ⟨Nat.le_of_ble_eq_true rfl, Nat.le_of_ble_eq_true rfl⟩) (fun r3 σ' H locs hw hO => ?_)
    obtain ⟨hσ, hw⟩ := hw
    subst hσ
    refine lv_if_eq (tgt := 18) hx hb dX8_sit_13 (by decide) (fun c4 => ?_) (fun c4 => ?_)
    · replace hw := hw.1 c4
      refine lv_iload_n hx hb dX8_sit_18 rfl (lv_at hl 3 rfl) ?_
      refine x_calli C0 hO (x_runS (As := [.int a3]) (rest := []) C0 hO (kX8_isNight l g _ a3 σ _ hw) 1 rfl gX8_sit_X8_isNight rfl rfl rfl hdX8_isNight.2 ⟨Nat.le_of_ble_eq_true rfl, Nat.le_of_ble_eq_true rfl⟩ hl.1 rfl (Nat.le_of_ble_eq_true rfl) dX8_sit_19 ⟨Nat.le_of_ble_eq_true rfl, Nat.le_of_ble_eq_true rfl⟩) (fun r5 σ' H locs hw hO => ?_)
      obtain ⟨hσ, hw⟩ := hw
      subst hσ
      refine lv_if_ne (tgt := 28) hx hb dX8_sit_22 (by decide) (fun c6 => ?_) (fun c6 => ?_)
      · replace hw := hw.2 c6
        refine lv_aload_n hx hb dX8_sit_28 rfl (lv_at hl 0 rfl) ?_
        refine lv_iload_n hx hb dX8_sit_29 rfl (lv_at hl 1 rfl) ?_
        refine lv_iload_n hx hb dX8_sit_30 rfl (lv_at hl 2 rfl) ?_
        refine lv_iload_n hx hb dX8_sit_31 rfl (lv_at hl 3 rfl) ?_
        refine x_calli C0 hO (x_runV (As := [.int a1, .int a2, .int a3]) (rest := []) C0 hO (kX8_maySit l g _ a1 a2 a3 σ _ hw) 3 rfl (xRecv C0 hO (j := 24) rfl rfl) gX8_sit_X8_maySit rfl rfl rfl hdX8_maySit ⟨Nat.le_of_ble_eq_true rfl, Nat.le_of_ble_eq_true rfl⟩ hl.1 rfl (Nat.le_of_ble_eq_true rfl) dX8_sit_32 ⟨Nat.le_of_ble_eq_true rfl, Nat.le_of_ble_eq_true rfl⟩) (fun r7 σ' H locs hw hO => ?_)
        obtain ⟨hσ, hw⟩ := hw
        subst hσ
        refine lv_if_ne (tgt := 41) hx hb dX8_sit_35 (by decide) (fun c8 => ?_) (fun c8 => ?_)
        · replace hw := hw.2 c8
          refine lv_aload_n hx hb dX8_sit_41 rfl (lv_at hl 0 rfl) ?_
          refine x_geti C0 hO 24 10 rfl rfl (by decide) rfl iX8_sit_8 rfl (List.mem_of_getElem? (i := 1) rfl) dX8_sit_42 ?_
          refine lv_bipush (v := 24) hx hb dX8_sit_45 (by decide) ?_
          refine lv_icmp_ne (tgt := 53) hx hb dX8_sit_47 (by decide) (fun c9 => ?_) (fun c9 => ?_)
          · replace hw := hw.2 c9
            refine lv_aload_n hx hb dX8_sit_53 rfl (lv_at hl 0 rfl) ?_
            refine lv_iload_n hx hb dX8_sit_54 rfl (lv_at hl 1 rfl) ?_
            refine lv_iload_n hx hb dX8_sit_55 rfl (lv_at hl 2 rfl) ?_
            refine lv_iload_n hx hb dX8_sit_56 rfl (lv_at hl 3 rfl) ?_
            refine x_callv C0 hO (x_runV (As := [.int a1, .int a2, .int a3]) (rest := []) C0 hO (kX8_sitDown l g _ a1 a2 a3 σ _ hw) 3 rfl (xRecv C0 hO (j := 24) rfl rfl) gX8_sit_X8_sitDown rfl rfl rfl hdX8_sitDown ⟨Nat.le_of_ble_eq_true rfl, Nat.le_of_ble_eq_true rfl⟩ hl.1 rfl (Nat.le_of_ble_eq_true rfl) dX8_sit_57 ⟨Nat.le_of_ble_eq_true rfl, Nat.le_of_ble_eq_true rfl⟩) (fun σ10 H locs hw hO => ?_)
            refine lv_aload_n hx hb dX8_sit_60 rfl (lv_at hl 0 rfl) ?_
            refine x_geti C0 hO 24 10 rfl rfl (by decide) rfl iX8_sit_8 rfl (List.mem_of_getElem? (i := 1) rfl) dX8_sit_61 ?_
            refine lv_iconst (v := 1) hx hb dX8_sit_64 (by decide) ?_
            refine lv_isub hx hb dX8_sit_65 ?_
            exact x_iret C0 hO hw dX8_sit_66
          · replace hw := hw.1 c9
            refine lv_bipush (v := -4) hx hb dX8_sit_50 (by decide) ?_
            exact x_iret C0 hO hw dX8_sit_52
        · replace hw := hw.1 c8
          refine lv_bipush (v := -3) hx hb dX8_sit_38 (by decide) ?_
          exact x_iret C0 hO hw dX8_sit_40
      · replace hw := hw.1 c6
        refine lv_bipush (v := -2) hx hb dX8_sit_25 (by decide) ?_
        exact x_iret C0 hO hw dX8_sit_27
    · replace hw := hw.2 c4
      refine lv_iconst (v := -1) hx hb dX8_sit_16 (by decide) ?_
      exact x_iret C0 hO hw dX8_sit_17
theorem iX8_rise_8 : ∀ w ∈ wsX80, w ∈ wsX8_rise := fun w h => List.mem_cons_of_mem _ (List.mem_append_right _ h)
theorem hdX8_rise : yX8_rise.cls = RX8 ∧ yX8_rise.cls ≠ "java/lang/invoke/MethodHandle" ∧ yX8_rise.cls ≠ "java/lang/invoke/VarHandle" ∧ (parseMethodDescriptor yX8_rise.desc).map (fun d => d.parameters.length) = some 1 := by decide +kernel
set_option maxHeartbeats 4000000 in
set_option maxRecDepth 100000 in
theorem kX8_rise (l : Launch) (g : XG) (sz : Nat) (a1 : Int32) (σ : XS) (post : Int32 → XS → Prop) (hw : PX8_rise a1 σ post) : xMi l yX8_rise wsX8_rise rmX8_rise 0 0 g sz [.ref (xa g 24), .int a1] σ post := by
  unfold PX8_rise at hw
  refine x_head (Qc := fun A => va_Qi post (xAt g A) A) (cc := cX8_rise) (maxL := 2) (ret := (some .int)) (by decide) rfl ?_
  intro p e s m below meth c A C0 hnm hO
  refine x_entry (Nat.le_of_ble_eq_true rfl) (fun ls hl => ?_)
  have hl : lv_has ls 2 [(0, .ref (xa g 24)), (1, .int a1)] := hl
  have hx := C0.1
  have hb := C0.2.1
  have hown := C0.2.2.2.2.2.1
  have hts := C0.2.2.2.2.2.2.1
  refine lv_iload_n hx hb dX8_rise_0 rfl (lv_at hl 1 rfl) ?_
  refine lv_i2l hx hb dX8_rise_1 rfl ?_
  refine lv_lconst (v := 0) hx hb dX8_rise_2 (by decide) ?_
  refine lv_aload_n hx hb dX8_rise_3 rfl (lv_at hl 0 rfl) ?_
  refine x_geti C0 hO 24 10 rfl rfl (by decide) rfl iX8_rise_8 rfl (List.mem_of_getElem? (i := 1) rfl) dX8_rise_4 ?_
  refine lv_i2l hx hb dX8_rise_7 rfl ?_
  refine x_calli C0 hO (x_runS (As := [.long a1.toInt64, .long (0 : Int64), .long ((gI σ 24 10).toInt64)]) (rest := []) C0 hO (kX8_in l g _ a1.toInt64 (0 : Int64) ((gI σ 24 10).toInt64) σ _ hw) 3 rfl gX8_rise_X8_in rfl rfl rfl hdX8_in.2 ⟨Nat.le_of_ble_eq_true rfl, Nat.le_of_ble_eq_true rfl⟩ hl.1 rfl (Nat.le_of_ble_eq_true rfl) dX8_rise_8 ⟨Nat.le_of_ble_eq_true rfl, Nat.le_of_ble_eq_true rfl⟩) (fun r1 σ' H locs hw hO => ?_)
  obtain ⟨hσ, hw⟩ := hw
  subst hσ
  refine lv_if_ne (tgt := 17) hx hb dX8_rise_11 (by decide) (fun c2 => ?_) (fun c2 => ?_)
  · replace hw := hw.2 c2
    refine lv_aload_n hx hb dX8_rise_17 rfl (lv_at hl 0 rfl) ?_
    refine lv_dup hx hb dX8_rise_18 rfl ?_
    refine x_geti C0 hO 24 10 rfl rfl (by decide) rfl iX8_rise_8 rfl (List.mem_of_getElem? (i := 1) rfl) dX8_rise_19 ?_
    refine lv_iload_n hx hb dX8_rise_22 rfl (lv_at hl 1 rfl) ?_
    refine lv_isub hx hb dX8_rise_23 ?_
    refine x_puti C0 hO 24 10 tyX8 tyX8_ok nmX8 rfl rfl (by decide) rfl iX8_rise_8 rfl rfl rfl (List.mem_of_getElem? (i := 1) rfl) dX8_rise_24 (fun σ3 H locs eσ3 hO => ?_)
    replace hw := hw σ3 eσ3
    refine lv_aload_n hx hb dX8_rise_27 rfl (lv_at hl 0 rfl) ?_
    refine x_geti C0 hO 24 10 rfl rfl (by decide) rfl iX8_rise_8 rfl (List.mem_of_getElem? (i := 1) rfl) dX8_rise_28 ?_
    exact x_iret C0 hO hw dX8_rise_31
  · replace hw := hw.1 c2
    refine lv_bipush (v := -2) hx hb dX8_rise_14 (by decide) ?_
    exact x_iret C0 hO hw dX8_rise_16
theorem iX8_move_8 : ∀ w ∈ wsX80, w ∈ wsX8_move := fun w h => List.mem_cons_of_mem _ (List.mem_append_right _ h)
theorem hdX8_move : yX8_move.cls = RX8 ∧ yX8_move.cls ≠ "java/lang/invoke/MethodHandle" ∧ yX8_move.cls ≠ "java/lang/invoke/VarHandle" ∧ (parseMethodDescriptor yX8_move.desc).map (fun d => d.parameters.length) = some 3 := by decide +kernel
set_option maxHeartbeats 4000000 in
set_option maxRecDepth 100000 in
theorem kX8_move (l : Launch) (g : XG) (sz : Nat) (a1 : Int32) (a2 : Int32) (a3 : Int32) (σ : XS) (post : Int32 → XS → Prop) (hw : PX8_move a1 a2 a3 σ post) : xMi l yX8_move wsX8_move rmX8_move 0 0 g sz [.ref (xa g 24), .int a1, .int a2, .int a3] σ post := by
  unfold PX8_move at hw
  refine x_head (Qc := fun A => va_Qi post (xAt g A) A) (cc := cX8_move) (maxL := 4) (ret := (some .int)) (by decide) rfl ?_
  intro p e s m below meth c A C0 hnm hO
  refine x_entry (Nat.le_of_ble_eq_true rfl) (fun ls hl => ?_)
  have hl : lv_has ls 4 [(0, .ref (xa g 24)), (1, .int a1), (2, .int a2), (3, .int a3)] := hl
  have hx := C0.1
  have hb := C0.2.1
  have hown := C0.2.2.2.2.2.1
  have hts := C0.2.2.2.2.2.2.1
  refine lv_aload_n hx hb dX8_move_0 rfl (lv_at hl 0 rfl) ?_
  refine lv_iload_n hx hb dX8_move_1 rfl (lv_at hl 1 rfl) ?_
  refine x_calli C0 hO (x_runV (As := [.int a1]) (rest := []) C0 hO (kX8_noPlace l g _ a1 σ _ hw) 1 rfl (xRecv C0 hO (j := 24) rfl rfl) gX8_move_X8_noPlace rfl rfl rfl hdX8_noPlace ⟨Nat.le_of_ble_eq_true rfl, Nat.le_of_ble_eq_true rfl⟩ hl.1 rfl (Nat.le_of_ble_eq_true rfl) dX8_move_2 ⟨Nat.le_of_ble_eq_true rfl, Nat.le_of_ble_eq_true rfl⟩) (fun r1 σ' H locs hw hO => ?_)
  obtain ⟨hσ, hw⟩ := hw
  subst hσ
  refine lv_if_ne (tgt := 21) hx hb dX8_move_5 (by decide) (fun c2 => ?_) (fun c2 => ?_)
  · replace hw := hw.2 c2
    refine lv_iconst (v := -1) hx hb dX8_move_21 (by decide) ?_
    exact x_iret C0 hO hw dX8_move_22
  · replace hw := hw.1 c2
    refine lv_aload_n hx hb dX8_move_8 rfl (lv_at hl 0 rfl) ?_
    refine lv_iload_n hx hb dX8_move_9 rfl (lv_at hl 2 rfl) ?_
    refine x_calli C0 hO (x_runV (As := [.int a2]) (rest := []) C0 hO (kX8_noPlace l g _ a2 σ _ hw) 1 rfl (xRecv C0 hO (j := 24) rfl rfl) gX8_move_X8_noPlace rfl rfl rfl hdX8_noPlace ⟨Nat.le_of_ble_eq_true rfl, Nat.le_of_ble_eq_true rfl⟩ hl.1 rfl (Nat.le_of_ble_eq_true rfl) dX8_move_10 ⟨Nat.le_of_ble_eq_true rfl, Nat.le_of_ble_eq_true rfl⟩) (fun r3 σ' H locs hw hO => ?_)
    obtain ⟨hσ, hw⟩ := hw
    subst hσ
    refine lv_if_ne (tgt := 21) hx hb dX8_move_13 (by decide) (fun c4 => ?_) (fun c4 => ?_)
    · replace hw := hw.2 c4
      refine lv_iconst (v := -1) hx hb dX8_move_21 (by decide) ?_
      exact x_iret C0 hO hw dX8_move_22
    · replace hw := hw.1 c4
      refine lv_iload_n hx hb dX8_move_16 rfl (lv_at hl 1 rfl) ?_
      refine lv_iload_n hx hb dX8_move_17 rfl (lv_at hl 2 rfl) ?_
      refine lv_icmp_ne (tgt := 23) hx hb dX8_move_18 (by decide) (fun c5 => ?_) (fun c5 => ?_)
      · replace hw := hw.2 c5
        refine lv_iload_n hx hb dX8_move_23 rfl (lv_at hl 3 rfl) ?_
        refine x_calli C0 hO (x_runS (As := [.int a3]) (rest := []) C0 hO (kX8_isNight l g _ a3 σ _ hw) 1 rfl gX8_move_X8_isNight rfl rfl rfl hdX8_isNight.2 ⟨Nat.le_of_ble_eq_true rfl, Nat.le_of_ble_eq_true rfl⟩ hl.1 rfl (Nat.le_of_ble_eq_true rfl) dX8_move_24 ⟨Nat.le_of_ble_eq_true rfl, Nat.le_of_ble_eq_true rfl⟩) (fun r6 σ' H locs hw hO => ?_)
        obtain ⟨hσ, hw⟩ := hw
        subst hσ
        refine lv_if_ne (tgt := 33) hx hb dX8_move_27 (by decide) (fun c7 => ?_) (fun c7 => ?_)
        · replace hw := hw.2 c7
          refine lv_aload_n hx hb dX8_move_33 rfl (lv_at hl 0 rfl) ?_
          refine x_geti C0 hO 24 14 rfl rfl (by decide) rfl iX8_move_8 rfl (List.mem_of_getElem? (i := 1) rfl) dX8_move_34 ?_
          refine lv_bipush (v := 6) hx hb dX8_move_37 (by decide) ?_
          refine lv_icmp_ne (tgt := 45) hx hb dX8_move_39 (by decide) (fun c8 => ?_) (fun c8 => ?_)
          · replace hw := hw.2 c8
            refine lv_aload_n hx hb dX8_move_45 rfl (lv_at hl 0 rfl) ?_
            refine x_getr C0 hO 24 15 32 rfl rfl (by decide) rfl iX8_move_8 rfl (List.mem_of_getElem? (i := 2) rfl) dX8_move_46 ?_
            refine lv_aload_n hx hb dX8_move_49 rfl (lv_at hl 0 rfl) ?_
            refine x_geti C0 hO 24 14 rfl rfl (by decide) rfl iX8_move_8 rfl (List.mem_of_getElem? (i := 1) rfl) dX8_move_50 ?_
            refine lv_iload_n hx hb dX8_move_53 rfl (lv_at hl 1 rfl) ?_
            refine x_iast C0 hO 32 rfl hw.1 dX8_move_54 (fun σ9 H locs eσ9 hO => ?_)
            replace hw := hw.2 σ9 eσ9
            refine lv_aload_n hx hb dX8_move_55 rfl (lv_at hl 0 rfl) ?_
            refine x_getr C0 hO 24 16 33 rfl rfl (by decide) rfl iX8_move_8 rfl (List.mem_of_getElem? (i := 3) rfl) dX8_move_56 ?_
            refine lv_aload_n hx hb dX8_move_59 rfl (lv_at hl 0 rfl) ?_
            refine x_geti C0 hO 24 14 rfl rfl (by decide) rfl iX8_move_8 rfl (List.mem_of_getElem? (i := 1) rfl) dX8_move_60 ?_
            refine lv_iload_n hx hb dX8_move_63 rfl (lv_at hl 2 rfl) ?_
            refine x_iast C0 hO 33 rfl hw.1 dX8_move_64 (fun σ10 H locs eσ10 hO => ?_)
            replace hw := hw.2 σ10 eσ10
            refine lv_aload_n hx hb dX8_move_65 rfl (lv_at hl 0 rfl) ?_
            refine x_getr C0 hO 24 17 34 rfl rfl (by decide) rfl iX8_move_8 rfl (List.mem_of_getElem? (i := 4) rfl) dX8_move_66 ?_
            refine lv_aload_n hx hb dX8_move_69 rfl (lv_at hl 0 rfl) ?_
            refine x_geti C0 hO 24 14 rfl rfl (by decide) rfl iX8_move_8 rfl (List.mem_of_getElem? (i := 1) rfl) dX8_move_70 ?_
            refine lv_iload_n hx hb dX8_move_73 rfl (lv_at hl 3 rfl) ?_
            refine x_iast C0 hO 34 rfl hw.1 dX8_move_74 (fun σ11 H locs eσ11 hO => ?_)
            replace hw := hw.2 σ11 eσ11
            refine lv_aload_n hx hb dX8_move_75 rfl (lv_at hl 0 rfl) ?_
            refine lv_dup hx hb dX8_move_76 rfl ?_
            refine x_geti C0 hO 24 14 rfl rfl (by decide) rfl iX8_move_8 rfl (List.mem_of_getElem? (i := 1) rfl) dX8_move_77 ?_
            refine lv_iconst (v := 1) hx hb dX8_move_80 (by decide) ?_
            refine lv_iadd hx hb dX8_move_81 ?_
            refine x_puti C0 hO 24 14 tyX8 tyX8_ok nmX8 rfl rfl (by decide) rfl iX8_move_8 rfl rfl rfl (List.mem_of_getElem? (i := 1) rfl) dX8_move_82 (fun σ12 H locs eσ12 hO => ?_)
            replace hw := hw σ12 eσ12
            refine lv_aload_n hx hb dX8_move_85 rfl (lv_at hl 0 rfl) ?_
            refine x_geti C0 hO 24 14 rfl rfl (by decide) rfl iX8_move_8 rfl (List.mem_of_getElem? (i := 1) rfl) dX8_move_86 ?_
            refine lv_iconst (v := 1) hx hb dX8_move_89 (by decide) ?_
            refine lv_isub hx hb dX8_move_90 ?_
            exact x_iret C0 hO hw dX8_move_91
          · replace hw := hw.1 c8
            refine lv_bipush (v := -4) hx hb dX8_move_42 (by decide) ?_
            exact x_iret C0 hO hw dX8_move_44
        · replace hw := hw.1 c7
          refine lv_bipush (v := -2) hx hb dX8_move_30 (by decide) ?_
          exact x_iret C0 hO hw dX8_move_32
      · replace hw := hw.1 c5
        refine lv_iconst (v := -1) hx hb dX8_move_21 (by decide) ?_
        exact x_iret C0 hO hw dX8_move_22
theorem iX8_unmove_8 : ∀ w ∈ wsX80, w ∈ wsX8_unmove := fun w h => List.mem_cons_of_mem _ (List.mem_append_right _ h)
theorem hdX8_unmove : yX8_unmove.cls = RX8 ∧ yX8_unmove.cls ≠ "java/lang/invoke/MethodHandle" ∧ yX8_unmove.cls ≠ "java/lang/invoke/VarHandle" ∧ (parseMethodDescriptor yX8_unmove.desc).map (fun d => d.parameters.length) = some 1 := by decide +kernel
set_option maxHeartbeats 4000000 in
set_option maxRecDepth 100000 in
theorem kX8_unmove (l : Launch) (g : XG) (sz : Nat) (a1 : Int32) (σ : XS) (post : Int32 → XS → Prop) (hw : PX8_unmove a1 σ post) : xMi l yX8_unmove wsX8_unmove rmX8_unmove 0 0 g sz [.ref (xa g 24), .int a1] σ post := by
  unfold PX8_unmove at hw
  refine x_head (Qc := fun A => va_Qi post (xAt g A) A) (cc := cX8_unmove) (maxL := 2) (ret := (some .int)) (by decide) rfl ?_
  intro p e s m below meth c A C0 hnm hO
  refine x_entry (Nat.le_of_ble_eq_true rfl) (fun ls hl => ?_)
  have hl : lv_has ls 2 [(0, .ref (xa g 24)), (1, .int a1)] := hl
  have hx := C0.1
  have hb := C0.2.1
  have hown := C0.2.2.2.2.2.1
  have hts := C0.2.2.2.2.2.2.1
  refine lv_iload_n hx hb dX8_unmove_0 rfl (lv_at hl 1 rfl) ?_
  refine lv_i2l hx hb dX8_unmove_1 rfl ?_
  refine lv_lconst (v := 0) hx hb dX8_unmove_2 (by decide) ?_
  refine lv_aload_n hx hb dX8_unmove_3 rfl (lv_at hl 0 rfl) ?_
  refine x_geti C0 hO 24 14 rfl rfl (by decide) rfl iX8_unmove_8 rfl (List.mem_of_getElem? (i := 1) rfl) dX8_unmove_4 ?_
  refine lv_i2l hx hb dX8_unmove_7 rfl ?_
  refine x_calli C0 hO (x_runS (As := [.long a1.toInt64, .long (0 : Int64), .long ((gI σ 24 14).toInt64)]) (rest := []) C0 hO (kX8_in l g _ a1.toInt64 (0 : Int64) ((gI σ 24 14).toInt64) σ _ hw) 3 rfl gX8_unmove_X8_in rfl rfl rfl hdX8_in.2 ⟨Nat.le_of_ble_eq_true rfl, Nat.le_of_ble_eq_true rfl⟩ hl.1 rfl (Nat.le_of_ble_eq_true rfl) dX8_unmove_8 ⟨Nat.le_of_ble_eq_true rfl, Nat.le_of_ble_eq_true rfl⟩) (fun r1 σ' H locs hw hO => ?_)
  obtain ⟨hσ, hw⟩ := hw
  subst hσ
  refine lv_if_ne (tgt := 17) hx hb dX8_unmove_11 (by decide) (fun c2 => ?_) (fun c2 => ?_)
  · replace hw := hw.2 c2
    refine lv_aload_n hx hb dX8_unmove_17 rfl (lv_at hl 0 rfl) ?_
    refine lv_dup hx hb dX8_unmove_18 rfl ?_
    refine x_geti C0 hO 24 14 rfl rfl (by decide) rfl iX8_unmove_8 rfl (List.mem_of_getElem? (i := 1) rfl) dX8_unmove_19 ?_
    refine lv_iload_n hx hb dX8_unmove_22 rfl (lv_at hl 1 rfl) ?_
    refine lv_isub hx hb dX8_unmove_23 ?_
    refine x_puti C0 hO 24 14 tyX8 tyX8_ok nmX8 rfl rfl (by decide) rfl iX8_unmove_8 rfl rfl rfl (List.mem_of_getElem? (i := 1) rfl) dX8_unmove_24 (fun σ3 H locs eσ3 hO => ?_)
    replace hw := hw σ3 eσ3
    refine lv_aload_n hx hb dX8_unmove_27 rfl (lv_at hl 0 rfl) ?_
    refine x_geti C0 hO 24 14 rfl rfl (by decide) rfl iX8_unmove_8 rfl (List.mem_of_getElem? (i := 1) rfl) dX8_unmove_28 ?_
    exact x_iret C0 hO hw dX8_unmove_31
  · replace hw := hw.1 c2
    refine lv_bipush (v := -2) hx hb dX8_unmove_14 (by decide) ?_
    exact x_iret C0 hO hw dX8_unmove_16
theorem iX8_scrape_8 : ∀ w ∈ wsX80, w ∈ wsX8_scrape := fun w h => List.mem_cons_of_mem _ (List.mem_append_right _ h)
theorem hdX8_scrape : yX8_scrape.cls = RX8 ∧ yX8_scrape.cls ≠ "java/lang/invoke/MethodHandle" ∧ yX8_scrape.cls ≠ "java/lang/invoke/VarHandle" ∧ (parseMethodDescriptor yX8_scrape.desc).map (fun d => d.parameters.length) = some 2 := by decide +kernel
set_option maxHeartbeats 4000000 in
set_option maxRecDepth 100000 in
theorem kX8_scrape (l : Launch) (g : XG) (sz : Nat) (a1 : Int32) (a2 : Int32) (σ : XS) (post : Int32 → XS → Prop) (hw : PX8_scrape a1 a2 σ post) : xMi l yX8_scrape wsX8_scrape rmX8_scrape 0 0 g sz [.ref (xa g 24), .int a1, .int a2] σ post := by
  unfold PX8_scrape at hw
  refine x_head (Qc := fun A => va_Qi post (xAt g A) A) (cc := cX8_scrape) (maxL := 3) (ret := (some .int)) (by decide) rfl ?_
  intro p e s m below meth c A C0 hnm hO
  refine x_entry (Nat.le_of_ble_eq_true rfl) (fun ls hl => ?_)
  have hl : lv_has ls 3 [(0, .ref (xa g 24)), (1, .int a1), (2, .int a2)] := hl
  have hx := C0.1
  have hb := C0.2.1
  have hown := C0.2.2.2.2.2.1
  have hts := C0.2.2.2.2.2.2.1
  refine lv_aload_n hx hb dX8_scrape_0 rfl (lv_at hl 0 rfl) ?_
  refine lv_iload_n hx hb dX8_scrape_1 rfl (lv_at hl 1 rfl) ?_
  refine x_calli C0 hO (x_runV (As := [.int a1]) (rest := []) C0 hO (kX8_noPlace l g _ a1 σ _ hw) 1 rfl (xRecv C0 hO (j := 24) rfl rfl) gX8_scrape_X8_noPlace rfl rfl rfl hdX8_noPlace ⟨Nat.le_of_ble_eq_true rfl, Nat.le_of_ble_eq_true rfl⟩ hl.1 rfl (Nat.le_of_ble_eq_true rfl) dX8_scrape_2 ⟨Nat.le_of_ble_eq_true rfl, Nat.le_of_ble_eq_true rfl⟩) (fun r1 σ' H locs hw hO => ?_)
  obtain ⟨hσ, hw⟩ := hw
  subst hσ
  refine lv_if_eq (tgt := 10) hx hb dX8_scrape_5 (by decide) (fun c2 => ?_) (fun c2 => ?_)
  · replace hw := hw.1 c2
    refine lv_iload_n hx hb dX8_scrape_10 rfl (lv_at hl 2 rfl) ?_
    refine x_calli C0 hO (x_runS (As := [.int a2]) (rest := []) C0 hO (kX8_isNight l g _ a2 σ _ hw) 1 rfl gX8_scrape_X8_isNight rfl rfl rfl hdX8_isNight.2 ⟨Nat.le_of_ble_eq_true rfl, Nat.le_of_ble_eq_true rfl⟩ hl.1 rfl (Nat.le_of_ble_eq_true rfl) dX8_scrape_11 ⟨Nat.le_of_ble_eq_true rfl, Nat.le_of_ble_eq_true rfl⟩) (fun r3 σ' H locs hw hO => ?_)
    obtain ⟨hσ, hw⟩ := hw
    subst hσ
    refine lv_if_ne (tgt := 20) hx hb dX8_scrape_14 (by decide) (fun c4 => ?_) (fun c4 => ?_)
    · replace hw := hw.2 c4
      refine lv_aload_n hx hb dX8_scrape_20 rfl (lv_at hl 0 rfl) ?_
      refine x_geti C0 hO 24 18 rfl rfl (by decide) rfl iX8_scrape_8 rfl (List.mem_of_getElem? (i := 1) rfl) dX8_scrape_21 ?_
      refine lv_bipush (v := 6) hx hb dX8_scrape_24 (by decide) ?_
      refine lv_icmp_ne (tgt := 32) hx hb dX8_scrape_26 (by decide) (fun c5 => ?_) (fun c5 => ?_)
      · replace hw := hw.2 c5
        refine lv_aload_n hx hb dX8_scrape_32 rfl (lv_at hl 0 rfl) ?_
        refine x_getr C0 hO 24 19 35 rfl rfl (by decide) rfl iX8_scrape_8 rfl (List.mem_of_getElem? (i := 2) rfl) dX8_scrape_33 ?_
        refine lv_aload_n hx hb dX8_scrape_36 rfl (lv_at hl 0 rfl) ?_
        refine x_geti C0 hO 24 18 rfl rfl (by decide) rfl iX8_scrape_8 rfl (List.mem_of_getElem? (i := 1) rfl) dX8_scrape_37 ?_
        refine lv_iload_n hx hb dX8_scrape_40 rfl (lv_at hl 1 rfl) ?_
        refine x_iast C0 hO 35 rfl hw.1 dX8_scrape_41 (fun σ6 H locs eσ6 hO => ?_)
        replace hw := hw.2 σ6 eσ6
        refine lv_aload_n hx hb dX8_scrape_42 rfl (lv_at hl 0 rfl) ?_
        refine x_getr C0 hO 24 20 36 rfl rfl (by decide) rfl iX8_scrape_8 rfl (List.mem_of_getElem? (i := 3) rfl) dX8_scrape_43 ?_
        refine lv_aload_n hx hb dX8_scrape_46 rfl (lv_at hl 0 rfl) ?_
        refine x_geti C0 hO 24 18 rfl rfl (by decide) rfl iX8_scrape_8 rfl (List.mem_of_getElem? (i := 1) rfl) dX8_scrape_47 ?_
        refine lv_iload_n hx hb dX8_scrape_50 rfl (lv_at hl 2 rfl) ?_
        refine x_iast C0 hO 36 rfl hw.1 dX8_scrape_51 (fun σ7 H locs eσ7 hO => ?_)
        replace hw := hw.2 σ7 eσ7
        refine lv_aload_n hx hb dX8_scrape_52 rfl (lv_at hl 0 rfl) ?_
        refine lv_dup hx hb dX8_scrape_53 rfl ?_
        refine x_geti C0 hO 24 18 rfl rfl (by decide) rfl iX8_scrape_8 rfl (List.mem_of_getElem? (i := 1) rfl) dX8_scrape_54 ?_
        refine lv_iconst (v := 1) hx hb dX8_scrape_57 (by decide) ?_
        refine lv_iadd hx hb dX8_scrape_58 ?_
        refine x_puti C0 hO 24 18 tyX8 tyX8_ok nmX8 rfl rfl (by decide) rfl iX8_scrape_8 rfl rfl rfl (List.mem_of_getElem? (i := 1) rfl) dX8_scrape_59 (fun σ8 H locs eσ8 hO => ?_)
        replace hw := hw σ8 eσ8
        refine lv_aload_n hx hb dX8_scrape_62 rfl (lv_at hl 0 rfl) ?_
        refine x_geti C0 hO 24 18 rfl rfl (by decide) rfl iX8_scrape_8 rfl (List.mem_of_getElem? (i := 1) rfl) dX8_scrape_63 ?_
        refine lv_iconst (v := 1) hx hb dX8_scrape_66 (by decide) ?_
        refine lv_isub hx hb dX8_scrape_67 ?_
        exact x_iret C0 hO hw dX8_scrape_68
      · replace hw := hw.1 c5
        refine lv_bipush (v := -4) hx hb dX8_scrape_29 (by decide) ?_
        exact x_iret C0 hO hw dX8_scrape_31
    · replace hw := hw.1 c4
      refine lv_bipush (v := -2) hx hb dX8_scrape_17 (by decide) ?_
      exact x_iret C0 hO hw dX8_scrape_19
  · replace hw := hw.2 c2
    refine lv_iconst (v := -1) hx hb dX8_scrape_8 (by decide) ?_
    exact x_iret C0 hO hw dX8_scrape_9
theorem iX8_unscrape_8 : ∀ w ∈ wsX80, w ∈ wsX8_unscrape := fun w h => List.mem_cons_of_mem _ (List.mem_append_right _ h)
theorem hdX8_unscrape : yX8_unscrape.cls = RX8 ∧ yX8_unscrape.cls ≠ "java/lang/invoke/MethodHandle" ∧ yX8_unscrape.cls ≠ "java/lang/invoke/VarHandle" ∧ (parseMethodDescriptor yX8_unscrape.desc).map (fun d => d.parameters.length) = some 1 := by decide +kernel
set_option maxHeartbeats 4000000 in
set_option maxRecDepth 100000 in
theorem kX8_unscrape (l : Launch) (g : XG) (sz : Nat) (a1 : Int32) (σ : XS) (post : Int32 → XS → Prop) (hw : PX8_unscrape a1 σ post) : xMi l yX8_unscrape wsX8_unscrape rmX8_unscrape 0 0 g sz [.ref (xa g 24), .int a1] σ post := by
  unfold PX8_unscrape at hw
  refine x_head (Qc := fun A => va_Qi post (xAt g A) A) (cc := cX8_unscrape) (maxL := 2) (ret := (some .int)) (by decide) rfl ?_
  intro p e s m below meth c A C0 hnm hO
  refine x_entry (Nat.le_of_ble_eq_true rfl) (fun ls hl => ?_)
  have hl : lv_has ls 2 [(0, .ref (xa g 24)), (1, .int a1)] := hl
  have hx := C0.1
  have hb := C0.2.1
  have hown := C0.2.2.2.2.2.1
  have hts := C0.2.2.2.2.2.2.1
  refine lv_iload_n hx hb dX8_unscrape_0 rfl (lv_at hl 1 rfl) ?_
  refine lv_i2l hx hb dX8_unscrape_1 rfl ?_
  refine lv_lconst (v := 0) hx hb dX8_unscrape_2 (by decide) ?_
  refine lv_aload_n hx hb dX8_unscrape_3 rfl (lv_at hl 0 rfl) ?_
  refine x_geti C0 hO 24 18 rfl rfl (by decide) rfl iX8_unscrape_8 rfl (List.mem_of_getElem? (i := 1) rfl) dX8_unscrape_4 ?_
  refine lv_i2l hx hb dX8_unscrape_7 rfl ?_
  refine x_calli C0 hO (x_runS (As := [.long a1.toInt64, .long (0 : Int64), .long ((gI σ 24 18).toInt64)]) (rest := []) C0 hO (kX8_in l g _ a1.toInt64 (0 : Int64) ((gI σ 24 18).toInt64) σ _ hw) 3 rfl gX8_unscrape_X8_in rfl rfl rfl hdX8_in.2 ⟨Nat.le_of_ble_eq_true rfl, Nat.le_of_ble_eq_true rfl⟩ hl.1 rfl (Nat.le_of_ble_eq_true rfl) dX8_unscrape_8 ⟨Nat.le_of_ble_eq_true rfl, Nat.le_of_ble_eq_true rfl⟩) (fun r1 σ' H locs hw hO => ?_)
  obtain ⟨hσ, hw⟩ := hw
  subst hσ
  refine lv_if_ne (tgt := 17) hx hb dX8_unscrape_11 (by decide) (fun c2 => ?_) (fun c2 => ?_)
  · replace hw := hw.2 c2
    refine lv_aload_n hx hb dX8_unscrape_17 rfl (lv_at hl 0 rfl) ?_
    refine lv_dup hx hb dX8_unscrape_18 rfl ?_
    refine x_geti C0 hO 24 18 rfl rfl (by decide) rfl iX8_unscrape_8 rfl (List.mem_of_getElem? (i := 1) rfl) dX8_unscrape_19 ?_
    refine lv_iload_n hx hb dX8_unscrape_22 rfl (lv_at hl 1 rfl) ?_
    refine lv_isub hx hb dX8_unscrape_23 ?_
    refine x_puti C0 hO 24 18 tyX8 tyX8_ok nmX8 rfl rfl (by decide) rfl iX8_unscrape_8 rfl rfl rfl (List.mem_of_getElem? (i := 1) rfl) dX8_unscrape_24 (fun σ3 H locs eσ3 hO => ?_)
    replace hw := hw σ3 eσ3
    refine lv_aload_n hx hb dX8_unscrape_27 rfl (lv_at hl 0 rfl) ?_
    refine x_geti C0 hO 24 18 rfl rfl (by decide) rfl iX8_unscrape_8 rfl (List.mem_of_getElem? (i := 1) rfl) dX8_unscrape_28 ?_
    exact x_iret C0 hO hw dX8_unscrape_31
  · replace hw := hw.1 c2
    refine lv_bipush (v := -2) hx hb dX8_unscrape_14 (by decide) ?_
    exact x_iret C0 hO hw dX8_unscrape_16
theorem iX8_changeChairs_8 : ∀ w ∈ wsX80, w ∈ wsX8_changeChairs := fun w h => List.mem_cons_of_mem _ (List.mem_append_right _ h)
theorem hdX8_changeChairs : yX8_changeChairs.cls = RX8 ∧ yX8_changeChairs.cls ≠ "java/lang/invoke/MethodHandle" ∧ yX8_changeChairs.cls ≠ "java/lang/invoke/VarHandle" ∧ (parseMethodDescriptor yX8_changeChairs.desc).map (fun d => d.parameters.length) = some 2 := by decide +kernel
set_option maxHeartbeats 4000000 in
set_option maxRecDepth 100000 in
theorem kX8_changeChairs (l : Launch) (g : XG) (sz : Nat) (a1 : Int32) (a2 : Int32) (σ : XS) (post : XS → Prop) (hw : PX8_changeChairs a1 a2 σ post) : xMv l yX8_changeChairs wsX8_changeChairs rmX8_changeChairs 0 0 g sz [.ref (xa g 24), .int a1, .int a2] σ post := by
  unfold PX8_changeChairs at hw
  refine x_head (Qc := fun A => va_Qv post (xAt g A) A) (cc := cX8_changeChairs) (maxL := 4) (ret := none) (by decide) rfl ?_
  intro p e s m below meth c A C0 hnm hO
  refine x_entry (Nat.le_of_ble_eq_true rfl) (fun ls hl => ?_)
  have hl : lv_has ls 4 [(0, .ref (xa g 24)), (1, .int a1), (2, .int a2)] := hl
  have hx := C0.1
  have hb := C0.2.1
  have hown := C0.2.2.2.2.2.1
  have hts := C0.2.2.2.2.2.2.1
  refine lv_aload_n hx hb dX8_changeChairs_0 rfl (lv_at hl 0 rfl) ?_
  refine x_getr C0 hO 24 27 37 rfl rfl (by decide) rfl iX8_changeChairs_8 rfl (List.mem_of_getElem? (i := 1) rfl) dX8_changeChairs_1 ?_
  refine lv_iload_n hx hb dX8_changeChairs_4 rfl (lv_at hl 1 rfl) ?_
  refine x_iald C0 hO 37 rfl hw.1 dX8_changeChairs_5 ?_
  replace hw := hw.2
  refine lv_topi (fun x1 ex1 => ?_)
  replace hw := hw x1 ex1
  refine lv_istore_n (lv' := [(3, .int x1), (0, .ref (xa g 24)), (1, .int a1), (2, .int a2)]) hx hb dX8_changeChairs_6 rfl hl (by decide) rfl (fun ls hl => ?_)
  refine lv_aload_n hx hb dX8_changeChairs_7 rfl (lv_at hl 1 rfl) ?_
  refine x_getr C0 hO 24 27 37 rfl rfl (by decide) rfl iX8_changeChairs_8 rfl (List.mem_of_getElem? (i := 1) rfl) dX8_changeChairs_8 ?_
  refine lv_iload_n hx hb dX8_changeChairs_11 rfl (lv_at hl 2 rfl) ?_
  refine lv_aload_n hx hb dX8_changeChairs_12 rfl (lv_at hl 1 rfl) ?_
  refine x_getr C0 hO 24 27 37 rfl rfl (by decide) rfl iX8_changeChairs_8 rfl (List.mem_of_getElem? (i := 1) rfl) dX8_changeChairs_13 ?_
  refine lv_iload_n hx hb dX8_changeChairs_16 rfl (lv_at hl 3 rfl) ?_
  refine x_iald C0 hO 37 rfl hw.1 dX8_changeChairs_17 ?_
  replace hw := hw.2
  refine x_iast C0 hO 37 rfl hw.1 dX8_changeChairs_18 (fun σ2 H locs eσ2 hO => ?_)
  replace hw := hw.2 σ2 eσ2
  refine lv_aload_n hx hb dX8_changeChairs_19 rfl (lv_at hl 1 rfl) ?_
  refine x_getr C0 hO 24 27 37 rfl rfl (by decide) rfl iX8_changeChairs_8 rfl (List.mem_of_getElem? (i := 1) rfl) dX8_changeChairs_20 ?_
  refine lv_iload_n hx hb dX8_changeChairs_23 rfl (lv_at hl 3 rfl) ?_
  refine lv_iload_n hx hb dX8_changeChairs_24 rfl (lv_at hl 0 rfl) ?_
  refine x_iast C0 hO 37 rfl hw.1 dX8_changeChairs_25 (fun σ3 H locs eσ3 hO => ?_)
  replace hw := hw.2 σ3 eσ3
  exact x_vret C0 hO hw dX8_changeChairs_26
theorem iX8_goNight_8 : ∀ w ∈ wsX80, w ∈ wsX8_goNight := fun w h => List.mem_cons_of_mem _ (List.mem_append_right _ h)
theorem hdX8_goNight : yX8_goNight.cls = RX8 ∧ yX8_goNight.cls ≠ "java/lang/invoke/MethodHandle" ∧ yX8_goNight.cls ≠ "java/lang/invoke/VarHandle" ∧ (parseMethodDescriptor yX8_goNight.desc).map (fun d => d.parameters.length) = some 1 := by decide +kernel
set_option maxHeartbeats 4000000 in
set_option maxRecDepth 100000 in
theorem lX8_goNight_25 {p : Program} {l : Launch} {e : Env} {s : State} {m : MethodId} {args : Array Value} {below : List Frame} {meth : Method} {c : Code} {g : XG} {A : Nat → Prop} (C0 : xC g A wsX8_goNight RX8 cX8_goNight 4 none p s m args meth c) (f1 : Int32) (post : XS → Prop) (kx : Int32 → XS → Prop)
    (hkx : ∀ (m2 : Int32) (σ : XS) (H : Heap) (locs : List Loc) (ls : Array Slot), kx m2 σ → xO g A s σ H locs → lv_has ls 4 [(0, .ref (xa g 24)), (1, .int f1), (2, .int m2)] → W p l e (headSpec wsX8_goNight rmX8_goNight).room s m args below meth c H locs 0 0 (MQ below (va_Qv post (xAt g A) A) args s 0 0 A) (F0 m 66 ls [])) :
    ∀ (n : Nat) (m2 : Int32) (σ : XS) (H : Heap) (locs : List Loc) (ls : Array Slot), LX8_goNight_25 f1 post kx n m2 σ → xO g A s σ H locs → lv_has ls 4 [(0, .ref (xa g 24)), (1, .int f1), (2, .int m2)] → W p l e (headSpec wsX8_goNight rmX8_goNight).room s m args below meth c H locs 0 0 (MQ below (va_Qv post (xAt g A) A) args s 0 0 A) (F0 m 25 ls []) := by
  have hx := C0.1
  have hb := C0.2.1
  have hown := C0.2.2.2.2.2.1
  have hts := C0.2.2.2.2.2.2.1
  intro n
  induction n with
  | zero =>
    intro m2 σ H locs ls hw
    exact hw.elim
  | succ n ih =>
    intro m2 σ H locs ls hw hO hl
    rw [LX8_goNight_25] at hw
    refine lv_iload_n hx hb dX8_goNight_25 rfl (lv_at hl 2 rfl) ?_
    refine lv_aload_n hx hb dX8_goNight_26 rfl (lv_at hl 0 rfl) ?_
    refine x_geti C0 hO 24 18 rfl rfl (by decide) rfl iX8_goNight_8 rfl (List.mem_of_getElem? (i := 5) rfl) dX8_goNight_27 ?_
    refine lv_icmp_ge (tgt := 66) hx hb dX8_goNight_30 (by decide) (fun c2 => ?_) (fun c2 => ?_)
    · replace hw := hw.1 c2
      exact hkx _ _ _ _ _ hw hO (lv_sub hl [0, 1, 2] rfl)
    · replace hw := hw.2 c2
      refine lv_aload_n hx hb dX8_goNight_33 rfl (lv_at hl 0 rfl) ?_
      refine x_getr C0 hO 24 20 36 rfl rfl (by decide) rfl iX8_goNight_8 rfl (List.mem_of_getElem? (i := 6) rfl) dX8_goNight_34 ?_
      refine lv_iload_n hx hb dX8_goNight_37 rfl (lv_at hl 2 rfl) ?_
      refine x_iald C0 hO 36 rfl hw.1 dX8_goNight_38 ?_
      replace hw := hw.2
      refine lv_iload_n hx hb dX8_goNight_39 rfl (lv_at hl 1 rfl) ?_
      refine lv_icmp_ne (tgt := 60) hx hb dX8_goNight_40 (by decide) (fun c3 => ?_) (fun c3 => ?_)
      · replace hw := hw.2 c3
        obtain ⟨x4, ex4⟩ : ∃ z : Int32, z = m2 + 1 := ⟨_, rfl⟩
        replace hw := hw x4 ex4
        refine lv_iinc (v := x4) (lv' := [(2, .int x4), (0, .ref (xa g 24)), (1, .int f1)]) hx hb dX8_goNight_60 hl (k := 2) rfl (by rw [ex4]; rfl) (by decide) rfl (fun ls hl => ?_)
        refine lv_goto (tgt := 25) hx hb dX8_goNight_63 (by decide) ?_
        exact ih _ _ _ _ _ hw hO (lv_sub hl [1, 2, 0] rfl)
      · replace hw := hw.1 c3
        refine lv_aload_n hx hb dX8_goNight_43 rfl (lv_at hl 0 rfl) ?_
        refine x_getr C0 hO 24 28 38 rfl rfl (by decide) rfl iX8_goNight_8 rfl (List.mem_of_getElem? (i := 2) rfl) dX8_goNight_44 ?_
        refine lv_aload_n hx hb dX8_goNight_47 rfl (lv_at hl 0 rfl) ?_
        refine x_getr C0 hO 24 27 37 rfl rfl (by decide) rfl iX8_goNight_8 rfl (List.mem_of_getElem? (i := 3) rfl) dX8_goNight_48 ?_
        refine lv_aload_n hx hb dX8_goNight_51 rfl (lv_at hl 0 rfl) ?_
        refine x_getr C0 hO 24 19 35 rfl rfl (by decide) rfl iX8_goNight_8 rfl (List.mem_of_getElem? (i := 7) rfl) dX8_goNight_52 ?_
        refine lv_iload_n hx hb dX8_goNight_55 rfl (lv_at hl 2 rfl) ?_
        refine x_iald C0 hO 35 rfl hw.1 dX8_goNight_56 ?_
        replace hw := hw.2
        refine x_iald C0 hO 37 rfl hw.1 dX8_goNight_57 ?_
        replace hw := hw.2
        refine lv_iconst (v := 0) hx hb dX8_goNight_58 (by decide) ?_
        refine x_iast C0 hO 38 rfl hw.1 dX8_goNight_59 (fun σ5 H locs eσ5 hO => ?_)
        replace hw := hw.2 σ5 eσ5
        obtain ⟨x6, ex6⟩ : ∃ z : Int32, z = m2 + 1 := ⟨_, rfl⟩
        replace hw := hw x6 ex6
        refine lv_iinc (v := x6) (lv' := [(2, .int x6), (0, .ref (xa g 24)), (1, .int f1)]) hx hb dX8_goNight_60 hl (k := 2) rfl (by rw [ex6]; rfl) (by decide) rfl (fun ls hl => ?_)
        refine lv_goto (tgt := 25) hx hb dX8_goNight_63 (by decide) ?_
        exact ih _ _ _ _ _ hw hO (lv_sub hl [1, 2, 0] rfl)
set_option maxHeartbeats 4000000 in
set_option maxRecDepth 100000 in
theorem lX8_goNight_68 {p : Program} {l : Launch} {e : Env} {s : State} {m : MethodId} {args : Array Value} {below : List Frame} {meth : Method} {c : Code} {g : XG} {A : Nat → Prop} (C0 : xC g A wsX8_goNight RX8 cX8_goNight 4 none p s m args meth c) (f1 : Int32) (post : XS → Prop) (kx : Int32 → XS → Prop)
    (hkx : ∀ (m2 : Int32) (σ : XS) (H : Heap) (locs : List Loc) (ls : Array Slot), kx m2 σ → xO g A s σ H locs → lv_has ls 4 [(0, .ref (xa g 24)), (1, .int f1), (2, .int m2)] → W p l e (headSpec wsX8_goNight rmX8_goNight).room s m args below meth c H locs 0 0 (MQ below (va_Qv post (xAt g A) A) args s 0 0 A) (F0 m 108 ls [])) :
    ∀ (n : Nat) (m2 : Int32) (σ : XS) (H : Heap) (locs : List Loc) (ls : Array Slot), LX8_goNight_68 f1 post kx n m2 σ → xO g A s σ H locs → lv_has ls 4 [(0, .ref (xa g 24)), (1, .int f1), (2, .int m2)] → W p l e (headSpec wsX8_goNight rmX8_goNight).room s m args below meth c H locs 0 0 (MQ below (va_Qv post (xAt g A) A) args s 0 0 A) (F0 m 68 ls []) := by
  have hx := C0.1
  have hb := C0.2.1
  have hown := C0.2.2.2.2.2.1
  have hts := C0.2.2.2.2.2.2.1
  intro n
  induction n with
  | zero =>
    intro m2 σ H locs ls hw
    exact hw.elim
  | succ n ih =>
    intro m2 σ H locs ls hw hO hl
    rw [LX8_goNight_68] at hw
    refine lv_iload_n hx hb dX8_goNight_68 rfl (lv_at hl 2 rfl) ?_
    refine lv_aload_n hx hb dX8_goNight_69 rfl (lv_at hl 0 rfl) ?_
    refine x_geti C0 hO 24 14 rfl rfl (by decide) rfl iX8_goNight_8 rfl (List.mem_of_getElem? (i := 8) rfl) dX8_goNight_70 ?_
    refine lv_icmp_ge (tgt := 108) hx hb dX8_goNight_73 (by decide) (fun c9 => ?_) (fun c9 => ?_)
    · replace hw := hw.1 c9
      exact hkx _ _ _ _ _ hw hO (lv_sub hl [0, 1, 2] rfl)
    · replace hw := hw.2 c9
      refine lv_aload_n hx hb dX8_goNight_76 rfl (lv_at hl 0 rfl) ?_
      refine x_getr C0 hO 24 17 34 rfl rfl (by decide) rfl iX8_goNight_8 rfl (List.mem_of_getElem? (i := 9) rfl) dX8_goNight_77 ?_
      refine lv_iload_n hx hb dX8_goNight_80 rfl (lv_at hl 2 rfl) ?_
      refine x_iald C0 hO 34 rfl hw.1 dX8_goNight_81 ?_
      replace hw := hw.2
      refine lv_iload_n hx hb dX8_goNight_82 rfl (lv_at hl 1 rfl) ?_
      refine lv_icmp_ne (tgt := 102) hx hb dX8_goNight_83 (by decide) (fun c10 => ?_) (fun c10 => ?_)
      · replace hw := hw.2 c10
        obtain ⟨x11, ex11⟩ : ∃ z : Int32, z = m2 + 1 := ⟨_, rfl⟩
        replace hw := hw x11 ex11
        refine lv_iinc (v := x11) (lv' := [(2, .int x11), (0, .ref (xa g 24)), (1, .int f1)]) hx hb dX8_goNight_102 hl (k := 2) rfl (by rw [ex11]; rfl) (by decide) rfl (fun ls hl => ?_)
        refine lv_goto (tgt := 68) hx hb dX8_goNight_105 (by decide) ?_
        exact ih _ _ _ _ _ hw hO (lv_sub hl [1, 2, 0] rfl)
      · replace hw := hw.1 c10
        refine lv_aload_n hx hb dX8_goNight_86 rfl (lv_at hl 0 rfl) ?_
        refine lv_aload_n hx hb dX8_goNight_87 rfl (lv_at hl 0 rfl) ?_
        refine x_getr C0 hO 24 15 32 rfl rfl (by decide) rfl iX8_goNight_8 rfl (List.mem_of_getElem? (i := 10) rfl) dX8_goNight_88 ?_
        refine lv_iload_n hx hb dX8_goNight_91 rfl (lv_at hl 2 rfl) ?_
        refine x_iald C0 hO 32 rfl hw.1 dX8_goNight_92 ?_
        replace hw := hw.2
        refine lv_aload_n hx hb dX8_goNight_93 rfl (lv_at hl 0 rfl) ?_
        refine x_getr C0 hO 24 16 33 rfl rfl (by decide) rfl iX8_goNight_8 rfl (List.mem_of_getElem? (i := 11) rfl) dX8_goNight_94 ?_
        refine lv_iload_n hx hb dX8_goNight_97 rfl (lv_at hl 2 rfl) ?_
        refine x_iald C0 hO 33 rfl hw.1 dX8_goNight_98 ?_
        replace hw := hw.2
        refine x_callv C0 hO (x_runV (As := [.int (gI σ 32 m2.toNatClampNeg), .int (gI σ 33 m2.toNatClampNeg)]) (rest := []) C0 hO (kX8_changeChairs l g _ (gI σ 32 m2.toNatClampNeg) (gI σ 33 m2.toNatClampNeg) σ _ hw) 2 rfl (xRecv C0 hO (j := 24) rfl rfl) gX8_goNight_X8_changeChairs rfl rfl rfl hdX8_changeChairs ⟨Nat.le_of_ble_eq_true rfl, Nat.le_of_ble_eq_true rfl⟩ hl.1 rfl (Nat.le_of_ble_eq_true rfl) dX8_goNight_99 ⟨Nat.le_of_ble_eq_true rfl, Nat.le_of_ble_eq_true rfl⟩) (fun σ12 H locs hw hO => ?_)
        obtain ⟨x13, ex13⟩ : ∃ z : Int32, z = m2 + 1 := ⟨_, rfl⟩
        replace hw := hw x13 ex13
        refine lv_iinc (v := x13) (lv' := [(2, .int x13), (0, .ref (xa g 24)), (1, .int f1)]) hx hb dX8_goNight_102 hl (k := 2) rfl (by rw [ex13]; rfl) (by decide) rfl (fun ls hl => ?_)
        refine lv_goto (tgt := 68) hx hb dX8_goNight_105 (by decide) ?_
        exact ih _ _ _ _ _ hw hO (lv_sub hl [1, 2, 0] rfl)
set_option maxHeartbeats 4000000 in
set_option maxRecDepth 100000 in
theorem lX8_goNight_130 {p : Program} {l : Launch} {e : Env} {s : State} {m : MethodId} {args : Array Value} {below : List Frame} {meth : Method} {c : Code} {g : XG} {A : Nat → Prop} (C0 : xC g A wsX8_goNight RX8 cX8_goNight 4 none p s m args meth c) (f1 : Int32) (post : XS → Prop) (kx : Int32 → XS → Prop)
    (hkx : ∀ (m2 : Int32) (σ : XS) (H : Heap) (locs : List Loc) (ls : Array Slot), kx m2 σ → xO g A s σ H locs → lv_has ls 4 [(0, .ref (xa g 24)), (1, .int f1), (2, .int m2)] → W p l e (headSpec wsX8_goNight rmX8_goNight).room s m args below meth c H locs 0 0 (MQ below (va_Qv post (xAt g A) A) args s 0 0 A) (F0 m 201 ls [])) :
    ∀ (n : Nat) (m2 : Int32) (σ : XS) (H : Heap) (locs : List Loc) (ls : Array Slot), LX8_goNight_130 f1 post kx n m2 σ → xO g A s σ H locs → lv_has ls 4 [(0, .ref (xa g 24)), (1, .int f1), (2, .int m2)] → W p l e (headSpec wsX8_goNight rmX8_goNight).room s m args below meth c H locs 0 0 (MQ below (va_Qv post (xAt g A) A) args s 0 0 A) (F0 m 130 ls []) := by
  have hx := C0.1
  have hb := C0.2.1
  have hown := C0.2.2.2.2.2.1
  have hts := C0.2.2.2.2.2.2.1
  intro n
  induction n with
  | zero =>
    intro m2 σ H locs ls hw
    exact hw.elim
  | succ n ih =>
    intro m2 σ H locs ls hw hO hl
    rw [LX8_goNight_130] at hw
    refine lv_iload_n hx hb dX8_goNight_130 rfl (lv_at hl 2 rfl) ?_
    refine lv_aload_n hx hb dX8_goNight_131 rfl (lv_at hl 0 rfl) ?_
    refine x_geti C0 hO 24 10 rfl rfl (by decide) rfl iX8_goNight_8 rfl (List.mem_of_getElem? (i := 15) rfl) dX8_goNight_132 ?_
    refine lv_icmp_ge (tgt := 201) hx hb dX8_goNight_135 (by decide) (fun c17 => ?_) (fun c17 => ?_)
    · replace hw := hw.1 c17
      exact hkx _ _ _ _ _ hw hO (lv_sub hl [0, 1, 2] rfl)
    · replace hw := hw.2 c17
      refine lv_aload_n hx hb dX8_goNight_138 rfl (lv_at hl 0 rfl) ?_
      refine x_getr C0 hO 24 13 31 rfl rfl (by decide) rfl iX8_goNight_8 rfl (List.mem_of_getElem? (i := 16) rfl) dX8_goNight_139 ?_
      refine lv_iload_n hx hb dX8_goNight_142 rfl (lv_at hl 2 rfl) ?_
      refine x_iald C0 hO 31 rfl hw.1 dX8_goNight_143 ?_
      replace hw := hw.2
      refine lv_iload_n hx hb dX8_goNight_144 rfl (lv_at hl 1 rfl) ?_
      refine lv_icmp_ne (tgt := 195) hx hb dX8_goNight_145 (by decide) (fun c18 => ?_) (fun c18 => ?_)
      · replace hw := hw.2 c18
        obtain ⟨x19, ex19⟩ : ∃ z : Int32, z = m2 + 1 := ⟨_, rfl⟩
        replace hw := hw x19 ex19
        refine lv_iinc (v := x19) (lv' := [(2, .int x19), (0, .ref (xa g 24)), (1, .int f1)]) hx hb dX8_goNight_195 hl (k := 2) rfl (by rw [ex19]; rfl) (by decide) rfl (fun ls hl => ?_)
        refine lv_goto (tgt := 130) hx hb dX8_goNight_198 (by decide) ?_
        exact ih _ _ _ _ _ hw hO (lv_sub hl [1, 2, 0] rfl)
      · replace hw := hw.1 c18
        refine lv_iload_n hx hb dX8_goNight_148 rfl (lv_at hl 2 rfl) ?_
        refine lv_aload_n hx hb dX8_goNight_149 rfl (lv_at hl 0 rfl) ?_
        refine x_geti C0 hO 24 21 rfl rfl (by decide) rfl iX8_goNight_8 rfl (List.mem_of_getElem? (i := 17) rfl) dX8_goNight_150 ?_
        refine lv_icmp_eq (tgt := 195) hx hb dX8_goNight_153 (by decide) (fun c20 => ?_) (fun c20 => ?_)
        · replace hw := hw.1 c20
          obtain ⟨x21, ex21⟩ : ∃ z : Int32, z = m2 + 1 := ⟨_, rfl⟩
          replace hw := hw x21 ex21
          refine lv_iinc (v := x21) (lv' := [(2, .int x21), (0, .ref (xa g 24)), (1, .int f1)]) hx hb dX8_goNight_195 hl (k := 2) rfl (by rw [ex21]; rfl) (by decide) rfl (fun ls hl => ?_)
          refine lv_goto (tgt := 130) hx hb dX8_goNight_198 (by decide) ?_
          exact ih _ _ _ _ _ hw hO (lv_sub hl [1, 2, 0] rfl)
        · replace hw := hw.2 c20
          refine lv_aload_n hx hb dX8_goNight_156 rfl (lv_at hl 0 rfl) ?_
          refine x_getr C0 hO 24 27 37 rfl rfl (by decide) rfl iX8_goNight_8 rfl (List.mem_of_getElem? (i := 3) rfl) dX8_goNight_157 ?_
          refine lv_aload_n hx hb dX8_goNight_160 rfl (lv_at hl 0 rfl) ?_
          refine x_getr C0 hO 24 12 30 rfl rfl (by decide) rfl iX8_goNight_8 rfl (List.mem_of_getElem? (i := 18) rfl) dX8_goNight_161 ?_
          refine lv_iload_n hx hb dX8_goNight_164 rfl (lv_at hl 2 rfl) ?_
          refine x_iald C0 hO 30 rfl hw.1 dX8_goNight_165 ?_
          replace hw := hw.2
          refine x_iald C0 hO 37 rfl hw.1 dX8_goNight_166 ?_
          replace hw := hw.2
          refine lv_topi (fun x22 ex22 => ?_)
          replace hw := hw x22 ex22
          refine lv_istore_n (lv' := [(3, .int x22), (0, .ref (xa g 24)), (1, .int f1), (2, .int m2)]) hx hb dX8_goNight_167 rfl hl (by decide) rfl (fun ls hl => ?_)
          refine lv_aload_n hx hb dX8_goNight_168 rfl (lv_at hl 1 rfl) ?_
          refine x_getr C0 hO 24 29 39 rfl rfl (by decide) rfl iX8_goNight_8 rfl (List.mem_of_getElem? (i := 19) rfl) dX8_goNight_169 ?_
          refine lv_bipush (v := 25) hx hb dX8_goNight_172 (by decide) ?_
          refine lv_iload_n hx hb dX8_goNight_174 rfl (lv_at hl 0 rfl) ?_
          refine lv_imul hx hb dX8_goNight_175 ?_
          refine lv_aload_n hx hb dX8_goNight_176 rfl (lv_at hl 1 rfl) ?_
          refine x_getr C0 hO 24 28 38 rfl rfl (by decide) rfl iX8_goNight_8 rfl (List.mem_of_getElem? (i := 2) rfl) dX8_goNight_177 ?_
          refine lv_iload_n hx hb dX8_goNight_180 rfl (lv_at hl 0 rfl) ?_
          refine x_iald C0 hO 38 rfl hw.1 dX8_goNight_181 ?_
          replace hw := hw.2
          refine lv_iadd hx hb dX8_goNight_182 ?_
          refine lv_iload_n hx hb dX8_goNight_183 rfl (lv_at hl 3 rfl) ?_
          refine x_iast C0 hO 39 rfl hw.1 dX8_goNight_184 (fun σ23 H locs eσ23 hO => ?_)
          replace hw := hw.2 σ23 eσ23
          refine lv_aload_n hx hb dX8_goNight_185 rfl (lv_at hl 1 rfl) ?_
          refine x_getr C0 hO 24 28 38 rfl rfl (by decide) rfl iX8_goNight_8 rfl (List.mem_of_getElem? (i := 2) rfl) dX8_goNight_186 ?_
          refine lv_iload_n hx hb dX8_goNight_189 rfl (lv_at hl 0 rfl) ?_
          refine lv_dup2_11 hx hb dX8_goNight_190 rfl rfl ?_
          refine x_iald C0 hO 38 rfl hw.1 dX8_goNight_191 ?_
          replace hw := hw.2
          refine lv_iconst (v := 1) hx hb dX8_goNight_192 (by decide) ?_
          refine lv_iadd hx hb dX8_goNight_193 ?_
          refine x_iast C0 hO 38 rfl hw.1 dX8_goNight_194 (fun σ24 H locs eσ24 hO => ?_)
          replace hw := hw.2 σ24 eσ24
          obtain ⟨x25, ex25⟩ : ∃ z : Int32, z = m2 + 1 := ⟨_, rfl⟩
          replace hw := hw x25 ex25
          refine lv_iinc (v := x25) (lv' := [(2, .int x25), (3, .int x22), (0, .ref (xa g 24)), (1, .int f1)]) hx hb dX8_goNight_195 hl (k := 3) rfl (by rw [ex25]; rfl) (by decide) rfl (fun ls hl => ?_)
          refine lv_goto (tgt := 130) hx hb dX8_goNight_198 (by decide) ?_
          exact ih _ _ _ _ _ hw hO (lv_sub hl [2, 3, 0] rfl)
set_option maxHeartbeats 4000000 in
set_option maxRecDepth 100000 in
theorem kX8_goNight (l : Launch) (g : XG) (sz : Nat) (a1 : Int32) (σ : XS) (post : XS → Prop) (hw : PX8_goNight a1 σ post) : xMv l yX8_goNight wsX8_goNight rmX8_goNight 0 0 g sz [.ref (xa g 24), .int a1] σ post := by
  unfold PX8_goNight at hw
  refine x_head (Qc := fun A => va_Qv post (xAt g A) A) (cc := cX8_goNight) (maxL := 4) (ret := none) (by decide) rfl ?_
  intro p e s m below meth c A C0 hnm hO
  refine x_entry (Nat.le_of_ble_eq_true rfl) (fun ls hl => ?_)
  have hl : lv_has ls 4 [(0, .ref (xa g 24)), (1, .int a1)] := hl
  have hx := C0.1
  have hb := C0.2.1
  have hown := C0.2.2.2.2.2.1
  have hts := C0.2.2.2.2.2.2.1
  refine lv_aload_n hx hb dX8_goNight_0 rfl (lv_at hl 0 rfl) ?_
  refine x_geti C0 hO 24 25 rfl rfl (by decide) rfl iX8_goNight_8 rfl (List.mem_of_getElem? (i := 1) rfl) dX8_goNight_1 ?_
  refine lv_iload_n hx hb dX8_goNight_4 rfl (lv_at hl 1 rfl) ?_
  refine lv_icmp_ne (tgt := 23) hx hb dX8_goNight_5 (by decide) (fun c1 => ?_) (fun c1 => ?_)
  · replace hw := hw.2 c1
    refine lv_iconst (v := 0) hx hb dX8_goNight_23 (by decide) ?_
    refine lv_istore_n (lv' := [(2, .int (0 : Int32)), (0, .ref (xa g 24)), (1, .int a1)]) hx hb dX8_goNight_24 rfl hl (by decide) rfl (fun ls hl => ?_)
    refine lX8_goNight_25 C0 a1 post _ (fun x7 σ8 H locs ls hw hO hl => ?_) 1000 _ _ _ _ _ hw hO (lv_sub hl [1, 2, 0] rfl)
    refine lv_iconst (v := 0) hx hb dX8_goNight_66 (by decide) ?_
    refine lv_istore_n (lv' := [(2, .int (0 : Int32)), (0, .ref (xa g 24)), (1, .int a1)]) hx hb dX8_goNight_67 rfl hl (by decide) rfl (fun ls hl => ?_)
    refine lX8_goNight_68 C0 a1 post _ (fun x14 σ15 H locs ls hw hO hl => ?_) 1000 _ _ _ _ _ hw hO (lv_sub hl [1, 2, 0] rfl)
    refine lv_aload_n hx hb dX8_goNight_108 rfl (lv_at hl 0 rfl) ?_
    refine x_geti C0 hO 24 22 rfl rfl (by decide) rfl iX8_goNight_8 rfl (List.mem_of_getElem? (i := 12) rfl) dX8_goNight_109 ?_
    refine lv_iload_n hx hb dX8_goNight_112 rfl (lv_at hl 1 rfl) ?_
    refine lv_icmp_ne (tgt := 128) hx hb dX8_goNight_113 (by decide) (fun c16 => ?_) (fun c16 => ?_)
    · replace hw := hw.2 c16
      refine lv_iconst (v := 0) hx hb dX8_goNight_128 (by decide) ?_
      refine lv_istore_n (lv' := [(2, .int (0 : Int32)), (0, .ref (xa g 24)), (1, .int a1)]) hx hb dX8_goNight_129 rfl hl (by decide) rfl (fun ls hl => ?_)
      refine lX8_goNight_130 C0 a1 post _ (fun x26 σ27 H locs ls hw hO hl => ?_) 1000 _ _ _ _ _ hw hO (lv_sub hl [1, 2, 0] rfl)
      exact x_vret C0 hO hw dX8_goNight_201
    · replace hw := hw.1 c16
      refine lv_aload_n hx hb dX8_goNight_116 rfl (lv_at hl 0 rfl) ?_
      refine lv_aload_n hx hb dX8_goNight_117 rfl (lv_at hl 0 rfl) ?_
      refine x_geti C0 hO 24 23 rfl rfl (by decide) rfl iX8_goNight_8 rfl (List.mem_of_getElem? (i := 13) rfl) dX8_goNight_118 ?_
      refine lv_aload_n hx hb dX8_goNight_121 rfl (lv_at hl 0 rfl) ?_
      refine x_geti C0 hO 24 24 rfl rfl (by decide) rfl iX8_goNight_8 rfl (List.mem_of_getElem? (i := 14) rfl) dX8_goNight_122 ?_
      refine x_callv C0 hO (x_runV (As := [.int (gI σ15 24 23), .int (gI σ15 24 24)]) (rest := []) C0 hO (kX8_changeChairs l g _ (gI σ15 24 23) (gI σ15 24 24) σ15 _ hw) 2 rfl (xRecv C0 hO (j := 24) rfl rfl) gX8_goNight_X8_changeChairs rfl rfl rfl hdX8_changeChairs ⟨Nat.le_of_ble_eq_true rfl, Nat.le_of_ble_eq_true rfl⟩ hl.1 rfl (Nat.le_of_ble_eq_true rfl) dX8_goNight_125 ⟨Nat.le_of_ble_eq_true rfl, Nat.le_of_ble_eq_true rfl⟩) (fun σ28 H locs hw hO => ?_)
      refine lv_iconst (v := 0) hx hb dX8_goNight_128 (by decide) ?_
      refine lv_istore_n (lv' := [(2, .int (0 : Int32)), (0, .ref (xa g 24)), (1, .int a1)]) hx hb dX8_goNight_129 rfl hl (by decide) rfl (fun ls hl => ?_)
      refine lX8_goNight_130 C0 a1 post _ (fun x29 σ30 H locs ls hw hO hl => ?_) 1000 _ _ _ _ _ hw hO (lv_sub hl [1, 2, 0] rfl)
      exact x_vret C0 hO hw dX8_goNight_201
  · replace hw := hw.1 c1
    refine lv_aload_n hx hb dX8_goNight_8 rfl (lv_at hl 0 rfl) ?_
    refine x_getr C0 hO 24 28 38 rfl rfl (by decide) rfl iX8_goNight_8 rfl (List.mem_of_getElem? (i := 2) rfl) dX8_goNight_9 ?_
    refine lv_aload_n hx hb dX8_goNight_12 rfl (lv_at hl 0 rfl) ?_
    refine x_getr C0 hO 24 27 37 rfl rfl (by decide) rfl iX8_goNight_8 rfl (List.mem_of_getElem? (i := 3) rfl) dX8_goNight_13 ?_
    refine lv_aload_n hx hb dX8_goNight_16 rfl (lv_at hl 0 rfl) ?_
    refine x_geti C0 hO 24 26 rfl rfl (by decide) rfl iX8_goNight_8 rfl (List.mem_of_getElem? (i := 4) rfl) dX8_goNight_17 ?_
    refine x_iald C0 hO 37 rfl hw.1 dX8_goNight_20 ?_
    replace hw := hw.2
    refine lv_iconst (v := 0) hx hb dX8_goNight_21 (by decide) ?_
    refine x_iast C0 hO 38 rfl hw.1 dX8_goNight_22 (fun σ31 H locs eσ31 hO => ?_)
    replace hw := hw.2 σ31 eσ31
    refine lv_iconst (v := 0) hx hb dX8_goNight_23 (by decide) ?_
    refine lv_istore_n (lv' := [(2, .int (0 : Int32)), (0, .ref (xa g 24)), (1, .int a1)]) hx hb dX8_goNight_24 rfl hl (by decide) rfl (fun ls hl => ?_)
    refine lX8_goNight_25 C0 a1 post _ (fun x32 σ33 H locs ls hw hO hl => ?_) 1000 _ _ _ _ _ hw hO (lv_sub hl [1, 2, 0] rfl)
    refine lv_iconst (v := 0) hx hb dX8_goNight_66 (by decide) ?_
    refine lv_istore_n (lv' := [(2, .int (0 : Int32)), (0, .ref (xa g 24)), (1, .int a1)]) hx hb dX8_goNight_67 rfl hl (by decide) rfl (fun ls hl => ?_)
    refine lX8_goNight_68 C0 a1 post _ (fun x34 σ35 H locs ls hw hO hl => ?_) 1000 _ _ _ _ _ hw hO (lv_sub hl [1, 2, 0] rfl)
    refine lv_aload_n hx hb dX8_goNight_108 rfl (lv_at hl 0 rfl) ?_
    refine x_geti C0 hO 24 22 rfl rfl (by decide) rfl iX8_goNight_8 rfl (List.mem_of_getElem? (i := 12) rfl) dX8_goNight_109 ?_
    refine lv_iload_n hx hb dX8_goNight_112 rfl (lv_at hl 1 rfl) ?_
    refine lv_icmp_ne (tgt := 128) hx hb dX8_goNight_113 (by decide) (fun c36 => ?_) (fun c36 => ?_)
    · replace hw := hw.2 c36
      refine lv_iconst (v := 0) hx hb dX8_goNight_128 (by decide) ?_
      refine lv_istore_n (lv' := [(2, .int (0 : Int32)), (0, .ref (xa g 24)), (1, .int a1)]) hx hb dX8_goNight_129 rfl hl (by decide) rfl (fun ls hl => ?_)
      refine lX8_goNight_130 C0 a1 post _ (fun x37 σ38 H locs ls hw hO hl => ?_) 1000 _ _ _ _ _ hw hO (lv_sub hl [1, 2, 0] rfl)
      exact x_vret C0 hO hw dX8_goNight_201
    · replace hw := hw.1 c36
      refine lv_aload_n hx hb dX8_goNight_116 rfl (lv_at hl 0 rfl) ?_
      refine lv_aload_n hx hb dX8_goNight_117 rfl (lv_at hl 0 rfl) ?_
      refine x_geti C0 hO 24 23 rfl rfl (by decide) rfl iX8_goNight_8 rfl (List.mem_of_getElem? (i := 13) rfl) dX8_goNight_118 ?_
      refine lv_aload_n hx hb dX8_goNight_121 rfl (lv_at hl 0 rfl) ?_
      refine x_geti C0 hO 24 24 rfl rfl (by decide) rfl iX8_goNight_8 rfl (List.mem_of_getElem? (i := 14) rfl) dX8_goNight_122 ?_
      refine x_callv C0 hO (x_runV (As := [.int (gI σ35 24 23), .int (gI σ35 24 24)]) (rest := []) C0 hO (kX8_changeChairs l g _ (gI σ35 24 23) (gI σ35 24 24) σ35 _ hw) 2 rfl (xRecv C0 hO (j := 24) rfl rfl) gX8_goNight_X8_changeChairs rfl rfl rfl hdX8_changeChairs ⟨Nat.le_of_ble_eq_true rfl, Nat.le_of_ble_eq_true rfl⟩ hl.1 rfl (Nat.le_of_ble_eq_true rfl) dX8_goNight_125 ⟨Nat.le_of_ble_eq_true rfl, Nat.le_of_ble_eq_true rfl⟩) (fun σ39 H locs hw hO => ?_)
      refine lv_iconst (v := 0) hx hb dX8_goNight_128 (by decide) ?_
      refine lv_istore_n (lv' := [(2, .int (0 : Int32)), (0, .ref (xa g 24)), (1, .int a1)]) hx hb dX8_goNight_129 rfl hl (by decide) rfl (fun ls hl => ?_)
      refine lX8_goNight_130 C0 a1 post _ (fun x40 σ41 H locs ls hw hO hl => ?_) 1000 _ _ _ _ _ hw hO (lv_sub hl [1, 2, 0] rfl)
      exact x_vret C0 hO hw dX8_goNight_201
