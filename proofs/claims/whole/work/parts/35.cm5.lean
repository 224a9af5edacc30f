/-! generated: contracts -/
theorem iX8_put_8 : ∀ w ∈ wsX80, w ∈ wsX8_put := fun w h => List.mem_cons_of_mem _ (List.mem_append_right _ h)
theorem hdX8_put : yX8_put.cls = RX8 ∧ yX8_put.cls ≠ "java/lang/invoke/MethodHandle" ∧ yX8_put.cls ≠ "java/lang/invoke/VarHandle" ∧ (parseMethodDescriptor yX8_put.desc).map (fun d => d.parameters.length) = some 3 := by decide +kernel
set_option maxHeartbeats 4000000 in
set_option maxRecDepth 100000 in
theorem kX8_put (l : Launch) (g : XG) (sz : Nat) (a1 : Int32) (a2 : Int32) (a3 : Int32) (σ : XS) (post : Int32 → XS → Prop) (hw : PX8_put a1 a2 a3 σ post) : xMi l yX8_put wsX8_put rmX8_put 0 0 g sz [.ref (xa g 24), .int a1, .int a2, .int a3] σ post := by
  unfold PX8_put at hw
  refine x_head (Qc := fun A => va_Qi post (xAt g A) A) (cc := cX8_put) (maxL := 4) (ret := (some .int)) (by decide) rfl ?_
  intro p e s m below meth c A C0 hnm hO
  refine x_entry (Nat.le_of_ble_eq_true rfl) (fun ls hl => ?_)
  have hl : lv_has ls 4 [(0, .ref (xa g 24)), (1, .int a1), (2, .int a2), (3, .int a3)] := hl
  have hx := C0.1
  have hb := C0.2.1
  have hown := C0.2.2.2.2.2.1
  have hts := C0.2.2.2.2.2.2.1
  refine lv_iload_n hx hb dX8_put_0 rfl (lv_at hl 1 rfl) ?_
  refine x_calli C0 hO (x_runS (As := [.int a1]) (rest := []) C0 hO (kX8_noSheet l g _ a1 σ _ hw) 1 rfl gX8_put_X8_noSheet rfl rfl rfl hdX8_noSheet.2 ⟨Nat.le_of_ble_eq_true rfl, Nat.le_of_ble_eq_true rfl⟩ hl.1 rfl (Nat.le_of_ble_eq_true rfl) dX8_put_1 ⟨Nat.le_of_ble_eq_true rfl, Nat.le_of_ble_eq_true rfl⟩) (fun r1 σ' H locs hw hO => ?_)
  obtain ⟨hσ, hw⟩ := hw
  subst hσ
  refine lv_if_eq (tgt := 13) hx hb dX8_put_4 (by decide) (fun c2 => ?_) (fun c2 => ?_)
  · replace hw := hw.1 c2
    refine lv_aload_n hx hb dX8_put_13 rfl (lv_at hl 0 rfl) ?_
    refine lv_iload_n hx hb dX8_put_14 rfl (lv_at hl 1 rfl) ?_
    refine lv_iload_n hx hb dX8_put_15 rfl (lv_at hl 2 rfl) ?_
    refine x_calli C0 hO (x_runV (As := [.int a1, .int a2]) (rest := []) C0 hO (kX8_noCell l g _ a1 a2 σ _ hw) 2 rfl (xRecv C0 hO (j := 24) rfl rfl) gX8_put_X8_noCell rfl rfl rfl hdX8_noCell ⟨Nat.le_of_ble_eq_true rfl, Nat.le_of_ble_eq_true rfl⟩ hl.1 rfl (Nat.le_of_ble_eq_true rfl) dX8_put_16 ⟨Nat.le_of_ble_eq_true rfl, Nat.le_of_ble_eq_true rfl⟩) (fun r3 σ' H locs hw hO => ?_)
    obtain ⟨hσ, hw⟩ := hw
    subst hσ
    refine lv_if_le (tgt := 33) hx hb dX8_put_19 (by decide) (fun c4 => ?_) (fun c4 => ?_)
    · replace hw := hw.1 c4
      refine lv_aload_n hx hb dX8_put_33 rfl (lv_at hl 0 rfl) ?_
      refine x_getr C0 hO 24 39 48 rfl rfl (by decide) rfl iX8_put_8 rfl (List.mem_of_getElem? (i := 1) rfl) dX8_put_34 ?_
      refine lv_bipush (v := 60) hx hb dX8_put_37 (by decide) ?_
      refine lv_iload_n hx hb dX8_put_39 rfl (lv_at hl 1 rfl) ?_
      refine lv_imul hx hb dX8_put_40 ?_
      refine lv_iload_n hx hb dX8_put_41 rfl (lv_at hl 2 rfl) ?_
      refine lv_iadd hx hb dX8_put_42 ?_
      refine lv_aload_n hx hb dX8_put_43 rfl (lv_at hl 0 rfl) ?_
      refine x_getr C0 hO 24 38 47 rfl rfl (by decide) rfl iX8_put_8 rfl (List.mem_of_getElem? (i := 2) rfl) dX8_put_44 ?_
      refine lv_iload_n hx hb dX8_put_47 rfl (lv_at hl 1 rfl) ?_
      refine x_iald C0 hO 47 rfl hw.1 dX8_put_48 ?_
      replace hw := hw.2
      refine lv_if_ne (tgt := 57) hx hb dX8_put_49 (by decide) (fun c5 => ?_) (fun c5 => ?_)
      · replace hw := hw.2 c5
        refine lv_aload_n hx hb dX8_put_57 rfl (lv_at hl 0 rfl) ?_
        refine x_getr C0 hO 24 38 47 rfl rfl (by decide) rfl iX8_put_8 rfl (List.mem_of_getElem? (i := 2) rfl) dX8_put_58 ?_
        refine lv_iload_n hx hb dX8_put_61 rfl (lv_at hl 1 rfl) ?_
        refine x_iald C0 hO 47 rfl hw.1 dX8_put_62 ?_
        replace hw := hw.2
        refine lv_iconst (v := 1) hx hb dX8_put_63 (by decide) ?_
        refine lv_icmp_ne (tgt := 72) hx hb dX8_put_64 (by decide) (fun c6 => ?_) (fun c6 => ?_)
        · replace hw := hw.2 c6
          refine lv_iload_n hx hb dX8_put_72 rfl (lv_at hl 3 rfl) ?_
          refine x_iast C0 hO 48 rfl hw.1 dX8_put_73 (fun σ7 H locs eσ7 hO => ?_)
          replace hw := hw.2 σ7 eσ7
          refine lv_aload_n hx hb dX8_put_74 rfl (lv_at hl 0 rfl) ?_
          refine lv_iconst (v := 1) hx hb dX8_put_75 (by decide) ?_
          refine x_calli C0 hO (x_runV (As := [.int (1 : Int32)]) (rest := []) C0 hO (kX8_refused l g _ (1 : Int32) σ7 _ hw) 1 rfl (xRecv C0 hO (j := 24) rfl rfl) gX8_put_X8_refused rfl rfl rfl hdX8_refused ⟨Nat.le_of_ble_eq_true rfl, Nat.le_of_ble_eq_true rfl⟩ hl.1 rfl (Nat.le_of_ble_eq_true rfl) dX8_put_76 ⟨Nat.le_of_ble_eq_true rfl, Nat.le_of_ble_eq_true rfl⟩) (fun r8 σ9 H locs hw hO => ?_)
          exact x_iret C0 hO hw dX8_put_79
        · replace hw := hw.1 c6
          refine lv_iload_n hx hb dX8_put_67 rfl (lv_at hl 3 rfl) ?_
          refine lv_i2s hx hb dX8_put_68 rfl ?_
          refine lv_goto (tgt := 73) hx hb dX8_put_69 (by decide) ?_
          refine x_iast C0 hO 48 rfl hw.1 dX8_put_73 (fun σ10 H locs eσ10 hO => ?_)
          replace hw := hw.2 σ10 eσ10
          refine lv_aload_n hx hb dX8_put_74 rfl (lv_at hl 0 rfl) ?_
          refine lv_iconst (v := 1) hx hb dX8_put_75 (by decide) ?_
          refine x_calli C0 hO (x_runV (As := [.int (1 : Int32)]) (rest := []) C0 hO (kX8_refused l g _ (1 : Int32) σ10 _ hw) 1 rfl (xRecv C0 hO (j := 24) rfl rfl) gX8_put_X8_refused rfl rfl rfl hdX8_refused ⟨Nat.le_of_ble_eq_true rfl, Nat.le_of_ble_eq_true rfl⟩ hl.1 rfl (Nat.le_of_ble_eq_true rfl) dX8_put_76 ⟨Nat.le_of_ble_eq_true rfl, Nat.le_of_ble_eq_true rfl⟩) (fun r11 σ12 H locs hw hO => ?_)
          exact x_iret C0 hO hw dX8_put_79
      · replace hw := hw.1 c5
        refine lv_iload_n hx hb dX8_put_52 rfl (lv_at hl 3 rfl) ?_
        refine lv_i2b hx hb dX8_put_53 rfl ?_
        refine lv_goto (tgt := 73) hx hb dX8_put_54 (by decide) ?_
        refine x_iast C0 hO 48 rfl hw.1 dX8_put_73 (fun σ13 H locs eσ13 hO => ?_)
        replace hw := hw.2 σ13 eσ13
        refine lv_aload_n hx hb dX8_put_74 rfl (lv_at hl 0 rfl) ?_
        refine lv_iconst (v := 1) hx hb dX8_put_75 (by decide) ?_
        refine x_calli C0 hO (x_runV (As := [.int (1 : Int32)]) (rest := []) C0 hO (kX8_refused l g _ (1 : Int32) σ13 _ hw) 1 rfl (xRecv C0 hO (j := 24) rfl rfl) gX8_put_X8_refused rfl rfl rfl hdX8_refused ⟨Nat.le_of_ble_eq_true rfl, Nat.le_of_ble_eq_true rfl⟩ hl.1 rfl (Nat.le_of_ble_eq_true rfl) dX8_put_76 ⟨Nat.le_of_ble_eq_true rfl, Nat.le_of_ble_eq_true rfl⟩) (fun r14 σ15 H locs hw hO => ?_)
        exact x_iret C0 hO hw dX8_put_79
    · replace hw := hw.2 c4
      refine lv_aload_n hx hb dX8_put_22 rfl (lv_at hl 0 rfl) ?_
      refine lv_aload_n hx hb dX8_put_23 rfl (lv_at hl 0 rfl) ?_
      refine lv_iload_n hx hb dX8_put_24 rfl (lv_at hl 1 rfl) ?_
      refine lv_iload_n hx hb dX8_put_25 rfl (lv_at hl 2 rfl) ?_
      refine x_calli C0 hO (x_runV (As := [.int a1, .int a2]) (rest := [.ref (xa g 24)]) C0 hO (kX8_noCell l g _ a1 a2 σ _ hw) 2 rfl (xRecv C0 hO (j := 24) rfl rfl) gX8_put_X8_noCell rfl rfl rfl hdX8_noCell ⟨Nat.le_of_ble_eq_true rfl, Nat.le_of_ble_eq_true rfl⟩ hl.1 rfl (Nat.le_of_ble_eq_true rfl) dX8_put_26 ⟨Nat.le_of_ble_eq_true rfl, Nat.le_of_ble_eq_true rfl⟩) (fun r16 σ' H locs hw hO => ?_)
      obtain ⟨hσ, hw⟩ := hw
      subst hσ
      refine x_calli C0 hO (x_runV (As := [.int r16]) (rest := []) C0 hO (kX8_failed l g _ r16 σ _ hw) 1 rfl (xRecv C0 hO (j := 24) rfl rfl) gX8_put_X8_failed rfl rfl rfl hdX8_failed ⟨Nat.le_of_ble_eq_true rfl, Nat.le_of_ble_eq_true rfl⟩ hl.1 rfl (Nat.le_of_ble_eq_true rfl) dX8_put_29 ⟨Nat.le_of_ble_eq_true rfl, Nat.le_of_ble_eq_true rfl⟩) (fun r17 σ18 H locs hw hO => ?_)
      exact x_iret C0 hO hw dX8_put_32
  · replace hw := hw.2 c2
    refine lv_aload_n hx hb dX8_put_7 rfl (lv_at hl 0 rfl) ?_
    refine lv_iconst (v := -1) hx hb dX8_put_8 (by decide) ?_
    refine x_calli C0 hO (x_runV (As := [.int (-1 : Int32)]) (rest := []) C0 hO (kX8_refused l g _ (-1 : Int32) σ _ hw) 1 rfl (xRecv C0 hO (j := 24) rfl rfl) gX8_put_X8_refused rfl rfl rfl hdX8_refused ⟨Nat.le_of_ble_eq_true rfl, Nat.le_of_ble_eq_true rfl⟩ hl.1 rfl (Nat.le_of_ble_eq_true rfl) dX8_put_9 ⟨Nat.le_of_ble_eq_true rfl, Nat.le_of_ble_eq_true rfl⟩) (fun r19 σ20 H locs hw hO => ?_)
    exact x_iret C0 hO hw dX8_put_12
theorem iX8_cell_8 : ∀ w ∈ wsX80, w ∈ wsX8_cell := fun w h => List.mem_cons_of_mem _ (List.mem_append_right _ h)
theorem hdX8_cell : yX8_cell.cls = RX8 ∧ yX8_cell.cls ≠ "java/lang/invoke/MethodHandle" ∧ yX8_cell.cls ≠ "java/lang/invoke/VarHandle" ∧ (parseMethodDescriptor yX8_cell.desc).map (fun d => d.parameters.length) = some 3 := by decide +kernel
set_option maxHeartbeats 4000000 in
set_option maxRecDepth 100000 in
theorem kX8_cell (l : Launch) (g : XG) (sz : Nat) (a1 : Int32) (a2 : Int32) (a3 : Int32) (σ : XS) (post : Int64 → XS → Prop) (hw : PX8_cell a1 a2 a3 σ post) : xMl l yX8_cell wsX8_cell rmX8_cell 0 0 g sz [.ref (xa g 24), .int a1, .int a2, .int a3] σ post := by
  unfold PX8_cell at hw
  refine x_head (Qc := fun A => va_Ql post (xAt g A) A) (cc := cX8_cell) (maxL := 4) (ret := (some .long)) (by decide) rfl ?_
  intro p e s m below meth c A C0 hnm hO
  refine x_entry (Nat.le_of_ble_eq_true rfl) (fun ls hl => ?_)
  have hl : lv_has ls 4 [(0, .ref (xa g 24)), (1, .int a1), (2, .int a2), (3, .int a3)] := hl
  have hx := C0.1
  have hb := C0.2.1
  have hown := C0.2.2.2.2.2.1
  have hts := C0.2.2.2.2.2.2.1
  refine lv_aload_n hx hb dX8_cell_0 rfl (lv_at hl 0 rfl) ?_
  refine lv_iconst (v := 0) hx hb dX8_cell_1 (by decide) ?_
  refine x_puti C0 hO 24 0 tyX8 tyX8_ok nmX8 rfl rfl (by decide) rfl iX8_cell_8 rfl rfl rfl (List.mem_of_getElem? (i := 1) rfl) dX8_cell_2 (fun σ1 H locs eσ1 hO => ?_)
  replace hw := hw σ1 eσ1
  refine lv_iload_n hx hb dX8_cell_5 rfl (lv_at hl 1 rfl) ?_
  refine x_calli C0 hO (x_runS (As := [.int a1]) (rest := []) C0 hO (kX8_noSheet l g _ a1 σ1 _ hw) 1 rfl gX8_cell_X8_noSheet rfl rfl rfl hdX8_noSheet.2 ⟨Nat.le_of_ble_eq_true rfl, Nat.le_of_ble_eq_true rfl⟩ hl.1 rfl (Nat.le_of_ble_eq_true rfl) dX8_cell_6 ⟨Nat.le_of_ble_eq_true rfl, Nat.le_of_ble_eq_true rfl⟩) (fun r2 σ' H locs hw hO => ?_)
  obtain ⟨hσ, hw⟩ := hw
  subst hσ
  refine lv_if_ne (tgt := 24) hx hb dX8_cell_9 (by decide) (fun c3 => ?_) (fun c3 => ?_)
  · replace hw := hw.2 c3
    refine x_calll C0 hO (x_runS (As := []) (rest := []) C0 hO (kX8_lost l g _  σ1 _ hw) 0 rfl gX8_cell_X8_lost rfl rfl rfl hdX8_lost.2 ⟨Nat.le_of_ble_eq_true rfl, Nat.le_of_ble_eq_true rfl⟩ hl.1 rfl (Nat.le_of_ble_eq_true rfl) dX8_cell_24 ⟨Nat.le_of_ble_eq_true rfl, Nat.le_of_ble_eq_true rfl⟩) (fun r4 σ' H locs hw hO => ?_)
    obtain ⟨hσ, hw⟩ := hw
    subst hσ
    exact x_lret C0 hO hw dX8_cell_27
  · replace hw := hw.1 c3
    refine lv_iload_n hx hb dX8_cell_12 rfl (lv_at hl 3 rfl) ?_
    refine lv_i2l hx hb dX8_cell_13 rfl ?_
    refine lv_lconst (v := 0) hx hb dX8_cell_14 (by decide) ?_
    refine lv_ldc2 (v := 2) hx hb hown (hts _ (List.mem_of_getElem? (i := 2) rfl)) dX8_cell_15 ?_
    refine x_calli C0 hO (x_runS (As := [.long a3.toInt64, .long (0 : Int64), .long (2 : Int64)]) (rest := []) C0 hO (kX8_in l g _ a3.toInt64 (0 : Int64) (2 : Int64) σ1 _ hw) 3 rfl gX8_cell_X8_in rfl rfl rfl hdX8_in.2 ⟨Nat.le_of_ble_eq_true rfl, Nat.le_of_ble_eq_true rfl⟩ hl.1 rfl (Nat.le_of_ble_eq_true rfl) dX8_cell_18 ⟨Nat.le_of_ble_eq_true rfl, Nat.le_of_ble_eq_true rfl⟩) (fun r5 σ' H locs hw hO => ?_)
    obtain ⟨hσ, hw⟩ := hw
    subst hσ
    refine lv_if_ne (tgt := 28) hx hb dX8_cell_21 (by decide) (fun c6 => ?_) (fun c6 => ?_)
    · replace hw := hw.2 c6
      refine lv_aload_n hx hb dX8_cell_28 rfl (lv_at hl 0 rfl) ?_
      refine x_getr C0 hO 24 37 46 rfl rfl (by decide) rfl iX8_cell_8 rfl (List.mem_of_getElem? (i := 3) rfl) dX8_cell_29 ?_
      refine lv_iload_n hx hb dX8_cell_32 rfl (lv_at hl 1 rfl) ?_
      refine x_iald C0 hO 46 rfl hw.1 dX8_cell_33 ?_
      replace hw := hw.2
      refine lv_if_lt (tgt := 53) hx hb dX8_cell_34 (by decide) (fun c7 => ?_) (fun c7 => ?_)
      · replace hw := hw.1 c7
        refine lv_aload_n hx hb dX8_cell_53 rfl (lv_at hl 0 rfl) ?_
        refine lv_iload_n hx hb dX8_cell_54 rfl (lv_at hl 1 rfl) ?_
        refine lv_iload_n hx hb dX8_cell_55 rfl (lv_at hl 2 rfl) ?_
        refine x_calli C0 hO (x_runV (As := [.int a1, .int a2]) (rest := []) C0 hO (kX8_noCell l g _ a1 a2 σ1 _ hw) 2 rfl (xRecv C0 hO (j := 24) rfl rfl) gX8_cell_X8_noCell rfl rfl rfl hdX8_noCell ⟨Nat.le_of_ble_eq_true rfl, Nat.le_of_ble_eq_true rfl⟩ hl.1 rfl (Nat.le_of_ble_eq_true rfl) dX8_cell_56 ⟨Nat.le_of_ble_eq_true rfl, Nat.le_of_ble_eq_true rfl⟩) (fun r8 σ' H locs hw hO => ?_)
        obtain ⟨hσ, hw⟩ := hw
        subst hσ
        refine lv_if_le (tgt := 75) hx hb dX8_cell_59 (by decide) (fun c9 => ?_) (fun c9 => ?_)
        · replace hw := hw.1 c9
          refine lv_aload_n hx hb dX8_cell_75 rfl (lv_at hl 0 rfl) ?_
          refine x_getr C0 hO 24 39 48 rfl rfl (by decide) rfl iX8_cell_8 rfl (List.mem_of_getElem? (i := 5) rfl) dX8_cell_76 ?_
          refine lv_bipush (v := 60) hx hb dX8_cell_79 (by decide) ?_
          refine lv_iload_n hx hb dX8_cell_81 rfl (lv_at hl 1 rfl) ?_
          refine lv_imul hx hb dX8_cell_82 ?_
          refine lv_iload_n hx hb dX8_cell_83 rfl (lv_at hl 2 rfl) ?_
          refine lv_iadd hx hb dX8_cell_84 ?_
          refine x_iald C0 hO 48 rfl hw.1 dX8_cell_85 ?_
          replace hw := hw.2
          refine lv_i2l hx hb dX8_cell_86 rfl ?_
          exact x_lret C0 hO hw dX8_cell_87
        · replace hw := hw.2 c9
          refine lv_aload_n hx hb dX8_cell_62 rfl (lv_at hl 0 rfl) ?_
          refine lv_aload_n hx hb dX8_cell_63 rfl (lv_at hl 0 rfl) ?_
          refine lv_iload_n hx hb dX8_cell_64 rfl (lv_at hl 1 rfl) ?_
          refine lv_iload_n hx hb dX8_cell_65 rfl (lv_at hl 2 rfl) ?_
          refine x_calli C0 hO (x_runV (As := [.int a1, .int a2]) (rest := [.ref (xa g 24)]) C0 hO (kX8_noCell l g _ a1 a2 σ1 _ hw) 2 rfl (xRecv C0 hO (j := 24) rfl rfl) gX8_cell_X8_noCell rfl rfl rfl hdX8_noCell ⟨Nat.le_of_ble_eq_true rfl, Nat.le_of_ble_eq_true rfl⟩ hl.1 rfl (Nat.le_of_ble_eq_true rfl) dX8_cell_66 ⟨Nat.le_of_ble_eq_true rfl, Nat.le_of_ble_eq_true rfl⟩) (fun r10 σ' H locs hw hO => ?_)
          obtain ⟨hσ, hw⟩ := hw
          subst hσ
          refine x_calll C0 hO (x_runV (As := [.int r10]) (rest := []) C0 hO (kX8_failedLong l g _ r10 σ1 _ hw) 1 rfl (xRecv C0 hO (j := 24) rfl rfl) gX8_cell_X8_failedLong rfl rfl rfl hdX8_failedLong ⟨Nat.le_of_ble_eq_true rfl, Nat.le_of_ble_eq_true rfl⟩ hl.1 rfl (Nat.le_of_ble_eq_true rfl) dX8_cell_69 ⟨Nat.le_of_ble_eq_true rfl, Nat.le_of_ble_eq_true rfl⟩) (fun r11 σ12 H locs hw hO => ?_)
          refine lv_goto (tgt := 87) hx hb dX8_cell_72 (by decide) ?_
          exact x_lret C0 hO hw dX8_cell_87
      · replace hw := hw.2 c7
        refine lv_aload_n hx hb dX8_cell_37 rfl (lv_at hl 0 rfl) ?_
        refine x_getr C0 hO 24 38 47 rfl rfl (by decide) rfl iX8_cell_8 rfl (List.mem_of_getElem? (i := 4) rfl) dX8_cell_38 ?_
        refine lv_iload_n hx hb dX8_cell_41 rfl (lv_at hl 1 rfl) ?_
        refine x_iald C0 hO 47 rfl hw.1 dX8_cell_42 ?_
        replace hw := hw.2
        refine lv_iload_n hx hb dX8_cell_43 rfl (lv_at hl 3 rfl) ?_
        refine lv_icmp_eq (tgt := 53) hx hb dX8_cell_44 (by decide) (fun c13 => ?_) (fun c13 => ?_)
        · replace hw := hw.1 c13
          refine lv_aload_n hx hb dX8_cell_53 rfl (lv_at hl 0 rfl) ?_
          refine lv_iload_n hx hb dX8_cell_54 rfl (lv_at hl 1 rfl) ?_
          refine lv_iload_n hx hb dX8_cell_55 rfl (lv_at hl 2 rfl) ?_
          refine x_calli C0 hO (x_runV (As := [.int a1, .int a2]) (rest := []) C0 hO (kX8_noCell l g _ a1 a2 σ1 _ hw) 2 rfl (xRecv C0 hO (j := 24) rfl rfl) gX8_cell_X8_noCell rfl rfl rfl hdX8_noCell ⟨Nat.le_of_ble_eq_true rfl, Nat.le_of_ble_eq_true rfl⟩ hl.1 rfl (Nat.le_of_ble_eq_true rfl) dX8_cell_56 ⟨Nat.le_of_ble_eq_true rfl, Nat.le_of_ble_eq_true rfl⟩) (fun r14 σ' H locs hw hO => ?_)
          obtain ⟨hσ, hw⟩ := hw
          subst hσ
          refine lv_if_le (tgt := 75) hx hb dX8_cell_59 (by decide) (fun c15 => ?_) (fun c15 => ?_)
          · replace hw := hw.1 c15
            refine lv_aload_n hx hb dX8_cell_75 rfl (lv_at hl 0 rfl) ?_
            refine x_getr C0 hO 24 39 48 rfl rfl (by decide) rfl iX8_cell_8 rfl (List.mem_of_getElem? (i := 5) rfl) dX8_cell_76 ?_
            refine lv_bipush (v := 60) hx hb dX8_cell_79 (by decide) ?_
            refine lv_iload_n hx hb dX8_cell_81 rfl (lv_at hl 1 rfl) ?_
            refine lv_imul hx hb dX8_cell_82 ?_
            refine lv_iload_n hx hb dX8_cell_83 rfl (lv_at hl 2 rfl) ?_
            refine lv_iadd hx hb dX8_cell_84 ?_
            refine x_iald C0 hO 48 rfl hw.1 dX8_cell_85 ?_
            replace hw := hw.2
            refine lv_i2l hx hb dX8_cell_86 rfl ?_
            exact x_lret C0 hO hw dX8_cell_87
          · replace hw := hw.2 c15
            refine lv_aload_n hx hb dX8_cell_62 rfl (lv_at hl 0 rfl) ?_
            refine lv_aload_n hx hb dX8_cell_63 rfl (lv_at hl 0 rfl) ?_
            refine lv_iload_n hx hb dX8_cell_64 rfl (lv_at hl 1 rfl) ?_
            refine lv_iload_n hx hb dX8_cell_65 rfl (lv_at hl 2 rfl) ?_
            refine x_calli C0 hO (x_runV (As := [.int a1, .int a2]) (rest := [.ref (xa g 24)]) C0 hO (kX8_noCell l g _ a1 a2 σ1 _ hw) 2 rfl (xRecv C0 hO (j := 24) rfl rfl) gX8_cell_X8_noCell rfl rfl rfl hdX8_noCell ⟨Nat.le_of_ble_eq_true rfl, Nat.le_of_ble_eq_true rfl⟩ hl.1 rfl (Nat.le_of_ble_eq_true rfl) dX8_cell_66 ⟨Nat.le_of_ble_eq_true rfl, Nat.le_of_ble_eq_true rfl⟩) (fun r16 σ' H locs hw hO => ?_)
            obtain ⟨hσ, hw⟩ := hw
            subst hσ
            refine x_calll C0 hO (x_runV (As := [.int r16]) (rest := []) C0 hO (kX8_failedLong l g _ r16 σ1 _ hw) 1 rfl (xRecv C0 hO (j := 24) rfl rfl) gX8_cell_X8_failedLong rfl rfl rfl hdX8_failedLong ⟨Nat.le_of_ble_eq_true rfl, Nat.le_of_ble_eq_true rfl⟩ hl.1 rfl (Nat.le_of_ble_eq_true rfl) dX8_cell_69 ⟨Nat.le_of_ble_eq_true rfl, Nat.le_of_ble_eq_true rfl⟩) (fun r17 σ18 H locs hw hO => ?_)
            refine lv_goto (tgt := 87) hx hb dX8_cell_72 (by decide) ?_
            exact x_lret C0 hO hw dX8_cell_87
        · replace hw := hw.2 c13
          refine lv_aload_n hx hb dX8_cell_47 rfl (lv_at hl 0 rfl) ?_
          refine lv_iconst (v := 2) hx hb dX8_cell_48 (by decide) ?_
          refine x_calll C0 hO (x_runV (As := [.int (2 : Int32)]) (rest := []) C0 hO (kX8_failedLong l g _ (2 : Int32) σ1 _ hw) 1 rfl (xRecv C0 hO (j := 24) rfl rfl) gX8_cell_X8_failedLong rfl rfl rfl hdX8_failedLong ⟨Nat.le_of_ble_eq_true rfl, Nat.le_of_ble_eq_true rfl⟩ hl.1 rfl (Nat.le_of_ble_eq_true rfl) dX8_cell_49 ⟨Nat.le_of_ble_eq_true rfl, Nat.le_of_ble_eq_true rfl⟩) (fun r19 σ20 H locs hw hO => ?_)
          exact x_lret C0 hO hw dX8_cell_52
    · replace hw := hw.1 c6
      refine x_calll C0 hO (x_runS (As := []) (rest := []) C0 hO (kX8_lost l g _  σ1 _ hw) 0 rfl gX8_cell_X8_lost rfl rfl rfl hdX8_lost.2 ⟨Nat.le_of_ble_eq_true rfl, Nat.le_of_ble_eq_true rfl⟩ hl.1 rfl (Nat.le_of_ble_eq_true rfl) dX8_cell_24 ⟨Nat.le_of_ble_eq_true rfl, Nat.le_of_ble_eq_true rfl⟩) (fun r21 σ' H locs hw hO => ?_)
      obtain ⟨hσ, hw⟩ := hw
      subst hσ
      exact x_lret C0 hO hw dX8_cell_27
theorem iX8_copy_8 : ∀ w ∈ wsX80, w ∈ wsX8_copy := fun w h => List.mem_cons_of_mem _ (List.mem_append_right _ h)
theorem hdX8_copy : yX8_copy.cls = RX8 ∧ yX8_copy.cls ≠ "java/lang/invoke/MethodHandle" ∧ yX8_copy.cls ≠ "java/lang/invoke/VarHandle" ∧ (parseMethodDescriptor yX8_copy.desc).map (fun d => d.parameters.length) = some 5 := by decide +kernel
set_option maxHeartbeats 4000000 in
set_option maxRecDepth 100000 in
theorem lX8_copy_107 {p : Program} {l : Launch} {e : Env} {s : State} {m : MethodId} {args : Array Value} {below : List Frame} {meth : Method} {c : Code} {g : XG} {A : Nat → Prop} (C0 : xC g A wsX8_copy RX8 cX8_copy 7 (some .int) p s m args meth c) (f1 : Int32) (f2 : Int32) (f3 : Int32) (f4 : Int32) (f5 : Int32) (post : Int32 → XS → Prop) (kx : Int32 → XS → Prop)
    (hkx : ∀ (m6 : Int32) (σ : XS) (H : Heap) (locs : List Loc) (ls : Array Slot), kx m6 σ → xO g A s σ H locs → lv_has ls 7 [(0, .ref (xa g 24)), (1, .int f1), (2, .int f2), (3, .int f3), (4, .int f4), (5, .int f5), (6, .int m6)] → W p l e (headSpec wsX8_copy rmX8_copy).room s m args below meth c H locs 0 0 (MQ below (va_Qi post (xAt g A) A) args s 0 0 A) (F0 m 141 ls [])) :
    ∀ (n : Nat) (m6 : Int32) (σ : XS) (H : Heap) (locs : List Loc) (ls : Array Slot), LX8_copy_107 f1 f2 f3 f4 f5 post kx n m6 σ → xO g A s σ H locs → lv_has ls 7 [(0, .ref (xa g 24)), (1, .int f1), (2, .int f2), (3, .int f3), (4, .int f4), (5, .int f5), (6, .int m6)] → W p l e (headSpec wsX8_copy rmX8_copy).room s m args below meth c H locs 0 0 (MQ below (va_Qi post (xAt g A) A) args s 0 0 A) (F0 m 107 ls []) := by
  have hx := C0.1
  have hb := C0.2.1
  have hown := C0.2.2.2.2.2.1
  have hts := C0.2.2.2.2.2.2.1
  intro n
  induction n with
  | zero =>
    intro m6 σ H locs ls hw
    exact hw.elim
  | succ n ih =>
    intro m6 σ H locs ls hw hO hl
    rw [LX8_copy_107] at hw
    refine lv_iload hx hb dX8_copy_107 (lv_at hl 6 rfl) ?_
    refine lv_iload hx hb dX8_copy_109 (lv_at hl 5 rfl) ?_
    refine lv_icmp_ge (tgt := 141) hx hb dX8_copy_111 (by decide) (fun c18 => ?_) (fun c18 => ?_)
    · replace hw := hw.1 c18
      exact hkx _ _ _ _ _ hw hO (lv_sub hl [0, 1, 2, 3, 4, 5, 6] rfl)
    · replace hw := hw.2 c18
      refine lv_aload_n hx hb dX8_copy_114 rfl (lv_at hl 0 rfl) ?_
      refine x_getr C0 hO 24 40 49 rfl rfl (by decide) rfl iX8_copy_8 rfl (List.mem_of_getElem? (i := 3) rfl) dX8_copy_115 ?_
      refine lv_iload hx hb dX8_copy_118 (lv_at hl 6 rfl) ?_
      refine lv_aload_n hx hb dX8_copy_120 rfl (lv_at hl 0 rfl) ?_
      refine x_getr C0 hO 24 39 48 rfl rfl (by decide) rfl iX8_copy_8 rfl (List.mem_of_getElem? (i := 4) rfl) dX8_copy_121 ?_
      refine lv_bipush (v := 60) hx hb dX8_copy_124 (by decide) ?_
      refine lv_iload_n hx hb dX8_copy_126 rfl (lv_at hl 1 rfl) ?_
      refine lv_imul hx hb dX8_copy_127 ?_
      refine lv_iload_n hx hb dX8_copy_128 rfl (lv_at hl 2 rfl) ?_
      refine lv_iadd hx hb dX8_copy_129 ?_
      refine lv_iload hx hb dX8_copy_130 (lv_at hl 6 rfl) ?_
      refine lv_iadd hx hb dX8_copy_132 ?_
      refine x_iald C0 hO 48 rfl hw.1 dX8_copy_133 ?_
      replace hw := hw.2
      refine x_iast C0 hO 49 rfl hw.1 dX8_copy_134 (fun σ19 H locs eσ19 hO => ?_)
      replace hw := hw.2 σ19 eσ19
      obtain ⟨x20, ex20⟩ : ∃ z : Int32, z = m6 + 1 := ⟨_, rfl⟩
      replace hw := hw x20 ex20
      refine lv_iinc (v := x20) (lv' := [(6, .int x20), (0, .ref (xa g 24)), (1, .int f1), (2, .int f2), (3, .int f3), (4, .int f4), (5, .int f5)]) hx hb dX8_copy_135 hl (k := 6) rfl (by rw [ex20]; rfl) (by decide) rfl (fun ls hl => ?_)
      refine lv_goto (tgt := 107) hx hb dX8_copy_138 (by decide) ?_
      exact ih _ _ _ _ _ hw hO (lv_sub hl [1, 2, 3, 4, 5, 6, 0] rfl)
set_option maxHeartbeats 4000000 in
set_option maxRecDepth 100000 in
theorem lX8_copy_144 {p : Program} {l : Launch} {e : Env} {s : State} {m : MethodId} {args : Array Value} {below : List Frame} {meth : Method} {c : Code} {g : XG} {A : Nat → Prop} (C0 : xC g A wsX8_copy RX8 cX8_copy 7 (some .int) p s m args meth c) (f1 : Int32) (f2 : Int32) (f3 : Int32) (f4 : Int32) (f5 : Int32) (post : Int32 → XS → Prop) (kx : Int32 → XS → Prop)
    (hkx : ∀ (m6 : Int32) (σ : XS) (H : Heap) (locs : List Loc) (ls : Array Slot), kx m6 σ → xO g A s σ H locs → lv_has ls 7 [(0, .ref (xa g 24)), (1, .int f1), (2, .int f2), (3, .int f3), (4, .int f4), (5, .int f5), (6, .int m6)] → W p l e (headSpec wsX8_copy rmX8_copy).room s m args below meth c H locs 0 0 (MQ below (va_Qi post (xAt g A) A) args s 0 0 A) (F0 m 179 ls [])) :
    ∀ (n : Nat) (m6 : Int32) (σ : XS) (H : Heap) (locs : List Loc) (ls : Array Slot), LX8_copy_144 f1 f2 f3 f4 f5 post kx n m6 σ → xO g A s σ H locs → lv_has ls 7 [(0, .ref (xa g 24)), (1, .int f1), (2, .int f2), (3, .int f3), (4, .int f4), (5, .int f5), (6, .int m6)] → W p l e (headSpec wsX8_copy rmX8_copy).room s m args below meth c H locs 0 0 (MQ below (va_Qi post (xAt g A) A) args s 0 0 A) (F0 m 144 ls []) := by
  have hx := C0.1
  have hb := C0.2.1
  have hown := C0.2.2.2.2.2.1
  have hts := C0.2.2.2.2.2.2.1
  intro n
  induction n with
  | zero =>
    intro m6 σ H locs ls hw
    exact hw.elim
  | succ n ih =>
    intro m6 σ H locs ls hw hO hl
    rw [LX8_copy_144] at hw
    refine lv_iload hx hb dX8_copy_144 (lv_at hl 6 rfl) ?_
    refine lv_iload hx hb dX8_copy_146 (lv_at hl 5 rfl) ?_
    refine lv_icmp_ge (tgt := 179) hx hb dX8_copy_148 (by decide) (fun c23 => ?_) (fun c23 => ?_)
    · replace hw := hw.1 c23
      exact hkx _ _ _ _ _ hw hO (lv_sub hl [0, 1, 2, 3, 4, 5, 6] rfl)
    · replace hw := hw.2 c23
      refine lv_aload_n hx hb dX8_copy_151 rfl (lv_at hl 0 rfl) ?_
      refine x_getr C0 hO 24 39 48 rfl rfl (by decide) rfl iX8_copy_8 rfl (List.mem_of_getElem? (i := 4) rfl) dX8_copy_152 ?_
      refine lv_bipush (v := 60) hx hb dX8_copy_155 (by decide) ?_
      refine lv_iload_n hx hb dX8_copy_157 rfl (lv_at hl 3 rfl) ?_
      refine lv_imul hx hb dX8_copy_158 ?_
      refine lv_iload hx hb dX8_copy_159 (lv_at hl 4 rfl) ?_
      refine lv_iadd hx hb dX8_copy_161 ?_
      refine lv_iload hx hb dX8_copy_162 (lv_at hl 6 rfl) ?_
      refine lv_iadd hx hb dX8_copy_164 ?_
      refine lv_aload_n hx hb dX8_copy_165 rfl (lv_at hl 0 rfl) ?_
      refine x_getr C0 hO 24 40 49 rfl rfl (by decide) rfl iX8_copy_8 rfl (List.mem_of_getElem? (i := 3) rfl) dX8_copy_166 ?_
      refine lv_iload hx hb dX8_copy_169 (lv_at hl 6 rfl) ?_
      refine x_iald C0 hO 49 rfl hw.1 dX8_copy_171 ?_
      replace hw := hw.2
      refine x_iast C0 hO 48 rfl hw.1 dX8_copy_172 (fun σ24 H locs eσ24 hO => ?_)
      replace hw := hw.2 σ24 eσ24
      obtain ⟨x25, ex25⟩ : ∃ z : Int32, z = m6 + 1 := ⟨_, rfl⟩
      replace hw := hw x25 ex25
      refine lv_iinc (v := x25) (lv' := [(6, .int x25), (0, .ref (xa g 24)), (1, .int f1), (2, .int f2), (3, .int f3), (4, .int f4), (5, .int f5)]) hx hb dX8_copy_173 hl (k := 6) rfl (by rw [ex25]; rfl) (by decide) rfl (fun ls hl => ?_)
      refine lv_goto (tgt := 144) hx hb dX8_copy_176 (by decide) ?_
      exact ih _ _ _ _ _ hw hO (lv_sub hl [1, 2, 3, 4, 5, 6, 0] rfl)
set_option maxHeartbeats 4000000 in
set_option maxRecDepth 100000 in
theorem kX8_copy (l : Launch) (g : XG) (sz : Nat) (a1 : Int32) (a2 : Int32) (a3 : Int32) (a4 : Int32) (a5 : Int32) (σ : XS) (post : Int32 → XS → Prop) (hw : PX8_copy a1 a2 a3 a4 a5 σ post) : xMi l yX8_copy wsX8_copy rmX8_copy 0 0 g sz [.ref (xa g 24), .int a1, .int a2, .int a3, .int a4, .int a5] σ post := by
  unfold PX8_copy at hw
  refine x_head (Qc := fun A => va_Qi post (xAt g A) A) (cc := cX8_copy) (maxL := 7) (ret := (some .int)) (by decide) rfl ?_
  intro p e s m below meth c A C0 hnm hO
  refine x_entry (Nat.le_of_ble_eq_true rfl) (fun ls hl => ?_)
  have hl : lv_has ls 7 [(0, .ref (xa g 24)), (1, .int a1), (2, .int a2), (3, .int a3), (4, .int a4), (5, .int a5)] := hl
  have hx := C0.1
  have hb := C0.2.1
  have hown := C0.2.2.2.2.2.1
  have hts := C0.2.2.2.2.2.2.1
  refine lv_iload_n hx hb dX8_copy_0 rfl (lv_at hl 1 rfl) ?_
  refine x_calli C0 hO (x_runS (As := [.int a1]) (rest := []) C0 hO (kX8_noSheet l g _ a1 σ _ hw) 1 rfl gX8_copy_X8_noSheet rfl rfl rfl hdX8_noSheet.2 ⟨Nat.le_of_ble_eq_true rfl, Nat.le_of_ble_eq_true rfl⟩ hl.1 rfl (Nat.le_of_ble_eq_true rfl) dX8_copy_1 ⟨Nat.le_of_ble_eq_true rfl, Nat.le_of_ble_eq_true rfl⟩) (fun r1 σ' H locs hw hO => ?_)
  obtain ⟨hσ, hw⟩ := hw
  subst hσ
  refine lv_if_ne (tgt := 14) hx hb dX8_copy_4 (by decide) (fun c2 => ?_) (fun c2 => ?_)
  · replace hw := hw.2 c2
    refine lv_aload_n hx hb dX8_copy_14 rfl (lv_at hl 0 rfl) ?_
    refine lv_iconst (v := -1) hx hb dX8_copy_15 (by decide) ?_
    refine x_calli C0 hO (x_runV (As := [.int (-1 : Int32)]) (rest := []) C0 hO (kX8_refused l g _ (-1 : Int32) σ _ hw) 1 rfl (xRecv C0 hO (j := 24) rfl rfl) gX8_copy_X8_refused rfl rfl rfl hdX8_refused ⟨Nat.le_of_ble_eq_true rfl, Nat.le_of_ble_eq_true rfl⟩ hl.1 rfl (Nat.le_of_ble_eq_true rfl) dX8_copy_16 ⟨Nat.le_of_ble_eq_true rfl, Nat.le_of_ble_eq_true rfl⟩) (fun r3 σ4 H locs hw hO => ?_)
    exact x_iret C0 hO hw dX8_copy_19
  · replace hw := hw.1 c2
    refine lv_iload_n hx hb dX8_copy_7 rfl (lv_at hl 3 rfl) ?_
    refine x_calli C0 hO (x_runS (As := [.int a3]) (rest := []) C0 hO (kX8_noSheet l g _ a3 σ _ hw) 1 rfl gX8_copy_X8_noSheet rfl rfl rfl hdX8_noSheet.2 ⟨Nat.le_of_ble_eq_true rfl, Nat.le_of_ble_eq_true rfl⟩ hl.1 rfl (Nat.le_of_ble_eq_true rfl) dX8_copy_8 ⟨Nat.le_of_ble_eq_true rfl, Nat.le_of_ble_eq_true rfl⟩) (fun r5 σ' H locs hw hO => ?_)
    obtain ⟨hσ, hw⟩ := hw
    subst hσ
    refine lv_if_eq (tgt := 20) hx hb dX8_copy_11 (by decide) (fun c6 => ?_) (fun c6 => ?_)
    · replace hw := hw.1 c6
      refine lv_aload_n hx hb dX8_copy_20 rfl (lv_at hl 0 rfl) ?_
      refine x_getr C0 hO 24 37 46 rfl rfl (by decide) rfl iX8_copy_8 rfl (List.mem_of_getElem? (i := 1) rfl) dX8_copy_21 ?_
      refine lv_iload_n hx hb dX8_copy_24 rfl (lv_at hl 1 rfl) ?_
      refine x_iald C0 hO 46 rfl hw.1 dX8_copy_25 ?_
      replace hw := hw.2
      refine lv_if_lt (tgt := 38) hx hb dX8_copy_26 (by decide) (fun c7 => ?_) (fun c7 => ?_)
      · replace hw := hw.1 c7
        refine lv_aload_n hx hb dX8_copy_38 rfl (lv_at hl 0 rfl) ?_
        refine lv_iconst (v := 1) hx hb dX8_copy_39 (by decide) ?_
        refine x_calli C0 hO (x_runV (As := [.int (1 : Int32)]) (rest := []) C0 hO (kX8_failed l g _ (1 : Int32) σ _ hw) 1 rfl (xRecv C0 hO (j := 24) rfl rfl) gX8_copy_X8_failed rfl rfl rfl hdX8_failed ⟨Nat.le_of_ble_eq_true rfl, Nat.le_of_ble_eq_true rfl⟩ hl.1 rfl (Nat.le_of_ble_eq_true rfl) dX8_copy_40 ⟨Nat.le_of_ble_eq_true rfl, Nat.le_of_ble_eq_true rfl⟩) (fun r8 σ9 H locs hw hO => ?_)
        exact x_iret C0 hO hw dX8_copy_43
      · replace hw := hw.2 c7
        refine lv_aload_n hx hb dX8_copy_29 rfl (lv_at hl 0 rfl) ?_
        refine x_getr C0 hO 24 37 46 rfl rfl (by decide) rfl iX8_copy_8 rfl (List.mem_of_getElem? (i := 1) rfl) dX8_copy_30 ?_
        refine lv_iload_n hx hb dX8_copy_33 rfl (lv_at hl 3 rfl) ?_
        refine x_iald C0 hO 46 rfl hw.1 dX8_copy_34 ?_
        replace hw := hw.2
        refine lv_if_ge (tgt := 44) hx hb dX8_copy_35 (by decide) (fun c10 => ?_) (fun c10 => ?_)
        · replace hw := hw.1 c10
          refine lv_aload_n hx hb dX8_copy_44 rfl (lv_at hl 0 rfl) ?_
          refine x_getr C0 hO 24 38 47 rfl rfl (by decide) rfl iX8_copy_8 rfl (List.mem_of_getElem? (i := 2) rfl) dX8_copy_45 ?_
          refine lv_iload_n hx hb dX8_copy_48 rfl (lv_at hl 1 rfl) ?_
          refine x_iald C0 hO 47 rfl hw.1 dX8_copy_49 ?_
          replace hw := hw.2
          refine lv_aload_n hx hb dX8_copy_50 rfl (lv_at hl 0 rfl) ?_
          refine x_getr C0 hO 24 38 47 rfl rfl (by decide) rfl iX8_copy_8 rfl (List.mem_of_getElem? (i := 2) rfl) dX8_copy_51 ?_
          refine lv_iload_n hx hb dX8_copy_54 rfl (lv_at hl 3 rfl) ?_
          refine x_iald C0 hO 47 rfl hw.1 dX8_copy_55 ?_
          replace hw := hw.2
          refine lv_icmp_eq (tgt := 65) hx hb dX8_copy_56 (by decide) (fun c11 => ?_) (fun c11 => ?_)
          · replace hw := hw.1 c11
            refine lv_iload_n hx hb dX8_copy_65 rfl (lv_at hl 2 rfl) ?_
            refine lv_iload hx hb dX8_copy_66 (lv_at hl 5 rfl) ?_
            refine lv_i2l hx hb dX8_copy_68 rfl ?_
            refine lv_aload_n hx hb dX8_copy_69 rfl (lv_at hl 0 rfl) ?_
            refine x_getr C0 hO 24 37 46 rfl rfl (by decide) rfl iX8_copy_8 rfl (List.mem_of_getElem? (i := 1) rfl) dX8_copy_70 ?_
            refine lv_iload_n hx hb dX8_copy_73 rfl (lv_at hl 1 rfl) ?_
            refine x_iald C0 hO 46 rfl hw.1 dX8_copy_74 ?_
            replace hw := hw.2
            refine x_calli C0 hO (x_runS (As := [.int a2, .long a5.toInt64, .int (gI σ 46 a1.toNatClampNeg)]) (rest := []) C0 hO (kX8_isBeyond l g _ a2 a5.toInt64 (gI σ 46 a1.toNatClampNeg) σ _ hw) 3 rfl gX8_copy_X8_isBeyond rfl rfl rfl hdX8_isBeyond.2 ⟨Nat.le_of_ble_eq_true rfl, Nat.le_of_ble_eq_true rfl⟩ hl.1 rfl (Nat.le_of_ble_eq_true rfl) dX8_copy_75 ⟨Nat.le_of_ble_eq_true rfl, Nat.le_of_ble_eq_true rfl⟩) (fun r12 σ' H locs hw hO => ?_)
            obtain ⟨hσ, hw⟩ := hw
            subst hσ
            refine lv_if_ne (tgt := 98) hx hb dX8_copy_78 (by decide) (fun c13 => ?_) (fun c13 => ?_)
            · replace hw := hw.2 c13
              refine lv_aload_n hx hb dX8_copy_98 rfl (lv_at hl 0 rfl) ?_
              refine lv_iconst (v := 3) hx hb dX8_copy_99 (by decide) ?_
              refine x_calli C0 hO (x_runV (As := [.int (3 : Int32)]) (rest := []) C0 hO (kX8_failed l g _ (3 : Int32) σ _ hw) 1 rfl (xRecv C0 hO (j := 24) rfl rfl) gX8_copy_X8_failed rfl rfl rfl hdX8_failed ⟨Nat.le_of_ble_eq_true rfl, Nat.le_of_ble_eq_true rfl⟩ hl.1 rfl (Nat.le_of_ble_eq_true rfl) dX8_copy_100 ⟨Nat.le_of_ble_eq_true rfl, Nat.le_of_ble_eq_true rfl⟩) (fun r14 σ15 H locs hw hO => ?_)
              exact x_iret C0 hO hw dX8_copy_103
            · replace hw := hw.1 c13
              refine lv_iload hx hb dX8_copy_81 (lv_at hl 4 rfl) ?_
              refine lv_iload hx hb dX8_copy_83 (lv_at hl 5 rfl) ?_
              refine lv_i2l hx hb dX8_copy_85 rfl ?_
              refine lv_aload_n hx hb dX8_copy_86 rfl (lv_at hl 0 rfl) ?_
              refine x_getr C0 hO 24 37 46 rfl rfl (by decide) rfl iX8_copy_8 rfl (List.mem_of_getElem? (i := 1) rfl) dX8_copy_87 ?_
              refine lv_iload_n hx hb dX8_copy_90 rfl (lv_at hl 3 rfl) ?_
              refine x_iald C0 hO 46 rfl hw.1 dX8_copy_91 ?_
              replace hw := hw.2
              refine x_calli C0 hO (x_runS (As := [.int a4, .long a5.toInt64, .int (gI σ 46 a3.toNatClampNeg)]) (rest := []) C0 hO (kX8_isBeyond l g _ a4 a5.toInt64 (gI σ 46 a3.toNatClampNeg) σ _ hw) 3 rfl gX8_copy_X8_isBeyond rfl rfl rfl hdX8_isBeyond.2 ⟨Nat.le_of_ble_eq_true rfl, Nat.le_of_ble_eq_true rfl⟩ hl.1 rfl (Nat.le_of_ble_eq_true rfl) dX8_copy_92 ⟨Nat.le_of_ble_eq_true rfl, Nat.le_of_ble_eq_true rfl⟩) (fun r16 σ' H locs hw hO => ?_)
              obtain ⟨hσ, hw⟩ := hw
              subst hσ
              refine lv_if_eq (tgt := 104) hx hb dX8_copy_95 (by decide) (fun c17 => ?_) (fun c17 => ?_)
              · replace hw := hw.1 c17
                refine lv_iconst (v := 0) hx hb dX8_copy_104 (by decide) ?_
                refine lv_istore (lv' := [(6, .int (0 : Int32)), (0, .ref (xa g 24)), (1, .int a1), (2, .int a2), (3, .int a3), (4, .int a4), (5, .int a5)]) hx hb dX8_copy_105 hl (by decide) rfl (fun ls hl => ?_)
                refine lX8_copy_107 C0 a1 a2 a3 a4 a5 post _ (fun x21 σ22 H locs ls hw hO hl => ?_) 1000 _ _ _ _ _ hw hO (lv_sub hl [1, 2, 3, 4, 5, 6, 0] rfl)
                refine lv_iconst (v := 0) hx hb dX8_copy_141 (by decide) ?_
                refine lv_istore (lv' := [(6, .int (0 : Int32)), (0, .ref (xa g 24)), (1, .int a1), (2, .int a2), (3, .int a3), (4, .int a4), (5, .int a5)]) hx hb dX8_copy_142 hl (by decide) rfl (fun ls hl => ?_)
                refine lX8_copy_144 C0 a1 a2 a3 a4 a5 post _ (fun x26 σ27 H locs ls hw hO hl => ?_) 1000 _ _ _ _ _ hw hO (lv_sub hl [1, 2, 3, 4, 5, 6, 0] rfl)
                refine lv_aload_n hx hb dX8_copy_179 rfl (lv_at hl 0 rfl) ?_
                refine lv_iload hx hb dX8_copy_180 (lv_at hl 5 rfl) ?_
                refine x_calli C0 hO (x_runV (As := [.int a5]) (rest := []) C0 hO (kX8_refused l g _ a5 σ27 _ hw) 1 rfl (xRecv C0 hO (j := 24) rfl rfl) gX8_copy_X8_refused rfl rfl rfl hdX8_refused ⟨Nat.le_of_ble_eq_true rfl, Nat.le_of_ble_eq_true rfl⟩ hl.1 rfl (Nat.le_of_ble_eq_true rfl) dX8_copy_182 ⟨Nat.le_of_ble_eq_true rfl, Nat.le_of_ble_eq_true rfl⟩) (fun r28 σ29 H locs hw hO => ?_)
                exact x_iret C0 hO hw dX8_copy_185
              · replace hw := hw.2 c17
                refine lv_aload_n hx hb dX8_copy_98 rfl (lv_at hl 0 rfl) ?_
                refine lv_iconst (v := 3) hx hb dX8_copy_99 (by decide) ?_
                refine x_calli C0 hO (x_runV (As := [.int (3 : Int32)]) (rest := []) C0 hO (kX8_failed l g _ (3 : Int32) σ _ hw) 1 rfl (xRecv C0 hO (j := 24) rfl rfl) gX8_copy_X8_failed rfl rfl rfl hdX8_failed ⟨Nat.le_of_ble_eq_true rfl, Nat.le_of_ble_eq_true rfl⟩ hl.1 rfl (Nat.le_of_ble_eq_true rfl) dX8_copy_100 ⟨Nat.le_of_ble_eq_true rfl, Nat.le_of_ble_eq_true rfl⟩) (fun r30 σ31 H locs hw hO => ?_)
                exact x_iret C0 hO hw dX8_copy_103
          · replace hw := hw.2 c11
            refine lv_aload_n hx hb dX8_copy_59 rfl (lv_at hl 0 rfl) ?_
            refine lv_iconst (v := 2) hx hb dX8_copy_60 (by decide) ?_
            refine x_calli C0 hO (x_runV (As := [.int (2 : Int32)]) (rest := []) C0 hO (kX8_failed l g _ (2 : Int32) σ _ hw) 1 rfl (xRecv C0 hO (j := 24) rfl rfl) gX8_copy_X8_failed rfl rfl rfl hdX8_failed ⟨Nat.le_of_ble_eq_true rfl, Nat.le_of_ble_eq_true rfl⟩ hl.1 rfl (Nat.le_of_ble_eq_true rfl) dX8_copy_61 ⟨Nat.le_of_ble_eq_true rfl, Nat.le_of_ble_eq_true rfl⟩) (fun r32 σ33 H locs hw hO => ?_)
            exact x_iret C0 hO hw dX8_copy_64
        · replace hw := hw.2 c10
          refine lv_aload_n hx hb dX8_copy_38 rfl (lv_at hl 0 rfl) ?_
          refine lv_iconst (v := 1) hx hb dX8_copy_39 (by decide) ?_
          refine x_calli C0 hO (x_runV (As := [.int (1 : Int32)]) (rest := []) C0 hO (kX8_failed l g _ (1 : Int32) σ _ hw) 1 rfl (xRecv C0 hO (j := 24) rfl rfl) gX8_copy_X8_failed rfl rfl rfl hdX8_failed ⟨Nat.le_of_ble_eq_true rfl, Nat.le_of_ble_eq_true rfl⟩ hl.1 rfl (Nat.le_of_ble_eq_true rfl) dX8_copy_40 ⟨Nat.le_of_ble_eq_true rfl, Nat.le_of_ble_eq_true rfl⟩) (fun r34 σ35 H locs hw hO => ?_)
          exact x_iret C0 hO hw dX8_copy_43
    · replace hw := hw.2 c6
      refine lv_aload_n hx hb dX8_copy_14 rfl (lv_at hl 0 rfl) ?_
      refine lv_iconst (v := -1) hx hb dX8_copy_15 (by decide) ?_
      refine x_calli C0 hO (x_runV (As := [.int (-1 : Int32)]) (rest := []) C0 hO (kX8_refused l g _ (-1 : Int32) σ _ hw) 1 rfl (xRecv C0 hO (j := 24) rfl rfl) gX8_copy_X8_refused rfl rfl rfl hdX8_refused ⟨Nat.le_of_ble_eq_true rfl, Nat.le_of_ble_eq_true rfl⟩ hl.1 rfl (Nat.le_of_ble_eq_true rfl) dX8_copy_16 ⟨Nat.le_of_ble_eq_true rfl, Nat.le_of_ble_eq_true rfl⟩) (fun r36 σ37 H locs hw hO => ?_)
      exact x_iret C0 hO hw dX8_copy_19
theorem iX8_traced_8 : ∀ w ∈ wsX80, w ∈ wsX8_traced := fun w h => List.mem_cons_of_mem _ (List.mem_append_right _ h)
theorem hdX8_traced : yX8_traced.cls = RX8 ∧ yX8_traced.cls ≠ "java/lang/invoke/MethodHandle" ∧ yX8_traced.cls ≠ "java/lang/invoke/VarHandle" ∧ (parseMethodDescriptor yX8_traced.desc).map (fun d => d.parameters.length) = some 1 := by decide +kernel
set_option maxHeartbeats 4000000 in
set_option maxRecDepth 100000 in
theorem kX8_traced (l : Launch) (g : XG) (sz : Nat) (a1 : Int32) (σ : XS) (post : XS → Prop) (hw : PX8_traced a1 σ post) : xMv l yX8_traced wsX8_traced rmX8_traced 0 0 g sz [.ref (xa g 24), .int a1] σ post := by
  unfold PX8_traced at hw
  refine x_head (Qc := fun A => va_Qv post (xAt g A) A) (cc := cX8_traced) (maxL := 2) (ret := none) (by decide) rfl ?_
  intro p e s m below meth c A C0 hnm hO
  refine x_entry (Nat.le_of_ble_eq_true rfl) (fun ls hl => ?_)
  have hl : lv_has ls 2 [(0, .ref (xa g 24)), (1, .int a1)] := hl
  have hx := C0.1
  have hb := C0.2.1
  have hown := C0.2.2.2.2.2.1
  have hts := C0.2.2.2.2.2.2.1
  refine lv_aload_n hx hb dX8_traced_0 rfl (lv_at hl 0 rfl) ?_
  refine lv_bipush (v := 31) hx hb dX8_traced_1 (by decide) ?_
  refine lv_aload_n hx hb dX8_traced_3 rfl (lv_at hl 0 rfl) ?_
  refine x_geti C0 hO 24 41 rfl rfl (by decide) rfl iX8_traced_8 rfl (List.mem_of_getElem? (i := 1) rfl) dX8_traced_4 ?_
  refine lv_imul hx hb dX8_traced_7 ?_
  refine lv_iload_n hx hb dX8_traced_8 rfl (lv_at hl 1 rfl) ?_
  refine lv_iadd hx hb dX8_traced_9 ?_
  refine x_puti C0 hO 24 41 tyX8 tyX8_ok nmX8 rfl rfl (by decide) rfl iX8_traced_8 rfl rfl rfl (List.mem_of_getElem? (i := 1) rfl) dX8_traced_10 (fun σ1 H locs eσ1 hO => ?_)
  replace hw := hw σ1 eσ1
  exact x_vret C0 hO hw dX8_traced_13
theorem iX8_tell_8 : ∀ w ∈ wsX80, w ∈ wsX8_tell := fun w h => List.mem_cons_of_mem _ (List.mem_append_right _ h)
theorem hdX8_tell : yX8_tell.cls = RX8 ∧ yX8_tell.cls ≠ "java/lang/invoke/MethodHandle" ∧ yX8_tell.cls ≠ "java/lang/invoke/VarHandle" ∧ (parseMethodDescriptor yX8_tell.desc).map (fun d => d.parameters.length) = some 1 := by decide +kernel
set_option maxHeartbeats 4000000 in
set_option maxRecDepth 100000 in
theorem kX8_tell (l : Launch) (g : XG) (sz : Nat) (a1 : Int32) (σ : XS) (post : Int32 → XS → Prop) (hw : PX8_tell a1 σ post) : xMi l yX8_tell wsX8_tell rmX8_tell 0 0 g sz [.ref (xa g 24), .int a1] σ post := by
  unfold PX8_tell at hw
  refine x_head (Qc := fun A => va_Qi post (xAt g A) A) (cc := cX8_tell) (maxL := 4) (ret := (some .int)) (by decide) rfl ?_
  intro p e s m below meth c A C0 hnm hO
  refine x_entry (Nat.le_of_ble_eq_true rfl) (fun ls hl => ?_)
  have hl : lv_has ls 4 [(0, .ref (xa g 24)), (1, .int a1)] := hl
  have hx := C0.1
  have hb := C0.2.1
  have hown := C0.2.2.2.2.2.1
  have hts := C0.2.2.2.2.2.2.1
  refine lv_aload_n hx hb dX8_tell_0 rfl (lv_at hl 0 rfl) ?_
  refine lv_iload_n hx hb dX8_tell_1 rfl (lv_at hl 1 rfl) ?_
  refine x_calli C0 hO (x_runV (As := [.int a1]) (rest := []) C0 hO (kX8_noPerson l g _ a1 σ _ hw) 1 rfl (xRecv C0 hO (j := 24) rfl rfl) gX8_tell_X8_noPerson rfl rfl rfl hdX8_noPerson ⟨Nat.le_of_ble_eq_true rfl, Nat.le_of_ble_eq_true rfl⟩ hl.1 rfl (Nat.le_of_ble_eq_true rfl) dX8_tell_2 ⟨Nat.le_of_ble_eq_true rfl, Nat.le_of_ble_eq_true rfl⟩) (fun r1 σ' H locs hw hO => ?_)
  obtain ⟨hσ, hw⟩ := hw
  subst hσ
  refine lv_if_eq (tgt := 10) hx hb dX8_tell_5 (by decide) (fun c2 => ?_) (fun c2 => ?_)
  · replace hw := hw.1 c2
    refine lv_aload_n hx hb dX8_tell_10 rfl (lv_at hl 0 rfl) ?_
    refine x_getr C0 hO 24 3 25 rfl rfl (by decide) rfl iX8_tell_8 rfl (List.mem_of_getElem? (i := 1) rfl) dX8_tell_11 ?_
    refine lv_iload_n hx hb dX8_tell_14 rfl (lv_at hl 1 rfl) ?_
    refine x_iald C0 hO 25 rfl hw.1 dX8_tell_15 ?_
    replace hw := hw.2
    refine lv_topi (fun x3 ex3 => ?_)
    replace hw := hw x3 ex3
    refine lv_istore_n (lv' := [(2, .int x3), (0, .ref (xa g 24)), (1, .int a1)]) hx hb dX8_tell_16 rfl hl (by decide) rfl (fun ls hl => ?_)
    refine lv_iload_n hx hb dX8_tell_17 rfl (lv_at hl 0 rfl) ?_
    refine lv_iconst (v := 2) hx hb dX8_tell_18 (by decide) ?_
    refine lv_icmp_ne (tgt := 27) hx hb dX8_tell_19 (by decide) (fun c4 => ?_) (fun c4 => ?_)
    · replace hw := hw.2 c4
      refine lv_iload_n hx hb dX8_tell_27 rfl (lv_at hl 0 rfl) ?_
      refine lv_if_le (tgt := 36) hx hb dX8_tell_28 (by decide) (fun c5 => ?_) (fun c5 => ?_)
      · replace hw := hw.1 c5
        refine lv_aload_n hx hb dX8_tell_36 rfl (lv_at hl 1 rfl) ?_
        refine lv_iconst (v := 1) hx hb dX8_tell_37 (by decide) ?_
        refine x_callv C0 hO (x_runV (As := [.int (1 : Int32)]) (rest := []) C0 hO (kX8_traced l g _ (1 : Int32) σ _ hw) 1 rfl (xRecv C0 hO (j := 24) rfl rfl) gX8_tell_X8_traced rfl rfl rfl hdX8_traced ⟨Nat.le_of_ble_eq_true rfl, Nat.le_of_ble_eq_true rfl⟩ hl.1 rfl (Nat.le_of_ble_eq_true rfl) dX8_tell_38 ⟨Nat.le_of_ble_eq_true rfl, Nat.le_of_ble_eq_true rfl⟩) (fun σ6 H locs hw hO => ?_)
        refine lv_iload_n hx hb dX8_tell_41 rfl (lv_at hl 0 rfl) ?_
        refine lv_iconst (v := 2) hx hb dX8_tell_42 (by decide) ?_
        refine lv_icmp_ne (tgt := 51) hx hb dX8_tell_43 (by decide) (fun c7 => ?_) (fun c7 => ?_)
        · replace hw := hw.2 c7
          refine lv_aload_n hx hb dX8_tell_51 rfl (lv_at hl 1 rfl) ?_
          refine x_getr C0 hO 24 4 26 rfl rfl (by decide) rfl iX8_tell_8 rfl (List.mem_of_getElem? (i := 2) rfl) dX8_tell_52 ?_
          refine lv_iload_n hx hb dX8_tell_55 rfl (lv_at hl 2 rfl) ?_
          refine x_iald C0 hO 26 rfl hw.1 dX8_tell_56 ?_
          replace hw := hw.2
          refine lv_topi (fun x8 ex8 => ?_)
          replace hw := hw x8 ex8
          refine lv_istore_n (lv' := [(3, .int x8), (2, .int x3), (0, .ref (xa g 24)), (1, .int a1)]) hx hb dX8_tell_57 rfl hl (by decide) rfl (fun ls hl => ?_)
          refine lv_iload_n hx hb dX8_tell_58 rfl (lv_at hl 1 rfl) ?_
          refine lv_if_ne (tgt := 66) hx hb dX8_tell_59 (by decide) (fun c9 => ?_) (fun c9 => ?_)
          · replace hw := hw.2 c9
            refine lv_iload_n hx hb dX8_tell_66 rfl (lv_at hl 1 rfl) ?_
            refine lv_iconst (v := 1) hx hb dX8_tell_67 (by decide) ?_
            refine lv_icmp_ne (tgt := 78) hx hb dX8_tell_68 (by decide) (fun c10 => ?_) (fun c10 => ?_)
            · replace hw := hw.2 c10
              refine lv_iconst (v := 2) hx hb dX8_tell_78 (by decide) ?_
              refine lv_iload_n hx hb dX8_tell_79 rfl (lv_at hl 0 rfl) ?_
              refine lv_imul hx hb dX8_tell_80 ?_
              refine lv_bipush (v := 100) hx hb dX8_tell_81 (by decide) ?_
              refine lv_iadd hx hb dX8_tell_83 ?_
              exact x_iret C0 hO hw dX8_tell_84
            · replace hw := hw.1 c10
              refine lv_iload_n hx hb dX8_tell_71 rfl (lv_at hl 0 rfl) ?_
              refine lv_bipush (v := 100) hx hb dX8_tell_72 (by decide) ?_
              refine lv_iadd hx hb dX8_tell_74 ?_
              refine lv_goto (tgt := 84) hx hb dX8_tell_75 (by decide) ?_
              exact x_iret C0 hO hw dX8_tell_84
          · replace hw := hw.1 c9
            refine lv_iload_n hx hb dX8_tell_62 rfl (lv_at hl 0 rfl) ?_
            refine lv_goto (tgt := 84) hx hb dX8_tell_63 (by decide) ?_
            exact x_iret C0 hO hw dX8_tell_84
        · replace hw := hw.1 c7
          refine lv_aload_n hx hb dX8_tell_46 rfl (lv_at hl 1 rfl) ?_
          refine lv_iconst (v := 1) hx hb dX8_tell_47 (by decide) ?_
          refine x_callv C0 hO (x_runV (As := [.int (1 : Int32)]) (rest := []) C0 hO (kX8_traced l g _ (1 : Int32) σ6 _ hw) 1 rfl (xRecv C0 hO (j := 24) rfl rfl) gX8_tell_X8_traced rfl rfl rfl hdX8_traced ⟨Nat.le_of_ble_eq_true rfl, Nat.le_of_ble_eq_true rfl⟩ hl.1 rfl (Nat.le_of_ble_eq_true rfl) dX8_tell_48 ⟨Nat.le_of_ble_eq_true rfl, Nat.le_of_ble_eq_true rfl⟩) (fun σ11 H locs hw hO => ?_)
          refine lv_aload_n hx hb dX8_tell_51 rfl (lv_at hl 1 rfl) ?_
          refine x_getr C0 hO 24 4 26 rfl rfl (by decide) rfl iX8_tell_8 rfl (List.mem_of_getElem? (i := 2) rfl) dX8_tell_52 ?_
          refine lv_iload_n hx hb dX8_tell_55 rfl (lv_at hl 2 rfl) ?_
          refine x_iald C0 hO 26 rfl hw.1 dX8_tell_56 ?_
          replace hw := hw.2
          refine lv_topi (fun x12 ex12 => ?_)
          replace hw := hw x12 ex12
          refine lv_istore_n (lv' := [(3, .int x12), (2, .int x3), (0, .ref (xa g 24)), (1, .int a1)]) hx hb dX8_tell_57 rfl hl (by decide) rfl (fun ls hl => ?_)
          refine lv_iload_n hx hb dX8_tell_58 rfl (lv_at hl 1 rfl) ?_
          refine lv_if_ne (tgt := 66) hx hb dX8_tell_59 (by decide) (fun c13 => ?_) (fun c13 => ?_)
          · replace hw := hw.2 c13
            refine lv_iload_n hx hb dX8_tell_66 rfl (lv_at hl 1 rfl) ?_
            refine lv_iconst (v := 1) hx hb dX8_tell_67 (by decide) ?_
            refine lv_icmp_ne (tgt := 78) hx hb dX8_tell_68 (by decide) (fun c14 => ?_) (fun c14 => ?_)
            · replace hw := hw.2 c14
              refine lv_iconst (v := 2) hx hb dX8_tell_78 (by decide) ?_
              refine lv_iload_n hx hb dX8_tell_79 rfl (lv_at hl 0 rfl) ?_
              refine lv_imul hx hb dX8_tell_80 ?_
              refine lv_bipush (v := 100) hx hb dX8_tell_81 (by decide) ?_
              refine lv_iadd hx hb dX8_tell_83 ?_
              exact x_iret C0 hO hw dX8_tell_84
            · replace hw := hw.1 c14
              refine lv_iload_n hx hb dX8_tell_71 rfl (lv_at hl 0 rfl) ?_
              refine lv_bipush (v := 100) hx hb dX8_tell_72 (by decide) ?_
              refine lv_iadd hx hb dX8_tell_74 ?_
              refine lv_goto (tgt := 84) hx hb dX8_tell_75 (by decide) ?_
              exact x_iret C0 hO hw dX8_tell_84
          · replace hw := hw.1 c13
            refine lv_iload_n hx hb dX8_tell_62 rfl (lv_at hl 0 rfl) ?_
            refine lv_goto (tgt := 84) hx hb dX8_tell_63 (by decide) ?_
            exact x_iret C0 hO hw dX8_tell_84
      · replace hw := hw.2 c5
        refine lv_aload_n hx hb dX8_tell_31 rfl (lv_at hl 1 rfl) ?_
        refine lv_iconst (v := 2) hx hb dX8_tell_32 (by decide) ?_
        refine x_callv C0 hO (x_runV (As := [.int (2 : Int32)]) (rest := []) C0 hO (kX8_traced l g _ (2 : Int32) σ _ hw) 1 rfl (xRecv C0 hO (j := 24) rfl rfl) gX8_tell_X8_traced rfl rfl rfl hdX8_traced ⟨Nat.le_of_ble_eq_true rfl, Nat.le_of_ble_eq_true rfl⟩ hl.1 rfl (Nat.le_of_ble_eq_true rfl) dX8_tell_33 ⟨Nat.le_of_ble_eq_true rfl, Nat.le_of_ble_eq_true rfl⟩) (fun σ15 H locs hw hO => ?_)
        refine lv_aload_n hx hb dX8_tell_36 rfl (lv_at hl 1 rfl) ?_
        refine lv_iconst (v := 1) hx hb dX8_tell_37 (by decide) ?_
        refine x_callv C0 hO (x_runV (As := [.int (1 : Int32)]) (rest := []) C0 hO (kX8_traced l g _ (1 : Int32) σ15 _ hw) 1 rfl (xRecv C0 hO (j := 24) rfl rfl) gX8_tell_X8_traced rfl rfl rfl hdX8_traced ⟨Nat.le_of_ble_eq_true rfl, Nat.le_of_ble_eq_true rfl⟩ hl.1 rfl (Nat.le_of_ble_eq_true rfl) dX8_tell_38 ⟨Nat.le_of_ble_eq_true rfl, Nat.le_of_ble_eq_true rfl⟩) (fun σ16 H locs hw hO => ?_)
        refine lv_iload_n hx hb dX8_tell_41 rfl (lv_at hl 0 rfl) ?_
        refine lv_iconst (v := 2) hx hb dX8_tell_42 (by decide) ?_
        refine lv_icmp_ne (tgt := 51) hx hb dX8_tell_43 (by decide) (fun c17 => ?_) (fun c17 => ?_)
        · replace hw := hw.2 c17
          refine lv_aload_n hx hb dX8_tell_51 rfl (lv_at hl 1 rfl) ?_
          refine x_getr C0 hO 24 4 26 rfl rfl (by decide) rfl iX8_tell_8 rfl (List.mem_of_getElem? (i := 2) rfl) dX8_tell_52 ?_
          refine lv_iload_n hx hb dX8_tell_55 rfl (lv_at hl 2 rfl) ?_
          refine x_iald C0 hO 26 rfl hw.1 dX8_tell_56 ?_
          replace hw := hw.2
          refine lv_topi (fun x18 ex18 => ?_)
          replace hw := hw x18 ex18
          refine lv_istore_n (lv' := [(3, .int x18), (2, .int x3), (0, .ref (xa g 24)), (1, .int a1)]) hx hb dX8_tell_57 rfl hl (by decide) rfl (fun ls hl => ?_)
          refine lv_iload_n hx hb dX8_tell_58 rfl (lv_at hl 1 rfl) ?_
          refine lv_if_ne (tgt := 66) hx hb dX8_tell_59 (by decide) (fun c19 => ?_) (fun c19 => ?_)
          · replace hw := hw.2 c19
            refine lv_iload_n hx hb dX8_tell_66 rfl (lv_at hl 1 rfl) ?_
            refine lv_iconst (v := 1) hx hb dX8_tell_67 (by decide) ?_
            refine lv_icmp_ne (tgt := 78) hx hb dX8_tell_68 (by decide) (fun c20 => ?_) (fun c20 => ?_)
            · replace hw := hw.2 c20
              refine lv_iconst (v := 2) hx hb dX8_tell_78 (by decide) ?_
              refine lv_iload_n hx hb dX8_tell_79 rfl (lv_at hl 0 rfl) ?_
              refine lv_imul hx hb dX8_tell_80 ?_
              refine lv_bipush (v := 100) hx hb dX8_tell_81 (by decide) ?_
              refine lv_iadd hx hb dX8_tell_83 ?_
              exact x_iret C0 hO hw dX8_tell_84
            · replace hw := hw.1 c20
              refine lv_iload_n hx hb dX8_tell_71 rfl (lv_at hl 0 rfl) ?_
              refine lv_bipush (v := 100) hx hb dX8_tell_72 (by decide) ?_
              refine lv_iadd hx hb dX8_tell_74 ?_
              refine lv_goto (tgt := 84) hx hb dX8_tell_75 (by decide) ?_
              exact x_iret C0 hO hw dX8_tell_84
          · replace hw := hw.1 c19
            refine lv_iload_n hx hb dX8_tell_62 rfl (lv_at hl 0 rfl) ?_
            refine lv_goto (tgt := 84) hx hb dX8_tell_63 (by decide) ?_
            exact x_iret C0 hO hw dX8_tell_84
        · replace hw := hw.1 c17
          refine lv_aload_n hx hb dX8_tell_46 rfl (lv_at hl 1 rfl) ?_
          refine lv_iconst (v := 1) hx hb dX8_tell_47 (by decide) ?_
          refine x_callv C0 hO (x_runV (As := [.int (1 : Int32)]) (rest := []) C0 hO (kX8_traced l g _ (1 : Int32) σ16 _ hw) 1 rfl (xRecv C0 hO (j := 24) rfl rfl) gX8_tell_X8_traced rfl rfl rfl hdX8_traced ⟨Nat.le_of_ble_eq_true rfl, Nat.le_of_ble_eq_true rfl⟩ hl.1 rfl (Nat.le_of_ble_eq_true rfl) dX8_tell_48 ⟨Nat.le_of_ble_eq_true rfl, Nat.le_of_ble_eq_true rfl⟩) (fun σ21 H locs hw hO => ?_)
          refine lv_aload_n hx hb dX8_tell_51 rfl (lv_at hl 1 rfl) ?_
          refine x_getr C0 hO 24 4 26 rfl rfl (by decide) rfl iX8_tell_8 rfl (List.mem_of_getElem? (i := 2) rfl) dX8_tell_52 ?_
          refine lv_iload_n hx hb dX8_tell_55 rfl (lv_at hl 2 rfl) ?_
          refine x_iald C0 hO 26 rfl hw.1 dX8_tell_56 ?_
          replace hw := hw.2
          refine lv_topi (fun x22 ex22 => ?_)
          replace hw := hw x22 ex22
          refine lv_istore_n (lv' := [(3, .int x22), (2, .int x3), (0, .ref (xa g 24)), (1, .int a1)]) hx hb dX8_tell_57 rfl hl (by decide) rfl (fun ls hl => ?_)
          refine lv_iload_n hx hb dX8_tell_58 rfl (lv_at hl 1 rfl) ?_
          refine lv_if_ne (tgt := 66) hx hb dX8_tell_59 (by decide) (fun c23 => ?_) (fun c23 => ?_)
          · replace hw := hw.2 c23
            refine lv_iload_n hx hb dX8_tell_66 rfl (lv_at hl 1 rfl) ?_
            refine lv_iconst (v := 1) hx hb dX8_tell_67 (by decide) ?_
            refine lv_icmp_ne (tgt := 78) hx hb dX8_tell_68 (by decide) (fun c24 => ?_) (fun c24 => ?_)
            · replace hw := hw.2 c24
              refine lv_iconst (v := 2) hx hb dX8_tell_78 (by decide) ?_
              refine lv_iload_n hx hb dX8_tell_79 rfl (lv_at hl 0 rfl) ?_
              refine lv_imul hx hb dX8_tell_80 ?_
              refine lv_bipush (v := 100) hx hb dX8_tell_81 (by decide) ?_
              refine lv_iadd hx hb dX8_tell_83 ?_
              exact x_iret C0 hO hw dX8_tell_84
            · replace hw := hw.1 c24
              refine lv_iload_n hx hb dX8_tell_71 rfl (lv_at hl 0 rfl) ?_
              refine lv_bipush (v := 100) hx hb dX8_tell_72 (by decide) ?_
              refine lv_iadd hx hb dX8_tell_74 ?_
              refine lv_goto (tgt := 84) hx hb dX8_tell_75 (by decide) ?_
              exact x_iret C0 hO hw dX8_tell_84
          · replace hw := hw.1 c23
            refine lv_iload_n hx hb dX8_tell_62 rfl (lv_at hl 0 rfl) ?_
            refine lv_goto (tgt := 84) hx hb dX8_tell_63 (by decide) ?_
            exact x_iret C0 hO hw dX8_tell_84
    · replace hw := hw.1 c4
      refine lv_aload_n hx hb dX8_tell_22 rfl (lv_at hl 1 rfl) ?_
      refine lv_iconst (v := 3) hx hb dX8_tell_23 (by decide) ?_
      refine x_callv C0 hO (x_runV (As := [.int (3 : Int32)]) (rest := []) C0 hO (kX8_traced l g _ (3 : Int32) σ _ hw) 1 rfl (xRecv C0 hO (j := 24) rfl rfl) gX8_tell_X8_traced rfl rfl rfl hdX8_traced ⟨Nat.le_of_ble_eq_true rfl, Nat.le_of_ble_eq_true rfl⟩ hl.1 rfl (Nat.le_of_ble_eq_true rfl) dX8_tell_24 ⟨Nat.le_of_ble_eq_true rfl, Nat.le_of_ble_eq_true rfl⟩) (fun σ25 H locs hw hO => ?_)
      refine lv_iload_n hx hb dX8_tell_27 rfl (lv_at hl 0 rfl) ?_
      refine lv_if_le (tgt := 36) hx hb dX8_tell_28 (by decide) (fun c26 => ?_) (fun c26 => ?_)
      · replace hw := hw.1 c26
        refine lv_aload_n hx hb dX8_tell_36 rfl (lv_at hl 1 rfl) ?_
        refine lv_iconst (v := 1) hx hb dX8_tell_37 (by decide) ?_
        refine x_callv C0 hO (x_runV (As := [.int (1 : Int32)]) (rest := []) C0 hO (kX8_traced l g _ (1 : Int32) σ25 _ hw) 1 rfl (xRecv C0 hO (j := 24) rfl rfl) gX8_tell_X8_traced rfl rfl rfl hdX8_traced ⟨Nat.le_of_ble_eq_true rfl, Nat.le_of_ble_eq_true rfl⟩ hl.1 rfl (Nat.le_of_ble_eq_true rfl) dX8_tell_38 ⟨Nat.le_of_ble_eq_true rfl, Nat.le_of_ble_eq_true rfl⟩) (fun σ27 H locs hw hO => ?_)
        refine lv_iload_n hx hb dX8_tell_41 rfl (lv_at hl 0 rfl) ?_
        refine lv_iconst (v := 2) hx hb dX8_tell_42 (by decide) ?_
        refine lv_icmp_ne (tgt := 51) hx hb dX8_tell_43 (by decide) (fun c28 => ?_) (fun c28 => ?_)
        · replace hw := hw.2 c28
          refine lv_aload_n hx hb dX8_tell_51 rfl (lv_at hl 1 rfl) ?_
          refine x_getr C0 hO 24 4 26 rfl rfl (by decide) rfl iX8_tell_8 rfl (List.mem_of_getElem? (i := 2) rfl) dX8_tell_52 ?_
          refine lv_iload_n hx hb dX8_tell_55 rfl (lv_at hl 2 rfl) ?_
          refine x_iald C0 hO 26 rfl hw.1 dX8_tell_56 ?_
          replace hw := hw.2
          refine lv_topi (fun x29 ex29 => ?_)
          replace hw := hw x29 ex29
          refine lv_istore_n (lv' := [(3, .int x29), (2, .int x3), (0, .ref (xa g 24)), (1, .int a1)]) hx hb dX8_tell_57 rfl hl (by decide) rfl (fun ls hl => ?_)
          refine lv_iload_n hx hb dX8_tell_58 rfl (lv_at hl 1 rfl) ?_
          refine lv_if_ne (tgt := 66) hx hb dX8_tell_59 (by decide) (fun c30 => ?_) (fun c30 => ?_)
          · replace hw := hw.2 c30
            refine lv_iload_n hx hb dX8_tell_66 rfl (lv_at hl 1 rfl) ?_
            refine lv_iconst (v := 1) hx hb dX8_tell_67 (by decide) ?_
            refine lv_icmp_ne (tgt := 78) hx hb dX8_tell_68 (by decide) (fun c31 => ?_) (fun c31 => ?_)
            · replace hw := hw.2 c31
              refine lv_iconst (v := 2) hx hb dX8_tell_78 (by decide) ?_
              refine lv_iload_n hx hb dX8_tell_79 rfl (lv_at hl 0 rfl) ?_
              refine lv_imul hx hb dX8_tell_80 ?_
              refine lv_bipush (v := 100) hx hb dX8_tell_81 (by decide) ?_
              refine lv_iadd hx hb dX8_tell_83 ?_
              exact x_iret C0 hO hw dX8_tell_84
            · replace hw := hw.1 c31
              refine lv_iload_n hx hb dX8_tell_71 rfl (lv_at hl 0 rfl) ?_
              refine lv_bipush (v := 100) hx hb dX8_tell_72 (by decide) ?_
              refine lv_iadd hx hb dX8_tell_74 ?_
              refine lv_goto (tgt := 84) hx hb dX8_tell_75 (by decide) ?_
              exact x_iret C0 hO hw dX8_tell_84
          · replace hw := hw.1 c30
            refine lv_iload_n hx hb dX8_tell_62 rfl (lv_at hl 0 rfl) ?_
            refine lv_goto (tgt := 84) hx hb dX8_tell_63 (by decide) ?_
            exact x_iret C0 hO hw dX8_tell_84
        · replace hw := hw.1 c28
          refine lv_aload_n hx hb dX8_tell_46 rfl (lv_at hl 1 rfl) ?_
          refine lv_iconst (v := 1) hx hb dX8_tell_47 (by decide) ?_
          refine x_callv C0 hO (x_runV (As := [.int (1 : Int32)]) (rest := []) C0 hO (kX8_traced l g _ (1 : Int32) σ27 _ hw) 1 rfl (xRecv C0 hO (j := 24) rfl rfl) gX8_tell_X8_traced rfl rfl rfl hdX8_traced ⟨Nat.le_of_ble_eq_true rfl, Nat.le_of_ble_eq_true rfl⟩ hl.1 rfl (Nat.le_of_ble_eq_true rfl) dX8_tell_48 ⟨Nat.le_of_ble_eq_true rfl, Nat.le_of_ble_eq_true rfl⟩) (fun σ32 H locs hw hO => ?_)
          refine lv_aload_n hx hb dX8_tell_51 rfl (lv_at hl 1 rfl) ?_
          refine x_getr C0 hO 24 4 26 rfl rfl (by decide) rfl iX8_tell_8 rfl (List.mem_of_getElem? (i := 2) rfl) dX8_tell_52 ?_
          refine lv_iload_n hx hb dX8_tell_55 rfl (lv_at hl 2 rfl) ?_
          refine x_iald C0 hO 26 rfl hw.1 dX8_tell_56 ?_
          replace hw := hw.2
          refine lv_topi (fun x33 ex33 => ?_)
          replace hw := hw x33 ex33
          refine lv_istore_n (lv' := [(3, .int x33), (2, .int x3), (0, .ref (xa g 24)), (1, .int a1)]) hx hb dX8_tell_57 rfl hl (by decide) rfl (fun ls hl => ?_)
          refine lv_iload_n hx hb dX8_tell_58 rfl (lv_at hl 1 rfl) ?_
          refine lv_if_ne (tgt := 66) hx hb dX8_tell_59 (by decide) (fun c34 => ?_) (fun c34 => ?_)
          · replace hw := hw.2 c34
            refine lv_iload_n hx hb dX8_tell_66 rfl (lv_at hl 1 rfl) ?_
            refine lv_iconst (v := 1) hx hb dX8_tell_67 (by decide) ?_
            refine lv_icmp_ne (tgt := 78) hx hb dX8_tell_68 (by decide) (fun c35 => ?_) (fun c35 => ?_)
            · replace hw := hw.2 c35
              refine lv_iconst (v := 2) hx hb dX8_tell_78 (by decide) ?_
              refine lv_iload_n hx hb dX8_tell_79 rfl (lv_at hl 0 rfl) ?_
              refine lv_imul hx hb dX8_tell_80 ?_
              refine lv_bipush (v := 100) hx hb dX8_tell_81 (by decide) ?_
              refine lv_iadd hx hb dX8_tell_83 ?_
              exact x_iret C0 hO hw dX8_tell_84
            · replace hw := hw.1 c35
              refine lv_iload_n hx hb dX8_tell_71 rfl (lv_at hl 0 rfl) ?_
              refine lv_bipush (v := 100) hx hb dX8_tell_72 (by decide) ?_
              refine lv_iadd hx hb dX8_tell_74 ?_
              refine lv_goto (tgt := 84) hx hb dX8_tell_75 (by decide) ?_
              exact x_iret C0 hO hw dX8_tell_84
          · replace hw := hw.1 c34
            refine lv_iload_n hx hb dX8_tell_62 rfl (lv_at hl 0 rfl) ?_
            refine lv_goto (tgt := 84) hx hb dX8_tell_63 (by decide) ?_
            exact x_iret C0 hO hw dX8_tell_84
      · replace hw := hw.2 c26
        refine lv_aload_n hx hb dX8_tell_31 rfl (lv_at hl 1 rfl) ?_
        refine lv_iconst (v := 2) hx hb dX8_tell_32 (by decide) ?_
        refine x_callv C0 hO (x_runV (As := [.int (2 : Int32)]) (rest := []) C0 hO (kX8_traced l g _ (2 : Int32) σ25 _ hw) 1 rfl (xRecv C0 hO (j := 24) rfl rfl) gX8_tell_X8_traced rfl rfl rfl hdX8_traced ⟨Nat.le_of_ble_eq_true rfl, Nat.le_of_ble_eq_true rfl⟩ hl.1 rfl (Nat.le_of_ble_eq_true rfl) dX8_tell_33 ⟨Nat.le_of_ble_eq_true rfl, Nat.le_of_ble_eq_true rfl⟩) (fun σ36 H locs hw hO => ?_)
        refine lv_aload_n hx hb dX8_tell_36 rfl (lv_at hl 1 rfl) ?_
        refine lv_iconst (v := 1) hx hb dX8_tell_37 (by decide) ?_
        refine x_callv C0 hO (x_runV (As := [.int (1 : Int32)]) (rest := []) C0 hO (kX8_traced l g _ (1 : Int32) σ36 _ hw) 1 rfl (xRecv C0 hO (j := 24) rfl rfl) gX8_tell_X8_traced rfl rfl rfl hdX8_traced ⟨Nat.le_of_ble_eq_true rfl, Nat.le_of_ble_eq_true rfl⟩ hl.1 rfl (Nat.le_of_ble_eq_true rfl) dX8_tell_38 ⟨Nat.le_of_ble_eq_true rfl, Nat.le_of_ble_eq_true rfl⟩) (fun σ37 H locs hw hO => ?_)
        refine lv_iload_n hx hb dX8_tell_41 rfl (lv_at hl 0 rfl) ?_
        refine lv_iconst (v := 2) hx hb dX8_tell_42 (by decide) ?_
        refine lv_icmp_ne (tgt := 51) hx hb dX8_tell_43 (by decide) (fun c38 => ?_) (fun c38 => ?_)
        · replace hw := hw.2 c38
          refine lv_aload_n hx hb dX8_tell_51 rfl (lv_at hl 1 rfl) ?_
          refine x_getr C0 hO 24 4 26 rfl rfl (by decide) rfl iX8_tell_8 rfl (List.mem_of_getElem? (i := 2) rfl) dX8_tell_52 ?_
          refine lv_iload_n hx hb dX8_tell_55 rfl (lv_at hl 2 rfl) ?_
          refine x_iald C0 hO 26 rfl hw.1 dX8_tell_56 ?_
          replace hw := hw.2
          refine lv_topi (fun x39 ex39 => ?_)
          replace hw := hw x39 ex39
          refine lv_istore_n (lv' := [(3, .int x39), (2, .int x3), (0, .ref (xa g 24)), (1, .int a1)]) hx hb dX8_tell_57 rfl hl (by decide) rfl (fun ls hl => ?_)
          refine lv_iload_n hx hb dX8_tell_58 rfl (lv_at hl 1 rfl) ?_
          refine lv_if_ne (tgt := 66) hx hb dX8_tell_59 (by decide) (fun c40 => ?_) (fun c40 => ?_)
          · replace hw := hw.2 c40
            refine lv_iload_n hx hb dX8_tell_66 rfl (lv_at hl 1 rfl) ?_
            refine lv_iconst (v := 1) hx hb dX8_tell_67 (by decide) ?_
            refine lv_icmp_ne (tgt := 78) hx hb dX8_tell_68 (by decide) (fun c41 => ?_) (fun c41 => ?_)
            · replace hw := hw.2 c41
              refine lv_iconst (v := 2) hx hb dX8_tell_78 (by decide) ?_
              refine lv_iload_n hx hb dX8_tell_79 rfl (lv_at hl 0 rfl) ?_
              refine lv_imul hx hb dX8_tell_80 ?_
              refine lv_bipush (v := 100) hx hb dX8_tell_81 (by decide) ?_
              refine lv_iadd hx hb dX8_tell_83 ?_
              exact x_iret C0 hO hw dX8_tell_84
            · replace hw := hw.1 c41
              refine lv_iload_n hx hb dX8_tell_71 rfl (lv_at hl 0 rfl) ?_
              refine lv_bipush (v := 100) hx hb dX8_tell_72 (by decide) ?_
              refine lv_iadd hx hb dX8_tell_74 ?_
              refine lv_goto (tgt := 84) hx hb dX8_tell_75 (by decide) ?_
              exact x_iret C0 hO hw dX8_tell_84
          · replace hw := hw.1 c40
            refine lv_iload_n hx hb dX8_tell_62 rfl (lv_at hl 0 rfl) ?_
            refine lv_goto (tgt := 84) hx hb dX8_tell_63 (by decide) ?_
            exact x_iret C0 hO hw dX8_tell_84
        · replace hw := hw.1 c38
          refine lv_aload_n hx hb dX8_tell_46 rfl (lv_at hl 1 rfl) ?_
          refine lv_iconst (v := 1) hx hb dX8_tell_47 (by decide) ?_
          refine x_callv C0 hO (x_runV (As := [.int (1 : Int32)]) (rest := []) C0 hO (kX8_traced l g _ (1 : Int32) σ37 _ hw) 1 rfl (xRecv C0 hO (j := 24) rfl rfl) gX8_tell_X8_traced rfl rfl rfl hdX8_traced ⟨Nat.le_of_ble_eq_true rfl, Nat.le_of_ble_eq_true rfl⟩ hl.1 rfl (Nat.le_of_ble_eq_true rfl) dX8_tell_48 ⟨Nat.le_of_ble_eq_true rfl, Nat.le_of_ble_eq_true rfl⟩) (fun σ42 H locs hw hO => ?_)
          refine lv_aload_n hx hb dX8_tell_51 rfl (lv_at hl 1 rfl) ?_
          refine x_getr C0 hO 24 4 26 rfl rfl (by decide) rfl iX8_tell_8 rfl (List.mem_of_getElem? (i := 2) rfl) dX8_tell_52 ?_
          refine lv_iload_n hx hb dX8_tell_55 rfl (lv_at hl 2 rfl) ?_
          refine x_iald C0 hO 26 rfl hw.1 dX8_tell_56 ?_
          replace hw := hw.2
          refine lv_topi (fun x43 ex43 => ?_)
          replace hw := hw x43 ex43
          refine lv_istore_n (lv' := [(3, .int x43), (2, .int x3), (0, .ref (xa g 24)), (1, .int a1)]) hx hb dX8_tell_57 rfl hl (by decide) rfl (fun ls hl => ?_)
          refine lv_iload_n hx hb dX8_tell_58 rfl (lv_at hl 1 rfl) ?_
          refine lv_if_ne (tgt := 66) hx hb dX8_tell_59 (by decide) (fun c44 => ?_) (fun c44 => ?_)
          · replace hw := hw.2 c44
            refine lv_iload_n hx hb dX8_tell_66 rfl (lv_at hl 1 rfl) ?_
            refine lv_iconst (v := 1) hx hb dX8_tell_67 (by decide) ?_
            refine lv_icmp_ne (tgt := 78) hx hb dX8_tell_68 (by decide) (fun c45 => ?_) (fun c45 => ?_)
            · replace hw := hw.2 c45
              refine lv_iconst (v := 2) hx hb dX8_tell_78 (by decide) ?_
              refine lv_iload_n hx hb dX8_tell_79 rfl (lv_at hl 0 rfl) ?_
              refine lv_imul hx hb dX8_tell_80 ?_
              refine lv_bipush (v := 100) hx hb dX8_tell_81 (by decide) ?_
              refine lv_iadd hx hb dX8_tell_83 ?_
              exact x_iret C0 hO hw dX8_tell_84
            · replace hw := hw.1 c45
              refine lv_iload_n hx hb dX8_tell_71 rfl (lv_at hl 0 rfl) ?_
              refine lv_bipush (v := 100) hx hb dX8_tell_72 (by decide) ?_
              refine lv_iadd hx hb dX8_tell_74 ?_
              refine lv_goto (tgt := 84) hx hb dX8_tell_75 (by decide) ?_
              exact x_iret C0 hO hw dX8_tell_84
          · replace hw := hw.1 c44
            refine lv_iload_n hx hb dX8_tell_62 rfl (lv_at hl 0 rfl) ?_
            refine lv_goto (tgt := 84) hx hb dX8_tell_63 (by decide) ?_
            exact x_iret C0 hO hw dX8_tell_84
  · replace hw := hw.2 c2
    refine lv_iconst (v := -1) hx hb dX8_tell_8 (by decide) ?_
    exact x_iret C0 hO hw dX8_tell_9
theorem iX8_greet_8 : ∀ w ∈ wsX80, w ∈ wsX8_greet := fun w h => List.mem_cons_of_mem _ (List.mem_append_right _ h)
theorem hdX8_greet : yX8_greet.cls = RX8 ∧ yX8_greet.cls ≠ "java/lang/invoke/MethodHandle" ∧ yX8_greet.cls ≠ "java/lang/invoke/VarHandle" ∧ (parseMethodDescriptor yX8_greet.desc).map (fun d => d.parameters.length) = some 1 := by decide +kernel
set_option maxHeartbeats 4000000 in
set_option maxRecDepth 100000 in
theorem kX8_greet (l : Launch) (g : XG) (sz : Nat) (a1 : Int32) (σ : XS) (post : Int32 → XS → Prop) (hw : PX8_greet a1 σ post) : xMi l yX8_greet wsX8_greet rmX8_greet 0 0 g sz [.ref (xa g 24), .int a1] σ post := by
  unfold PX8_greet at hw
  refine x_head (Qc := fun A => va_Qi post (xAt g A) A) (cc := cX8_greet) (maxL := 2) (ret := (some .int)) (by decide) rfl ?_
  intro p e s m below meth c A C0 hnm hO
  refine x_entry (Nat.le_of_ble_eq_true rfl) (fun ls hl => ?_)
  have hl : lv_has ls 2 [(0, .ref (xa g 24)), (1, .int a1)] := hl
  have hx := C0.1
  have hb := C0.2.1
  have hown := C0.2.2.2.2.2.1
  have hts := C0.2.2.2.2.2.2.1
  refine lv_aload_n hx hb dX8_greet_0 rfl (lv_at hl 0 rfl) ?_
  refine lv_iload_n hx hb dX8_greet_1 rfl (lv_at hl 1 rfl) ?_
  refine x_calli C0 hO (x_runV (As := [.int a1]) (rest := []) C0 hO (kX8_noPerson l g _ a1 σ _ hw) 1 rfl (xRecv C0 hO (j := 24) rfl rfl) gX8_greet_X8_noPerson rfl rfl rfl hdX8_noPerson ⟨Nat.le_of_ble_eq_true rfl, Nat.le_of_ble_eq_true rfl⟩ hl.1 rfl (Nat.le_of_ble_eq_true rfl) dX8_greet_2 ⟨Nat.le_of_ble_eq_true rfl, Nat.le_of_ble_eq_true rfl⟩) (fun r1 σ' H locs hw hO => ?_)
  obtain ⟨hσ, hw⟩ := hw
  subst hσ
  refine lv_if_eq (tgt := 10) hx hb dX8_greet_5 (by decide) (fun c2 => ?_) (fun c2 => ?_)
  · replace hw := hw.1 c2
    refine lv_aload_n hx hb dX8_greet_10 rfl (lv_at hl 0 rfl) ?_
    refine lv_aload_n hx hb dX8_greet_11 rfl (lv_at hl 0 rfl) ?_
    refine x_getr C0 hO 24 3 25 rfl rfl (by decide) rfl iX8_greet_8 rfl (List.mem_of_getElem? (i := 1) rfl) dX8_greet_12 ?_
    refine lv_iload_n hx hb dX8_greet_15 rfl (lv_at hl 1 rfl) ?_
    refine x_iald C0 hO 25 rfl hw.1 dX8_greet_16 ?_
    replace hw := hw.2
    refine lv_iconst (v := 2) hx hb dX8_greet_17 (by decide) ?_
    refine lv_icmp_ne (tgt := 25) hx hb dX8_greet_18 (by decide) (fun c3 => ?_) (fun c3 => ?_)
    · replace hw := hw.2 c3
      refine lv_iconst (v := 4) hx hb dX8_greet_25 (by decide) ?_
      refine x_callv C0 hO (x_runV (As := [.int (4 : Int32)]) (rest := []) C0 hO (kX8_traced l g _ (4 : Int32) σ _ hw) 1 rfl (xRecv C0 hO (j := 24) rfl rfl) gX8_greet_X8_traced rfl rfl rfl hdX8_traced ⟨Nat.le_of_ble_eq_true rfl, Nat.le_of_ble_eq_true rfl⟩ hl.1 rfl (Nat.le_of_ble_eq_true rfl) dX8_greet_26 ⟨Nat.le_of_ble_eq_true rfl, Nat.le_of_ble_eq_true rfl⟩) (fun σ4 H locs hw hO => ?_)
      refine lv_aload_n hx hb dX8_greet_29 rfl (lv_at hl 0 rfl) ?_
      refine x_getr C0 hO 24 3 25 rfl rfl (by decide) rfl iX8_greet_8 rfl (List.mem_of_getElem? (i := 1) rfl) dX8_greet_30 ?_
      refine lv_iload_n hx hb dX8_greet_33 rfl (lv_at hl 1 rfl) ?_
      refine x_iald C0 hO 25 rfl hw.1 dX8_greet_34 ?_
      replace hw := hw.2
      refine lv_iconst (v := 2) hx hb dX8_greet_35 (by decide) ?_
      refine lv_icmp_ne (tgt := 44) hx hb dX8_greet_36 (by decide) (fun c5 => ?_) (fun c5 => ?_)
      · replace hw := hw.2 c5
        refine lv_iload_n hx hb dX8_greet_44 rfl (lv_at hl 1 rfl) ?_
        exact x_iret C0 hO hw dX8_greet_45
      · replace hw := hw.1 c5
        refine lv_bipush (v := 70) hx hb dX8_greet_39 (by decide) ?_
        refine lv_goto (tgt := 45) hx hb dX8_greet_41 (by decide) ?_
        exact x_iret C0 hO hw dX8_greet_45
    · replace hw := hw.1 c3
      refine lv_iconst (v := 5) hx hb dX8_greet_21 (by decide) ?_
      refine lv_goto (tgt := 26) hx hb dX8_greet_22 (by decide) ?_
      refine x_callv C0 hO (x_runV (As := [.int (5 : Int32)]) (rest := []) C0 hO (kX8_traced l g _ (5 : Int32) σ _ hw) 1 rfl (xRecv C0 hO (j := 24) rfl rfl) gX8_greet_X8_traced rfl rfl rfl hdX8_traced ⟨Nat.le_of_ble_eq_true rfl, Nat.le_of_ble_eq_true rfl⟩ hl.1 rfl (Nat.le_of_ble_eq_true rfl) dX8_greet_26 ⟨Nat.le_of_ble_eq_true rfl, Nat.le_of_ble_eq_true rfl⟩) (fun σ6 H locs hw hO => ?_)
      refine lv_aload_n hx hb dX8_greet_29 rfl (lv_at hl 0 rfl) ?_
      refine x_getr C0 hO 24 3 25 rfl rfl (by decide) rfl iX8_greet_8 rfl (List.mem_of_getElem? (i := 1) rfl) dX8_greet_30 ?_
      refine lv_iload_n hx hb dX8_greet_33 rfl (lv_at hl 1 rfl) ?_
      refine x_iald C0 hO 25 rfl hw.1 dX8_greet_34 ?_
      replace hw := hw.2
      refine lv_iconst (v := 2) hx hb dX8_greet_35 (by decide) ?_
      refine lv_icmp_ne (tgt := 44) hx hb dX8_greet_36 (by decide) (fun c7 => ?_) (fun c7 => ?_)
      · replace hw := hw.2 c7
        refine lv_iload_n hx hb dX8_greet_44 rfl (lv_at hl 1 rfl) ?_
        exact x_iret C0 hO hw dX8_greet_45
      · replace hw := hw.1 c7
        refine lv_bipush (v := 70) hx hb dX8_greet_39 (by decide) ?_
        refine lv_goto (tgt := 45) hx hb dX8_greet_41 (by decide) ?_
        exact x_iret C0 hO hw dX8_greet_45
  · replace hw := hw.2 c2
    refine lv_iconst (v := -1) hx hb dX8_greet_8 (by decide) ?_
    exact x_iret C0 hO hw dX8_greet_9
theorem iX8_as_8 : ∀ w ∈ wsX80, w ∈ wsX8_as := fun w h => List.mem_cons_of_mem _ (List.mem_append_right _ h)
theorem hdX8_as : yX8_as.cls = RX8 ∧ yX8_as.cls ≠ "java/lang/invoke/MethodHandle" ∧ yX8_as.cls ≠ "java/lang/invoke/VarHandle" ∧ (parseMethodDescriptor yX8_as.desc).map (fun d => d.parameters.length) = some 2 := by decide +kernel
set_option maxHeartbeats 4000000 in
set_option maxRecDepth 100000 in
theorem kX8_as (l : Launch) (g : XG) (sz : Nat) (a1 : Int32) (a2 : Int32) (σ : XS) (post : Int32 → XS → Prop) (hw : PX8_as a1 a2 σ post) : xMi l yX8_as wsX8_as rmX8_as 0 0 g sz [.ref (xa g 24), .int a1, .int a2] σ post := by
  unfold PX8_as at hw
  refine x_head (Qc := fun A => va_Qi post (xAt g A) A) (cc := cX8_as) (maxL := 3) (ret := (some .int)) (by decide) rfl ?_
  intro p e s m below meth c A C0 hnm hO
  refine x_entry (Nat.le_of_ble_eq_true rfl) (fun ls hl => ?_)
  have hl : lv_has ls 3 [(0, .ref (xa g 24)), (1, .int a1), (2, .int a2)] := hl
  have hx := C0.1
  have hb := C0.2.1
  have hown := C0.2.2.2.2.2.1
  have hts := C0.2.2.2.2.2.2.1
  refine lv_aload_n hx hb dX8_as_0 rfl (lv_at hl 0 rfl) ?_
  refine lv_iload_n hx hb dX8_as_1 rfl (lv_at hl 1 rfl) ?_
  refine x_calli C0 hO (x_runV (As := [.int a1]) (rest := []) C0 hO (kX8_noPerson l g _ a1 σ _ hw) 1 rfl (xRecv C0 hO (j := 24) rfl rfl) gX8_as_X8_noPerson rfl rfl rfl hdX8_noPerson ⟨Nat.le_of_ble_eq_true rfl, Nat.le_of_ble_eq_true rfl⟩ hl.1 rfl (Nat.le_of_ble_eq_true rfl) dX8_as_2 ⟨Nat.le_of_ble_eq_true rfl, Nat.le_of_ble_eq_true rfl⟩) (fun r1 σ' H locs hw hO => ?_)
  obtain ⟨hσ, hw⟩ := hw
  subst hσ
  refine lv_if_eq (tgt := 14) hx hb dX8_as_5 (by decide) (fun c2 => ?_) (fun c2 => ?_)
  · replace hw := hw.1 c2
    refine lv_iload_n hx hb dX8_as_14 rfl (lv_at hl 2 rfl) ?_
    refine lv_i2l hx hb dX8_as_15 rfl ?_
    refine lv_lconst (v := 0) hx hb dX8_as_16 (by decide) ?_
    refine lv_ldc2 (v := 2) hx hb hown (hts _ (List.mem_of_getElem? (i := 1) rfl)) dX8_as_17 ?_
    refine x_calli C0 hO (x_runS (As := [.long a2.toInt64, .long (0 : Int64), .long (2 : Int64)]) (rest := []) C0 hO (kX8_in l g _ a2.toInt64 (0 : Int64) (2 : Int64) σ _ hw) 3 rfl gX8_as_X8_in rfl rfl rfl hdX8_in.2 ⟨Nat.le_of_ble_eq_true rfl, Nat.le_of_ble_eq_true rfl⟩ hl.1 rfl (Nat.le_of_ble_eq_true rfl) dX8_as_20 ⟨Nat.le_of_ble_eq_true rfl, Nat.le_of_ble_eq_true rfl⟩) (fun r3 σ' H locs hw hO => ?_)
    obtain ⟨hσ, hw⟩ := hw
    subst hσ
    refine lv_if_ne (tgt := 33) hx hb dX8_as_23 (by decide) (fun c4 => ?_) (fun c4 => ?_)
    · replace hw := hw.2 c4
      refine lv_aload_n hx hb dX8_as_33 rfl (lv_at hl 0 rfl) ?_
      refine x_getr C0 hO 24 3 25 rfl rfl (by decide) rfl iX8_as_8 rfl (List.mem_of_getElem? (i := 2) rfl) dX8_as_34 ?_
      refine lv_iload_n hx hb dX8_as_37 rfl (lv_at hl 1 rfl) ?_
      refine x_iald C0 hO 25 rfl hw.1 dX8_as_38 ?_
      replace hw := hw.2
      refine lv_iload_n hx hb dX8_as_39 rfl (lv_at hl 2 rfl) ?_
      refine lv_icmp_lt (tgt := 51) hx hb dX8_as_40 (by decide) (fun c5 => ?_) (fun c5 => ?_)
      · replace hw := hw.1 c5
        refine lv_aload_n hx hb dX8_as_51 rfl (lv_at hl 0 rfl) ?_
        refine lv_iconst (v := 2) hx hb dX8_as_52 (by decide) ?_
        refine x_calli C0 hO (x_runV (As := [.int (2 : Int32)]) (rest := []) C0 hO (kX8_failed l g _ (2 : Int32) σ _ hw) 1 rfl (xRecv C0 hO (j := 24) rfl rfl) gX8_as_X8_failed rfl rfl rfl hdX8_failed ⟨Nat.le_of_ble_eq_true rfl, Nat.le_of_ble_eq_true rfl⟩ hl.1 rfl (Nat.le_of_ble_eq_true rfl) dX8_as_53 ⟨Nat.le_of_ble_eq_true rfl, Nat.le_of_ble_eq_true rfl⟩) (fun r6 σ7 H locs hw hO => ?_)
        exact x_iret C0 hO hw dX8_as_56
      · replace hw := hw.2 c5
        refine lv_aload_n hx hb dX8_as_43 rfl (lv_at hl 0 rfl) ?_
        refine lv_iconst (v := 1) hx hb dX8_as_44 (by decide) ?_
        refine x_calli C0 hO (x_runV (As := [.int (1 : Int32)]) (rest := []) C0 hO (kX8_refused l g _ (1 : Int32) σ _ hw) 1 rfl (xRecv C0 hO (j := 24) rfl rfl) gX8_as_X8_refused rfl rfl rfl hdX8_refused ⟨Nat.le_of_ble_eq_true rfl, Nat.le_of_ble_eq_true rfl⟩ hl.1 rfl (Nat.le_of_ble_eq_true rfl) dX8_as_45 ⟨Nat.le_of_ble_eq_true rfl, Nat.le_of_ble_eq_true rfl⟩) (fun r8 σ9 H locs hw hO => ?_)
        refine lv_goto (tgt := 56) hx hb dX8_as_48 (by decide) ?_
        exact x_iret C0 hO hw dX8_as_56
    · replace hw := hw.1 c4
      refine lv_aload_n hx hb dX8_as_26 rfl (lv_at hl 0 rfl) ?_
      refine lv_bipush (v := -2) hx hb dX8_as_27 (by decide) ?_
      refine x_calli C0 hO (x_runV (As := [.int (-2 : Int32)]) (rest := []) C0 hO (kX8_refused l g _ (-2 : Int32) σ _ hw) 1 rfl (xRecv C0 hO (j := 24) rfl rfl) gX8_as_X8_refused rfl rfl rfl hdX8_refused ⟨Nat.le_of_ble_eq_true rfl, Nat.le_of_ble_eq_true rfl⟩ hl.1 rfl (Nat.le_of_ble_eq_true rfl) dX8_as_29 ⟨Nat.le_of_ble_eq_true rfl, Nat.le_of_ble_eq_true rfl⟩) (fun r10 σ11 H locs hw hO => ?_)
      exact x_iret C0 hO hw dX8_as_32
  · replace hw := hw.2 c2
    refine lv_aload_n hx hb dX8_as_8 rfl (lv_at hl 0 rfl) ?_
    refine lv_iconst (v := -1) hx hb dX8_as_9 (by decide) ?_
    refine x_calli C0 hO (x_runV (As := [.int (-1 : Int32)]) (rest := []) C0 hO (kX8_refused l g _ (-1 : Int32) σ _ hw) 1 rfl (xRecv C0 hO (j := 24) rfl rfl) gX8_as_X8_refused rfl rfl rfl hdX8_refused ⟨Nat.le_of_ble_eq_true rfl, Nat.le_of_ble_eq_true rfl⟩ hl.1 rfl (Nat.le_of_ble_eq_true rfl) dX8_as_10 ⟨Nat.le_of_ble_eq_true rfl, Nat.le_of_ble_eq_true rfl⟩) (fun r12 σ13 H locs hw hO => ?_)
    exact x_iret C0 hO hw dX8_as_13
theorem iX8_trace_8 : ∀ w ∈ wsX80, w ∈ wsX8_trace := fun w h => List.mem_cons_of_mem _ (List.mem_append_right _ h)
theorem hdX8_trace : yX8_trace.cls = RX8 ∧ yX8_trace.cls ≠ "java/lang/invoke/MethodHandle" ∧ yX8_trace.cls ≠ "java/lang/invoke/VarHandle" ∧ (parseMethodDescriptor yX8_trace.desc).map (fun d => d.parameters.length) = some 0 := by decide +kernel
set_option maxHeartbeats 4000000 in
set_option maxRecDepth 100000 in
theorem kX8_trace (l : Launch) (g : XG) (sz : Nat) (σ : XS) (post : Int32 → Prop) (hw : PX8_trace  σ post) : xMi l yX8_trace wsX8_trace rmX8_trace 0 0 g sz [.ref (xa g 24)] σ (fun r u => σ = u ∧ post r) := by
  unfold PX8_trace at hw
  refine x_head (Qc := fun A => va_Qi (fun r u => σ = u ∧ post r) (xAt g A) A) (cc := cX8_trace) (maxL := 1) (ret := (some .int)) (by decide) rfl ?_
  intro p e s m below meth c A C0 hnm hO
  refine x_entry (Nat.le_of_ble_eq_true rfl) (fun ls hl => ?_)
  have hl : lv_has ls 1 [(0, .ref (xa g 24))] := hl
  have hx := C0.1
  have hb := C0.2.1
  have hown := C0.2.2.2.2.2.1
  have hts := C0.2.2.2.2.2.2.1
  refine lv_aload_n hx hb dX8_trace_0 rfl (lv_at hl 0 rfl) ?_
  refine x_geti C0 hO 24 41 rfl rfl (by decide) rfl iX8_trace_8 rfl (List.mem_of_getElem? (i := 1) rfl) dX8_trace_1 ?_
  exact x_iret C0 hO ⟨rfl, hw⟩ dX8_trace_4
theorem iX8_fault_8 : ∀ w ∈ wsX80, w ∈ wsX8_fault := fun w h => List.mem_cons_of_mem _ (List.mem_append_right _ h)
theorem hdX8_fault : yX8_fault.cls = RX8 ∧ yX8_fault.cls ≠ "java/lang/invoke/MethodHandle" ∧ yX8_fault.cls ≠ "java/lang/invoke/VarHandle" ∧ (parseMethodDescriptor yX8_fault.desc).map (fun d => d.parameters.length) = some 0 := by decide +kernel
set_option maxHeartbeats 4000000 in
set_option maxRecDepth 100000 in
theorem kX8_fault (l : Launch) (g : XG) (sz : Nat) (σ : XS) (post : Int32 → Prop) (hw : PX8_fault  σ post) : xMi l yX8_fault wsX8_fault rmX8_fault 0 0 g sz [.ref (xa g 24)] σ (fun r u => σ = u ∧ post r) := by
  unfold PX8_fault at hw
  refine x_head (Qc := fun A => va_Qi (fun r u => σ = u ∧ post r) (xAt g A) A) (cc := cX8_fault) (maxL := 1) (ret := (some .int)) (by decide) rfl ?_
  intro p e s m below meth c A C0 hnm hO
  refine x_entry (Nat.le_of_ble_eq_true rfl) (fun ls hl => ?_)
  have hl : lv_has ls 1 [(0, .ref (xa g 24))] := hl
  have hx := C0.1
  have hb := C0.2.1
  have hown := C0.2.2.2.2.2.1
  have hts := C0.2.2.2.2.2.2.1
  refine lv_aload_n hx hb dX8_fault_0 rfl (lv_at hl 0 rfl) ?_
  refine x_geti C0 hO 24 0 rfl rfl (by decide) rfl iX8_fault_8 rfl (List.mem_of_getElem? (i := 1) rfl) dX8_fault_1 ?_
  exact x_iret C0 hO ⟨rfl, hw⟩ dX8_fault_4
theorem iX8_many_8 : ∀ w ∈ wsX80, w ∈ wsX8_many := fun w h => List.mem_cons_of_mem _ (List.mem_append_right _ h)
theorem hdX8_many : yX8_many.cls = RX8 ∧ yX8_many.cls ≠ "java/lang/invoke/MethodHandle" ∧ yX8_many.cls ≠ "java/lang/invoke/VarHandle" ∧ (parseMethodDescriptor yX8_many.desc).map (fun d => d.parameters.length) = some 1 := by decide +kernel
set_option maxHeartbeats 4000000 in
set_option maxRecDepth 100000 in
theorem kX8_many (l : Launch) (g : XG) (sz : Nat) (a1 : Int32) (σ : XS) (post : Int32 → Prop) (hw : PX8_many a1 σ post) : xMi l yX8_many wsX8_many rmX8_many 0 0 g sz [.ref (xa g 24), .int a1] σ (fun r u => σ = u ∧ post r) := by
  unfold PX8_many at hw
  refine x_head (Qc := fun A => va_Qi (fun r u => σ = u ∧ post r) (xAt g A) A) (cc := cX8_many) (maxL := 2) (ret := (some .int)) (by decide) rfl ?_
  intro p e s m below meth c A C0 hnm hO
  refine x_entry (Nat.le_of_ble_eq_true rfl) (fun ls hl => ?_)
  have hl : lv_has ls 2 [(0, .ref (xa g 24)), (1, .int a1)] := hl
  have hx := C0.1
  have hb := C0.2.1
  have hown := C0.2.2.2.2.2.1
  have hts := C0.2.2.2.2.2.2.1
  refine lv_iload_n hx hb dX8_many_0 rfl (lv_at hl 1 rfl) ?_
  rcases Decidable.em (a1 = (0 : Int32)) with c1 | c1
  · replace hw := hw.1 c1
    refine lv_tableIn (off := 39) (tgt := 40) hx hb dX8_many_1 (by rw [c1]; decide) (by rw [c1]; decide) (by rw [c1]; rfl) (by decide) ?_
    refine lv_aload_n hx hb dX8_many_40 rfl (lv_at hl 0 rfl) ?_
    refine x_geti C0 hO 24 2 rfl rfl (by decide) rfl iX8_many_8 rfl (List.mem_of_getElem? (i := 1) rfl) dX8_many_41 ?_
    exact x_iret C0 hO ⟨rfl, hw⟩ dX8_many_44
  · rcases Decidable.em (a1 = (1 : Int32)) with c2 | c2
    · replace hw := hw.2.1 c2
      refine lv_tableIn (off := 44) (tgt := 45) hx hb dX8_many_1 (by rw [c2]; decide) (by rw [c2]; decide) (by rw [c2]; rfl) (by decide) ?_
      refine lv_aload_n hx hb dX8_many_45 rfl (lv_at hl 0 rfl) ?_
      refine x_geti C0 hO 24 1 rfl rfl (by decide) rfl iX8_many_8 rfl (List.mem_of_getElem? (i := 2) rfl) dX8_many_46 ?_
      exact x_iret C0 hO ⟨rfl, hw⟩ dX8_many_49
    · rcases Decidable.em (a1 = (2 : Int32)) with c3 | c3
      · replace hw := hw.2.2.1 c3
        refine lv_tableIn (off := 49) (tgt := 50) hx hb dX8_many_1 (by rw [c3]; decide) (by rw [c3]; decide) (by rw [c3]; rfl) (by decide) ?_
        refine lv_aload_n hx hb dX8_many_50 rfl (lv_at hl 0 rfl) ?_
        refine x_geti C0 hO 24 10 rfl rfl (by decide) rfl iX8_many_8 rfl (List.mem_of_getElem? (i := 3) rfl) dX8_many_51 ?_
        exact x_iret C0 hO ⟨rfl, hw⟩ dX8_many_54
      · rcases Decidable.em (a1 = (3 : Int32)) with c4 | c4
        · replace hw := hw.2.2.2.1 c4
          refine lv_tableIn (off := 54) (tgt := 55) hx hb dX8_many_1 (by rw [c4]; decide) (by rw [c4]; decide) (by rw [c4]; rfl) (by decide) ?_
          refine lv_aload_n hx hb dX8_many_55 rfl (lv_at hl 0 rfl) ?_
          refine x_geti C0 hO 24 14 rfl rfl (by decide) rfl iX8_many_8 rfl (List.mem_of_getElem? (i := 4) rfl) dX8_many_56 ?_
          exact x_iret C0 hO ⟨rfl, hw⟩ dX8_many_59
        · rcases Decidable.em (a1 = (4 : Int32)) with c5 | c5
          · replace hw := hw.2.2.2.2.1 c5
            refine lv_tableIn (off := 59) (tgt := 60) hx hb dX8_many_1 (by rw [c5]; decide) (by rw [c5]; decide) (by rw [c5]; rfl) (by decide) ?_
            refine lv_aload_n hx hb dX8_many_60 rfl (lv_at hl 0 rfl) ?_
            refine x_geti C0 hO 24 18 rfl rfl (by decide) rfl iX8_many_8 rfl (List.mem_of_getElem? (i := 5) rfl) dX8_many_61 ?_
            exact x_iret C0 hO ⟨rfl, hw⟩ dX8_many_64
          · rcases Decidable.em (a1 = (5 : Int32)) with c6 | c6
            · replace hw := hw.2.2.2.2.2.1 c6
              refine lv_tableIn (off := 64) (tgt := 65) hx hb dX8_many_1 (by rw [c6]; decide) (by rw [c6]; decide) (by rw [c6]; rfl) (by decide) ?_
              refine lv_aload_n hx hb dX8_many_65 rfl (lv_at hl 0 rfl) ?_
              refine x_geti C0 hO 24 30 rfl rfl (by decide) rfl iX8_many_8 rfl (List.mem_of_getElem? (i := 6) rfl) dX8_many_66 ?_
              exact x_iret C0 hO ⟨rfl, hw⟩ dX8_many_69
            · replace hw := hw.2.2.2.2.2.2 c1 c2 c3 c4 c5 c6
              have nc1 := lv_neT (a := 0) c1 (by decide)
              have nc2 := lv_neT (a := 1) c2 (by decide)
              have nc3 := lv_neT (a := 2) c3 (by decide)
              have nc4 := lv_neT (a := 3) c4 (by decide)
              have nc5 := lv_neT (a := 4) c5 (by decide)
              have nc6 := lv_neT (a := 5) c6 (by decide)
              refine lv_tableOut (tgt := 70) hx hb dX8_many_1 (by omega) (by decide) ?_
              refine lv_bipush (v := -2) hx hb dX8_many_70 (by decide) ?_
              exact x_iret C0 hO ⟨rfl, hw⟩ dX8_many_72
