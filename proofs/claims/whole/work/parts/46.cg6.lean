/-! generated: contracts -/
theorem iX7_trace_6 : ∀ w ∈ wsX60, w ∈ wsX7_trace := fun w h => List.mem_cons_of_mem _ (List.mem_append_right _ h)
theorem iX7_trace_7 : ∀ w ∈ wsX70, w ∈ wsX7_trace := fun w h => List.mem_cons_of_mem _ (List.mem_append_left _ (List.mem_append_right _ h))
theorem hdX7_trace : yX7_trace.cls = RX7 ∧ yX7_trace.cls ≠ "java/lang/invoke/MethodHandle" ∧ yX7_trace.cls ≠ "java/lang/invoke/VarHandle" ∧ (parseMethodDescriptor yX7_trace.desc).map (fun d => d.parameters.length) = some 0 := by decide +kernel
set_option maxHeartbeats 4000000 in
set_option maxRecDepth 100000 in
theorem kX7_trace (l : Launch) (g : XG) (sz : Nat) (σ : XS) (post : Int32 → Prop) (hw : PX7_trace  σ post) : xMi l yX7_trace wsX7_trace rmX7_trace 0 0 g sz [.ref (xa g 0)] σ (fun r u => σ = u ∧ post r) := by
  unfold PX7_trace at hw
  refine x_head (Qc := fun A => va_Qi (fun r u => σ = u ∧ post r) (xAt g A) A) (cc := cX7_trace) (maxL := 1) (ret := (some .int)) (by decide) rfl ?_
  intro p e s m below meth c A C0 hnm hO
  refine x_entry (Nat.le_of_ble_eq_true rfl) (fun ls hl => ?_)
  have hl : lv_has ls 1 [(0, .ref (xa g 0))] := hl
  have hx := C0.1
  have hb := C0.2.1
  have hown := C0.2.2.2.2.2.1
  have hts := C0.2.2.2.2.2.2.1
  refine lv_aload_n hx hb dX7_trace_0 rfl (lv_at hl 0 rfl) ?_
  refine x_getr C0 hO 0 5 15 rfl rfl (by decide) rfl iX7_trace_7 rfl (List.mem_of_getElem? (i := 1) rfl) dX7_trace_1 ?_
  refine x_geti C0 hO 15 0 rfl rfl (by decide) rfl iX7_trace_6 rfl (List.mem_of_getElem? (i := 2) rfl) dX7_trace_4 ?_
  exact x_iret C0 hO ⟨rfl, hw⟩ dX7_trace_7
theorem iX7_fault_7 : ∀ w ∈ wsX70, w ∈ wsX7_fault := fun w h => List.mem_cons_of_mem _ (List.mem_append_right _ h)
theorem hdX7_fault : yX7_fault.cls = RX7 ∧ yX7_fault.cls ≠ "java/lang/invoke/MethodHandle" ∧ yX7_fault.cls ≠ "java/lang/invoke/VarHandle" ∧ (parseMethodDescriptor yX7_fault.desc).map (fun d => d.parameters.length) = some 0 := by decide +kernel
set_option maxHeartbeats 4000000 in
set_option maxRecDepth 100000 in
theorem kX7_fault (l : Launch) (g : XG) (sz : Nat) (σ : XS) (post : Int32 → Prop) (hw : PX7_fault  σ post) : xMi l yX7_fault wsX7_fault rmX7_fault 0 0 g sz [.ref (xa g 0)] σ (fun r u => σ = u ∧ post r) := by
  unfold PX7_fault at hw
  refine x_head (Qc := fun A => va_Qi (fun r u => σ = u ∧ post r) (xAt g A) A) (cc := cX7_fault) (maxL := 1) (ret := (some .int)) (by decide) rfl ?_
  intro p e s m below meth c A C0 hnm hO
  refine x_entry (Nat.le_of_ble_eq_true rfl) (fun ls hl => ?_)
  have hl : lv_has ls 1 [(0, .ref (xa g 0))] := hl
  have hx := C0.1
  have hb := C0.2.1
  have hown := C0.2.2.2.2.2.1
  have hts := C0.2.2.2.2.2.2.1
  refine lv_aload_n hx hb dX7_fault_0 rfl (lv_at hl 0 rfl) ?_
  refine x_geti C0 hO 0 8 rfl rfl (by decide) rfl iX7_fault_7 rfl (List.mem_of_getElem? (i := 1) rfl) dX7_fault_1 ?_
  exact x_iret C0 hO ⟨rfl, hw⟩ dX7_fault_4
theorem iX7_many_7 : ∀ w ∈ wsX70, w ∈ wsX7_many := fun w h => List.mem_cons_of_mem _ (List.mem_append_left _ (List.mem_append_right _ h))
theorem hdX7_many : yX7_many.cls = RX7 ∧ yX7_many.cls ≠ "java/lang/invoke/MethodHandle" ∧ yX7_many.cls ≠ "java/lang/invoke/VarHandle" ∧ (parseMethodDescriptor yX7_many.desc).map (fun d => d.parameters.length) = some 1 := by decide +kernel
set_option maxHeartbeats 4000000 in
set_option maxRecDepth 100000 in
theorem kX7_many (l : Launch) (g : XG) (sz : Nat) (a1 : Int32) (σ : XS) (post : Int32 → Prop) (hw : PX7_many a1 σ post) : xMi l yX7_many wsX7_many rmX7_many 0 0 g sz [.ref (xa g 0), .int a1] σ (fun r u => σ = u ∧ post r) := by
  unfold PX7_many at hw
  refine x_head (Qc := fun A => va_Qi (fun r u => σ = u ∧ post r) (xAt g A) A) (cc := cX7_many) (maxL := 2) (ret := (some .int)) (by decide) rfl ?_
  intro p e s m below meth c A C0 hnm hO
  refine x_entry (Nat.le_of_ble_eq_true rfl) (fun ls hl => ?_)
  have hl : lv_has ls 2 [(0, .ref (xa g 0)), (1, .int a1)] := hl
  have hx := C0.1
  have hb := C0.2.1
  have hown := C0.2.2.2.2.2.1
  have hts := C0.2.2.2.2.2.2.1
  refine lv_iload_n hx hb dX7_many_0 rfl (lv_at hl 1 rfl) ?_
  rcases Decidable.em (a1 = (0 : Int32)) with c5 | c5
  · replace hw := hw.1 c5
    refine lv_tableIn (off := 39) (tgt := 40) hx hb dX7_many_1 (by rw [c5]; decide) (by rw [c5]; decide) (by rw [c5]; rfl) (by decide) ?_
    refine lv_aload_n hx hb dX7_many_40 rfl (lv_at hl 0 rfl) ?_
    refine x_geti C0 hO 0 6 rfl rfl (by decide) rfl iX7_many_7 rfl (List.mem_of_getElem? (i := 1) rfl) dX7_many_41 ?_
    exact x_iret C0 hO ⟨rfl, hw⟩ dX7_many_44
  · rcases Decidable.em (a1 = (1 : Int32)) with c6 | c6
    · replace hw := hw.2.1 c6
      refine lv_tableIn (off := 44) (tgt := 45) hx hb dX7_many_1 (by rw [c6]; decide) (by rw [c6]; decide) (by rw [c6]; rfl) (by decide) ?_
      refine lv_aload_n hx hb dX7_many_45 rfl (lv_at hl 0 rfl) ?_
      refine x_geti C0 hO 0 7 rfl rfl (by decide) rfl iX7_many_7 rfl (List.mem_of_getElem? (i := 2) rfl) dX7_many_46 ?_
      exact x_iret C0 hO ⟨rfl, hw⟩ dX7_many_49
    · rcases Decidable.em (a1 = (2 : Int32)) with c7 | c7
      · replace hw := hw.2.2.1 c7
        refine lv_tableIn (off := 49) (tgt := 50) hx hb dX7_many_1 (by rw [c7]; decide) (by rw [c7]; decide) (by rw [c7]; rfl) (by decide) ?_
        refine lv_aload_n hx hb dX7_many_50 rfl (lv_at hl 0 rfl) ?_
        refine x_getr C0 hO 0 3 4 rfl rfl (by decide) rfl iX7_many_7 rfl (List.mem_of_getElem? (i := 3) rfl) dX7_many_51 ?_
        refine lv_iconst (v := 2) hx hb dX7_many_54 (by decide) ?_
        refine x_calli C0 hO (x_runV (As := [.int (2 : Int32)]) (rest := []) C0 hO (kX5_count l g _ (2 : Int32) σ _ hw) 1 rfl (xRecv C0 hO (j := 4) rfl rfl) gX7_many_X5_count rfl rfl rfl hdX5_count ⟨Nat.le_of_ble_eq_true rfl, Nat.le_of_ble_eq_true rfl⟩ hl.1 rfl (Nat.le_of_ble_eq_true rfl) dX7_many_55 ⟨Nat.le_of_ble_eq_true rfl, Nat.le_of_ble_eq_true rfl⟩) (fun r1 σ' H locs hw hO => ?_)
        obtain ⟨hσ, hw⟩ := hw
        subst hσ
        exact x_iret C0 hO ⟨rfl, hw⟩ dX7_many_58
      · rcases Decidable.em (a1 = (3 : Int32)) with c8 | c8
        · replace hw := hw.2.2.2.1 c8
          refine lv_tableIn (off := 58) (tgt := 59) hx hb dX7_many_1 (by rw [c8]; decide) (by rw [c8]; decide) (by rw [c8]; rfl) (by decide) ?_
          refine lv_aload_n hx hb dX7_many_59 rfl (lv_at hl 0 rfl) ?_
          refine x_getr C0 hO 0 3 4 rfl rfl (by decide) rfl iX7_many_7 rfl (List.mem_of_getElem? (i := 3) rfl) dX7_many_60 ?_
          refine lv_iconst (v := 1) hx hb dX7_many_63 (by decide) ?_
          refine x_calli C0 hO (x_runV (As := [.int (1 : Int32)]) (rest := []) C0 hO (kX5_count l g _ (1 : Int32) σ _ hw) 1 rfl (xRecv C0 hO (j := 4) rfl rfl) gX7_many_X5_count rfl rfl rfl hdX5_count ⟨Nat.le_of_ble_eq_true rfl, Nat.le_of_ble_eq_true rfl⟩ hl.1 rfl (Nat.le_of_ble_eq_true rfl) dX7_many_64 ⟨Nat.le_of_ble_eq_true rfl, Nat.le_of_ble_eq_true rfl⟩) (fun r2 σ' H locs hw hO => ?_)
          obtain ⟨hσ, hw⟩ := hw
          subst hσ
          exact x_iret C0 hO ⟨rfl, hw⟩ dX7_many_67
        · rcases Decidable.em (a1 = (4 : Int32)) with c9 | c9
          · replace hw := hw.2.2.2.2.1 c9
            refine lv_tableIn (off := 67) (tgt := 68) hx hb dX7_many_1 (by rw [c9]; decide) (by rw [c9]; decide) (by rw [c9]; rfl) (by decide) ?_
            refine lv_aload_n hx hb dX7_many_68 rfl (lv_at hl 0 rfl) ?_
            refine x_getr C0 hO 0 3 4 rfl rfl (by decide) rfl iX7_many_7 rfl (List.mem_of_getElem? (i := 3) rfl) dX7_many_69 ?_
            refine lv_iconst (v := 0) hx hb dX7_many_72 (by decide) ?_
            refine x_calli C0 hO (x_runV (As := [.int (0 : Int32)]) (rest := []) C0 hO (kX5_count l g _ (0 : Int32) σ _ hw) 1 rfl (xRecv C0 hO (j := 4) rfl rfl) gX7_many_X5_count rfl rfl rfl hdX5_count ⟨Nat.le_of_ble_eq_true rfl, Nat.le_of_ble_eq_true rfl⟩ hl.1 rfl (Nat.le_of_ble_eq_true rfl) dX7_many_73 ⟨Nat.le_of_ble_eq_true rfl, Nat.le_of_ble_eq_true rfl⟩) (fun r3 σ' H locs hw hO => ?_)
            obtain ⟨hσ, hw⟩ := hw
            subst hσ
            exact x_iret C0 hO ⟨rfl, hw⟩ dX7_many_76
          · rcases Decidable.em (a1 = (5 : Int32)) with c10 | c10
            · replace hw := hw.2.2.2.2.2.1 c10
              refine lv_tableIn (off := 76) (tgt := 77) hx hb dX7_many_1 (by rw [c10]; decide) (by rw [c10]; decide) (by rw [c10]; rfl) (by decide) ?_
              refine lv_aload_n hx hb dX7_many_77 rfl (lv_at hl 0 rfl) ?_
              refine x_getr C0 hO 0 3 4 rfl rfl (by decide) rfl iX7_many_7 rfl (List.mem_of_getElem? (i := 3) rfl) dX7_many_78 ?_
              refine lv_iconst (v := 3) hx hb dX7_many_81 (by decide) ?_
              refine x_calli C0 hO (x_runV (As := [.int (3 : Int32)]) (rest := []) C0 hO (kX5_count l g _ (3 : Int32) σ _ hw) 1 rfl (xRecv C0 hO (j := 4) rfl rfl) gX7_many_X5_count rfl rfl rfl hdX5_count ⟨Nat.le_of_ble_eq_true rfl, Nat.le_of_ble_eq_true rfl⟩ hl.1 rfl (Nat.le_of_ble_eq_true rfl) dX7_many_82 ⟨Nat.le_of_ble_eq_true rfl, Nat.le_of_ble_eq_true rfl⟩) (fun r4 σ' H locs hw hO => ?_)
              obtain ⟨hσ, hw⟩ := hw
              subst hσ
              exact x_iret C0 hO ⟨rfl, hw⟩ dX7_many_85
            · replace hw := hw.2.2.2.2.2.2 c5 c6 c7 c8 c9 c10
              have nc5 := lv_neT (a := 0) c5 (by decide)
              have nc6 := lv_neT (a := 1) c6 (by decide)
              have nc7 := lv_neT (a := 2) c7 (by decide)
              have nc8 := lv_neT (a := 3) c8 (by decide)
              have nc9 := lv_neT (a := 4) c9 (by decide)
              have nc10 := lv_neT (a := 5) c10 (by decide)
              refine lv_tableOut (tgt := 86) hx hb dX7_many_1 (by omega) (by decide) ?_
              refine lv_bipush (v := -2) hx hb dX7_many_86 (by decide) ?_
              exact x_iret C0 hO ⟨rfl, hw⟩ dX7_many_88
