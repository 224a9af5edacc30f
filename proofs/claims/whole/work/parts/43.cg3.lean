/-! generated: contracts -/
theorem iX7_rise_7 : ∀ w ∈ wsX70, w ∈ wsX7_rise := fun w h => List.mem_cons_of_mem _ (List.mem_append_left _ (List.mem_append_right _ h))
theorem hdX7_rise : yX7_rise.cls = RX7 ∧ yX7_rise.cls ≠ "java/lang/invoke/MethodHandle" ∧ yX7_rise.cls ≠ "java/lang/invoke/VarHandle" ∧ (parseMethodDescriptor yX7_rise.desc).map (fun d => d.parameters.length) = some 1 := by decide +kernel
set_option maxHeartbeats 4000000 in
set_option maxRecDepth 100000 in
theorem kX7_rise (l : Launch) (g : XG) (sz : Nat) (a1 : Int32) (σ : XS) (post : Int32 → XS → Prop) (hw : PX7_rise a1 σ post) : xMi l yX7_rise wsX7_rise rmX7_rise 0 0 g sz [.ref (xa g 0), .int a1] σ post := by
  unfold PX7_rise at hw
  refine x_head (Qc := fun A => va_Qi post (xAt g A) A) (cc := cX7_rise) (maxL := 2) (ret := (some .int)) (by decide) rfl ?_
  intro p e s m below meth c A C0 hnm hO
  refine x_entry (Nat.le_of_ble_eq_true rfl) (fun ls hl => ?_)
  have hl : lv_has ls 2 [(0, .ref (xa g 0)), (1, .int a1)] := hl
  have hx := C0.1
  have hb := C0.2.1
  have hown := C0.2.2.2.2.2.1
  have hts := C0.2.2.2.2.2.2.1
  refine lv_aload_n hx hb dX7_rise_0 rfl (lv_at hl 0 rfl) ?_
  refine x_getr C0 hO 0 3 4 rfl rfl (by decide) rfl iX7_rise_7 rfl (List.mem_of_getElem? (i := 1) rfl) dX7_rise_1 ?_
  refine lv_iconst (v := 2) hx hb dX7_rise_4 (by decide) ?_
  refine lv_iload_n hx hb dX7_rise_5 rfl (lv_at hl 1 rfl) ?_
  refine x_calli C0 hO (x_runV (As := [.int (2 : Int32), .int a1]) (rest := []) C0 hO (kX5_takeBack l g _ (2 : Int32) a1 σ _ hw) 2 rfl (xRecv C0 hO (j := 4) rfl rfl) gX7_rise_X5_takeBack rfl rfl rfl hdX5_takeBack ⟨Nat.le_of_ble_eq_true rfl, Nat.le_of_ble_eq_true rfl⟩ hl.1 rfl (Nat.le_of_ble_eq_true rfl) dX7_rise_6 ⟨Nat.le_of_ble_eq_true rfl, Nat.le_of_ble_eq_true rfl⟩) (fun r1 σ2 H locs hw hO => ?_)
  exact x_iret C0 hO hw dX7_rise_9
theorem iX7_move_7 : ∀ w ∈ wsX70, w ∈ wsX7_move := fun w h => List.mem_cons_of_mem _ (List.mem_append_left _ (List.mem_append_right _ h))
theorem hdX7_move : yX7_move.cls = RX7 ∧ yX7_move.cls ≠ "java/lang/invoke/MethodHandle" ∧ yX7_move.cls ≠ "java/lang/invoke/VarHandle" ∧ (parseMethodDescriptor yX7_move.desc).map (fun d => d.parameters.length) = some 3 := by decide +kernel
set_option maxHeartbeats 4000000 in
set_option maxRecDepth 100000 in
theorem kX7_move (l : Launch) (g : XG) (sz : Nat) (a1 : Int32) (a2 : Int32) (a3 : Int32) (σ : XS) (post : Int32 → XS → Prop) (hw : PX7_move a1 a2 a3 σ post) : xMi l yX7_move wsX7_move rmX7_move 0 0 g sz [.ref (xa g 0), .int a1, .int a2, .int a3] σ post := by
  unfold PX7_move at hw
  refine x_head (Qc := fun A => va_Qi post (xAt g A) A) (cc := cX7_move) (maxL := 4) (ret := (some .int)) (by decide) rfl ?_
  intro p e s m below meth c A C0 hnm hO
  refine x_entry (Nat.le_of_ble_eq_true rfl) (fun ls hl => ?_)
  have hl : lv_has ls 4 [(0, .ref (xa g 0)), (1, .int a1), (2, .int a2), (3, .int a3)] := hl
  have hx := C0.1
  have hb := C0.2.1
  have hown := C0.2.2.2.2.2.1
  have hts := C0.2.2.2.2.2.2.1
  refine lv_aload_n hx hb dX7_move_0 rfl (lv_at hl 0 rfl) ?_
  refine lv_iload_n hx hb dX7_move_1 rfl (lv_at hl 1 rfl) ?_
  refine x_calli C0 hO (x_runV (As := [.int a1]) (rest := []) C0 hO (kX7_isPlace l g _ a1 σ _ hw) 1 rfl (xRecv C0 hO (j := 0) rfl rfl) gX7_move_X7_isPlace rfl rfl rfl hdX7_isPlace ⟨Nat.le_of_ble_eq_true rfl, Nat.le_of_ble_eq_true rfl⟩ hl.1 rfl (Nat.le_of_ble_eq_true rfl) dX7_move_2 ⟨Nat.le_of_ble_eq_true rfl, Nat.le_of_ble_eq_true rfl⟩) (fun r1 σ' H locs hw hO => ?_)
  obtain ⟨hσ, hw⟩ := hw
  subst hσ
  refine lv_if_eq (tgt := 21) hx hb dX7_move_5 (by decide) (fun c2 => ?_) (fun c2 => ?_)
  · replace hw := hw.1 c2
    refine lv_iconst (v := -1) hx hb dX7_move_21 (by decide) ?_
    exact x_iret C0 hO hw dX7_move_22
  · replace hw := hw.2 c2
    refine lv_aload_n hx hb dX7_move_8 rfl (lv_at hl 0 rfl) ?_
    refine lv_iload_n hx hb dX7_move_9 rfl (lv_at hl 2 rfl) ?_
    refine x_calli C0 hO (x_runV (As := [.int a2]) (rest := []) C0 hO (kX7_isPlace l g _ a2 σ _ hw) 1 rfl (xRecv C0 hO (j := 0) rfl rfl) gX7_move_X7_isPlace rfl rfl rfl hdX7_isPlace ⟨Nat.le_of_ble_eq_true rfl, Nat.le_of_ble_eq_true rfl⟩ hl.1 rfl (Nat.le_of_ble_eq_true rfl) dX7_move_10 ⟨Nat.le_of_ble_eq_true rfl, Nat.le_of_ble_eq_true rfl⟩) (fun r3 σ' H locs hw hO => ?_)
    obtain ⟨hσ, hw⟩ := hw
    subst hσ
    refine lv_if_eq (tgt := 21) hx hb dX7_move_13 (by decide) (fun c4 => ?_) (fun c4 => ?_)
    · replace hw := hw.1 c4
      refine lv_iconst (v := -1) hx hb dX7_move_21 (by decide) ?_
      exact x_iret C0 hO hw dX7_move_22
    · replace hw := hw.2 c4
      refine lv_iload_n hx hb dX7_move_16 rfl (lv_at hl 1 rfl) ?_
      refine lv_iload_n hx hb dX7_move_17 rfl (lv_at hl 2 rfl) ?_
      refine lv_icmp_ne (tgt := 23) hx hb dX7_move_18 (by decide) (fun c5 => ?_) (fun c5 => ?_)
      · replace hw := hw.2 c5
        refine lv_iload_n hx hb dX7_move_23 rfl (lv_at hl 3 rfl) ?_
        refine x_calli C0 hO (x_runS (As := [.int a3]) (rest := []) C0 hO (kX7_isNight l g _ a3 σ _ hw) 1 rfl gX7_move_X7_isNight rfl rfl rfl hdX7_isNight.2 ⟨Nat.le_of_ble_eq_true rfl, Nat.le_of_ble_eq_true rfl⟩ hl.1 rfl (Nat.le_of_ble_eq_true rfl) dX7_move_24 ⟨Nat.le_of_ble_eq_true rfl, Nat.le_of_ble_eq_true rfl⟩) (fun r6 σ' H locs hw hO => ?_)
        obtain ⟨hσ, hw⟩ := hw
        subst hσ
        refine lv_if_ne (tgt := 33) hx hb dX7_move_27 (by decide) (fun c7 => ?_) (fun c7 => ?_)
        · replace hw := hw.2 c7
          refine lv_aload_n hx hb dX7_move_33 rfl (lv_at hl 0 rfl) ?_
          refine x_getr C0 hO 0 3 4 rfl rfl (by decide) rfl iX7_move_7 rfl (List.mem_of_getElem? (i := 1) rfl) dX7_move_34 ?_
          refine lv_iconst (v := 1) hx hb dX7_move_37 (by decide) ?_
          refine x_calli C0 hO (x_runV (As := [.int (1 : Int32)]) (rest := []) C0 hO (kX5_isFull l g _ (1 : Int32) σ _ hw) 1 rfl (xRecv C0 hO (j := 4) rfl rfl) gX7_move_X5_isFull rfl rfl rfl hdX5_isFull ⟨Nat.le_of_ble_eq_true rfl, Nat.le_of_ble_eq_true rfl⟩ hl.1 rfl (Nat.le_of_ble_eq_true rfl) dX7_move_38 ⟨Nat.le_of_ble_eq_true rfl, Nat.le_of_ble_eq_true rfl⟩) (fun r8 σ' H locs hw hO => ?_)
          obtain ⟨hσ, hw⟩ := hw
          subst hσ
          refine lv_if_eq (tgt := 47) hx hb dX7_move_41 (by decide) (fun c9 => ?_) (fun c9 => ?_)
          · replace hw := hw.1 c9
            refine lv_aload_n hx hb dX7_move_47 rfl (lv_at hl 0 rfl) ?_
            refine x_getr C0 hO 0 3 4 rfl rfl (by decide) rfl iX7_move_7 rfl (List.mem_of_getElem? (i := 1) rfl) dX7_move_48 ?_
            refine lv_iconst (v := 1) hx hb dX7_move_51 (by decide) ?_
            refine lv_iload_n hx hb dX7_move_52 rfl (lv_at hl 3 rfl) ?_
            refine lv_iload_n hx hb dX7_move_53 rfl (lv_at hl 1 rfl) ?_
            refine lv_iload_n hx hb dX7_move_54 rfl (lv_at hl 2 rfl) ?_
            refine lv_iconst (v := 0) hx hb dX7_move_55 (by decide) ?_
            refine x_calli C0 hO (x_runV (As := [.int (1 : Int32), .int a3, .int a1, .int a2, .int (0 : Int32)]) (rest := []) C0 hO (kX5_add l g _ (1 : Int32) a3 a1 a2 (0 : Int32) σ _ hw) 5 rfl (xRecv C0 hO (j := 4) rfl rfl) gX7_move_X5_add rfl rfl rfl hdX5_add ⟨Nat.le_of_ble_eq_true rfl, Nat.le_of_ble_eq_true rfl⟩ hl.1 rfl (Nat.le_of_ble_eq_true rfl) dX7_move_56 ⟨Nat.le_of_ble_eq_true rfl, Nat.le_of_ble_eq_true rfl⟩) (fun r10 σ11 H locs hw hO => ?_)
            exact x_iret C0 hO hw dX7_move_59
          · replace hw := hw.2 c9
            refine lv_bipush (v := -4) hx hb dX7_move_44 (by decide) ?_
            exact x_iret C0 hO hw dX7_move_46
        · replace hw := hw.1 c7
          refine lv_bipush (v := -2) hx hb dX7_move_30 (by decide) ?_
          exact x_iret C0 hO hw dX7_move_32
      · replace hw := hw.1 c5
        refine lv_iconst (v := -1) hx hb dX7_move_21 (by decide) ?_
        exact x_iret C0 hO hw dX7_move_22
theorem iX7_unmove_7 : ∀ w ∈ wsX70, w ∈ wsX7_unmove := fun w h => List.mem_cons_of_mem _ (List.mem_append_left _ (List.mem_append_right _ h))
theorem hdX7_unmove : yX7_unmove.cls = RX7 ∧ yX7_unmove.cls ≠ "java/lang/invoke/MethodHandle" ∧ yX7_unmove.cls ≠ "java/lang/invoke/VarHandle" ∧ (parseMethodDescriptor yX7_unmove.desc).map (fun d => d.parameters.length) = some 1 := by decide +kernel
set_option maxHeartbeats 4000000 in
set_option maxRecDepth 100000 in
theorem kX7_unmove (l : Launch) (g : XG) (sz : Nat) (a1 : Int32) (σ : XS) (post : Int32 → XS → Prop) (hw : PX7_unmove a1 σ post) : xMi l yX7_unmove wsX7_unmove rmX7_unmove 0 0 g sz [.ref (xa g 0), .int a1] σ post := by
  unfold PX7_unmove at hw
  refine x_head (Qc := fun A => va_Qi post (xAt g A) A) (cc := cX7_unmove) (maxL := 2) (ret := (some .int)) (by decide) rfl ?_
  intro p e s m below meth c A C0 hnm hO
  refine x_entry (Nat.le_of_ble_eq_true rfl) (fun ls hl => ?_)
  have hl : lv_has ls 2 [(0, .ref (xa g 0)), (1, .int a1)] := hl
  have hx := C0.1
  have hb := C0.2.1
  have hown := C0.2.2.2.2.2.1
  have hts := C0.2.2.2.2.2.2.1
  refine lv_aload_n hx hb dX7_unmove_0 rfl (lv_at hl 0 rfl) ?_
  refine x_getr C0 hO 0 3 4 rfl rfl (by decide) rfl iX7_unmove_7 rfl (List.mem_of_getElem? (i := 1) rfl) dX7_unmove_1 ?_
  refine lv_iconst (v := 1) hx hb dX7_unmove_4 (by decide) ?_
  refine lv_iload_n hx hb dX7_unmove_5 rfl (lv_at hl 1 rfl) ?_
  refine x_calli C0 hO (x_runV (As := [.int (1 : Int32), .int a1]) (rest := []) C0 hO (kX5_takeBack l g _ (1 : Int32) a1 σ _ hw) 2 rfl (xRecv C0 hO (j := 4) rfl rfl) gX7_unmove_X5_takeBack rfl rfl rfl hdX5_takeBack ⟨Nat.le_of_ble_eq_true rfl, Nat.le_of_ble_eq_true rfl⟩ hl.1 rfl (Nat.le_of_ble_eq_true rfl) dX7_unmove_6 ⟨Nat.le_of_ble_eq_true rfl, Nat.le_of_ble_eq_true rfl⟩) (fun r1 σ2 H locs hw hO => ?_)
  exact x_iret C0 hO hw dX7_unmove_9
theorem iX7_scrape_7 : ∀ w ∈ wsX70, w ∈ wsX7_scrape := fun w h => List.mem_cons_of_mem _ (List.mem_append_left _ (List.mem_append_right _ h))
theorem hdX7_scrape : yX7_scrape.cls = RX7 ∧ yX7_scrape.cls ≠ "java/lang/invoke/MethodHandle" ∧ yX7_scrape.cls ≠ "java/lang/invoke/VarHandle" ∧ (parseMethodDescriptor yX7_scrape.desc).map (fun d => d.parameters.length) = some 2 := by decide +kernel
set_option maxHeartbeats 4000000 in
set_option maxRecDepth 100000 in
theorem kX7_scrape (l : Launch) (g : XG) (sz : Nat) (a1 : Int32) (a2 : Int32) (σ : XS) (post : Int32 → XS → Prop) (hw : PX7_scrape a1 a2 σ post) : xMi l yX7_scrape wsX7_scrape rmX7_scrape 0 0 g sz [.ref (xa g 0), .int a1, .int a2] σ post := by
  unfold PX7_scrape at hw
  refine x_head (Qc := fun A => va_Qi post (xAt g A) A) (cc := cX7_scrape) (maxL := 3) (ret := (some .int)) (by decide) rfl ?_
  intro p e s m below meth c A C0 hnm hO
  refine x_entry (Nat.le_of_ble_eq_true rfl) (fun ls hl => ?_)
  have hl : lv_has ls 3 [(0, .ref (xa g 0)), (1, .int a1), (2, .int a2)] := hl
  have hx := C0.1
  have hb := C0.2.1
  have hown := C0.2.2.2.2.2.1
  have hts := C0.2.2.2.2.2.2.1
  refine lv_aload_n hx hb dX7_scrape_0 rfl (lv_at hl 0 rfl) ?_
  refine lv_iload_n hx hb dX7_scrape_1 rfl (lv_at hl 1 rfl) ?_
  refine x_calli C0 hO (x_runV (As := [.int a1]) (rest := []) C0 hO (kX7_isPlace l g _ a1 σ _ hw) 1 rfl (xRecv C0 hO (j := 0) rfl rfl) gX7_scrape_X7_isPlace rfl rfl rfl hdX7_isPlace ⟨Nat.le_of_ble_eq_true rfl, Nat.le_of_ble_eq_true rfl⟩ hl.1 rfl (Nat.le_of_ble_eq_true rfl) dX7_scrape_2 ⟨Nat.le_of_ble_eq_true rfl, Nat.le_of_ble_eq_true rfl⟩) (fun r1 σ' H locs hw hO => ?_)
  obtain ⟨hσ, hw⟩ := hw
  subst hσ
  refine lv_if_ne (tgt := 10) hx hb dX7_scrape_5 (by decide) (fun c2 => ?_) (fun c2 => ?_)
  · replace hw := hw.2 c2
    refine lv_iload_n hx hb dX7_scrape_10 rfl (lv_at hl 2 rfl) ?_
    refine x_calli C0 hO (x_runS (As := [.int a2]) (rest := []) C0 hO (kX7_isNight l g _ a2 σ _ hw) 1 rfl gX7_scrape_X7_isNight rfl rfl rfl hdX7_isNight.2 ⟨Nat.le_of_ble_eq_true rfl, Nat.le_of_ble_eq_true rfl⟩ hl.1 rfl (Nat.le_of_ble_eq_true rfl) dX7_scrape_11 ⟨Nat.le_of_ble_eq_true rfl, Nat.le_of_ble_eq_true rfl⟩) (fun r3 σ' H locs hw hO => ?_)
    obtain ⟨hσ, hw⟩ := hw
    subst hσ
    refine lv_if_ne (tgt := 20) hx hb dX7_scrape_14 (by decide) (fun c4 => ?_) (fun c4 => ?_)
    · replace hw := hw.2 c4
      refine lv_aload_n hx hb dX7_scrape_20 rfl (lv_at hl 0 rfl) ?_
      refine x_getr C0 hO 0 3 4 rfl rfl (by decide) rfl iX7_scrape_7 rfl (List.mem_of_getElem? (i := 1) rfl) dX7_scrape_21 ?_
      refine lv_iconst (v := 0) hx hb dX7_scrape_24 (by decide) ?_
      refine x_calli C0 hO (x_runV (As := [.int (0 : Int32)]) (rest := []) C0 hO (kX5_isFull l g _ (0 : Int32) σ _ hw) 1 rfl (xRecv C0 hO (j := 4) rfl rfl) gX7_scrape_X5_isFull rfl rfl rfl hdX5_isFull ⟨Nat.le_of_ble_eq_true rfl, Nat.le_of_ble_eq_true rfl⟩ hl.1 rfl (Nat.le_of_ble_eq_true rfl) dX7_scrape_25 ⟨Nat.le_of_ble_eq_true rfl, Nat.le_of_ble_eq_true rfl⟩) (fun r5 σ' H locs hw hO => ?_)
      obtain ⟨hσ, hw⟩ := hw
      subst hσ
      refine lv_if_eq (tgt := 34) hx hb dX7_scrape_28 (by decide) (fun c6 => ?_) (fun c6 => ?_)
      · replace hw := hw.1 c6
        refine lv_aload_n hx hb dX7_scrape_34 rfl (lv_at hl 0 rfl) ?_
        refine x_getr C0 hO 0 3 4 rfl rfl (by decide) rfl iX7_scrape_7 rfl (List.mem_of_getElem? (i := 1) rfl) dX7_scrape_35 ?_
        refine lv_iconst (v := 0) hx hb dX7_scrape_38 (by decide) ?_
        refine lv_iload_n hx hb dX7_scrape_39 rfl (lv_at hl 2 rfl) ?_
        refine lv_iload_n hx hb dX7_scrape_40 rfl (lv_at hl 1 rfl) ?_
        refine lv_iconst (v := 0) hx hb dX7_scrape_41 (by decide) ?_
        refine lv_iconst (v := 0) hx hb dX7_scrape_42 (by decide) ?_
        refine x_calli C0 hO (x_runV (As := [.int (0 : Int32), .int a2, .int a1, .int (0 : Int32), .int (0 : Int32)]) (rest := []) C0 hO (kX5_add l g _ (0 : Int32) a2 a1 (0 : Int32) (0 : Int32) σ _ hw) 5 rfl (xRecv C0 hO (j := 4) rfl rfl) gX7_scrape_X5_add rfl rfl rfl hdX5_add ⟨Nat.le_of_ble_eq_true rfl, Nat.le_of_ble_eq_true rfl⟩ hl.1 rfl (Nat.le_of_ble_eq_true rfl) dX7_scrape_43 ⟨Nat.le_of_ble_eq_true rfl, Nat.le_of_ble_eq_true rfl⟩) (fun r7 σ8 H locs hw hO => ?_)
        exact x_iret C0 hO hw dX7_scrape_46
      · replace hw := hw.2 c6
        refine lv_bipush (v := -4) hx hb dX7_scrape_31 (by decide) ?_
        exact x_iret C0 hO hw dX7_scrape_33
    · replace hw := hw.1 c4
      refine lv_bipush (v := -2) hx hb dX7_scrape_17 (by decide) ?_
      exact x_iret C0 hO hw dX7_scrape_19
  · replace hw := hw.1 c2
    refine lv_iconst (v := -1) hx hb dX7_scrape_8 (by decide) ?_
    exact x_iret C0 hO hw dX7_scrape_9
theorem iX7_unscrape_7 : ∀ w ∈ wsX70, w ∈ wsX7_unscrape := fun w h => List.mem_cons_of_mem _ (List.mem_append_left _ (List.mem_append_right _ h))
theorem hdX7_unscrape : yX7_unscrape.cls = RX7 ∧ yX7_unscrape.cls ≠ "java/lang/invoke/MethodHandle" ∧ yX7_unscrape.cls ≠ "java/lang/invoke/VarHandle" ∧ (parseMethodDescriptor yX7_unscrape.desc).map (fun d => d.parameters.length) = some 1 := by decide +kernel
set_option maxHeartbeats 4000000 in
set_option maxRecDepth 100000 in
theorem kX7_unscrape (l : Launch) (g : XG) (sz : Nat) (a1 : Int32) (σ : XS) (post : Int32 → XS → Prop) (hw : PX7_unscrape a1 σ post) : xMi l yX7_unscrape wsX7_unscrape rmX7_unscrape 0 0 g sz [.ref (xa g 0), .int a1] σ post := by
  unfold PX7_unscrape at hw
  refine x_head (Qc := fun A => va_Qi post (xAt g A) A) (cc := cX7_unscrape) (maxL := 2) (ret := (some .int)) (by decide) rfl ?_
  intro p e s m below meth c A C0 hnm hO
  refine x_entry (Nat.le_of_ble_eq_true rfl) (fun ls hl => ?_)
  have hl : lv_has ls 2 [(0, .ref (xa g 0)), (1, .int a1)] := hl
  have hx := C0.1
  have hb := C0.2.1
  have hown := C0.2.2.2.2.2.1
  have hts := C0.2.2.2.2.2.2.1
  refine lv_aload_n hx hb dX7_unscrape_0 rfl (lv_at hl 0 rfl) ?_
  refine x_getr C0 hO 0 3 4 rfl rfl (by decide) rfl iX7_unscrape_7 rfl (List.mem_of_getElem? (i := 1) rfl) dX7_unscrape_1 ?_
  refine lv_iconst (v := 0) hx hb dX7_unscrape_4 (by decide) ?_
  refine lv_iload_n hx hb dX7_unscrape_5 rfl (lv_at hl 1 rfl) ?_
  refine x_calli C0 hO (x_runV (As := [.int (0 : Int32), .int a1]) (rest := []) C0 hO (kX5_takeBack l g _ (0 : Int32) a1 σ _ hw) 2 rfl (xRecv C0 hO (j := 4) rfl rfl) gX7_unscrape_X5_takeBack rfl rfl rfl hdX5_takeBack ⟨Nat.le_of_ble_eq_true rfl, Nat.le_of_ble_eq_true rfl⟩ hl.1 rfl (Nat.le_of_ble_eq_true rfl) dX7_unscrape_6 ⟨Nat.le_of_ble_eq_true rfl, Nat.le_of_ble_eq_true rfl⟩) (fun r1 σ2 H locs hw hO => ?_)
  exact x_iret C0 hO hw dX7_unscrape_9
theorem iX7_layers_7 : ∀ w ∈ wsX70, w ∈ wsX7_layers := fun w h => List.mem_cons_of_mem _ (List.mem_append_left _ (List.mem_append_left _ (List.mem_append_right _ h)))
theorem hdX7_layers : yX7_layers.cls = RX7 ∧ yX7_layers.cls ≠ "java/lang/invoke/MethodHandle" ∧ yX7_layers.cls ≠ "java/lang/invoke/VarHandle" ∧ (parseMethodDescriptor yX7_layers.desc).map (fun d => d.parameters.length) = some 2 := by decide +kernel
set_option maxHeartbeats 4000000 in
set_option maxRecDepth 100000 in
theorem kX7_layers (l : Launch) (g : XG) (sz : Nat) (a1 : Int32) (a2 : Int32) (σ : XS) (post : Int32 → XS → Prop) (hw : PX7_layers a1 a2 σ post) : xMi l yX7_layers wsX7_layers rmX7_layers 0 0 g sz [.ref (xa g 0), .int a1, .int a2] σ post := by
  unfold PX7_layers at hw
  refine x_head (Qc := fun A => va_Qi post (xAt g A) A) (cc := cX7_layers) (maxL := 3) (ret := (some .int)) (by decide) rfl ?_
  intro p e s m below meth c A C0 hnm hO
  refine x_entry (Nat.le_of_ble_eq_true rfl) (fun ls hl => ?_)
  have hl : lv_has ls 3 [(0, .ref (xa g 0)), (1, .int a1), (2, .int a2)] := hl
  have hx := C0.1
  have hb := C0.2.1
  have hown := C0.2.2.2.2.2.1
  have hts := C0.2.2.2.2.2.2.1
  refine lv_aload_n hx hb dX7_layers_0 rfl (lv_at hl 0 rfl) ?_
  refine lv_iload_n hx hb dX7_layers_1 rfl (lv_at hl 1 rfl) ?_
  refine x_calli C0 hO (x_runV (As := [.int a1]) (rest := []) C0 hO (kX7_isPlace l g _ a1 σ _ hw) 1 rfl (xRecv C0 hO (j := 0) rfl rfl) gX7_layers_X7_isPlace rfl rfl rfl hdX7_isPlace ⟨Nat.le_of_ble_eq_true rfl, Nat.le_of_ble_eq_true rfl⟩ hl.1 rfl (Nat.le_of_ble_eq_true rfl) dX7_layers_2 ⟨Nat.le_of_ble_eq_true rfl, Nat.le_of_ble_eq_true rfl⟩) (fun r1 σ' H locs hw hO => ?_)
  obtain ⟨hσ, hw⟩ := hw
  subst hσ
  refine lv_if_ne (tgt := 10) hx hb dX7_layers_5 (by decide) (fun c2 => ?_) (fun c2 => ?_)
  · replace hw := hw.2 c2
    refine lv_iload_n hx hb dX7_layers_10 rfl (lv_at hl 2 rfl) ?_
    refine x_calli C0 hO (x_runS (As := [.int a2]) (rest := []) C0 hO (kX7_isNight l g _ a2 σ _ hw) 1 rfl gX7_layers_X7_isNight rfl rfl rfl hdX7_isNight.2 ⟨Nat.le_of_ble_eq_true rfl, Nat.le_of_ble_eq_true rfl⟩ hl.1 rfl (Nat.le_of_ble_eq_true rfl) dX7_layers_11 ⟨Nat.le_of_ble_eq_true rfl, Nat.le_of_ble_eq_true rfl⟩) (fun r3 σ' H locs hw hO => ?_)
    obtain ⟨hσ, hw⟩ := hw
    subst hσ
    refine lv_if_ne (tgt := 20) hx hb dX7_layers_14 (by decide) (fun c4 => ?_) (fun c4 => ?_)
    · replace hw := hw.2 c4
      refine lv_aload_n hx hb dX7_layers_20 rfl (lv_at hl 0 rfl) ?_
      refine x_getr C0 hO 0 3 4 rfl rfl (by decide) rfl iX7_layers_7 rfl (List.mem_of_getElem? (i := 1) rfl) dX7_layers_21 ?_
      refine lv_iload_n hx hb dX7_layers_24 rfl (lv_at hl 2 rfl) ?_
      refine lv_aload_n hx hb dX7_layers_25 rfl (lv_at hl 0 rfl) ?_
      refine x_getr C0 hO 0 4 11 rfl rfl (by decide) rfl iX7_layers_7 rfl (List.mem_of_getElem? (i := 2) rfl) dX7_layers_26 ?_
      refine x_callv C0 hO (x_runV (As := [.int a2, .ref (xa g 11)]) (rest := []) C0 hO (kX5_playTo l g _ a2 σ _ hw) 2 rfl (xRecv C0 hO (j := 4) rfl rfl) gX7_layers_X5_playTo rfl rfl rfl hdX5_playTo ⟨Nat.le_of_ble_eq_true rfl, Nat.le_of_ble_eq_true rfl⟩ hl.1 rfl (Nat.le_of_ble_eq_true rfl) dX7_layers_29 ⟨Nat.le_of_ble_eq_true rfl, Nat.le_of_ble_eq_true rfl⟩) (fun σ5 H locs hw hO => ?_)
      refine lv_aload_n hx hb dX7_layers_32 rfl (lv_at hl 0 rfl) ?_
      refine x_getr C0 hO 0 4 11 rfl rfl (by decide) rfl iX7_layers_7 rfl (List.mem_of_getElem? (i := 2) rfl) dX7_layers_33 ?_
      refine lv_iload_n hx hb dX7_layers_36 rfl (lv_at hl 1 rfl) ?_
      refine x_calli C0 hO (x_runV (As := [.int a1]) (rest := []) C0 hO (kX1_heightAt l g _ a1 σ5 _ hw) 1 rfl (xRecv C0 hO (j := 11) rfl rfl) gX7_layers_X1_heightAt rfl rfl rfl hdX1_heightAt ⟨Nat.le_of_ble_eq_true rfl, Nat.le_of_ble_eq_true rfl⟩ hl.1 rfl (Nat.le_of_ble_eq_true rfl) dX7_layers_37 ⟨Nat.le_of_ble_eq_true rfl, Nat.le_of_ble_eq_true rfl⟩) (fun r6 σ' H locs hw hO => ?_)
      obtain ⟨hσ, hw⟩ := hw
      subst hσ
      exact x_iret C0 hO hw dX7_layers_40
    · replace hw := hw.1 c4
      refine lv_bipush (v := -2) hx hb dX7_layers_17 (by decide) ?_
      exact x_iret C0 hO hw dX7_layers_19
  · replace hw := hw.1 c2
    refine lv_iconst (v := -1) hx hb dX7_layers_8 (by decide) ?_
    exact x_iret C0 hO hw dX7_layers_9
theorem iX7_under_7 : ∀ w ∈ wsX70, w ∈ wsX7_under := fun w h => List.mem_cons_of_mem _ (List.mem_append_left _ (List.mem_append_left _ (List.mem_append_right _ h)))
theorem hdX7_under : yX7_under.cls = RX7 ∧ yX7_under.cls ≠ "java/lang/invoke/MethodHandle" ∧ yX7_under.cls ≠ "java/lang/invoke/VarHandle" ∧ (parseMethodDescriptor yX7_under.desc).map (fun d => d.parameters.length) = some 4 := by decide +kernel
set_option maxHeartbeats 4000000 in
set_option maxRecDepth 100000 in
theorem kX7_under (l : Launch) (g : XG) (sz : Nat) (a1 : Int32) (a2 : Int32) (a3 : Int32) (a4 : Int32) (σ : XS) (post : Int32 → XS → Prop) (hw : PX7_under a1 a2 a3 a4 σ post) : xMi l yX7_under wsX7_under rmX7_under 0 0 g sz [.ref (xa g 0), .int a1, .int a2, .int a3, .int a4] σ post := by
  unfold PX7_under at hw
  refine x_head (Qc := fun A => va_Qi post (xAt g A) A) (cc := cX7_under) (maxL := 6) (ret := (some .int)) (by decide) rfl ?_
  intro p e s m below meth c A C0 hnm hO
  refine x_entry (Nat.le_of_ble_eq_true rfl) (fun ls hl => ?_)
  have hl : lv_has ls 6 [(0, .ref (xa g 0)), (1, .int a1), (2, .int a2), (3, .int a3), (4, .int a4)] := hl
  have hx := C0.1
  have hb := C0.2.1
  have hown := C0.2.2.2.2.2.1
  have hts := C0.2.2.2.2.2.2.1
  refine lv_aload_n hx hb dX7_under_0 rfl (lv_at hl 0 rfl) ?_
  refine lv_iload_n hx hb dX7_under_1 rfl (lv_at hl 1 rfl) ?_
  refine x_calli C0 hO (x_runV (As := [.int a1]) (rest := []) C0 hO (kX7_isPlace l g _ a1 σ _ hw) 1 rfl (xRecv C0 hO (j := 0) rfl rfl) gX7_under_X7_isPlace rfl rfl rfl hdX7_isPlace ⟨Nat.le_of_ble_eq_true rfl, Nat.le_of_ble_eq_true rfl⟩ hl.1 rfl (Nat.le_of_ble_eq_true rfl) dX7_under_2 ⟨Nat.le_of_ble_eq_true rfl, Nat.le_of_ble_eq_true rfl⟩) (fun r1 σ' H locs hw hO => ?_)
  obtain ⟨hσ, hw⟩ := hw
  subst hσ
  refine lv_if_eq (tgt := 12) hx hb dX7_under_5 (by decide) (fun c2 => ?_) (fun c2 => ?_)
  · replace hw := hw.1 c2
    refine lv_iconst (v := -1) hx hb dX7_under_12 (by decide) ?_
    exact x_iret C0 hO hw dX7_under_13
  · replace hw := hw.2 c2
    refine lv_iload_n hx hb dX7_under_8 rfl (lv_at hl 3 rfl) ?_
    refine lv_if_ge (tgt := 14) hx hb dX7_under_9 (by decide) (fun c3 => ?_) (fun c3 => ?_)
    · replace hw := hw.1 c3
      refine lv_iload_n hx hb dX7_under_14 rfl (lv_at hl 2 rfl) ?_
      refine x_calli C0 hO (x_runS (As := [.int a2]) (rest := []) C0 hO (kX7_isNight l g _ a2 σ _ hw) 1 rfl gX7_under_X7_isNight rfl rfl rfl hdX7_isNight.2 ⟨Nat.le_of_ble_eq_true rfl, Nat.le_of_ble_eq_true rfl⟩ hl.1 rfl (Nat.le_of_ble_eq_true rfl) dX7_under_15 ⟨Nat.le_of_ble_eq_true rfl, Nat.le_of_ble_eq_true rfl⟩) (fun r4 σ' H locs hw hO => ?_)
      obtain ⟨hσ, hw⟩ := hw
      subst hσ
      refine lv_if_eq (tgt := 29) hx hb dX7_under_18 (by decide) (fun c5 => ?_) (fun c5 => ?_)
      · replace hw := hw.1 c5
        refine lv_bipush (v := -2) hx hb dX7_under_29 (by decide) ?_
        exact x_iret C0 hO hw dX7_under_31
      · replace hw := hw.2 c5
        refine lv_iload hx hb dX7_under_21 (lv_at hl 4 rfl) ?_
        refine x_calli C0 hO (x_runS (As := [.int a4]) (rest := []) C0 hO (kX7_isEither l g _ a4 σ _ hw) 1 rfl gX7_under_X7_isEither rfl rfl rfl hdX7_isEither.2 ⟨Nat.le_of_ble_eq_true rfl, Nat.le_of_ble_eq_true rfl⟩ hl.1 rfl (Nat.le_of_ble_eq_true rfl) dX7_under_23 ⟨Nat.le_of_ble_eq_true rfl, Nat.le_of_ble_eq_true rfl⟩) (fun r6 σ' H locs hw hO => ?_)
        obtain ⟨hσ, hw⟩ := hw
        subst hσ
        refine lv_if_ne (tgt := 32) hx hb dX7_under_26 (by decide) (fun c7 => ?_) (fun c7 => ?_)
        · replace hw := hw.2 c7
          refine lv_aload_n hx hb dX7_under_32 rfl (lv_at hl 0 rfl) ?_
          refine x_getr C0 hO 0 3 4 rfl rfl (by decide) rfl iX7_under_7 rfl (List.mem_of_getElem? (i := 1) rfl) dX7_under_33 ?_
          refine lv_iload_n hx hb dX7_under_36 rfl (lv_at hl 2 rfl) ?_
          refine lv_aload_n hx hb dX7_under_37 rfl (lv_at hl 0 rfl) ?_
          refine x_getr C0 hO 0 4 11 rfl rfl (by decide) rfl iX7_under_7 rfl (List.mem_of_getElem? (i := 2) rfl) dX7_under_38 ?_
          refine x_callv C0 hO (x_runV (As := [.int a2, .ref (xa g 11)]) (rest := []) C0 hO (kX5_playTo l g _ a2 σ _ hw) 2 rfl (xRecv C0 hO (j := 4) rfl rfl) gX7_under_X5_playTo rfl rfl rfl hdX5_playTo ⟨Nat.le_of_ble_eq_true rfl, Nat.le_of_ble_eq_true rfl⟩ hl.1 rfl (Nat.le_of_ble_eq_true rfl) dX7_under_41 ⟨Nat.le_of_ble_eq_true rfl, Nat.le_of_ble_eq_true rfl⟩) (fun σ8 H locs hw hO => ?_)
          refine lv_aload_n hx hb dX7_under_44 rfl (lv_at hl 0 rfl) ?_
          refine x_getr C0 hO 0 4 11 rfl rfl (by decide) rfl iX7_under_7 rfl (List.mem_of_getElem? (i := 2) rfl) dX7_under_45 ?_
          refine lv_iload_n hx hb dX7_under_48 rfl (lv_at hl 1 rfl) ?_
          refine lv_iload_n hx hb dX7_under_49 rfl (lv_at hl 3 rfl) ?_
          refine x_calli C0 hO (x_runV (As := [.int a1, .int a3]) (rest := []) C0 hO (kX1_layerAt l g _ a1 a3 σ8 _ hw) 2 rfl (xRecv C0 hO (j := 11) rfl rfl) gX7_under_X1_layerAt rfl rfl rfl hdX1_layerAt ⟨Nat.le_of_ble_eq_true rfl, Nat.le_of_ble_eq_true rfl⟩ hl.1 rfl (Nat.le_of_ble_eq_true rfl) dX7_under_50 ⟨Nat.le_of_ble_eq_true rfl, Nat.le_of_ble_eq_true rfl⟩) (fun r9 σ' H locs hw hO => ?_)
          obtain ⟨hσ, hw⟩ := hw
          subst hσ
          refine lv_istore (lv' := [(5, .int r9), (0, .ref (xa g 0)), (1, .int a1), (2, .int a2), (3, .int a3), (4, .int a4)]) hx hb dX7_under_53 hl (by decide) rfl (fun ls hl => ?_)
          refine lv_iload hx hb dX7_under_55 (lv_at hl 0 rfl) ?_
          refine lv_bipush (v := -9) hx hb dX7_under_57 (by decide) ?_
          refine lv_icmp_eq (tgt := 68) hx hb dX7_under_59 (by decide) (fun c10 => ?_) (fun c10 => ?_)
          · replace hw := hw.1 c10
            refine lv_iload hx hb dX7_under_68 (lv_at hl 0 rfl) ?_
            exact x_iret C0 hO hw dX7_under_70
          · replace hw := hw.2 c10
            refine lv_iload hx hb dX7_under_62 (lv_at hl 5 rfl) ?_
            refine lv_iconst (v := 1) hx hb dX7_under_64 (by decide) ?_
            refine lv_icmp_ne (tgt := 71) hx hb dX7_under_65 (by decide) (fun c11 => ?_) (fun c11 => ?_)
            · replace hw := hw.2 c11
              refine lv_aload_n hx hb dX7_under_71 rfl (lv_at hl 1 rfl) ?_
              refine x_getr C0 hO 0 3 4 rfl rfl (by decide) rfl iX7_under_7 rfl (List.mem_of_getElem? (i := 1) rfl) dX7_under_72 ?_
              refine lv_iload hx hb dX7_under_75 (lv_at hl 0 rfl) ?_
              refine x_calli C0 hO (x_runV (As := [.int r9]) (rest := []) C0 hO (kX5_gumOf l g _ r9 σ8 _ hw) 1 rfl (xRecv C0 hO (j := 4) rfl rfl) gX7_under_X5_gumOf rfl rfl rfl hdX5_gumOf ⟨Nat.le_of_ble_eq_true rfl, Nat.le_of_ble_eq_true rfl⟩ hl.1 rfl (Nat.le_of_ble_eq_true rfl) dX7_under_77 ⟨Nat.le_of_ble_eq_true rfl, Nat.le_of_ble_eq_true rfl⟩) (fun r12 σ' H locs hw hO => ?_)
              obtain ⟨hσ, hw⟩ := hw
              subst hσ
              exact x_iret C0 hO hw dX7_under_80
            · replace hw := hw.1 c11
              refine lv_iload hx hb dX7_under_68 (lv_at hl 0 rfl) ?_
              exact x_iret C0 hO hw dX7_under_70
        · replace hw := hw.1 c7
          refine lv_bipush (v := -2) hx hb dX7_under_29 (by decide) ?_
          exact x_iret C0 hO hw dX7_under_31
    · replace hw := hw.2 c3
      refine lv_iconst (v := -1) hx hb dX7_under_12 (by decide) ?_
      exact x_iret C0 hO hw dX7_under_13
theorem iX7_chair_7 : ∀ w ∈ wsX70, w ∈ wsX7_chair := fun w h => List.mem_cons_of_mem _ (List.mem_append_left _ (List.mem_append_left _ (List.mem_append_right _ h)))
theorem hdX7_chair : yX7_chair.cls = RX7 ∧ yX7_chair.cls ≠ "java/lang/invoke/MethodHandle" ∧ yX7_chair.cls ≠ "java/lang/invoke/VarHandle" ∧ (parseMethodDescriptor yX7_chair.desc).map (fun d => d.parameters.length) = some 2 := by decide +kernel
set_option maxHeartbeats 4000000 in
set_option maxRecDepth 100000 in
theorem kX7_chair (l : Launch) (g : XG) (sz : Nat) (a1 : Int32) (a2 : Int32) (σ : XS) (post : Int32 → XS → Prop) (hw : PX7_chair a1 a2 σ post) : xMi l yX7_chair wsX7_chair rmX7_chair 0 0 g sz [.ref (xa g 0), .int a1, .int a2] σ post := by
  unfold PX7_chair at hw
  refine x_head (Qc := fun A => va_Qi post (xAt g A) A) (cc := cX7_chair) (maxL := 3) (ret := (some .int)) (by decide) rfl ?_
  intro p e s m below meth c A C0 hnm hO
  refine x_entry (Nat.le_of_ble_eq_true rfl) (fun ls hl => ?_)
  have hl : lv_has ls 3 [(0, .ref (xa g 0)), (1, .int a1), (2, .int a2)] := hl
  have hx := C0.1
  have hb := C0.2.1
  have hown := C0.2.2.2.2.2.1
  have hts := C0.2.2.2.2.2.2.1
  refine lv_aload_n hx hb dX7_chair_0 rfl (lv_at hl 0 rfl) ?_
  refine lv_iload_n hx hb dX7_chair_1 rfl (lv_at hl 1 rfl) ?_
  refine x_calli C0 hO (x_runV (As := [.int a1]) (rest := []) C0 hO (kX7_isPlace l g _ a1 σ _ hw) 1 rfl (xRecv C0 hO (j := 0) rfl rfl) gX7_chair_X7_isPlace rfl rfl rfl hdX7_isPlace ⟨Nat.le_of_ble_eq_true rfl, Nat.le_of_ble_eq_true rfl⟩ hl.1 rfl (Nat.le_of_ble_eq_true rfl) dX7_chair_2 ⟨Nat.le_of_ble_eq_true rfl, Nat.le_of_ble_eq_true rfl⟩) (fun r1 σ' H locs hw hO => ?_)
  obtain ⟨hσ, hw⟩ := hw
  subst hσ
  refine lv_if_ne (tgt := 10) hx hb dX7_chair_5 (by decide) (fun c2 => ?_) (fun c2 => ?_)
  · replace hw := hw.2 c2
    refine lv_iload_n hx hb dX7_chair_10 rfl (lv_at hl 2 rfl) ?_
    refine x_calli C0 hO (x_runS (As := [.int a2]) (rest := []) C0 hO (kX7_isNight l g _ a2 σ _ hw) 1 rfl gX7_chair_X7_isNight rfl rfl rfl hdX7_isNight.2 ⟨Nat.le_of_ble_eq_true rfl, Nat.le_of_ble_eq_true rfl⟩ hl.1 rfl (Nat.le_of_ble_eq_true rfl) dX7_chair_11 ⟨Nat.le_of_ble_eq_true rfl, Nat.le_of_ble_eq_true rfl⟩) (fun r3 σ' H locs hw hO => ?_)
    obtain ⟨hσ, hw⟩ := hw
    subst hσ
    refine lv_if_ne (tgt := 20) hx hb dX7_chair_14 (by decide) (fun c4 => ?_) (fun c4 => ?_)
    · replace hw := hw.2 c4
      refine lv_aload_n hx hb dX7_chair_20 rfl (lv_at hl 0 rfl) ?_
      refine x_getr C0 hO 0 3 4 rfl rfl (by decide) rfl iX7_chair_7 rfl (List.mem_of_getElem? (i := 1) rfl) dX7_chair_21 ?_
      refine lv_iload_n hx hb dX7_chair_24 rfl (lv_at hl 2 rfl) ?_
      refine lv_aload_n hx hb dX7_chair_25 rfl (lv_at hl 0 rfl) ?_
      refine x_getr C0 hO 0 4 11 rfl rfl (by decide) rfl iX7_chair_7 rfl (List.mem_of_getElem? (i := 2) rfl) dX7_chair_26 ?_
      refine x_callv C0 hO (x_runV (As := [.int a2, .ref (xa g 11)]) (rest := []) C0 hO (kX5_playTo l g _ a2 σ _ hw) 2 rfl (xRecv C0 hO (j := 4) rfl rfl) gX7_chair_X5_playTo rfl rfl rfl hdX5_playTo ⟨Nat.le_of_ble_eq_true rfl, Nat.le_of_ble_eq_true rfl⟩ hl.1 rfl (Nat.le_of_ble_eq_true rfl) dX7_chair_29 ⟨Nat.le_of_ble_eq_true rfl, Nat.le_of_ble_eq_true rfl⟩) (fun σ5 H locs hw hO => ?_)
      refine lv_aload_n hx hb dX7_chair_32 rfl (lv_at hl 0 rfl) ?_
      refine x_getr C0 hO 0 4 11 rfl rfl (by decide) rfl iX7_chair_7 rfl (List.mem_of_getElem? (i := 2) rfl) dX7_chair_33 ?_
      refine lv_iload_n hx hb dX7_chair_36 rfl (lv_at hl 1 rfl) ?_
      refine x_calli C0 hO (x_runV (As := [.int a1]) (rest := []) C0 hO (kX1_chairIn l g _ a1 σ5 _ hw) 1 rfl (xRecv C0 hO (j := 11) rfl rfl) gX7_chair_X1_chairIn rfl rfl rfl hdX1_chairIn ⟨Nat.le_of_ble_eq_true rfl, Nat.le_of_ble_eq_true rfl⟩ hl.1 rfl (Nat.le_of_ble_eq_true rfl) dX7_chair_37 ⟨Nat.le_of_ble_eq_true rfl, Nat.le_of_ble_eq_true rfl⟩) (fun r6 σ' H locs hw hO => ?_)
      obtain ⟨hσ, hw⟩ := hw
      subst hσ
      exact x_iret C0 hO hw dX7_chair_40
    · replace hw := hw.1 c4
      refine lv_bipush (v := -2) hx hb dX7_chair_17 (by decide) ?_
      exact x_iret C0 hO hw dX7_chair_19
  · replace hw := hw.1 c2
    refine lv_iconst (v := -1) hx hb dX7_chair_8 (by decide) ?_
    exact x_iret C0 hO hw dX7_chair_9
theorem iX7_beside_7 : ∀ w ∈ wsX70, w ∈ wsX7_beside := fun w h => List.mem_cons_of_mem _ (List.mem_append_left _ (List.mem_append_right _ h))
theorem hdX7_beside : yX7_beside.cls = RX7 ∧ yX7_beside.cls ≠ "java/lang/invoke/MethodHandle" ∧ yX7_beside.cls ≠ "java/lang/invoke/VarHandle" ∧ (parseMethodDescriptor yX7_beside.desc).map (fun d => d.parameters.length) = some 2 := by decide +kernel
set_option maxHeartbeats 4000000 in
set_option maxRecDepth 100000 in
theorem lX7_beside_28 {p : Program} {l : Launch} {e : Env} {s : State} {m : MethodId} {args : Array Value} {below : List Frame} {meth : Method} {c : Code} {g : XG} {A : Nat → Prop} (C0 : xC g A wsX7_beside RX7 cX7_beside 7 (some .int) p s m args meth c) (σ : XS) (f1 : Int32) (f2 : Int32) (post : Int32 → Prop) (kx : Int32 → Int32 → Prop)
    (hkx : ∀ (m3 : Int32) (m4 : Int32) (H : Heap) (locs : List Loc) (ls : Array Slot), kx m3 m4 → xO g A s σ H locs → lv_has ls 7 [(0, .ref (xa g 0)), (1, .int f1), (2, .int f2), (3, .int m3), (4, .int m4)] → W p l e (headSpec wsX7_beside rmX7_beside).room s m args below meth c H locs 0 0 (MQ below (va_Qi (fun r u => σ = u ∧ post r) (xAt g A) A) args s 0 0 A) (F0 m 109 ls [])) :
    ∀ (n : Nat) (m3 : Int32) (m4 : Int32) (H : Heap) (locs : List Loc) (ls : Array Slot), LX7_beside_28 σ f1 f2 post kx n m3 m4 → xO g A s σ H locs → lv_has ls 7 [(0, .ref (xa g 0)), (1, .int f1), (2, .int f2), (3, .int m3), (4, .int m4)] → W p l e (headSpec wsX7_beside rmX7_beside).room s m args below meth c H locs 0 0 (MQ below (va_Qi (fun r u => σ = u ∧ post r) (xAt g A) A) args s 0 0 A) (F0 m 28 ls []) := by
  have hx := C0.1
  have hb := C0.2.1
  have hown := C0.2.2.2.2.2.1
  have hts := C0.2.2.2.2.2.2.1
  intro n
  induction n with
  | zero =>
    intro m3 m4 H locs ls hw
    exact hw.elim
  | succ n ih =>
    intro m3 m4 H locs ls hw hO hl
    rw [LX7_beside_28] at hw
    refine lv_iload hx hb dX7_beside_28 (lv_at hl 4 rfl) ?_
    refine lv_aload_n hx hb dX7_beside_30 rfl (lv_at hl 0 rfl) ?_
    refine x_getr C0 hO 0 3 4 rfl rfl (by decide) rfl iX7_beside_7 rfl (List.mem_of_getElem? (i := 1) rfl) dX7_beside_31 ?_
    refine lv_iconst (v := 2) hx hb dX7_beside_34 (by decide) ?_
    refine x_calli C0 hO (x_runV (As := [.int (2 : Int32)]) (rest := [.int m4]) C0 hO (kX5_count l g _ (2 : Int32) σ _ hw) 1 rfl (xRecv C0 hO (j := 4) rfl rfl) gX7_beside_X5_count rfl rfl rfl hdX5_count ⟨Nat.le_of_ble_eq_true rfl, Nat.le_of_ble_eq_true rfl⟩ hl.1 rfl (Nat.le_of_ble_eq_true rfl) dX7_beside_35 ⟨Nat.le_of_ble_eq_true rfl, Nat.le_of_ble_eq_true rfl⟩) (fun r6 σ' H locs hw hO => ?_)
    obtain ⟨hσ, hw⟩ := hw
    subst hσ
    refine lv_icmp_ge (tgt := 109) hx hb dX7_beside_38 (by decide) (fun c7 => ?_) (fun c7 => ?_)
    · replace hw := hw.1 c7
      exact hkx _ _ _ _ _ hw hO (lv_sub hl [0, 1, 2, 3, 4] rfl)
    · replace hw := hw.2 c7
      refine lv_aload_n hx hb dX7_beside_41 rfl (lv_at hl 0 rfl) ?_
      refine x_getr C0 hO 0 3 4 rfl rfl (by decide) rfl iX7_beside_7 rfl (List.mem_of_getElem? (i := 1) rfl) dX7_beside_42 ?_
      refine lv_iload hx hb dX7_beside_45 (lv_at hl 4 rfl) ?_
      refine x_calli C0 hO (x_runV (As := [.int m4]) (rest := []) C0 hO (kX5_placeOf l g _ m4 σ _ hw) 1 rfl (xRecv C0 hO (j := 4) rfl rfl) gX7_beside_X5_placeOf rfl rfl rfl hdX5_placeOf ⟨Nat.le_of_ble_eq_true rfl, Nat.le_of_ble_eq_true rfl⟩ hl.1 rfl (Nat.le_of_ble_eq_true rfl) dX7_beside_47 ⟨Nat.le_of_ble_eq_true rfl, Nat.le_of_ble_eq_true rfl⟩) (fun r8 σ' H locs hw hO => ?_)
      obtain ⟨hσ, hw⟩ := hw
      subst hσ
      refine lv_istore (lv' := [(5, .int r8), (0, .ref (xa g 0)), (1, .int f1), (2, .int f2), (3, .int m3), (4, .int m4)]) hx hb dX7_beside_50 hl (by decide) rfl (fun ls hl => ?_)
      refine lv_aload_n hx hb dX7_beside_52 rfl (lv_at hl 1 rfl) ?_
      refine lv_aload_n hx hb dX7_beside_53 rfl (lv_at hl 1 rfl) ?_
      refine x_getr C0 hO 0 3 4 rfl rfl (by decide) rfl iX7_beside_7 rfl (List.mem_of_getElem? (i := 1) rfl) dX7_beside_54 ?_
      refine lv_iload hx hb dX7_beside_57 (lv_at hl 5 rfl) ?_
      refine x_calli C0 hO (x_runV (As := [.int m4]) (rest := [.ref (xa g 0)]) C0 hO (kX5_nightOf l g _ m4 σ _ hw) 1 rfl (xRecv C0 hO (j := 4) rfl rfl) gX7_beside_X5_nightOf rfl rfl rfl hdX5_nightOf ⟨Nat.le_of_ble_eq_true rfl, Nat.le_of_ble_eq_true rfl⟩ hl.1 rfl (Nat.le_of_ble_eq_true rfl) dX7_beside_59 ⟨Nat.le_of_ble_eq_true rfl, Nat.le_of_ble_eq_true rfl⟩) (fun r9 σ' H locs hw hO => ?_)
      obtain ⟨hσ, hw⟩ := hw
      subst hσ
      refine lv_iload_n hx hb dX7_beside_62 rfl (lv_at hl 3 rfl) ?_
      refine x_calli C0 hO (x_runV (As := [.int r9, .int f2]) (rest := []) C0 hO (kX7_placeOn l g _ r9 f2 σ _ hw) 2 rfl (xRecv C0 hO (j := 0) rfl rfl) gX7_beside_X7_placeOn rfl rfl rfl hdX7_placeOn ⟨Nat.le_of_ble_eq_true rfl, Nat.le_of_ble_eq_true rfl⟩ hl.1 rfl (Nat.le_of_ble_eq_true rfl) dX7_beside_63 ⟨Nat.le_of_ble_eq_true rfl, Nat.le_of_ble_eq_true rfl⟩) (fun r10 σ' H locs hw hO => ?_)
      obtain ⟨hσ, hw⟩ := hw
      subst hσ
      refine lv_istore (lv' := [(6, .int r10), (5, .int r8), (0, .ref (xa g 0)), (1, .int f1), (2, .int f2), (3, .int m3), (4, .int m4)]) hx hb dX7_beside_66 hl (by decide) rfl (fun ls hl => ?_)
      refine lv_aload_n hx hb dX7_beside_68 rfl (lv_at hl 2 rfl) ?_
      refine x_getr C0 hO 0 3 4 rfl rfl (by decide) rfl iX7_beside_7 rfl (List.mem_of_getElem? (i := 1) rfl) dX7_beside_69 ?_
      refine lv_iload hx hb dX7_beside_72 (lv_at hl 6 rfl) ?_
      refine x_calli C0 hO (x_runV (As := [.int m4]) (rest := []) C0 hO (kX5_personOf l g _ m4 σ _ hw) 1 rfl (xRecv C0 hO (j := 4) rfl rfl) gX7_beside_X5_personOf rfl rfl rfl hdX5_personOf ⟨Nat.le_of_ble_eq_true rfl, Nat.le_of_ble_eq_true rfl⟩ hl.1 rfl (Nat.le_of_ble_eq_true rfl) dX7_beside_74 ⟨Nat.le_of_ble_eq_true rfl, Nat.le_of_ble_eq_true rfl⟩) (fun r11 σ' H locs hw hO => ?_)
      obtain ⟨hσ, hw⟩ := hw
      subst hσ
      refine lv_iload_n hx hb dX7_beside_77 rfl (lv_at hl 3 rfl) ?_
      refine lv_icmp_ne (tgt := 103) hx hb dX7_beside_78 (by decide) (fun c12 => ?_) (fun c12 => ?_)
      · replace hw := hw.2 c12
        obtain ⟨x13, ex13⟩ : ∃ z : Int32, z = m4 + 1 := ⟨_, rfl⟩
        replace hw := hw x13 ex13
        refine lv_iinc (v := x13) (lv' := [(4, .int x13), (6, .int r10), (5, .int r8), (0, .ref (xa g 0)), (1, .int f1), (2, .int f2), (3, .int m3)]) hx hb dX7_beside_103 hl (k := 6) rfl (by rw [ex13]; rfl) (by decide) rfl (fun ls hl => ?_)
        refine lv_goto (tgt := 28) hx hb dX7_beside_106 (by decide) ?_
        exact ih _ _ _ _ _ hw hO (lv_sub hl [3, 4, 5, 6, 0] rfl)
      · replace hw := hw.1 c12
        refine lv_iload hx hb dX7_beside_81 (lv_at hl 0 rfl) ?_
        refine lv_bipush (v := -9) hx hb dX7_beside_83 (by decide) ?_
        refine lv_icmp_eq (tgt := 103) hx hb dX7_beside_85 (by decide) (fun c14 => ?_) (fun c14 => ?_)
        · replace hw := hw.1 c14
          obtain ⟨x15, ex15⟩ : ∃ z : Int32, z = m4 + 1 := ⟨_, rfl⟩
          replace hw := hw x15 ex15
          refine lv_iinc (v := x15) (lv' := [(4, .int x15), (6, .int r10), (5, .int r8), (0, .ref (xa g 0)), (1, .int f1), (2, .int f2), (3, .int m3)]) hx hb dX7_beside_103 hl (k := 6) rfl (by rw [ex15]; rfl) (by decide) rfl (fun ls hl => ?_)
          refine lv_goto (tgt := 28) hx hb dX7_beside_106 (by decide) ?_
          exact ih _ _ _ _ _ hw hO (lv_sub hl [3, 4, 5, 6, 0] rfl)
        · replace hw := hw.2 c14
          refine lv_iload hx hb dX7_beside_88 (lv_at hl 1 rfl) ?_
          refine lv_iload hx hb dX7_beside_90 (lv_at hl 0 rfl) ?_
          refine lv_isub hx hb dX7_beside_92 ?_
          refine va_mabs hx hb (by rw [C0.2.2.2.2.1]; exact hl.1.symm) hown (hts _ (List.mem_of_getElem? (i := 2) rfl)) (hts _ (List.mem_of_getElem? (i := 3) rfl)) (hts _ (List.mem_of_getElem? (i := 4) rfl)) (hts _ (List.mem_of_getElem? (i := 5) rfl)) (Nat.le_of_ble_eq_true rfl) (Nat.le_of_ble_eq_true rfl) (Nat.le_of_ble_eq_true rfl) (Nat.le_of_ble_eq_true rfl) dX7_beside_93 ?_
          refine lv_iconst (v := 1) hx hb dX7_beside_96 (by decide) ?_
          refine lv_icmp_ne (tgt := 103) hx hb dX7_beside_97 (by decide) (fun c16 => ?_) (fun c16 => ?_)
          · replace hw := hw.2 c16
            obtain ⟨x17, ex17⟩ : ∃ z : Int32, z = m4 + 1 := ⟨_, rfl⟩
            replace hw := hw x17 ex17
            refine lv_iinc (v := x17) (lv' := [(4, .int x17), (6, .int r10), (5, .int r8), (0, .ref (xa g 0)), (1, .int f1), (2, .int f2), (3, .int m3)]) hx hb dX7_beside_103 hl (k := 6) rfl (by rw [ex17]; rfl) (by decide) rfl (fun ls hl => ?_)
            refine lv_goto (tgt := 28) hx hb dX7_beside_106 (by decide) ?_
            exact ih _ _ _ _ _ hw hO (lv_sub hl [3, 4, 5, 6, 0] rfl)
          · replace hw := hw.1 c16
            obtain ⟨x18, ex18⟩ : ∃ z : Int32, z = m3 + 1 := ⟨_, rfl⟩
            replace hw := hw x18 ex18
            refine lv_iinc (v := x18) (lv' := [(3, .int x18), (6, .int r10), (5, .int r8), (0, .ref (xa g 0)), (1, .int f1), (2, .int f2), (4, .int m4)]) hx hb dX7_beside_100 hl (k := 5) rfl (by rw [ex18]; rfl) (by decide) rfl (fun ls hl => ?_)
            obtain ⟨x19, ex19⟩ : ∃ z : Int32, z = m4 + 1 := ⟨_, rfl⟩
            replace hw := hw x19 ex19
            refine lv_iinc (v := x19) (lv' := [(4, .int x19), (3, .int x18), (6, .int r10), (5, .int r8), (0, .ref (xa g 0)), (1, .int f1), (2, .int f2)]) hx hb dX7_beside_103 hl (k := 6) rfl (by rw [ex19]; rfl) (by decide) rfl (fun ls hl => ?_)
            refine lv_goto (tgt := 28) hx hb dX7_beside_106 (by decide) ?_
            exact ih _ _ _ _ _ hw hO (lv_sub hl [4, 5, 6, 1, 0] rfl)
set_option maxHeartbeats 4000000 in
set_option maxRecDepth 100000 in
theorem kX7_beside (l : Launch) (g : XG) (sz : Nat) (a1 : Int32) (a2 : Int32) (σ : XS) (post : Int32 → Prop) (hw : PX7_beside a1 a2 σ post) : xMi l yX7_beside wsX7_beside rmX7_beside 0 0 g sz [.ref (xa g 0), .int a1, .int a2] σ (fun r u => σ = u ∧ post r) := by
  unfold PX7_beside at hw
  refine x_head (Qc := fun A => va_Qi (fun r u => σ = u ∧ post r) (xAt g A) A) (cc := cX7_beside) (maxL := 7) (ret := (some .int)) (by decide) rfl ?_
  intro p e s m below meth c A C0 hnm hO
  refine x_entry (Nat.le_of_ble_eq_true rfl) (fun ls hl => ?_)
  have hl : lv_has ls 7 [(0, .ref (xa g 0)), (1, .int a1), (2, .int a2)] := hl
  have hx := C0.1
  have hb := C0.2.1
  have hown := C0.2.2.2.2.2.1
  have hts := C0.2.2.2.2.2.2.1
  refine lv_aload_n hx hb dX7_beside_0 rfl (lv_at hl 0 rfl) ?_
  refine lv_iload_n hx hb dX7_beside_1 rfl (lv_at hl 1 rfl) ?_
  refine x_callq C0 hO (x_runV (As := [.int a1]) (rest := []) C0 hO (kX7_personOf l g _ a1 σ _ hw) 1 rfl (xRecv C0 hO (j := 0) rfl rfl) gX7_beside_X7_personOf rfl rfl rfl hdX7_personOf ⟨Nat.le_of_ble_eq_true rfl, Nat.le_of_ble_eq_true rfl⟩ hl.1 rfl (Nat.le_of_ble_eq_true rfl) dX7_beside_2 ⟨Nat.le_of_ble_eq_true rfl, Nat.le_of_ble_eq_true rfl⟩) (fun r1 σ' H locs hw hO => ?_)
  obtain ⟨hσ, hw⟩ := hw
  subst hσ
  rcases r1 with _ | w2
  · replace hw := hw.1 rfl
    refine W.eq (g2 := F0 m 5 ls [.null]) rfl ?_
    refine lv_ifnullN (tgt := 21) hx hb dX7_beside_5 (by decide) ?_
    refine lv_iconst (v := -1) hx hb dX7_beside_21 (by decide) ?_
    exact x_iret C0 hO ⟨rfl, hw⟩ dX7_beside_22
  · replace hw := hw.2 w2 rfl
    refine W.eq (g2 := F0 m 5 ls [.ref w2]) rfl ?_
    refine lv_ifnull hx hb dX7_beside_5 ?_
    refine lv_aload_n hx hb dX7_beside_8 rfl (lv_at hl 0 rfl) ?_
    refine lv_iload_n hx hb dX7_beside_9 rfl (lv_at hl 2 rfl) ?_
    refine x_callq C0 hO (x_runV (As := [.int a2]) (rest := []) C0 hO (kX7_personOf l g _ a2 σ _ hw) 1 rfl (xRecv C0 hO (j := 0) rfl rfl) gX7_beside_X7_personOf rfl rfl rfl hdX7_personOf ⟨Nat.le_of_ble_eq_true rfl, Nat.le_of_ble_eq_true rfl⟩ hl.1 rfl (Nat.le_of_ble_eq_true rfl) dX7_beside_10 ⟨Nat.le_of_ble_eq_true rfl, Nat.le_of_ble_eq_true rfl⟩) (fun r3 σ' H locs hw hO => ?_)
    obtain ⟨hσ, hw⟩ := hw
    subst hσ
    rcases r3 with _ | w4
    · replace hw := hw.1 rfl
      refine W.eq (g2 := F0 m 13 ls [.null]) rfl ?_
      refine lv_ifnullN (tgt := 21) hx hb dX7_beside_13 (by decide) ?_
      refine lv_iconst (v := -1) hx hb dX7_beside_21 (by decide) ?_
      exact x_iret C0 hO ⟨rfl, hw⟩ dX7_beside_22
    · replace hw := hw.2 w4 rfl
      refine W.eq (g2 := F0 m 13 ls [.ref w4]) rfl ?_
      refine lv_ifnull hx hb dX7_beside_13 ?_
      refine lv_iload_n hx hb dX7_beside_16 rfl (lv_at hl 1 rfl) ?_
      refine lv_iload_n hx hb dX7_beside_17 rfl (lv_at hl 2 rfl) ?_
      refine lv_icmp_ne (tgt := 23) hx hb dX7_beside_18 (by decide) (fun c5 => ?_) (fun c5 => ?_)
      · replace hw := hw.2 c5
        refine lv_iconst (v := 0) hx hb dX7_beside_23 (by decide) ?_
        refine lv_istore_n (lv' := [(3, .int (0 : Int32)), (0, .ref (xa g 0)), (1, .int a1), (2, .int a2)]) hx hb dX7_beside_24 rfl hl (by decide) rfl (fun ls hl => ?_)
        refine lv_iconst (v := 0) hx hb dX7_beside_25 (by decide) ?_
        refine lv_istore (lv' := [(4, .int (0 : Int32)), (3, .int (0 : Int32)), (0, .ref (xa g 0)), (1, .int a1), (2, .int a2)]) hx hb dX7_beside_26 hl (by decide) rfl (fun ls hl => ?_)
        refine lX7_beside_28 C0 σ a1 a2 post _ (fun x20 x21 H locs ls hw hO hl => ?_) 1000 _ _ _ _ _ hw hO (lv_sub hl [2, 3, 4, 1, 0] rfl)
        refine lv_iload_n hx hb dX7_beside_109 rfl (lv_at hl 3 rfl) ?_
        exact x_iret C0 hO ⟨rfl, hw⟩ dX7_beside_110
      · replace hw := hw.1 c5
        refine lv_iconst (v := -1) hx hb dX7_beside_21 (by decide) ?_
        exact x_iret C0 hO ⟨rfl, hw⟩ dX7_beside_22
theorem iX7_howOften_7 : ∀ w ∈ wsX70, w ∈ wsX7_howOften := fun w h => List.mem_cons_of_mem _ (List.mem_append_left _ (List.mem_append_right _ h))
theorem hdX7_howOften : yX7_howOften.cls = RX7 ∧ yX7_howOften.cls ≠ "java/lang/invoke/MethodHandle" ∧ yX7_howOften.cls ≠ "java/lang/invoke/VarHandle" ∧ (parseMethodDescriptor yX7_howOften.desc).map (fun d => d.parameters.length) = some 2 := by decide +kernel
set_option maxHeartbeats 4000000 in
set_option maxRecDepth 100000 in
theorem lX7_howOften_5 {p : Program} {l : Launch} {e : Env} {s : State} {m : MethodId} {args : Array Value} {below : List Frame} {meth : Method} {c : Code} {g : XG} {A : Nat → Prop} (C0 : xC g A wsX7_howOften RX7 cX7_howOften 5 (some .int) p s m args meth c) (σ : XS) (f1 : Int32) (f2 : Int32) (post : Int32 → Prop) (kx : Int32 → Int32 → Prop)
    (hkx : ∀ (m3 : Int32) (m4 : Int32) (H : Heap) (locs : List Loc) (ls : Array Slot), kx m3 m4 → xO g A s σ H locs → lv_has ls 5 [(0, .ref (xa g 0)), (1, .int f1), (2, .int f2), (3, .int m3), (4, .int m4)] → W p l e (headSpec wsX7_howOften rmX7_howOften).room s m args below meth c H locs 0 0 (MQ below (va_Qi (fun r u => σ = u ∧ post r) (xAt g A) A) args s 0 0 A) (F0 m 53 ls [])) :
    ∀ (n : Nat) (m3 : Int32) (m4 : Int32) (H : Heap) (locs : List Loc) (ls : Array Slot), LX7_howOften_5 σ f1 f2 post kx n m3 m4 → xO g A s σ H locs → lv_has ls 5 [(0, .ref (xa g 0)), (1, .int f1), (2, .int f2), (3, .int m3), (4, .int m4)] → W p l e (headSpec wsX7_howOften rmX7_howOften).room s m args below meth c H locs 0 0 (MQ below (va_Qi (fun r u => σ = u ∧ post r) (xAt g A) A) args s 0 0 A) (F0 m 5 ls []) := by
  have hx := C0.1
  have hb := C0.2.1
  have hown := C0.2.2.2.2.2.1
  have hts := C0.2.2.2.2.2.2.1
  intro n
  induction n with
  | zero =>
    intro m3 m4 H locs ls hw
    exact hw.elim
  | succ n ih =>
    intro m3 m4 H locs ls hw hO hl
    rw [LX7_howOften_5] at hw
    refine lv_iload hx hb dX7_howOften_5 (lv_at hl 4 rfl) ?_
    refine lv_aload_n hx hb dX7_howOften_7 rfl (lv_at hl 0 rfl) ?_
    refine x_getr C0 hO 0 3 4 rfl rfl (by decide) rfl iX7_howOften_7 rfl (List.mem_of_getElem? (i := 1) rfl) dX7_howOften_8 ?_
    refine lv_iconst (v := 2) hx hb dX7_howOften_11 (by decide) ?_
    refine x_calli C0 hO (x_runV (As := [.int (2 : Int32)]) (rest := [.int m4]) C0 hO (kX5_count l g _ (2 : Int32) σ _ hw) 1 rfl (xRecv C0 hO (j := 4) rfl rfl) gX7_howOften_X5_count rfl rfl rfl hdX5_count ⟨Nat.le_of_ble_eq_true rfl, Nat.le_of_ble_eq_true rfl⟩ hl.1 rfl (Nat.le_of_ble_eq_true rfl) dX7_howOften_12 ⟨Nat.le_of_ble_eq_true rfl, Nat.le_of_ble_eq_true rfl⟩) (fun r1 σ' H locs hw hO => ?_)
    obtain ⟨hσ, hw⟩ := hw
    subst hσ
    refine lv_icmp_ge (tgt := 53) hx hb dX7_howOften_15 (by decide) (fun c2 => ?_) (fun c2 => ?_)
    · replace hw := hw.1 c2
      exact hkx _ _ _ _ _ hw hO (lv_sub hl [0, 1, 2, 3, 4] rfl)
    · replace hw := hw.2 c2
      refine lv_aload_n hx hb dX7_howOften_18 rfl (lv_at hl 0 rfl) ?_
      refine x_getr C0 hO 0 3 4 rfl rfl (by decide) rfl iX7_howOften_7 rfl (List.mem_of_getElem? (i := 1) rfl) dX7_howOften_19 ?_
      refine lv_iload hx hb dX7_howOften_22 (lv_at hl 4 rfl) ?_
      refine x_calli C0 hO (x_runV (As := [.int m4]) (rest := []) C0 hO (kX5_personOf l g _ m4 σ _ hw) 1 rfl (xRecv C0 hO (j := 4) rfl rfl) gX7_howOften_X5_personOf rfl rfl rfl hdX5_personOf ⟨Nat.le_of_ble_eq_true rfl, Nat.le_of_ble_eq_true rfl⟩ hl.1 rfl (Nat.le_of_ble_eq_true rfl) dX7_howOften_24 ⟨Nat.le_of_ble_eq_true rfl, Nat.le_of_ble_eq_true rfl⟩) (fun r3 σ' H locs hw hO => ?_)
      obtain ⟨hσ, hw⟩ := hw
      subst hσ
      refine lv_iload_n hx hb dX7_howOften_27 rfl (lv_at hl 1 rfl) ?_
      refine lv_icmp_ne (tgt := 47) hx hb dX7_howOften_28 (by decide) (fun c4 => ?_) (fun c4 => ?_)
      · replace hw := hw.2 c4
        obtain ⟨x5, ex5⟩ : ∃ z : Int32, z = m4 + 1 := ⟨_, rfl⟩
        replace hw := hw x5 ex5
        refine lv_iinc (v := x5) (lv' := [(4, .int x5), (0, .ref (xa g 0)), (1, .int f1), (2, .int f2), (3, .int m3)]) hx hb dX7_howOften_47 hl (k := 4) rfl (by rw [ex5]; rfl) (by decide) rfl (fun ls hl => ?_)
        refine lv_goto (tgt := 5) hx hb dX7_howOften_50 (by decide) ?_
        exact ih _ _ _ _ _ hw hO (lv_sub hl [1, 2, 3, 4, 0] rfl)
      · replace hw := hw.1 c4
        refine lv_aload_n hx hb dX7_howOften_31 rfl (lv_at hl 0 rfl) ?_
        refine x_getr C0 hO 0 3 4 rfl rfl (by decide) rfl iX7_howOften_7 rfl (List.mem_of_getElem? (i := 1) rfl) dX7_howOften_32 ?_
        refine lv_iload hx hb dX7_howOften_35 (lv_at hl 4 rfl) ?_
        refine x_calli C0 hO (x_runV (As := [.int m4]) (rest := []) C0 hO (kX5_placeOf l g _ m4 σ _ hw) 1 rfl (xRecv C0 hO (j := 4) rfl rfl) gX7_howOften_X5_placeOf rfl rfl rfl hdX5_placeOf ⟨Nat.le_of_ble_eq_true rfl, Nat.le_of_ble_eq_true rfl⟩ hl.1 rfl (Nat.le_of_ble_eq_true rfl) dX7_howOften_37 ⟨Nat.le_of_ble_eq_true rfl, Nat.le_of_ble_eq_true rfl⟩) (fun r6 σ' H locs hw hO => ?_)
        obtain ⟨hσ, hw⟩ := hw
        subst hσ
        refine lv_iload_n hx hb dX7_howOften_40 rfl (lv_at hl 2 rfl) ?_
        refine lv_icmp_ne (tgt := 47) hx hb dX7_howOften_41 (by decide) (fun c7 => ?_) (fun c7 => ?_)
        · replace hw := hw.2 c7
          obtain ⟨x8, ex8⟩ : ∃ z : Int32, z = m4 + 1 := ⟨_, rfl⟩
          replace hw := hw x8 ex8
          refine lv_iinc (v := x8) (lv' := [(4, .int x8), (0, .ref (xa g 0)), (1, .int f1), (2, .int f2), (3, .int m3)]) hx hb dX7_howOften_47 hl (k := 4) rfl (by rw [ex8]; rfl) (by decide) rfl (fun ls hl => ?_)
          refine lv_goto (tgt := 5) hx hb dX7_howOften_50 (by decide) ?_
          exact ih _ _ _ _ _ hw hO (lv_sub hl [1, 2, 3, 4, 0] rfl)
        · replace hw := hw.1 c7
          obtain ⟨x9, ex9⟩ : ∃ z : Int32, z = m3 + 1 := ⟨_, rfl⟩
          replace hw := hw x9 ex9
          refine lv_iinc (v := x9) (lv' := [(3, .int x9), (0, .ref (xa g 0)), (1, .int f1), (2, .int f2), (4, .int m4)]) hx hb dX7_howOften_44 hl (k := 3) rfl (by rw [ex9]; rfl) (by decide) rfl (fun ls hl => ?_)
          obtain ⟨x10, ex10⟩ : ∃ z : Int32, z = m4 + 1 := ⟨_, rfl⟩
          replace hw := hw x10 ex10
          refine lv_iinc (v := x10) (lv' := [(4, .int x10), (3, .int x9), (0, .ref (xa g 0)), (1, .int f1), (2, .int f2)]) hx hb dX7_howOften_47 hl (k := 4) rfl (by rw [ex10]; rfl) (by decide) rfl (fun ls hl => ?_)
          refine lv_goto (tgt := 5) hx hb dX7_howOften_50 (by decide) ?_
          exact ih _ _ _ _ _ hw hO (lv_sub hl [2, 3, 4, 1, 0] rfl)
set_option maxHeartbeats 4000000 in
set_option maxRecDepth 100000 in
theorem kX7_howOften (l : Launch) (g : XG) (sz : Nat) (a1 : Int32) (a2 : Int32) (σ : XS) (post : Int32 → Prop) (hw : PX7_howOften a1 a2 σ post) : xMi l yX7_howOften wsX7_howOften rmX7_howOften 0 0 g sz [.ref (xa g 0), .int a1, .int a2] σ (fun r u => σ = u ∧ post r) := by
  unfold PX7_howOften at hw
  refine x_head (Qc := fun A => va_Qi (fun r u => σ = u ∧ post r) (xAt g A) A) (cc := cX7_howOften) (maxL := 5) (ret := (some .int)) (by decide) rfl ?_
  intro p e s m below meth c A C0 hnm hO
  refine x_entry (Nat.le_of_ble_eq_true rfl) (fun ls hl => ?_)
  have hl : lv_has ls 5 [(0, .ref (xa g 0)), (1, .int a1), (2, .int a2)] := hl
  have hx := C0.1
  have hb := C0.2.1
  have hown := C0.2.2.2.2.2.1
  have hts := C0.2.2.2.2.2.2.1
  refine lv_iconst (v := 0) hx hb dX7_howOften_0 (by decide) ?_
  refine lv_istore_n (lv' := [(3, .int (0 : Int32)), (0, .ref (xa g 0)), (1, .int a1), (2, .int a2)]) hx hb dX7_howOften_1 rfl hl (by decide) rfl (fun ls hl => ?_)
  refine lv_iconst (v := 0) hx hb dX7_howOften_2 (by decide) ?_
  refine lv_istore (lv' := [(4, .int (0 : Int32)), (3, .int (0 : Int32)), (0, .ref (xa g 0)), (1, .int a1), (2, .int a2)]) hx hb dX7_howOften_3 hl (by decide) rfl (fun ls hl => ?_)
  refine lX7_howOften_5 C0 σ a1 a2 post _ (fun x11 x12 H locs ls hw hO hl => ?_) 1000 _ _ _ _ _ hw hO (lv_sub hl [2, 3, 4, 1, 0] rfl)
  refine lv_iload_n hx hb dX7_howOften_53 rfl (lv_at hl 3 rfl) ?_
  exact x_iret C0 hO ⟨rfl, hw⟩ dX7_howOften_54
theorem iX7_habit_7 : ∀ w ∈ wsX70, w ∈ wsX7_habit := fun w h => List.mem_cons_of_mem _ (List.mem_append_left _ (List.mem_append_right _ h))
theorem hdX7_habit : yX7_habit.cls = RX7 ∧ yX7_habit.cls ≠ "java/lang/invoke/MethodHandle" ∧ yX7_habit.cls ≠ "java/lang/invoke/VarHandle" ∧ (parseMethodDescriptor yX7_habit.desc).map (fun d => d.parameters.length) = some 2 := by decide +kernel
set_option maxHeartbeats 4000000 in
set_option maxRecDepth 100000 in
theorem lX7_habit_29 {p : Program} {l : Launch} {e : Env} {s : State} {m : MethodId} {args : Array Value} {below : List Frame} {meth : Method} {c : Code} {g : XG} {A : Nat → Prop} (C0 : xC g A wsX7_habit RX7 cX7_habit 7 (some .int) p s m args meth c) (σ : XS) (f1 : Int32) (f2 : Int32) (post : Int32 → Prop) (kx : Int32 → Int32 → Int32 → Prop)
    (hkx : ∀ (m3 : Int32) (m4 : Int32) (m5 : Int32) (H : Heap) (locs : List Loc) (ls : Array Slot), kx m3 m4 m5 → xO g A s σ H locs → lv_has ls 7 [(0, .ref (xa g 0)), (1, .int f1), (2, .int f2), (3, .int m3), (4, .int m4), (5, .int m5)] → W p l e (headSpec wsX7_habit rmX7_habit).room s m args below meth c H locs 0 0 (MQ below (va_Qi (fun r u => σ = u ∧ post r) (xAt g A) A) args s 0 0 A) (F0 m 67 ls [])) :
    ∀ (n : Nat) (m3 : Int32) (m4 : Int32) (m5 : Int32) (H : Heap) (locs : List Loc) (ls : Array Slot), LX7_habit_29 σ f1 f2 post kx n m3 m4 m5 → xO g A s σ H locs → lv_has ls 7 [(0, .ref (xa g 0)), (1, .int f1), (2, .int f2), (3, .int m3), (4, .int m4), (5, .int m5)] → W p l e (headSpec wsX7_habit rmX7_habit).room s m args below meth c H locs 0 0 (MQ below (va_Qi (fun r u => σ = u ∧ post r) (xAt g A) A) args s 0 0 A) (F0 m 29 ls []) := by
  have hx := C0.1
  have hb := C0.2.1
  have hown := C0.2.2.2.2.2.1
  have hts := C0.2.2.2.2.2.2.1
  intro n
  induction n with
  | zero =>
    intro m3 m4 m5 H locs ls hw
    exact hw.elim
  | succ n ih =>
    intro m3 m4 m5 H locs ls hw hO hl
    rw [LX7_habit_29] at hw
    refine lv_iload hx hb dX7_habit_29 (lv_at hl 5 rfl) ?_
    refine lv_aload_n hx hb dX7_habit_31 rfl (lv_at hl 0 rfl) ?_
    refine x_geti C0 hO 0 7 rfl rfl (by decide) rfl iX7_habit_7 rfl (List.mem_of_getElem? (i := 1) rfl) dX7_habit_32 ?_
    refine lv_icmp_ge (tgt := 67) hx hb dX7_habit_35 (by decide) (fun c5 => ?_) (fun c5 => ?_)
    · replace hw := hw.1 c5
      exact hkx _ _ _ _ _ _ hw hO (lv_sub hl [0, 1, 2, 3, 4, 5] rfl)
    · replace hw := hw.2 c5
      refine lv_aload_n hx hb dX7_habit_38 rfl (lv_at hl 0 rfl) ?_
      refine lv_iload_n hx hb dX7_habit_39 rfl (lv_at hl 1 rfl) ?_
      refine lv_iload hx hb dX7_habit_40 (lv_at hl 5 rfl) ?_
      refine x_calli C0 hO (x_runV (As := [.int f1, .int m5]) (rest := []) C0 hO (kX7_howOften l g _ f1 m5 σ _ hw) 2 rfl (xRecv C0 hO (j := 0) rfl rfl) gX7_habit_X7_howOften rfl rfl rfl hdX7_howOften ⟨Nat.le_of_ble_eq_true rfl, Nat.le_of_ble_eq_true rfl⟩ hl.1 rfl (Nat.le_of_ble_eq_true rfl) dX7_habit_42 ⟨Nat.le_of_ble_eq_true rfl, Nat.le_of_ble_eq_true rfl⟩) (fun r6 σ' H locs hw hO => ?_)
      obtain ⟨hσ, hw⟩ := hw
      subst hσ
      refine lv_istore (lv' := [(6, .int r6), (0, .ref (xa g 0)), (1, .int f1), (2, .int f2), (3, .int m3), (4, .int m4), (5, .int m5)]) hx hb dX7_habit_45 hl (by decide) rfl (fun ls hl => ?_)
      refine lv_iload hx hb dX7_habit_47 (lv_at hl 0 rfl) ?_
      refine lv_iload hx hb dX7_habit_49 (lv_at hl 5 rfl) ?_
      refine lv_icmp_le (tgt := 61) hx hb dX7_habit_51 (by decide) (fun c7 => ?_) (fun c7 => ?_)
      · replace hw := hw.1 c7
        obtain ⟨x8, ex8⟩ : ∃ z : Int32, z = m5 + 1 := ⟨_, rfl⟩
        replace hw := hw x8 ex8
        refine lv_iinc (v := x8) (lv' := [(5, .int x8), (6, .int r6), (0, .ref (xa g 0)), (1, .int f1), (2, .int f2), (3, .int m3), (4, .int m4)]) hx hb dX7_habit_61 hl (k := 6) rfl (by rw [ex8]; rfl) (by decide) rfl (fun ls hl => ?_)
        refine lv_goto (tgt := 29) hx hb dX7_habit_64 (by decide) ?_
        exact ih _ _ _ _ _ _ hw hO (lv_sub hl [2, 3, 4, 5, 6, 0] rfl)
      · replace hw := hw.2 c7
        refine lv_iload hx hb dX7_habit_54 (lv_at hl 6 rfl) ?_
        refine lv_istore_n (lv' := [(3, .int m5), (6, .int r6), (0, .ref (xa g 0)), (1, .int f1), (2, .int f2), (4, .int m4), (5, .int m5)]) hx hb dX7_habit_56 rfl hl (by decide) rfl (fun ls hl => ?_)
        refine lv_iload hx hb dX7_habit_57 (lv_at hl 1 rfl) ?_
        refine lv_istore (lv' := [(4, .int r6), (3, .int m5), (6, .int r6), (0, .ref (xa g 0)), (1, .int f1), (2, .int f2), (5, .int m5)]) hx hb dX7_habit_59 hl (by decide) rfl (fun ls hl => ?_)
        obtain ⟨x9, ex9⟩ : ∃ z : Int32, z = m5 + 1 := ⟨_, rfl⟩
        replace hw := hw x9 ex9
        refine lv_iinc (v := x9) (lv' := [(5, .int x9), (4, .int r6), (3, .int m5), (6, .int r6), (0, .ref (xa g 0)), (1, .int f1), (2, .int f2)]) hx hb dX7_habit_61 hl (k := 6) rfl (by rw [ex9]; rfl) (by decide) rfl (fun ls hl => ?_)
        refine lv_goto (tgt := 29) hx hb dX7_habit_64 (by decide) ?_
        exact ih _ _ _ _ _ _ hw hO (lv_sub hl [4, 5, 6, 2, 1, 0] rfl)
set_option maxHeartbeats 4000000 in
set_option maxRecDepth 100000 in
theorem kX7_habit (l : Launch) (g : XG) (sz : Nat) (a1 : Int32) (a2 : Int32) (σ : XS) (post : Int32 → Prop) (hw : PX7_habit a1 a2 σ post) : xMi l yX7_habit wsX7_habit rmX7_habit 0 0 g sz [.ref (xa g 0), .int a1, .int a2] σ (fun r u => σ = u ∧ post r) := by
  unfold PX7_habit at hw
  refine x_head (Qc := fun A => va_Qi (fun r u => σ = u ∧ post r) (xAt g A) A) (cc := cX7_habit) (maxL := 7) (ret := (some .int)) (by decide) rfl ?_
  intro p e s m below meth c A C0 hnm hO
  refine x_entry (Nat.le_of_ble_eq_true rfl) (fun ls hl => ?_)
  have hl : lv_has ls 7 [(0, .ref (xa g 0)), (1, .int a1), (2, .int a2)] := hl
  have hx := C0.1
  have hb := C0.2.1
  have hown := C0.2.2.2.2.2.1
  have hts := C0.2.2.2.2.2.2.1
  refine lv_aload_n hx hb dX7_habit_0 rfl (lv_at hl 0 rfl) ?_
  refine lv_iload_n hx hb dX7_habit_1 rfl (lv_at hl 1 rfl) ?_
  refine x_callq C0 hO (x_runV (As := [.int a1]) (rest := []) C0 hO (kX7_personOf l g _ a1 σ _ hw) 1 rfl (xRecv C0 hO (j := 0) rfl rfl) gX7_habit_X7_personOf rfl rfl rfl hdX7_personOf ⟨Nat.le_of_ble_eq_true rfl, Nat.le_of_ble_eq_true rfl⟩ hl.1 rfl (Nat.le_of_ble_eq_true rfl) dX7_habit_2 ⟨Nat.le_of_ble_eq_true rfl, Nat.le_of_ble_eq_true rfl⟩) (fun r1 σ' H locs hw hO => ?_)
  obtain ⟨hσ, hw⟩ := hw
  subst hσ
  rcases r1 with _ | w2
  · replace hw := hw.1 rfl
    refine W.eq (g2 := F0 m 5 ls [.null]) rfl ?_
    refine lv_ifnonnullN hx hb dX7_habit_5 ?_
    refine lv_iconst (v := -1) hx hb dX7_habit_8 (by decide) ?_
    exact x_iret C0 hO ⟨rfl, hw⟩ dX7_habit_9
  · replace hw := hw.2 w2 rfl
    refine W.eq (g2 := F0 m 5 ls [.ref w2]) rfl ?_
    refine lv_ifnonnull (tgt := 10) hx hb dX7_habit_5 (by decide) ?_
    refine lv_iload_n hx hb dX7_habit_10 rfl (lv_at hl 2 rfl) ?_
    refine x_calli C0 hO (x_runS (As := [.int a2]) (rest := []) C0 hO (kX7_isEither l g _ a2 σ _ hw) 1 rfl gX7_habit_X7_isEither rfl rfl rfl hdX7_isEither.2 ⟨Nat.le_of_ble_eq_true rfl, Nat.le_of_ble_eq_true rfl⟩ hl.1 rfl (Nat.le_of_ble_eq_true rfl) dX7_habit_11 ⟨Nat.le_of_ble_eq_true rfl, Nat.le_of_ble_eq_true rfl⟩) (fun r3 σ' H locs hw hO => ?_)
    obtain ⟨hσ, hw⟩ := hw
    subst hσ
    refine lv_if_ne (tgt := 20) hx hb dX7_habit_14 (by decide) (fun c4 => ?_) (fun c4 => ?_)
    · replace hw := hw.2 c4
      refine lv_bipush (v := -9) hx hb dX7_habit_20 (by decide) ?_
      refine lv_istore_n (lv' := [(3, .int (-9 : Int32)), (0, .ref (xa g 0)), (1, .int a1), (2, .int a2)]) hx hb dX7_habit_22 rfl hl (by decide) rfl (fun ls hl => ?_)
      refine lv_iconst (v := 0) hx hb dX7_habit_23 (by decide) ?_
      refine lv_istore (lv' := [(4, .int (0 : Int32)), (3, .int (-9 : Int32)), (0, .ref (xa g 0)), (1, .int a1), (2, .int a2)]) hx hb dX7_habit_24 hl (by decide) rfl (fun ls hl => ?_)
      refine lv_iconst (v := 0) hx hb dX7_habit_26 (by decide) ?_
      refine lv_istore (lv' := [(5, .int (0 : Int32)), (4, .int (0 : Int32)), (3, .int (-9 : Int32)), (0, .ref (xa g 0)), (1, .int a1), (2, .int a2)]) hx hb dX7_habit_27 hl (by decide) rfl (fun ls hl => ?_)
      refine lX7_habit_29 C0 σ a1 a2 post _ (fun x10 x11 x12 H locs ls hw hO hl => ?_) 1000 _ _ _ _ _ _ hw hO (lv_sub hl [3, 4, 5, 2, 1, 0] rfl)
      refine lv_iload_n hx hb dX7_habit_67 rfl (lv_at hl 2 rfl) ?_
      refine lv_if_ne (tgt := 75) hx hb dX7_habit_68 (by decide) (fun c13 => ?_) (fun c13 => ?_)
      · replace hw := hw.2 c13
        refine lv_iload hx hb dX7_habit_75 (lv_at hl 4 rfl) ?_
        exact x_iret C0 hO ⟨rfl, hw⟩ dX7_habit_77
      · replace hw := hw.1 c13
        refine lv_iload_n hx hb dX7_habit_71 rfl (lv_at hl 3 rfl) ?_
        refine lv_goto (tgt := 77) hx hb dX7_habit_72 (by decide) ?_
        exact x_iret C0 hO ⟨rfl, hw⟩ dX7_habit_77
    · replace hw := hw.1 c4
      refine lv_bipush (v := -2) hx hb dX7_habit_17 (by decide) ?_
      exact x_iret C0 hO ⟨rfl, hw⟩ dX7_habit_19
theorem hdX7_isGum : yX7_isGum.cls = RX7 ∧ yX7_isGum.cls ≠ "java/lang/invoke/MethodHandle" ∧ yX7_isGum.cls ≠ "java/lang/invoke/VarHandle" ∧ (parseMethodDescriptor yX7_isGum.desc).map (fun d => d.parameters.length) = some 1 := by decide +kernel
set_option maxHeartbeats 4000000 in
set_option maxRecDepth 100000 in
theorem kX7_isGum (l : Launch) (g : XG) (sz : Nat) (a0 : Int32) (σ : XS) (post : Int32 → Prop) (hw : PX7_isGum a0 σ post) : xMi l yX7_isGum wsX7_isGum rmX7_isGum 0 0 g sz [.int a0] σ (fun r u => σ = u ∧ post r) := by
  unfold PX7_isGum at hw
  refine x_head (Qc := fun A => va_Qi (fun r u => σ = u ∧ post r) (xAt g A) A) (cc := cX7_isGum) (maxL := 1) (ret := (some .boolean)) (by decide) rfl ?_
  intro p e s m below meth c A C0 hnm hO
  refine x_entry (Nat.le_of_ble_eq_true rfl) (fun ls hl => ?_)
  have hl : lv_has ls 1 [(0, .int a0)] := hl
  have hx := C0.1
  have hb := C0.2.1
  have hown := C0.2.2.2.2.2.1
  have hts := C0.2.2.2.2.2.2.1
  refine lv_iload_n hx hb dX7_isGum_0 rfl (lv_at hl 0 rfl) ?_
  refine lv_if_lt (tgt := 14) hx hb dX7_isGum_1 (by decide) (fun c1 => ?_) (fun c1 => ?_)
  · replace hw := hw.1 c1
    refine lv_iconst (v := 0) hx hb dX7_isGum_14 (by decide) ?_
    exact x_zret C0 hO rfl ⟨rfl, hw⟩ dX7_isGum_15
  · replace hw := hw.2 c1
    refine lv_iload_n hx hb dX7_isGum_4 rfl (lv_at hl 0 rfl) ?_
    refine lv_bipush (v := 8) hx hb dX7_isGum_5 (by decide) ?_
    refine lv_icmp_ge (tgt := 14) hx hb dX7_isGum_7 (by decide) (fun c2 => ?_) (fun c2 => ?_)
    · replace hw := hw.1 c2
      refine lv_iconst (v := 0) hx hb dX7_isGum_14 (by decide) ?_
      exact x_zret C0 hO rfl ⟨rfl, hw⟩ dX7_isGum_15
    · replace hw := hw.2 c2
      refine lv_iconst (v := 1) hx hb dX7_isGum_10 (by decide) ?_
      refine lv_goto (tgt := 15) hx hb dX7_isGum_11 (by decide) ?_
      exact x_zret C0 hO rfl ⟨rfl, hw⟩ dX7_isGum_15
theorem iX7_hasHall_7 : ∀ w ∈ wsX70, w ∈ wsX7_hasHall := fun w h => List.mem_cons_of_mem _ (List.mem_append_right _ h)
theorem hdX7_hasHall : yX7_hasHall.cls = RX7 ∧ yX7_hasHall.cls ≠ "java/lang/invoke/MethodHandle" ∧ yX7_hasHall.cls ≠ "java/lang/invoke/VarHandle" ∧ (parseMethodDescriptor yX7_hasHall.desc).map (fun d => d.parameters.length) = some 0 := by decide +kernel
set_option maxHeartbeats 4000000 in
set_option maxRecDepth 100000 in
theorem kX7_hasHall (l : Launch) (g : XG) (sz : Nat) (σ : XS) (post : Int32 → Prop) (hw : PX7_hasHall  σ post) : xMi l yX7_hasHall wsX7_hasHall rmX7_hasHall 0 0 g sz [.ref (xa g 0)] σ (fun r u => σ = u ∧ post r) := by
  unfold PX7_hasHall at hw
  refine x_head (Qc := fun A => va_Qi (fun r u => σ = u ∧ post r) (xAt g A) A) (cc := cX7_hasHall) (maxL := 1) (ret := (some .boolean)) (by decide) rfl ?_
  intro p e s m below meth c A C0 hnm hO
  refine x_entry (Nat.le_of_ble_eq_true rfl) (fun ls hl => ?_)
  have hl : lv_has ls 1 [(0, .ref (xa g 0))] := hl
  have hx := C0.1
  have hb := C0.2.1
  have hown := C0.2.2.2.2.2.1
  have hts := C0.2.2.2.2.2.2.1
  refine lv_aload_n hx hb dX7_hasHall_0 rfl (lv_at hl 0 rfl) ?_
  refine x_geti C0 hO 0 6 rfl rfl (by decide) rfl iX7_hasHall_7 rfl (List.mem_of_getElem? (i := 1) rfl) dX7_hasHall_1 ?_
  refine lv_if_le (tgt := 11) hx hb dX7_hasHall_4 (by decide) (fun c1 => ?_) (fun c1 => ?_)
  · replace hw := hw.1 c1
    refine lv_iconst (v := 0) hx hb dX7_hasHall_11 (by decide) ?_
    exact x_zret C0 hO rfl ⟨rfl, hw⟩ dX7_hasHall_12
  · replace hw := hw.2 c1
    refine lv_iconst (v := 1) hx hb dX7_hasHall_7 (by decide) ?_
    refine lv_goto (tgt := 12) hx hb dX7_hasHall_8 (by decide) ?_
    exact x_zret C0 hO rfl ⟨rfl, hw⟩ dX7_hasHall_12
theorem hdX7_gumLeft : yX7_gumLeft.cls = RX7 ∧ yX7_gumLeft.cls ≠ "java/lang/invoke/MethodHandle" ∧ yX7_gumLeft.cls ≠ "java/lang/invoke/VarHandle" ∧ (parseMethodDescriptor yX7_gumLeft.desc).map (fun d => d.parameters.length) = some 2 := by decide +kernel
set_option maxHeartbeats 4000000 in
set_option maxRecDepth 100000 in
theorem kX7_gumLeft (l : Launch) (g : XG) (sz : Nat) (a1 : Int32) (a2 : Int32) (σ : XS) (post : Int32 → Prop) (hw : PX7_gumLeft a1 a2 σ post) : xMi l yX7_gumLeft wsX7_gumLeft rmX7_gumLeft 0 0 g sz [.ref (xa g 0), .int a1, .int a2] σ (fun r u => σ = u ∧ post r) := by
  unfold PX7_gumLeft at hw
  refine x_head (Qc := fun A => va_Qi (fun r u => σ = u ∧ post r) (xAt g A) A) (cc := cX7_gumLeft) (maxL := 4) (ret := (some .int)) (by decide) rfl ?_
  intro p e s m below meth c A C0 hnm hO
  refine x_entry (Nat.le_of_ble_eq_true rfl) (fun ls hl => ?_)
  have hl : lv_has ls 4 [(0, .ref (xa g 0)), (1, .int a1), (2, .int a2)] := hl
  have hx := C0.1
  have hb := C0.2.1
  have hown := C0.2.2.2.2.2.1
  have hts := C0.2.2.2.2.2.2.1
  refine lv_aload_n hx hb dX7_gumLeft_0 rfl (lv_at hl 0 rfl) ?_
  refine lv_iload_n hx hb dX7_gumLeft_1 rfl (lv_at hl 1 rfl) ?_
  refine x_callq C0 hO (x_runV (As := [.int a1]) (rest := []) C0 hO (kX7_personOf l g _ a1 σ _ hw) 1 rfl (xRecv C0 hO (j := 0) rfl rfl) gX7_gumLeft_X7_personOf rfl rfl rfl hdX7_personOf ⟨Nat.le_of_ble_eq_true rfl, Nat.le_of_ble_eq_true rfl⟩ hl.1 rfl (Nat.le_of_ble_eq_true rfl) dX7_gumLeft_2 ⟨Nat.le_of_ble_eq_true rfl, Nat.le_of_ble_eq_true rfl⟩) (fun r1 σ' H locs hw hO => ?_)
  obtain ⟨hσ, hw⟩ := hw
  subst hσ
  rcases r1 with _ | w2
  · replace hw := hw.1 rfl
    refine W.eq (g2 := F0 m 5 ls [.null]) rfl ?_
    refine lv_astore_nN (lv' := [(3, .null), (0, .ref (xa g 0)), (1, .int a1), (2, .int a2)]) hx hb dX7_gumLeft_5 rfl hl (by decide) rfl (fun ls hl => ?_)
    refine lv_aload_nN hx hb dX7_gumLeft_6 rfl (lv_at hl 0 rfl) ?_
    refine lv_ifnonnullN hx hb dX7_gumLeft_7 ?_
    refine lv_bipush (v := -9) hx hb dX7_gumLeft_10 (by decide) ?_
    refine lv_goto (tgt := 20) hx hb dX7_gumLeft_12 (by decide) ?_
    exact x_iret C0 hO ⟨rfl, hw⟩ dX7_gumLeft_20
  · replace hw := hw.2 w2 rfl
    refine W.eq (g2 := F0 m 5 ls [.ref w2]) rfl ?_
    refine lv_astore_n (lv' := [(3, .ref w2), (0, .ref (xa g 0)), (1, .int a1), (2, .int a2)]) hx hb dX7_gumLeft_5 rfl hl (by decide) rfl (fun ls hl => ?_)
    refine lv_aload_n hx hb dX7_gumLeft_6 rfl (lv_at hl 0 rfl) ?_
    refine lv_ifnonnull (tgt := 15) hx hb dX7_gumLeft_7 (by decide) ?_
    refine lv_aload_n hx hb dX7_gumLeft_15 rfl (lv_at hl 0 rfl) ?_
    refine lv_iload_n hx hb dX7_gumLeft_16 rfl (lv_at hl 3 rfl) ?_
    have hpe := hw.1
    rcases hw.2.1 with hk | hk | hk
    · replace hw := hw.2.2.1 hk
      refine x_calli C0 hO (x_runV (As := [.int a2]) (rest := []) C0 hO (kX4_leaves l g _ w2 a2 σ _ hw) 1 rfl (xRecvP C0 hO hpe.1 hk (ci := 4) rfl) gX7_gumLeft_X4_leaves rfl rfl rfl hdX4_leaves ⟨Nat.le_of_ble_eq_true rfl, Nat.le_of_ble_eq_true rfl⟩ hl.1 rfl (Nat.le_of_ble_eq_true rfl) dX7_gumLeft_17 ⟨Nat.le_of_ble_eq_true rfl, Nat.le_of_ble_eq_true rfl⟩) (fun r3 σ' H locs hw hO => ?_)
      obtain ⟨hσ, hw⟩ := hw
      subst hσ
      exact x_iret C0 hO ⟨rfl, hw⟩ dX7_gumLeft_20
    · replace hw := hw.2.2.2.1 hk
      refine x_calli C0 hO (x_runO (As := [.int a2]) (rest := []) C0 hO (kX2_leaves l g _ w2 a2 σ _ hw) 1 rfl (xRecvP C0 hO hpe.1 hk (ci := 2) rfl) gX7_gumLeft_X2_leaves_u103X2 rfl rfl rfl (List.mem_of_getElem? (i := 23) rfl) (by decide +kernel) ⟨Nat.le_of_ble_eq_true rfl, Nat.le_of_ble_eq_true rfl⟩ hl.1 rfl (Nat.le_of_ble_eq_true rfl) dX7_gumLeft_17 ⟨Nat.le_of_ble_eq_true rfl, Nat.le_of_ble_eq_true rfl⟩) (fun r4 σ' H locs hw hO => ?_)
      obtain ⟨hσ, hw⟩ := hw
      subst hσ
      exact x_iret C0 hO ⟨rfl, hw⟩ dX7_gumLeft_20
    · replace hw := hw.2.2.2.2 hk
      refine x_calli C0 hO (x_runO (As := [.int a2]) (rest := []) C0 hO (kX0_leaves l g _ w2 a2 σ _ hw) 1 rfl (xRecvP C0 hO hpe.1 hk (ci := 0) rfl) gX7_gumLeft_X0_leaves_u103X0 rfl rfl rfl (List.mem_of_getElem? (i := 23) rfl) (by decide +kernel) ⟨Nat.le_of_ble_eq_true rfl, Nat.le_of_ble_eq_true rfl⟩ hl.1 rfl (Nat.le_of_ble_eq_true rfl) dX7_gumLeft_17 ⟨Nat.le_of_ble_eq_true rfl, Nat.le_of_ble_eq_true rfl⟩) (fun r5 σ' H locs hw hO => ?_)
      obtain ⟨hσ, hw⟩ := hw
      subst hσ
      exact x_iret C0 hO ⟨rfl, hw⟩ dX7_gumLeft_20
theorem iX7_makers_7 : ∀ w ∈ wsX70, w ∈ wsX7_makers := fun w h => List.mem_cons_of_mem _ (List.mem_append_left _ (List.mem_append_left _ (List.mem_append_left _ (List.mem_append_right _ h))))
theorem hdX7_makers : yX7_makers.cls = RX7 ∧ yX7_makers.cls ≠ "java/lang/invoke/MethodHandle" ∧ yX7_makers.cls ≠ "java/lang/invoke/VarHandle" ∧ (parseMethodDescriptor yX7_makers.desc).map (fun d => d.parameters.length) = some 2 := by decide +kernel
set_option maxHeartbeats 4000000 in
set_option maxRecDepth 100000 in
theorem lX7_makers_32 {p : Program} {l : Launch} {e : Env} {s : State} {m : MethodId} {args : Array Value} {below : List Frame} {meth : Method} {c : Code} {g : XG} {A : Nat → Prop} (C0 : xC g A wsX7_makers RX7 cX7_makers 5 (some .int) p s m args meth c) (σ : XS) (f1 : Int32) (f2 : Int32) (post : Int32 → Prop) (kx : Int32 → Int32 → Prop)
    (hkx : ∀ (m3 : Int32) (m4 : Int32) (H : Heap) (locs : List Loc) (ls : Array Slot), kx m3 m4 → xO g A s σ H locs → lv_has ls 5 [(0, .ref (xa g 0)), (1, .int f1), (2, .int f2), (3, .int m3), (4, .int m4)] → W p l e (headSpec wsX7_makers rmX7_makers).room s m args below meth c H locs 0 0 (MQ below (va_Qi (fun r u => σ = u ∧ post r) (xAt g A) A) args s 0 0 A) (F0 m 65 ls [])) :
    ∀ (n : Nat) (m3 : Int32) (m4 : Int32) (H : Heap) (locs : List Loc) (ls : Array Slot), LX7_makers_32 σ f1 f2 post kx n m3 m4 → xO g A s σ H locs → lv_has ls 5 [(0, .ref (xa g 0)), (1, .int f1), (2, .int f2), (3, .int m3), (4, .int m4)] → W p l e (headSpec wsX7_makers rmX7_makers).room s m args below meth c H locs 0 0 (MQ below (va_Qi (fun r u => σ = u ∧ post r) (xAt g A) A) args s 0 0 A) (F0 m 32 ls []) := by
  have hx := C0.1
  have hb := C0.2.1
  have hown := C0.2.2.2.2.2.1
  have hts := C0.2.2.2.2.2.2.1
  intro n
  induction n with
  | zero =>
    intro m3 m4 H locs ls hw
    exact hw.elim
  | succ n ih =>
    intro m3 m4 H locs ls hw hO hl
    rw [LX7_makers_32] at hw
    refine lv_iload hx hb dX7_makers_32 (lv_at hl 4 rfl) ?_
    refine lv_aload_n hx hb dX7_makers_34 rfl (lv_at hl 0 rfl) ?_
    refine x_geti C0 hO 0 6 rfl rfl (by decide) rfl iX7_makers_7 rfl (List.mem_of_getElem? (i := 1) rfl) dX7_makers_35 ?_
    refine lv_icmp_ge (tgt := 65) hx hb dX7_makers_38 (by decide) (fun c7 => ?_) (fun c7 => ?_)
    · replace hw := hw.1 c7
      exact hkx _ _ _ _ _ hw hO (lv_sub hl [0, 1, 2, 3, 4] rfl)
    · replace hw := hw.2 c7
      refine lv_aload_n hx hb dX7_makers_41 rfl (lv_at hl 0 rfl) ?_
      refine lv_iload hx hb dX7_makers_42 (lv_at hl 4 rfl) ?_
      refine lv_iload_n hx hb dX7_makers_44 rfl (lv_at hl 2 rfl) ?_
      refine x_calli C0 hO (x_runV (As := [.int m4, .int f2]) (rest := []) C0 hO (kX7_gumLeft l g _ m4 f2 σ _ hw) 2 rfl (xRecv C0 hO (j := 0) rfl rfl) gX7_makers_X7_gumLeft rfl rfl rfl hdX7_gumLeft ⟨Nat.le_of_ble_eq_true rfl, Nat.le_of_ble_eq_true rfl⟩ hl.1 rfl (Nat.le_of_ble_eq_true rfl) dX7_makers_45 ⟨Nat.le_of_ble_eq_true rfl, Nat.le_of_ble_eq_true rfl⟩) (fun r8 σ' H locs hw hO => ?_)
      obtain ⟨hσ, hw⟩ := hw
      subst hσ
      refine lv_iload_n hx hb dX7_makers_48 rfl (lv_at hl 1 rfl) ?_
      refine lv_icmp_ne (tgt := 59) hx hb dX7_makers_49 (by decide) (fun c9 => ?_) (fun c9 => ?_)
      · replace hw := hw.2 c9
        obtain ⟨x10, ex10⟩ : ∃ z : Int32, z = m4 + 1 := ⟨_, rfl⟩
        replace hw := hw x10 ex10
        refine lv_iinc (v := x10) (lv' := [(4, .int x10), (0, .ref (xa g 0)), (1, .int f1), (2, .int f2), (3, .int m3)]) hx hb dX7_makers_59 hl (k := 4) rfl (by rw [ex10]; rfl) (by decide) rfl (fun ls hl => ?_)
        refine lv_goto (tgt := 32) hx hb dX7_makers_62 (by decide) ?_
        exact ih _ _ _ _ _ hw hO (lv_sub hl [1, 2, 3, 4, 0] rfl)
      · replace hw := hw.1 c9
        refine lv_iload_n hx hb dX7_makers_52 rfl (lv_at hl 3 rfl) ?_
        refine lv_iconst (v := 1) hx hb dX7_makers_53 (by decide) ?_
        refine lv_iload hx hb dX7_makers_54 (lv_at hl 4 rfl) ?_
        refine lv_ishl hx hb dX7_makers_56 ?_
        refine lv_ior hx hb dX7_makers_57 ?_
        refine lv_topi (fun x11 ex11 => ?_)
        replace hw := hw x11 ex11
        refine lv_istore_n (lv' := [(3, .int x11), (0, .ref (xa g 0)), (1, .int f1), (2, .int f2), (4, .int m4)]) hx hb dX7_makers_58 rfl hl (by decide) rfl (fun ls hl => ?_)
        obtain ⟨x12, ex12⟩ : ∃ z : Int32, z = m4 + 1 := ⟨_, rfl⟩
        replace hw := hw x12 ex12
        refine lv_iinc (v := x12) (lv' := [(4, .int x12), (3, .int x11), (0, .ref (xa g 0)), (1, .int f1), (2, .int f2)]) hx hb dX7_makers_59 hl (k := 4) rfl (by rw [ex12]; rfl) (by decide) rfl (fun ls hl => ?_)
        refine lv_goto (tgt := 32) hx hb dX7_makers_62 (by decide) ?_
        exact ih _ _ _ _ _ hw hO (lv_sub hl [2, 3, 4, 1, 0] rfl)
set_option maxHeartbeats 4000000 in
set_option maxRecDepth 100000 in
theorem kX7_makers (l : Launch) (g : XG) (sz : Nat) (a1 : Int32) (a2 : Int32) (σ : XS) (post : Int32 → Prop) (hw : PX7_makers a1 a2 σ post) : xMi l yX7_makers wsX7_makers rmX7_makers 0 0 g sz [.ref (xa g 0), .int a1, .int a2] σ (fun r u => σ = u ∧ post r) := by
  unfold PX7_makers at hw
  refine x_head (Qc := fun A => va_Qi (fun r u => σ = u ∧ post r) (xAt g A) A) (cc := cX7_makers) (maxL := 5) (ret := (some .int)) (by decide) rfl ?_
  intro p e s m below meth c A C0 hnm hO
  refine x_entry (Nat.le_of_ble_eq_true rfl) (fun ls hl => ?_)
  have hl : lv_has ls 5 [(0, .ref (xa g 0)), (1, .int a1), (2, .int a2)] := hl
  have hx := C0.1
  have hb := C0.2.1
  have hown := C0.2.2.2.2.2.1
  have hts := C0.2.2.2.2.2.2.1
  refine lv_iload_n hx hb dX7_makers_0 rfl (lv_at hl 1 rfl) ?_
  refine x_calli C0 hO (x_runS (As := [.int a1]) (rest := []) C0 hO (kX7_isGum l g _ a1 σ _ hw) 1 rfl gX7_makers_X7_isGum rfl rfl rfl hdX7_isGum.2 ⟨Nat.le_of_ble_eq_true rfl, Nat.le_of_ble_eq_true rfl⟩ hl.1 rfl (Nat.le_of_ble_eq_true rfl) dX7_makers_1 ⟨Nat.le_of_ble_eq_true rfl, Nat.le_of_ble_eq_true rfl⟩) (fun r1 σ' H locs hw hO => ?_)
  obtain ⟨hσ, hw⟩ := hw
  subst hσ
  refine lv_if_eq (tgt := 14) hx hb dX7_makers_4 (by decide) (fun c2 => ?_) (fun c2 => ?_)
  · replace hw := hw.1 c2
    refine lv_bipush (v := -2) hx hb dX7_makers_14 (by decide) ?_
    exact x_iret C0 hO ⟨rfl, hw⟩ dX7_makers_16
  · replace hw := hw.2 c2
    refine lv_iload_n hx hb dX7_makers_7 rfl (lv_at hl 2 rfl) ?_
    refine x_calli C0 hO (x_runS (As := [.int a2]) (rest := []) C0 hO (kX7_isNight l g _ a2 σ _ hw) 1 rfl gX7_makers_X7_isNight rfl rfl rfl hdX7_isNight.2 ⟨Nat.le_of_ble_eq_true rfl, Nat.le_of_ble_eq_true rfl⟩ hl.1 rfl (Nat.le_of_ble_eq_true rfl) dX7_makers_8 ⟨Nat.le_of_ble_eq_true rfl, Nat.le_of_ble_eq_true rfl⟩) (fun r3 σ' H locs hw hO => ?_)
    obtain ⟨hσ, hw⟩ := hw
    subst hσ
    refine lv_if_ne (tgt := 17) hx hb dX7_makers_11 (by decide) (fun c4 => ?_) (fun c4 => ?_)
    · replace hw := hw.2 c4
      refine lv_aload_n hx hb dX7_makers_17 rfl (lv_at hl 0 rfl) ?_
      refine x_calli C0 hO (x_runV (As := []) (rest := []) C0 hO (kX7_hasHall l g _  σ _ hw) 0 rfl (xRecv C0 hO (j := 0) rfl rfl) gX7_makers_X7_hasHall rfl rfl rfl hdX7_hasHall ⟨Nat.le_of_ble_eq_true rfl, Nat.le_of_ble_eq_true rfl⟩ hl.1 rfl (Nat.le_of_ble_eq_true rfl) dX7_makers_18 ⟨Nat.le_of_ble_eq_true rfl, Nat.le_of_ble_eq_true rfl⟩) (fun r5 σ' H locs hw hO => ?_)
      obtain ⟨hσ, hw⟩ := hw
      subst hσ
      refine lv_if_ne (tgt := 27) hx hb dX7_makers_21 (by decide) (fun c6 => ?_) (fun c6 => ?_)
      · replace hw := hw.2 c6
        refine lv_iconst (v := 0) hx hb dX7_makers_27 (by decide) ?_
        refine lv_istore_n (lv' := [(3, .int (0 : Int32)), (0, .ref (xa g 0)), (1, .int a1), (2, .int a2)]) hx hb dX7_makers_28 rfl hl (by decide) rfl (fun ls hl => ?_)
        refine lv_iconst (v := 0) hx hb dX7_makers_29 (by decide) ?_
        refine lv_istore (lv' := [(4, .int (0 : Int32)), (3, .int (0 : Int32)), (0, .ref (xa g 0)), (1, .int a1), (2, .int a2)]) hx hb dX7_makers_30 hl (by decide) rfl (fun ls hl => ?_)
        refine lX7_makers_32 C0 σ a1 a2 post _ (fun x13 x14 H locs ls hw hO hl => ?_) 1000 _ _ _ _ _ hw hO (lv_sub hl [2, 3, 4, 1, 0] rfl)
        refine lv_iload_n hx hb dX7_makers_65 rfl (lv_at hl 3 rfl) ?_
        exact x_iret C0 hO ⟨rfl, hw⟩ dX7_makers_66
      · replace hw := hw.1 c6
        refine lv_bipush (v := -3) hx hb dX7_makers_24 (by decide) ?_
        exact x_iret C0 hO ⟨rfl, hw⟩ dX7_makers_26
    · replace hw := hw.1 c4
      refine lv_bipush (v := -2) hx hb dX7_makers_14 (by decide) ?_
      exact x_iret C0 hO ⟨rfl, hw⟩ dX7_makers_16
theorem hdX7_areClaims : yX7_areClaims.cls = RX7 ∧ yX7_areClaims.cls ≠ "java/lang/invoke/MethodHandle" ∧ yX7_areClaims.cls ≠ "java/lang/invoke/VarHandle" ∧ (parseMethodDescriptor yX7_areClaims.desc).map (fun d => d.parameters.length) = some 3 := by decide +kernel
set_option maxHeartbeats 4000000 in
set_option maxRecDepth 100000 in
theorem lX7_areClaims_3 {p : Program} {l : Launch} {e : Env} {s : State} {m : MethodId} {args : Array Value} {below : List Frame} {meth : Method} {c : Code} {g : XG} {A : Nat → Prop} (C0 : xC g A wsX7_areClaims RX7 cX7_areClaims 6 (some .boolean) p s m args meth c) (σ : XS) (f1 : Nat) (f2 : Int32) (f3 : Int32) (hs1 : isSh f1) (post : Int32 → Prop) (kx : Int32 → Prop)
    (hkx : ∀ (m4 : Int32) (H : Heap) (locs : List Loc) (ls : Array Slot), kx m4 → xO g A s σ H locs → lv_has ls 6 [(0, .ref (xa g 0)), (1, .ref (xa g f1)), (2, .int f2), (3, .int f3), (4, .int m4)] → W p l e (headSpec wsX7_areClaims rmX7_areClaims).room s m args below meth c H locs 0 0 (MQ below (va_Qi (fun r u => σ = u ∧ post r) (xAt g A) A) args s 0 0 A) (F0 m 69 ls [])) :
    ∀ (n : Nat) (m4 : Int32) (H : Heap) (locs : List Loc) (ls : Array Slot), LX7_areClaims_3 σ f1 f2 f3 post kx n m4 → xO g A s σ H locs → lv_has ls 6 [(0, .ref (xa g 0)), (1, .ref (xa g f1)), (2, .int f2), (3, .int f3), (4, .int m4)] → W p l e (headSpec wsX7_areClaims rmX7_areClaims).room s m args below meth c H locs 0 0 (MQ below (va_Qi (fun r u => σ = u ∧ post r) (xAt g A) A) args s 0 0 A) (F0 m 3 ls []) := by
  have hx := C0.1
  have hb := C0.2.1
  have hown := C0.2.2.2.2.2.1
  have hts := C0.2.2.2.2.2.2.1
  intro n
  induction n with
  | zero =>
    intro m4 H locs ls hw
    exact hw.elim
  | succ n ih =>
    intro m4 H locs ls hw hO hl
    rw [LX7_areClaims_3] at hw
    refine lv_iload hx hb dX7_areClaims_3 (lv_at hl 4 rfl) ?_
    refine lv_iload_n hx hb dX7_areClaims_5 rfl (lv_at hl 3 rfl) ?_
    refine lv_icmp_ge (tgt := 69) hx hb dX7_areClaims_6 (by decide) (fun c1 => ?_) (fun c1 => ?_)
    · replace hw := hw.1 c1
      exact hkx _ _ _ _ hw hO (lv_sub hl [0, 1, 2, 3, 4] rfl)
    · replace hw := hw.2 c1
      refine lv_iload_n hx hb dX7_areClaims_9 rfl (lv_at hl 2 rfl) ?_
      refine lv_iconst (v := 3) hx hb dX7_areClaims_10 (by decide) ?_
      refine lv_iload hx hb dX7_areClaims_11 (lv_at hl 4 rfl) ?_
      refine lv_imul hx hb dX7_areClaims_13 ?_
      refine lv_iadd hx hb dX7_areClaims_14 ?_
      refine lv_topi (fun x2 ex2 => ?_)
      replace hw := hw x2 ex2
      refine lv_istore (lv' := [(5, .int x2), (0, .ref (xa g 0)), (1, .ref (xa g f1)), (2, .int f2), (3, .int f3), (4, .int m4)]) hx hb dX7_areClaims_15 hl (by decide) rfl (fun ls hl => ?_)
      refine lv_aload_n hx hb dX7_areClaims_17 rfl (lv_at hl 1 rfl) ?_
      refine lv_aload_n hx hb dX7_areClaims_18 rfl (lv_at hl 2 rfl) ?_
      refine lv_iload hx hb dX7_areClaims_19 (lv_at hl 0 rfl) ?_
      refine x_calli C0 hO (x_runV (As := [.int x2]) (rest := [.ref (xa g 0)]) C0 hO (kX3_read l g _ f1 hs1 x2 σ _ hw) 1 rfl (xRecv C0 hO (j := f1) hs1.1 rfl) gX7_areClaims_X3_read rfl rfl rfl hdX3_read ⟨Nat.le_of_ble_eq_true rfl, Nat.le_of_ble_eq_true rfl⟩ hl.1 rfl (Nat.le_of_ble_eq_true rfl) dX7_areClaims_21 ⟨Nat.le_of_ble_eq_true rfl, Nat.le_of_ble_eq_true rfl⟩) (fun r3 σ' H locs hw hO => ?_)
      obtain ⟨hσ, hw⟩ := hw
      subst hσ
      refine x_callq C0 hO (x_runV (As := [.int r3]) (rest := []) C0 hO (kX7_personOf l g _ r3 σ _ hw) 1 rfl (xRecv C0 hO (j := 0) rfl rfl) gX7_areClaims_X7_personOf rfl rfl rfl hdX7_personOf ⟨Nat.le_of_ble_eq_true rfl, Nat.le_of_ble_eq_true rfl⟩ hl.1 rfl (Nat.le_of_ble_eq_true rfl) dX7_areClaims_24 ⟨Nat.le_of_ble_eq_true rfl, Nat.le_of_ble_eq_true rfl⟩) (fun r4 σ' H locs hw hO => ?_)
      obtain ⟨hσ, hw⟩ := hw
      subst hσ
      rcases r4 with _ | w5
      · replace hw := hw.1 rfl
        refine W.eq (g2 := F0 m 27 ls [.null]) rfl ?_
        refine lv_ifnonnullN hx hb dX7_areClaims_27 ?_
        refine lv_iconst (v := 0) hx hb dX7_areClaims_30 (by decide) ?_
        exact x_zret C0 hO rfl ⟨rfl, hw⟩ dX7_areClaims_31
      · replace hw := hw.2 w5 rfl
        refine W.eq (g2 := F0 m 27 ls [.ref w5]) rfl ?_
        refine lv_ifnonnull (tgt := 32) hx hb dX7_areClaims_27 (by decide) ?_
        refine lv_aload_n hx hb dX7_areClaims_32 rfl (lv_at hl 1 rfl) ?_
        refine lv_aload_n hx hb dX7_areClaims_33 rfl (lv_at hl 2 rfl) ?_
        refine lv_iload hx hb dX7_areClaims_34 (lv_at hl 0 rfl) ?_
        refine lv_iconst (v := 1) hx hb dX7_areClaims_36 (by decide) ?_
        refine lv_iadd hx hb dX7_areClaims_37 ?_
        refine x_calli C0 hO (x_runV (As := [.int (x2 + (1 : Int32))]) (rest := [.ref (xa g 0)]) C0 hO (kX3_read l g _ f1 hs1 (x2 + (1 : Int32)) σ _ hw) 1 rfl (xRecv C0 hO (j := f1) hs1.1 rfl) gX7_areClaims_X3_read rfl rfl rfl hdX3_read ⟨Nat.le_of_ble_eq_true rfl, Nat.le_of_ble_eq_true rfl⟩ hl.1 rfl (Nat.le_of_ble_eq_true rfl) dX7_areClaims_38 ⟨Nat.le_of_ble_eq_true rfl, Nat.le_of_ble_eq_true rfl⟩) (fun r6 σ' H locs hw hO => ?_)
        obtain ⟨hσ, hw⟩ := hw
        subst hσ
        refine x_calli C0 hO (x_runV (As := [.int r6]) (rest := []) C0 hO (kX7_isPlace l g _ r6 σ _ hw) 1 rfl (xRecv C0 hO (j := 0) rfl rfl) gX7_areClaims_X7_isPlace rfl rfl rfl hdX7_isPlace ⟨Nat.le_of_ble_eq_true rfl, Nat.le_of_ble_eq_true rfl⟩ hl.1 rfl (Nat.le_of_ble_eq_true rfl) dX7_areClaims_41 ⟨Nat.le_of_ble_eq_true rfl, Nat.le_of_ble_eq_true rfl⟩) (fun r7 σ' H locs hw hO => ?_)
        obtain ⟨hσ, hw⟩ := hw
        subst hσ
        refine lv_if_eq (tgt := 61) hx hb dX7_areClaims_44 (by decide) (fun c8 => ?_) (fun c8 => ?_)
        · replace hw := hw.1 c8
          refine lv_iconst (v := 0) hx hb dX7_areClaims_61 (by decide) ?_
          exact x_zret C0 hO rfl ⟨rfl, hw⟩ dX7_areClaims_62
        · replace hw := hw.2 c8
          refine lv_aload_n hx hb dX7_areClaims_47 rfl (lv_at hl 2 rfl) ?_
          refine lv_iload hx hb dX7_areClaims_48 (lv_at hl 0 rfl) ?_
          refine lv_iconst (v := 2) hx hb dX7_areClaims_50 (by decide) ?_
          refine lv_iadd hx hb dX7_areClaims_51 ?_
          refine x_calli C0 hO (x_runV (As := [.int (x2 + (2 : Int32))]) (rest := []) C0 hO (kX3_read l g _ f1 hs1 (x2 + (2 : Int32)) σ _ hw) 1 rfl (xRecv C0 hO (j := f1) hs1.1 rfl) gX7_areClaims_X3_read rfl rfl rfl hdX3_read ⟨Nat.le_of_ble_eq_true rfl, Nat.le_of_ble_eq_true rfl⟩ hl.1 rfl (Nat.le_of_ble_eq_true rfl) dX7_areClaims_52 ⟨Nat.le_of_ble_eq_true rfl, Nat.le_of_ble_eq_true rfl⟩) (fun r9 σ' H locs hw hO => ?_)
          obtain ⟨hσ, hw⟩ := hw
          subst hσ
          refine x_calli C0 hO (x_runS (As := [.int r9]) (rest := []) C0 hO (kX7_isNight l g _ r9 σ _ hw) 1 rfl gX7_areClaims_X7_isNight rfl rfl rfl hdX7_isNight.2 ⟨Nat.le_of_ble_eq_true rfl, Nat.le_of_ble_eq_true rfl⟩ hl.1 rfl (Nat.le_of_ble_eq_true rfl) dX7_areClaims_55 ⟨Nat.le_of_ble_eq_true rfl, Nat.le_of_ble_eq_true rfl⟩) (fun r10 σ' H locs hw hO => ?_)
          obtain ⟨hσ, hw⟩ := hw
          subst hσ
          refine lv_if_ne (tgt := 63) hx hb dX7_areClaims_58 (by decide) (fun c11 => ?_) (fun c11 => ?_)
          · replace hw := hw.2 c11
            obtain ⟨x12, ex12⟩ : ∃ z : Int32, z = m4 + 1 := ⟨_, rfl⟩
            replace hw := hw x12 ex12
            refine lv_iinc (v := x12) (lv' := [(4, .int x12), (5, .int x2), (0, .ref (xa g 0)), (1, .ref (xa g f1)), (2, .int f2), (3, .int f3)]) hx hb dX7_areClaims_63 hl (k := 5) rfl (by rw [ex12]; rfl) (by decide) rfl (fun ls hl => ?_)
            refine lv_goto (tgt := 3) hx hb dX7_areClaims_66 (by decide) ?_
            exact ih _ _ _ _ hw hO (lv_sub hl [2, 3, 4, 5, 0] rfl)
          · replace hw := hw.1 c11
            refine lv_iconst (v := 0) hx hb dX7_areClaims_61 (by decide) ?_
            exact x_zret C0 hO rfl ⟨rfl, hw⟩ dX7_areClaims_62
set_option maxHeartbeats 4000000 in
set_option maxRecDepth 100000 in
theorem kX7_areClaims (l : Launch) (g : XG) (sz : Nat) (q1 : Nat) (a2 : Int32) (a3 : Int32) (hq1 : isSh q1) (σ : XS) (post : Int32 → Prop) (hw : PX7_areClaims q1 a2 a3 σ post) : xMi l yX7_areClaims wsX7_areClaims rmX7_areClaims 0 0 g sz [.ref (xa g 0), .ref (xa g q1), .int a2, .int a3] σ (fun r u => σ = u ∧ post r) := by
  unfold PX7_areClaims at hw
  refine x_head (Qc := fun A => va_Qi (fun r u => σ = u ∧ post r) (xAt g A) A) (cc := cX7_areClaims) (maxL := 6) (ret := (some .boolean)) (by decide) rfl ?_
  intro p e s m below meth c A C0 hnm hO
  refine x_entry (Nat.le_of_ble_eq_true rfl) (fun ls hl => ?_)
  have hl : lv_has ls 6 [(0, .ref (xa g 0)), (1, .ref (xa g q1)), (2, .int a2), (3, .int a3)] := hl
  have hx := C0.1
  have hb := C0.2.1
  have hown := C0.2.2.2.2.2.1
  have hts := C0.2.2.2.2.2.2.1
  refine lv_iconst (v := 0) hx hb dX7_areClaims_0 (by decide) ?_
  refine lv_istore (lv' := [(4, .int (0 : Int32)), (0, .ref (xa g 0)), (1, .ref (xa g q1)), (2, .int a2), (3, .int a3)]) hx hb dX7_areClaims_1 hl (by decide) rfl (fun ls hl => ?_)
  refine lX7_areClaims_3 C0 σ q1 a2 a3 hq1 post _ (fun x13 H locs ls hw hO hl => ?_) 1000 _ _ _ _ hw hO (lv_sub hl [1, 2, 3, 4, 0] rfl)
  refine lv_iconst (v := 1) hx hb dX7_areClaims_69 (by decide) ?_
  exact x_zret C0 hO rfl ⟨rfl, hw⟩ dX7_areClaims_70
theorem iX7_claimMayBe_7 : ∀ w ∈ wsX70, w ∈ wsX7_claimMayBe := fun w h => List.mem_cons_of_mem _ (List.mem_append_left _ (List.mem_append_left _ (List.mem_append_right _ h)))
theorem hdX7_claimMayBe : yX7_claimMayBe.cls = RX7 ∧ yX7_claimMayBe.cls ≠ "java/lang/invoke/MethodHandle" ∧ yX7_claimMayBe.cls ≠ "java/lang/invoke/VarHandle" ∧ (parseMethodDescriptor yX7_claimMayBe.desc).map (fun d => d.parameters.length) = some 3 := by decide +kernel
set_option maxHeartbeats 4000000 in
set_option maxRecDepth 100000 in
theorem lX7_claimMayBe_38 {p : Program} {l : Launch} {e : Env} {s : State} {m : MethodId} {args : Array Value} {below : List Frame} {meth : Method} {c : Code} {g : XG} {A : Nat → Prop} (C0 : xC g A wsX7_claimMayBe RX7 cX7_claimMayBe 11 (some .boolean) p s m args meth c) (σ : XS) (f1 : Nat) (f2 : Int32) (f3 : Int32) (f4 : Int32) (f5 : Int32) (f6 : Int32) (f7 : Int32) (hs1 : isSh f1) (post : Int32 → Prop) (kx : Int32 → Prop)
    (hkx : ∀ (m8 : Int32) (H : Heap) (locs : List Loc) (ls : Array Slot), kx m8 → xO g A s σ H locs → lv_has ls 11 [(0, .ref (xa g 0)), (1, .ref (xa g f1)), (2, .int f2), (3, .int f3), (4, .int f4), (5, .int f5), (6, .int f6), (7, .int f7), (8, .int m8)] → W p l e (headSpec wsX7_claimMayBe rmX7_claimMayBe).room s m args below meth c H locs 0 0 (MQ below (va_Qi (fun r u => σ = u ∧ post r) (xAt g A) A) args s 0 0 A) (F0 m 122 ls [])) :
    ∀ (n : Nat) (m8 : Int32) (H : Heap) (locs : List Loc) (ls : Array Slot), LX7_claimMayBe_38 σ f1 f2 f3 f4 f5 f6 f7 post kx n m8 → xO g A s σ H locs → lv_has ls 11 [(0, .ref (xa g 0)), (1, .ref (xa g f1)), (2, .int f2), (3, .int f3), (4, .int f4), (5, .int f5), (6, .int f6), (7, .int f7), (8, .int m8)] → W p l e (headSpec wsX7_claimMayBe rmX7_claimMayBe).room s m args below meth c H locs 0 0 (MQ below (va_Qi (fun r u => σ = u ∧ post r) (xAt g A) A) args s 0 0 A) (F0 m 38 ls []) := by
  have hx := C0.1
  have hb := C0.2.1
  have hown := C0.2.2.2.2.2.1
  have hts := C0.2.2.2.2.2.2.1
  intro n
  induction n with
  | zero =>
    intro m8 H locs ls hw
    exact hw.elim
  | succ n ih =>
    intro m8 H locs ls hw hO hl
    rw [LX7_claimMayBe_38] at hw
    refine lv_iload hx hb dX7_claimMayBe_38 (lv_at hl 8 rfl) ?_
    refine lv_aload_n hx hb dX7_claimMayBe_40 rfl (lv_at hl 0 rfl) ?_
    refine x_getr C0 hO 0 3 4 rfl rfl (by decide) rfl iX7_claimMayBe_7 rfl (List.mem_of_getElem? (i := 1) rfl) dX7_claimMayBe_41 ?_
    refine lv_iconst (v := 2) hx hb dX7_claimMayBe_44 (by decide) ?_
    refine x_calli C0 hO (x_runV (As := [.int (2 : Int32)]) (rest := [.int m8]) C0 hO (kX5_count l g _ (2 : Int32) σ _ hw) 1 rfl (xRecv C0 hO (j := 4) rfl rfl) gX7_claimMayBe_X5_count rfl rfl rfl hdX5_count ⟨Nat.le_of_ble_eq_true rfl, Nat.le_of_ble_eq_true rfl⟩ hl.1 rfl (Nat.le_of_ble_eq_true rfl) dX7_claimMayBe_45 ⟨Nat.le_of_ble_eq_true rfl, Nat.le_of_ble_eq_true rfl⟩) (fun r5 σ' H locs hw hO => ?_)
    obtain ⟨hσ, hw⟩ := hw
    subst hσ
    refine lv_icmp_ge (tgt := 122) hx hb dX7_claimMayBe_48 (by decide) (fun c6 => ?_) (fun c6 => ?_)
    · replace hw := hw.1 c6
      exact hkx _ _ _ _ hw hO (lv_sub hl [0, 1, 2, 3, 4, 5, 6, 7, 8] rfl)
    · replace hw := hw.2 c6
      refine lv_aload_n hx hb dX7_claimMayBe_51 rfl (lv_at hl 0 rfl) ?_
      refine x_getr C0 hO 0 3 4 rfl rfl (by decide) rfl iX7_claimMayBe_7 rfl (List.mem_of_getElem? (i := 1) rfl) dX7_claimMayBe_52 ?_
      refine lv_iload hx hb dX7_claimMayBe_55 (lv_at hl 8 rfl) ?_
      refine x_calli C0 hO (x_runV (As := [.int m8]) (rest := []) C0 hO (kX5_personOf l g _ m8 σ _ hw) 1 rfl (xRecv C0 hO (j := 4) rfl rfl) gX7_claimMayBe_X5_personOf rfl rfl rfl hdX5_personOf ⟨Nat.le_of_ble_eq_true rfl, Nat.le_of_ble_eq_true rfl⟩ hl.1 rfl (Nat.le_of_ble_eq_true rfl) dX7_claimMayBe_57 ⟨Nat.le_of_ble_eq_true rfl, Nat.le_of_ble_eq_true rfl⟩) (fun r7 σ' H locs hw hO => ?_)
      obtain ⟨hσ, hw⟩ := hw
      subst hσ
      refine lv_iload hx hb dX7_claimMayBe_60 (lv_at hl 5 rfl) ?_
      refine lv_icmp_ne (tgt := 69) hx hb dX7_claimMayBe_62 (by decide) (fun c8 => ?_) (fun c8 => ?_)
      · replace hw := hw.2 c8
        refine lv_iconst (v := 0) hx hb dX7_claimMayBe_69 (by decide) ?_
        refine lv_istore (lv' := [(9, .int (0 : Int32)), (0, .ref (xa g 0)), (1, .ref (xa g f1)), (2, .int f2), (3, .int f3), (4, .int f4), (5, .int f5), (6, .int f6), (7, .int f7), (8, .int m8)]) hx hb dX7_claimMayBe_70 hl (by decide) rfl (fun ls hl => ?_)
        refine lv_aload_n hx hb dX7_claimMayBe_72 rfl (lv_at hl 1 rfl) ?_
        refine x_getr C0 hO 0 3 4 rfl rfl (by decide) rfl iX7_claimMayBe_7 rfl (List.mem_of_getElem? (i := 1) rfl) dX7_claimMayBe_73 ?_
        refine lv_iload hx hb dX7_claimMayBe_76 (lv_at hl 9 rfl) ?_
        refine x_calli C0 hO (x_runV (As := [.int m8]) (rest := []) C0 hO (kX5_placeOf l g _ m8 σ _ hw) 1 rfl (xRecv C0 hO (j := 4) rfl rfl) gX7_claimMayBe_X5_placeOf rfl rfl rfl hdX5_placeOf ⟨Nat.le_of_ble_eq_true rfl, Nat.le_of_ble_eq_true rfl⟩ hl.1 rfl (Nat.le_of_ble_eq_true rfl) dX7_claimMayBe_78 ⟨Nat.le_of_ble_eq_true rfl, Nat.le_of_ble_eq_true rfl⟩) (fun r9 σ' H locs hw hO => ?_)
        obtain ⟨hσ, hw⟩ := hw
        subst hσ
        refine lv_iload hx hb dX7_claimMayBe_81 (lv_at hl 7 rfl) ?_
        refine lv_icmp_ne (tgt := 90) hx hb dX7_claimMayBe_83 (by decide) (fun c10 => ?_) (fun c10 => ?_)
        · replace hw := hw.2 c10
          refine lv_iconst (v := 0) hx hb dX7_claimMayBe_90 (by decide) ?_
          refine lv_istore (lv' := [(10, .int (0 : Int32)), (9, .int (0 : Int32)), (0, .ref (xa g 0)), (1, .ref (xa g f1)), (2, .int f2), (3, .int f3), (4, .int f4), (5, .int f5), (6, .int f6), (7, .int f7), (8, .int m8)]) hx hb dX7_claimMayBe_91 hl (by decide) rfl (fun ls hl => ?_)
          refine lv_aload_n hx hb dX7_claimMayBe_93 rfl (lv_at hl 2 rfl) ?_
          refine x_getr C0 hO 0 3 4 rfl rfl (by decide) rfl iX7_claimMayBe_7 rfl (List.mem_of_getElem? (i := 1) rfl) dX7_claimMayBe_94 ?_
          refine lv_iload hx hb dX7_claimMayBe_97 (lv_at hl 10 rfl) ?_
          refine x_calli C0 hO (x_runV (As := [.int m8]) (rest := []) C0 hO (kX5_nightOf l g _ m8 σ _ hw) 1 rfl (xRecv C0 hO (j := 4) rfl rfl) gX7_claimMayBe_X5_nightOf rfl rfl rfl hdX5_nightOf ⟨Nat.le_of_ble_eq_true rfl, Nat.le_of_ble_eq_true rfl⟩ hl.1 rfl (Nat.le_of_ble_eq_true rfl) dX7_claimMayBe_99 ⟨Nat.le_of_ble_eq_true rfl, Nat.le_of_ble_eq_true rfl⟩) (fun r11 σ' H locs hw hO => ?_)
          obtain ⟨hσ, hw⟩ := hw
          subst hσ
          refine lv_iload hx hb dX7_claimMayBe_102 (lv_at hl 9 rfl) ?_
          refine lv_icmp_ne (tgt := 116) hx hb dX7_claimMayBe_104 (by decide) (fun c12 => ?_) (fun c12 => ?_)
          · replace hw := hw.2 c12
            obtain ⟨x13, ex13⟩ : ∃ z : Int32, z = m8 + 1 := ⟨_, rfl⟩
            replace hw := hw x13 ex13
            refine lv_iinc (v := x13) (lv' := [(8, .int x13), (10, .int (0 : Int32)), (9, .int (0 : Int32)), (0, .ref (xa g 0)), (1, .ref (xa g f1)), (2, .int f2), (3, .int f3), (4, .int f4), (5, .int f5), (6, .int f6), (7, .int f7)]) hx hb dX7_claimMayBe_116 hl (k := 10) rfl (by rw [ex13]; rfl) (by decide) rfl (fun ls hl => ?_)
            refine lv_goto (tgt := 38) hx hb dX7_claimMayBe_119 (by decide) ?_
            exact ih _ _ _ _ hw hO (lv_sub hl [3, 4, 5, 6, 7, 8, 9, 10, 0] rfl)
          · replace hw := hw.1 c12
            refine lv_iload hx hb dX7_claimMayBe_107 (lv_at hl 1 rfl) ?_
            refine lv_iload hx hb dX7_claimMayBe_109 (lv_at hl 0 rfl) ?_
            refine lv_icmp_eq (tgt := 116) hx hb dX7_claimMayBe_111 (by decide) (fun c14 => ?_) (fun c14 => ?_)
            · replace hw := hw.1 c14
              obtain ⟨x15, ex15⟩ : ∃ z : Int32, z = m8 + 1 := ⟨_, rfl⟩
              replace hw := hw x15 ex15
              refine lv_iinc (v := x15) (lv' := [(8, .int x15), (10, .int (0 : Int32)), (9, .int (0 : Int32)), (0, .ref (xa g 0)), (1, .ref (xa g f1)), (2, .int f2), (3, .int f3), (4, .int f4), (5, .int f5), (6, .int f6), (7, .int f7)]) hx hb dX7_claimMayBe_116 hl (k := 10) rfl (by rw [ex15]; rfl) (by decide) rfl (fun ls hl => ?_)
              refine lv_goto (tgt := 38) hx hb dX7_claimMayBe_119 (by decide) ?_
              exact ih _ _ _ _ hw hO (lv_sub hl [3, 4, 5, 6, 7, 8, 9, 10, 0] rfl)
            · replace hw := hw.2 c14
              refine lv_iconst (v := 0) hx hb dX7_claimMayBe_114 (by decide) ?_
              exact x_zret C0 hO rfl ⟨rfl, hw⟩ dX7_claimMayBe_115
        · replace hw := hw.1 c10
          refine lv_iconst (v := 1) hx hb dX7_claimMayBe_86 (by decide) ?_
          refine lv_goto (tgt := 91) hx hb dX7_claimMayBe_87 (by decide) ?_
          refine lv_istore (lv' := [(10, .int (1 : Int32)), (9, .int (0 : Int32)), (0, .ref (xa g 0)), (1, .ref (xa g f1)), (2, .int f2), (3, .int f3), (4, .int f4), (5, .int f5), (6, .int f6), (7, .int f7), (8, .int m8)]) hx hb dX7_claimMayBe_91 hl (by decide) rfl (fun ls hl => ?_)
          refine lv_aload_n hx hb dX7_claimMayBe_93 rfl (lv_at hl 2 rfl) ?_
          refine x_getr C0 hO 0 3 4 rfl rfl (by decide) rfl iX7_claimMayBe_7 rfl (List.mem_of_getElem? (i := 1) rfl) dX7_claimMayBe_94 ?_
          refine lv_iload hx hb dX7_claimMayBe_97 (lv_at hl 10 rfl) ?_
          refine x_calli C0 hO (x_runV (As := [.int m8]) (rest := []) C0 hO (kX5_nightOf l g _ m8 σ _ hw) 1 rfl (xRecv C0 hO (j := 4) rfl rfl) gX7_claimMayBe_X5_nightOf rfl rfl rfl hdX5_nightOf ⟨Nat.le_of_ble_eq_true rfl, Nat.le_of_ble_eq_true rfl⟩ hl.1 rfl (Nat.le_of_ble_eq_true rfl) dX7_claimMayBe_99 ⟨Nat.le_of_ble_eq_true rfl, Nat.le_of_ble_eq_true rfl⟩) (fun r16 σ' H locs hw hO => ?_)
          obtain ⟨hσ, hw⟩ := hw
          subst hσ
          refine lv_iload hx hb dX7_claimMayBe_102 (lv_at hl 9 rfl) ?_
          refine lv_icmp_ne (tgt := 116) hx hb dX7_claimMayBe_104 (by decide) (fun c17 => ?_) (fun c17 => ?_)
          · replace hw := hw.2 c17
            obtain ⟨x18, ex18⟩ : ∃ z : Int32, z = m8 + 1 := ⟨_, rfl⟩
            replace hw := hw x18 ex18
            refine lv_iinc (v := x18) (lv' := [(8, .int x18), (10, .int (1 : Int32)), (9, .int (0 : Int32)), (0, .ref (xa g 0)), (1, .ref (xa g f1)), (2, .int f2), (3, .int f3), (4, .int f4), (5, .int f5), (6, .int f6), (7, .int f7)]) hx hb dX7_claimMayBe_116 hl (k := 10) rfl (by rw [ex18]; rfl) (by decide) rfl (fun ls hl => ?_)
            refine lv_goto (tgt := 38) hx hb dX7_claimMayBe_119 (by decide) ?_
            exact ih _ _ _ _ hw hO (lv_sub hl [3, 4, 5, 6, 7, 8, 9, 10, 0] rfl)
          · replace hw := hw.1 c17
            refine lv_iload hx hb dX7_claimMayBe_107 (lv_at hl 1 rfl) ?_
            refine lv_iload hx hb dX7_claimMayBe_109 (lv_at hl 0 rfl) ?_
            refine lv_icmp_eq (tgt := 116) hx hb dX7_claimMayBe_111 (by decide) (fun c19 => ?_) (fun c19 => ?_)
            · replace hw := hw.1 c19
              obtain ⟨x20, ex20⟩ : ∃ z : Int32, z = m8 + 1 := ⟨_, rfl⟩
              replace hw := hw x20 ex20
              refine lv_iinc (v := x20) (lv' := [(8, .int x20), (10, .int (1 : Int32)), (9, .int (0 : Int32)), (0, .ref (xa g 0)), (1, .ref (xa g f1)), (2, .int f2), (3, .int f3), (4, .int f4), (5, .int f5), (6, .int f6), (7, .int f7)]) hx hb dX7_claimMayBe_116 hl (k := 10) rfl (by rw [ex20]; rfl) (by decide) rfl (fun ls hl => ?_)
              refine lv_goto (tgt := 38) hx hb dX7_claimMayBe_119 (by decide) ?_
              exact ih _ _ _ _ hw hO (lv_sub hl [3, 4, 5, 6, 7, 8, 9, 10, 0] rfl)
            · replace hw := hw.2 c19
              refine lv_iconst (v := 0) hx hb dX7_claimMayBe_114 (by decide) ?_
              exact x_zret C0 hO rfl ⟨rfl, hw⟩ dX7_claimMayBe_115
      · replace hw := hw.1 c8
        refine lv_iconst (v := 1) hx hb dX7_claimMayBe_65 (by decide) ?_
        refine lv_goto (tgt := 70) hx hb dX7_claimMayBe_66 (by decide) ?_
        refine lv_istore (lv' := [(9, .int (1 : Int32)), (0, .ref (xa g 0)), (1, .ref (xa g f1)), (2, .int f2), (3, .int f3), (4, .int f4), (5, .int f5), (6, .int f6), (7, .int f7), (8, .int m8)]) hx hb dX7_claimMayBe_70 hl (by decide) rfl (fun ls hl => ?_)
        refine lv_aload_n hx hb dX7_claimMayBe_72 rfl (lv_at hl 1 rfl) ?_
        refine x_getr C0 hO 0 3 4 rfl rfl (by decide) rfl iX7_claimMayBe_7 rfl (List.mem_of_getElem? (i := 1) rfl) dX7_claimMayBe_73 ?_
        refine lv_iload hx hb dX7_claimMayBe_76 (lv_at hl 9 rfl) ?_
        refine x_calli C0 hO (x_runV (As := [.int m8]) (rest := []) C0 hO (kX5_placeOf l g _ m8 σ _ hw) 1 rfl (xRecv C0 hO (j := 4) rfl rfl) gX7_claimMayBe_X5_placeOf rfl rfl rfl hdX5_placeOf ⟨Nat.le_of_ble_eq_true rfl, Nat.le_of_ble_eq_true rfl⟩ hl.1 rfl (Nat.le_of_ble_eq_true rfl) dX7_claimMayBe_78 ⟨Nat.le_of_ble_eq_true rfl, Nat.le_of_ble_eq_true rfl⟩) (fun r21 σ' H locs hw hO => ?_)
        obtain ⟨hσ, hw⟩ := hw
        subst hσ
        refine lv_iload hx hb dX7_claimMayBe_81 (lv_at hl 7 rfl) ?_
        refine lv_icmp_ne (tgt := 90) hx hb dX7_claimMayBe_83 (by decide) (fun c22 => ?_) (fun c22 => ?_)
        · replace hw := hw.2 c22
          refine lv_iconst (v := 0) hx hb dX7_claimMayBe_90 (by decide) ?_
          refine lv_istore (lv' := [(10, .int (0 : Int32)), (9, .int (1 : Int32)), (0, .ref (xa g 0)), (1, .ref (xa g f1)), (2, .int f2), (3, .int f3), (4, .int f4), (5, .int f5), (6, .int f6), (7, .int f7), (8, .int m8)]) hx hb dX7_claimMayBe_91 hl (by decide) rfl (fun ls hl => ?_)
          refine lv_aload_n hx hb dX7_claimMayBe_93 rfl (lv_at hl 2 rfl) ?_
          refine x_getr C0 hO 0 3 4 rfl rfl (by decide) rfl iX7_claimMayBe_7 rfl (List.mem_of_getElem? (i := 1) rfl) dX7_claimMayBe_94 ?_
          refine lv_iload hx hb dX7_claimMayBe_97 (lv_at hl 10 rfl) ?_
          refine x_calli C0 hO (x_runV (As := [.int m8]) (rest := []) C0 hO (kX5_nightOf l g _ m8 σ _ hw) 1 rfl (xRecv C0 hO (j := 4) rfl rfl) gX7_claimMayBe_X5_nightOf rfl rfl rfl hdX5_nightOf ⟨Nat.le_of_ble_eq_true rfl, Nat.le_of_ble_eq_true rfl⟩ hl.1 rfl (Nat.le_of_ble_eq_true rfl) dX7_claimMayBe_99 ⟨Nat.le_of_ble_eq_true rfl, Nat.le_of_ble_eq_true rfl⟩) (fun r23 σ' H locs hw hO => ?_)
          obtain ⟨hσ, hw⟩ := hw
          subst hσ
          refine lv_iload hx hb dX7_claimMayBe_102 (lv_at hl 9 rfl) ?_
          refine lv_icmp_ne (tgt := 116) hx hb dX7_claimMayBe_104 (by decide) (fun c24 => ?_) (fun c24 => ?_)
          · replace hw := hw.2 c24
            obtain ⟨x25, ex25⟩ : ∃ z : Int32, z = m8 + 1 := ⟨_, rfl⟩
            replace hw := hw x25 ex25
            refine lv_iinc (v := x25) (lv' := [(8, .int x25), (10, .int (0 : Int32)), (9, .int (1 : Int32)), (0, .ref (xa g 0)), (1, .ref (xa g f1)), (2, .int f2), (3, .int f3), (4, .int f4), (5, .int f5), (6, .int f6), (7, .int f7)]) hx hb dX7_claimMayBe_116 hl (k := 10) rfl (by rw [ex25]; rfl) (by decide) rfl (fun ls hl => ?_)
            refine lv_goto (tgt := 38) hx hb dX7_claimMayBe_119 (by decide) ?_
            exact ih _ _ _ _ hw hO (lv_sub hl [3, 4, 5, 6, 7, 8, 9, 10, 0] rfl)
          · replace hw := hw.1 c24
            refine lv_iload hx hb dX7_claimMayBe_107 (lv_at hl 1 rfl) ?_
            refine lv_iload hx hb dX7_claimMayBe_109 (lv_at hl 0 rfl) ?_
            refine lv_icmp_eq (tgt := 116) hx hb dX7_claimMayBe_111 (by decide) (fun c26 => ?_) (fun c26 => ?_)
            · replace hw := hw.1 c26
              obtain ⟨x27, ex27⟩ : ∃ z : Int32, z = m8 + 1 := ⟨_, rfl⟩
              replace hw := hw x27 ex27
              refine lv_iinc (v := x27) (lv' := [(8, .int x27), (10, .int (0 : Int32)), (9, .int (1 : Int32)), (0, .ref (xa g 0)), (1, .ref (xa g f1)), (2, .int f2), (3, .int f3), (4, .int f4), (5, .int f5), (6, .int f6), (7, .int f7)]) hx hb dX7_claimMayBe_116 hl (k := 10) rfl (by rw [ex27]; rfl) (by decide) rfl (fun ls hl => ?_)
              refine lv_goto (tgt := 38) hx hb dX7_claimMayBe_119 (by decide) ?_
              exact ih _ _ _ _ hw hO (lv_sub hl [3, 4, 5, 6, 7, 8, 9, 10, 0] rfl)
            · replace hw := hw.2 c26
              refine lv_iconst (v := 0) hx hb dX7_claimMayBe_114 (by decide) ?_
              exact x_zret C0 hO rfl ⟨rfl, hw⟩ dX7_claimMayBe_115
        · replace hw := hw.1 c22
          refine lv_iconst (v := 1) hx hb dX7_claimMayBe_86 (by decide) ?_
          refine lv_goto (tgt := 91) hx hb dX7_claimMayBe_87 (by decide) ?_
          refine lv_istore (lv' := [(10, .int (1 : Int32)), (9, .int (1 : Int32)), (0, .ref (xa g 0)), (1, .ref (xa g f1)), (2, .int f2), (3, .int f3), (4, .int f4), (5, .int f5), (6, .int f6), (7, .int f7), (8, .int m8)]) hx hb dX7_claimMayBe_91 hl (by decide) rfl (fun ls hl => ?_)
          refine lv_aload_n hx hb dX7_claimMayBe_93 rfl (lv_at hl 2 rfl) ?_
          refine x_getr C0 hO 0 3 4 rfl rfl (by decide) rfl iX7_claimMayBe_7 rfl (List.mem_of_getElem? (i := 1) rfl) dX7_claimMayBe_94 ?_
          refine lv_iload hx hb dX7_claimMayBe_97 (lv_at hl 10 rfl) ?_
          refine x_calli C0 hO (x_runV (As := [.int m8]) (rest := []) C0 hO (kX5_nightOf l g _ m8 σ _ hw) 1 rfl (xRecv C0 hO (j := 4) rfl rfl) gX7_claimMayBe_X5_nightOf rfl rfl rfl hdX5_nightOf ⟨Nat.le_of_ble_eq_true rfl, Nat.le_of_ble_eq_true rfl⟩ hl.1 rfl (Nat.le_of_ble_eq_true rfl) dX7_claimMayBe_99 ⟨Nat.le_of_ble_eq_true rfl, Nat.le_of_ble_eq_true rfl⟩) (fun r28 σ' H locs hw hO => ?_)
          obtain ⟨hσ, hw⟩ := hw
          subst hσ
          refine lv_iload hx hb dX7_claimMayBe_102 (lv_at hl 9 rfl) ?_
          refine lv_icmp_ne (tgt := 116) hx hb dX7_claimMayBe_104 (by decide) (fun c29 => ?_) (fun c29 => ?_)
          · replace hw := hw.2 c29
            obtain ⟨x30, ex30⟩ : ∃ z : Int32, z = m8 + 1 := ⟨_, rfl⟩
            replace hw := hw x30 ex30
            refine lv_iinc (v := x30) (lv' := [(8, .int x30), (10, .int (1 : Int32)), (9, .int (1 : Int32)), (0, .ref (xa g 0)), (1, .ref (xa g f1)), (2, .int f2), (3, .int f3), (4, .int f4), (5, .int f5), (6, .int f6), (7, .int f7)]) hx hb dX7_claimMayBe_116 hl (k := 10) rfl (by rw [ex30]; rfl) (by decide) rfl (fun ls hl => ?_)
            refine lv_goto (tgt := 38) hx hb dX7_claimMayBe_119 (by decide) ?_
            exact ih _ _ _ _ hw hO (lv_sub hl [3, 4, 5, 6, 7, 8, 9, 10, 0] rfl)
          · replace hw := hw.1 c29
            refine lv_iload hx hb dX7_claimMayBe_107 (lv_at hl 1 rfl) ?_
            refine lv_iload hx hb dX7_claimMayBe_109 (lv_at hl 0 rfl) ?_
            refine lv_icmp_eq (tgt := 116) hx hb dX7_claimMayBe_111 (by decide) (fun c31 => ?_) (fun c31 => ?_)
            · replace hw := hw.1 c31
              obtain ⟨x32, ex32⟩ : ∃ z : Int32, z = m8 + 1 := ⟨_, rfl⟩
              replace hw := hw x32 ex32
              refine lv_iinc (v := x32) (lv' := [(8, .int x32), (10, .int (1 : Int32)), (9, .int (1 : Int32)), (0, .ref (xa g 0)), (1, .ref (xa g f1)), (2, .int f2), (3, .int f3), (4, .int f4), (5, .int f5), (6, .int f6), (7, .int f7)]) hx hb dX7_claimMayBe_116 hl (k := 10) rfl (by rw [ex32]; rfl) (by decide) rfl (fun ls hl => ?_)
              refine lv_goto (tgt := 38) hx hb dX7_claimMayBe_119 (by decide) ?_
              exact ih _ _ _ _ hw hO (lv_sub hl [3, 4, 5, 6, 7, 8, 9, 10, 0] rfl)
            · replace hw := hw.2 c31
              refine lv_iconst (v := 0) hx hb dX7_claimMayBe_114 (by decide) ?_
              exact x_zret C0 hO rfl ⟨rfl, hw⟩ dX7_claimMayBe_115
set_option maxHeartbeats 4000000 in
set_option maxRecDepth 100000 in
theorem lX7_claimMayBe_125 {p : Program} {l : Launch} {e : Env} {s : State} {m : MethodId} {args : Array Value} {below : List Frame} {meth : Method} {c : Code} {g : XG} {A : Nat → Prop} (C0 : xC g A wsX7_claimMayBe RX7 cX7_claimMayBe 11 (some .boolean) p s m args meth c) (σ : XS) (f1 : Nat) (f2 : Int32) (f3 : Int32) (f4 : Int32) (f5 : Int32) (f6 : Int32) (f7 : Int32) (hs1 : isSh f1) (post : Int32 → Prop) (kx : Int32 → Prop)
    (hkx : ∀ (m8 : Int32) (H : Heap) (locs : List Loc) (ls : Array Slot), kx m8 → xO g A s σ H locs → lv_has ls 11 [(0, .ref (xa g 0)), (1, .ref (xa g f1)), (2, .int f2), (3, .int f3), (4, .int f4), (5, .int f5), (6, .int f6), (7, .int f7), (8, .int m8)] → W p l e (headSpec wsX7_claimMayBe rmX7_claimMayBe).room s m args below meth c H locs 0 0 (MQ below (va_Qi (fun r u => σ = u ∧ post r) (xAt g A) A) args s 0 0 A) (F0 m 198 ls [])) :
    ∀ (n : Nat) (m8 : Int32) (H : Heap) (locs : List Loc) (ls : Array Slot), LX7_claimMayBe_125 σ f1 f2 f3 f4 f5 f6 f7 post kx n m8 → xO g A s σ H locs → lv_has ls 11 [(0, .ref (xa g 0)), (1, .ref (xa g f1)), (2, .int f2), (3, .int f3), (4, .int f4), (5, .int f5), (6, .int f6), (7, .int f7), (8, .int m8)] → W p l e (headSpec wsX7_claimMayBe rmX7_claimMayBe).room s m args below meth c H locs 0 0 (MQ below (va_Qi (fun r u => σ = u ∧ post r) (xAt g A) A) args s 0 0 A) (F0 m 125 ls []) := by
  have hx := C0.1
  have hb := C0.2.1
  have hown := C0.2.2.2.2.2.1
  have hts := C0.2.2.2.2.2.2.1
  intro n
  induction n with
  | zero =>
    intro m8 H locs ls hw
    exact hw.elim
  | succ n ih =>
    intro m8 H locs ls hw hO hl
    rw [LX7_claimMayBe_125] at hw
    refine lv_iload hx hb dX7_claimMayBe_125 (lv_at hl 8 rfl) ?_
    refine lv_iload hx hb dX7_claimMayBe_127 (lv_at hl 4 rfl) ?_
    refine lv_icmp_ge (tgt := 198) hx hb dX7_claimMayBe_129 (by decide) (fun c34 => ?_) (fun c34 => ?_)
    · replace hw := hw.1 c34
      exact hkx _ _ _ _ hw hO (lv_sub hl [0, 1, 2, 3, 4, 5, 6, 7, 8] rfl)
    · replace hw := hw.2 c34
      refine lv_aload_n hx hb dX7_claimMayBe_132 rfl (lv_at hl 1 rfl) ?_
      refine lv_iload hx hb dX7_claimMayBe_133 (lv_at hl 8 rfl) ?_
      refine x_calli C0 hO (x_runV (As := [.int m8]) (rest := []) C0 hO (kX3_read l g _ f1 hs1 m8 σ _ hw) 1 rfl (xRecv C0 hO (j := f1) hs1.1 rfl) gX7_claimMayBe_X3_read rfl rfl rfl hdX3_read ⟨Nat.le_of_ble_eq_true rfl, Nat.le_of_ble_eq_true rfl⟩ hl.1 rfl (Nat.le_of_ble_eq_true rfl) dX7_claimMayBe_135 ⟨Nat.le_of_ble_eq_true rfl, Nat.le_of_ble_eq_true rfl⟩) (fun r35 σ' H locs hw hO => ?_)
      obtain ⟨hσ, hw⟩ := hw
      subst hσ
      refine lv_iload hx hb dX7_claimMayBe_138 (lv_at hl 5 rfl) ?_
      refine lv_icmp_ne (tgt := 147) hx hb dX7_claimMayBe_140 (by decide) (fun c36 => ?_) (fun c36 => ?_)
      · replace hw := hw.2 c36
        refine lv_iconst (v := 0) hx hb dX7_claimMayBe_147 (by decide) ?_
        refine lv_istore (lv' := [(9, .int (0 : Int32)), (0, .ref (xa g 0)), (1, .ref (xa g f1)), (2, .int f2), (3, .int f3), (4, .int f4), (5, .int f5), (6, .int f6), (7, .int f7), (8, .int m8)]) hx hb dX7_claimMayBe_148 hl (by decide) rfl (fun ls hl => ?_)
        refine lv_aload_n hx hb dX7_claimMayBe_150 rfl (lv_at hl 2 rfl) ?_
        refine lv_iload hx hb dX7_claimMayBe_151 (lv_at hl 9 rfl) ?_
        refine lv_iconst (v := 1) hx hb dX7_claimMayBe_153 (by decide) ?_
        refine lv_iadd hx hb dX7_claimMayBe_154 ?_
        refine x_calli C0 hO (x_runV (As := [.int (m8 + (1 : Int32))]) (rest := []) C0 hO (kX3_read l g _ f1 hs1 (m8 + (1 : Int32)) σ _ hw) 1 rfl (xRecv C0 hO (j := f1) hs1.1 rfl) gX7_claimMayBe_X3_read rfl rfl rfl hdX3_read ⟨Nat.le_of_ble_eq_true rfl, Nat.le_of_ble_eq_true rfl⟩ hl.1 rfl (Nat.le_of_ble_eq_true rfl) dX7_claimMayBe_155 ⟨Nat.le_of_ble_eq_true rfl, Nat.le_of_ble_eq_true rfl⟩) (fun r37 σ' H locs hw hO => ?_)
        obtain ⟨hσ, hw⟩ := hw
        subst hσ
        refine lv_iload hx hb dX7_claimMayBe_158 (lv_at hl 7 rfl) ?_
        refine lv_icmp_ne (tgt := 167) hx hb dX7_claimMayBe_160 (by decide) (fun c38 => ?_) (fun c38 => ?_)
        · replace hw := hw.2 c38
          refine lv_iconst (v := 0) hx hb dX7_claimMayBe_167 (by decide) ?_
          refine lv_istore (lv' := [(10, .int (0 : Int32)), (9, .int (0 : Int32)), (0, .ref (xa g 0)), (1, .ref (xa g f1)), (2, .int f2), (3, .int f3), (4, .int f4), (5, .int f5), (6, .int f6), (7, .int f7), (8, .int m8)]) hx hb dX7_claimMayBe_168 hl (by decide) rfl (fun ls hl => ?_)
          refine lv_aload_n hx hb dX7_claimMayBe_170 rfl (lv_at hl 3 rfl) ?_
          refine lv_iload hx hb dX7_claimMayBe_171 (lv_at hl 10 rfl) ?_
          refine lv_iconst (v := 2) hx hb dX7_claimMayBe_173 (by decide) ?_
          refine lv_iadd hx hb dX7_claimMayBe_174 ?_
          refine x_calli C0 hO (x_runV (As := [.int (m8 + (2 : Int32))]) (rest := []) C0 hO (kX3_read l g _ f1 hs1 (m8 + (2 : Int32)) σ _ hw) 1 rfl (xRecv C0 hO (j := f1) hs1.1 rfl) gX7_claimMayBe_X3_read rfl rfl rfl hdX3_read ⟨Nat.le_of_ble_eq_true rfl, Nat.le_of_ble_eq_true rfl⟩ hl.1 rfl (Nat.le_of_ble_eq_true rfl) dX7_claimMayBe_175 ⟨Nat.le_of_ble_eq_true rfl, Nat.le_of_ble_eq_true rfl⟩) (fun r39 σ' H locs hw hO => ?_)
          obtain ⟨hσ, hw⟩ := hw
          subst hσ
          refine lv_iload hx hb dX7_claimMayBe_178 (lv_at hl 9 rfl) ?_
          refine lv_icmp_ne (tgt := 192) hx hb dX7_claimMayBe_180 (by decide) (fun c40 => ?_) (fun c40 => ?_)
          · replace hw := hw.2 c40
            obtain ⟨x41, ex41⟩ : ∃ z : Int32, z = m8 + 3 := ⟨_, rfl⟩
            replace hw := hw x41 ex41
            refine lv_iinc (v := x41) (lv' := [(8, .int x41), (10, .int (0 : Int32)), (9, .int (0 : Int32)), (0, .ref (xa g 0)), (1, .ref (xa g f1)), (2, .int f2), (3, .int f3), (4, .int f4), (5, .int f5), (6, .int f6), (7, .int f7)]) hx hb dX7_claimMayBe_192 hl (k := 10) rfl (by rw [ex41]; rfl) (by decide) rfl (fun ls hl => ?_)
            refine lv_goto (tgt := 125) hx hb dX7_claimMayBe_195 (by decide) ?_
            exact ih _ _ _ _ hw hO (lv_sub hl [3, 4, 5, 6, 7, 8, 9, 10, 0] rfl)
          · replace hw := hw.1 c40
            refine lv_iload hx hb dX7_claimMayBe_183 (lv_at hl 1 rfl) ?_
            refine lv_iload hx hb dX7_claimMayBe_185 (lv_at hl 0 rfl) ?_
            refine lv_icmp_eq (tgt := 192) hx hb dX7_claimMayBe_187 (by decide) (fun c42 => ?_) (fun c42 => ?_)
            · replace hw := hw.1 c42
              obtain ⟨x43, ex43⟩ : ∃ z : Int32, z = m8 + 3 := ⟨_, rfl⟩
              replace hw := hw x43 ex43
              refine lv_iinc (v := x43) (lv' := [(8, .int x43), (10, .int (0 : Int32)), (9, .int (0 : Int32)), (0, .ref (xa g 0)), (1, .ref (xa g f1)), (2, .int f2), (3, .int f3), (4, .int f4), (5, .int f5), (6, .int f6), (7, .int f7)]) hx hb dX7_claimMayBe_192 hl (k := 10) rfl (by rw [ex43]; rfl) (by decide) rfl (fun ls hl => ?_)
              refine lv_goto (tgt := 125) hx hb dX7_claimMayBe_195 (by decide) ?_
              exact ih _ _ _ _ hw hO (lv_sub hl [3, 4, 5, 6, 7, 8, 9, 10, 0] rfl)
            · replace hw := hw.2 c42
              refine lv_iconst (v := 0) hx hb dX7_claimMayBe_190 (by decide) ?_
              exact x_zret C0 hO rfl ⟨rfl, hw⟩ dX7_claimMayBe_191
        · replace hw := hw.1 c38
          refine lv_iconst (v := 1) hx hb dX7_claimMayBe_163 (by decide) ?_
          refine lv_goto (tgt := 168) hx hb dX7_claimMayBe_164 (by decide) ?_
          refine lv_istore (lv' := [(10, .int (1 : Int32)), (9, .int (0 : Int32)), (0, .ref (xa g 0)), (1, .ref (xa g f1)), (2, .int f2), (3, .int f3), (4, .int f4), (5, .int f5), (6, .int f6), (7, .int f7), (8, .int m8)]) hx hb dX7_claimMayBe_168 hl (by decide) rfl (fun ls hl => ?_)
          refine lv_aload_n hx hb dX7_claimMayBe_170 rfl (lv_at hl 3 rfl) ?_
          refine lv_iload hx hb dX7_claimMayBe_171 (lv_at hl 10 rfl) ?_
          refine lv_iconst (v := 2) hx hb dX7_claimMayBe_173 (by decide) ?_
          refine lv_iadd hx hb dX7_claimMayBe_174 ?_
          refine x_calli C0 hO (x_runV (As := [.int (m8 + (2 : Int32))]) (rest := []) C0 hO (kX3_read l g _ f1 hs1 (m8 + (2 : Int32)) σ _ hw) 1 rfl (xRecv C0 hO (j := f1) hs1.1 rfl) gX7_claimMayBe_X3_read rfl rfl rfl hdX3_read ⟨Nat.le_of_ble_eq_true rfl, Nat.le_of_ble_eq_true rfl⟩ hl.1 rfl (Nat.le_of_ble_eq_true rfl) dX7_claimMayBe_175 ⟨Nat.le_of_ble_eq_true rfl, Nat.le_of_ble_eq_true rfl⟩) (fun r44 σ' H locs hw hO => ?_)
          obtain ⟨hσ, hw⟩ := hw
          subst hσ
          refine lv_iload hx hb dX7_claimMayBe_178 (lv_at hl 9 rfl) ?_
          refine lv_icmp_ne (tgt := 192) hx hb dX7_claimMayBe_180 (by decide) (fun c45 => ?_) (fun c45 => ?_)
          · replace hw := hw.2 c45
            obtain ⟨x46, ex46⟩ : ∃ z : Int32, z = m8 + 3 := ⟨_, rfl⟩
            replace hw := hw x46 ex46
            refine lv_iinc (v := x46) (lv' := [(8, .int x46), (10, .int (1 : Int32)), (9, .int (0 : Int32)), (0, .ref (xa g 0)), (1, .ref (xa g f1)), (2, .int f2), (3, .int f3), (4, .int f4), (5, .int f5), (6, .int f6), (7, .int f7)]) hx hb dX7_claimMayBe_192 hl (k := 10) rfl (by rw [ex46]; rfl) (by decide) rfl (fun ls hl => ?_)
            refine lv_goto (tgt := 125) hx hb dX7_claimMayBe_195 (by decide) ?_
            exact ih _ _ _ _ hw hO (lv_sub hl [3, 4, 5, 6, 7, 8, 9, 10, 0] rfl)
          · replace hw := hw.1 c45
            refine lv_iload hx hb dX7_claimMayBe_183 (lv_at hl 1 rfl) ?_
            refine lv_iload hx hb dX7_claimMayBe_185 (lv_at hl 0 rfl) ?_
            refine lv_icmp_eq (tgt := 192) hx hb dX7_claimMayBe_187 (by decide) (fun c47 => ?_) (fun c47 => ?_)
            · replace hw := hw.1 c47
              obtain ⟨x48, ex48⟩ : ∃ z : Int32, z = m8 + 3 := ⟨_, rfl⟩
              replace hw := hw x48 ex48
              refine lv_iinc (v := x48) (lv' := [(8, .int x48), (10, .int (1 : Int32)), (9, .int (0 : Int32)), (0, .ref (xa g 0)), (1, .ref (xa g f1)), (2, .int f2), (3, .int f3), (4, .int f4), (5, .int f5), (6, .int f6), (7, .int f7)]) hx hb dX7_claimMayBe_192 hl (k := 10) rfl (by rw [ex48]; rfl) (by decide) rfl (fun ls hl => ?_)
              refine lv_goto (tgt := 125) hx hb dX7_claimMayBe_195 (by decide) ?_
              exact ih _ _ _ _ hw hO (lv_sub hl [3, 4, 5, 6, 7, 8, 9, 10, 0] rfl)
            · replace hw := hw.2 c47
              refine lv_iconst (v := 0) hx hb dX7_claimMayBe_190 (by decide) ?_
              exact x_zret C0 hO rfl ⟨rfl, hw⟩ dX7_claimMayBe_191
      · replace hw := hw.1 c36
        refine lv_iconst (v := 1) hx hb dX7_claimMayBe_143 (by decide) ?_
        refine lv_goto (tgt := 148) hx hb dX7_claimMayBe_144 (by decide) ?_
        refine lv_istore (lv' := [(9, .int (1 : Int32)), (0, .ref (xa g 0)), (1, .ref (xa g f1)), (2, .int f2), (3, .int f3), (4, .int f4), (5, .int f5), (6, .int f6), (7, .int f7), (8, .int m8)]) hx hb dX7_claimMayBe_148 hl (by decide) rfl (fun ls hl => ?_)
        refine lv_aload_n hx hb dX7_claimMayBe_150 rfl (lv_at hl 2 rfl) ?_
        refine lv_iload hx hb dX7_claimMayBe_151 (lv_at hl 9 rfl) ?_
        refine lv_iconst (v := 1) hx hb dX7_claimMayBe_153 (by decide) ?_
        refine lv_iadd hx hb dX7_claimMayBe_154 ?_
        refine x_calli C0 hO (x_runV (As := [.int (m8 + (1 : Int32))]) (rest := []) C0 hO (kX3_read l g _ f1 hs1 (m8 + (1 : Int32)) σ _ hw) 1 rfl (xRecv C0 hO (j := f1) hs1.1 rfl) gX7_claimMayBe_X3_read rfl rfl rfl hdX3_read ⟨Nat.le_of_ble_eq_true rfl, Nat.le_of_ble_eq_true rfl⟩ hl.1 rfl (Nat.le_of_ble_eq_true rfl) dX7_claimMayBe_155 ⟨Nat.le_of_ble_eq_true rfl, Nat.le_of_ble_eq_true rfl⟩) (fun r49 σ' H locs hw hO => ?_)
        obtain ⟨hσ, hw⟩ := hw
        subst hσ
        refine lv_iload hx hb dX7_claimMayBe_158 (lv_at hl 7 rfl) ?_
        refine lv_icmp_ne (tgt := 167) hx hb dX7_claimMayBe_160 (by decide) (fun c50 => ?_) (fun c50 => ?_)
        · replace hw := hw.2 c50
          refine lv_iconst (v := 0) hx hb dX7_claimMayBe_167 (by decide) ?_
          refine lv_istore (lv' := [(10, .int (0 : Int32)), (9, .int (1 : Int32)), (0, .ref (xa g 0)), (1, .ref (xa g f1)), (2, .int f2), (3, .int f3), (4, .int f4), (5, .int f5), (6, .int f6), (7, .int f7), (8, .int m8)]) hx hb dX7_claimMayBe_168 hl (by decide) rfl (fun ls hl => ?_)
          refine lv_aload_n hx hb dX7_claimMayBe_170 rfl (lv_at hl 3 rfl) ?_
          refine lv_iload hx hb dX7_claimMayBe_171 (lv_at hl 10 rfl) ?_
          refine lv_iconst (v := 2) hx hb dX7_claimMayBe_173 (by decide) ?_
          refine lv_iadd hx hb dX7_claimMayBe_174 ?_
          refine x_calli C0 hO (x_runV (As := [.int (m8 + (2 : Int32))]) (rest := []) C0 hO (kX3_read l g _ f1 hs1 (m8 + (2 : Int32)) σ _ hw) 1 rfl (xRecv C0 hO (j := f1) hs1.1 rfl) gX7_claimMayBe_X3_read rfl rfl rfl hdX3_read ⟨Nat.le_of_ble_eq_true rfl, Nat.le_of_ble_eq_true rfl⟩ hl.1 rfl (Nat.le_of_ble_eq_true rfl) dX7_claimMayBe_175 ⟨Nat.le_of_ble_eq_true rfl, Nat.le_of_ble_eq_true rfl⟩) (fun r51 σ' H locs hw hO => ?_)
          obtain ⟨hσ, hw⟩ := hw
          subst hσ
          refine lv_iload hx hb dX7_claimMayBe_178 (lv_at hl 9 rfl) ?_
          refine lv_icmp_ne (tgt := 192) hx hb dX7_claimMayBe_180 (by decide) (fun c52 => ?_) (fun c52 => ?_)
          · replace hw := hw.2 c52
            obtain ⟨x53, ex53⟩ : ∃ z : Int32, z = m8 + 3 := ⟨_, rfl⟩
            replace hw := hw x53 ex53
            refine lv_iinc (v := x53) (lv' := [(8, .int x53), (10, .int (0 : Int32)), (9, .int (1 : Int32)), (0, .ref (xa g 0)), (1, .ref (xa g f1)), (2, .int f2), (3, .int f3), (4, .int f4), (5, .int f5), (6, .int f6), (7, .int f7)]) hx hb dX7_claimMayBe_192 hl (k := 10) rfl (by rw [ex53]; rfl) (by decide) rfl (fun ls hl => ?_)
            refine lv_goto (tgt := 125) hx hb dX7_claimMayBe_195 (by decide) ?_
            exact ih _ _ _ _ hw hO (lv_sub hl [3, 4, 5, 6, 7, 8, 9, 10, 0] rfl)
          · replace hw := hw.1 c52
            refine lv_iload hx hb dX7_claimMayBe_183 (lv_at hl 1 rfl) ?_
            refine lv_iload hx hb dX7_claimMayBe_185 (lv_at hl 0 rfl) ?_
            refine lv_icmp_eq (tgt := 192) hx hb dX7_claimMayBe_187 (by decide) (fun c54 => ?_) (fun c54 => ?_)
            · replace hw := hw.1 c54
              obtain ⟨x55, ex55⟩ : ∃ z : Int32, z = m8 + 3 := ⟨_, rfl⟩
              replace hw := hw x55 ex55
              refine lv_iinc (v := x55) (lv' := [(8, .int x55), (10, .int (0 : Int32)), (9, .int (1 : Int32)), (0, .ref (xa g 0)), (1, .ref (xa g f1)), (2, .int f2), (3, .int f3), (4, .int f4), (5, .int f5), (6, .int f6), (7, .int f7)]) hx hb dX7_claimMayBe_192 hl (k := 10) rfl (by rw [ex55]; rfl) (by decide) rfl (fun ls hl => ?_)
              refine lv_goto (tgt := 125) hx hb dX7_claimMayBe_195 (by decide) ?_
              exact ih _ _ _ _ hw hO (lv_sub hl [3, 4, 5, 6, 7, 8, 9, 10, 0] rfl)
            · replace hw := hw.2 c54
              refine lv_iconst (v := 0) hx hb dX7_claimMayBe_190 (by decide) ?_
              exact x_zret C0 hO rfl ⟨rfl, hw⟩ dX7_claimMayBe_191
        · replace hw := hw.1 c50
          refine lv_iconst (v := 1) hx hb dX7_claimMayBe_163 (by decide) ?_
          refine lv_goto (tgt := 168) hx hb dX7_claimMayBe_164 (by decide) ?_
          refine lv_istore (lv' := [(10, .int (1 : Int32)), (9, .int (1 : Int32)), (0, .ref (xa g 0)), (1, .ref (xa g f1)), (2, .int f2), (3, .int f3), (4, .int f4), (5, .int f5), (6, .int f6), (7, .int f7), (8, .int m8)]) hx hb dX7_claimMayBe_168 hl (by decide) rfl (fun ls hl => ?_)
          refine lv_aload_n hx hb dX7_claimMayBe_170 rfl (lv_at hl 3 rfl) ?_
          refine lv_iload hx hb dX7_claimMayBe_171 (lv_at hl 10 rfl) ?_
          refine lv_iconst (v := 2) hx hb dX7_claimMayBe_173 (by decide) ?_
          refine lv_iadd hx hb dX7_claimMayBe_174 ?_
          refine x_calli C0 hO (x_runV (As := [.int (m8 + (2 : Int32))]) (rest := []) C0 hO (kX3_read l g _ f1 hs1 (m8 + (2 : Int32)) σ _ hw) 1 rfl (xRecv C0 hO (j := f1) hs1.1 rfl) gX7_claimMayBe_X3_read rfl rfl rfl hdX3_read ⟨Nat.le_of_ble_eq_true rfl, Nat.le_of_ble_eq_true rfl⟩ hl.1 rfl (Nat.le_of_ble_eq_true rfl) dX7_claimMayBe_175 ⟨Nat.le_of_ble_eq_true rfl, Nat.le_of_ble_eq_true rfl⟩) (fun r56 σ' H locs hw hO => ?_)
          obtain ⟨hσ, hw⟩ := hw
          subst hσ
          refine lv_iload hx hb dX7_claimMayBe_178 (lv_at hl 9 rfl) ?_
          refine lv_icmp_ne (tgt := 192) hx hb dX7_claimMayBe_180 (by decide) (fun c57 => ?_) (fun c57 => ?_)
          · replace hw := hw.2 c57
            obtain ⟨x58, ex58⟩ : ∃ z : Int32, z = m8 + 3 := ⟨_, rfl⟩
            replace hw := hw x58 ex58
            refine lv_iinc (v := x58) (lv' := [(8, .int x58), (10, .int (1 : Int32)), (9, .int (1 : Int32)), (0, .ref (xa g 0)), (1, .ref (xa g f1)), (2, .int f2), (3, .int f3), (4, .int f4), (5, .int f5), (6, .int f6), (7, .int f7)]) hx hb dX7_claimMayBe_192 hl (k := 10) rfl (by rw [ex58]; rfl) (by decide) rfl (fun ls hl => ?_)
            refine lv_goto (tgt := 125) hx hb dX7_claimMayBe_195 (by decide) ?_
            exact ih _ _ _ _ hw hO (lv_sub hl [3, 4, 5, 6, 7, 8, 9, 10, 0] rfl)
          · replace hw := hw.1 c57
            refine lv_iload hx hb dX7_claimMayBe_183 (lv_at hl 1 rfl) ?_
            refine lv_iload hx hb dX7_claimMayBe_185 (lv_at hl 0 rfl) ?_
            refine lv_icmp_eq (tgt := 192) hx hb dX7_claimMayBe_187 (by decide) (fun c59 => ?_) (fun c59 => ?_)
            · replace hw := hw.1 c59
              obtain ⟨x60, ex60⟩ : ∃ z : Int32, z = m8 + 3 := ⟨_, rfl⟩
              replace hw := hw x60 ex60
              refine lv_iinc (v := x60) (lv' := [(8, .int x60), (10, .int (1 : Int32)), (9, .int (1 : Int32)), (0, .ref (xa g 0)), (1, .ref (xa g f1)), (2, .int f2), (3, .int f3), (4, .int f4), (5, .int f5), (6, .int f6), (7, .int f7)]) hx hb dX7_claimMayBe_192 hl (k := 10) rfl (by rw [ex60]; rfl) (by decide) rfl (fun ls hl => ?_)
              refine lv_goto (tgt := 125) hx hb dX7_claimMayBe_195 (by decide) ?_
              exact ih _ _ _ _ hw hO (lv_sub hl [3, 4, 5, 6, 7, 8, 9, 10, 0] rfl)
            · replace hw := hw.2 c59
              refine lv_iconst (v := 0) hx hb dX7_claimMayBe_190 (by decide) ?_
              exact x_zret C0 hO rfl ⟨rfl, hw⟩ dX7_claimMayBe_191
set_option maxHeartbeats 4000000 in
set_option maxRecDepth 100000 in
theorem kX7_claimMayBe (l : Launch) (g : XG) (sz : Nat) (q1 : Nat) (a2 : Int32) (a3 : Int32) (hq1 : isSh q1) (σ : XS) (post : Int32 → Prop) (hw : PX7_claimMayBe q1 a2 a3 σ post) : xMi l yX7_claimMayBe wsX7_claimMayBe rmX7_claimMayBe 0 0 g sz [.ref (xa g 0), .ref (xa g q1), .int a2, .int a3] σ (fun r u => σ = u ∧ post r) := by
  unfold PX7_claimMayBe at hw
  refine x_head (Qc := fun A => va_Qi (fun r u => σ = u ∧ post r) (xAt g A) A) (cc := cX7_claimMayBe) (maxL := 11) (ret := (some .boolean)) (by decide) rfl ?_
  intro p e s m below meth c A C0 hnm hO
  refine x_entry (Nat.le_of_ble_eq_true rfl) (fun ls hl => ?_)
  have hl : lv_has ls 11 [(0, .ref (xa g 0)), (1, .ref (xa g q1)), (2, .int a2), (3, .int a3)] := hl
  have hx := C0.1
  have hb := C0.2.1
  have hown := C0.2.2.2.2.2.1
  have hts := C0.2.2.2.2.2.2.1
  refine lv_iload_n hx hb dX7_claimMayBe_0 rfl (lv_at hl 2 rfl) ?_
  refine lv_iconst (v := 3) hx hb dX7_claimMayBe_1 (by decide) ?_
  refine lv_iload_n hx hb dX7_claimMayBe_2 rfl (lv_at hl 3 rfl) ?_
  refine lv_imul hx hb dX7_claimMayBe_3 ?_
  refine lv_iadd hx hb dX7_claimMayBe_4 ?_
  refine lv_topi (fun x1 ex1 => ?_)
  replace hw := hw x1 ex1
  refine lv_istore (lv' := [(4, .int x1), (0, .ref (xa g 0)), (1, .ref (xa g q1)), (2, .int a2), (3, .int a3)]) hx hb dX7_claimMayBe_5 hl (by decide) rfl (fun ls hl => ?_)
  refine lv_aload_n hx hb dX7_claimMayBe_7 rfl (lv_at hl 2 rfl) ?_
  refine lv_iload hx hb dX7_claimMayBe_8 (lv_at hl 0 rfl) ?_
  refine x_calli C0 hO (x_runV (As := [.int x1]) (rest := []) C0 hO (kX3_read l g _ q1 hq1 x1 σ _ hw) 1 rfl (xRecv C0 hO (j := q1) hq1.1 rfl) gX7_claimMayBe_X3_read rfl rfl rfl hdX3_read ⟨Nat.le_of_ble_eq_true rfl, Nat.le_of_ble_eq_true rfl⟩ hl.1 rfl (Nat.le_of_ble_eq_true rfl) dX7_claimMayBe_10 ⟨Nat.le_of_ble_eq_true rfl, Nat.le_of_ble_eq_true rfl⟩) (fun r2 σ' H locs hw hO => ?_)
  obtain ⟨hσ, hw⟩ := hw
  subst hσ
  refine lv_istore (lv' := [(5, .int r2), (4, .int x1), (0, .ref (xa g 0)), (1, .ref (xa g q1)), (2, .int a2), (3, .int a3)]) hx hb dX7_claimMayBe_13 hl (by decide) rfl (fun ls hl => ?_)
  refine lv_aload_n hx hb dX7_claimMayBe_15 rfl (lv_at hl 3 rfl) ?_
  refine lv_iload hx hb dX7_claimMayBe_16 (lv_at hl 1 rfl) ?_
  refine lv_iconst (v := 1) hx hb dX7_claimMayBe_18 (by decide) ?_
  refine lv_iadd hx hb dX7_claimMayBe_19 ?_
  refine x_calli C0 hO (x_runV (As := [.int (x1 + (1 : Int32))]) (rest := []) C0 hO (kX3_read l g _ q1 hq1 (x1 + (1 : Int32)) σ _ hw) 1 rfl (xRecv C0 hO (j := q1) hq1.1 rfl) gX7_claimMayBe_X3_read rfl rfl rfl hdX3_read ⟨Nat.le_of_ble_eq_true rfl, Nat.le_of_ble_eq_true rfl⟩ hl.1 rfl (Nat.le_of_ble_eq_true rfl) dX7_claimMayBe_20 ⟨Nat.le_of_ble_eq_true rfl, Nat.le_of_ble_eq_true rfl⟩) (fun r3 σ' H locs hw hO => ?_)
  obtain ⟨hσ, hw⟩ := hw
  subst hσ
  refine lv_istore (lv' := [(6, .int r3), (5, .int r2), (4, .int x1), (0, .ref (xa g 0)), (1, .ref (xa g q1)), (2, .int a2), (3, .int a3)]) hx hb dX7_claimMayBe_23 hl (by decide) rfl (fun ls hl => ?_)
  refine lv_aload_n hx hb dX7_claimMayBe_25 rfl (lv_at hl 4 rfl) ?_
  refine lv_iload hx hb dX7_claimMayBe_26 (lv_at hl 2 rfl) ?_
  refine lv_iconst (v := 2) hx hb dX7_claimMayBe_28 (by decide) ?_
  refine lv_iadd hx hb dX7_claimMayBe_29 ?_
  refine x_calli C0 hO (x_runV (As := [.int (x1 + (2 : Int32))]) (rest := []) C0 hO (kX3_read l g _ q1 hq1 (x1 + (2 : Int32)) σ _ hw) 1 rfl (xRecv C0 hO (j := q1) hq1.1 rfl) gX7_claimMayBe_X3_read rfl rfl rfl hdX3_read ⟨Nat.le_of_ble_eq_true rfl, Nat.le_of_ble_eq_true rfl⟩ hl.1 rfl (Nat.le_of_ble_eq_true rfl) dX7_claimMayBe_30 ⟨Nat.le_of_ble_eq_true rfl, Nat.le_of_ble_eq_true rfl⟩) (fun r4 σ' H locs hw hO => ?_)
  obtain ⟨hσ, hw⟩ := hw
  subst hσ
  refine lv_istore (lv' := [(7, .int r4), (6, .int r3), (5, .int r2), (4, .int x1), (0, .ref (xa g 0)), (1, .ref (xa g q1)), (2, .int a2), (3, .int a3)]) hx hb dX7_claimMayBe_33 hl (by decide) rfl (fun ls hl => ?_)
  refine lv_iconst (v := 0) hx hb dX7_claimMayBe_35 (by decide) ?_
  refine lv_istore (lv' := [(8, .int (0 : Int32)), (7, .int r4), (6, .int r3), (5, .int r2), (4, .int x1), (0, .ref (xa g 0)), (1, .ref (xa g q1)), (2, .int a2), (3, .int a3)]) hx hb dX7_claimMayBe_36 hl (by decide) rfl (fun ls hl => ?_)
  refine lX7_claimMayBe_38 C0 σ q1 a2 a3 x1 r2 r3 r4 hq1 post _ (fun x33 H locs ls hw hO hl => ?_) 1000 _ _ _ _ hw hO (lv_sub hl [5, 6, 7, 8, 4, 3, 2, 1, 0] rfl)
  refine lv_iload_n hx hb dX7_claimMayBe_122 rfl (lv_at hl 2 rfl) ?_
  refine lv_istore (lv' := [(8, .int a2), (0, .ref (xa g 0)), (1, .ref (xa g q1)), (2, .int a2), (3, .int a3), (4, .int x1), (5, .int r2), (6, .int r3), (7, .int r4)]) hx hb dX7_claimMayBe_123 hl (by decide) rfl (fun ls hl => ?_)
  refine lX7_claimMayBe_125 C0 σ q1 a2 a3 x1 r2 r3 r4 hq1 post _ (fun x61 H locs ls hw hO hl => ?_) 1000 _ _ _ _ hw hO (lv_sub hl [1, 2, 3, 4, 5, 6, 7, 8, 0] rfl)
  refine lv_iconst (v := 1) hx hb dX7_claimMayBe_198 (by decide) ?_
  exact x_zret C0 hO rfl ⟨rfl, hw⟩ dX7_claimMayBe_199
