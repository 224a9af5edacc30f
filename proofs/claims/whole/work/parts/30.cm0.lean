/-! generated: contracts -/
theorem iX8_meanNothing_8 : ∀ w ∈ wsX80, w ∈ wsX8_meanNothing := fun w h => List.mem_cons_of_mem _ (List.mem_append_right _ h)
theorem hdX8_meanNothing : yX8_meanNothing.cls = RX8 ∧ yX8_meanNothing.cls ≠ "java/lang/invoke/MethodHandle" ∧ yX8_meanNothing.cls ≠ "java/lang/invoke/VarHandle" ∧ (parseMethodDescriptor yX8_meanNothing.desc).map (fun d => d.parameters.length) = some 0 := by decide +kernel
set_option maxHeartbeats 4000000 in
set_option maxRecDepth 100000 in
theorem kX8_meanNothing (l : Launch) (g : XG) (sz : Nat) (σ : XS) (post : XS → Prop) (hw : PX8_meanNothing  σ post) : xMv l yX8_meanNothing wsX8_meanNothing rmX8_meanNothing 0 0 g sz [.ref (xa g 24)] σ post := by
  unfold PX8_meanNothing at hw
  refine x_head (Qc := fun A => va_Qv post (xAt g A) A) (cc := cX8_meanNothing) (maxL := 1) (ret := none) (by decide) rfl ?_
  intro p e s m below meth c A C0 hnm hO
  refine x_entry (Nat.le_of_ble_eq_true rfl) (fun ls hl => ?_)
  have hl : lv_has ls 1 [(0, .ref (xa g 24))] := hl
  have hx := C0.1
  have hb := C0.2.1
  have hown := C0.2.2.2.2.2.1
  have hts := C0.2.2.2.2.2.2.1
  refine lv_aload_n hx hb dX8_meanNothing_0 rfl (lv_at hl 0 rfl) ?_
  refine lv_bipush (v := -9) hx hb dX8_meanNothing_1 (by decide) ?_
  refine x_puti C0 hO 24 21 tyX8 tyX8_ok nmX8 rfl rfl (by decide) rfl iX8_meanNothing_8 rfl rfl rfl (List.mem_of_getElem? (i := 1) rfl) dX8_meanNothing_3 (fun σ1 H locs eσ1 hO => ?_)
  replace hw := hw σ1 eσ1
  refine lv_aload_n hx hb dX8_meanNothing_6 rfl (lv_at hl 0 rfl) ?_
  refine lv_bipush (v := -9) hx hb dX8_meanNothing_7 (by decide) ?_
  refine x_puti C0 hO 24 22 tyX8 tyX8_ok nmX8 rfl rfl (by decide) rfl iX8_meanNothing_8 rfl rfl rfl (List.mem_of_getElem? (i := 2) rfl) dX8_meanNothing_9 (fun σ2 H locs eσ2 hO => ?_)
  replace hw := hw σ2 eσ2
  refine lv_aload_n hx hb dX8_meanNothing_12 rfl (lv_at hl 0 rfl) ?_
  refine lv_bipush (v := -9) hx hb dX8_meanNothing_13 (by decide) ?_
  refine x_puti C0 hO 24 25 tyX8 tyX8_ok nmX8 rfl rfl (by decide) rfl iX8_meanNothing_8 rfl rfl rfl (List.mem_of_getElem? (i := 3) rfl) dX8_meanNothing_15 (fun σ3 H locs eσ3 hO => ?_)
  replace hw := hw σ3 eσ3
  exact x_vret C0 hO hw dX8_meanNothing_18
theorem hdX8_in : yX8_in.cls = RX8 ∧ yX8_in.cls ≠ "java/lang/invoke/MethodHandle" ∧ yX8_in.cls ≠ "java/lang/invoke/VarHandle" ∧ (parseMethodDescriptor yX8_in.desc).map (fun d => d.parameters.length) = some 3 := by decide +kernel
set_option maxHeartbeats 4000000 in
set_option maxRecDepth 100000 in
theorem kX8_in (l : Launch) (g : XG) (sz : Nat) (a0 : Int64) (a2 : Int64) (a4 : Int64) (σ : XS) (post : Int32 → Prop) (hw : PX8_in a0 a2 a4 σ post) : xMi l yX8_in wsX8_in rmX8_in 0 0 g sz [.long a0, .long a2, .long a4] σ (fun r u => σ = u ∧ post r) := by
  unfold PX8_in at hw
  refine x_head (Qc := fun A => va_Qi (fun r u => σ = u ∧ post r) (xAt g A) A) (cc := cX8_in) (maxL := 6) (ret := (some .boolean)) (by decide) rfl ?_
  intro p e s m below meth c A C0 hnm hO
  refine x_entry (Nat.le_of_ble_eq_true rfl) (fun ls hl => ?_)
  have hl : lv_has ls 6 [(0, .long a0), (2, .long a2), (4, .long a4)] := hl
  have hx := C0.1
  have hb := C0.2.1
  have hown := C0.2.2.2.2.2.1
  have hts := C0.2.2.2.2.2.2.1
  refine lv_lload_n hx hb dX8_in_0 rfl (lv_at hl 0 rfl) ?_
  refine lv_lload_n hx hb dX8_in_1 rfl (lv_at hl 1 rfl) ?_
  refine W.lcmp hx hb dX8_in_2 ?_
  refine lv_if_lt (tgt := 17) hx hb dX8_in_3 (by decide) (fun c1 => ?_) (fun c1 => ?_)
  · replace hw := hw.1 c1
    refine lv_iconst (v := 0) hx hb dX8_in_17 (by decide) ?_
    exact x_zret C0 hO rfl ⟨rfl, hw⟩ dX8_in_18
  · replace hw := hw.2 c1
    refine lv_lload_n hx hb dX8_in_6 rfl (lv_at hl 0 rfl) ?_
    refine lv_lload hx hb dX8_in_7 (lv_at hl 2 rfl) ?_
    refine W.lcmp hx hb dX8_in_9 ?_
    refine lv_if_gt (tgt := 17) hx hb dX8_in_10 (by decide) (fun c2 => ?_) (fun c2 => ?_)
    · replace hw := hw.1 c2
      refine lv_iconst (v := 0) hx hb dX8_in_17 (by decide) ?_
      exact x_zret C0 hO rfl ⟨rfl, hw⟩ dX8_in_18
    · replace hw := hw.2 c2
      refine lv_iconst (v := 1) hx hb dX8_in_13 (by decide) ?_
      refine lv_goto (tgt := 18) hx hb dX8_in_14 (by decide) ?_
      exact x_zret C0 hO rfl ⟨rfl, hw⟩ dX8_in_18
theorem hdX8_lost : yX8_lost.cls = RX8 ∧ yX8_lost.cls ≠ "java/lang/invoke/MethodHandle" ∧ yX8_lost.cls ≠ "java/lang/invoke/VarHandle" ∧ (parseMethodDescriptor yX8_lost.desc).map (fun d => d.parameters.length) = some 0 := by decide +kernel
set_option maxHeartbeats 4000000 in
set_option maxRecDepth 100000 in
theorem kX8_lost (l : Launch) (g : XG) (sz : Nat) (σ : XS) (post : Int64 → Prop) (hw : PX8_lost  σ post) : xMl l yX8_lost wsX8_lost rmX8_lost 0 0 g sz [] σ (fun r u => σ = u ∧ post r) := by
  unfold PX8_lost at hw
  refine x_head (Qc := fun A => va_Ql (fun r u => σ = u ∧ post r) (xAt g A) A) (cc := cX8_lost) (maxL := 0) (ret := (some .long)) (by decide) rfl ?_
  intro p e s m below meth c A C0 hnm hO
  refine x_entry (Nat.le_of_ble_eq_true rfl) (fun ls hl => ?_)
  have hl : lv_has ls 0 [] := hl
  have hx := C0.1
  have hb := C0.2.1
  have hown := C0.2.2.2.2.2.1
  have hts := C0.2.2.2.2.2.2.1
  refine lv_ldc2 (v := -9223372036854775808) hx hb hown (hts _ (List.mem_of_getElem? (i := 1) rfl)) dX8_lost_0 ?_
  exact x_lret C0 hO ⟨rfl, hw⟩ dX8_lost_3
theorem hdX8_shareOf : yX8_shareOf.cls = RX8 ∧ yX8_shareOf.cls ≠ "java/lang/invoke/MethodHandle" ∧ yX8_shareOf.cls ≠ "java/lang/invoke/VarHandle" ∧ (parseMethodDescriptor yX8_shareOf.desc).map (fun d => d.parameters.length) = some 3 := by decide +kernel
set_option maxHeartbeats 4000000 in
set_option maxRecDepth 100000 in
theorem lX8_shareOf_6 {p : Program} {l : Launch} {e : Env} {s : State} {m : MethodId} {args : Array Value} {below : List Frame} {meth : Method} {c : Code} {g : XG} {A : Nat → Prop} (C0 : xC g A wsX8_shareOf RX8 cX8_shareOf 11 (some .long) p s m args meth c) (σ : XS) (f0 : Int64) (f2 : Int64) (f4 : Int32) (post : Int64 → Prop) (kx : Int64 → Int64 → Prop)
    (hkx : ∀ (m5 : Int64) (m7 : Int64) (H : Heap) (locs : List Loc) (ls : Array Slot), kx m5 m7 → xO g A s σ H locs → lv_has ls 11 [(0, .long f0), (2, .long f2), (4, .int f4), (5, .long m5), (7, .long m7)] → W p l e (headSpec wsX8_shareOf rmX8_shareOf).room s m args below meth c H locs 0 0 (MQ below (va_Ql (fun r u => σ = u ∧ post r) (xAt g A) A) args s 0 0 A) (F0 m 31 ls [])) :
    ∀ (n : Nat) (m5 : Int64) (m7 : Int64) (H : Heap) (locs : List Loc) (ls : Array Slot), LX8_shareOf_6 σ f0 f2 f4 post kx n m5 m7 → xO g A s σ H locs → lv_has ls 11 [(0, .long f0), (2, .long f2), (4, .int f4), (5, .long m5), (7, .long m7)] → W p l e (headSpec wsX8_shareOf rmX8_shareOf).room s m args below meth c H locs 0 0 (MQ below (va_Ql (fun r u => σ = u ∧ post r) (xAt g A) A) args s 0 0 A) (F0 m 6 ls []) := by
  have hx := C0.1
  have hb := C0.2.1
  have hown := C0.2.2.2.2.2.1
  have hts := C0.2.2.2.2.2.2.1
  intro n
  induction n with
  | zero =>
    intro m5 m7 H locs ls hw
    exact hw.elim
  | succ n ih =>
    intro m5 m7 H locs ls hw hO hl
    rw [LX8_shareOf_6] at hw
    refine lv_lload hx hb dX8_shareOf_6 (lv_at hl 4 rfl) ?_
    refine lv_lconst (v := 0) hx hb dX8_shareOf_8 (by decide) ?_
    refine W.lcmp hx hb dX8_shareOf_9 ?_
    refine lv_if_eq (tgt := 31) hx hb dX8_shareOf_10 (by decide) (fun c1 => ?_) (fun c1 => ?_)
    · replace hw := hw.1 c1
      exact hkx _ _ _ _ _ hw hO (lv_sub hl [0, 1, 2, 3, 4] rfl)
    · replace hw := hw.2 c1
      refine lv_lload hx hb dX8_shareOf_13 (lv_at hl 3 rfl) ?_
      refine lv_lload hx hb dX8_shareOf_15 (lv_at hl 4 rfl) ?_
      refine lv_lrem hx hb dX8_shareOf_17 hw.1 ?_
      replace hw := hw.2
      refine lv_topl (fun x2 ex2 => ?_)
      replace hw := hw x2 ex2
      refine lv_lstore (lv' := [(9, .long x2), (0, .long f0), (2, .long f2), (4, .int f4), (5, .long m5), (7, .long m7)]) hx hb dX8_shareOf_18 hl (by decide) rfl (fun ls hl => ?_)
      refine lv_lload hx hb dX8_shareOf_20 (lv_at hl 5 rfl) ?_
      refine lv_lstore (lv' := [(5, .long m7), (9, .long x2), (0, .long f0), (2, .long f2), (4, .int f4), (7, .long m7)]) hx hb dX8_shareOf_22 hl (by decide) rfl (fun ls hl => ?_)
      refine lv_lload hx hb dX8_shareOf_24 (lv_at hl 1 rfl) ?_
      refine lv_lstore (lv' := [(7, .long x2), (5, .long m7), (9, .long x2), (0, .long f0), (2, .long f2), (4, .int f4)]) hx hb dX8_shareOf_26 hl (by decide) rfl (fun ls hl => ?_)
      refine lv_goto (tgt := 6) hx hb dX8_shareOf_28 (by decide) ?_
      exact ih _ _ _ _ _ hw hO (lv_sub hl [3, 4, 5, 1, 0] rfl)
set_option maxHeartbeats 4000000 in
set_option maxRecDepth 100000 in
theorem kX8_shareOf (l : Launch) (g : XG) (sz : Nat) (a0 : Int64) (a2 : Int64) (a4 : Int32) (σ : XS) (post : Int64 → Prop) (hw : PX8_shareOf a0 a2 a4 σ post) : xMl l yX8_shareOf wsX8_shareOf rmX8_shareOf 0 0 g sz [.long a0, .long a2, .int a4] σ (fun r u => σ = u ∧ post r) := by
  unfold PX8_shareOf at hw
  refine x_head (Qc := fun A => va_Ql (fun r u => σ = u ∧ post r) (xAt g A) A) (cc := cX8_shareOf) (maxL := 11) (ret := (some .long)) (by decide) rfl ?_
  intro p e s m below meth c A C0 hnm hO
  refine x_entry (Nat.le_of_ble_eq_true rfl) (fun ls hl => ?_)
  have hl : lv_has ls 11 [(0, .long a0), (2, .long a2), (4, .int a4)] := hl
  have hx := C0.1
  have hb := C0.2.1
  have hown := C0.2.2.2.2.2.1
  have hts := C0.2.2.2.2.2.2.1
  refine lv_lload_n hx hb dX8_shareOf_0 rfl (lv_at hl 0 rfl) ?_
  refine lv_lstore (lv' := [(5, .long a0), (0, .long a0), (2, .long a2), (4, .int a4)]) hx hb dX8_shareOf_1 hl (by decide) rfl (fun ls hl => ?_)
  refine lv_lload_n hx hb dX8_shareOf_3 rfl (lv_at hl 2 rfl) ?_
  refine lv_lstore (lv' := [(7, .long a2), (5, .long a0), (0, .long a0), (2, .long a2), (4, .int a4)]) hx hb dX8_shareOf_4 hl (by decide) rfl (fun ls hl => ?_)
  refine lX8_shareOf_6 C0 σ a0 a2 a4 post _ (fun x3 x4 H locs ls hw hO hl => ?_) 1000 _ _ _ _ _ hw hO (lv_sub hl [2, 3, 4, 1, 0] rfl)
  refine lv_iload hx hb dX8_shareOf_31 (lv_at hl 2 rfl) ?_
  refine lv_if_ne (tgt := 40) hx hb dX8_shareOf_33 (by decide) (fun c5 => ?_) (fun c5 => ?_)
  · replace hw := hw.2 c5
    refine lv_lload_n hx hb dX8_shareOf_40 rfl (lv_at hl 1 rfl) ?_
    refine lv_lload hx hb dX8_shareOf_41 (lv_at hl 3 rfl) ?_
    refine lv_ldiv hx hb dX8_shareOf_43 hw.1 ?_
    replace hw := hw.2
    exact x_lret C0 hO ⟨rfl, hw⟩ dX8_shareOf_44
  · replace hw := hw.1 c5
    refine lv_lload_n hx hb dX8_shareOf_36 rfl (lv_at hl 0 rfl) ?_
    refine lv_goto (tgt := 41) hx hb dX8_shareOf_37 (by decide) ?_
    refine lv_lload hx hb dX8_shareOf_41 (lv_at hl 3 rfl) ?_
    refine lv_ldiv hx hb dX8_shareOf_43 hw.1 ?_
    replace hw := hw.2
    exact x_lret C0 hO ⟨rfl, hw⟩ dX8_shareOf_44
theorem iX8_refused_8 : ∀ w ∈ wsX80, w ∈ wsX8_refused := fun w h => List.mem_cons_of_mem _ (List.mem_append_right _ h)
theorem hdX8_refused : yX8_refused.cls = RX8 ∧ yX8_refused.cls ≠ "java/lang/invoke/MethodHandle" ∧ yX8_refused.cls ≠ "java/lang/invoke/VarHandle" ∧ (parseMethodDescriptor yX8_refused.desc).map (fun d => d.parameters.length) = some 1 := by decide +kernel
set_option maxHeartbeats 4000000 in
set_option maxRecDepth 100000 in
theorem kX8_refused (l : Launch) (g : XG) (sz : Nat) (a1 : Int32) (σ : XS) (post : Int32 → XS → Prop) (hw : PX8_refused a1 σ post) : xMi l yX8_refused wsX8_refused rmX8_refused 0 0 g sz [.ref (xa g 24), .int a1] σ post := by
  unfold PX8_refused at hw
  refine x_head (Qc := fun A => va_Qi post (xAt g A) A) (cc := cX8_refused) (maxL := 2) (ret := (some .int)) (by decide) rfl ?_
  intro p e s m below meth c A C0 hnm hO
  refine x_entry (Nat.le_of_ble_eq_true rfl) (fun ls hl => ?_)
  have hl : lv_has ls 2 [(0, .ref (xa g 24)), (1, .int a1)] := hl
  have hx := C0.1
  have hb := C0.2.1
  have hown := C0.2.2.2.2.2.1
  have hts := C0.2.2.2.2.2.2.1
  refine lv_aload_n hx hb dX8_refused_0 rfl (lv_at hl 0 rfl) ?_
  refine lv_iconst (v := 0) hx hb dX8_refused_1 (by decide) ?_
  refine x_puti C0 hO 24 0 tyX8 tyX8_ok nmX8 rfl rfl (by decide) rfl iX8_refused_8 rfl rfl rfl (List.mem_of_getElem? (i := 1) rfl) dX8_refused_2 (fun σ1 H locs eσ1 hO => ?_)
  replace hw := hw σ1 eσ1
  refine lv_iload_n hx hb dX8_refused_5 rfl (lv_at hl 1 rfl) ?_
  exact x_iret C0 hO hw dX8_refused_6
theorem iX8_failed_8 : ∀ w ∈ wsX80, w ∈ wsX8_failed := fun w h => List.mem_cons_of_mem _ (List.mem_append_right _ h)
theorem hdX8_failed : yX8_failed.cls = RX8 ∧ yX8_failed.cls ≠ "java/lang/invoke/MethodHandle" ∧ yX8_failed.cls ≠ "java/lang/invoke/VarHandle" ∧ (parseMethodDescriptor yX8_failed.desc).map (fun d => d.parameters.length) = some 1 := by decide +kernel
set_option maxHeartbeats 4000000 in
set_option maxRecDepth 100000 in
theorem kX8_failed (l : Launch) (g : XG) (sz : Nat) (a1 : Int32) (σ : XS) (post : Int32 → XS → Prop) (hw : PX8_failed a1 σ post) : xMi l yX8_failed wsX8_failed rmX8_failed 0 0 g sz [.ref (xa g 24), .int a1] σ post := by
  unfold PX8_failed at hw
  refine x_head (Qc := fun A => va_Qi post (xAt g A) A) (cc := cX8_failed) (maxL := 2) (ret := (some .int)) (by decide) rfl ?_
  intro p e s m below meth c A C0 hnm hO
  refine x_entry (Nat.le_of_ble_eq_true rfl) (fun ls hl => ?_)
  have hl : lv_has ls 2 [(0, .ref (xa g 24)), (1, .int a1)] := hl
  have hx := C0.1
  have hb := C0.2.1
  have hown := C0.2.2.2.2.2.1
  have hts := C0.2.2.2.2.2.2.1
  refine lv_aload_n hx hb dX8_failed_0 rfl (lv_at hl 0 rfl) ?_
  refine lv_iload_n hx hb dX8_failed_1 rfl (lv_at hl 1 rfl) ?_
  refine x_puti C0 hO 24 0 tyX8 tyX8_ok nmX8 rfl rfl (by decide) rfl iX8_failed_8 rfl rfl rfl (List.mem_of_getElem? (i := 1) rfl) dX8_failed_2 (fun σ1 H locs eσ1 hO => ?_)
  replace hw := hw σ1 eσ1
  refine lv_bipush (v := -10) hx hb dX8_failed_5 (by decide) ?_
  refine lv_iload_n hx hb dX8_failed_7 rfl (lv_at hl 1 rfl) ?_
  refine lv_isub hx hb dX8_failed_8 ?_
  exact x_iret C0 hO hw dX8_failed_9
theorem iX8_failedLong_8 : ∀ w ∈ wsX80, w ∈ wsX8_failedLong := fun w h => List.mem_cons_of_mem _ (List.mem_append_right _ h)
theorem hdX8_failedLong : yX8_failedLong.cls = RX8 ∧ yX8_failedLong.cls ≠ "java/lang/invoke/MethodHandle" ∧ yX8_failedLong.cls ≠ "java/lang/invoke/VarHandle" ∧ (parseMethodDescriptor yX8_failedLong.desc).map (fun d => d.parameters.length) = some 1 := by decide +kernel
set_option maxHeartbeats 4000000 in
set_option maxRecDepth 100000 in
theorem kX8_failedLong (l : Launch) (g : XG) (sz : Nat) (a1 : Int32) (σ : XS) (post : Int64 → XS → Prop) (hw : PX8_failedLong a1 σ post) : xMl l yX8_failedLong wsX8_failedLong rmX8_failedLong 0 0 g sz [.ref (xa g 24), .int a1] σ post := by
  unfold PX8_failedLong at hw
  refine x_head (Qc := fun A => va_Ql post (xAt g A) A) (cc := cX8_failedLong) (maxL := 2) (ret := (some .long)) (by decide) rfl ?_
  intro p e s m below meth c A C0 hnm hO
  refine x_entry (Nat.le_of_ble_eq_true rfl) (fun ls hl => ?_)
  have hl : lv_has ls 2 [(0, .ref (xa g 24)), (1, .int a1)] := hl
  have hx := C0.1
  have hb := C0.2.1
  have hown := C0.2.2.2.2.2.1
  have hts := C0.2.2.2.2.2.2.1
  refine lv_aload_n hx hb dX8_failedLong_0 rfl (lv_at hl 0 rfl) ?_
  refine lv_iload_n hx hb dX8_failedLong_1 rfl (lv_at hl 1 rfl) ?_
  refine x_puti C0 hO 24 0 tyX8 tyX8_ok nmX8 rfl rfl (by decide) rfl iX8_failedLong_8 rfl rfl rfl (List.mem_of_getElem? (i := 1) rfl) dX8_failedLong_2 (fun σ1 H locs eσ1 hO => ?_)
  replace hw := hw σ1 eσ1
  refine x_calll C0 hO (x_runS (As := []) (rest := []) C0 hO (kX8_lost l g _  σ1 _ hw) 0 rfl gX8_failedLong_X8_lost rfl rfl rfl hdX8_lost.2 ⟨Nat.le_of_ble_eq_true rfl, Nat.le_of_ble_eq_true rfl⟩ hl.1 rfl (Nat.le_of_ble_eq_true rfl) dX8_failedLong_5 ⟨Nat.le_of_ble_eq_true rfl, Nat.le_of_ble_eq_true rfl⟩) (fun r2 σ' H locs hw hO => ?_)
  obtain ⟨hσ, hw⟩ := hw
  subst hσ
  exact x_lret C0 hO hw dX8_failedLong_8
theorem iX8_noPerson_8 : ∀ w ∈ wsX80, w ∈ wsX8_noPerson := fun w h => List.mem_cons_of_mem _ (List.mem_append_right _ h)
theorem hdX8_noPerson : yX8_noPerson.cls = RX8 ∧ yX8_noPerson.cls ≠ "java/lang/invoke/MethodHandle" ∧ yX8_noPerson.cls ≠ "java/lang/invoke/VarHandle" ∧ (parseMethodDescriptor yX8_noPerson.desc).map (fun d => d.parameters.length) = some 1 := by decide +kernel
set_option maxHeartbeats 4000000 in
set_option maxRecDepth 100000 in
theorem kX8_noPerson (l : Launch) (g : XG) (sz : Nat) (a1 : Int32) (σ : XS) (post : Int32 → Prop) (hw : PX8_noPerson a1 σ post) : xMi l yX8_noPerson wsX8_noPerson rmX8_noPerson 0 0 g sz [.ref (xa g 24), .int a1] σ (fun r u => σ = u ∧ post r) := by
  unfold PX8_noPerson at hw
  refine x_head (Qc := fun A => va_Qi (fun r u => σ = u ∧ post r) (xAt g A) A) (cc := cX8_noPerson) (maxL := 2) (ret := (some .boolean)) (by decide) rfl ?_
  intro p e s m below meth c A C0 hnm hO
  refine x_entry (Nat.le_of_ble_eq_true rfl) (fun ls hl => ?_)
  have hl : lv_has ls 2 [(0, .ref (xa g 24)), (1, .int a1)] := hl
  have hx := C0.1
  have hb := C0.2.1
  have hown := C0.2.2.2.2.2.1
  have hts := C0.2.2.2.2.2.2.1
  refine lv_iload_n hx hb dX8_noPerson_0 rfl (lv_at hl 1 rfl) ?_
  refine lv_i2l hx hb dX8_noPerson_1 rfl ?_
  refine lv_lconst (v := 0) hx hb dX8_noPerson_2 (by decide) ?_
  refine lv_aload_n hx hb dX8_noPerson_3 rfl (lv_at hl 0 rfl) ?_
  refine x_geti C0 hO 24 2 rfl rfl (by decide) rfl iX8_noPerson_8 rfl (List.mem_of_getElem? (i := 1) rfl) dX8_noPerson_4 ?_
  refine lv_i2l hx hb dX8_noPerson_7 rfl ?_
  refine lv_lconst (v := 1) hx hb dX8_noPerson_8 (by decide) ?_
  refine lv_lsub hx hb dX8_noPerson_9 ?_
  refine x_calli C0 hO (x_runS (As := [.long a1.toInt64, .long (0 : Int64), .long (((gI σ 24 2).toInt64) - (1 : Int64))]) (rest := []) C0 hO (kX8_in l g _ a1.toInt64 (0 : Int64) (((gI σ 24 2).toInt64) - (1 : Int64)) σ _ hw) 3 rfl gX8_noPerson_X8_in rfl rfl rfl hdX8_in.2 ⟨Nat.le_of_ble_eq_true rfl, Nat.le_of_ble_eq_true rfl⟩ hl.1 rfl (Nat.le_of_ble_eq_true rfl) dX8_noPerson_10 ⟨Nat.le_of_ble_eq_true rfl, Nat.le_of_ble_eq_true rfl⟩) (fun r1 σ' H locs hw hO => ?_)
  obtain ⟨hσ, hw⟩ := hw
  subst hσ
  refine lv_if_ne (tgt := 20) hx hb dX8_noPerson_13 (by decide) (fun c2 => ?_) (fun c2 => ?_)
  · replace hw := hw.2 c2
    refine lv_iconst (v := 0) hx hb dX8_noPerson_20 (by decide) ?_
    exact x_zret C0 hO rfl ⟨rfl, hw⟩ dX8_noPerson_21
  · replace hw := hw.1 c2
    refine lv_iconst (v := 1) hx hb dX8_noPerson_16 (by decide) ?_
    refine lv_goto (tgt := 21) hx hb dX8_noPerson_17 (by decide) ?_
    exact x_zret C0 hO rfl ⟨rfl, hw⟩ dX8_noPerson_21
theorem iX8_noPlace_8 : ∀ w ∈ wsX80, w ∈ wsX8_noPlace := fun w h => List.mem_cons_of_mem _ (List.mem_append_right _ h)
theorem hdX8_noPlace : yX8_noPlace.cls = RX8 ∧ yX8_noPlace.cls ≠ "java/lang/invoke/MethodHandle" ∧ yX8_noPlace.cls ≠ "java/lang/invoke/VarHandle" ∧ (parseMethodDescriptor yX8_noPlace.desc).map (fun d => d.parameters.length) = some 1 := by decide +kernel
set_option maxHeartbeats 4000000 in
set_option maxRecDepth 100000 in
theorem kX8_noPlace (l : Launch) (g : XG) (sz : Nat) (a1 : Int32) (σ : XS) (post : Int32 → Prop) (hw : PX8_noPlace a1 σ post) : xMi l yX8_noPlace wsX8_noPlace rmX8_noPlace 0 0 g sz [.ref (xa g 24), .int a1] σ (fun r u => σ = u ∧ post r) := by
  unfold PX8_noPlace at hw
  refine x_head (Qc := fun A => va_Qi (fun r u => σ = u ∧ post r) (xAt g A) A) (cc := cX8_noPlace) (maxL := 2) (ret := (some .boolean)) (by decide) rfl ?_
  intro p e s m below meth c A C0 hnm hO
  refine x_entry (Nat.le_of_ble_eq_true rfl) (fun ls hl => ?_)
  have hl : lv_has ls 2 [(0, .ref (xa g 24)), (1, .int a1)] := hl
  have hx := C0.1
  have hb := C0.2.1
  have hown := C0.2.2.2.2.2.1
  have hts := C0.2.2.2.2.2.2.1
  refine lv_iload_n hx hb dX8_noPlace_0 rfl (lv_at hl 1 rfl) ?_
  refine lv_i2l hx hb dX8_noPlace_1 rfl ?_
  refine lv_lconst (v := 0) hx hb dX8_noPlace_2 (by decide) ?_
  refine lv_aload_n hx hb dX8_noPlace_3 rfl (lv_at hl 0 rfl) ?_
  refine x_geti C0 hO 24 1 rfl rfl (by decide) rfl iX8_noPlace_8 rfl (List.mem_of_getElem? (i := 1) rfl) dX8_noPlace_4 ?_
  refine lv_i2l hx hb dX8_noPlace_7 rfl ?_
  refine lv_lconst (v := 1) hx hb dX8_noPlace_8 (by decide) ?_
  refine lv_lsub hx hb dX8_noPlace_9 ?_
  refine x_calli C0 hO (x_runS (As := [.long a1.toInt64, .long (0 : Int64), .long (((gI σ 24 1).toInt64) - (1 : Int64))]) (rest := []) C0 hO (kX8_in l g _ a1.toInt64 (0 : Int64) (((gI σ 24 1).toInt64) - (1 : Int64)) σ _ hw) 3 rfl gX8_noPlace_X8_in rfl rfl rfl hdX8_in.2 ⟨Nat.le_of_ble_eq_true rfl, Nat.le_of_ble_eq_true rfl⟩ hl.1 rfl (Nat.le_of_ble_eq_true rfl) dX8_noPlace_10 ⟨Nat.le_of_ble_eq_true rfl, Nat.le_of_ble_eq_true rfl⟩) (fun r1 σ' H locs hw hO => ?_)
  obtain ⟨hσ, hw⟩ := hw
  subst hσ
  refine lv_if_ne (tgt := 20) hx hb dX8_noPlace_13 (by decide) (fun c2 => ?_) (fun c2 => ?_)
  · replace hw := hw.2 c2
    refine lv_iconst (v := 0) hx hb dX8_noPlace_20 (by decide) ?_
    exact x_zret C0 hO rfl ⟨rfl, hw⟩ dX8_noPlace_21
  · replace hw := hw.1 c2
    refine lv_iconst (v := 1) hx hb dX8_noPlace_16 (by decide) ?_
    refine lv_goto (tgt := 21) hx hb dX8_noPlace_17 (by decide) ?_
    exact x_zret C0 hO rfl ⟨rfl, hw⟩ dX8_noPlace_21
theorem hdX8_isNight : yX8_isNight.cls = RX8 ∧ yX8_isNight.cls ≠ "java/lang/invoke/MethodHandle" ∧ yX8_isNight.cls ≠ "java/lang/invoke/VarHandle" ∧ (parseMethodDescriptor yX8_isNight.desc).map (fun d => d.parameters.length) = some 1 := by decide +kernel
set_option maxHeartbeats 4000000 in
set_option maxRecDepth 100000 in
theorem kX8_isNight (l : Launch) (g : XG) (sz : Nat) (a0 : Int32) (σ : XS) (post : Int32 → Prop) (hw : PX8_isNight a0 σ post) : xMi l yX8_isNight wsX8_isNight rmX8_isNight 0 0 g sz [.int a0] σ (fun r u => σ = u ∧ post r) := by
  unfold PX8_isNight at hw
  refine x_head (Qc := fun A => va_Qi (fun r u => σ = u ∧ post r) (xAt g A) A) (cc := cX8_isNight) (maxL := 1) (ret := (some .boolean)) (by decide) rfl ?_
  intro p e s m below meth c A C0 hnm hO
  refine x_entry (Nat.le_of_ble_eq_true rfl) (fun ls hl => ?_)
  have hl : lv_has ls 1 [(0, .int a0)] := hl
  have hx := C0.1
  have hb := C0.2.1
  have hown := C0.2.2.2.2.2.1
  have hts := C0.2.2.2.2.2.2.1
  refine lv_iload_n hx hb dX8_isNight_0 rfl (lv_at hl 0 rfl) ?_
  refine lv_i2l hx hb dX8_isNight_1 rfl ?_
  refine lv_lconst (v := 0) hx hb dX8_isNight_2 (by decide) ?_
  refine lv_ldc2 (v := 39) hx hb hown (hts _ (List.mem_of_getElem? (i := 1) rfl)) dX8_isNight_3 ?_
  refine x_calli C0 hO (x_runS (As := [.long a0.toInt64, .long (0 : Int64), .long (39 : Int64)]) (rest := []) C0 hO (kX8_in l g _ a0.toInt64 (0 : Int64) (39 : Int64) σ _ hw) 3 rfl gX8_isNight_X8_in rfl rfl rfl hdX8_in.2 ⟨Nat.le_of_ble_eq_true rfl, Nat.le_of_ble_eq_true rfl⟩ hl.1 rfl (Nat.le_of_ble_eq_true rfl) dX8_isNight_6 ⟨Nat.le_of_ble_eq_true rfl, Nat.le_of_ble_eq_true rfl⟩) (fun r1 σ' H locs hw hO => ?_)
  obtain ⟨hσ, hw⟩ := hw
  subst hσ
  exact x_zret C0 hO hw.1 ⟨rfl, hw.2⟩ dX8_isNight_9
theorem iX8_codeAt_8 : ∀ w ∈ wsX80, w ∈ wsX8_codeAt := fun w h => List.mem_cons_of_mem _ (List.mem_append_right _ h)
theorem hdX8_codeAt : yX8_codeAt.cls = RX8 ∧ yX8_codeAt.cls ≠ "java/lang/invoke/MethodHandle" ∧ yX8_codeAt.cls ≠ "java/lang/invoke/VarHandle" ∧ (parseMethodDescriptor yX8_codeAt.desc).map (fun d => d.parameters.length) = some 2 := by decide +kernel
set_option maxHeartbeats 4000000 in
set_option maxRecDepth 100000 in
theorem kX8_codeAt (l : Launch) (g : XG) (sz : Nat) (a1 : Int32) (a2 : Int32) (σ : XS) (post : Int32 → Prop) (hw : PX8_codeAt a1 a2 σ post) : xMi l yX8_codeAt wsX8_codeAt rmX8_codeAt 0 0 g sz [.ref (xa g 24), .int a1, .int a2] σ (fun r u => σ = u ∧ post r) := by
  unfold PX8_codeAt at hw
  refine x_head (Qc := fun A => va_Qi (fun r u => σ = u ∧ post r) (xAt g A) A) (cc := cX8_codeAt) (maxL := 3) (ret := (some .int)) (by decide) rfl ?_
  intro p e s m below meth c A C0 hnm hO
  refine x_entry (Nat.le_of_ble_eq_true rfl) (fun ls hl => ?_)
  have hl : lv_has ls 3 [(0, .ref (xa g 24)), (1, .int a1), (2, .int a2)] := hl
  have hx := C0.1
  have hb := C0.2.1
  have hown := C0.2.2.2.2.2.1
  have hts := C0.2.2.2.2.2.2.1
  refine lv_aload_n hx hb dX8_codeAt_0 rfl (lv_at hl 0 rfl) ?_
  refine x_geti C0 hO 24 5 rfl rfl (by decide) rfl iX8_codeAt_8 rfl (List.mem_of_getElem? (i := 1) rfl) dX8_codeAt_1 ?_
  refine lv_iload_n hx hb dX8_codeAt_4 rfl (lv_at hl 2 rfl) ?_
  refine lv_icmp_ge (tgt := 22) hx hb dX8_codeAt_5 (by decide) (fun c1 => ?_) (fun c1 => ?_)
  · replace hw := hw.1 c1
    refine lv_bipush (v := -9) hx hb dX8_codeAt_22 (by decide) ?_
    exact x_iret C0 hO ⟨rfl, hw⟩ dX8_codeAt_24
  · replace hw := hw.2 c1
    refine lv_aload_n hx hb dX8_codeAt_8 rfl (lv_at hl 0 rfl) ?_
    refine x_getr C0 hO 24 39 48 rfl rfl (by decide) rfl iX8_codeAt_8 rfl (List.mem_of_getElem? (i := 2) rfl) dX8_codeAt_9 ?_
    refine lv_iload_n hx hb dX8_codeAt_12 rfl (lv_at hl 1 rfl) ?_
    refine lv_aload_n hx hb dX8_codeAt_13 rfl (lv_at hl 0 rfl) ?_
    refine x_geti C0 hO 24 5 rfl rfl (by decide) rfl iX8_codeAt_8 rfl (List.mem_of_getElem? (i := 1) rfl) dX8_codeAt_14 ?_
    refine lv_iadd hx hb dX8_codeAt_17 ?_
    refine x_iald C0 hO 48 rfl hw.1 dX8_codeAt_18 ?_
    replace hw := hw.2
    refine lv_goto (tgt := 24) hx hb dX8_codeAt_19 (by decide) ?_
    exact x_iret C0 hO ⟨rfl, hw⟩ dX8_codeAt_24
theorem iX8_figure_8 : ∀ w ∈ wsX80, w ∈ wsX8_figure := fun w h => List.mem_cons_of_mem _ (List.mem_append_right _ h)
theorem hdX8_figure : yX8_figure.cls = RX8 ∧ yX8_figure.cls ≠ "java/lang/invoke/MethodHandle" ∧ yX8_figure.cls ≠ "java/lang/invoke/VarHandle" ∧ (parseMethodDescriptor yX8_figure.desc).map (fun d => d.parameters.length) = some 4 := by decide +kernel
set_option maxHeartbeats 4000000 in
set_option maxRecDepth 100000 in
theorem kX8_figure (l : Launch) (g : XG) (sz : Nat) (a1 : Int32) (a2 : Int32) (a3 : Int32) (a4 : Int32) (σ : XS) (post : Int32 → XS → Prop) (hw : PX8_figure a1 a2 a3 a4 σ post) : xMi l yX8_figure wsX8_figure rmX8_figure 0 0 g sz [.ref (xa g 24), .int a1, .int a2, .int a3, .int a4] σ post := by
  unfold PX8_figure at hw
  refine x_head (Qc := fun A => va_Qi post (xAt g A) A) (cc := cX8_figure) (maxL := 7) (ret := (some .int)) (by decide) rfl ?_
  intro p e s m below meth c A C0 hnm hO
  refine x_entry (Nat.le_of_ble_eq_true rfl) (fun ls hl => ?_)
  have hl : lv_has ls 7 [(0, .ref (xa g 24)), (1, .int a1), (2, .int a2), (3, .int a3), (4, .int a4)] := hl
  have hx := C0.1
  have hb := C0.2.1
  have hown := C0.2.2.2.2.2.1
  have hts := C0.2.2.2.2.2.2.1
  refine lv_aload_n hx hb dX8_figure_0 rfl (lv_at hl 0 rfl) ?_
  refine lv_iload_n hx hb dX8_figure_1 rfl (lv_at hl 1 rfl) ?_
  refine lv_iload_n hx hb dX8_figure_2 rfl (lv_at hl 2 rfl) ?_
  refine x_calli C0 hO (x_runV (As := [.int a1, .int a2]) (rest := []) C0 hO (kX8_codeAt l g _ a1 a2 σ _ hw) 2 rfl (xRecv C0 hO (j := 24) rfl rfl) gX8_figure_X8_codeAt rfl rfl rfl hdX8_codeAt ⟨Nat.le_of_ble_eq_true rfl, Nat.le_of_ble_eq_true rfl⟩ hl.1 rfl (Nat.le_of_ble_eq_true rfl) dX8_figure_3 ⟨Nat.le_of_ble_eq_true rfl, Nat.le_of_ble_eq_true rfl⟩) (fun r1 σ' H locs hw hO => ?_)
  obtain ⟨hσ, hw⟩ := hw
  subst hσ
  refine lv_bipush (v := 48) hx hb dX8_figure_6 (by decide) ?_
  refine lv_isub hx hb dX8_figure_8 ?_
  refine lv_topi (fun x2 ex2 => ?_)
  replace hw := hw x2 ex2
  refine lv_istore (lv' := [(5, .int x2), (0, .ref (xa g 24)), (1, .int a1), (2, .int a2), (3, .int a3), (4, .int a4)]) hx hb dX8_figure_9 hl (by decide) rfl (fun ls hl => ?_)
  refine lv_iload hx hb dX8_figure_11 (lv_at hl 0 rfl) ?_
  refine lv_i2l hx hb dX8_figure_13 rfl ?_
  refine lv_iload_n hx hb dX8_figure_14 rfl (lv_at hl 4 rfl) ?_
  refine lv_i2l hx hb dX8_figure_15 rfl ?_
  refine lv_iload hx hb dX8_figure_16 (lv_at hl 5 rfl) ?_
  refine lv_i2l hx hb dX8_figure_18 rfl ?_
  refine x_calli C0 hO (x_runS (As := [.long x2.toInt64, .long a3.toInt64, .long a4.toInt64]) (rest := []) C0 hO (kX8_in l g _ x2.toInt64 a3.toInt64 a4.toInt64 σ _ hw) 3 rfl gX8_figure_X8_in rfl rfl rfl hdX8_in.2 ⟨Nat.le_of_ble_eq_true rfl, Nat.le_of_ble_eq_true rfl⟩ hl.1 rfl (Nat.le_of_ble_eq_true rfl) dX8_figure_19 ⟨Nat.le_of_ble_eq_true rfl, Nat.le_of_ble_eq_true rfl⟩) (fun r3 σ' H locs hw hO => ?_)
  obtain ⟨hσ, hw⟩ := hw
  subst hσ
  refine lv_istore (lv' := [(6, .int r3), (5, .int x2), (0, .ref (xa g 24)), (1, .int a1), (2, .int a2), (3, .int a3), (4, .int a4)]) hx hb dX8_figure_22 hl (by decide) rfl (fun ls hl => ?_)
  refine lv_aload_n hx hb dX8_figure_24 rfl (lv_at hl 2 rfl) ?_
  refine lv_dup hx hb dX8_figure_25 rfl ?_
  refine x_geti C0 hO 24 5 rfl rfl (by decide) rfl iX8_figure_8 rfl (List.mem_of_getElem? (i := 1) rfl) dX8_figure_26 ?_
  refine lv_iload hx hb dX8_figure_29 (lv_at hl 0 rfl) ?_
  refine lv_if_eq (tgt := 38) hx hb dX8_figure_31 (by decide) (fun c4 => ?_) (fun c4 => ?_)
  · replace hw := hw.1 c4
    refine lv_iconst (v := 0) hx hb dX8_figure_38 (by decide) ?_
    refine lv_iadd hx hb dX8_figure_39 ?_
    refine x_puti C0 hO 24 5 tyX8 tyX8_ok nmX8 rfl rfl (by decide) rfl iX8_figure_8 rfl rfl rfl (List.mem_of_getElem? (i := 1) rfl) dX8_figure_40 (fun σ5 H locs eσ5 hO => ?_)
    replace hw := hw σ5 eσ5
    refine lv_iload hx hb dX8_figure_43 (lv_at hl 0 rfl) ?_
    refine lv_if_eq (tgt := 53) hx hb dX8_figure_45 (by decide) (fun c6 => ?_) (fun c6 => ?_)
    · replace hw := hw.1 c6
      refine lv_bipush (v := -9) hx hb dX8_figure_53 (by decide) ?_
      exact x_iret C0 hO hw dX8_figure_55
    · replace hw := hw.2 c6
      refine lv_iload hx hb dX8_figure_48 (lv_at hl 1 rfl) ?_
      refine lv_goto (tgt := 55) hx hb dX8_figure_50 (by decide) ?_
      exact x_iret C0 hO hw dX8_figure_55
  · replace hw := hw.2 c4
    refine lv_iconst (v := 1) hx hb dX8_figure_34 (by decide) ?_
    refine lv_goto (tgt := 39) hx hb dX8_figure_35 (by decide) ?_
    refine lv_iadd hx hb dX8_figure_39 ?_
    refine x_puti C0 hO 24 5 tyX8 tyX8_ok nmX8 rfl rfl (by decide) rfl iX8_figure_8 rfl rfl rfl (List.mem_of_getElem? (i := 1) rfl) dX8_figure_40 (fun σ7 H locs eσ7 hO => ?_)
    replace hw := hw σ7 eσ7
    refine lv_iload hx hb dX8_figure_43 (lv_at hl 0 rfl) ?_
    refine lv_if_eq (tgt := 53) hx hb dX8_figure_45 (by decide) (fun c8 => ?_) (fun c8 => ?_)
    · replace hw := hw.1 c8
      refine lv_bipush (v := -9) hx hb dX8_figure_53 (by decide) ?_
      exact x_iret C0 hO hw dX8_figure_55
    · replace hw := hw.2 c8
      refine lv_iload hx hb dX8_figure_48 (lv_at hl 1 rfl) ?_
      refine lv_goto (tgt := 55) hx hb dX8_figure_50 (by decide) ?_
      exact x_iret C0 hO hw dX8_figure_55
theorem iX8_readsPerson_8 : ∀ w ∈ wsX80, w ∈ wsX8_readsPerson := fun w h => List.mem_cons_of_mem _ (List.mem_append_right _ h)
theorem hdX8_readsPerson : yX8_readsPerson.cls = RX8 ∧ yX8_readsPerson.cls ≠ "java/lang/invoke/MethodHandle" ∧ yX8_readsPerson.cls ≠ "java/lang/invoke/VarHandle" ∧ (parseMethodDescriptor yX8_readsPerson.desc).map (fun d => d.parameters.length) = some 2 := by decide +kernel
set_option maxHeartbeats 4000000 in
set_option maxRecDepth 100000 in
theorem kX8_readsPerson (l : Launch) (g : XG) (sz : Nat) (a1 : Int32) (a2 : Int32) (σ : XS) (post : Int32 → XS → Prop) (hw : PX8_readsPerson a1 a2 σ post) : xMi l yX8_readsPerson wsX8_readsPerson rmX8_readsPerson 0 0 g sz [.ref (xa g 24), .int a1, .int a2] σ post := by
  unfold PX8_readsPerson at hw
  refine x_head (Qc := fun A => va_Qi post (xAt g A) A) (cc := cX8_readsPerson) (maxL := 5) (ret := (some .boolean)) (by decide) rfl ?_
  intro p e s m below meth c A C0 hnm hO
  refine x_entry (Nat.le_of_ble_eq_true rfl) (fun ls hl => ?_)
  have hl : lv_has ls 5 [(0, .ref (xa g 24)), (1, .int a1), (2, .int a2)] := hl
  have hx := C0.1
  have hb := C0.2.1
  have hown := C0.2.2.2.2.2.1
  have hts := C0.2.2.2.2.2.2.1
  refine lv_aload_n hx hb dX8_readsPerson_0 rfl (lv_at hl 0 rfl) ?_
  refine x_geti C0 hO 24 7 rfl rfl (by decide) rfl iX8_readsPerson_8 rfl (List.mem_of_getElem? (i := 1) rfl) dX8_readsPerson_1 ?_
  refine lv_iconst (v := 5) hx hb dX8_readsPerson_4 (by decide) ?_
  refine lv_icmp_eq (tgt := 19) hx hb dX8_readsPerson_5 (by decide) (fun c1 => ?_) (fun c1 => ?_)
  · replace hw := hw.1 c1
    refine lv_iconst (v := 0) hx hb dX8_readsPerson_19 (by decide) ?_
    exact x_zret C0 hO rfl hw dX8_readsPerson_20
  · replace hw := hw.2 c1
    refine lv_aload_n hx hb dX8_readsPerson_8 rfl (lv_at hl 0 rfl) ?_
    refine lv_iload_n hx hb dX8_readsPerson_9 rfl (lv_at hl 1 rfl) ?_
    refine lv_iload_n hx hb dX8_readsPerson_10 rfl (lv_at hl 2 rfl) ?_
    refine x_calli C0 hO (x_runV (As := [.int a1, .int a2]) (rest := []) C0 hO (kX8_codeAt l g _ a1 a2 σ _ hw) 2 rfl (xRecv C0 hO (j := 24) rfl rfl) gX8_readsPerson_X8_codeAt rfl rfl rfl hdX8_codeAt ⟨Nat.le_of_ble_eq_true rfl, Nat.le_of_ble_eq_true rfl⟩ hl.1 rfl (Nat.le_of_ble_eq_true rfl) dX8_readsPerson_11 ⟨Nat.le_of_ble_eq_true rfl, Nat.le_of_ble_eq_true rfl⟩) (fun r2 σ' H locs hw hO => ?_)
    obtain ⟨hσ, hw⟩ := hw
    subst hσ
    refine lv_bipush (v := 59) hx hb dX8_readsPerson_14 (by decide) ?_
    refine lv_icmp_eq (tgt := 21) hx hb dX8_readsPerson_16 (by decide) (fun c3 => ?_) (fun c3 => ?_)
    · replace hw := hw.1 c3
      refine lv_aload_n hx hb dX8_readsPerson_21 rfl (lv_at hl 0 rfl) ?_
      refine lv_dup hx hb dX8_readsPerson_22 rfl ?_
      refine x_geti C0 hO 24 5 rfl rfl (by decide) rfl iX8_readsPerson_8 rfl (List.mem_of_getElem? (i := 2) rfl) dX8_readsPerson_23 ?_
      refine lv_iconst (v := 1) hx hb dX8_readsPerson_26 (by decide) ?_
      refine lv_iadd hx hb dX8_readsPerson_27 ?_
      refine x_puti C0 hO 24 5 tyX8 tyX8_ok nmX8 rfl rfl (by decide) rfl iX8_readsPerson_8 rfl rfl rfl (List.mem_of_getElem? (i := 2) rfl) dX8_readsPerson_28 (fun σ4 H locs eσ4 hO => ?_)
      replace hw := hw σ4 eσ4
      refine lv_aload_n hx hb dX8_readsPerson_31 rfl (lv_at hl 0 rfl) ?_
      refine lv_iload_n hx hb dX8_readsPerson_32 rfl (lv_at hl 1 rfl) ?_
      refine lv_iload_n hx hb dX8_readsPerson_33 rfl (lv_at hl 2 rfl) ?_
      refine x_calli C0 hO (x_runV (As := [.int a1, .int a2]) (rest := []) C0 hO (kX8_codeAt l g _ a1 a2 σ4 _ hw) 2 rfl (xRecv C0 hO (j := 24) rfl rfl) gX8_readsPerson_X8_codeAt rfl rfl rfl hdX8_codeAt ⟨Nat.le_of_ble_eq_true rfl, Nat.le_of_ble_eq_true rfl⟩ hl.1 rfl (Nat.le_of_ble_eq_true rfl) dX8_readsPerson_34 ⟨Nat.le_of_ble_eq_true rfl, Nat.le_of_ble_eq_true rfl⟩) (fun r5 σ' H locs hw hO => ?_)
      obtain ⟨hσ, hw⟩ := hw
      subst hσ
      refine lv_istore_n (lv' := [(3, .int r5), (0, .ref (xa g 24)), (1, .int a1), (2, .int a2)]) hx hb dX8_readsPerson_37 rfl hl (by decide) rfl (fun ls hl => ?_)
      refine lv_iload_n hx hb dX8_readsPerson_38 rfl (lv_at hl 0 rfl) ?_
      refine lv_bipush (v := 115) hx hb dX8_readsPerson_39 (by decide) ?_
      refine lv_icmp_eq (tgt := 58) hx hb dX8_readsPerson_41 (by decide) (fun c6 => ?_) (fun c6 => ?_)
      · replace hw := hw.1 c6
        refine lv_aload_n hx hb dX8_readsPerson_58 rfl (lv_at hl 1 rfl) ?_
        refine lv_dup hx hb dX8_readsPerson_59 rfl ?_
        refine x_geti C0 hO 24 5 rfl rfl (by decide) rfl iX8_readsPerson_8 rfl (List.mem_of_getElem? (i := 2) rfl) dX8_readsPerson_60 ?_
        refine lv_iconst (v := 1) hx hb dX8_readsPerson_63 (by decide) ?_
        refine lv_iadd hx hb dX8_readsPerson_64 ?_
        refine x_puti C0 hO 24 5 tyX8 tyX8_ok nmX8 rfl rfl (by decide) rfl iX8_readsPerson_8 rfl rfl rfl (List.mem_of_getElem? (i := 2) rfl) dX8_readsPerson_65 (fun σ7 H locs eσ7 hO => ?_)
        replace hw := hw σ7 eσ7
        refine lv_aload_n hx hb dX8_readsPerson_68 rfl (lv_at hl 1 rfl) ?_
        refine lv_iload_n hx hb dX8_readsPerson_69 rfl (lv_at hl 2 rfl) ?_
        refine lv_iload_n hx hb dX8_readsPerson_70 rfl (lv_at hl 3 rfl) ?_
        refine lv_iconst (v := 0) hx hb dX8_readsPerson_71 (by decide) ?_
        refine lv_iconst (v := 3) hx hb dX8_readsPerson_72 (by decide) ?_
        refine x_calli C0 hO (x_runV (As := [.int a1, .int a2, .int (0 : Int32), .int (3 : Int32)]) (rest := []) C0 hO (kX8_figure l g _ a1 a2 (0 : Int32) (3 : Int32) σ7 _ hw) 4 rfl (xRecv C0 hO (j := 24) rfl rfl) gX8_readsPerson_X8_figure rfl rfl rfl hdX8_figure ⟨Nat.le_of_ble_eq_true rfl, Nat.le_of_ble_eq_true rfl⟩ hl.1 rfl (Nat.le_of_ble_eq_true rfl) dX8_readsPerson_73 ⟨Nat.le_of_ble_eq_true rfl, Nat.le_of_ble_eq_true rfl⟩) (fun r8 σ9 H locs hw hO => ?_)
        refine lv_istore (lv' := [(4, .int r8), (3, .int r5), (0, .ref (xa g 24)), (1, .int a1), (2, .int a2)]) hx hb dX8_readsPerson_76 hl (by decide) rfl (fun ls hl => ?_)
        refine lv_iload hx hb dX8_readsPerson_78 (lv_at hl 0 rfl) ?_
        refine lv_if_ge (tgt := 85) hx hb dX8_readsPerson_80 (by decide) (fun c10 => ?_) (fun c10 => ?_)
        · replace hw := hw.1 c10
          refine lv_aload_n hx hb dX8_readsPerson_85 rfl (lv_at hl 2 rfl) ?_
          refine x_getr C0 hO 24 8 27 rfl rfl (by decide) rfl iX8_readsPerson_8 rfl (List.mem_of_getElem? (i := 3) rfl) dX8_readsPerson_86 ?_
          refine lv_aload_n hx hb dX8_readsPerson_89 rfl (lv_at hl 2 rfl) ?_
          refine x_geti C0 hO 24 7 rfl rfl (by decide) rfl iX8_readsPerson_8 rfl (List.mem_of_getElem? (i := 1) rfl) dX8_readsPerson_90 ?_
          refine lv_iload_n hx hb dX8_readsPerson_93 rfl (lv_at hl 1 rfl) ?_
          refine lv_bipush (v := 115) hx hb dX8_readsPerson_94 (by decide) ?_
          refine lv_icmp_ne (tgt := 103) hx hb dX8_readsPerson_96 (by decide) (fun c11 => ?_) (fun c11 => ?_)
          · replace hw := hw.2 c11
            refine lv_iload_n hx hb dX8_readsPerson_103 rfl (lv_at hl 1 rfl) ?_
            refine lv_bipush (v := 102) hx hb dX8_readsPerson_104 (by decide) ?_
            refine lv_icmp_ne (tgt := 113) hx hb dX8_readsPerson_106 (by decide) (fun c12 => ?_) (fun c12 => ?_)
            · replace hw := hw.2 c12
              refine lv_iconst (v := 2) hx hb dX8_readsPerson_113 (by decide) ?_
              refine x_iast C0 hO 27 rfl hw.1 dX8_readsPerson_114 (fun σ13 H locs eσ13 hO => ?_)
              replace hw := hw.2 σ13 eσ13
              refine lv_aload_n hx hb dX8_readsPerson_115 rfl (lv_at hl 2 rfl) ?_
              refine x_getr C0 hO 24 9 28 rfl rfl (by decide) rfl iX8_readsPerson_8 rfl (List.mem_of_getElem? (i := 4) rfl) dX8_readsPerson_116 ?_
              refine lv_aload_n hx hb dX8_readsPerson_119 rfl (lv_at hl 2 rfl) ?_
              refine x_geti C0 hO 24 7 rfl rfl (by decide) rfl iX8_readsPerson_8 rfl (List.mem_of_getElem? (i := 1) rfl) dX8_readsPerson_120 ?_
              refine lv_iload hx hb dX8_readsPerson_123 (lv_at hl 0 rfl) ?_
              refine x_iast C0 hO 28 rfl hw.1 dX8_readsPerson_125 (fun σ14 H locs eσ14 hO => ?_)
              replace hw := hw.2 σ14 eσ14
              refine lv_aload_n hx hb dX8_readsPerson_126 rfl (lv_at hl 2 rfl) ?_
              refine lv_dup hx hb dX8_readsPerson_127 rfl ?_
              refine x_geti C0 hO 24 7 rfl rfl (by decide) rfl iX8_readsPerson_8 rfl (List.mem_of_getElem? (i := 1) rfl) dX8_readsPerson_128 ?_
              refine lv_iconst (v := 1) hx hb dX8_readsPerson_131 (by decide) ?_
              refine lv_iadd hx hb dX8_readsPerson_132 ?_
              refine x_puti C0 hO 24 7 tyX8 tyX8_ok nmX8 rfl rfl (by decide) rfl iX8_readsPerson_8 rfl rfl rfl (List.mem_of_getElem? (i := 1) rfl) dX8_readsPerson_133 (fun σ15 H locs eσ15 hO => ?_)
              replace hw := hw σ15 eσ15
              refine lv_iconst (v := 1) hx hb dX8_readsPerson_136 (by decide) ?_
              exact x_zret C0 hO rfl hw dX8_readsPerson_137
            · replace hw := hw.1 c12
              refine lv_iconst (v := 1) hx hb dX8_readsPerson_109 (by decide) ?_
              refine lv_goto (tgt := 114) hx hb dX8_readsPerson_110 (by decide) ?_
              refine x_iast C0 hO 27 rfl hw.1 dX8_readsPerson_114 (fun σ16 H locs eσ16 hO => ?_)
              replace hw := hw.2 σ16 eσ16
              refine lv_aload_n hx hb dX8_readsPerson_115 rfl (lv_at hl 2 rfl) ?_
              refine x_getr C0 hO 24 9 28 rfl rfl (by decide) rfl iX8_readsPerson_8 rfl (List.mem_of_getElem? (i := 4) rfl) dX8_readsPerson_116 ?_
              refine lv_aload_n hx hb dX8_readsPerson_119 rfl (lv_at hl 2 rfl) ?_
              refine x_geti C0 hO 24 7 rfl rfl (by decide) rfl iX8_readsPerson_8 rfl (List.mem_of_getElem? (i := 1) rfl) dX8_readsPerson_120 ?_
              refine lv_iload hx hb dX8_readsPerson_123 (lv_at hl 0 rfl) ?_
              refine x_iast C0 hO 28 rfl hw.1 dX8_readsPerson_125 (fun σ17 H locs eσ17 hO => ?_)
              replace hw := hw.2 σ17 eσ17
              refine lv_aload_n hx hb dX8_readsPerson_126 rfl (lv_at hl 2 rfl) ?_
              refine lv_dup hx hb dX8_readsPerson_127 rfl ?_
              refine x_geti C0 hO 24 7 rfl rfl (by decide) rfl iX8_readsPerson_8 rfl (List.mem_of_getElem? (i := 1) rfl) dX8_readsPerson_128 ?_
              refine lv_iconst (v := 1) hx hb dX8_readsPerson_131 (by decide) ?_
              refine lv_iadd hx hb dX8_readsPerson_132 ?_
              refine x_puti C0 hO 24 7 tyX8 tyX8_ok nmX8 rfl rfl (by decide) rfl iX8_readsPerson_8 rfl rfl rfl (List.mem_of_getElem? (i := 1) rfl) dX8_readsPerson_133 (fun σ18 H locs eσ18 hO => ?_)
              replace hw := hw σ18 eσ18
              refine lv_iconst (v := 1) hx hb dX8_readsPerson_136 (by decide) ?_
              exact x_zret C0 hO rfl hw dX8_readsPerson_137
          · replace hw := hw.1 c11
            refine lv_iconst (v := 0) hx hb dX8_readsPerson_99 (by decide) ?_
            refine lv_goto (tgt := 114) hx hb dX8_readsPerson_100 (by decide) ?_
            refine x_iast C0 hO 27 rfl hw.1 dX8_readsPerson_114 (fun σ19 H locs eσ19 hO => ?_)
            replace hw := hw.2 σ19 eσ19
            refine lv_aload_n hx hb dX8_readsPerson_115 rfl (lv_at hl 2 rfl) ?_
            refine x_getr C0 hO 24 9 28 rfl rfl (by decide) rfl iX8_readsPerson_8 rfl (List.mem_of_getElem? (i := 4) rfl) dX8_readsPerson_116 ?_
            refine lv_aload_n hx hb dX8_readsPerson_119 rfl (lv_at hl 2 rfl) ?_
            refine x_geti C0 hO 24 7 rfl rfl (by decide) rfl iX8_readsPerson_8 rfl (List.mem_of_getElem? (i := 1) rfl) dX8_readsPerson_120 ?_
            refine lv_iload hx hb dX8_readsPerson_123 (lv_at hl 0 rfl) ?_
            refine x_iast C0 hO 28 rfl hw.1 dX8_readsPerson_125 (fun σ20 H locs eσ20 hO => ?_)
            replace hw := hw.2 σ20 eσ20
            refine lv_aload_n hx hb dX8_readsPerson_126 rfl (lv_at hl 2 rfl) ?_
            refine lv_dup hx hb dX8_readsPerson_127 rfl ?_
            refine x_geti C0 hO 24 7 rfl rfl (by decide) rfl iX8_readsPerson_8 rfl (List.mem_of_getElem? (i := 1) rfl) dX8_readsPerson_128 ?_
            refine lv_iconst (v := 1) hx hb dX8_readsPerson_131 (by decide) ?_
            refine lv_iadd hx hb dX8_readsPerson_132 ?_
            refine x_puti C0 hO 24 7 tyX8 tyX8_ok nmX8 rfl rfl (by decide) rfl iX8_readsPerson_8 rfl rfl rfl (List.mem_of_getElem? (i := 1) rfl) dX8_readsPerson_133 (fun σ21 H locs eσ21 hO => ?_)
            replace hw := hw σ21 eσ21
            refine lv_iconst (v := 1) hx hb dX8_readsPerson_136 (by decide) ?_
            exact x_zret C0 hO rfl hw dX8_readsPerson_137
        · replace hw := hw.2 c10
          refine lv_iconst (v := 0) hx hb dX8_readsPerson_83 (by decide) ?_
          exact x_zret C0 hO rfl hw dX8_readsPerson_84
      · replace hw := hw.2 c6
        refine lv_iload_n hx hb dX8_readsPerson_44 rfl (lv_at hl 0 rfl) ?_
        refine lv_bipush (v := 102) hx hb dX8_readsPerson_45 (by decide) ?_
        refine lv_icmp_eq (tgt := 58) hx hb dX8_readsPerson_47 (by decide) (fun c22 => ?_) (fun c22 => ?_)
        · replace hw := hw.1 c22
          refine lv_aload_n hx hb dX8_readsPerson_58 rfl (lv_at hl 1 rfl) ?_
          refine lv_dup hx hb dX8_readsPerson_59 rfl ?_
          refine x_geti C0 hO 24 5 rfl rfl (by decide) rfl iX8_readsPerson_8 rfl (List.mem_of_getElem? (i := 2) rfl) dX8_readsPerson_60 ?_
          refine lv_iconst (v := 1) hx hb dX8_readsPerson_63 (by decide) ?_
          refine lv_iadd hx hb dX8_readsPerson_64 ?_
          refine x_puti C0 hO 24 5 tyX8 tyX8_ok nmX8 rfl rfl (by decide) rfl iX8_readsPerson_8 rfl rfl rfl (List.mem_of_getElem? (i := 2) rfl) dX8_readsPerson_65 (fun σ23 H locs eσ23 hO => ?_)
          replace hw := hw σ23 eσ23
          refine lv_aload_n hx hb dX8_readsPerson_68 rfl (lv_at hl 1 rfl) ?_
          refine lv_iload_n hx hb dX8_readsPerson_69 rfl (lv_at hl 2 rfl) ?_
          refine lv_iload_n hx hb dX8_readsPerson_70 rfl (lv_at hl 3 rfl) ?_
          refine lv_iconst (v := 0) hx hb dX8_readsPerson_71 (by decide) ?_
          refine lv_iconst (v := 3) hx hb dX8_readsPerson_72 (by decide) ?_
          refine x_calli C0 hO (x_runV (As := [.int a1, .int a2, .int (0 : Int32), .int (3 : Int32)]) (rest := []) C0 hO (kX8_figure l g _ a1 a2 (0 : Int32) (3 : Int32) σ23 _ hw) 4 rfl (xRecv C0 hO (j := 24) rfl rfl) gX8_readsPerson_X8_figure rfl rfl rfl hdX8_figure ⟨Nat.le_of_ble_eq_true rfl, Nat.le_of_ble_eq_true rfl⟩ hl.1 rfl (Nat.le_of_ble_eq_true rfl) dX8_readsPerson_73 ⟨Nat.le_of_ble_eq_true rfl, Nat.le_of_ble_eq_true rfl⟩) (fun r24 σ25 H locs hw hO => ?_)
          refine lv_istore (lv' := [(4, .int r24), (3, .int r5), (0, .ref (xa g 24)), (1, .int a1), (2, .int a2)]) hx hb dX8_readsPerson_76 hl (by decide) rfl (fun ls hl => ?_)
          refine lv_iload hx hb dX8_readsPerson_78 (lv_at hl 0 rfl) ?_
          refine lv_if_ge (tgt := 85) hx hb dX8_readsPerson_80 (by decide) (fun c26 => ?_) (fun c26 => ?_)
          · replace hw := hw.1 c26
            refine lv_aload_n hx hb dX8_readsPerson_85 rfl (lv_at hl 2 rfl) ?_
            refine x_getr C0 hO 24 8 27 rfl rfl (by decide) rfl iX8_readsPerson_8 rfl (List.mem_of_getElem? (i := 3) rfl) dX8_readsPerson_86 ?_
            refine lv_aload_n hx hb dX8_readsPerson_89 rfl (lv_at hl 2 rfl) ?_
            refine x_geti C0 hO 24 7 rfl rfl (by decide) rfl iX8_readsPerson_8 rfl (List.mem_of_getElem? (i := 1) rfl) dX8_readsPerson_90 ?_
            refine lv_iload_n hx hb dX8_readsPerson_93 rfl (lv_at hl 1 rfl) ?_
            refine lv_bipush (v := 115) hx hb dX8_readsPerson_94 (by decide) ?_
            refine lv_icmp_ne (tgt := 103) hx hb dX8_readsPerson_96 (by decide) (fun c27 => ?_) (fun c27 => ?_)
            · replace hw := hw.2 c27
              refine lv_iload_n hx hb dX8_readsPerson_103 rfl (lv_at hl 1 rfl) ?_
              refine lv_bipush (v := 102) hx hb dX8_readsPerson_104 (by decide) ?_
              refine lv_icmp_ne (tgt := 113) hx hb dX8_readsPerson_106 (by decide) (fun c28 => ?_) (fun c28 => ?_)
              · replace hw := hw.2 c28
                refine lv_iconst (v := 2) hx hb dX8_readsPerson_113 (by decide) ?_
                refine x_iast C0 hO 27 rfl hw.1 dX8_readsPerson_114 (fun σ29 H locs eσ29 hO => ?_)
                replace hw := hw.2 σ29 eσ29
                refine lv_aload_n hx hb dX8_readsPerson_115 rfl (lv_at hl 2 rfl) ?_
                refine x_getr C0 hO 24 9 28 rfl rfl (by decide) rfl iX8_readsPerson_8 rfl (List.mem_of_getElem? (i := 4) rfl) dX8_readsPerson_116 ?_
                refine lv_aload_n hx hb dX8_readsPerson_119 rfl (lv_at hl 2 rfl) ?_
                refine x_geti C0 hO 24 7 rfl rfl (by decide) rfl iX8_readsPerson_8 rfl (List.mem_of_getElem? (i := 1) rfl) dX8_readsPerson_120 ?_
                refine lv_iload hx hb dX8_readsPerson_123 (lv_at hl 0 rfl) ?_
                refine x_iast C0 hO 28 rfl hw.1 dX8_readsPerson_125 (fun σ30 H locs eσ30 hO => ?_)
                replace hw := hw.2 σ30 eσ30
                refine lv_aload_n hx hb dX8_readsPerson_126 rfl (lv_at hl 2 rfl) ?_
                refine lv_dup hx hb dX8_readsPerson_127 rfl ?_
                refine x_geti C0 hO 24 7 rfl rfl (by decide) rfl iX8_readsPerson_8 rfl (List.mem_of_getElem? (i := 1) rfl) dX8_readsPerson_128 ?_
                refine lv_iconst (v := 1) hx hb dX8_readsPerson_131 (by decide) ?_
                refine lv_iadd hx hb dX8_readsPerson_132 ?_
                refine x_puti C0 hO 24 7 tyX8 tyX8_ok nmX8 rfl rfl (by decide) rfl iX8_readsPerson_8 rfl rfl rfl (List.mem_of_getElem? (i := 1) rfl) dX8_readsPerson_133 (fun σ31 H locs eσ31 hO => ?_)
                replace hw := hw σ31 eσ31
                refine lv_iconst (v := 1) hx hb dX8_readsPerson_136 (by decide) ?_
                exact x_zret C0 hO rfl hw dX8_readsPerson_137
              · replace hw := hw.1 c28
                refine lv_iconst (v := 1) hx hb dX8_readsPerson_109 (by decide) ?_
                refine lv_goto (tgt := 114) hx hb dX8_readsPerson_110 (by decide) ?_
                refine x_iast C0 hO 27 rfl hw.1 dX8_readsPerson_114 (fun σ32 H locs eσ32 hO => ?_)
                replace hw := hw.2 σ32 eσ32
                refine lv_aload_n hx hb dX8_readsPerson_115 rfl (lv_at hl 2 rfl) ?_
                refine x_getr C0 hO 24 9 28 rfl rfl (by decide) rfl iX8_readsPerson_8 rfl (List.mem_of_getElem? (i := 4) rfl) dX8_readsPerson_116 ?_
                refine lv_aload_n hx hb dX8_readsPerson_119 rfl (lv_at hl 2 rfl) ?_
                refine x_geti C0 hO 24 7 rfl rfl (by decide) rfl iX8_readsPerson_8 rfl (List.mem_of_getElem? (i := 1) rfl) dX8_readsPerson_120 ?_
                refine lv_iload hx hb dX8_readsPerson_123 (lv_at hl 0 rfl) ?_
                refine x_iast C0 hO 28 rfl hw.1 dX8_readsPerson_125 (fun σ33 H locs eσ33 hO => ?_)
                replace hw := hw.2 σ33 eσ33
                refine lv_aload_n hx hb dX8_readsPerson_126 rfl (lv_at hl 2 rfl) ?_
                refine lv_dup hx hb dX8_readsPerson_127 rfl ?_
                refine x_geti C0 hO 24 7 rfl rfl (by decide) rfl iX8_readsPerson_8 rfl (List.mem_of_getElem? (i := 1) rfl) dX8_readsPerson_128 ?_
                refine lv_iconst (v := 1) hx hb dX8_readsPerson_131 (by decide) ?_
                refine lv_iadd hx hb dX8_readsPerson_132 ?_
                refine x_puti C0 hO 24 7 tyX8 tyX8_ok nmX8 rfl rfl (by decide) rfl iX8_readsPerson_8 rfl rfl rfl (List.mem_of_getElem? (i := 1) rfl) dX8_readsPerson_133 (fun σ34 H locs eσ34 hO => ?_)
                replace hw := hw σ34 eσ34
                refine lv_iconst (v := 1) hx hb dX8_readsPerson_136 (by decide) ?_
                exact x_zret C0 hO rfl hw dX8_readsPerson_137
            · replace hw := hw.1 c27
              refine lv_iconst (v := 0) hx hb dX8_readsPerson_99 (by decide) ?_
              refine lv_goto (tgt := 114) hx hb dX8_readsPerson_100 (by decide) ?_
              refine x_iast C0 hO 27 rfl hw.1 dX8_readsPerson_114 (fun σ35 H locs eσ35 hO => ?_)
              replace hw := hw.2 σ35 eσ35
              refine lv_aload_n hx hb dX8_readsPerson_115 rfl (lv_at hl 2 rfl) ?_
              refine x_getr C0 hO 24 9 28 rfl rfl (by decide) rfl iX8_readsPerson_8 rfl (List.mem_of_getElem? (i := 4) rfl) dX8_readsPerson_116 ?_
              refine lv_aload_n hx hb dX8_readsPerson_119 rfl (lv_at hl 2 rfl) ?_
              refine x_geti C0 hO 24 7 rfl rfl (by decide) rfl iX8_readsPerson_8 rfl (List.mem_of_getElem? (i := 1) rfl) dX8_readsPerson_120 ?_
              refine lv_iload hx hb dX8_readsPerson_123 (lv_at hl 0 rfl) ?_
              refine x_iast C0 hO 28 rfl hw.1 dX8_readsPerson_125 (fun σ36 H locs eσ36 hO => ?_)
              replace hw := hw.2 σ36 eσ36
              refine lv_aload_n hx hb dX8_readsPerson_126 rfl (lv_at hl 2 rfl) ?_
              refine lv_dup hx hb dX8_readsPerson_127 rfl ?_
              refine x_geti C0 hO 24 7 rfl rfl (by decide) rfl iX8_readsPerson_8 rfl (List.mem_of_getElem? (i := 1) rfl) dX8_readsPerson_128 ?_
              refine lv_iconst (v := 1) hx hb dX8_readsPerson_131 (by decide) ?_
              refine lv_iadd hx hb dX8_readsPerson_132 ?_
              refine x_puti C0 hO 24 7 tyX8 tyX8_ok nmX8 rfl rfl (by decide) rfl iX8_readsPerson_8 rfl rfl rfl (List.mem_of_getElem? (i := 1) rfl) dX8_readsPerson_133 (fun σ37 H locs eσ37 hO => ?_)
              replace hw := hw σ37 eσ37
              refine lv_iconst (v := 1) hx hb dX8_readsPerson_136 (by decide) ?_
              exact x_zret C0 hO rfl hw dX8_readsPerson_137
          · replace hw := hw.2 c26
            refine lv_iconst (v := 0) hx hb dX8_readsPerson_83 (by decide) ?_
            exact x_zret C0 hO rfl hw dX8_readsPerson_84
        · replace hw := hw.2 c22
          refine lv_iload_n hx hb dX8_readsPerson_50 rfl (lv_at hl 0 rfl) ?_
          refine lv_bipush (v := 98) hx hb dX8_readsPerson_51 (by decide) ?_
          refine lv_icmp_eq (tgt := 58) hx hb dX8_readsPerson_53 (by decide) (fun c38 => ?_) (fun c38 => ?_)
          · replace hw := hw.1 c38
            refine lv_aload_n hx hb dX8_readsPerson_58 rfl (lv_at hl 1 rfl) ?_
            refine lv_dup hx hb dX8_readsPerson_59 rfl ?_
            refine x_geti C0 hO 24 5 rfl rfl (by decide) rfl iX8_readsPerson_8 rfl (List.mem_of_getElem? (i := 2) rfl) dX8_readsPerson_60 ?_
            refine lv_iconst (v := 1) hx hb dX8_readsPerson_63 (by decide) ?_
            refine lv_iadd hx hb dX8_readsPerson_64 ?_
            refine x_puti C0 hO 24 5 tyX8 tyX8_ok nmX8 rfl rfl (by decide) rfl iX8_readsPerson_8 rfl rfl rfl (List.mem_of_getElem? (i := 2) rfl) dX8_readsPerson_65 (fun σ39 H locs eσ39 hO => ?_)
            replace hw := hw σ39 eσ39
            refine lv_aload_n hx hb dX8_readsPerson_68 rfl (lv_at hl 1 rfl) ?_
            refine lv_iload_n hx hb dX8_readsPerson_69 rfl (lv_at hl 2 rfl) ?_
            refine lv_iload_n hx hb dX8_readsPerson_70 rfl (lv_at hl 3 rfl) ?_
            refine lv_iconst (v := 0) hx hb dX8_readsPerson_71 (by decide) ?_
            refine lv_iconst (v := 3) hx hb dX8_readsPerson_72 (by decide) ?_
            refine x_calli C0 hO (x_runV (As := [.int a1, .int a2, .int (0 : Int32), .int (3 : Int32)]) (rest := []) C0 hO (kX8_figure l g _ a1 a2 (0 : Int32) (3 : Int32) σ39 _ hw) 4 rfl (xRecv C0 hO (j := 24) rfl rfl) gX8_readsPerson_X8_figure rfl rfl rfl hdX8_figure ⟨Nat.le_of_ble_eq_true rfl, Nat.le_of_ble_eq_true rfl⟩ hl.1 rfl (Nat.le_of_ble_eq_true rfl) dX8_readsPerson_73 ⟨Nat.le_of_ble_eq_true rfl, Nat.le_of_ble_eq_true rfl⟩) (fun r40 σ41 H locs hw hO => ?_)
            refine lv_istore (lv' := [(4, .int r40), (3, .int r5), (0, .ref (xa g 24)), (1, .int a1), (2, .int a2)]) hx hb dX8_readsPerson_76 hl (by decide) rfl (fun ls hl => ?_)
            refine lv_iload hx hb dX8_readsPerson_78 (lv_at hl 0 rfl) ?_
            refine lv_if_ge (tgt := 85) hx hb dX8_readsPerson_80 (by decide) (fun c42 => ?_) (fun c42 => ?_)
            · replace hw := hw.1 c42
              refine lv_aload_n hx hb dX8_readsPerson_85 rfl (lv_at hl 2 rfl) ?_
              refine x_getr C0 hO 24 8 27 rfl rfl (by decide) rfl iX8_readsPerson_8 rfl (List.mem_of_getElem? (i := 3) rfl) dX8_readsPerson_86 ?_
              refine lv_aload_n hx hb dX8_readsPerson_89 rfl (lv_at hl 2 rfl) ?_
              refine x_geti C0 hO 24 7 rfl rfl (by decide) rfl iX8_readsPerson_8 rfl (List.mem_of_getElem? (i := 1) rfl) dX8_readsPerson_90 ?_
              refine lv_iload_n hx hb dX8_readsPerson_93 rfl (lv_at hl 1 rfl) ?_
              refine lv_bipush (v := 115) hx hb dX8_readsPerson_94 (by decide) ?_
              refine lv_icmp_ne (tgt := 103) hx hb dX8_readsPerson_96 (by decide) (fun c43 => ?_) (fun c43 => ?_)
              · replace hw := hw.2 c43
                refine lv_iload_n hx hb dX8_readsPerson_103 rfl (lv_at hl 1 rfl) ?_
                refine lv_bipush (v := 102) hx hb dX8_readsPerson_104 (by decide) ?_
                refine lv_icmp_ne (tgt := 113) hx hb dX8_readsPerson_106 (by decide) (fun c44 => ?_) (fun c44 => ?_)
                · replace hw := hw.2 c44
                  refine lv_iconst (v := 2) hx hb dX8_readsPerson_113 (by decide) ?_
                  refine x_iast C0 hO 27 rfl hw.1 dX8_readsPerson_114 (fun σ45 H locs eσ45 hO => ?_)
                  replace hw := hw.2 σ45 eσ45
                  refine lv_aload_n hx hb dX8_readsPerson_115 rfl (lv_at hl 2 rfl) ?_
                  refine x_getr C0 hO 24 9 28 rfl rfl (by decide) rfl iX8_readsPerson_8 rfl (List.mem_of_getElem? (i := 4) rfl) dX8_readsPerson_116 ?_
                  refine lv_aload_n hx hb dX8_readsPerson_119 rfl (lv_at hl 2 rfl) ?_
                  refine x_geti C0 hO 24 7 rfl rfl (by decide) rfl iX8_readsPerson_8 rfl (List.mem_of_getElem? (i := 1) rfl) dX8_readsPerson_120 ?_
                  refine lv_iload hx hb dX8_readsPerson_123 (lv_at hl 0 rfl) ?_
                  refine x_iast C0 hO 28 rfl hw.1 dX8_readsPerson_125 (fun σ46 H locs eσ46 hO => ?_)
                  replace hw := hw.2 σ46 eσ46
                  refine lv_aload_n hx hb dX8_readsPerson_126 rfl (lv_at hl 2 rfl) ?_
                  refine lv_dup hx hb dX8_readsPerson_127 rfl ?_
                  refine x_geti C0 hO 24 7 rfl rfl (by decide) rfl iX8_readsPerson_8 rfl (List.mem_of_getElem? (i := 1) rfl) dX8_readsPerson_128 ?_
                  refine lv_iconst (v := 1) hx hb dX8_readsPerson_131 (by decide) ?_
                  refine lv_iadd hx hb dX8_readsPerson_132 ?_
                  refine x_puti C0 hO 24 7 tyX8 tyX8_ok nmX8 rfl rfl (by decide) rfl iX8_readsPerson_8 rfl rfl rfl (List.mem_of_getElem? (i := 1) rfl) dX8_readsPerson_133 (fun σ47 H locs eσ47 hO => ?_)
                  replace hw := hw σ47 eσ47
                  refine lv_iconst (v := 1) hx hb dX8_readsPerson_136 (by decide) ?_
                  exact x_zret C0 hO rfl hw dX8_readsPerson_137
                · replace hw := hw.1 c44
                  refine lv_iconst (v := 1) hx hb dX8_readsPerson_109 (by decide) ?_
                  refine lv_goto (tgt := 114) hx hb dX8_readsPerson_110 (by decide) ?_
                  refine x_iast C0 hO 27 rfl hw.1 dX8_readsPerson_114 (fun σ48 H locs eσ48 hO => ?_)
                  replace hw := hw.2 σ48 eσ48
                  refine lv_aload_n hx hb dX8_readsPerson_115 rfl (lv_at hl 2 rfl) ?_
                  refine x_getr C0 hO 24 9 28 rfl rfl (by decide) rfl iX8_readsPerson_8 rfl (List.mem_of_getElem? (i := 4) rfl) dX8_readsPerson_116 ?_
                  refine lv_aload_n hx hb dX8_readsPerson_119 rfl (lv_at hl 2 rfl) ?_
                  refine x_geti C0 hO 24 7 rfl rfl (by decide) rfl iX8_readsPerson_8 rfl (List.mem_of_getElem? (i := 1) rfl) dX8_readsPerson_120 ?_
                  refine lv_iload hx hb dX8_readsPerson_123 (lv_at hl 0 rfl) ?_
                  refine x_iast C0 hO 28 rfl hw.1 dX8_readsPerson_125 (fun σ49 H locs eσ49 hO => ?_)
                  replace hw := hw.2 σ49 eσ49
                  refine lv_aload_n hx hb dX8_readsPerson_126 rfl (lv_at hl 2 rfl) ?_
                  refine lv_dup hx hb dX8_readsPerson_127 rfl ?_
                  refine x_geti C0 hO 24 7 rfl rfl (by decide) rfl iX8_readsPerson_8 rfl (List.mem_of_getElem? (i := 1) rfl) dX8_readsPerson_128 ?_
                  refine lv_iconst (v := 1) hx hb dX8_readsPerson_131 (by decide) ?_
                  refine lv_iadd hx hb dX8_readsPerson_132 ?_
                  refine x_puti C0 hO 24 7 tyX8 tyX8_ok nmX8 rfl rfl (by decide) rfl iX8_readsPerson_8 rfl rfl rfl (List.mem_of_getElem? (i := 1) rfl) dX8_readsPerson_133 (fun σ50 H locs eσ50 hO => ?_)
                  replace hw := hw σ50 eσ50
                  refine lv_iconst (v := 1) hx hb dX8_readsPerson_136 (by decide) ?_
                  exact x_zret C0 hO rfl hw dX8_readsPerson_137
              · replace hw := hw.1 c43
                refine lv_iconst (v := 0) hx hb dX8_readsPerson_99 (by decide) ?_
                refine lv_goto (tgt := 114) hx hb dX8_readsPerson_100 (by decide) ?_
                refine x_iast C0 hO 27 rfl hw.1 dX8_readsPerson_114 (fun σ51 H locs eσ51 hO => ?_)
                replace hw := hw.2 σ51 eσ51
                refine lv_aload_n hx hb dX8_readsPerson_115 rfl (lv_at hl 2 rfl) ?_
                refine x_getr C0 hO 24 9 28 rfl rfl (by decide) rfl iX8_readsPerson_8 rfl (List.mem_of_getElem? (i := 4) rfl) dX8_readsPerson_116 ?_
                refine lv_aload_n hx hb dX8_readsPerson_119 rfl (lv_at hl 2 rfl) ?_
                refine x_geti C0 hO 24 7 rfl rfl (by decide) rfl iX8_readsPerson_8 rfl (List.mem_of_getElem? (i := 1) rfl) dX8_readsPerson_120 ?_
                refine lv_iload hx hb dX8_readsPerson_123 (lv_at hl 0 rfl) ?_
                refine x_iast C0 hO 28 rfl hw.1 dX8_readsPerson_125 (fun σ52 H locs eσ52 hO => ?_)
                replace hw := hw.2 σ52 eσ52
                refine lv_aload_n hx hb dX8_readsPerson_126 rfl (lv_at hl 2 rfl) ?_
                refine lv_dup hx hb dX8_readsPerson_127 rfl ?_
                refine x_geti C0 hO 24 7 rfl rfl (by decide) rfl iX8_readsPerson_8 rfl (List.mem_of_getElem? (i := 1) rfl) dX8_readsPerson_128 ?_
                refine lv_iconst (v := 1) hx hb dX8_readsPerson_131 (by decide) ?_
                refine lv_iadd hx hb dX8_readsPerson_132 ?_
                refine x_puti C0 hO 24 7 tyX8 tyX8_ok nmX8 rfl rfl (by decide) rfl iX8_readsPerson_8 rfl rfl rfl (List.mem_of_getElem? (i := 1) rfl) dX8_readsPerson_133 (fun σ53 H locs eσ53 hO => ?_)
                replace hw := hw σ53 eσ53
                refine lv_iconst (v := 1) hx hb dX8_readsPerson_136 (by decide) ?_
                exact x_zret C0 hO rfl hw dX8_readsPerson_137
            · replace hw := hw.2 c42
              refine lv_iconst (v := 0) hx hb dX8_readsPerson_83 (by decide) ?_
              exact x_zret C0 hO rfl hw dX8_readsPerson_84
          · replace hw := hw.2 c38
            refine lv_iconst (v := 0) hx hb dX8_readsPerson_56 (by decide) ?_
            exact x_zret C0 hO rfl hw dX8_readsPerson_57
    · replace hw := hw.2 c3
      refine lv_iconst (v := 0) hx hb dX8_readsPerson_19 (by decide) ?_
      exact x_zret C0 hO rfl hw dX8_readsPerson_20
theorem iX8_readsHall_8 : ∀ w ∈ wsX80, w ∈ wsX8_readsHall := fun w h => List.mem_cons_of_mem _ (List.mem_append_right _ h)
theorem hdX8_readsHall : yX8_readsHall.cls = RX8 ∧ yX8_readsHall.cls ≠ "java/lang/invoke/MethodHandle" ∧ yX8_readsHall.cls ≠ "java/lang/invoke/VarHandle" ∧ (parseMethodDescriptor yX8_readsHall.desc).map (fun d => d.parameters.length) = some 2 := by decide +kernel
set_option maxHeartbeats 4000000 in
set_option maxRecDepth 100000 in
theorem lX8_readsHall_80 {p : Program} {l : Launch} {e : Env} {s : State} {m : MethodId} {args : Array Value} {below : List Frame} {meth : Method} {c : Code} {g : XG} {A : Nat → Prop} (C0 : xC g A wsX8_readsHall RX8 cX8_readsHall 4 (some .boolean) p s m args meth c) (f1 : Int32) (f2 : Int32) (post : Int32 → XS → Prop) (kx : Int32 → XS → Prop)
    (hkx : ∀ (m3 : Int32) (σ : XS) (H : Heap) (locs : List Loc) (ls : Array Slot), kx m3 σ → xO g A s σ H locs → lv_has ls 4 [(0, .ref (xa g 24)), (1, .int f1), (2, .int f2), (3, .int m3)] → W p l e (headSpec wsX8_readsHall rmX8_readsHall).room s m args below meth c H locs 0 0 (MQ below (va_Qi post (xAt g A) A) args s 0 0 A) (F0 m 109 ls [])) :
    ∀ (n : Nat) (m3 : Int32) (σ : XS) (H : Heap) (locs : List Loc) (ls : Array Slot), LX8_readsHall_80 f1 f2 post kx n m3 σ → xO g A s σ H locs → lv_has ls 4 [(0, .ref (xa g 24)), (1, .int f1), (2, .int f2), (3, .int m3)] → W p l e (headSpec wsX8_readsHall rmX8_readsHall).room s m args below meth c H locs 0 0 (MQ below (va_Qi post (xAt g A) A) args s 0 0 A) (F0 m 80 ls []) := by
  have hx := C0.1
  have hb := C0.2.1
  have hown := C0.2.2.2.2.2.1
  have hts := C0.2.2.2.2.2.2.1
  intro n
  induction n with
  | zero =>
    intro m3 σ H locs ls hw
    exact hw.elim
  | succ n ih =>
    intro m3 σ H locs ls hw hO hl
    rw [LX8_readsHall_80] at hw
    refine lv_iload_n hx hb dX8_readsHall_80 rfl (lv_at hl 3 rfl) ?_
    refine lv_if_eq (tgt := 109) hx hb dX8_readsHall_81 (by decide) (fun c10 => ?_) (fun c10 => ?_)
    · replace hw := hw.1 c10
      exact hkx _ _ _ _ _ hw hO (lv_sub hl [0, 1, 2, 3] rfl)
    · replace hw := hw.2 c10
      refine lv_aload_n hx hb dX8_readsHall_84 rfl (lv_at hl 0 rfl) ?_
      refine x_geti C0 hO 24 7 rfl rfl (by decide) rfl iX8_readsHall_8 rfl (List.mem_of_getElem? (i := 2) rfl) dX8_readsHall_85 ?_
      refine lv_if_eq (tgt := 99) hx hb dX8_readsHall_88 (by decide) (fun c11 => ?_) (fun c11 => ?_)
      · replace hw := hw.1 c11
        refine lv_aload_n hx hb dX8_readsHall_99 rfl (lv_at hl 0 rfl) ?_
        refine lv_iload_n hx hb dX8_readsHall_100 rfl (lv_at hl 1 rfl) ?_
        refine lv_iload_n hx hb dX8_readsHall_101 rfl (lv_at hl 2 rfl) ?_
        refine x_calli C0 hO (x_runV (As := [.int f1, .int f2]) (rest := []) C0 hO (kX8_readsPerson l g _ f1 f2 σ _ hw) 2 rfl (xRecv C0 hO (j := 24) rfl rfl) gX8_readsHall_X8_readsPerson rfl rfl rfl hdX8_readsPerson ⟨Nat.le_of_ble_eq_true rfl, Nat.le_of_ble_eq_true rfl⟩ hl.1 rfl (Nat.le_of_ble_eq_true rfl) dX8_readsHall_102 ⟨Nat.le_of_ble_eq_true rfl, Nat.le_of_ble_eq_true rfl⟩) (fun r12 σ13 H locs hw hO => ?_)
        refine lv_istore_n (lv' := [(3, .int r12), (0, .ref (xa g 24)), (1, .int f1), (2, .int f2)]) hx hb dX8_readsHall_105 rfl hl (by decide) rfl (fun ls hl => ?_)
        refine lv_goto (tgt := 80) hx hb dX8_readsHall_106 (by decide) ?_
        exact ih _ _ _ _ _ hw hO (lv_sub hl [1, 2, 3, 0] rfl)
      · replace hw := hw.2 c11
        refine lv_aload_n hx hb dX8_readsHall_91 rfl (lv_at hl 0 rfl) ?_
        refine x_geti C0 hO 24 5 rfl rfl (by decide) rfl iX8_readsHall_8 rfl (List.mem_of_getElem? (i := 1) rfl) dX8_readsHall_92 ?_
        refine lv_iload_n hx hb dX8_readsHall_95 rfl (lv_at hl 2 rfl) ?_
        refine lv_icmp_ge (tgt := 109) hx hb dX8_readsHall_96 (by decide) (fun c14 => ?_) (fun c14 => ?_)
        · replace hw := hw.1 c14
          exact hkx _ _ _ _ _ hw hO (lv_sub hl [0, 1, 2, 3] rfl)
        · replace hw := hw.2 c14
          refine lv_aload_n hx hb dX8_readsHall_99 rfl (lv_at hl 0 rfl) ?_
          refine lv_iload_n hx hb dX8_readsHall_100 rfl (lv_at hl 1 rfl) ?_
          refine lv_iload_n hx hb dX8_readsHall_101 rfl (lv_at hl 2 rfl) ?_
          refine x_calli C0 hO (x_runV (As := [.int f1, .int f2]) (rest := []) C0 hO (kX8_readsPerson l g _ f1 f2 σ _ hw) 2 rfl (xRecv C0 hO (j := 24) rfl rfl) gX8_readsHall_X8_readsPerson rfl rfl rfl hdX8_readsPerson ⟨Nat.le_of_ble_eq_true rfl, Nat.le_of_ble_eq_true rfl⟩ hl.1 rfl (Nat.le_of_ble_eq_true rfl) dX8_readsHall_102 ⟨Nat.le_of_ble_eq_true rfl, Nat.le_of_ble_eq_true rfl⟩) (fun r15 σ16 H locs hw hO => ?_)
          refine lv_istore_n (lv' := [(3, .int r15), (0, .ref (xa g 24)), (1, .int f1), (2, .int f2)]) hx hb dX8_readsHall_105 rfl hl (by decide) rfl (fun ls hl => ?_)
          refine lv_goto (tgt := 80) hx hb dX8_readsHall_106 (by decide) ?_
          exact ih _ _ _ _ _ hw hO (lv_sub hl [1, 2, 3, 0] rfl)
set_option maxHeartbeats 4000000 in
set_option maxRecDepth 100000 in
theorem kX8_readsHall (l : Launch) (g : XG) (sz : Nat) (a1 : Int32) (a2 : Int32) (σ : XS) (post : Int32 → XS → Prop) (hw : PX8_readsHall a1 a2 σ post) : xMi l yX8_readsHall wsX8_readsHall rmX8_readsHall 0 0 g sz [.ref (xa g 24), .int a1, .int a2] σ post := by
  unfold PX8_readsHall at hw
  refine x_head (Qc := fun A => va_Qi post (xAt g A) A) (cc := cX8_readsHall) (maxL := 4) (ret := (some .boolean)) (by decide) rfl ?_
  intro p e s m below meth c A C0 hnm hO
  refine x_entry (Nat.le_of_ble_eq_true rfl) (fun ls hl => ?_)
  have hl : lv_has ls 4 [(0, .ref (xa g 24)), (1, .int a1), (2, .int a2)] := hl
  have hx := C0.1
  have hb := C0.2.1
  have hown := C0.2.2.2.2.2.1
  have hts := C0.2.2.2.2.2.2.1
  refine lv_aload_n hx hb dX8_readsHall_0 rfl (lv_at hl 0 rfl) ?_
  refine lv_iconst (v := 0) hx hb dX8_readsHall_1 (by decide) ?_
  refine x_puti C0 hO 24 5 tyX8 tyX8_ok nmX8 rfl rfl (by decide) rfl iX8_readsHall_8 rfl rfl rfl (List.mem_of_getElem? (i := 1) rfl) dX8_readsHall_2 (fun σ1 H locs eσ1 hO => ?_)
  replace hw := hw σ1 eσ1
  refine lv_aload_n hx hb dX8_readsHall_5 rfl (lv_at hl 0 rfl) ?_
  refine lv_iconst (v := 0) hx hb dX8_readsHall_6 (by decide) ?_
  refine x_puti C0 hO 24 7 tyX8 tyX8_ok nmX8 rfl rfl (by decide) rfl iX8_readsHall_8 rfl rfl rfl (List.mem_of_getElem? (i := 2) rfl) dX8_readsHall_7 (fun σ2 H locs eσ2 hO => ?_)
  replace hw := hw σ2 eσ2
  refine lv_aload_n hx hb dX8_readsHall_10 rfl (lv_at hl 0 rfl) ?_
  refine lv_iload_n hx hb dX8_readsHall_11 rfl (lv_at hl 1 rfl) ?_
  refine lv_iload_n hx hb dX8_readsHall_12 rfl (lv_at hl 2 rfl) ?_
  refine x_calli C0 hO (x_runV (As := [.int a1, .int a2]) (rest := []) C0 hO (kX8_codeAt l g _ a1 a2 σ2 _ hw) 2 rfl (xRecv C0 hO (j := 24) rfl rfl) gX8_readsHall_X8_codeAt rfl rfl rfl hdX8_codeAt ⟨Nat.le_of_ble_eq_true rfl, Nat.le_of_ble_eq_true rfl⟩ hl.1 rfl (Nat.le_of_ble_eq_true rfl) dX8_readsHall_13 ⟨Nat.le_of_ble_eq_true rfl, Nat.le_of_ble_eq_true rfl⟩) (fun r3 σ' H locs hw hO => ?_)
  obtain ⟨hσ, hw⟩ := hw
  subst hσ
  refine lv_bipush (v := 104) hx hb dX8_readsHall_16 (by decide) ?_
  refine lv_icmp_ne (tgt := 25) hx hb dX8_readsHall_18 (by decide) (fun c4 => ?_) (fun c4 => ?_)
  · replace hw := hw.2 c4
    refine lv_iconst (v := 0) hx hb dX8_readsHall_25 (by decide) ?_
    refine lv_istore_n (lv' := [(3, .int (0 : Int32)), (0, .ref (xa g 24)), (1, .int a1), (2, .int a2)]) hx hb dX8_readsHall_26 rfl hl (by decide) rfl (fun ls hl => ?_)
    refine lv_aload_n hx hb dX8_readsHall_27 rfl (lv_at hl 1 rfl) ?_
    refine lv_dup hx hb dX8_readsHall_28 rfl ?_
    refine x_geti C0 hO 24 5 rfl rfl (by decide) rfl iX8_readsHall_8 rfl (List.mem_of_getElem? (i := 1) rfl) dX8_readsHall_29 ?_
    refine lv_iload_n hx hb dX8_readsHall_32 rfl (lv_at hl 0 rfl) ?_
    refine lv_if_eq (tgt := 40) hx hb dX8_readsHall_33 (by decide) (fun c5 => ?_) (fun c5 => ?_)
    · replace hw := hw.1 c5
      refine lv_iconst (v := 0) hx hb dX8_readsHall_40 (by decide) ?_
      refine lv_iadd hx hb dX8_readsHall_41 ?_
      refine x_puti C0 hO 24 5 tyX8 tyX8_ok nmX8 rfl rfl (by decide) rfl iX8_readsHall_8 rfl rfl rfl (List.mem_of_getElem? (i := 1) rfl) dX8_readsHall_42 (fun σ6 H locs eσ6 hO => ?_)
      replace hw := hw σ6 eσ6
      refine lv_aload_n hx hb dX8_readsHall_45 rfl (lv_at hl 1 rfl) ?_
      refine lv_iload_n hx hb dX8_readsHall_46 rfl (lv_at hl 0 rfl) ?_
      refine lv_if_eq (tgt := 62) hx hb dX8_readsHall_47 (by decide) (fun c7 => ?_) (fun c7 => ?_)
      · replace hw := hw.1 c7
        refine lv_bipush (v := -9) hx hb dX8_readsHall_62 (by decide) ?_
        refine x_puti C0 hO 24 6 tyX8 tyX8_ok nmX8 rfl rfl (by decide) rfl iX8_readsHall_8 rfl rfl rfl (List.mem_of_getElem? (i := 3) rfl) dX8_readsHall_64 (fun σ8 H locs eσ8 hO => ?_)
        replace hw := hw σ8 eσ8
        refine lv_aload_n hx hb dX8_readsHall_67 rfl (lv_at hl 1 rfl) ?_
        refine x_geti C0 hO 24 6 rfl rfl (by decide) rfl iX8_readsHall_8 rfl (List.mem_of_getElem? (i := 3) rfl) dX8_readsHall_68 ?_
        refine lv_if_le (tgt := 78) hx hb dX8_readsHall_71 (by decide) (fun c9 => ?_) (fun c9 => ?_)
        · replace hw := hw.1 c9
          refine lv_iconst (v := 0) hx hb dX8_readsHall_78 (by decide) ?_
          refine lv_istore_n (lv' := [(3, .int (0 : Int32)), (0, .ref (xa g 24)), (1, .int a1), (2, .int a2)]) hx hb dX8_readsHall_79 rfl hl (by decide) rfl (fun ls hl => ?_)
          refine lX8_readsHall_80 C0 a1 a2 post _ (fun x17 σ18 H locs ls hw hO hl => ?_) 1000 _ _ _ _ _ hw hO (lv_sub hl [1, 2, 3, 0] rfl)
          refine lv_iload_n hx hb dX8_readsHall_109 rfl (lv_at hl 3 rfl) ?_
          exact x_zret C0 hO hw.1 hw.2 dX8_readsHall_110
        · replace hw := hw.2 c9
          refine lv_iconst (v := 1) hx hb dX8_readsHall_74 (by decide) ?_
          refine lv_goto (tgt := 79) hx hb dX8_readsHall_75 (by decide) ?_
          refine lv_istore_n (lv' := [(3, .int (1 : Int32)), (0, .ref (xa g 24)), (1, .int a1), (2, .int a2)]) hx hb dX8_readsHall_79 rfl hl (by decide) rfl (fun ls hl => ?_)
          refine lX8_readsHall_80 C0 a1 a2 post _ (fun x19 σ20 H locs ls hw hO hl => ?_) 1000 _ _ _ _ _ hw hO (lv_sub hl [1, 2, 3, 0] rfl)
          refine lv_iload_n hx hb dX8_readsHall_109 rfl (lv_at hl 3 rfl) ?_
          exact x_zret C0 hO hw.1 hw.2 dX8_readsHall_110
      · replace hw := hw.2 c7
        refine lv_aload_n hx hb dX8_readsHall_50 rfl (lv_at hl 1 rfl) ?_
        refine lv_iload_n hx hb dX8_readsHall_51 rfl (lv_at hl 2 rfl) ?_
        refine lv_iload_n hx hb dX8_readsHall_52 rfl (lv_at hl 3 rfl) ?_
        refine lv_iconst (v := 2) hx hb dX8_readsHall_53 (by decide) ?_
        refine lv_bipush (v := 6) hx hb dX8_readsHall_54 (by decide) ?_
        refine x_calli C0 hO (x_runV (As := [.int a1, .int a2, .int (2 : Int32), .int (6 : Int32)]) (rest := [.ref (xa g 24)]) C0 hO (kX8_figure l g _ a1 a2 (2 : Int32) (6 : Int32) σ6 _ hw) 4 rfl (xRecv C0 hO (j := 24) rfl rfl) gX8_readsHall_X8_figure rfl rfl rfl hdX8_figure ⟨Nat.le_of_ble_eq_true rfl, Nat.le_of_ble_eq_true rfl⟩ hl.1 rfl (Nat.le_of_ble_eq_true rfl) dX8_readsHall_56 ⟨Nat.le_of_ble_eq_true rfl, Nat.le_of_ble_eq_true rfl⟩) (fun r21 σ22 H locs hw hO => ?_)
        refine lv_goto (tgt := 64) hx hb dX8_readsHall_59 (by decide) ?_
        refine x_puti C0 hO 24 6 tyX8 tyX8_ok nmX8 rfl rfl (by decide) rfl iX8_readsHall_8 rfl rfl rfl (List.mem_of_getElem? (i := 3) rfl) dX8_readsHall_64 (fun σ23 H locs eσ23 hO => ?_)
        replace hw := hw σ23 eσ23
        refine lv_aload_n hx hb dX8_readsHall_67 rfl (lv_at hl 1 rfl) ?_
        refine x_geti C0 hO 24 6 rfl rfl (by decide) rfl iX8_readsHall_8 rfl (List.mem_of_getElem? (i := 3) rfl) dX8_readsHall_68 ?_
        refine lv_if_le (tgt := 78) hx hb dX8_readsHall_71 (by decide) (fun c24 => ?_) (fun c24 => ?_)
        · replace hw := hw.1 c24
          refine lv_iconst (v := 0) hx hb dX8_readsHall_78 (by decide) ?_
          refine lv_istore_n (lv' := [(3, .int (0 : Int32)), (0, .ref (xa g 24)), (1, .int a1), (2, .int a2)]) hx hb dX8_readsHall_79 rfl hl (by decide) rfl (fun ls hl => ?_)
          refine lX8_readsHall_80 C0 a1 a2 post _ (fun x25 σ26 H locs ls hw hO hl => ?_) 1000 _ _ _ _ _ hw hO (lv_sub hl [1, 2, 3, 0] rfl)
          refine lv_iload_n hx hb dX8_readsHall_109 rfl (lv_at hl 3 rfl) ?_
          exact x_zret C0 hO hw.1 hw.2 dX8_readsHall_110
        · replace hw := hw.2 c24
          refine lv_iconst (v := 1) hx hb dX8_readsHall_74 (by decide) ?_
          refine lv_goto (tgt := 79) hx hb dX8_readsHall_75 (by decide) ?_
          refine lv_istore_n (lv' := [(3, .int (1 : Int32)), (0, .ref (xa g 24)), (1, .int a1), (2, .int a2)]) hx hb dX8_readsHall_79 rfl hl (by decide) rfl (fun ls hl => ?_)
          refine lX8_readsHall_80 C0 a1 a2 post _ (fun x27 σ28 H locs ls hw hO hl => ?_) 1000 _ _ _ _ _ hw hO (lv_sub hl [1, 2, 3, 0] rfl)
          refine lv_iload_n hx hb dX8_readsHall_109 rfl (lv_at hl 3 rfl) ?_
          exact x_zret C0 hO hw.1 hw.2 dX8_readsHall_110
    · replace hw := hw.2 c5
      refine lv_iconst (v := 1) hx hb dX8_readsHall_36 (by decide) ?_
      refine lv_goto (tgt := 41) hx hb dX8_readsHall_37 (by decide) ?_
      refine lv_iadd hx hb dX8_readsHall_41 ?_
      refine x_puti C0 hO 24 5 tyX8 tyX8_ok nmX8 rfl rfl (by decide) rfl iX8_readsHall_8 rfl rfl rfl (List.mem_of_getElem? (i := 1) rfl) dX8_readsHall_42 (fun σ29 H locs eσ29 hO => ?_)
      replace hw := hw σ29 eσ29
      refine lv_aload_n hx hb dX8_readsHall_45 rfl (lv_at hl 1 rfl) ?_
      refine lv_iload_n hx hb dX8_readsHall_46 rfl (lv_at hl 0 rfl) ?_
      refine lv_if_eq (tgt := 62) hx hb dX8_readsHall_47 (by decide) (fun c30 => ?_) (fun c30 => ?_)
      · replace hw := hw.1 c30
        refine lv_bipush (v := -9) hx hb dX8_readsHall_62 (by decide) ?_
        refine x_puti C0 hO 24 6 tyX8 tyX8_ok nmX8 rfl rfl (by decide) rfl iX8_readsHall_8 rfl rfl rfl (List.mem_of_getElem? (i := 3) rfl) dX8_readsHall_64 (fun σ31 H locs eσ31 hO => ?_)
        replace hw := hw σ31 eσ31
        refine lv_aload_n hx hb dX8_readsHall_67 rfl (lv_at hl 1 rfl) ?_
        refine x_geti C0 hO 24 6 rfl rfl (by decide) rfl iX8_readsHall_8 rfl (List.mem_of_getElem? (i := 3) rfl) dX8_readsHall_68 ?_
        refine lv_if_le (tgt := 78) hx hb dX8_readsHall_71 (by decide) (fun c32 => ?_) (fun c32 => ?_)
        · replace hw := hw.1 c32
          refine lv_iconst (v := 0) hx hb dX8_readsHall_78 (by decide) ?_
          refine lv_istore_n (lv' := [(3, .int (0 : Int32)), (0, .ref (xa g 24)), (1, .int a1), (2, .int a2)]) hx hb dX8_readsHall_79 rfl hl (by decide) rfl (fun ls hl => ?_)
          refine lX8_readsHall_80 C0 a1 a2 post _ (fun x33 σ34 H locs ls hw hO hl => ?_) 1000 _ _ _ _ _ hw hO (lv_sub hl [1, 2, 3, 0] rfl)
          refine lv_iload_n hx hb dX8_readsHall_109 rfl (lv_at hl 3 rfl) ?_
          exact x_zret C0 hO hw.1 hw.2 dX8_readsHall_110
        · replace hw := hw.2 c32
          refine lv_iconst (v := 1) hx hb dX8_readsHall_74 (by decide) ?_
          refine lv_goto (tgt := 79) hx hb dX8_readsHall_75 (by decide) ?_
          refine lv_istore_n (lv' := [(3, .int (1 : Int32)), (0, .ref (xa g 24)), (1, .int a1), (2, .int a2)]) hx hb dX8_readsHall_79 rfl hl (by decide) rfl (fun ls hl => ?_)
          refine lX8_readsHall_80 C0 a1 a2 post _ (fun x35 σ36 H locs ls hw hO hl => ?_) 1000 _ _ _ _ _ hw hO (lv_sub hl [1, 2, 3, 0] rfl)
          refine lv_iload_n hx hb dX8_readsHall_109 rfl (lv_at hl 3 rfl) ?_
          exact x_zret C0 hO hw.1 hw.2 dX8_readsHall_110
      · replace hw := hw.2 c30
        refine lv_aload_n hx hb dX8_readsHall_50 rfl (lv_at hl 1 rfl) ?_
        refine lv_iload_n hx hb dX8_readsHall_51 rfl (lv_at hl 2 rfl) ?_
        refine lv_iload_n hx hb dX8_readsHall_52 rfl (lv_at hl 3 rfl) ?_
        refine lv_iconst (v := 2) hx hb dX8_readsHall_53 (by decide) ?_
        refine lv_bipush (v := 6) hx hb dX8_readsHall_54 (by decide) ?_
        refine x_calli C0 hO (x_runV (As := [.int a1, .int a2, .int (2 : Int32), .int (6 : Int32)]) (rest := [.ref (xa g 24)]) C0 hO (kX8_figure l g _ a1 a2 (2 : Int32) (6 : Int32) σ29 _ hw) 4 rfl (xRecv C0 hO (j := 24) rfl rfl) gX8_readsHall_X8_figure rfl rfl rfl hdX8_figure ⟨Nat.le_of_ble_eq_true rfl, Nat.le_of_ble_eq_true rfl⟩ hl.1 rfl (Nat.le_of_ble_eq_true rfl) dX8_readsHall_56 ⟨Nat.le_of_ble_eq_true rfl, Nat.le_of_ble_eq_true rfl⟩) (fun r37 σ38 H locs hw hO => ?_)
        refine lv_goto (tgt := 64) hx hb dX8_readsHall_59 (by decide) ?_
        refine x_puti C0 hO 24 6 tyX8 tyX8_ok nmX8 rfl rfl (by decide) rfl iX8_readsHall_8 rfl rfl rfl (List.mem_of_getElem? (i := 3) rfl) dX8_readsHall_64 (fun σ39 H locs eσ39 hO => ?_)
        replace hw := hw σ39 eσ39
        refine lv_aload_n hx hb dX8_readsHall_67 rfl (lv_at hl 1 rfl) ?_
        refine x_geti C0 hO 24 6 rfl rfl (by decide) rfl iX8_readsHall_8 rfl (List.mem_of_getElem? (i := 3) rfl) dX8_readsHall_68 ?_
        refine lv_if_le (tgt := 78) hx hb dX8_readsHall_71 (by decide) (fun c40 => ?_) (fun c40 => ?_)
        · replace hw := hw.1 c40
          refine lv_iconst (v := 0) hx hb dX8_readsHall_78 (by decide) ?_
          refine lv_istore_n (lv' := [(3, .int (0 : Int32)), (0, .ref (xa g 24)), (1, .int a1), (2, .int a2)]) hx hb dX8_readsHall_79 rfl hl (by decide) rfl (fun ls hl => ?_)
          refine lX8_readsHall_80 C0 a1 a2 post _ (fun x41 σ42 H locs ls hw hO hl => ?_) 1000 _ _ _ _ _ hw hO (lv_sub hl [1, 2, 3, 0] rfl)
          refine lv_iload_n hx hb dX8_readsHall_109 rfl (lv_at hl 3 rfl) ?_
          exact x_zret C0 hO hw.1 hw.2 dX8_readsHall_110
        · replace hw := hw.2 c40
          refine lv_iconst (v := 1) hx hb dX8_readsHall_74 (by decide) ?_
          refine lv_goto (tgt := 79) hx hb dX8_readsHall_75 (by decide) ?_
          refine lv_istore_n (lv' := [(3, .int (1 : Int32)), (0, .ref (xa g 24)), (1, .int a1), (2, .int a2)]) hx hb dX8_readsHall_79 rfl hl (by decide) rfl (fun ls hl => ?_)
          refine lX8_readsHall_80 C0 a1 a2 post _ (fun x43 σ44 H locs ls hw hO hl => ?_) 1000 _ _ _ _ _ hw hO (lv_sub hl [1, 2, 3, 0] rfl)
          refine lv_iload_n hx hb dX8_readsHall_109 rfl (lv_at hl 3 rfl) ?_
          exact x_zret C0 hO hw.1 hw.2 dX8_readsHall_110
  · replace hw := hw.1 c4
    refine lv_iconst (v := 1) hx hb dX8_readsHall_21 (by decide) ?_
    refine lv_goto (tgt := 26) hx hb dX8_readsHall_22 (by decide) ?_
    refine lv_istore_n (lv' := [(3, .int (1 : Int32)), (0, .ref (xa g 24)), (1, .int a1), (2, .int a2)]) hx hb dX8_readsHall_26 rfl hl (by decide) rfl (fun ls hl => ?_)
    refine lv_aload_n hx hb dX8_readsHall_27 rfl (lv_at hl 1 rfl) ?_
    refine lv_dup hx hb dX8_readsHall_28 rfl ?_
    refine x_geti C0 hO 24 5 rfl rfl (by decide) rfl iX8_readsHall_8 rfl (List.mem_of_getElem? (i := 1) rfl) dX8_readsHall_29 ?_
    refine lv_iload_n hx hb dX8_readsHall_32 rfl (lv_at hl 0 rfl) ?_
    refine lv_if_eq (tgt := 40) hx hb dX8_readsHall_33 (by decide) (fun c45 => ?_) (fun c45 => ?_)
    · replace hw := hw.1 c45
      refine lv_iconst (v := 0) hx hb dX8_readsHall_40 (by decide) ?_
      refine lv_iadd hx hb dX8_readsHall_41 ?_
      refine x_puti C0 hO 24 5 tyX8 tyX8_ok nmX8 rfl rfl (by decide) rfl iX8_readsHall_8 rfl rfl rfl (List.mem_of_getElem? (i := 1) rfl) dX8_readsHall_42 (fun σ46 H locs eσ46 hO => ?_)
      replace hw := hw σ46 eσ46
      refine lv_aload_n hx hb dX8_readsHall_45 rfl (lv_at hl 1 rfl) ?_
      refine lv_iload_n hx hb dX8_readsHall_46 rfl (lv_at hl 0 rfl) ?_
      refine lv_if_eq (tgt := 62) hx hb dX8_readsHall_47 (by decide) (fun c47 => ?_) (fun c47 => ?_)
      · replace hw := hw.1 c47
        refine lv_bipush (v := -9) hx hb dX8_readsHall_62 (by decide) ?_
        refine x_puti C0 hO 24 6 tyX8 tyX8_ok nmX8 rfl rfl (by decide) rfl iX8_readsHall_8 rfl rfl rfl (List.mem_of_getElem? (i := 3) rfl) dX8_readsHall_64 (fun σ48 H locs eσ48 hO => ?_)
        replace hw := hw σ48 eσ48
        refine lv_aload_n hx hb dX8_readsHall_67 rfl (lv_at hl 1 rfl) ?_
        refine x_geti C0 hO 24 6 rfl rfl (by decide) rfl iX8_readsHall_8 rfl (List.mem_of_getElem? (i := 3) rfl) dX8_readsHall_68 ?_
        refine lv_if_le (tgt := 78) hx hb dX8_readsHall_71 (by decide) (fun c49 => ?_) (fun c49 => ?_)
        · replace hw := hw.1 c49
          refine lv_iconst (v := 0) hx hb dX8_readsHall_78 (by decide) ?_
          refine lv_istore_n (lv' := [(3, .int (0 : Int32)), (0, .ref (xa g 24)), (1, .int a1), (2, .int a2)]) hx hb dX8_readsHall_79 rfl hl (by decide) rfl (fun ls hl => ?_)
          refine lX8_readsHall_80 C0 a1 a2 post _ (fun x50 σ51 H locs ls hw hO hl => ?_) 1000 _ _ _ _ _ hw hO (lv_sub hl [1, 2, 3, 0] rfl)
          refine lv_iload_n hx hb dX8_readsHall_109 rfl (lv_at hl 3 rfl) ?_
          exact x_zret C0 hO hw.1 hw.2 dX8_readsHall_110
        · replace hw := hw.2 c49
          refine lv_iconst (v := 1) hx hb dX8_readsHall_74 (by decide) ?_
          refine lv_goto (tgt := 79) hx hb dX8_readsHall_75 (by decide) ?_
          refine lv_istore_n (lv' := [(3, .int (1 : Int32)), (0, .ref (xa g 24)), (1, .int a1), (2, .int a2)]) hx hb dX8_readsHall_79 rfl hl (by decide) rfl (fun ls hl => ?_)
          refine lX8_readsHall_80 C0 a1 a2 post _ (fun x52 σ53 H locs ls hw hO hl => ?_) 1000 _ _ _ _ _ hw hO (lv_sub hl [1, 2, 3, 0] rfl)
          refine lv_iload_n hx hb dX8_readsHall_109 rfl (lv_at hl 3 rfl) ?_
          exact x_zret C0 hO hw.1 hw.2 dX8_readsHall_110
      · replace hw := hw.2 c47
        refine lv_aload_n hx hb dX8_readsHall_50 rfl (lv_at hl 1 rfl) ?_
        refine lv_iload_n hx hb dX8_readsHall_51 rfl (lv_at hl 2 rfl) ?_
        refine lv_iload_n hx hb dX8_readsHall_52 rfl (lv_at hl 3 rfl) ?_
        refine lv_iconst (v := 2) hx hb dX8_readsHall_53 (by decide) ?_
        refine lv_bipush (v := 6) hx hb dX8_readsHall_54 (by decide) ?_
        refine x_calli C0 hO (x_runV (As := [.int a1, .int a2, .int (2 : Int32), .int (6 : Int32)]) (rest := [.ref (xa g 24)]) C0 hO (kX8_figure l g _ a1 a2 (2 : Int32) (6 : Int32) σ46 _ hw) 4 rfl (xRecv C0 hO (j := 24) rfl rfl) gX8_readsHall_X8_figure rfl rfl rfl hdX8_figure ⟨Nat.le_of_ble_eq_true rfl, Nat.le_of_ble_eq_true rfl⟩ hl.1 rfl (Nat.le_of_ble_eq_true rfl) dX8_readsHall_56 ⟨Nat.le_of_ble_eq_true rfl, Nat.le_of_ble_eq_true rfl⟩) (fun r54 σ55 H locs hw hO => ?_)
        refine lv_goto (tgt := 64) hx hb dX8_readsHall_59 (by decide) ?_
        refine x_puti C0 hO 24 6 tyX8 tyX8_ok nmX8 rfl rfl (by decide) rfl iX8_readsHall_8 rfl rfl rfl (List.mem_of_getElem? (i := 3) rfl) dX8_readsHall_64 (fun σ56 H locs eσ56 hO => ?_)
        replace hw := hw σ56 eσ56
        refine lv_aload_n hx hb dX8_readsHall_67 rfl (lv_at hl 1 rfl) ?_
        refine x_geti C0 hO 24 6 rfl rfl (by decide) rfl iX8_readsHall_8 rfl (List.mem_of_getElem? (i := 3) rfl) dX8_readsHall_68 ?_
        refine lv_if_le (tgt := 78) hx hb dX8_readsHall_71 (by decide) (fun c57 => ?_) (fun c57 => ?_)
        · replace hw := hw.1 c57
          refine lv_iconst (v := 0) hx hb dX8_readsHall_78 (by decide) ?_
          refine lv_istore_n (lv' := [(3, .int (0 : Int32)), (0, .ref (xa g 24)), (1, .int a1), (2, .int a2)]) hx hb dX8_readsHall_79 rfl hl (by decide) rfl (fun ls hl => ?_)
          refine lX8_readsHall_80 C0 a1 a2 post _ (fun x58 σ59 H locs ls hw hO hl => ?_) 1000 _ _ _ _ _ hw hO (lv_sub hl [1, 2, 3, 0] rfl)
          refine lv_iload_n hx hb dX8_readsHall_109 rfl (lv_at hl 3 rfl) ?_
          exact x_zret C0 hO hw.1 hw.2 dX8_readsHall_110
        · replace hw := hw.2 c57
          refine lv_iconst (v := 1) hx hb dX8_readsHall_74 (by decide) ?_
          refine lv_goto (tgt := 79) hx hb dX8_readsHall_75 (by decide) ?_
          refine lv_istore_n (lv' := [(3, .int (1 : Int32)), (0, .ref (xa g 24)), (1, .int a1), (2, .int a2)]) hx hb dX8_readsHall_79 rfl hl (by decide) rfl (fun ls hl => ?_)
          refine lX8_readsHall_80 C0 a1 a2 post _ (fun x60 σ61 H locs ls hw hO hl => ?_) 1000 _ _ _ _ _ hw hO (lv_sub hl [1, 2, 3, 0] rfl)
          refine lv_iload_n hx hb dX8_readsHall_109 rfl (lv_at hl 3 rfl) ?_
          exact x_zret C0 hO hw.1 hw.2 dX8_readsHall_110
    · replace hw := hw.2 c45
      refine lv_iconst (v := 1) hx hb dX8_readsHall_36 (by decide) ?_
      refine lv_goto (tgt := 41) hx hb dX8_readsHall_37 (by decide) ?_
      refine lv_iadd hx hb dX8_readsHall_41 ?_
      refine x_puti C0 hO 24 5 tyX8 tyX8_ok nmX8 rfl rfl (by decide) rfl iX8_readsHall_8 rfl rfl rfl (List.mem_of_getElem? (i := 1) rfl) dX8_readsHall_42 (fun σ62 H locs eσ62 hO => ?_)
      replace hw := hw σ62 eσ62
      refine lv_aload_n hx hb dX8_readsHall_45 rfl (lv_at hl 1 rfl) ?_
      refine lv_iload_n hx hb dX8_readsHall_46 rfl (lv_at hl 0 rfl) ?_
      refine lv_if_eq (tgt := 62) hx hb dX8_readsHall_47 (by decide) (fun c63 => ?_) (fun c63 => ?_)
      · replace hw := hw.1 c63
        refine lv_bipush (v := -9) hx hb dX8_readsHall_62 (by decide) ?_
        refine x_puti C0 hO 24 6 tyX8 tyX8_ok nmX8 rfl rfl (by decide) rfl iX8_readsHall_8 rfl rfl rfl (List.mem_of_getElem? (i := 3) rfl) dX8_readsHall_64 (fun σ64 H locs eσ64 hO => ?_)
        replace hw := hw σ64 eσ64
        refine lv_aload_n hx hb dX8_readsHall_67 rfl (lv_at hl 1 rfl) ?_
        refine x_geti C0 hO 24 6 rfl rfl (by decide) rfl iX8_readsHall_8 rfl (List.mem_of_getElem? (i := 3) rfl) dX8_readsHall_68 ?_
        refine lv_if_le (tgt := 78) hx hb dX8_readsHall_71 (by decide) (fun c65 => ?_) (fun c65 => ?_)
        · replace hw := hw.1 c65
          refine lv_iconst (v := 0) hx hb dX8_readsHall_78 (by decide) ?_
          refine lv_istore_n (lv' := [(3, .int (0 : Int32)), (0, .ref (xa g 24)), (1, .int a1), (2, .int a2)]) hx hb dX8_readsHall_79 rfl hl (by decide) rfl (fun ls hl => ?_)
          refine lX8_readsHall_80 C0 a1 a2 post _ (fun x66 σ67 H locs ls hw hO hl => ?_) 1000 _ _ _ _ _ hw hO (lv_sub hl [1, 2, 3, 0] rfl)
          refine lv_iload_n hx hb dX8_readsHall_109 rfl (lv_at hl 3 rfl) ?_
          exact x_zret C0 hO hw.1 hw.2 dX8_readsHall_110
        · replace hw := hw.2 c65
          refine lv_iconst (v := 1) hx hb dX8_readsHall_74 (by decide) ?_
          refine lv_goto (tgt := 79) hx hb dX8_readsHall_75 (by decide) ?_
          refine lv_istore_n (lv' := [(3, .int (1 : Int32)), (0, .ref (xa g 24)), (1, .int a1), (2, .int a2)]) hx hb dX8_readsHall_79 rfl hl (by decide) rfl (fun ls hl => ?_)
          refine lX8_readsHall_80 C0 a1 a2 post _ (fun x68 σ69 H locs ls hw hO hl => ?_) 1000 _ _ _ _ _ hw hO (lv_sub hl [1, 2, 3, 0] rfl)
          refine lv_iload_n hx hb dX8_readsHall_109 rfl (lv_at hl 3 rfl) ?_
          exact x_zret C0 hO hw.1 hw.2 dX8_readsHall_110
      · replace hw := hw.2 c63
        refine lv_aload_n hx hb dX8_readsHall_50 rfl (lv_at hl 1 rfl) ?_
        refine lv_iload_n hx hb dX8_readsHall_51 rfl (lv_at hl 2 rfl) ?_
        refine lv_iload_n hx hb dX8_readsHall_52 rfl (lv_at hl 3 rfl) ?_
        refine lv_iconst (v := 2) hx hb dX8_readsHall_53 (by decide) ?_
        refine lv_bipush (v := 6) hx hb dX8_readsHall_54 (by decide) ?_
        refine x_calli C0 hO (x_runV (As := [.int a1, .int a2, .int (2 : Int32), .int (6 : Int32)]) (rest := [.ref (xa g 24)]) C0 hO (kX8_figure l g _ a1 a2 (2 : Int32) (6 : Int32) σ62 _ hw) 4 rfl (xRecv C0 hO (j := 24) rfl rfl) gX8_readsHall_X8_figure rfl rfl rfl hdX8_figure ⟨Nat.le_of_ble_eq_true rfl, Nat.le_of_ble_eq_true rfl⟩ hl.1 rfl (Nat.le_of_ble_eq_true rfl) dX8_readsHall_56 ⟨Nat.le_of_ble_eq_true rfl, Nat.le_of_ble_eq_true rfl⟩) (fun r70 σ71 H locs hw hO => ?_)
        refine lv_goto (tgt := 64) hx hb dX8_readsHall_59 (by decide) ?_
        refine x_puti C0 hO 24 6 tyX8 tyX8_ok nmX8 rfl rfl (by decide) rfl iX8_readsHall_8 rfl rfl rfl (List.mem_of_getElem? (i := 3) rfl) dX8_readsHall_64 (fun σ72 H locs eσ72 hO => ?_)
        replace hw := hw σ72 eσ72
        refine lv_aload_n hx hb dX8_readsHall_67 rfl (lv_at hl 1 rfl) ?_
        refine x_geti C0 hO 24 6 rfl rfl (by decide) rfl iX8_readsHall_8 rfl (List.mem_of_getElem? (i := 3) rfl) dX8_readsHall_68 ?_
        refine lv_if_le (tgt := 78) hx hb dX8_readsHall_71 (by decide) (fun c73 => ?_) (fun c73 => ?_)
        · replace hw := hw.1 c73
          refine lv_iconst (v := 0) hx hb dX8_readsHall_78 (by decide) ?_
          refine lv_istore_n (lv' := [(3, .int (0 : Int32)), (0, .ref (xa g 24)), (1, .int a1), (2, .int a2)]) hx hb dX8_readsHall_79 rfl hl (by decide) rfl (fun ls hl => ?_)
          refine lX8_readsHall_80 C0 a1 a2 post _ (fun x74 σ75 H locs ls hw hO hl => ?_) 1000 _ _ _ _ _ hw hO (lv_sub hl [1, 2, 3, 0] rfl)
          refine lv_iload_n hx hb dX8_readsHall_109 rfl (lv_at hl 3 rfl) ?_
          exact x_zret C0 hO hw.1 hw.2 dX8_readsHall_110
        · replace hw := hw.2 c73
          refine lv_iconst (v := 1) hx hb dX8_readsHall_74 (by decide) ?_
          refine lv_goto (tgt := 79) hx hb dX8_readsHall_75 (by decide) ?_
          refine lv_istore_n (lv' := [(3, .int (1 : Int32)), (0, .ref (xa g 24)), (1, .int a1), (2, .int a2)]) hx hb dX8_readsHall_79 rfl hl (by decide) rfl (fun ls hl => ?_)
          refine lX8_readsHall_80 C0 a1 a2 post _ (fun x76 σ77 H locs ls hw hO hl => ?_) 1000 _ _ _ _ _ hw hO (lv_sub hl [1, 2, 3, 0] rfl)
          refine lv_iload_n hx hb dX8_readsHall_109 rfl (lv_at hl 3 rfl) ?_
          exact x_zret C0 hO hw.1 hw.2 dX8_readsHall_110
theorem hdX8_isBeyond : yX8_isBeyond.cls = RX8 ∧ yX8_isBeyond.cls ≠ "java/lang/invoke/MethodHandle" ∧ yX8_isBeyond.cls ≠ "java/lang/invoke/VarHandle" ∧ (parseMethodDescriptor yX8_isBeyond.desc).map (fun d => d.parameters.length) = some 3 := by decide +kernel
set_option maxHeartbeats 4000000 in
set_option maxRecDepth 100000 in
theorem kX8_isBeyond (l : Launch) (g : XG) (sz : Nat) (a0 : Int32) (a1 : Int64) (a3 : Int32) (σ : XS) (post : Int32 → Prop) (hw : PX8_isBeyond a0 a1 a3 σ post) : xMi l yX8_isBeyond wsX8_isBeyond rmX8_isBeyond 0 0 g sz [.int a0, .long a1, .int a3] σ (fun r u => σ = u ∧ post r) := by
  unfold PX8_isBeyond at hw
  refine x_head (Qc := fun A => va_Qi (fun r u => σ = u ∧ post r) (xAt g A) A) (cc := cX8_isBeyond) (maxL := 4) (ret := (some .boolean)) (by decide) rfl ?_
  intro p e s m below meth c A C0 hnm hO
  refine x_entry (Nat.le_of_ble_eq_true rfl) (fun ls hl => ?_)
  have hl : lv_has ls 4 [(0, .int a0), (1, .long a1), (3, .int a3)] := hl
  have hx := C0.1
  have hb := C0.2.1
  have hown := C0.2.2.2.2.2.1
  have hts := C0.2.2.2.2.2.2.1
  refine lv_iload_n hx hb dX8_isBeyond_0 rfl (lv_at hl 0 rfl) ?_
  refine lv_if_lt (tgt := 20) hx hb dX8_isBeyond_1 (by decide) (fun c1 => ?_) (fun c1 => ?_)
  · replace hw := hw.1 c1
    refine lv_iconst (v := 1) hx hb dX8_isBeyond_20 (by decide) ?_
    refine lv_goto (tgt := 25) hx hb dX8_isBeyond_21 (by decide) ?_
    exact x_zret C0 hO rfl ⟨rfl, hw⟩ dX8_isBeyond_25
  · replace hw := hw.2 c1
    refine lv_lload_n hx hb dX8_isBeyond_4 rfl (lv_at hl 1 rfl) ?_
    refine lv_lconst (v := 0) hx hb dX8_isBeyond_5 (by decide) ?_
    refine W.lcmp hx hb dX8_isBeyond_6 ?_
    refine lv_if_lt (tgt := 20) hx hb dX8_isBeyond_7 (by decide) (fun c2 => ?_) (fun c2 => ?_)
    · replace hw := hw.1 c2
      refine lv_iconst (v := 1) hx hb dX8_isBeyond_20 (by decide) ?_
      refine lv_goto (tgt := 25) hx hb dX8_isBeyond_21 (by decide) ?_
      exact x_zret C0 hO rfl ⟨rfl, hw⟩ dX8_isBeyond_25
    · replace hw := hw.2 c2
      refine lv_iload_n hx hb dX8_isBeyond_10 rfl (lv_at hl 0 rfl) ?_
      refine lv_i2l hx hb dX8_isBeyond_11 rfl ?_
      refine lv_lload_n hx hb dX8_isBeyond_12 rfl (lv_at hl 1 rfl) ?_
      refine lv_ladd hx hb dX8_isBeyond_13 ?_
      refine lv_iload_n hx hb dX8_isBeyond_14 rfl (lv_at hl 2 rfl) ?_
      refine lv_i2l hx hb dX8_isBeyond_15 rfl ?_
      refine W.lcmp hx hb dX8_isBeyond_16 ?_
      refine lv_if_le (tgt := 24) hx hb dX8_isBeyond_17 (by decide) (fun c3 => ?_) (fun c3 => ?_)
      · replace hw := hw.1 c3
        refine lv_iconst (v := 0) hx hb dX8_isBeyond_24 (by decide) ?_
        exact x_zret C0 hO rfl ⟨rfl, hw⟩ dX8_isBeyond_25
      · replace hw := hw.2 c3
        refine lv_iconst (v := 1) hx hb dX8_isBeyond_20 (by decide) ?_
        refine lv_goto (tgt := 25) hx hb dX8_isBeyond_21 (by decide) ?_
        exact x_zret C0 hO rfl ⟨rfl, hw⟩ dX8_isBeyond_25
