/-! generated: contracts -/
theorem iX8_scraped_8 : ∀ w ∈ wsX80, w ∈ wsX8_scraped := fun w h => List.mem_cons_of_mem _ (List.mem_append_right _ h)
theorem hdX8_scraped : yX8_scraped.cls = RX8 ∧ yX8_scraped.cls ≠ "java/lang/invoke/MethodHandle" ∧ yX8_scraped.cls ≠ "java/lang/invoke/VarHandle" ∧ (parseMethodDescriptor yX8_scraped.desc).map (fun d => d.parameters.length) = some 1 := by decide +kernel
set_option maxHeartbeats 4000000 in
set_option maxRecDepth 100000 in
theorem lX8_scraped_29 {p : Program} {l : Launch} {e : Env} {s : State} {m : MethodId} {args : Array Value} {below : List Frame} {meth : Method} {c : Code} {g : XG} {A : Nat → Prop} (C0 : xC g A wsX8_scraped RX8 cX8_scraped 4 (some .int) p s m args meth c) (f1 : Int32) (post : Int32 → XS → Prop) (kx : Int32 → Int32 → XS → Prop)
    (hkx : ∀ (m2 : Int32) (m3 : Int32) (σ : XS) (H : Heap) (locs : List Loc) (ls : Array Slot), kx m2 m3 σ → xO g A s σ H locs → lv_has ls 4 [(0, .ref (xa g 24)), (1, .int f1), (2, .int m2), (3, .int m3)] → W p l e (headSpec wsX8_scraped rmX8_scraped).room s m args below meth c H locs 0 0 (MQ below (va_Qi post (xAt g A) A) args s 0 0 A) (F0 m 65 ls [])) :
    ∀ (n : Nat) (m2 : Int32) (m3 : Int32) (σ : XS) (H : Heap) (locs : List Loc) (ls : Array Slot), LX8_scraped_29 f1 post kx n m2 m3 σ → xO g A s σ H locs → lv_has ls 4 [(0, .ref (xa g 24)), (1, .int f1), (2, .int m2), (3, .int m3)] → W p l e (headSpec wsX8_scraped rmX8_scraped).room s m args below meth c H locs 0 0 (MQ below (va_Qi post (xAt g A) A) args s 0 0 A) (F0 m 29 ls []) := by
  have hx := C0.1
  have hb := C0.2.1
  have hown := C0.2.2.2.2.2.1
  have hts := C0.2.2.2.2.2.2.1
  intro n
  induction n with
  | zero =>
    intro m2 m3 σ H locs ls hw
    exact hw.elim
  | succ n ih =>
    intro m2 m3 σ H locs ls hw hO hl
    rw [LX8_scraped_29] at hw
    refine lv_iload_n hx hb dX8_scraped_29 rfl (lv_at hl 3 rfl) ?_
    refine lv_aload_n hx hb dX8_scraped_30 rfl (lv_at hl 0 rfl) ?_
    refine x_geti C0 hO 24 1 rfl rfl (by decide) rfl iX8_scraped_8 rfl (List.mem_of_getElem? (i := 3) rfl) dX8_scraped_31 ?_
    refine lv_icmp_ge (tgt := 65) hx hb dX8_scraped_34 (by decide) (fun c5 => ?_) (fun c5 => ?_)
    · replace hw := hw.1 c5
      exact hkx _ _ _ _ _ _ hw hO (lv_sub hl [0, 1, 2, 3] rfl)
    · replace hw := hw.2 c5
      refine lv_aload_n hx hb dX8_scraped_37 rfl (lv_at hl 0 rfl) ?_
      refine lv_iload_n hx hb dX8_scraped_38 rfl (lv_at hl 3 rfl) ?_
      refine x_puti C0 hO 24 26 tyX8 tyX8_ok nmX8 rfl rfl (by decide) rfl iX8_scraped_8 rfl rfl rfl (List.mem_of_getElem? (i := 4) rfl) dX8_scraped_39 (fun σ6 H locs eσ6 hO => ?_)
      replace hw := hw σ6 eσ6
      refine lv_iload_n hx hb dX8_scraped_42 rfl (lv_at hl 2 rfl) ?_
      refine lv_aload_n hx hb dX8_scraped_43 rfl (lv_at hl 0 rfl) ?_
      refine x_calli C0 hO (x_runV (As := []) (rest := [.int m2]) C0 hO (kX8_areSo l g _  σ6 _ hw) 0 rfl (xRecv C0 hO (j := 24) rfl rfl) gX8_scraped_X8_areSo rfl rfl rfl hdX8_areSo ⟨Nat.le_of_ble_eq_true rfl, Nat.le_of_ble_eq_true rfl⟩ hl.1 rfl (Nat.le_of_ble_eq_true rfl) dX8_scraped_44 ⟨Nat.le_of_ble_eq_true rfl, Nat.le_of_ble_eq_true rfl⟩) (fun r7 σ8 H locs hw hO => ?_)
      refine lv_if_eq (tgt := 56) hx hb dX8_scraped_47 (by decide) (fun c9 => ?_) (fun c9 => ?_)
      · replace hw := hw.1 c9
        refine lv_iconst (v := 0) hx hb dX8_scraped_56 (by decide) ?_
        refine lv_ior hx hb dX8_scraped_57 ?_
        refine lv_topi (fun x10 ex10 => ?_)
        replace hw := hw x10 ex10
        refine lv_istore_n (lv' := [(2, .int x10), (0, .ref (xa g 24)), (1, .int f1), (3, .int m3)]) hx hb dX8_scraped_58 rfl hl (by decide) rfl (fun ls hl => ?_)
        obtain ⟨x11, ex11⟩ : ∃ z : Int32, z = m3 + 1 := ⟨_, rfl⟩
        replace hw := hw x11 ex11
        refine lv_iinc (v := x11) (lv' := [(3, .int x11), (2, .int x10), (0, .ref (xa g 24)), (1, .int f1)]) hx hb dX8_scraped_59 hl (k := 3) rfl (by rw [ex11]; rfl) (by decide) rfl (fun ls hl => ?_)
        refine lv_goto (tgt := 29) hx hb dX8_scraped_62 (by decide) ?_
        exact ih _ _ _ _ _ _ hw hO (lv_sub hl [2, 3, 1, 0] rfl)
      · replace hw := hw.2 c9
        refine lv_iconst (v := 1) hx hb dX8_scraped_50 (by decide) ?_
        refine lv_iload_n hx hb dX8_scraped_51 rfl (lv_at hl 3 rfl) ?_
        refine lv_ishl hx hb dX8_scraped_52 ?_
        refine lv_goto (tgt := 57) hx hb dX8_scraped_53 (by decide) ?_
        refine lv_ior hx hb dX8_scraped_57 ?_
        refine lv_topi (fun x12 ex12 => ?_)
        replace hw := hw x12 ex12
        refine lv_istore_n (lv' := [(2, .int x12), (0, .ref (xa g 24)), (1, .int f1), (3, .int m3)]) hx hb dX8_scraped_58 rfl hl (by decide) rfl (fun ls hl => ?_)
        obtain ⟨x13, ex13⟩ : ∃ z : Int32, z = m3 + 1 := ⟨_, rfl⟩
        replace hw := hw x13 ex13
        refine lv_iinc (v := x13) (lv' := [(3, .int x13), (2, .int x12), (0, .ref (xa g 24)), (1, .int f1)]) hx hb dX8_scraped_59 hl (k := 3) rfl (by rw [ex13]; rfl) (by decide) rfl (fun ls hl => ?_)
        refine lv_goto (tgt := 29) hx hb dX8_scraped_62 (by decide) ?_
        exact ih _ _ _ _ _ _ hw hO (lv_sub hl [2, 3, 1, 0] rfl)
set_option maxHeartbeats 4000000 in
set_option maxRecDepth 100000 in
theorem kX8_scraped (l : Launch) (g : XG) (sz : Nat) (a1 : Int32) (σ : XS) (post : Int32 → XS → Prop) (hw : PX8_scraped a1 σ post) : xMi l yX8_scraped wsX8_scraped rmX8_scraped 0 0 g sz [.ref (xa g 24), .int a1] σ post := by
  unfold PX8_scraped at hw
  refine x_head (Qc := fun A => va_Qi post (xAt g A) A) (cc := cX8_scraped) (maxL := 4) (ret := (some .int)) (by decide) rfl ?_
  intro p e s m below meth c A C0 hnm hO
  refine x_entry (Nat.le_of_ble_eq_true rfl) (fun ls hl => ?_)
  have hl : lv_has ls 4 [(0, .ref (xa g 24)), (1, .int a1)] := hl
  have hx := C0.1
  have hb := C0.2.1
  have hown := C0.2.2.2.2.2.1
  have hts := C0.2.2.2.2.2.2.1
  refine lv_iload_n hx hb dX8_scraped_0 rfl (lv_at hl 1 rfl) ?_
  refine x_calli C0 hO (x_runS (As := [.int a1]) (rest := []) C0 hO (kX8_isNight l g _ a1 σ _ hw) 1 rfl gX8_scraped_X8_isNight rfl rfl rfl hdX8_isNight.2 ⟨Nat.le_of_ble_eq_true rfl, Nat.le_of_ble_eq_true rfl⟩ hl.1 rfl (Nat.le_of_ble_eq_true rfl) dX8_scraped_1 ⟨Nat.le_of_ble_eq_true rfl, Nat.le_of_ble_eq_true rfl⟩) (fun r1 σ' H locs hw hO => ?_)
  obtain ⟨hσ, hw⟩ := hw
  subst hσ
  refine lv_if_ne (tgt := 10) hx hb dX8_scraped_4 (by decide) (fun c2 => ?_) (fun c2 => ?_)
  · replace hw := hw.2 c2
    refine lv_aload_n hx hb dX8_scraped_10 rfl (lv_at hl 0 rfl) ?_
    refine x_geti C0 hO 24 2 rfl rfl (by decide) rfl iX8_scraped_8 rfl (List.mem_of_getElem? (i := 1) rfl) dX8_scraped_11 ?_
    refine lv_if_ne (tgt := 20) hx hb dX8_scraped_14 (by decide) (fun c3 => ?_) (fun c3 => ?_)
    · replace hw := hw.2 c3
      refine lv_iconst (v := 0) hx hb dX8_scraped_20 (by decide) ?_
      refine lv_istore_n (lv' := [(2, .int (0 : Int32)), (0, .ref (xa g 24)), (1, .int a1)]) hx hb dX8_scraped_21 rfl hl (by decide) rfl (fun ls hl => ?_)
      refine lv_aload_n hx hb dX8_scraped_22 rfl (lv_at hl 1 rfl) ?_
      refine lv_iload_n hx hb dX8_scraped_23 rfl (lv_at hl 2 rfl) ?_
      refine x_puti C0 hO 24 25 tyX8 tyX8_ok nmX8 rfl rfl (by decide) rfl iX8_scraped_8 rfl rfl rfl (List.mem_of_getElem? (i := 2) rfl) dX8_scraped_24 (fun σ4 H locs eσ4 hO => ?_)
      replace hw := hw σ4 eσ4
      refine lv_iconst (v := 0) hx hb dX8_scraped_27 (by decide) ?_
      refine lv_istore_n (lv' := [(3, .int (0 : Int32)), (2, .int (0 : Int32)), (0, .ref (xa g 24)), (1, .int a1)]) hx hb dX8_scraped_28 rfl hl (by decide) rfl (fun ls hl => ?_)
      refine lX8_scraped_29 C0 a1 post _ (fun x14 x15 σ16 H locs ls hw hO hl => ?_) 1000 _ _ _ _ _ _ hw hO (lv_sub hl [2, 3, 1, 0] rfl)
      refine lv_aload_n hx hb dX8_scraped_65 rfl (lv_at hl 0 rfl) ?_
      refine x_callv C0 hO (x_runV (As := []) (rest := []) C0 hO (kX8_meanNothing l g _  σ16 _ hw) 0 rfl (xRecv C0 hO (j := 24) rfl rfl) gX8_scraped_X8_meanNothing rfl rfl rfl hdX8_meanNothing ⟨Nat.le_of_ble_eq_true rfl, Nat.le_of_ble_eq_true rfl⟩ hl.1 rfl (Nat.le_of_ble_eq_true rfl) dX8_scraped_66 ⟨Nat.le_of_ble_eq_true rfl, Nat.le_of_ble_eq_true rfl⟩) (fun σ17 H locs hw hO => ?_)
      refine lv_iload_n hx hb dX8_scraped_69 rfl (lv_at hl 2 rfl) ?_
      exact x_iret C0 hO hw dX8_scraped_70
    · replace hw := hw.1 c3
      refine lv_bipush (v := -3) hx hb dX8_scraped_17 (by decide) ?_
      exact x_iret C0 hO hw dX8_scraped_19
  · replace hw := hw.1 c2
    refine lv_bipush (v := -2) hx hb dX8_scraped_7 (by decide) ?_
    exact x_iret C0 hO hw dX8_scraped_9
theorem iX8_never_8 : ∀ w ∈ wsX80, w ∈ wsX8_never := fun w h => List.mem_cons_of_mem _ (List.mem_append_right _ h)
theorem hdX8_never : yX8_never.cls = RX8 ∧ yX8_never.cls ≠ "java/lang/invoke/MethodHandle" ∧ yX8_never.cls ≠ "java/lang/invoke/VarHandle" ∧ (parseMethodDescriptor yX8_never.desc).map (fun d => d.parameters.length) = some 0 := by decide +kernel
set_option maxHeartbeats 4000000 in
set_option maxRecDepth 100000 in
theorem lX8_never_14 {p : Program} {l : Launch} {e : Env} {s : State} {m : MethodId} {args : Array Value} {below : List Frame} {meth : Method} {c : Code} {g : XG} {A : Nat → Prop} (C0 : xC g A wsX8_never RX8 cX8_never 3 (some .int) p s m args meth c) (post : Int32 → XS → Prop) (kx : Int32 → Int32 → XS → Prop)
    (hkx : ∀ (m1 : Int32) (m2 : Int32) (σ : XS) (H : Heap) (locs : List Loc) (ls : Array Slot), kx m1 m2 σ → xO g A s σ H locs → lv_has ls 3 [(0, .ref (xa g 24)), (1, .int m1), (2, .int m2)] → W p l e (headSpec wsX8_never rmX8_never).room s m args below meth c H locs 0 0 (MQ below (va_Qi post (xAt g A) A) args s 0 0 A) (F0 m 50 ls [])) :
    ∀ (n : Nat) (m1 : Int32) (m2 : Int32) (σ : XS) (H : Heap) (locs : List Loc) (ls : Array Slot), LX8_never_14  post kx n m1 m2 σ → xO g A s σ H locs → lv_has ls 3 [(0, .ref (xa g 24)), (1, .int m1), (2, .int m2)] → W p l e (headSpec wsX8_never rmX8_never).room s m args below meth c H locs 0 0 (MQ below (va_Qi post (xAt g A) A) args s 0 0 A) (F0 m 14 ls []) := by
  have hx := C0.1
  have hb := C0.2.1
  have hown := C0.2.2.2.2.2.1
  have hts := C0.2.2.2.2.2.2.1
  intro n
  induction n with
  | zero =>
    intro m1 m2 σ H locs ls hw
    exact hw.elim
  | succ n ih =>
    intro m1 m2 σ H locs ls hw hO hl
    rw [LX8_never_14] at hw
    refine lv_iload_n hx hb dX8_never_14 rfl (lv_at hl 2 rfl) ?_
    refine lv_aload_n hx hb dX8_never_15 rfl (lv_at hl 0 rfl) ?_
    refine x_geti C0 hO 24 10 rfl rfl (by decide) rfl iX8_never_8 rfl (List.mem_of_getElem? (i := 2) rfl) dX8_never_16 ?_
    refine lv_icmp_ge (tgt := 50) hx hb dX8_never_19 (by decide) (fun c2 => ?_) (fun c2 => ?_)
    · replace hw := hw.1 c2
      exact hkx _ _ _ _ _ _ hw hO (lv_sub hl [0, 1, 2] rfl)
    · replace hw := hw.2 c2
      refine lv_aload_n hx hb dX8_never_22 rfl (lv_at hl 0 rfl) ?_
      refine lv_iload_n hx hb dX8_never_23 rfl (lv_at hl 2 rfl) ?_
      refine x_puti C0 hO 24 21 tyX8 tyX8_ok nmX8 rfl rfl (by decide) rfl iX8_never_8 rfl rfl rfl (List.mem_of_getElem? (i := 3) rfl) dX8_never_24 (fun σ3 H locs eσ3 hO => ?_)
      replace hw := hw σ3 eσ3
      refine lv_iload_n hx hb dX8_never_27 rfl (lv_at hl 1 rfl) ?_
      refine lv_aload_n hx hb dX8_never_28 rfl (lv_at hl 0 rfl) ?_
      refine x_calli C0 hO (x_runV (As := []) (rest := [.int m1]) C0 hO (kX8_areSo l g _  σ3 _ hw) 0 rfl (xRecv C0 hO (j := 24) rfl rfl) gX8_never_X8_areSo rfl rfl rfl hdX8_areSo ⟨Nat.le_of_ble_eq_true rfl, Nat.le_of_ble_eq_true rfl⟩ hl.1 rfl (Nat.le_of_ble_eq_true rfl) dX8_never_29 ⟨Nat.le_of_ble_eq_true rfl, Nat.le_of_ble_eq_true rfl⟩) (fun r4 σ5 H locs hw hO => ?_)
      refine lv_if_eq (tgt := 41) hx hb dX8_never_32 (by decide) (fun c6 => ?_) (fun c6 => ?_)
      · replace hw := hw.1 c6
        refine lv_iconst (v := 0) hx hb dX8_never_41 (by decide) ?_
        refine lv_ior hx hb dX8_never_42 ?_
        refine lv_topi (fun x7 ex7 => ?_)
        replace hw := hw x7 ex7
        refine lv_istore_n (lv' := [(1, .int x7), (0, .ref (xa g 24)), (2, .int m2)]) hx hb dX8_never_43 rfl hl (by decide) rfl (fun ls hl => ?_)
        obtain ⟨x8, ex8⟩ : ∃ z : Int32, z = m2 + 1 := ⟨_, rfl⟩
        replace hw := hw x8 ex8
        refine lv_iinc (v := x8) (lv' := [(2, .int x8), (1, .int x7), (0, .ref (xa g 24))]) hx hb dX8_never_44 hl (k := 2) rfl (by rw [ex8]; rfl) (by decide) rfl (fun ls hl => ?_)
        refine lv_goto (tgt := 14) hx hb dX8_never_47 (by decide) ?_
        exact ih _ _ _ _ _ _ hw hO (lv_sub hl [2, 1, 0] rfl)
      · replace hw := hw.2 c6
        refine lv_iconst (v := 1) hx hb dX8_never_35 (by decide) ?_
        refine lv_iload_n hx hb dX8_never_36 rfl (lv_at hl 2 rfl) ?_
        refine lv_ishl hx hb dX8_never_37 ?_
        refine lv_goto (tgt := 42) hx hb dX8_never_38 (by decide) ?_
        refine lv_ior hx hb dX8_never_42 ?_
        refine lv_topi (fun x9 ex9 => ?_)
        replace hw := hw x9 ex9
        refine lv_istore_n (lv' := [(1, .int x9), (0, .ref (xa g 24)), (2, .int m2)]) hx hb dX8_never_43 rfl hl (by decide) rfl (fun ls hl => ?_)
        obtain ⟨x10, ex10⟩ : ∃ z : Int32, z = m2 + 1 := ⟨_, rfl⟩
        replace hw := hw x10 ex10
        refine lv_iinc (v := x10) (lv' := [(2, .int x10), (1, .int x9), (0, .ref (xa g 24))]) hx hb dX8_never_44 hl (k := 2) rfl (by rw [ex10]; rfl) (by decide) rfl (fun ls hl => ?_)
        refine lv_goto (tgt := 14) hx hb dX8_never_47 (by decide) ?_
        exact ih _ _ _ _ _ _ hw hO (lv_sub hl [2, 1, 0] rfl)
set_option maxHeartbeats 4000000 in
set_option maxRecDepth 100000 in
theorem kX8_never (l : Launch) (g : XG) (sz : Nat) (σ : XS) (post : Int32 → XS → Prop) (hw : PX8_never  σ post) : xMi l yX8_never wsX8_never rmX8_never 0 0 g sz [.ref (xa g 24)] σ post := by
  unfold PX8_never at hw
  refine x_head (Qc := fun A => va_Qi post (xAt g A) A) (cc := cX8_never) (maxL := 3) (ret := (some .int)) (by decide) rfl ?_
  intro p e s m below meth c A C0 hnm hO
  refine x_entry (Nat.le_of_ble_eq_true rfl) (fun ls hl => ?_)
  have hl : lv_has ls 3 [(0, .ref (xa g 24))] := hl
  have hx := C0.1
  have hb := C0.2.1
  have hown := C0.2.2.2.2.2.1
  have hts := C0.2.2.2.2.2.2.1
  refine lv_aload_n hx hb dX8_never_0 rfl (lv_at hl 0 rfl) ?_
  refine x_geti C0 hO 24 2 rfl rfl (by decide) rfl iX8_never_8 rfl (List.mem_of_getElem? (i := 1) rfl) dX8_never_1 ?_
  refine lv_if_ne (tgt := 10) hx hb dX8_never_4 (by decide) (fun c1 => ?_) (fun c1 => ?_)
  · replace hw := hw.2 c1
    refine lv_iconst (v := 0) hx hb dX8_never_10 (by decide) ?_
    refine lv_istore_n (lv' := [(1, .int (0 : Int32)), (0, .ref (xa g 24))]) hx hb dX8_never_11 rfl hl (by decide) rfl (fun ls hl => ?_)
    refine lv_iconst (v := 0) hx hb dX8_never_12 (by decide) ?_
    refine lv_istore_n (lv' := [(2, .int (0 : Int32)), (1, .int (0 : Int32)), (0, .ref (xa g 24))]) hx hb dX8_never_13 rfl hl (by decide) rfl (fun ls hl => ?_)
    refine lX8_never_14 C0  post _ (fun x11 x12 σ13 H locs ls hw hO hl => ?_) 1000 _ _ _ _ _ _ hw hO (lv_sub hl [2, 1, 0] rfl)
    refine lv_aload_n hx hb dX8_never_50 rfl (lv_at hl 0 rfl) ?_
    refine x_callv C0 hO (x_runV (As := []) (rest := []) C0 hO (kX8_meanNothing l g _  σ13 _ hw) 0 rfl (xRecv C0 hO (j := 24) rfl rfl) gX8_never_X8_meanNothing rfl rfl rfl hdX8_meanNothing ⟨Nat.le_of_ble_eq_true rfl, Nat.le_of_ble_eq_true rfl⟩ hl.1 rfl (Nat.le_of_ble_eq_true rfl) dX8_never_51 ⟨Nat.le_of_ble_eq_true rfl, Nat.le_of_ble_eq_true rfl⟩) (fun σ14 H locs hw hO => ?_)
    refine lv_iload_n hx hb dX8_never_54 rfl (lv_at hl 1 rfl) ?_
    exact x_iret C0 hO hw dX8_never_55
  · replace hw := hw.1 c1
    refine lv_bipush (v := -3) hx hb dX8_never_7 (by decide) ?_
    exact x_iret C0 hO hw dX8_never_9
theorem iX8_layLook_8 : ∀ w ∈ wsX80, w ∈ wsX8_layLook := fun w h => List.mem_cons_of_mem _ (List.mem_append_right _ h)
theorem hdX8_layLook : yX8_layLook.cls = RX8 ∧ yX8_layLook.cls ≠ "java/lang/invoke/MethodHandle" ∧ yX8_layLook.cls ≠ "java/lang/invoke/VarHandle" ∧ (parseMethodDescriptor yX8_layLook.desc).map (fun d => d.parameters.length) = some 2 := by decide +kernel
set_option maxHeartbeats 4000000 in
set_option maxRecDepth 100000 in
theorem lX8_layLook_30 {p : Program} {l : Launch} {e : Env} {s : State} {m : MethodId} {args : Array Value} {below : List Frame} {meth : Method} {c : Code} {g : XG} {A : Nat → Prop} (C0 : xC g A wsX8_layLook RX8 cX8_layLook 7 none p s m args meth c) (f1 : Int32) (f2 : Int32) (f3 : Int32) (post : XS → Prop) (kx : Int32 → XS → Prop)
    (hkx : ∀ (m4 : Int32) (σ : XS) (H : Heap) (locs : List Loc) (ls : Array Slot), kx m4 σ → xO g A s σ H locs → lv_has ls 7 [(0, .ref (xa g 24)), (1, .int f1), (2, .int f2), (3, .int f3), (4, .int m4)] → W p l e (headSpec wsX8_layLook rmX8_layLook).room s m args below meth c H locs 0 0 (MQ below (va_Qv post (xAt g A) A) args s 0 0 A) (F0 m 114 ls [])) :
    ∀ (n : Nat) (m4 : Int32) (σ : XS) (H : Heap) (locs : List Loc) (ls : Array Slot), LX8_layLook_30 f1 f2 f3 post kx n m4 σ → xO g A s σ H locs → lv_has ls 7 [(0, .ref (xa g 24)), (1, .int f1), (2, .int f2), (3, .int f3), (4, .int m4)] → W p l e (headSpec wsX8_layLook rmX8_layLook).room s m args below meth c H locs 0 0 (MQ below (va_Qv post (xAt g A) A) args s 0 0 A) (F0 m 30 ls []) := by
  have hx := C0.1
  have hb := C0.2.1
  have hown := C0.2.2.2.2.2.1
  have hts := C0.2.2.2.2.2.2.1
  intro n
  induction n with
  | zero =>
    intro m4 σ H locs ls hw
    exact hw.elim
  | succ n ih =>
    intro m4 σ H locs ls hw hO hl
    rw [LX8_layLook_30] at hw
    refine lv_iload hx hb dX8_layLook_30 (lv_at hl 4 rfl) ?_
    refine lv_aload_n hx hb dX8_layLook_32 rfl (lv_at hl 0 rfl) ?_
    refine x_getr C0 hO 24 28 38 rfl rfl (by decide) rfl iX8_layLook_8 rfl (List.mem_of_getElem? (i := 4) rfl) dX8_layLook_33 ?_
    refine lv_iload_n hx hb dX8_layLook_36 rfl (lv_at hl 3 rfl) ?_
    refine x_iald C0 hO 38 rfl hw.1 dX8_layLook_37 ?_
    replace hw := hw.2
    refine lv_icmp_ge (tgt := 114) hx hb dX8_layLook_38 (by decide) (fun c4 => ?_) (fun c4 => ?_)
    · replace hw := hw.1 c4
      exact hkx _ _ _ _ _ hw hO (lv_sub hl [0, 1, 2, 3, 4] rfl)
    · replace hw := hw.2 c4
      refine lv_aload_n hx hb dX8_layLook_41 rfl (lv_at hl 0 rfl) ?_
      refine lv_aload_n hx hb dX8_layLook_42 rfl (lv_at hl 0 rfl) ?_
      refine x_getr C0 hO 24 29 39 rfl rfl (by decide) rfl iX8_layLook_8 rfl (List.mem_of_getElem? (i := 5) rfl) dX8_layLook_43 ?_
      refine lv_bipush (v := 25) hx hb dX8_layLook_46 (by decide) ?_
      refine lv_iload_n hx hb dX8_layLook_48 rfl (lv_at hl 3 rfl) ?_
      refine lv_imul hx hb dX8_layLook_49 ?_
      refine lv_iload hx hb dX8_layLook_50 (lv_at hl 4 rfl) ?_
      refine lv_iadd hx hb dX8_layLook_52 ?_
      refine x_iald C0 hO 39 rfl hw.1 dX8_layLook_53 ?_
      replace hw := hw.2
      refine x_calli C0 hO (x_runV (As := [.int (gI σ 39 (((25 : Int32) * f3) + m4).toNatClampNeg)]) (rest := []) C0 hO (kX8_gumBy l g _ (gI σ 39 (((25 : Int32) * f3) + m4).toNatClampNeg) σ _ hw) 1 rfl (xRecv C0 hO (j := 24) rfl rfl) gX8_layLook_X8_gumBy rfl rfl rfl hdX8_gumBy ⟨Nat.le_of_ble_eq_true rfl, Nat.le_of_ble_eq_true rfl⟩ hl.1 rfl (Nat.le_of_ble_eq_true rfl) dX8_layLook_54 ⟨Nat.le_of_ble_eq_true rfl, Nat.le_of_ble_eq_true rfl⟩) (fun r5 σ' H locs hw hO => ?_)
      obtain ⟨hσ, hw⟩ := hw
      subst hσ
      refine lv_i2l hx hb dX8_layLook_57 rfl ?_
      refine lv_topl (fun x6 ex6 => ?_)
      replace hw := hw x6 ex6
      refine lv_lstore (lv' := [(5, .long x6), (0, .ref (xa g 24)), (1, .int f1), (2, .int f2), (3, .int f3), (4, .int m4)]) hx hb dX8_layLook_58 hl (by decide) rfl (fun ls hl => ?_)
      refine lv_iload hx hb dX8_layLook_60 (lv_at hl 5 rfl) ?_
      refine lv_bipush (v := 20) hx hb dX8_layLook_62 (by decide) ?_
      refine lv_icmp_ge (tgt := 89) hx hb dX8_layLook_64 (by decide) (fun c7 => ?_) (fun c7 => ?_)
      · replace hw := hw.1 c7
        refine lv_aload_n hx hb dX8_layLook_89 rfl (lv_at hl 1 rfl) ?_
        refine x_getr C0 hO 24 36 45 rfl rfl (by decide) rfl iX8_layLook_8 rfl (List.mem_of_getElem? (i := 3) rfl) dX8_layLook_90 ?_
        refine lv_iload_n hx hb dX8_layLook_93 rfl (lv_at hl 2 rfl) ?_
        refine lv_ldc2 (v := 8) hx hb hown (hts _ (List.mem_of_getElem? (i := 6) rfl)) dX8_layLook_94 ?_
        refine lv_aload_n hx hb dX8_layLook_97 rfl (lv_at hl 1 rfl) ?_
        refine x_getr C0 hO 24 36 45 rfl rfl (by decide) rfl iX8_layLook_8 rfl (List.mem_of_getElem? (i := 3) rfl) dX8_layLook_98 ?_
        refine lv_iload_n hx hb dX8_layLook_101 rfl (lv_at hl 2 rfl) ?_
        refine x_lald C0 hO 45 rfl hw.1 dX8_layLook_102 ?_
        replace hw := hw.2
        refine lv_lmul hx hb dX8_layLook_103 ?_
        refine lv_lload hx hb dX8_layLook_104 (lv_at hl 0 rfl) ?_
        refine lv_ladd hx hb dX8_layLook_106 ?_
        refine x_last C0 hO 45 rfl hw.1 dX8_layLook_107 (fun σ8 H locs eσ8 hO => ?_)
        replace hw := hw.2 σ8 eσ8
        obtain ⟨x9, ex9⟩ : ∃ z : Int32, z = m4 + 1 := ⟨_, rfl⟩
        replace hw := hw x9 ex9
        refine lv_iinc (v := x9) (lv' := [(4, .int x9), (5, .long x6), (0, .ref (xa g 24)), (1, .int f1), (2, .int f2), (3, .int f3)]) hx hb dX8_layLook_108 hl (k := 5) rfl (by rw [ex9]; rfl) (by decide) rfl (fun ls hl => ?_)
        refine lv_goto (tgt := 30) hx hb dX8_layLook_111 (by decide) ?_
        exact ih _ _ _ _ _ hw hO (lv_sub hl [2, 3, 4, 5, 0] rfl)
      · replace hw := hw.2 c7
        refine lv_aload_n hx hb dX8_layLook_67 rfl (lv_at hl 1 rfl) ?_
        refine x_getr C0 hO 24 35 44 rfl rfl (by decide) rfl iX8_layLook_8 rfl (List.mem_of_getElem? (i := 2) rfl) dX8_layLook_68 ?_
        refine lv_iload_n hx hb dX8_layLook_71 rfl (lv_at hl 2 rfl) ?_
        refine lv_ldc2 (v := 8) hx hb hown (hts _ (List.mem_of_getElem? (i := 6) rfl)) dX8_layLook_72 ?_
        refine lv_aload_n hx hb dX8_layLook_75 rfl (lv_at hl 1 rfl) ?_
        refine x_getr C0 hO 24 35 44 rfl rfl (by decide) rfl iX8_layLook_8 rfl (List.mem_of_getElem? (i := 2) rfl) dX8_layLook_76 ?_
        refine lv_iload_n hx hb dX8_layLook_79 rfl (lv_at hl 2 rfl) ?_
        refine x_lald C0 hO 44 rfl hw.1 dX8_layLook_80 ?_
        replace hw := hw.2
        refine lv_lmul hx hb dX8_layLook_81 ?_
        refine lv_lload hx hb dX8_layLook_82 (lv_at hl 0 rfl) ?_
        refine lv_ladd hx hb dX8_layLook_84 ?_
        refine x_last C0 hO 44 rfl hw.1 dX8_layLook_85 (fun σ10 H locs eσ10 hO => ?_)
        replace hw := hw.2 σ10 eσ10
        refine lv_goto (tgt := 108) hx hb dX8_layLook_86 (by decide) ?_
        obtain ⟨x11, ex11⟩ : ∃ z : Int32, z = m4 + 1 := ⟨_, rfl⟩
        replace hw := hw x11 ex11
        refine lv_iinc (v := x11) (lv' := [(4, .int x11), (5, .long x6), (0, .ref (xa g 24)), (1, .int f1), (2, .int f2), (3, .int f3)]) hx hb dX8_layLook_108 hl (k := 5) rfl (by rw [ex11]; rfl) (by decide) rfl (fun ls hl => ?_)
        refine lv_goto (tgt := 30) hx hb dX8_layLook_111 (by decide) ?_
        exact ih _ _ _ _ _ hw hO (lv_sub hl [2, 3, 4, 5, 0] rfl)
set_option maxHeartbeats 4000000 in
set_option maxRecDepth 100000 in
theorem kX8_layLook (l : Launch) (g : XG) (sz : Nat) (a1 : Int32) (a2 : Int32) (σ : XS) (post : XS → Prop) (hw : PX8_layLook a1 a2 σ post) : xMv l yX8_layLook wsX8_layLook rmX8_layLook 0 0 g sz [.ref (xa g 24), .int a1, .int a2] σ post := by
  unfold PX8_layLook at hw
  refine x_head (Qc := fun A => va_Qv post (xAt g A) A) (cc := cX8_layLook) (maxL := 7) (ret := none) (by decide) rfl ?_
  intro p e s m below meth c A C0 hnm hO
  refine x_entry (Nat.le_of_ble_eq_true rfl) (fun ls hl => ?_)
  have hl : lv_has ls 7 [(0, .ref (xa g 24)), (1, .int a1), (2, .int a2)] := hl
  have hx := C0.1
  have hb := C0.2.1
  have hown := C0.2.2.2.2.2.1
  have hts := C0.2.2.2.2.2.2.1
  refine lv_aload_n hx hb dX8_layLook_0 rfl (lv_at hl 0 rfl) ?_
  refine x_getr C0 hO 24 27 37 rfl rfl (by decide) rfl iX8_layLook_8 rfl (List.mem_of_getElem? (i := 1) rfl) dX8_layLook_1 ?_
  refine lv_iload_n hx hb dX8_layLook_4 rfl (lv_at hl 2 rfl) ?_
  refine x_iald C0 hO 37 rfl hw.1 dX8_layLook_5 ?_
  replace hw := hw.2
  refine lv_topi (fun x1 ex1 => ?_)
  replace hw := hw x1 ex1
  refine lv_istore_n (lv' := [(3, .int x1), (0, .ref (xa g 24)), (1, .int a1), (2, .int a2)]) hx hb dX8_layLook_6 rfl hl (by decide) rfl (fun ls hl => ?_)
  refine lv_aload_n hx hb dX8_layLook_7 rfl (lv_at hl 1 rfl) ?_
  refine x_getr C0 hO 24 35 44 rfl rfl (by decide) rfl iX8_layLook_8 rfl (List.mem_of_getElem? (i := 2) rfl) dX8_layLook_8 ?_
  refine lv_iload_n hx hb dX8_layLook_11 rfl (lv_at hl 2 rfl) ?_
  refine lv_lconst (v := 0) hx hb dX8_layLook_12 (by decide) ?_
  refine x_last C0 hO 44 rfl hw.1 dX8_layLook_13 (fun σ2 H locs eσ2 hO => ?_)
  replace hw := hw.2 σ2 eσ2
  refine lv_aload_n hx hb dX8_layLook_14 rfl (lv_at hl 1 rfl) ?_
  refine x_getr C0 hO 24 36 45 rfl rfl (by decide) rfl iX8_layLook_8 rfl (List.mem_of_getElem? (i := 3) rfl) dX8_layLook_15 ?_
  refine lv_iload_n hx hb dX8_layLook_18 rfl (lv_at hl 2 rfl) ?_
  refine lv_aload_n hx hb dX8_layLook_19 rfl (lv_at hl 1 rfl) ?_
  refine x_getr C0 hO 24 28 38 rfl rfl (by decide) rfl iX8_layLook_8 rfl (List.mem_of_getElem? (i := 4) rfl) dX8_layLook_20 ?_
  refine lv_iload_n hx hb dX8_layLook_23 rfl (lv_at hl 0 rfl) ?_
  refine x_iald C0 hO 38 rfl hw.1 dX8_layLook_24 ?_
  replace hw := hw.2
  refine lv_i2l hx hb dX8_layLook_25 rfl ?_
  refine x_last C0 hO 45 rfl hw.1 dX8_layLook_26 (fun σ3 H locs eσ3 hO => ?_)
  replace hw := hw.2 σ3 eσ3
  refine lv_iconst (v := 0) hx hb dX8_layLook_27 (by decide) ?_
  refine lv_istore (lv' := [(4, .int (0 : Int32)), (3, .int x1), (0, .ref (xa g 24)), (1, .int a1), (2, .int a2)]) hx hb dX8_layLook_28 hl (by decide) rfl (fun ls hl => ?_)
  refine lX8_layLook_30 C0 a1 a2 x1 post _ (fun x12 σ13 H locs ls hw hO hl => ?_) 1000 _ _ _ _ _ hw hO (lv_sub hl [2, 3, 4, 1, 0] rfl)
  exact x_vret C0 hO hw dX8_layLook_114
theorem iX8_groupBy_8 : ∀ w ∈ wsX80, w ∈ wsX8_groupBy := fun w h => List.mem_cons_of_mem _ (List.mem_append_right _ h)
theorem hdX8_groupBy : yX8_groupBy.cls = RX8 ∧ yX8_groupBy.cls ≠ "java/lang/invoke/MethodHandle" ∧ yX8_groupBy.cls ≠ "java/lang/invoke/VarHandle" ∧ (parseMethodDescriptor yX8_groupBy.desc).map (fun d => d.parameters.length) = some 3 := by decide +kernel
set_option maxHeartbeats 4000000 in
set_option maxRecDepth 100000 in
theorem lX8_groupBy_6 {p : Program} {l : Launch} {e : Env} {s : State} {m : MethodId} {args : Array Value} {below : List Frame} {meth : Method} {c : Code} {g : XG} {A : Nat → Prop} (C0 : xC g A wsX8_groupBy RX8 cX8_groupBy 9 (some .int) p s m args meth c) (f1 : Int32) (f2 : Int32) (f3 : Int32) (post : Int32 → XS → Prop) (kx : Int32 → Int32 → XS → Prop)
    (hkx : ∀ (m4 : Int32) (m5 : Int32) (σ : XS) (H : Heap) (locs : List Loc) (ls : Array Slot), kx m4 m5 σ → xO g A s σ H locs → lv_has ls 9 [(0, .ref (xa g 24)), (1, .int f1), (2, .int f2), (3, .int f3), (4, .int m4), (5, .int m5)] → W p l e (headSpec wsX8_groupBy rmX8_groupBy).room s m args below meth c H locs 0 0 (MQ below (va_Qi post (xAt g A) A) args s 0 0 A) (F0 m 90 ls [])) :
    ∀ (n : Nat) (m4 : Int32) (m5 : Int32) (σ : XS) (H : Heap) (locs : List Loc) (ls : Array Slot), LX8_groupBy_6 f1 f2 f3 post kx n m4 m5 σ → xO g A s σ H locs → lv_has ls 9 [(0, .ref (xa g 24)), (1, .int f1), (2, .int f2), (3, .int f3), (4, .int m4), (5, .int m5)] → W p l e (headSpec wsX8_groupBy rmX8_groupBy).room s m args below meth c H locs 0 0 (MQ below (va_Qi post (xAt g A) A) args s 0 0 A) (F0 m 6 ls []) := by
  have hx := C0.1
  have hb := C0.2.1
  have hown := C0.2.2.2.2.2.1
  have hts := C0.2.2.2.2.2.2.1
  intro n
  induction n with
  | zero =>
    intro m4 m5 σ H locs ls hw
    exact hw.elim
  | succ n ih =>
    intro m4 m5 σ H locs ls hw hO hl
    rw [LX8_groupBy_6] at hw
    refine lv_iload hx hb dX8_groupBy_6 (lv_at hl 5 rfl) ?_
    refine lv_aload_n hx hb dX8_groupBy_8 rfl (lv_at hl 0 rfl) ?_
    refine x_geti C0 hO 24 2 rfl rfl (by decide) rfl iX8_groupBy_8 rfl (List.mem_of_getElem? (i := 1) rfl) dX8_groupBy_9 ?_
    refine lv_aload_n hx hb dX8_groupBy_12 rfl (lv_at hl 0 rfl) ?_
    refine x_geti C0 hO 24 1 rfl rfl (by decide) rfl iX8_groupBy_8 rfl (List.mem_of_getElem? (i := 2) rfl) dX8_groupBy_13 ?_
    refine lv_imul hx hb dX8_groupBy_16 ?_
    refine lv_icmp_ge (tgt := 90) hx hb dX8_groupBy_17 (by decide) (fun c1 => ?_) (fun c1 => ?_)
    · replace hw := hw.1 c1
      exact hkx _ _ _ _ _ _ hw hO (lv_sub hl [0, 1, 2, 3, 4, 5] rfl)
    · replace hw := hw.2 c1
      refine lv_iload hx hb dX8_groupBy_20 (lv_at hl 5 rfl) ?_
      refine lv_aload_n hx hb dX8_groupBy_22 rfl (lv_at hl 0 rfl) ?_
      refine x_geti C0 hO 24 1 rfl rfl (by decide) rfl iX8_groupBy_8 rfl (List.mem_of_getElem? (i := 2) rfl) dX8_groupBy_23 ?_
      refine lv_idiv hx hb dX8_groupBy_26 hw.1 ?_
      replace hw := hw.2
      refine lv_topi (fun x2 ex2 => ?_)
      replace hw := hw x2 ex2
      refine lv_istore (lv' := [(6, .int x2), (0, .ref (xa g 24)), (1, .int f1), (2, .int f2), (3, .int f3), (4, .int m4), (5, .int m5)]) hx hb dX8_groupBy_27 hl (by decide) rfl (fun ls hl => ?_)
      refine lv_iload hx hb dX8_groupBy_29 (lv_at hl 6 rfl) ?_
      refine lv_aload_n hx hb dX8_groupBy_31 rfl (lv_at hl 1 rfl) ?_
      refine x_geti C0 hO 24 1 rfl rfl (by decide) rfl iX8_groupBy_8 rfl (List.mem_of_getElem? (i := 2) rfl) dX8_groupBy_32 ?_
      refine lv_irem hx hb dX8_groupBy_35 hw.1 ?_
      replace hw := hw.2
      refine lv_topi (fun x3 ex3 => ?_)
      replace hw := hw x3 ex3
      refine lv_istore (lv' := [(7, .int x3), (6, .int x2), (0, .ref (xa g 24)), (1, .int f1), (2, .int f2), (3, .int f3), (4, .int m4), (5, .int m5)]) hx hb dX8_groupBy_36 hl (by decide) rfl (fun ls hl => ?_)
      refine lv_aload_n hx hb dX8_groupBy_38 rfl (lv_at hl 2 rfl) ?_
      refine lv_iload hx hb dX8_groupBy_39 (lv_at hl 1 rfl) ?_
      refine lv_iload hx hb dX8_groupBy_41 (lv_at hl 0 rfl) ?_
      refine lv_iload_n hx hb dX8_groupBy_43 rfl (lv_at hl 4 rfl) ?_
      refine x_calli C0 hO (x_runV (As := [.int x2, .int x3, .int f2]) (rest := []) C0 hO (kX8_maySit l g _ x2 x3 f2 σ _ hw) 3 rfl (xRecv C0 hO (j := 24) rfl rfl) gX8_groupBy_X8_maySit rfl rfl rfl hdX8_maySit ⟨Nat.le_of_ble_eq_true rfl, Nat.le_of_ble_eq_true rfl⟩ hl.1 rfl (Nat.le_of_ble_eq_true rfl) dX8_groupBy_44 ⟨Nat.le_of_ble_eq_true rfl, Nat.le_of_ble_eq_true rfl⟩) (fun r4 σ' H locs hw hO => ?_)
      obtain ⟨hσ, hw⟩ := hw
      subst hσ
      refine lv_if_eq (tgt := 84) hx hb dX8_groupBy_47 (by decide) (fun c5 => ?_) (fun c5 => ?_)
      · replace hw := hw.1 c5
        obtain ⟨x6, ex6⟩ : ∃ z : Int32, z = m5 + 1 := ⟨_, rfl⟩
        replace hw := hw x6 ex6
        refine lv_iinc (v := x6) (lv' := [(5, .int x6), (7, .int x3), (6, .int x2), (0, .ref (xa g 24)), (1, .int f1), (2, .int f2), (3, .int f3), (4, .int m4)]) hx hb dX8_groupBy_84 hl (k := 7) rfl (by rw [ex6]; rfl) (by decide) rfl (fun ls hl => ?_)
        refine lv_goto (tgt := 6) hx hb dX8_groupBy_87 (by decide) ?_
        exact ih _ _ _ _ _ _ hw hO (lv_sub hl [3, 4, 5, 6, 7, 0] rfl)
      · replace hw := hw.2 c5
        refine lv_aload_n hx hb dX8_groupBy_50 rfl (lv_at hl 2 rfl) ?_
        refine lv_iload hx hb dX8_groupBy_51 (lv_at hl 1 rfl) ?_
        refine lv_iload hx hb dX8_groupBy_53 (lv_at hl 0 rfl) ?_
        refine lv_iload_n hx hb dX8_groupBy_55 rfl (lv_at hl 4 rfl) ?_
        refine x_callv C0 hO (x_runV (As := [.int x2, .int x3, .int f2]) (rest := []) C0 hO (kX8_sitDown l g _ x2 x3 f2 σ _ hw) 3 rfl (xRecv C0 hO (j := 24) rfl rfl) gX8_groupBy_X8_sitDown rfl rfl rfl hdX8_sitDown ⟨Nat.le_of_ble_eq_true rfl, Nat.le_of_ble_eq_true rfl⟩ hl.1 rfl (Nat.le_of_ble_eq_true rfl) dX8_groupBy_56 ⟨Nat.le_of_ble_eq_true rfl, Nat.le_of_ble_eq_true rfl⟩) (fun σ7 H locs hw hO => ?_)
        refine lv_aload_n hx hb dX8_groupBy_59 rfl (lv_at hl 2 rfl) ?_
        refine lv_iload_n hx hb dX8_groupBy_60 rfl (lv_at hl 5 rfl) ?_
        refine x_callv C0 hO (x_runV (As := [.int f3]) (rest := []) C0 hO (kX8_goTo l g _ f3 σ7 _ hw) 1 rfl (xRecv C0 hO (j := 24) rfl rfl) gX8_groupBy_X8_goTo rfl rfl rfl hdX8_goTo ⟨Nat.le_of_ble_eq_true rfl, Nat.le_of_ble_eq_true rfl⟩ hl.1 rfl (Nat.le_of_ble_eq_true rfl) dX8_groupBy_61 ⟨Nat.le_of_ble_eq_true rfl, Nat.le_of_ble_eq_true rfl⟩) (fun σ8 H locs hw hO => ?_)
        refine lv_aload_n hx hb dX8_groupBy_64 rfl (lv_at hl 2 rfl) ?_
        refine lv_iload hx hb dX8_groupBy_65 (lv_at hl 6 rfl) ?_
        refine lv_iload_n hx hb dX8_groupBy_67 rfl (lv_at hl 3 rfl) ?_
        refine x_callv C0 hO (x_runV (As := [.int m4, .int f1]) (rest := []) C0 hO (kX8_layLook l g _ m4 f1 σ8 _ hw) 2 rfl (xRecv C0 hO (j := 24) rfl rfl) gX8_groupBy_X8_layLook rfl rfl rfl hdX8_layLook ⟨Nat.le_of_ble_eq_true rfl, Nat.le_of_ble_eq_true rfl⟩ hl.1 rfl (Nat.le_of_ble_eq_true rfl) dX8_groupBy_68 ⟨Nat.le_of_ble_eq_true rfl, Nat.le_of_ble_eq_true rfl⟩) (fun σ9 H locs hw hO => ?_)
        refine lv_aload_n hx hb dX8_groupBy_71 rfl (lv_at hl 2 rfl) ?_
        refine lv_dup hx hb dX8_groupBy_72 rfl ?_
        refine x_geti C0 hO 24 10 rfl rfl (by decide) rfl iX8_groupBy_8 rfl (List.mem_of_getElem? (i := 3) rfl) dX8_groupBy_73 ?_
        refine lv_iconst (v := 1) hx hb dX8_groupBy_76 (by decide) ?_
        refine lv_isub hx hb dX8_groupBy_77 ?_
        refine x_puti C0 hO 24 10 tyX8 tyX8_ok nmX8 rfl rfl (by decide) rfl iX8_groupBy_8 rfl rfl rfl (List.mem_of_getElem? (i := 3) rfl) dX8_groupBy_78 (fun σ10 H locs eσ10 hO => ?_)
        replace hw := hw σ10 eσ10
        obtain ⟨x11, ex11⟩ : ∃ z : Int32, z = m4 + 1 := ⟨_, rfl⟩
        replace hw := hw x11 ex11
        refine lv_iinc (v := x11) (lv' := [(4, .int x11), (7, .int x3), (6, .int x2), (0, .ref (xa g 24)), (1, .int f1), (2, .int f2), (3, .int f3), (5, .int m5)]) hx hb dX8_groupBy_81 hl (k := 6) rfl (by rw [ex11]; rfl) (by decide) rfl (fun ls hl => ?_)
        obtain ⟨x12, ex12⟩ : ∃ z : Int32, z = m5 + 1 := ⟨_, rfl⟩
        replace hw := hw x12 ex12
        refine lv_iinc (v := x12) (lv' := [(5, .int x12), (4, .int x11), (7, .int x3), (6, .int x2), (0, .ref (xa g 24)), (1, .int f1), (2, .int f2), (3, .int f3)]) hx hb dX8_groupBy_84 hl (k := 7) rfl (by rw [ex12]; rfl) (by decide) rfl (fun ls hl => ?_)
        refine lv_goto (tgt := 6) hx hb dX8_groupBy_87 (by decide) ?_
        exact ih _ _ _ _ _ _ hw hO (lv_sub hl [4, 5, 6, 7, 1, 0] rfl)
set_option maxHeartbeats 4000000 in
set_option maxRecDepth 100000 in
theorem lX8_groupBy_109 {p : Program} {l : Launch} {e : Env} {s : State} {m : MethodId} {args : Array Value} {below : List Frame} {meth : Method} {c : Code} {g : XG} {A : Nat → Prop} (C0 : xC g A wsX8_groupBy RX8 cX8_groupBy 9 (some .int) p s m args meth c) (f1 : Int32) (f2 : Int32) (f3 : Int32) (f4 : Int32) (f5 : Int32) (f6 : Int32) (post : Int32 → XS → Prop) (kx : Int32 → Int32 → XS → Prop)
    (hkx : ∀ (m7 : Int32) (m8 : Int32) (σ : XS) (H : Heap) (locs : List Loc) (ls : Array Slot), kx m7 m8 σ → xO g A s σ H locs → lv_has ls 9 [(0, .ref (xa g 24)), (1, .int f1), (2, .int f2), (3, .int f3), (4, .int f4), (5, .int f5), (6, .int f6), (7, .int m7), (8, .int m8)] → W p l e (headSpec wsX8_groupBy rmX8_groupBy).room s m args below meth c H locs 0 0 (MQ below (va_Qi post (xAt g A) A) args s 0 0 A) (F0 m 168 ls [])) :
    ∀ (n : Nat) (m7 : Int32) (m8 : Int32) (σ : XS) (H : Heap) (locs : List Loc) (ls : Array Slot), LX8_groupBy_109 f1 f2 f3 f4 f5 f6 post kx n m7 m8 σ → xO g A s σ H locs → lv_has ls 9 [(0, .ref (xa g 24)), (1, .int f1), (2, .int f2), (3, .int f3), (4, .int f4), (5, .int f5), (6, .int f6), (7, .int m7), (8, .int m8)] → W p l e (headSpec wsX8_groupBy rmX8_groupBy).room s m args below meth c H locs 0 0 (MQ below (va_Qi post (xAt g A) A) args s 0 0 A) (F0 m 109 ls []) := by
  have hx := C0.1
  have hb := C0.2.1
  have hown := C0.2.2.2.2.2.1
  have hts := C0.2.2.2.2.2.2.1
  intro n
  induction n with
  | zero =>
    intro m7 m8 σ H locs ls hw
    exact hw.elim
  | succ n ih =>
    intro m7 m8 σ H locs ls hw hO hl
    rw [LX8_groupBy_109] at hw
    refine lv_iload hx hb dX8_groupBy_109 (lv_at hl 8 rfl) ?_
    refine lv_iload hx hb dX8_groupBy_111 (lv_at hl 4 rfl) ?_
    refine lv_icmp_ge (tgt := 168) hx hb dX8_groupBy_113 (by decide) (fun c17 => ?_) (fun c17 => ?_)
    · replace hw := hw.1 c17
      exact hkx _ _ _ _ _ _ hw hO (lv_sub hl [0, 1, 2, 3, 4, 5, 6, 7, 8] rfl)
    · replace hw := hw.2 c17
      refine lv_iload hx hb dX8_groupBy_116 (lv_at hl 7 rfl) ?_
      refine lv_aload_n hx hb dX8_groupBy_118 rfl (lv_at hl 0 rfl) ?_
      refine x_getr C0 hO 24 35 44 rfl rfl (by decide) rfl iX8_groupBy_8 rfl (List.mem_of_getElem? (i := 4) rfl) dX8_groupBy_119 ?_
      refine lv_iload hx hb dX8_groupBy_122 (lv_at hl 6 rfl) ?_
      refine x_lald C0 hO 44 rfl hw.1 dX8_groupBy_124 ?_
      replace hw := hw.2
      refine lv_aload_n hx hb dX8_groupBy_125 rfl (lv_at hl 0 rfl) ?_
      refine x_getr C0 hO 24 35 44 rfl rfl (by decide) rfl iX8_groupBy_8 rfl (List.mem_of_getElem? (i := 4) rfl) dX8_groupBy_126 ?_
      refine lv_iload hx hb dX8_groupBy_129 (lv_at hl 8 rfl) ?_
      refine x_lald C0 hO 44 rfl hw.1 dX8_groupBy_131 ?_
      replace hw := hw.2
      refine W.lcmp hx hb dX8_groupBy_132 ?_
      refine lv_if_ne (tgt := 158) hx hb dX8_groupBy_133 (by decide) (fun c18 => ?_) (fun c18 => ?_)
      · replace hw := hw.2 c18
        refine lv_iconst (v := 0) hx hb dX8_groupBy_158 (by decide) ?_
        refine lv_iadd hx hb dX8_groupBy_159 ?_
        refine lv_topi (fun x19 ex19 => ?_)
        replace hw := hw x19 ex19
        refine lv_istore (lv' := [(7, .int x19), (0, .ref (xa g 24)), (1, .int f1), (2, .int f2), (3, .int f3), (4, .int f4), (5, .int f5), (6, .int f6), (8, .int m8)]) hx hb dX8_groupBy_160 hl (by decide) rfl (fun ls hl => ?_)
        obtain ⟨x20, ex20⟩ : ∃ z : Int32, z = m8 + 1 := ⟨_, rfl⟩
        replace hw := hw x20 ex20
        refine lv_iinc (v := x20) (lv' := [(8, .int x20), (7, .int x19), (0, .ref (xa g 24)), (1, .int f1), (2, .int f2), (3, .int f3), (4, .int f4), (5, .int f5), (6, .int f6)]) hx hb dX8_groupBy_162 hl (k := 8) rfl (by rw [ex20]; rfl) (by decide) rfl (fun ls hl => ?_)
        refine lv_goto (tgt := 109) hx hb dX8_groupBy_165 (by decide) ?_
        exact ih _ _ _ _ _ _ hw hO (lv_sub hl [2, 3, 4, 5, 6, 7, 8, 1, 0] rfl)
      · replace hw := hw.1 c18
        refine lv_aload_n hx hb dX8_groupBy_136 rfl (lv_at hl 0 rfl) ?_
        refine x_getr C0 hO 24 36 45 rfl rfl (by decide) rfl iX8_groupBy_8 rfl (List.mem_of_getElem? (i := 5) rfl) dX8_groupBy_137 ?_
        refine lv_iload hx hb dX8_groupBy_140 (lv_at hl 6 rfl) ?_
        refine x_lald C0 hO 45 rfl hw.1 dX8_groupBy_142 ?_
        replace hw := hw.2
        refine lv_aload_n hx hb dX8_groupBy_143 rfl (lv_at hl 0 rfl) ?_
        refine x_getr C0 hO 24 36 45 rfl rfl (by decide) rfl iX8_groupBy_8 rfl (List.mem_of_getElem? (i := 5) rfl) dX8_groupBy_144 ?_
        refine lv_iload hx hb dX8_groupBy_147 (lv_at hl 8 rfl) ?_
        refine x_lald C0 hO 45 rfl hw.1 dX8_groupBy_149 ?_
        replace hw := hw.2
        refine W.lcmp hx hb dX8_groupBy_150 ?_
        refine lv_if_ne (tgt := 158) hx hb dX8_groupBy_151 (by decide) (fun c21 => ?_) (fun c21 => ?_)
        · replace hw := hw.2 c21
          refine lv_iconst (v := 0) hx hb dX8_groupBy_158 (by decide) ?_
          refine lv_iadd hx hb dX8_groupBy_159 ?_
          refine lv_topi (fun x22 ex22 => ?_)
          replace hw := hw x22 ex22
          refine lv_istore (lv' := [(7, .int x22), (0, .ref (xa g 24)), (1, .int f1), (2, .int f2), (3, .int f3), (4, .int f4), (5, .int f5), (6, .int f6), (8, .int m8)]) hx hb dX8_groupBy_160 hl (by decide) rfl (fun ls hl => ?_)
          obtain ⟨x23, ex23⟩ : ∃ z : Int32, z = m8 + 1 := ⟨_, rfl⟩
          replace hw := hw x23 ex23
          refine lv_iinc (v := x23) (lv' := [(8, .int x23), (7, .int x22), (0, .ref (xa g 24)), (1, .int f1), (2, .int f2), (3, .int f3), (4, .int f4), (5, .int f5), (6, .int f6)]) hx hb dX8_groupBy_162 hl (k := 8) rfl (by rw [ex23]; rfl) (by decide) rfl (fun ls hl => ?_)
          refine lv_goto (tgt := 109) hx hb dX8_groupBy_165 (by decide) ?_
          exact ih _ _ _ _ _ _ hw hO (lv_sub hl [2, 3, 4, 5, 6, 7, 8, 1, 0] rfl)
        · replace hw := hw.1 c21
          refine lv_iconst (v := 1) hx hb dX8_groupBy_154 (by decide) ?_
          refine lv_goto (tgt := 159) hx hb dX8_groupBy_155 (by decide) ?_
          refine lv_iadd hx hb dX8_groupBy_159 ?_
          refine lv_topi (fun x24 ex24 => ?_)
          replace hw := hw x24 ex24
          refine lv_istore (lv' := [(7, .int x24), (0, .ref (xa g 24)), (1, .int f1), (2, .int f2), (3, .int f3), (4, .int f4), (5, .int f5), (6, .int f6), (8, .int m8)]) hx hb dX8_groupBy_160 hl (by decide) rfl (fun ls hl => ?_)
          obtain ⟨x25, ex25⟩ : ∃ z : Int32, z = m8 + 1 := ⟨_, rfl⟩
          replace hw := hw x25 ex25
          refine lv_iinc (v := x25) (lv' := [(8, .int x25), (7, .int x24), (0, .ref (xa g 24)), (1, .int f1), (2, .int f2), (3, .int f3), (4, .int f4), (5, .int f5), (6, .int f6)]) hx hb dX8_groupBy_162 hl (k := 8) rfl (by rw [ex25]; rfl) (by decide) rfl (fun ls hl => ?_)
          refine lv_goto (tgt := 109) hx hb dX8_groupBy_165 (by decide) ?_
          exact ih _ _ _ _ _ _ hw hO (lv_sub hl [2, 3, 4, 5, 6, 7, 8, 1, 0] rfl)
set_option maxHeartbeats 4000000 in
set_option maxRecDepth 100000 in
theorem lX8_groupBy_96 {p : Program} {l : Launch} {e : Env} {s : State} {m : MethodId} {args : Array Value} {below : List Frame} {meth : Method} {c : Code} {g : XG} {A : Nat → Prop} (C0 : xC g A wsX8_groupBy RX8 cX8_groupBy 9 (some .int) p s m args meth c) (f1 : Int32) (f2 : Int32) (f3 : Int32) (f4 : Int32) (post : Int32 → XS → Prop) (kx : Int32 → Int32 → XS → Prop)
    (hkx : ∀ (m5 : Int32) (m6 : Int32) (σ : XS) (H : Heap) (locs : List Loc) (ls : Array Slot), kx m5 m6 σ → xO g A s σ H locs → lv_has ls 9 [(0, .ref (xa g 24)), (1, .int f1), (2, .int f2), (3, .int f3), (4, .int f4), (5, .int m5), (6, .int m6)] → W p l e (headSpec wsX8_groupBy rmX8_groupBy).room s m args below meth c H locs 0 0 (MQ below (va_Qi post (xAt g A) A) args s 0 0 A) (F0 m 190 ls [])) :
    ∀ (n : Nat) (m5 : Int32) (m6 : Int32) (σ : XS) (H : Heap) (locs : List Loc) (ls : Array Slot), LX8_groupBy_96 f1 f2 f3 f4 post kx n m5 m6 σ → xO g A s σ H locs → lv_has ls 9 [(0, .ref (xa g 24)), (1, .int f1), (2, .int f2), (3, .int f3), (4, .int f4), (5, .int m5), (6, .int m6)] → W p l e (headSpec wsX8_groupBy rmX8_groupBy).room s m args below meth c H locs 0 0 (MQ below (va_Qi post (xAt g A) A) args s 0 0 A) (F0 m 96 ls []) := by
  have hx := C0.1
  have hb := C0.2.1
  have hown := C0.2.2.2.2.2.1
  have hts := C0.2.2.2.2.2.2.1
  intro n
  induction n with
  | zero =>
    intro m5 m6 σ H locs ls hw
    exact hw.elim
  | succ n ih =>
    intro m5 m6 σ H locs ls hw hO hl
    rw [LX8_groupBy_96] at hw
    refine lv_iload hx hb dX8_groupBy_96 (lv_at hl 6 rfl) ?_
    refine lv_iload hx hb dX8_groupBy_98 (lv_at hl 4 rfl) ?_
    refine lv_icmp_ge (tgt := 190) hx hb dX8_groupBy_100 (by decide) (fun c16 => ?_) (fun c16 => ?_)
    · replace hw := hw.1 c16
      exact hkx _ _ _ _ _ _ hw hO (lv_sub hl [0, 1, 2, 3, 4, 5, 6] rfl)
    · replace hw := hw.2 c16
      refine lv_iconst (v := 0) hx hb dX8_groupBy_103 (by decide) ?_
      refine lv_istore (lv' := [(7, .int (0 : Int32)), (0, .ref (xa g 24)), (1, .int f1), (2, .int f2), (3, .int f3), (4, .int f4), (5, .int m5), (6, .int m6)]) hx hb dX8_groupBy_104 hl (by decide) rfl (fun ls hl => ?_)
      refine lv_iconst (v := 0) hx hb dX8_groupBy_106 (by decide) ?_
      refine lv_istore (lv' := [(8, .int (0 : Int32)), (7, .int (0 : Int32)), (0, .ref (xa g 24)), (1, .int f1), (2, .int f2), (3, .int f3), (4, .int f4), (5, .int m5), (6, .int m6)]) hx hb dX8_groupBy_107 hl (by decide) rfl (fun ls hl => ?_)
      refine lX8_groupBy_109 C0 f1 f2 f3 f4 m5 m6 post _ (fun x26 x27 σ28 H locs ls hw hO hl => ?_) 1000 _ _ _ _ _ _ hw hO (lv_sub hl [2, 3, 4, 5, 6, 7, 8, 1, 0] rfl)
      refine lv_iload hx hb dX8_groupBy_168 (lv_at hl 7 rfl) ?_
      refine lv_iload hx hb dX8_groupBy_170 (lv_at hl 5 rfl) ?_
      refine lv_icmp_le (tgt := 180) hx hb dX8_groupBy_172 (by decide) (fun c29 => ?_) (fun c29 => ?_)
      · replace hw := hw.1 c29
        refine lv_iload hx hb dX8_groupBy_180 (lv_at hl 5 rfl) ?_
        refine lv_istore (lv' := [(5, .int m5), (0, .ref (xa g 24)), (1, .int f1), (2, .int f2), (3, .int f3), (4, .int f4), (6, .int m6), (7, .int x26), (8, .int x27)]) hx hb dX8_groupBy_182 hl (by decide) rfl (fun ls hl => ?_)
        obtain ⟨x30, ex30⟩ : ∃ z : Int32, z = m6 + 1 := ⟨_, rfl⟩
        replace hw := hw x30 ex30
        refine lv_iinc (v := x30) (lv' := [(6, .int x30), (5, .int m5), (0, .ref (xa g 24)), (1, .int f1), (2, .int f2), (3, .int f3), (4, .int f4), (7, .int x26), (8, .int x27)]) hx hb dX8_groupBy_184 hl (k := 6) rfl (by rw [ex30]; rfl) (by decide) rfl (fun ls hl => ?_)
        refine lv_goto (tgt := 96) hx hb dX8_groupBy_187 (by decide) ?_
        exact ih _ _ _ _ _ _ hw hO (lv_sub hl [2, 3, 4, 5, 6, 1, 0] rfl)
      · replace hw := hw.2 c29
        refine lv_iload hx hb dX8_groupBy_175 (lv_at hl 7 rfl) ?_
        refine lv_goto (tgt := 182) hx hb dX8_groupBy_177 (by decide) ?_
        refine lv_istore (lv' := [(5, .int x26), (0, .ref (xa g 24)), (1, .int f1), (2, .int f2), (3, .int f3), (4, .int f4), (6, .int m6), (7, .int x26), (8, .int x27)]) hx hb dX8_groupBy_182 hl (by decide) rfl (fun ls hl => ?_)
        obtain ⟨x31, ex31⟩ : ∃ z : Int32, z = m6 + 1 := ⟨_, rfl⟩
        replace hw := hw x31 ex31
        refine lv_iinc (v := x31) (lv' := [(6, .int x31), (5, .int x26), (0, .ref (xa g 24)), (1, .int f1), (2, .int f2), (3, .int f3), (4, .int f4), (7, .int x26), (8, .int x27)]) hx hb dX8_groupBy_184 hl (k := 6) rfl (by rw [ex31]; rfl) (by decide) rfl (fun ls hl => ?_)
        refine lv_goto (tgt := 96) hx hb dX8_groupBy_187 (by decide) ?_
        exact ih _ _ _ _ _ _ hw hO (lv_sub hl [2, 3, 4, 5, 6, 1, 0] rfl)
set_option maxHeartbeats 4000000 in
set_option maxRecDepth 100000 in
theorem kX8_groupBy (l : Launch) (g : XG) (sz : Nat) (a1 : Int32) (a2 : Int32) (a3 : Int32) (σ : XS) (post : Int32 → XS → Prop) (hw : PX8_groupBy a1 a2 a3 σ post) : xMi l yX8_groupBy wsX8_groupBy rmX8_groupBy 0 0 g sz [.ref (xa g 24), .int a1, .int a2, .int a3] σ post := by
  unfold PX8_groupBy at hw
  refine x_head (Qc := fun A => va_Qi post (xAt g A) A) (cc := cX8_groupBy) (maxL := 9) (ret := (some .int)) (by decide) rfl ?_
  intro p e s m below meth c A C0 hnm hO
  refine x_entry (Nat.le_of_ble_eq_true rfl) (fun ls hl => ?_)
  have hl : lv_has ls 9 [(0, .ref (xa g 24)), (1, .int a1), (2, .int a2), (3, .int a3)] := hl
  have hx := C0.1
  have hb := C0.2.1
  have hown := C0.2.2.2.2.2.1
  have hts := C0.2.2.2.2.2.2.1
  refine lv_iconst (v := 0) hx hb dX8_groupBy_0 (by decide) ?_
  refine lv_istore (lv' := [(4, .int (0 : Int32)), (0, .ref (xa g 24)), (1, .int a1), (2, .int a2), (3, .int a3)]) hx hb dX8_groupBy_1 hl (by decide) rfl (fun ls hl => ?_)
  refine lv_iconst (v := 0) hx hb dX8_groupBy_3 (by decide) ?_
  refine lv_istore (lv' := [(5, .int (0 : Int32)), (4, .int (0 : Int32)), (0, .ref (xa g 24)), (1, .int a1), (2, .int a2), (3, .int a3)]) hx hb dX8_groupBy_4 hl (by decide) rfl (fun ls hl => ?_)
  refine lX8_groupBy_6 C0 a1 a2 a3 post _ (fun x13 x14 σ15 H locs ls hw hO hl => ?_) 1000 _ _ _ _ _ _ hw hO (lv_sub hl [2, 3, 4, 5, 1, 0] rfl)
  refine lv_iconst (v := 0) hx hb dX8_groupBy_90 (by decide) ?_
  refine lv_istore (lv' := [(5, .int (0 : Int32)), (0, .ref (xa g 24)), (1, .int a1), (2, .int a2), (3, .int a3), (4, .int x13)]) hx hb dX8_groupBy_91 hl (by decide) rfl (fun ls hl => ?_)
  refine lv_iconst (v := 0) hx hb dX8_groupBy_93 (by decide) ?_
  refine lv_istore (lv' := [(6, .int (0 : Int32)), (5, .int (0 : Int32)), (0, .ref (xa g 24)), (1, .int a1), (2, .int a2), (3, .int a3), (4, .int x13)]) hx hb dX8_groupBy_94 hl (by decide) rfl (fun ls hl => ?_)
  refine lX8_groupBy_96 C0 a1 a2 a3 x13 post _ (fun x32 x33 σ34 H locs ls hw hO hl => ?_) 1000 _ _ _ _ _ _ hw hO (lv_sub hl [2, 3, 4, 5, 6, 1, 0] rfl)
  refine lv_iload hx hb dX8_groupBy_190 (lv_at hl 5 rfl) ?_
  exact x_iret C0 hO hw dX8_groupBy_192
theorem iX8_look_8 : ∀ w ∈ wsX80, w ∈ wsX8_look := fun w h => List.mem_cons_of_mem _ (List.mem_append_right _ h)
theorem hdX8_look : yX8_look.cls = RX8 ∧ yX8_look.cls ≠ "java/lang/invoke/MethodHandle" ∧ yX8_look.cls ≠ "java/lang/invoke/VarHandle" ∧ (parseMethodDescriptor yX8_look.desc).map (fun d => d.parameters.length) = some 3 := by decide +kernel
set_option maxHeartbeats 4000000 in
set_option maxRecDepth 100000 in
theorem lX8_look_47 {p : Program} {l : Launch} {e : Env} {s : State} {m : MethodId} {args : Array Value} {below : List Frame} {meth : Method} {c : Code} {g : XG} {A : Nat → Prop} (C0 : xC g A wsX8_look RX8 cX8_look 8 (some .int) p s m args meth c) (f1 : Int32) (f2 : Int32) (f3 : Int32) (post : Int32 → XS → Prop) (kx : Int32 → Int32 → Int32 → XS → Prop)
    (hkx : ∀ (m4 : Int32) (m5 : Int32) (m6 : Int32) (σ : XS) (H : Heap) (locs : List Loc) (ls : Array Slot), kx m4 m5 m6 σ → xO g A s σ H locs → lv_has ls 8 [(0, .ref (xa g 24)), (1, .int f1), (2, .int f2), (3, .int f3), (4, .int m4), (5, .int m5), (6, .int m6)] → W p l e (headSpec wsX8_look rmX8_look).room s m args below meth c H locs 0 0 (MQ below (va_Qi post (xAt g A) A) args s 0 0 A) (F0 m 104 ls [])) :
    ∀ (n : Nat) (m4 : Int32) (m5 : Int32) (m6 : Int32) (σ : XS) (H : Heap) (locs : List Loc) (ls : Array Slot), LX8_look_47 f1 f2 f3 post kx n m4 m5 m6 σ → xO g A s σ H locs → lv_has ls 8 [(0, .ref (xa g 24)), (1, .int f1), (2, .int f2), (3, .int f3), (4, .int m4), (5, .int m5), (6, .int m6)] → W p l e (headSpec wsX8_look rmX8_look).room s m args below meth c H locs 0 0 (MQ below (va_Qi post (xAt g A) A) args s 0 0 A) (F0 m 47 ls []) := by
  have hx := C0.1
  have hb := C0.2.1
  have hown := C0.2.2.2.2.2.1
  have hts := C0.2.2.2.2.2.2.1
  intro n
  induction n with
  | zero =>
    intro m4 m5 m6 σ H locs ls hw
    exact hw.elim
  | succ n ih =>
    intro m4 m5 m6 σ H locs ls hw hO hl
    rw [LX8_look_47] at hw
    refine lv_iload hx hb dX8_look_47 (lv_at hl 6 rfl) ?_
    refine lv_aload_n hx hb dX8_look_49 rfl (lv_at hl 0 rfl) ?_
    refine x_geti C0 hO 24 1 rfl rfl (by decide) rfl iX8_look_8 rfl (List.mem_of_getElem? (i := 2) rfl) dX8_look_50 ?_
    refine lv_icmp_ge (tgt := 104) hx hb dX8_look_53 (by decide) (fun c8 => ?_) (fun c8 => ?_)
    · replace hw := hw.1 c8
      exact hkx _ _ _ _ _ _ _ hw hO (lv_sub hl [0, 1, 2, 3, 4, 5, 6] rfl)
    · replace hw := hw.2 c8
      refine lv_aload_n hx hb dX8_look_56 rfl (lv_at hl 0 rfl) ?_
      refine lv_iload hx hb dX8_look_57 (lv_at hl 6 rfl) ?_
      refine lv_iload_n hx hb dX8_look_59 rfl (lv_at hl 1 rfl) ?_
      refine lv_iload_n hx hb dX8_look_60 rfl (lv_at hl 2 rfl) ?_
      refine x_calli C0 hO (x_runV (As := [.int m6, .int f1, .int f2]) (rest := []) C0 hO (kX8_groupBy l g _ m6 f1 f2 σ _ hw) 3 rfl (xRecv C0 hO (j := 24) rfl rfl) gX8_look_X8_groupBy rfl rfl rfl hdX8_groupBy ⟨Nat.le_of_ble_eq_true rfl, Nat.le_of_ble_eq_true rfl⟩ hl.1 rfl (Nat.le_of_ble_eq_true rfl) dX8_look_61 ⟨Nat.le_of_ble_eq_true rfl, Nat.le_of_ble_eq_true rfl⟩) (fun r9 σ10 H locs hw hO => ?_)
      refine lv_istore (lv' := [(7, .int r9), (0, .ref (xa g 24)), (1, .int f1), (2, .int f2), (3, .int f3), (4, .int m4), (5, .int m5), (6, .int m6)]) hx hb dX8_look_64 hl (by decide) rfl (fun ls hl => ?_)
      refine lv_iload hx hb dX8_look_66 (lv_at hl 0 rfl) ?_
      refine lv_iload hx hb dX8_look_68 (lv_at hl 6 rfl) ?_
      refine lv_icmp_ge (tgt := 78) hx hb dX8_look_70 (by decide) (fun c11 => ?_) (fun c11 => ?_)
      · replace hw := hw.1 c11
        refine lv_iload hx hb dX8_look_78 (lv_at hl 5 rfl) ?_
        refine lv_istore (lv' := [(4, .int m4), (7, .int r9), (0, .ref (xa g 24)), (1, .int f1), (2, .int f2), (3, .int f3), (5, .int m5), (6, .int m6)]) hx hb dX8_look_80 hl (by decide) rfl (fun ls hl => ?_)
        refine lv_iload hx hb dX8_look_82 (lv_at hl 1 rfl) ?_
        refine lv_iload hx hb dX8_look_84 (lv_at hl 6 rfl) ?_
        refine lv_icmp_ge (tgt := 94) hx hb dX8_look_86 (by decide) (fun c12 => ?_) (fun c12 => ?_)
        · replace hw := hw.1 c12
          refine lv_iload hx hb dX8_look_94 (lv_at hl 6 rfl) ?_
          refine lv_istore (lv' := [(5, .int m5), (4, .int m4), (7, .int r9), (0, .ref (xa g 24)), (1, .int f1), (2, .int f2), (3, .int f3), (6, .int m6)]) hx hb dX8_look_96 hl (by decide) rfl (fun ls hl => ?_)
          obtain ⟨x13, ex13⟩ : ∃ z : Int32, z = m6 + 1 := ⟨_, rfl⟩
          replace hw := hw x13 ex13
          refine lv_iinc (v := x13) (lv' := [(6, .int x13), (5, .int m5), (4, .int m4), (7, .int r9), (0, .ref (xa g 24)), (1, .int f1), (2, .int f2), (3, .int f3)]) hx hb dX8_look_98 hl (k := 7) rfl (by rw [ex13]; rfl) (by decide) rfl (fun ls hl => ?_)
          refine lv_goto (tgt := 47) hx hb dX8_look_101 (by decide) ?_
          exact ih _ _ _ _ _ _ _ hw hO (lv_sub hl [4, 5, 6, 7, 2, 1, 0] rfl)
        · replace hw := hw.2 c12
          refine lv_iload hx hb dX8_look_89 (lv_at hl 1 rfl) ?_
          refine lv_goto (tgt := 96) hx hb dX8_look_91 (by decide) ?_
          refine lv_istore (lv' := [(5, .int r9), (4, .int m4), (7, .int r9), (0, .ref (xa g 24)), (1, .int f1), (2, .int f2), (3, .int f3), (6, .int m6)]) hx hb dX8_look_96 hl (by decide) rfl (fun ls hl => ?_)
          obtain ⟨x14, ex14⟩ : ∃ z : Int32, z = m6 + 1 := ⟨_, rfl⟩
          replace hw := hw x14 ex14
          refine lv_iinc (v := x14) (lv' := [(6, .int x14), (5, .int r9), (4, .int m4), (7, .int r9), (0, .ref (xa g 24)), (1, .int f1), (2, .int f2), (3, .int f3)]) hx hb dX8_look_98 hl (k := 7) rfl (by rw [ex14]; rfl) (by decide) rfl (fun ls hl => ?_)
          refine lv_goto (tgt := 47) hx hb dX8_look_101 (by decide) ?_
          exact ih _ _ _ _ _ _ _ hw hO (lv_sub hl [4, 5, 6, 7, 2, 1, 0] rfl)
      · replace hw := hw.2 c11
        refine lv_iload hx hb dX8_look_73 (lv_at hl 7 rfl) ?_
        refine lv_goto (tgt := 80) hx hb dX8_look_75 (by decide) ?_
        refine lv_istore (lv' := [(4, .int m6), (7, .int r9), (0, .ref (xa g 24)), (1, .int f1), (2, .int f2), (3, .int f3), (5, .int m5), (6, .int m6)]) hx hb dX8_look_80 hl (by decide) rfl (fun ls hl => ?_)
        refine lv_iload hx hb dX8_look_82 (lv_at hl 1 rfl) ?_
        refine lv_iload hx hb dX8_look_84 (lv_at hl 6 rfl) ?_
        refine lv_icmp_ge (tgt := 94) hx hb dX8_look_86 (by decide) (fun c15 => ?_) (fun c15 => ?_)
        · replace hw := hw.1 c15
          refine lv_iload hx hb dX8_look_94 (lv_at hl 6 rfl) ?_
          refine lv_istore (lv' := [(5, .int m5), (4, .int m6), (7, .int r9), (0, .ref (xa g 24)), (1, .int f1), (2, .int f2), (3, .int f3), (6, .int m6)]) hx hb dX8_look_96 hl (by decide) rfl (fun ls hl => ?_)
          obtain ⟨x16, ex16⟩ : ∃ z : Int32, z = m6 + 1 := ⟨_, rfl⟩
          replace hw := hw x16 ex16
          refine lv_iinc (v := x16) (lv' := [(6, .int x16), (5, .int m5), (4, .int m6), (7, .int r9), (0, .ref (xa g 24)), (1, .int f1), (2, .int f2), (3, .int f3)]) hx hb dX8_look_98 hl (k := 7) rfl (by rw [ex16]; rfl) (by decide) rfl (fun ls hl => ?_)
          refine lv_goto (tgt := 47) hx hb dX8_look_101 (by decide) ?_
          exact ih _ _ _ _ _ _ _ hw hO (lv_sub hl [4, 5, 6, 7, 2, 1, 0] rfl)
        · replace hw := hw.2 c15
          refine lv_iload hx hb dX8_look_89 (lv_at hl 1 rfl) ?_
          refine lv_goto (tgt := 96) hx hb dX8_look_91 (by decide) ?_
          refine lv_istore (lv' := [(5, .int r9), (4, .int m6), (7, .int r9), (0, .ref (xa g 24)), (1, .int f1), (2, .int f2), (3, .int f3), (6, .int m6)]) hx hb dX8_look_96 hl (by decide) rfl (fun ls hl => ?_)
          obtain ⟨x17, ex17⟩ : ∃ z : Int32, z = m6 + 1 := ⟨_, rfl⟩
          replace hw := hw x17 ex17
          refine lv_iinc (v := x17) (lv' := [(6, .int x17), (5, .int r9), (4, .int m6), (7, .int r9), (0, .ref (xa g 24)), (1, .int f1), (2, .int f2), (3, .int f3)]) hx hb dX8_look_98 hl (k := 7) rfl (by rw [ex17]; rfl) (by decide) rfl (fun ls hl => ?_)
          refine lv_goto (tgt := 47) hx hb dX8_look_101 (by decide) ?_
          exact ih _ _ _ _ _ _ _ hw hO (lv_sub hl [4, 5, 6, 7, 2, 1, 0] rfl)
set_option maxHeartbeats 4000000 in
set_option maxRecDepth 100000 in
theorem kX8_look (l : Launch) (g : XG) (sz : Nat) (a1 : Int32) (a2 : Int32) (a3 : Int32) (σ : XS) (post : Int32 → XS → Prop) (hw : PX8_look a1 a2 a3 σ post) : xMi l yX8_look wsX8_look rmX8_look 0 0 g sz [.ref (xa g 24), .int a1, .int a2, .int a3] σ post := by
  unfold PX8_look at hw
  refine x_head (Qc := fun A => va_Qi post (xAt g A) A) (cc := cX8_look) (maxL := 8) (ret := (some .int)) (by decide) rfl ?_
  intro p e s m below meth c A C0 hnm hO
  refine x_entry (Nat.le_of_ble_eq_true rfl) (fun ls hl => ?_)
  have hl : lv_has ls 8 [(0, .ref (xa g 24)), (1, .int a1), (2, .int a2), (3, .int a3)] := hl
  have hx := C0.1
  have hb := C0.2.1
  have hown := C0.2.2.2.2.2.1
  have hts := C0.2.2.2.2.2.2.1
  refine lv_iload_n hx hb dX8_look_0 rfl (lv_at hl 1 rfl) ?_
  refine x_calli C0 hO (x_runS (As := [.int a1]) (rest := []) C0 hO (kX8_isNight l g _ a1 σ _ hw) 1 rfl gX8_look_X8_isNight rfl rfl rfl hdX8_isNight.2 ⟨Nat.le_of_ble_eq_true rfl, Nat.le_of_ble_eq_true rfl⟩ hl.1 rfl (Nat.le_of_ble_eq_true rfl) dX8_look_1 ⟨Nat.le_of_ble_eq_true rfl, Nat.le_of_ble_eq_true rfl⟩) (fun r1 σ' H locs hw hO => ?_)
  obtain ⟨hσ, hw⟩ := hw
  subst hσ
  refine lv_if_eq (tgt := 24) hx hb dX8_look_4 (by decide) (fun c2 => ?_) (fun c2 => ?_)
  · replace hw := hw.1 c2
    refine lv_bipush (v := -2) hx hb dX8_look_24 (by decide) ?_
    exact x_iret C0 hO hw dX8_look_26
  · replace hw := hw.2 c2
    refine lv_iload_n hx hb dX8_look_7 rfl (lv_at hl 2 rfl) ?_
    refine x_calli C0 hO (x_runS (As := [.int a2]) (rest := []) C0 hO (kX8_isNight l g _ a2 σ _ hw) 1 rfl gX8_look_X8_isNight rfl rfl rfl hdX8_isNight.2 ⟨Nat.le_of_ble_eq_true rfl, Nat.le_of_ble_eq_true rfl⟩ hl.1 rfl (Nat.le_of_ble_eq_true rfl) dX8_look_8 ⟨Nat.le_of_ble_eq_true rfl, Nat.le_of_ble_eq_true rfl⟩) (fun r3 σ' H locs hw hO => ?_)
    obtain ⟨hσ, hw⟩ := hw
    subst hσ
    refine lv_if_eq (tgt := 24) hx hb dX8_look_11 (by decide) (fun c4 => ?_) (fun c4 => ?_)
    · replace hw := hw.1 c4
      refine lv_bipush (v := -2) hx hb dX8_look_24 (by decide) ?_
      exact x_iret C0 hO hw dX8_look_26
    · replace hw := hw.2 c4
      refine lv_iload_n hx hb dX8_look_14 rfl (lv_at hl 3 rfl) ?_
      refine lv_i2l hx hb dX8_look_15 rfl ?_
      refine lv_lconst (v := 0) hx hb dX8_look_16 (by decide) ?_
      refine lv_lconst (v := 1) hx hb dX8_look_17 (by decide) ?_
      refine x_calli C0 hO (x_runS (As := [.long a3.toInt64, .long (0 : Int64), .long (1 : Int64)]) (rest := []) C0 hO (kX8_in l g _ a3.toInt64 (0 : Int64) (1 : Int64) σ _ hw) 3 rfl gX8_look_X8_in rfl rfl rfl hdX8_in.2 ⟨Nat.le_of_ble_eq_true rfl, Nat.le_of_ble_eq_true rfl⟩ hl.1 rfl (Nat.le_of_ble_eq_true rfl) dX8_look_18 ⟨Nat.le_of_ble_eq_true rfl, Nat.le_of_ble_eq_true rfl⟩) (fun r5 σ' H locs hw hO => ?_)
      obtain ⟨hσ, hw⟩ := hw
      subst hσ
      refine lv_if_ne (tgt := 27) hx hb dX8_look_21 (by decide) (fun c6 => ?_) (fun c6 => ?_)
      · replace hw := hw.2 c6
        refine lv_aload_n hx hb dX8_look_27 rfl (lv_at hl 0 rfl) ?_
        refine x_geti C0 hO 24 2 rfl rfl (by decide) rfl iX8_look_8 rfl (List.mem_of_getElem? (i := 1) rfl) dX8_look_28 ?_
        refine lv_if_ne (tgt := 37) hx hb dX8_look_31 (by decide) (fun c7 => ?_) (fun c7 => ?_)
        · replace hw := hw.2 c7
          refine lv_iconst (v := 0) hx hb dX8_look_37 (by decide) ?_
          refine lv_istore (lv' := [(4, .int (0 : Int32)), (0, .ref (xa g 24)), (1, .int a1), (2, .int a2), (3, .int a3)]) hx hb dX8_look_38 hl (by decide) rfl (fun ls hl => ?_)
          refine lv_bipush (v := 99) hx hb dX8_look_40 (by decide) ?_
          refine lv_istore (lv' := [(5, .int (99 : Int32)), (4, .int (0 : Int32)), (0, .ref (xa g 24)), (1, .int a1), (2, .int a2), (3, .int a3)]) hx hb dX8_look_42 hl (by decide) rfl (fun ls hl => ?_)
          refine lv_iconst (v := 0) hx hb dX8_look_44 (by decide) ?_
          refine lv_istore (lv' := [(6, .int (0 : Int32)), (5, .int (99 : Int32)), (4, .int (0 : Int32)), (0, .ref (xa g 24)), (1, .int a1), (2, .int a2), (3, .int a3)]) hx hb dX8_look_45 hl (by decide) rfl (fun ls hl => ?_)
          refine lX8_look_47 C0 a1 a2 a3 post _ (fun x18 x19 x20 σ21 H locs ls hw hO hl => ?_) 1000 _ _ _ _ _ _ _ hw hO (lv_sub hl [3, 4, 5, 6, 2, 1, 0] rfl)
          refine lv_iload_n hx hb dX8_look_104 rfl (lv_at hl 3 rfl) ?_
          refine lv_if_ne (tgt := 113) hx hb dX8_look_105 (by decide) (fun c22 => ?_) (fun c22 => ?_)
          · replace hw := hw.2 c22
            refine lv_iload hx hb dX8_look_113 (lv_at hl 5 rfl) ?_
            exact x_iret C0 hO hw dX8_look_115
          · replace hw := hw.1 c22
            refine lv_iload hx hb dX8_look_108 (lv_at hl 4 rfl) ?_
            refine lv_goto (tgt := 115) hx hb dX8_look_110 (by decide) ?_
            exact x_iret C0 hO hw dX8_look_115
        · replace hw := hw.1 c7
          refine lv_bipush (v := -3) hx hb dX8_look_34 (by decide) ?_
          exact x_iret C0 hO hw dX8_look_36
      · replace hw := hw.1 c6
        refine lv_bipush (v := -2) hx hb dX8_look_24 (by decide) ?_
        exact x_iret C0 hO hw dX8_look_26
theorem iX8_odds_8 : ∀ w ∈ wsX80, w ∈ wsX8_odds := fun w h => List.mem_cons_of_mem _ (List.mem_append_right _ h)
theorem hdX8_odds : yX8_odds.cls = RX8 ∧ yX8_odds.cls ≠ "java/lang/invoke/MethodHandle" ∧ yX8_odds.cls ≠ "java/lang/invoke/VarHandle" ∧ (parseMethodDescriptor yX8_odds.desc).map (fun d => d.parameters.length) = some 4 := by decide +kernel
set_option maxHeartbeats 4000000 in
set_option maxRecDepth 100000 in
theorem lX8_odds_76 {p : Program} {l : Launch} {e : Env} {s : State} {m : MethodId} {args : Array Value} {below : List Frame} {meth : Method} {c : Code} {g : XG} {A : Nat → Prop} (C0 : xC g A wsX8_odds RX8 cX8_odds 9 (some .long) p s m args meth c) (f1 : Int32) (f2 : Int32) (f3 : Int32) (f4 : Int32) (f5 : Int32) (post : Int64 → XS → Prop) (kx : Int64 → Int32 → XS → Prop)
    (hkx : ∀ (m6 : Int64) (m8 : Int32) (σ : XS) (H : Heap) (locs : List Loc) (ls : Array Slot), kx m6 m8 σ → xO g A s σ H locs → lv_has ls 9 [(0, .ref (xa g 24)), (1, .int f1), (2, .int f2), (3, .int f3), (4, .int f4), (5, .int f5), (6, .long m6), (8, .int m8)] → W p l e (headSpec wsX8_odds rmX8_odds).room s m args below meth c H locs 0 0 (MQ below (va_Ql post (xAt g A) A) args s 0 0 A) (F0 m 112 ls [])) :
    ∀ (n : Nat) (m6 : Int64) (m8 : Int32) (σ : XS) (H : Heap) (locs : List Loc) (ls : Array Slot), LX8_odds_76 f1 f2 f3 f4 f5 post kx n m6 m8 σ → xO g A s σ H locs → lv_has ls 9 [(0, .ref (xa g 24)), (1, .int f1), (2, .int f2), (3, .int f3), (4, .int f4), (5, .int f5), (6, .long m6), (8, .int m8)] → W p l e (headSpec wsX8_odds rmX8_odds).room s m args below meth c H locs 0 0 (MQ below (va_Ql post (xAt g A) A) args s 0 0 A) (F0 m 76 ls []) := by
  have hx := C0.1
  have hb := C0.2.1
  have hown := C0.2.2.2.2.2.1
  have hts := C0.2.2.2.2.2.2.1
  intro n
  induction n with
  | zero =>
    intro m6 m8 σ H locs ls hw
    exact hw.elim
  | succ n ih =>
    intro m6 m8 σ H locs ls hw hO hl
    rw [LX8_odds_76] at hw
    refine lv_iload hx hb dX8_odds_76 (lv_at hl 7 rfl) ?_
    refine lv_iload_n hx hb dX8_odds_78 rfl (lv_at hl 3 rfl) ?_
    refine lv_icmp_ge (tgt := 112) hx hb dX8_odds_79 (by decide) (fun c15 => ?_) (fun c15 => ?_)
    · replace hw := hw.1 c15
      exact hkx _ _ _ _ _ _ hw hO (lv_sub hl [0, 1, 2, 3, 4, 5, 6, 7] rfl)
    · replace hw := hw.2 c15
      refine lv_iload hx hb dX8_odds_82 (lv_at hl 7 rfl) ?_
      refine lv_iload hx hb dX8_odds_84 (lv_at hl 5 rfl) ?_
      refine lv_icmp_ge (tgt := 112) hx hb dX8_odds_86 (by decide) (fun c16 => ?_) (fun c16 => ?_)
      · replace hw := hw.1 c16
        exact hkx _ _ _ _ _ _ hw hO (lv_sub hl [0, 1, 2, 3, 4, 5, 6, 7] rfl)
      · replace hw := hw.2 c16
        refine lv_lload hx hb dX8_odds_89 (lv_at hl 6 rfl) ?_
        refine lv_iload hx hb dX8_odds_91 (lv_at hl 5 rfl) ?_
        refine lv_iload hx hb dX8_odds_93 (lv_at hl 7 rfl) ?_
        refine lv_isub hx hb dX8_odds_95 ?_
        refine lv_i2l hx hb dX8_odds_96 rfl ?_
        refine lv_lmul hx hb dX8_odds_97 ?_
        refine lv_iload hx hb dX8_odds_98 (lv_at hl 7 rfl) ?_
        refine lv_iconst (v := 1) hx hb dX8_odds_100 (by decide) ?_
        refine lv_iadd hx hb dX8_odds_101 ?_
        refine lv_i2l hx hb dX8_odds_102 rfl ?_
        refine lv_ldiv hx hb dX8_odds_103 hw.1 ?_
        replace hw := hw.2
        refine lv_topl (fun x17 ex17 => ?_)
        replace hw := hw x17 ex17
        refine lv_lstore (lv' := [(6, .long x17), (0, .ref (xa g 24)), (1, .int f1), (2, .int f2), (3, .int f3), (4, .int f4), (5, .int f5), (8, .int m8)]) hx hb dX8_odds_104 hl (by decide) rfl (fun ls hl => ?_)
        obtain ⟨x18, ex18⟩ : ∃ z : Int32, z = m8 + 1 := ⟨_, rfl⟩
        replace hw := hw x18 ex18
        refine lv_iinc (v := x18) (lv' := [(8, .int x18), (6, .long x17), (0, .ref (xa g 24)), (1, .int f1), (2, .int f2), (3, .int f3), (4, .int f4), (5, .int f5)]) hx hb dX8_odds_106 hl (k := 7) rfl (by rw [ex18]; rfl) (by decide) rfl (fun ls hl => ?_)
        refine lv_goto (tgt := 76) hx hb dX8_odds_109 (by decide) ?_
        exact ih _ _ _ _ _ _ hw hO (lv_sub hl [2, 3, 4, 5, 6, 7, 1, 0] rfl)
set_option maxHeartbeats 4000000 in
set_option maxRecDepth 100000 in
theorem kX8_odds (l : Launch) (g : XG) (sz : Nat) (a1 : Int32) (a2 : Int32) (a3 : Int32) (a4 : Int32) (σ : XS) (post : Int64 → XS → Prop) (hw : PX8_odds a1 a2 a3 a4 σ post) : xMl l yX8_odds wsX8_odds rmX8_odds 0 0 g sz [.ref (xa g 24), .int a1, .int a2, .int a3, .int a4] σ post := by
  unfold PX8_odds at hw
  refine x_head (Qc := fun A => va_Ql post (xAt g A) A) (cc := cX8_odds) (maxL := 9) (ret := (some .long)) (by decide) rfl ?_
  intro p e s m below meth c A C0 hnm hO
  refine x_entry (Nat.le_of_ble_eq_true rfl) (fun ls hl => ?_)
  have hl : lv_has ls 9 [(0, .ref (xa g 24)), (1, .int a1), (2, .int a2), (3, .int a3), (4, .int a4)] := hl
  have hx := C0.1
  have hb := C0.2.1
  have hown := C0.2.2.2.2.2.1
  have hts := C0.2.2.2.2.2.2.1
  refine lv_aload_n hx hb dX8_odds_0 rfl (lv_at hl 0 rfl) ?_
  refine lv_iload_n hx hb dX8_odds_1 rfl (lv_at hl 1 rfl) ?_
  refine x_calli C0 hO (x_runV (As := [.int a1]) (rest := []) C0 hO (kX8_noPlace l g _ a1 σ _ hw) 1 rfl (xRecv C0 hO (j := 24) rfl rfl) gX8_odds_X8_noPlace rfl rfl rfl hdX8_noPlace ⟨Nat.le_of_ble_eq_true rfl, Nat.le_of_ble_eq_true rfl⟩ hl.1 rfl (Nat.le_of_ble_eq_true rfl) dX8_odds_2 ⟨Nat.le_of_ble_eq_true rfl, Nat.le_of_ble_eq_true rfl⟩) (fun r1 σ' H locs hw hO => ?_)
  obtain ⟨hσ, hw⟩ := hw
  subst hσ
  refine lv_if_ne (tgt := 38) hx hb dX8_odds_5 (by decide) (fun c2 => ?_) (fun c2 => ?_)
  · replace hw := hw.2 c2
    refine x_calll C0 hO (x_runS (As := []) (rest := []) C0 hO (kX8_lost l g _  σ _ hw) 0 rfl gX8_odds_X8_lost rfl rfl rfl hdX8_lost.2 ⟨Nat.le_of_ble_eq_true rfl, Nat.le_of_ble_eq_true rfl⟩ hl.1 rfl (Nat.le_of_ble_eq_true rfl) dX8_odds_38 ⟨Nat.le_of_ble_eq_true rfl, Nat.le_of_ble_eq_true rfl⟩) (fun r3 σ' H locs hw hO => ?_)
    obtain ⟨hσ, hw⟩ := hw
    subst hσ
    exact x_lret C0 hO hw dX8_odds_41
  · replace hw := hw.1 c2
    refine lv_iload_n hx hb dX8_odds_8 rfl (lv_at hl 2 rfl) ?_
    refine x_calli C0 hO (x_runS (As := [.int a2]) (rest := []) C0 hO (kX8_isNight l g _ a2 σ _ hw) 1 rfl gX8_odds_X8_isNight rfl rfl rfl hdX8_isNight.2 ⟨Nat.le_of_ble_eq_true rfl, Nat.le_of_ble_eq_true rfl⟩ hl.1 rfl (Nat.le_of_ble_eq_true rfl) dX8_odds_9 ⟨Nat.le_of_ble_eq_true rfl, Nat.le_of_ble_eq_true rfl⟩) (fun r4 σ' H locs hw hO => ?_)
    obtain ⟨hσ, hw⟩ := hw
    subst hσ
    refine lv_if_eq (tgt := 38) hx hb dX8_odds_12 (by decide) (fun c5 => ?_) (fun c5 => ?_)
    · replace hw := hw.1 c5
      refine x_calll C0 hO (x_runS (As := []) (rest := []) C0 hO (kX8_lost l g _  σ _ hw) 0 rfl gX8_odds_X8_lost rfl rfl rfl hdX8_lost.2 ⟨Nat.le_of_ble_eq_true rfl, Nat.le_of_ble_eq_true rfl⟩ hl.1 rfl (Nat.le_of_ble_eq_true rfl) dX8_odds_38 ⟨Nat.le_of_ble_eq_true rfl, Nat.le_of_ble_eq_true rfl⟩) (fun r6 σ' H locs hw hO => ?_)
      obtain ⟨hσ, hw⟩ := hw
      subst hσ
      exact x_lret C0 hO hw dX8_odds_41
    · replace hw := hw.2 c5
      refine lv_iload_n hx hb dX8_odds_15 rfl (lv_at hl 3 rfl) ?_
      refine lv_i2l hx hb dX8_odds_16 rfl ?_
      refine lv_lconst (v := 0) hx hb dX8_odds_17 (by decide) ?_
      refine lv_ldc2 (v := 24) hx hb hown (hts _ (List.mem_of_getElem? (i := 1) rfl)) dX8_odds_18 ?_
      refine x_calli C0 hO (x_runS (As := [.long a3.toInt64, .long (0 : Int64), .long (24 : Int64)]) (rest := []) C0 hO (kX8_in l g _ a3.toInt64 (0 : Int64) (24 : Int64) σ _ hw) 3 rfl gX8_odds_X8_in rfl rfl rfl hdX8_in.2 ⟨Nat.le_of_ble_eq_true rfl, Nat.le_of_ble_eq_true rfl⟩ hl.1 rfl (Nat.le_of_ble_eq_true rfl) dX8_odds_21 ⟨Nat.le_of_ble_eq_true rfl, Nat.le_of_ble_eq_true rfl⟩) (fun r7 σ' H locs hw hO => ?_)
      obtain ⟨hσ, hw⟩ := hw
      subst hσ
      refine lv_if_eq (tgt := 38) hx hb dX8_odds_24 (by decide) (fun c8 => ?_) (fun c8 => ?_)
      · replace hw := hw.1 c8
        refine x_calll C0 hO (x_runS (As := []) (rest := []) C0 hO (kX8_lost l g _  σ _ hw) 0 rfl gX8_odds_X8_lost rfl rfl rfl hdX8_lost.2 ⟨Nat.le_of_ble_eq_true rfl, Nat.le_of_ble_eq_true rfl⟩ hl.1 rfl (Nat.le_of_ble_eq_true rfl) dX8_odds_38 ⟨Nat.le_of_ble_eq_true rfl, Nat.le_of_ble_eq_true rfl⟩) (fun r9 σ' H locs hw hO => ?_)
        obtain ⟨hσ, hw⟩ := hw
        subst hσ
        exact x_lret C0 hO hw dX8_odds_41
      · replace hw := hw.2 c8
        refine lv_iload hx hb dX8_odds_27 (lv_at hl 4 rfl) ?_
        refine lv_i2l hx hb dX8_odds_29 rfl ?_
        refine lv_lconst (v := 0) hx hb dX8_odds_30 (by decide) ?_
        refine lv_lconst (v := 1) hx hb dX8_odds_31 (by decide) ?_
        refine x_calli C0 hO (x_runS (As := [.long a4.toInt64, .long (0 : Int64), .long (1 : Int64)]) (rest := []) C0 hO (kX8_in l g _ a4.toInt64 (0 : Int64) (1 : Int64) σ _ hw) 3 rfl gX8_odds_X8_in rfl rfl rfl hdX8_in.2 ⟨Nat.le_of_ble_eq_true rfl, Nat.le_of_ble_eq_true rfl⟩ hl.1 rfl (Nat.le_of_ble_eq_true rfl) dX8_odds_32 ⟨Nat.le_of_ble_eq_true rfl, Nat.le_of_ble_eq_true rfl⟩) (fun r10 σ' H locs hw hO => ?_)
        obtain ⟨hσ, hw⟩ := hw
        subst hσ
        refine lv_if_ne (tgt := 42) hx hb dX8_odds_35 (by decide) (fun c11 => ?_) (fun c11 => ?_)
        · replace hw := hw.2 c11
          refine lv_aload_n hx hb dX8_odds_42 rfl (lv_at hl 0 rfl) ?_
          refine lv_iload_n hx hb dX8_odds_43 rfl (lv_at hl 2 rfl) ?_
          refine x_callv C0 hO (x_runV (As := [.int a2]) (rest := []) C0 hO (kX8_goTo l g _ a2 σ _ hw) 1 rfl (xRecv C0 hO (j := 24) rfl rfl) gX8_odds_X8_goTo rfl rfl rfl hdX8_goTo ⟨Nat.le_of_ble_eq_true rfl, Nat.le_of_ble_eq_true rfl⟩ hl.1 rfl (Nat.le_of_ble_eq_true rfl) dX8_odds_44 ⟨Nat.le_of_ble_eq_true rfl, Nat.le_of_ble_eq_true rfl⟩) (fun σ12 H locs hw hO => ?_)
          refine lv_aload_n hx hb dX8_odds_47 rfl (lv_at hl 0 rfl) ?_
          refine x_getr C0 hO 24 28 38 rfl rfl (by decide) rfl iX8_odds_8 rfl (List.mem_of_getElem? (i := 2) rfl) dX8_odds_48 ?_
          refine lv_aload_n hx hb dX8_odds_51 rfl (lv_at hl 0 rfl) ?_
          refine x_getr C0 hO 24 27 37 rfl rfl (by decide) rfl iX8_odds_8 rfl (List.mem_of_getElem? (i := 3) rfl) dX8_odds_52 ?_
          refine lv_iload_n hx hb dX8_odds_55 rfl (lv_at hl 1 rfl) ?_
          refine x_iald C0 hO 37 rfl hw.1 dX8_odds_56 ?_
          replace hw := hw.2
          refine x_iald C0 hO 38 rfl hw.1 dX8_odds_57 ?_
          replace hw := hw.2
          refine lv_topi (fun x13 ex13 => ?_)
          replace hw := hw x13 ex13
          refine lv_istore (lv' := [(5, .int x13), (0, .ref (xa g 24)), (1, .int a1), (2, .int a2), (3, .int a3), (4, .int a4)]) hx hb dX8_odds_58 hl (by decide) rfl (fun ls hl => ?_)
          refine lv_iload_n hx hb dX8_odds_60 rfl (lv_at hl 4 rfl) ?_
          refine lv_iload hx hb dX8_odds_61 (lv_at hl 0 rfl) ?_
          refine lv_icmp_le (tgt := 70) hx hb dX8_odds_63 (by decide) (fun c14 => ?_) (fun c14 => ?_)
          · replace hw := hw.1 c14
            refine lv_lconst (v := 1) hx hb dX8_odds_70 (by decide) ?_
            refine lv_lstore (lv' := [(6, .long (1 : Int64)), (5, .int x13), (0, .ref (xa g 24)), (1, .int a1), (2, .int a2), (3, .int a3), (4, .int a4)]) hx hb dX8_odds_71 hl (by decide) rfl (fun ls hl => ?_)
            refine lv_iconst (v := 0) hx hb dX8_odds_73 (by decide) ?_
            refine lv_istore (lv' := [(8, .int (0 : Int32)), (6, .long (1 : Int64)), (5, .int x13), (0, .ref (xa g 24)), (1, .int a1), (2, .int a2), (3, .int a3), (4, .int a4)]) hx hb dX8_odds_74 hl (by decide) rfl (fun ls hl => ?_)
            refine lX8_odds_76 C0 a1 a2 a3 a4 x13 post _ (fun x19 x20 σ21 H locs ls hw hO hl => ?_) 1000 _ _ _ _ _ _ hw hO (lv_sub hl [3, 4, 5, 6, 7, 2, 1, 0] rfl)
            refine lv_lload hx hb dX8_odds_112 (lv_at hl 6 rfl) ?_
            refine lv_lconst (v := 1) hx hb dX8_odds_114 (by decide) ?_
            refine lv_iload hx hb dX8_odds_115 (lv_at hl 5 rfl) ?_
            refine lv_lshl hx hb dX8_odds_117 rfl ?_
            refine lv_iload hx hb dX8_odds_118 (lv_at hl 4 rfl) ?_
            refine x_calll C0 hO (x_runS (As := [.long x19, .long ((1 : Int64) <<< (x13.toInt64 &&& 63)), .int a4]) (rest := []) C0 hO (kX8_shareOf l g _ x19 ((1 : Int64) <<< (x13.toInt64 &&& 63)) a4 σ21 _ hw) 3 rfl gX8_odds_X8_shareOf rfl rfl rfl hdX8_shareOf.2 ⟨Nat.le_of_ble_eq_true rfl, Nat.le_of_ble_eq_true rfl⟩ hl.1 rfl (Nat.le_of_ble_eq_true rfl) dX8_odds_120 ⟨Nat.le_of_ble_eq_true rfl, Nat.le_of_ble_eq_true rfl⟩) (fun r22 σ' H locs hw hO => ?_)
            obtain ⟨hσ, hw⟩ := hw
            subst hσ
            exact x_lret C0 hO hw dX8_odds_123
          · replace hw := hw.2 c14
            refine lv_lconst (v := 0) hx hb dX8_odds_66 (by decide) ?_
            refine lv_goto (tgt := 71) hx hb dX8_odds_67 (by decide) ?_
            refine lv_lstore (lv' := [(6, .long (0 : Int64)), (5, .int x13), (0, .ref (xa g 24)), (1, .int a1), (2, .int a2), (3, .int a3), (4, .int a4)]) hx hb dX8_odds_71 hl (by decide) rfl (fun ls hl => ?_)
            refine lv_iconst (v := 0) hx hb dX8_odds_73 (by decide) ?_
            refine lv_istore (lv' := [(8, .int (0 : Int32)), (6, .long (0 : Int64)), (5, .int x13), (0, .ref (xa g 24)), (1, .int a1), (2, .int a2), (3, .int a3), (4, .int a4)]) hx hb dX8_odds_74 hl (by decide) rfl (fun ls hl => ?_)
            refine lX8_odds_76 C0 a1 a2 a3 a4 x13 post _ (fun x23 x24 σ25 H locs ls hw hO hl => ?_) 1000 _ _ _ _ _ _ hw hO (lv_sub hl [3, 4, 5, 6, 7, 2, 1, 0] rfl)
            refine lv_lload hx hb dX8_odds_112 (lv_at hl 6 rfl) ?_
            refine lv_lconst (v := 1) hx hb dX8_odds_114 (by decide) ?_
            refine lv_iload hx hb dX8_odds_115 (lv_at hl 5 rfl) ?_
            refine lv_lshl hx hb dX8_odds_117 rfl ?_
            refine lv_iload hx hb dX8_odds_118 (lv_at hl 4 rfl) ?_
            refine x_calll C0 hO (x_runS (As := [.long x23, .long ((1 : Int64) <<< (x13.toInt64 &&& 63)), .int a4]) (rest := []) C0 hO (kX8_shareOf l g _ x23 ((1 : Int64) <<< (x13.toInt64 &&& 63)) a4 σ25 _ hw) 3 rfl gX8_odds_X8_shareOf rfl rfl rfl hdX8_shareOf.2 ⟨Nat.le_of_ble_eq_true rfl, Nat.le_of_ble_eq_true rfl⟩ hl.1 rfl (Nat.le_of_ble_eq_true rfl) dX8_odds_120 ⟨Nat.le_of_ble_eq_true rfl, Nat.le_of_ble_eq_true rfl⟩) (fun r26 σ' H locs hw hO => ?_)
            obtain ⟨hσ, hw⟩ := hw
            subst hσ
            exact x_lret C0 hO hw dX8_odds_123
        · replace hw := hw.1 c11
          refine x_calll C0 hO (x_runS (As := []) (rest := []) C0 hO (kX8_lost l g _  σ _ hw) 0 rfl gX8_odds_X8_lost rfl rfl rfl hdX8_lost.2 ⟨Nat.le_of_ble_eq_true rfl, Nat.le_of_ble_eq_true rfl⟩ hl.1 rfl (Nat.le_of_ble_eq_true rfl) dX8_odds_38 ⟨Nat.le_of_ble_eq_true rfl, Nat.le_of_ble_eq_true rfl⟩) (fun r27 σ' H locs hw hO => ?_)
          obtain ⟨hσ, hw⟩ := hw
          subst hσ
          exact x_lret C0 hO hw dX8_odds_41
theorem iX8_sheet_8 : ∀ w ∈ wsX80, w ∈ wsX8_sheet := fun w h => List.mem_cons_of_mem _ (List.mem_append_right _ h)
theorem hdX8_sheet : yX8_sheet.cls = RX8 ∧ yX8_sheet.cls ≠ "java/lang/invoke/MethodHandle" ∧ yX8_sheet.cls ≠ "java/lang/invoke/VarHandle" ∧ (parseMethodDescriptor yX8_sheet.desc).map (fun d => d.parameters.length) = some 3 := by decide +kernel
set_option maxHeartbeats 4000000 in
set_option maxRecDepth 100000 in
theorem lX8_sheet_65 {p : Program} {l : Launch} {e : Env} {s : State} {m : MethodId} {args : Array Value} {below : List Frame} {meth : Method} {c : Code} {g : XG} {A : Nat → Prop} (C0 : xC g A wsX8_sheet RX8 cX8_sheet 5 (some .int) p s m args meth c) (f1 : Int32) (f2 : Int32) (f3 : Int32) (post : Int32 → XS → Prop) (kx : Int32 → XS → Prop)
    (hkx : ∀ (m4 : Int32) (σ : XS) (H : Heap) (locs : List Loc) (ls : Array Slot), kx m4 σ → xO g A s σ H locs → lv_has ls 5 [(0, .ref (xa g 24)), (1, .int f1), (2, .int f2), (3, .int f3), (4, .int m4)] → W p l e (headSpec wsX8_sheet rmX8_sheet).room s m args below meth c H locs 0 0 (MQ below (va_Qi post (xAt g A) A) args s 0 0 A) (F0 m 90 ls [])) :
    ∀ (n : Nat) (m4 : Int32) (σ : XS) (H : Heap) (locs : List Loc) (ls : Array Slot), LX8_sheet_65 f1 f2 f3 post kx n m4 σ → xO g A s σ H locs → lv_has ls 5 [(0, .ref (xa g 24)), (1, .int f1), (2, .int f2), (3, .int f3), (4, .int m4)] → W p l e (headSpec wsX8_sheet rmX8_sheet).room s m args below meth c H locs 0 0 (MQ below (va_Qi post (xAt g A) A) args s 0 0 A) (F0 m 65 ls []) := by
  have hx := C0.1
  have hb := C0.2.1
  have hown := C0.2.2.2.2.2.1
  have hts := C0.2.2.2.2.2.2.1
  intro n
  induction n with
  | zero =>
    intro m4 σ H locs ls hw
    exact hw.elim
  | succ n ih =>
    intro m4 σ H locs ls hw hO hl
    rw [LX8_sheet_65] at hw
    refine lv_iload hx hb dX8_sheet_65 (lv_at hl 4 rfl) ?_
    refine lv_iload_n hx hb dX8_sheet_67 rfl (lv_at hl 3 rfl) ?_
    refine lv_icmp_ge (tgt := 90) hx hb dX8_sheet_68 (by decide) (fun c11 => ?_) (fun c11 => ?_)
    · replace hw := hw.1 c11
      exact hkx _ _ _ _ _ hw hO (lv_sub hl [0, 1, 2, 3, 4] rfl)
    · replace hw := hw.2 c11
      refine lv_aload_n hx hb dX8_sheet_71 rfl (lv_at hl 0 rfl) ?_
      refine x_getr C0 hO 24 39 48 rfl rfl (by decide) rfl iX8_sheet_8 rfl (List.mem_of_getElem? (i := 4) rfl) dX8_sheet_72 ?_
      refine lv_bipush (v := 60) hx hb dX8_sheet_75 (by decide) ?_
      refine lv_iload_n hx hb dX8_sheet_77 rfl (lv_at hl 1 rfl) ?_
      refine lv_imul hx hb dX8_sheet_78 ?_
      refine lv_iload hx hb dX8_sheet_79 (lv_at hl 4 rfl) ?_
      refine lv_iadd hx hb dX8_sheet_81 ?_
      refine lv_iconst (v := 0) hx hb dX8_sheet_82 (by decide) ?_
      refine x_iast C0 hO 48 rfl hw.1 dX8_sheet_83 (fun σ12 H locs eσ12 hO => ?_)
      replace hw := hw.2 σ12 eσ12
      obtain ⟨x13, ex13⟩ : ∃ z : Int32, z = m4 + 1 := ⟨_, rfl⟩
      replace hw := hw x13 ex13
      refine lv_iinc (v := x13) (lv' := [(4, .int x13), (0, .ref (xa g 24)), (1, .int f1), (2, .int f2), (3, .int f3)]) hx hb dX8_sheet_84 hl (k := 4) rfl (by rw [ex13]; rfl) (by decide) rfl (fun ls hl => ?_)
      refine lv_goto (tgt := 65) hx hb dX8_sheet_87 (by decide) ?_
      exact ih _ _ _ _ _ hw hO (lv_sub hl [1, 2, 3, 4, 0] rfl)
set_option maxHeartbeats 4000000 in
set_option maxRecDepth 100000 in
theorem kX8_sheet (l : Launch) (g : XG) (sz : Nat) (a1 : Int32) (a2 : Int32) (a3 : Int32) (σ : XS) (post : Int32 → XS → Prop) (hw : PX8_sheet a1 a2 a3 σ post) : xMi l yX8_sheet wsX8_sheet rmX8_sheet 0 0 g sz [.ref (xa g 24), .int a1, .int a2, .int a3] σ post := by
  unfold PX8_sheet at hw
  refine x_head (Qc := fun A => va_Qi post (xAt g A) A) (cc := cX8_sheet) (maxL := 5) (ret := (some .int)) (by decide) rfl ?_
  intro p e s m below meth c A C0 hnm hO
  refine x_entry (Nat.le_of_ble_eq_true rfl) (fun ls hl => ?_)
  have hl : lv_has ls 5 [(0, .ref (xa g 24)), (1, .int a1), (2, .int a2), (3, .int a3)] := hl
  have hx := C0.1
  have hb := C0.2.1
  have hown := C0.2.2.2.2.2.1
  have hts := C0.2.2.2.2.2.2.1
  refine lv_iload_n hx hb dX8_sheet_0 rfl (lv_at hl 1 rfl) ?_
  refine x_calli C0 hO (x_runS (As := [.int a1]) (rest := []) C0 hO (kX8_noSheet l g _ a1 σ _ hw) 1 rfl gX8_sheet_X8_noSheet rfl rfl rfl hdX8_noSheet.2 ⟨Nat.le_of_ble_eq_true rfl, Nat.le_of_ble_eq_true rfl⟩ hl.1 rfl (Nat.le_of_ble_eq_true rfl) dX8_sheet_1 ⟨Nat.le_of_ble_eq_true rfl, Nat.le_of_ble_eq_true rfl⟩) (fun r1 σ' H locs hw hO => ?_)
  obtain ⟨hσ, hw⟩ := hw
  subst hσ
  refine lv_if_eq (tgt := 13) hx hb dX8_sheet_4 (by decide) (fun c2 => ?_) (fun c2 => ?_)
  · replace hw := hw.1 c2
    refine lv_iload_n hx hb dX8_sheet_13 rfl (lv_at hl 2 rfl) ?_
    refine lv_i2l hx hb dX8_sheet_14 rfl ?_
    refine lv_lconst (v := 0) hx hb dX8_sheet_15 (by decide) ?_
    refine lv_ldc2 (v := 2) hx hb hown (hts _ (List.mem_of_getElem? (i := 1) rfl)) dX8_sheet_16 ?_
    refine x_calli C0 hO (x_runS (As := [.long a2.toInt64, .long (0 : Int64), .long (2 : Int64)]) (rest := []) C0 hO (kX8_in l g _ a2.toInt64 (0 : Int64) (2 : Int64) σ _ hw) 3 rfl gX8_sheet_X8_in rfl rfl rfl hdX8_in.2 ⟨Nat.le_of_ble_eq_true rfl, Nat.le_of_ble_eq_true rfl⟩ hl.1 rfl (Nat.le_of_ble_eq_true rfl) dX8_sheet_19 ⟨Nat.le_of_ble_eq_true rfl, Nat.le_of_ble_eq_true rfl⟩) (fun r3 σ' H locs hw hO => ?_)
    obtain ⟨hσ, hw⟩ := hw
    subst hσ
    refine lv_if_eq (tgt := 31) hx hb dX8_sheet_22 (by decide) (fun c4 => ?_) (fun c4 => ?_)
    · replace hw := hw.1 c4
      refine lv_aload_n hx hb dX8_sheet_31 rfl (lv_at hl 0 rfl) ?_
      refine lv_bipush (v := -2) hx hb dX8_sheet_32 (by decide) ?_
      refine x_calli C0 hO (x_runV (As := [.int (-2 : Int32)]) (rest := []) C0 hO (kX8_refused l g _ (-2 : Int32) σ _ hw) 1 rfl (xRecv C0 hO (j := 24) rfl rfl) gX8_sheet_X8_refused rfl rfl rfl hdX8_refused ⟨Nat.le_of_ble_eq_true rfl, Nat.le_of_ble_eq_true rfl⟩ hl.1 rfl (Nat.le_of_ble_eq_true rfl) dX8_sheet_34 ⟨Nat.le_of_ble_eq_true rfl, Nat.le_of_ble_eq_true rfl⟩) (fun r5 σ6 H locs hw hO => ?_)
      exact x_iret C0 hO hw dX8_sheet_37
    · replace hw := hw.2 c4
      refine lv_iload_n hx hb dX8_sheet_25 rfl (lv_at hl 3 rfl) ?_
      refine lv_bipush (v := 60) hx hb dX8_sheet_26 (by decide) ?_
      refine lv_icmp_le (tgt := 38) hx hb dX8_sheet_28 (by decide) (fun c7 => ?_) (fun c7 => ?_)
      · replace hw := hw.1 c7
        refine lv_iload_n hx hb dX8_sheet_38 rfl (lv_at hl 3 rfl) ?_
        refine lv_if_ge (tgt := 48) hx hb dX8_sheet_39 (by decide) (fun c8 => ?_) (fun c8 => ?_)
        · replace hw := hw.1 c8
          refine lv_aload_n hx hb dX8_sheet_48 rfl (lv_at hl 0 rfl) ?_
          refine x_getr C0 hO 24 37 46 rfl rfl (by decide) rfl iX8_sheet_8 rfl (List.mem_of_getElem? (i := 2) rfl) dX8_sheet_49 ?_
          refine lv_iload_n hx hb dX8_sheet_52 rfl (lv_at hl 1 rfl) ?_
          refine lv_iload_n hx hb dX8_sheet_53 rfl (lv_at hl 3 rfl) ?_
          refine x_iast C0 hO 46 rfl hw.1 dX8_sheet_54 (fun σ9 H locs eσ9 hO => ?_)
          replace hw := hw.2 σ9 eσ9
          refine lv_aload_n hx hb dX8_sheet_55 rfl (lv_at hl 0 rfl) ?_
          refine x_getr C0 hO 24 38 47 rfl rfl (by decide) rfl iX8_sheet_8 rfl (List.mem_of_getElem? (i := 3) rfl) dX8_sheet_56 ?_
          refine lv_iload_n hx hb dX8_sheet_59 rfl (lv_at hl 1 rfl) ?_
          refine lv_iload_n hx hb dX8_sheet_60 rfl (lv_at hl 2 rfl) ?_
          refine x_iast C0 hO 47 rfl hw.1 dX8_sheet_61 (fun σ10 H locs eσ10 hO => ?_)
          replace hw := hw.2 σ10 eσ10
          refine lv_iconst (v := 0) hx hb dX8_sheet_62 (by decide) ?_
          refine lv_istore (lv' := [(4, .int (0 : Int32)), (0, .ref (xa g 24)), (1, .int a1), (2, .int a2), (3, .int a3)]) hx hb dX8_sheet_63 hl (by decide) rfl (fun ls hl => ?_)
          refine lX8_sheet_65 C0 a1 a2 a3 post _ (fun x14 σ15 H locs ls hw hO hl => ?_) 1000 _ _ _ _ _ hw hO (lv_sub hl [1, 2, 3, 4, 0] rfl)
          refine lv_aload_n hx hb dX8_sheet_90 rfl (lv_at hl 0 rfl) ?_
          refine lv_iconst (v := 1) hx hb dX8_sheet_91 (by decide) ?_
          refine x_calli C0 hO (x_runV (As := [.int (1 : Int32)]) (rest := []) C0 hO (kX8_refused l g _ (1 : Int32) σ15 _ hw) 1 rfl (xRecv C0 hO (j := 24) rfl rfl) gX8_sheet_X8_refused rfl rfl rfl hdX8_refused ⟨Nat.le_of_ble_eq_true rfl, Nat.le_of_ble_eq_true rfl⟩ hl.1 rfl (Nat.le_of_ble_eq_true rfl) dX8_sheet_92 ⟨Nat.le_of_ble_eq_true rfl, Nat.le_of_ble_eq_true rfl⟩) (fun r16 σ17 H locs hw hO => ?_)
          exact x_iret C0 hO hw dX8_sheet_95
        · replace hw := hw.2 c8
          refine lv_aload_n hx hb dX8_sheet_42 rfl (lv_at hl 0 rfl) ?_
          refine lv_iconst (v := 4) hx hb dX8_sheet_43 (by decide) ?_
          refine x_calli C0 hO (x_runV (As := [.int (4 : Int32)]) (rest := []) C0 hO (kX8_failed l g _ (4 : Int32) σ _ hw) 1 rfl (xRecv C0 hO (j := 24) rfl rfl) gX8_sheet_X8_failed rfl rfl rfl hdX8_failed ⟨Nat.le_of_ble_eq_true rfl, Nat.le_of_ble_eq_true rfl⟩ hl.1 rfl (Nat.le_of_ble_eq_true rfl) dX8_sheet_44 ⟨Nat.le_of_ble_eq_true rfl, Nat.le_of_ble_eq_true rfl⟩) (fun r18 σ19 H locs hw hO => ?_)
          exact x_iret C0 hO hw dX8_sheet_47
      · replace hw := hw.2 c7
        refine lv_aload_n hx hb dX8_sheet_31 rfl (lv_at hl 0 rfl) ?_
        refine lv_bipush (v := -2) hx hb dX8_sheet_32 (by decide) ?_
        refine x_calli C0 hO (x_runV (As := [.int (-2 : Int32)]) (rest := []) C0 hO (kX8_refused l g _ (-2 : Int32) σ _ hw) 1 rfl (xRecv C0 hO (j := 24) rfl rfl) gX8_sheet_X8_refused rfl rfl rfl hdX8_refused ⟨Nat.le_of_ble_eq_true rfl, Nat.le_of_ble_eq_true rfl⟩ hl.1 rfl (Nat.le_of_ble_eq_true rfl) dX8_sheet_34 ⟨Nat.le_of_ble_eq_true rfl, Nat.le_of_ble_eq_true rfl⟩) (fun r20 σ21 H locs hw hO => ?_)
        exact x_iret C0 hO hw dX8_sheet_37
  · replace hw := hw.2 c2
    refine lv_aload_n hx hb dX8_sheet_7 rfl (lv_at hl 0 rfl) ?_
    refine lv_iconst (v := -1) hx hb dX8_sheet_8 (by decide) ?_
    refine x_calli C0 hO (x_runV (As := [.int (-1 : Int32)]) (rest := []) C0 hO (kX8_refused l g _ (-1 : Int32) σ _ hw) 1 rfl (xRecv C0 hO (j := 24) rfl rfl) gX8_sheet_X8_refused rfl rfl rfl hdX8_refused ⟨Nat.le_of_ble_eq_true rfl, Nat.le_of_ble_eq_true rfl⟩ hl.1 rfl (Nat.le_of_ble_eq_true rfl) dX8_sheet_9 ⟨Nat.le_of_ble_eq_true rfl, Nat.le_of_ble_eq_true rfl⟩) (fun r22 σ23 H locs hw hO => ?_)
    exact x_iret C0 hO hw dX8_sheet_12
theorem iX8_lose_8 : ∀ w ∈ wsX80, w ∈ wsX8_lose := fun w h => List.mem_cons_of_mem _ (List.mem_append_right _ h)
theorem hdX8_lose : yX8_lose.cls = RX8 ∧ yX8_lose.cls ≠ "java/lang/invoke/MethodHandle" ∧ yX8_lose.cls ≠ "java/lang/invoke/VarHandle" ∧ (parseMethodDescriptor yX8_lose.desc).map (fun d => d.parameters.length) = some 1 := by decide +kernel
set_option maxHeartbeats 4000000 in
set_option maxRecDepth 100000 in
theorem kX8_lose (l : Launch) (g : XG) (sz : Nat) (a1 : Int32) (σ : XS) (post : Int32 → XS → Prop) (hw : PX8_lose a1 σ post) : xMi l yX8_lose wsX8_lose rmX8_lose 0 0 g sz [.ref (xa g 24), .int a1] σ post := by
  unfold PX8_lose at hw
  refine x_head (Qc := fun A => va_Qi post (xAt g A) A) (cc := cX8_lose) (maxL := 3) (ret := (some .int)) (by decide) rfl ?_
  intro p e s m below meth c A C0 hnm hO
  refine x_entry (Nat.le_of_ble_eq_true rfl) (fun ls hl => ?_)
  have hl : lv_has ls 3 [(0, .ref (xa g 24)), (1, .int a1)] := hl
  have hx := C0.1
  have hb := C0.2.1
  have hown := C0.2.2.2.2.2.1
  have hts := C0.2.2.2.2.2.2.1
  refine lv_iload_n hx hb dX8_lose_0 rfl (lv_at hl 1 rfl) ?_
  refine x_calli C0 hO (x_runS (As := [.int a1]) (rest := []) C0 hO (kX8_noSheet l g _ a1 σ _ hw) 1 rfl gX8_lose_X8_noSheet rfl rfl rfl hdX8_noSheet.2 ⟨Nat.le_of_ble_eq_true rfl, Nat.le_of_ble_eq_true rfl⟩ hl.1 rfl (Nat.le_of_ble_eq_true rfl) dX8_lose_1 ⟨Nat.le_of_ble_eq_true rfl, Nat.le_of_ble_eq_true rfl⟩) (fun r1 σ' H locs hw hO => ?_)
  obtain ⟨hσ, hw⟩ := hw
  subst hσ
  refine lv_if_eq (tgt := 9) hx hb dX8_lose_4 (by decide) (fun c2 => ?_) (fun c2 => ?_)
  · replace hw := hw.1 c2
    refine lv_aload_n hx hb dX8_lose_9 rfl (lv_at hl 0 rfl) ?_
    refine x_getr C0 hO 24 37 46 rfl rfl (by decide) rfl iX8_lose_8 rfl (List.mem_of_getElem? (i := 1) rfl) dX8_lose_10 ?_
    refine lv_iload_n hx hb dX8_lose_13 rfl (lv_at hl 1 rfl) ?_
    refine x_iald C0 hO 46 rfl hw.1 dX8_lose_14 ?_
    replace hw := hw.2
    refine lv_if_ge (tgt := 22) hx hb dX8_lose_15 (by decide) (fun c3 => ?_) (fun c3 => ?_)
    · replace hw := hw.1 c3
      refine lv_iconst (v := 1) hx hb dX8_lose_22 (by decide) ?_
      refine lv_istore_n (lv' := [(2, .int (1 : Int32)), (0, .ref (xa g 24)), (1, .int a1)]) hx hb dX8_lose_23 rfl hl (by decide) rfl (fun ls hl => ?_)
      refine lv_aload_n hx hb dX8_lose_24 rfl (lv_at hl 1 rfl) ?_
      refine x_getr C0 hO 24 37 46 rfl rfl (by decide) rfl iX8_lose_8 rfl (List.mem_of_getElem? (i := 1) rfl) dX8_lose_25 ?_
      refine lv_iload_n hx hb dX8_lose_28 rfl (lv_at hl 2 rfl) ?_
      refine lv_iconst (v := -1) hx hb dX8_lose_29 (by decide) ?_
      refine x_iast C0 hO 46 rfl hw.1 dX8_lose_30 (fun σ4 H locs eσ4 hO => ?_)
      replace hw := hw.2 σ4 eσ4
      refine lv_iload_n hx hb dX8_lose_31 rfl (lv_at hl 0 rfl) ?_
      exact x_iret C0 hO hw dX8_lose_32
    · replace hw := hw.2 c3
      refine lv_iconst (v := 0) hx hb dX8_lose_18 (by decide) ?_
      refine lv_goto (tgt := 23) hx hb dX8_lose_19 (by decide) ?_
      refine lv_istore_n (lv' := [(2, .int (0 : Int32)), (0, .ref (xa g 24)), (1, .int a1)]) hx hb dX8_lose_23 rfl hl (by decide) rfl (fun ls hl => ?_)
      refine lv_aload_n hx hb dX8_lose_24 rfl (lv_at hl 1 rfl) ?_
      refine x_getr C0 hO 24 37 46 rfl rfl (by decide) rfl iX8_lose_8 rfl (List.mem_of_getElem? (i := 1) rfl) dX8_lose_25 ?_
      refine lv_iload_n hx hb dX8_lose_28 rfl (lv_at hl 2 rfl) ?_
      refine lv_iconst (v := -1) hx hb dX8_lose_29 (by decide) ?_
      refine x_iast C0 hO 46 rfl hw.1 dX8_lose_30 (fun σ5 H locs eσ5 hO => ?_)
      replace hw := hw.2 σ5 eσ5
      refine lv_iload_n hx hb dX8_lose_31 rfl (lv_at hl 0 rfl) ?_
      exact x_iret C0 hO hw dX8_lose_32
  · replace hw := hw.2 c2
    refine lv_iconst (v := -1) hx hb dX8_lose_7 (by decide) ?_
    exact x_iret C0 hO hw dX8_lose_8
theorem iX8_noCell_8 : ∀ w ∈ wsX80, w ∈ wsX8_noCell := fun w h => List.mem_cons_of_mem _ (List.mem_append_right _ h)
theorem hdX8_noCell : yX8_noCell.cls = RX8 ∧ yX8_noCell.cls ≠ "java/lang/invoke/MethodHandle" ∧ yX8_noCell.cls ≠ "java/lang/invoke/VarHandle" ∧ (parseMethodDescriptor yX8_noCell.desc).map (fun d => d.parameters.length) = some 2 := by decide +kernel
set_option maxHeartbeats 4000000 in
set_option maxRecDepth 100000 in
theorem kX8_noCell (l : Launch) (g : XG) (sz : Nat) (a1 : Int32) (a2 : Int32) (σ : XS) (post : Int32 → Prop) (hw : PX8_noCell a1 a2 σ post) : xMi l yX8_noCell wsX8_noCell rmX8_noCell 0 0 g sz [.ref (xa g 24), .int a1, .int a2] σ (fun r u => σ = u ∧ post r) := by
  unfold PX8_noCell at hw
  refine x_head (Qc := fun A => va_Qi (fun r u => σ = u ∧ post r) (xAt g A) A) (cc := cX8_noCell) (maxL := 3) (ret := (some .int)) (by decide) rfl ?_
  intro p e s m below meth c A C0 hnm hO
  refine x_entry (Nat.le_of_ble_eq_true rfl) (fun ls hl => ?_)
  have hl : lv_has ls 3 [(0, .ref (xa g 24)), (1, .int a1), (2, .int a2)] := hl
  have hx := C0.1
  have hb := C0.2.1
  have hown := C0.2.2.2.2.2.1
  have hts := C0.2.2.2.2.2.2.1
  refine lv_aload_n hx hb dX8_noCell_0 rfl (lv_at hl 0 rfl) ?_
  refine x_getr C0 hO 24 37 46 rfl rfl (by decide) rfl iX8_noCell_8 rfl (List.mem_of_getElem? (i := 1) rfl) dX8_noCell_1 ?_
  refine lv_iload_n hx hb dX8_noCell_4 rfl (lv_at hl 1 rfl) ?_
  refine x_iald C0 hO 46 rfl hw.1 dX8_noCell_5 ?_
  replace hw := hw.2
  refine lv_if_ge (tgt := 13) hx hb dX8_noCell_6 (by decide) (fun c1 => ?_) (fun c1 => ?_)
  · replace hw := hw.1 c1
    refine lv_iload_n hx hb dX8_noCell_13 rfl (lv_at hl 2 rfl) ?_
    refine lv_i2l hx hb dX8_noCell_14 rfl ?_
    refine lv_lconst (v := 0) hx hb dX8_noCell_15 (by decide) ?_
    refine lv_aload_n hx hb dX8_noCell_16 rfl (lv_at hl 0 rfl) ?_
    refine x_getr C0 hO 24 37 46 rfl rfl (by decide) rfl iX8_noCell_8 rfl (List.mem_of_getElem? (i := 1) rfl) dX8_noCell_17 ?_
    refine lv_iload_n hx hb dX8_noCell_20 rfl (lv_at hl 1 rfl) ?_
    refine x_iald C0 hO 46 rfl hw.1 dX8_noCell_21 ?_
    replace hw := hw.2
    refine lv_i2l hx hb dX8_noCell_22 rfl ?_
    refine lv_lconst (v := 1) hx hb dX8_noCell_23 (by decide) ?_
    refine lv_lsub hx hb dX8_noCell_24 ?_
    refine x_calli C0 hO (x_runS (As := [.long a2.toInt64, .long (0 : Int64), .long (((gI σ 46 a1.toNatClampNeg).toInt64) - (1 : Int64))]) (rest := []) C0 hO (kX8_in l g _ a2.toInt64 (0 : Int64) (((gI σ 46 a1.toNatClampNeg).toInt64) - (1 : Int64)) σ _ hw) 3 rfl gX8_noCell_X8_in rfl rfl rfl hdX8_in.2 ⟨Nat.le_of_ble_eq_true rfl, Nat.le_of_ble_eq_true rfl⟩ hl.1 rfl (Nat.le_of_ble_eq_true rfl) dX8_noCell_25 ⟨Nat.le_of_ble_eq_true rfl, Nat.le_of_ble_eq_true rfl⟩) (fun r2 σ' H locs hw hO => ?_)
    obtain ⟨hσ, hw⟩ := hw
    subst hσ
    refine lv_if_eq (tgt := 35) hx hb dX8_noCell_28 (by decide) (fun c3 => ?_) (fun c3 => ?_)
    · replace hw := hw.1 c3
      refine lv_iconst (v := 3) hx hb dX8_noCell_35 (by decide) ?_
      exact x_iret C0 hO ⟨rfl, hw⟩ dX8_noCell_36
    · replace hw := hw.2 c3
      refine lv_iconst (v := 0) hx hb dX8_noCell_31 (by decide) ?_
      refine lv_goto (tgt := 36) hx hb dX8_noCell_32 (by decide) ?_
      exact x_iret C0 hO ⟨rfl, hw⟩ dX8_noCell_36
  · replace hw := hw.2 c1
    refine lv_iconst (v := 1) hx hb dX8_noCell_9 (by decide) ?_
    refine lv_goto (tgt := 36) hx hb dX8_noCell_10 (by decide) ?_
    exact x_iret C0 hO ⟨rfl, hw⟩ dX8_noCell_36
