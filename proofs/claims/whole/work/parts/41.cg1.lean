/-! generated: contracts -/
theorem iX5_isBefore_5 : ∀ w ∈ wsX50, w ∈ wsX5_isBefore := fun w h => List.mem_cons_of_mem _ (List.mem_append_right _ h)
theorem hdX5_isBefore : yX5_isBefore.cls = RX5 ∧ yX5_isBefore.cls ≠ "java/lang/invoke/MethodHandle" ∧ yX5_isBefore.cls ≠ "java/lang/invoke/VarHandle" ∧ (parseMethodDescriptor yX5_isBefore.desc).map (fun d => d.parameters.length) = some 2 := by decide +kernel
set_option maxHeartbeats 4000000 in
set_option maxRecDepth 100000 in
theorem kX5_isBefore (l : Launch) (g : XG) (sz : Nat) (a1 : Int32) (a2 : Int32) (σ : XS) (post : Int32 → Prop) (hw : PX5_isBefore a1 a2 σ post) : xMi l yX5_isBefore wsX5_isBefore rmX5_isBefore 0 0 g sz [.ref (xa g 4), .int a1, .int a2] σ (fun r u => σ = u ∧ post r) := by
  unfold PX5_isBefore at hw
  refine x_head (Qc := fun A => va_Qi (fun r u => σ = u ∧ post r) (xAt g A) A) (cc := cX5_isBefore) (maxL := 3) (ret := (some .boolean)) (by decide) rfl ?_
  intro p e s m below meth c A C0 hnm hO
  refine x_entry (Nat.le_of_ble_eq_true rfl) (fun ls hl => ?_)
  have hl : lv_has ls 3 [(0, .ref (xa g 4)), (1, .int a1), (2, .int a2)] := hl
  have hx := C0.1
  have hb := C0.2.1
  have hown := C0.2.2.2.2.2.1
  have hts := C0.2.2.2.2.2.2.1
  refine lv_aload_n hx hb dX5_isBefore_0 rfl (lv_at hl 0 rfl) ?_
  refine x_getr C0 hO 4 1 6 rfl rfl (by decide) rfl iX5_isBefore_5 rfl (List.mem_of_getElem? (i := 1) rfl) dX5_isBefore_1 ?_
  refine lv_iload_n hx hb dX5_isBefore_4 rfl (lv_at hl 1 rfl) ?_
  refine x_iald C0 hO 6 rfl hw.1 dX5_isBefore_5 ?_
  replace hw := hw.2
  refine lv_aload_n hx hb dX5_isBefore_6 rfl (lv_at hl 0 rfl) ?_
  refine x_getr C0 hO 4 1 6 rfl rfl (by decide) rfl iX5_isBefore_5 rfl (List.mem_of_getElem? (i := 1) rfl) dX5_isBefore_7 ?_
  refine lv_iload_n hx hb dX5_isBefore_10 rfl (lv_at hl 2 rfl) ?_
  refine x_iald C0 hO 6 rfl hw.1 dX5_isBefore_11 ?_
  replace hw := hw.2
  refine lv_icmp_eq (tgt := 36) hx hb dX5_isBefore_12 (by decide) (fun c1 => ?_) (fun c1 => ?_)
  · replace hw := hw.1 c1
    refine lv_iload_n hx hb dX5_isBefore_36 rfl (lv_at hl 1 rfl) ?_
    refine x_calli C0 hO (x_runS (As := [.int a1]) (rest := []) C0 hO (kX5_kindIn l g _ a1 σ _ hw) 1 rfl gX5_isBefore_X5_kindIn rfl rfl rfl hdX5_kindIn.2 ⟨Nat.le_of_ble_eq_true rfl, Nat.le_of_ble_eq_true rfl⟩ hl.1 rfl (Nat.le_of_ble_eq_true rfl) dX5_isBefore_37 ⟨Nat.le_of_ble_eq_true rfl, Nat.le_of_ble_eq_true rfl⟩) (fun r2 σ' H locs hw hO => ?_)
    obtain ⟨hσ, hw⟩ := hw
    subst hσ
    refine lv_iload_n hx hb dX5_isBefore_40 rfl (lv_at hl 2 rfl) ?_
    refine x_calli C0 hO (x_runS (As := [.int a2]) (rest := [.int r2]) C0 hO (kX5_kindIn l g _ a2 σ _ hw) 1 rfl gX5_isBefore_X5_kindIn rfl rfl rfl hdX5_kindIn.2 ⟨Nat.le_of_ble_eq_true rfl, Nat.le_of_ble_eq_true rfl⟩ hl.1 rfl (Nat.le_of_ble_eq_true rfl) dX5_isBefore_41 ⟨Nat.le_of_ble_eq_true rfl, Nat.le_of_ble_eq_true rfl⟩) (fun r3 σ' H locs hw hO => ?_)
    obtain ⟨hσ, hw⟩ := hw
    subst hσ
    refine lv_icmp_ge (tgt := 51) hx hb dX5_isBefore_44 (by decide) (fun c4 => ?_) (fun c4 => ?_)
    · replace hw := hw.1 c4
      refine lv_iconst (v := 0) hx hb dX5_isBefore_51 (by decide) ?_
      exact x_zret C0 hO rfl ⟨rfl, hw⟩ dX5_isBefore_52
    · replace hw := hw.2 c4
      refine lv_iconst (v := 1) hx hb dX5_isBefore_47 (by decide) ?_
      refine lv_goto (tgt := 52) hx hb dX5_isBefore_48 (by decide) ?_
      exact x_zret C0 hO rfl ⟨rfl, hw⟩ dX5_isBefore_52
  · replace hw := hw.2 c1
    refine lv_aload_n hx hb dX5_isBefore_15 rfl (lv_at hl 0 rfl) ?_
    refine x_getr C0 hO 4 1 6 rfl rfl (by decide) rfl iX5_isBefore_5 rfl (List.mem_of_getElem? (i := 1) rfl) dX5_isBefore_16 ?_
    refine lv_iload_n hx hb dX5_isBefore_19 rfl (lv_at hl 1 rfl) ?_
    refine x_iald C0 hO 6 rfl hw.1 dX5_isBefore_20 ?_
    replace hw := hw.2
    refine lv_aload_n hx hb dX5_isBefore_21 rfl (lv_at hl 0 rfl) ?_
    refine x_getr C0 hO 4 1 6 rfl rfl (by decide) rfl iX5_isBefore_5 rfl (List.mem_of_getElem? (i := 1) rfl) dX5_isBefore_22 ?_
    refine lv_iload_n hx hb dX5_isBefore_25 rfl (lv_at hl 2 rfl) ?_
    refine x_iald C0 hO 6 rfl hw.1 dX5_isBefore_26 ?_
    replace hw := hw.2
    refine lv_icmp_ge (tgt := 34) hx hb dX5_isBefore_27 (by decide) (fun c5 => ?_) (fun c5 => ?_)
    · replace hw := hw.1 c5
      refine lv_iconst (v := 0) hx hb dX5_isBefore_34 (by decide) ?_
      exact x_zret C0 hO rfl ⟨rfl, hw⟩ dX5_isBefore_35
    · replace hw := hw.2 c5
      refine lv_iconst (v := 1) hx hb dX5_isBefore_30 (by decide) ?_
      refine lv_goto (tgt := 35) hx hb dX5_isBefore_31 (by decide) ?_
      exact x_zret C0 hO rfl ⟨rfl, hw⟩ dX5_isBefore_35
theorem iX5_add_5 : ∀ w ∈ wsX50, w ∈ wsX5_add := fun w h => List.mem_cons_of_mem _ (List.mem_append_right _ h)
theorem hdX5_add : yX5_add.cls = RX5 ∧ yX5_add.cls ≠ "java/lang/invoke/MethodHandle" ∧ yX5_add.cls ≠ "java/lang/invoke/VarHandle" ∧ (parseMethodDescriptor yX5_add.desc).map (fun d => d.parameters.length) = some 5 := by decide +kernel
set_option maxHeartbeats 4000000 in
set_option maxRecDepth 100000 in
theorem lX5_add_93 {p : Program} {l : Launch} {e : Env} {s : State} {m : MethodId} {args : Array Value} {below : List Frame} {meth : Method} {c : Code} {g : XG} {A : Nat → Prop} (C0 : xC g A wsX5_add RX5 cX5_add 9 (some .int) p s m args meth c) (f1 : Int32) (f2 : Int32) (f3 : Int32) (f4 : Int32) (f5 : Int32) (f6 : Int32) (f7 : Int32) (post : Int32 → XS → Prop) (kx : Int32 → XS → Prop)
    (hkx : ∀ (m8 : Int32) (σ : XS) (H : Heap) (locs : List Loc) (ls : Array Slot), kx m8 σ → xO g A s σ H locs → lv_has ls 9 [(0, .ref (xa g 4)), (1, .int f1), (2, .int f2), (3, .int f3), (4, .int f4), (5, .int f5), (6, .int f6), (7, .int f7), (8, .int m8)] → W p l e (headSpec wsX5_add rmX5_add).room s m args below meth c H locs 0 0 (MQ below (va_Qi post (xAt g A) A) args s 0 0 A) (F0 m 138 ls [])) :
    ∀ (n : Nat) (m8 : Int32) (σ : XS) (H : Heap) (locs : List Loc) (ls : Array Slot), LX5_add_93 f1 f2 f3 f4 f5 f6 f7 post kx n m8 σ → xO g A s σ H locs → lv_has ls 9 [(0, .ref (xa g 4)), (1, .int f1), (2, .int f2), (3, .int f3), (4, .int f4), (5, .int f5), (6, .int f6), (7, .int f7), (8, .int m8)] → W p l e (headSpec wsX5_add rmX5_add).room s m args below meth c H locs 0 0 (MQ below (va_Qi post (xAt g A) A) args s 0 0 A) (F0 m 93 ls []) := by
  have hx := C0.1
  have hb := C0.2.1
  have hown := C0.2.2.2.2.2.1
  have hts := C0.2.2.2.2.2.2.1
  intro n
  induction n with
  | zero =>
    intro m8 σ H locs ls hw
    exact hw.elim
  | succ n ih =>
    intro m8 σ H locs ls hw hO hl
    rw [LX5_add_93] at hw
    refine lv_iload hx hb dX5_add_93 (lv_at hl 8 rfl) ?_
    refine lv_if_le (tgt := 138) hx hb dX5_add_95 (by decide) (fun c12 => ?_) (fun c12 => ?_)
    · replace hw := hw.1 c12
      exact hkx _ _ _ _ _ hw hO (lv_sub hl [0, 1, 2, 3, 4, 5, 6, 7, 8] rfl)
    · replace hw := hw.2 c12
      refine lv_aload_n hx hb dX5_add_98 rfl (lv_at hl 0 rfl) ?_
      refine lv_iload hx hb dX5_add_99 (lv_at hl 7 rfl) ?_
      refine lv_aload_n hx hb dX5_add_101 rfl (lv_at hl 0 rfl) ?_
      refine x_getr C0 hO 4 5 10 rfl rfl (by decide) rfl iX5_add_5 rfl (List.mem_of_getElem? (i := 9) rfl) dX5_add_102 ?_
      refine lv_iload hx hb dX5_add_105 (lv_at hl 8 rfl) ?_
      refine lv_iconst (v := 1) hx hb dX5_add_107 (by decide) ?_
      refine lv_isub hx hb dX5_add_108 ?_
      refine x_iald C0 hO 10 rfl hw.1 dX5_add_109 ?_
      replace hw := hw.2
      refine x_calli C0 hO (x_runV (As := [.int f7, .int (gI σ 10 (m8 - (1 : Int32)).toNatClampNeg)]) (rest := []) C0 hO (kX5_isBefore l g _ f7 (gI σ 10 (m8 - (1 : Int32)).toNatClampNeg) σ _ hw) 2 rfl (xRecv C0 hO (j := 4) rfl rfl) gX5_add_X5_isBefore rfl rfl rfl hdX5_isBefore ⟨Nat.le_of_ble_eq_true rfl, Nat.le_of_ble_eq_true rfl⟩ hl.1 rfl (Nat.le_of_ble_eq_true rfl) dX5_add_110 ⟨Nat.le_of_ble_eq_true rfl, Nat.le_of_ble_eq_true rfl⟩) (fun r13 σ' H locs hw hO => ?_)
      obtain ⟨hσ, hw⟩ := hw
      subst hσ
      refine lv_if_eq (tgt := 138) hx hb dX5_add_113 (by decide) (fun c14 => ?_) (fun c14 => ?_)
      · replace hw := hw.1 c14
        exact hkx _ _ _ _ _ hw hO (lv_sub hl [0, 1, 2, 3, 4, 5, 6, 7, 8] rfl)
      · replace hw := hw.2 c14
        refine lv_aload_n hx hb dX5_add_116 rfl (lv_at hl 0 rfl) ?_
        refine x_getr C0 hO 4 5 10 rfl rfl (by decide) rfl iX5_add_5 rfl (List.mem_of_getElem? (i := 9) rfl) dX5_add_117 ?_
        refine lv_iload hx hb dX5_add_120 (lv_at hl 8 rfl) ?_
        refine lv_aload_n hx hb dX5_add_122 rfl (lv_at hl 0 rfl) ?_
        refine x_getr C0 hO 4 5 10 rfl rfl (by decide) rfl iX5_add_5 rfl (List.mem_of_getElem? (i := 9) rfl) dX5_add_123 ?_
        refine lv_iload hx hb dX5_add_126 (lv_at hl 8 rfl) ?_
        refine lv_iconst (v := 1) hx hb dX5_add_128 (by decide) ?_
        refine lv_isub hx hb dX5_add_129 ?_
        refine x_iald C0 hO 10 rfl hw.1 dX5_add_130 ?_
        replace hw := hw.2
        refine x_iast C0 hO 10 rfl hw.1 dX5_add_131 (fun σ15 H locs eσ15 hO => ?_)
        replace hw := hw.2 σ15 eσ15
        obtain ⟨x16, ex16⟩ : ∃ z : Int32, z = m8 + (-1) := ⟨_, rfl⟩
        replace hw := hw x16 ex16
        refine lv_iinc (v := x16) (lv' := [(8, .int x16), (0, .ref (xa g 4)), (1, .int f1), (2, .int f2), (3, .int f3), (4, .int f4), (5, .int f5), (6, .int f6), (7, .int f7)]) hx hb dX5_add_132 hl (k := 8) rfl (by rw [ex16]; rfl) (by decide) rfl (fun ls hl => ?_)
        refine lv_goto (tgt := 93) hx hb dX5_add_135 (by decide) ?_
        exact ih _ _ _ _ _ hw hO (lv_sub hl [1, 2, 3, 4, 5, 6, 7, 8, 0] rfl)
set_option maxHeartbeats 4000000 in
set_option maxRecDepth 100000 in
theorem kX5_add (l : Launch) (g : XG) (sz : Nat) (a1 : Int32) (a2 : Int32) (a3 : Int32) (a4 : Int32) (a5 : Int32) (σ : XS) (post : Int32 → XS → Prop) (hw : PX5_add a1 a2 a3 a4 a5 σ post) : xMi l yX5_add wsX5_add rmX5_add 0 0 g sz [.ref (xa g 4), .int a1, .int a2, .int a3, .int a4, .int a5] σ post := by
  unfold PX5_add at hw
  refine x_head (Qc := fun A => va_Qi post (xAt g A) A) (cc := cX5_add) (maxL := 9) (ret := (some .int)) (by decide) rfl ?_
  intro p e s m below meth c A C0 hnm hO
  refine x_entry (Nat.le_of_ble_eq_true rfl) (fun ls hl => ?_)
  have hl : lv_has ls 9 [(0, .ref (xa g 4)), (1, .int a1), (2, .int a2), (3, .int a3), (4, .int a4), (5, .int a5)] := hl
  have hx := C0.1
  have hb := C0.2.1
  have hown := C0.2.2.2.2.2.1
  have hts := C0.2.2.2.2.2.2.1
  refine lv_iload_n hx hb dX5_add_0 rfl (lv_at hl 1 rfl) ?_
  refine lv_if_lt (tgt := 32) hx hb dX5_add_1 (by decide) (fun c1 => ?_) (fun c1 => ?_)
  · replace hw := hw.1 c1
    refine lv_bipush (v := -4) hx hb dX5_add_32 (by decide) ?_
    exact x_iret C0 hO hw dX5_add_34
  · replace hw := hw.2 c1
    refine lv_iload_n hx hb dX5_add_4 rfl (lv_at hl 1 rfl) ?_
    refine lv_iconst (v := 4) hx hb dX5_add_5 (by decide) ?_
    refine lv_icmp_ge (tgt := 32) hx hb dX5_add_6 (by decide) (fun c2 => ?_) (fun c2 => ?_)
    · replace hw := hw.1 c2
      refine lv_bipush (v := -4) hx hb dX5_add_32 (by decide) ?_
      exact x_iret C0 hO hw dX5_add_34
    · replace hw := hw.2 c2
      refine lv_aload_n hx hb dX5_add_9 rfl (lv_at hl 0 rfl) ?_
      refine x_getr C0 hO 4 0 5 rfl rfl (by decide) rfl iX5_add_5 rfl (List.mem_of_getElem? (i := 1) rfl) dX5_add_10 ?_
      refine lv_iload_n hx hb dX5_add_13 rfl (lv_at hl 1 rfl) ?_
      refine x_iald C0 hO 5 rfl hw.1 dX5_add_14 ?_
      replace hw := hw.2
      refine x_most C0 hO (List.mem_of_getElem? (i := 2) rfl) dX5_add_15 ?_
      refine lv_iload_n hx hb dX5_add_18 rfl (lv_at hl 1 rfl) ?_
      refine x_mostAt C0 hO hw.1 dX5_add_19 ?_
      replace hw := hw.2
      refine lv_icmp_gt (tgt := 32) hx hb dX5_add_20 (by decide) (fun c3 => ?_) (fun c3 => ?_)
      · replace hw := hw.1 c3
        refine lv_bipush (v := -4) hx hb dX5_add_32 (by decide) ?_
        exact x_iret C0 hO hw dX5_add_34
      · replace hw := hw.2 c3
        refine lv_aload_n hx hb dX5_add_23 rfl (lv_at hl 0 rfl) ?_
        refine x_geti C0 hO 4 6 rfl rfl (by decide) rfl iX5_add_5 rfl (List.mem_of_getElem? (i := 3) rfl) dX5_add_24 ?_
        refine lv_bipush (v := 48) hx hb dX5_add_27 (by decide) ?_
        refine lv_icmp_lt (tgt := 35) hx hb dX5_add_29 (by decide) (fun c4 => ?_) (fun c4 => ?_)
        · replace hw := hw.1 c4
          refine lv_aload_n hx hb dX5_add_35 rfl (lv_at hl 0 rfl) ?_
          refine x_getr C0 hO 4 0 5 rfl rfl (by decide) rfl iX5_add_5 rfl (List.mem_of_getElem? (i := 1) rfl) dX5_add_36 ?_
          refine lv_iload_n hx hb dX5_add_39 rfl (lv_at hl 1 rfl) ?_
          refine x_iald C0 hO 5 rfl hw.1 dX5_add_40 ?_
          replace hw := hw.2
          refine lv_topi (fun x5 ex5 => ?_)
          replace hw := hw x5 ex5
          refine lv_istore (lv' := [(6, .int x5), (0, .ref (xa g 4)), (1, .int a1), (2, .int a2), (3, .int a3), (4, .int a4), (5, .int a5)]) hx hb dX5_add_41 hl (by decide) rfl (fun ls hl => ?_)
          refine x_first C0 hO (List.mem_of_getElem? (i := 4) rfl) dX5_add_43 ?_
          refine lv_iload_n hx hb dX5_add_46 rfl (lv_at hl 2 rfl) ?_
          refine x_firstAt C0 hO hw.1 dX5_add_47 ?_
          replace hw := hw.2
          refine lv_iload hx hb dX5_add_48 (lv_at hl 0 rfl) ?_
          refine lv_iadd hx hb dX5_add_50 ?_
          refine lv_topi (fun x6 ex6 => ?_)
          replace hw := hw x6 ex6
          refine lv_istore (lv' := [(7, .int x6), (6, .int x5), (0, .ref (xa g 4)), (1, .int a1), (2, .int a2), (3, .int a3), (4, .int a4), (5, .int a5)]) hx hb dX5_add_51 hl (by decide) rfl (fun ls hl => ?_)
          refine lv_aload_n hx hb dX5_add_53 rfl (lv_at hl 2 rfl) ?_
          refine x_getr C0 hO 4 1 6 rfl rfl (by decide) rfl iX5_add_5 rfl (List.mem_of_getElem? (i := 5) rfl) dX5_add_54 ?_
          refine lv_iload hx hb dX5_add_57 (lv_at hl 0 rfl) ?_
          refine lv_iload_n hx hb dX5_add_59 rfl (lv_at hl 4 rfl) ?_
          refine x_iast C0 hO 6 rfl hw.1 dX5_add_60 (fun σ7 H locs eσ7 hO => ?_)
          replace hw := hw.2 σ7 eσ7
          refine lv_aload_n hx hb dX5_add_61 rfl (lv_at hl 2 rfl) ?_
          refine x_getr C0 hO 4 2 7 rfl rfl (by decide) rfl iX5_add_5 rfl (List.mem_of_getElem? (i := 6) rfl) dX5_add_62 ?_
          refine lv_iload hx hb dX5_add_65 (lv_at hl 0 rfl) ?_
          refine lv_iload_n hx hb dX5_add_67 rfl (lv_at hl 5 rfl) ?_
          refine x_iast C0 hO 7 rfl hw.1 dX5_add_68 (fun σ8 H locs eσ8 hO => ?_)
          replace hw := hw.2 σ8 eσ8
          refine lv_aload_n hx hb dX5_add_69 rfl (lv_at hl 2 rfl) ?_
          refine x_getr C0 hO 4 3 8 rfl rfl (by decide) rfl iX5_add_5 rfl (List.mem_of_getElem? (i := 7) rfl) dX5_add_70 ?_
          refine lv_iload hx hb dX5_add_73 (lv_at hl 0 rfl) ?_
          refine lv_iload hx hb dX5_add_75 (lv_at hl 6 rfl) ?_
          refine x_iast C0 hO 8 rfl hw.1 dX5_add_77 (fun σ9 H locs eσ9 hO => ?_)
          replace hw := hw.2 σ9 eσ9
          refine lv_aload_n hx hb dX5_add_78 rfl (lv_at hl 2 rfl) ?_
          refine x_getr C0 hO 4 4 9 rfl rfl (by decide) rfl iX5_add_5 rfl (List.mem_of_getElem? (i := 8) rfl) dX5_add_79 ?_
          refine lv_iload hx hb dX5_add_82 (lv_at hl 0 rfl) ?_
          refine lv_iload hx hb dX5_add_84 (lv_at hl 7 rfl) ?_
          refine x_iast C0 hO 9 rfl hw.1 dX5_add_86 (fun σ10 H locs eσ10 hO => ?_)
          replace hw := hw.2 σ10 eσ10
          refine lv_aload_n hx hb dX5_add_87 rfl (lv_at hl 2 rfl) ?_
          refine x_geti C0 hO 4 6 rfl rfl (by decide) rfl iX5_add_5 rfl (List.mem_of_getElem? (i := 3) rfl) dX5_add_88 ?_
          refine lv_topi (fun x11 ex11 => ?_)
          replace hw := hw x11 ex11
          refine lv_istore (lv' := [(8, .int x11), (7, .int x6), (6, .int x5), (0, .ref (xa g 4)), (1, .int a1), (2, .int a2), (3, .int a3), (4, .int a4), (5, .int a5)]) hx hb dX5_add_91 hl (by decide) rfl (fun ls hl => ?_)
          refine lX5_add_93 C0 a1 a2 a3 a4 a5 x5 x6 post _ (fun x17 σ18 H locs ls hw hO hl => ?_) 1000 _ _ _ _ _ hw hO (lv_sub hl [3, 4, 5, 6, 7, 8, 2, 1, 0] rfl)
          refine lv_aload_n hx hb dX5_add_138 rfl (lv_at hl 0 rfl) ?_
          refine x_getr C0 hO 4 5 10 rfl rfl (by decide) rfl iX5_add_5 rfl (List.mem_of_getElem? (i := 9) rfl) dX5_add_139 ?_
          refine lv_iload hx hb dX5_add_142 (lv_at hl 8 rfl) ?_
          refine lv_iload hx hb dX5_add_144 (lv_at hl 7 rfl) ?_
          refine x_iast C0 hO 10 rfl hw.1 dX5_add_146 (fun σ19 H locs eσ19 hO => ?_)
          replace hw := hw.2 σ19 eσ19
          refine lv_aload_n hx hb dX5_add_147 rfl (lv_at hl 0 rfl) ?_
          refine lv_dup hx hb dX5_add_148 rfl ?_
          refine x_geti C0 hO 4 6 rfl rfl (by decide) rfl iX5_add_5 rfl (List.mem_of_getElem? (i := 3) rfl) dX5_add_149 ?_
          refine lv_iconst (v := 1) hx hb dX5_add_152 (by decide) ?_
          refine lv_iadd hx hb dX5_add_153 ?_
          refine x_puti C0 hO 4 6 tyX5 tyX5_ok nmX5 rfl rfl (by decide) rfl iX5_add_5 rfl rfl rfl (List.mem_of_getElem? (i := 3) rfl) dX5_add_154 (fun σ20 H locs eσ20 hO => ?_)
          replace hw := hw σ20 eσ20
          refine lv_aload_n hx hb dX5_add_157 rfl (lv_at hl 0 rfl) ?_
          refine x_getr C0 hO 4 0 5 rfl rfl (by decide) rfl iX5_add_5 rfl (List.mem_of_getElem? (i := 1) rfl) dX5_add_158 ?_
          refine lv_iload_n hx hb dX5_add_161 rfl (lv_at hl 1 rfl) ?_
          refine lv_dup2_11 hx hb dX5_add_162 rfl rfl ?_
          refine x_iald C0 hO 5 rfl hw.1 dX5_add_163 ?_
          replace hw := hw.2
          refine lv_iconst (v := 1) hx hb dX5_add_164 (by decide) ?_
          refine lv_iadd hx hb dX5_add_165 ?_
          refine x_iast C0 hO 5 rfl hw.1 dX5_add_166 (fun σ21 H locs eσ21 hO => ?_)
          replace hw := hw.2 σ21 eσ21
          refine lv_iload hx hb dX5_add_167 (lv_at hl 6 rfl) ?_
          exact x_iret C0 hO hw dX5_add_169
        · replace hw := hw.2 c4
          refine lv_bipush (v := -4) hx hb dX5_add_32 (by decide) ?_
          exact x_iret C0 hO hw dX5_add_34
theorem iX5_takeBack_5 : ∀ w ∈ wsX50, w ∈ wsX5_takeBack := fun w h => List.mem_cons_of_mem _ (List.mem_append_right _ h)
theorem hdX5_takeBack : yX5_takeBack.cls = RX5 ∧ yX5_takeBack.cls ≠ "java/lang/invoke/MethodHandle" ∧ yX5_takeBack.cls ≠ "java/lang/invoke/VarHandle" ∧ (parseMethodDescriptor yX5_takeBack.desc).map (fun d => d.parameters.length) = some 2 := by decide +kernel
set_option maxHeartbeats 4000000 in
set_option maxRecDepth 100000 in
theorem lX5_takeBack_41 {p : Program} {l : Launch} {e : Env} {s : State} {m : MethodId} {args : Array Value} {below : List Frame} {meth : Method} {c : Code} {g : XG} {A : Nat → Prop} (C0 : xC g A wsX5_takeBack RX5 cX5_takeBack 7 (some .int) p s m args meth c) (f1 : Int32) (f2 : Int32) (f3 : Int32) (post : Int32 → XS → Prop) (kx : Int32 → Int32 → XS → Prop)
    (hkx : ∀ (m4 : Int32) (m5 : Int32) (σ : XS) (H : Heap) (locs : List Loc) (ls : Array Slot), kx m4 m5 σ → xO g A s σ H locs → lv_has ls 7 [(0, .ref (xa g 4)), (1, .int f1), (2, .int f2), (3, .int f3), (4, .int m4), (5, .int m5)] → W p l e (headSpec wsX5_takeBack rmX5_takeBack).room s m args below meth c H locs 0 0 (MQ below (va_Qi post (xAt g A) A) args s 0 0 A) (F0 m 98 ls [])) :
    ∀ (n : Nat) (m4 : Int32) (m5 : Int32) (σ : XS) (H : Heap) (locs : List Loc) (ls : Array Slot), LX5_takeBack_41 f1 f2 f3 post kx n m4 m5 σ → xO g A s σ H locs → lv_has ls 7 [(0, .ref (xa g 4)), (1, .int f1), (2, .int f2), (3, .int f3), (4, .int m4), (5, .int m5)] → W p l e (headSpec wsX5_takeBack rmX5_takeBack).room s m args below meth c H locs 0 0 (MQ below (va_Qi post (xAt g A) A) args s 0 0 A) (F0 m 41 ls []) := by
  have hx := C0.1
  have hb := C0.2.1
  have hown := C0.2.2.2.2.2.1
  have hts := C0.2.2.2.2.2.2.1
  intro n
  induction n with
  | zero =>
    intro m4 m5 σ H locs ls hw
    exact hw.elim
  | succ n ih =>
    intro m4 m5 σ H locs ls hw hO hl
    rw [LX5_takeBack_41] at hw
    refine lv_iload hx hb dX5_takeBack_41 (lv_at hl 5 rfl) ?_
    refine lv_aload_n hx hb dX5_takeBack_43 rfl (lv_at hl 0 rfl) ?_
    refine x_geti C0 hO 4 6 rfl rfl (by decide) rfl iX5_takeBack_5 rfl (List.mem_of_getElem? (i := 2) rfl) dX5_takeBack_44 ?_
    refine lv_icmp_ge (tgt := 98) hx hb dX5_takeBack_47 (by decide) (fun c6 => ?_) (fun c6 => ?_)
    · replace hw := hw.1 c6
      exact hkx _ _ _ _ _ _ hw hO (lv_sub hl [0, 1, 2, 3, 4, 5] rfl)
    · replace hw := hw.2 c6
      refine lv_aload_n hx hb dX5_takeBack_50 rfl (lv_at hl 0 rfl) ?_
      refine x_getr C0 hO 4 5 10 rfl rfl (by decide) rfl iX5_takeBack_5 rfl (List.mem_of_getElem? (i := 3) rfl) dX5_takeBack_51 ?_
      refine lv_iload hx hb dX5_takeBack_54 (lv_at hl 5 rfl) ?_
      refine x_iald C0 hO 10 rfl hw.1 dX5_takeBack_56 ?_
      replace hw := hw.2
      refine lv_topi (fun x7 ex7 => ?_)
      replace hw := hw x7 ex7
      refine lv_istore (lv' := [(6, .int x7), (0, .ref (xa g 4)), (1, .int f1), (2, .int f2), (3, .int f3), (4, .int m4), (5, .int m5)]) hx hb dX5_takeBack_57 hl (by decide) rfl (fun ls hl => ?_)
      refine lv_iload hx hb dX5_takeBack_59 (lv_at hl 0 rfl) ?_
      refine x_calli C0 hO (x_runS (As := [.int x7]) (rest := []) C0 hO (kX5_kindIn l g _ x7 σ _ hw) 1 rfl gX5_takeBack_X5_kindIn rfl rfl rfl hdX5_kindIn.2 ⟨Nat.le_of_ble_eq_true rfl, Nat.le_of_ble_eq_true rfl⟩ hl.1 rfl (Nat.le_of_ble_eq_true rfl) dX5_takeBack_61 ⟨Nat.le_of_ble_eq_true rfl, Nat.le_of_ble_eq_true rfl⟩) (fun r8 σ' H locs hw hO => ?_)
      obtain ⟨hσ, hw⟩ := hw
      subst hσ
      refine lv_iload_n hx hb dX5_takeBack_64 rfl (lv_at hl 2 rfl) ?_
      refine lv_icmp_ne (tgt := 80) hx hb dX5_takeBack_65 (by decide) (fun c9 => ?_) (fun c9 => ?_)
      · replace hw := hw.2 c9
        refine lv_aload_n hx hb dX5_takeBack_80 rfl (lv_at hl 1 rfl) ?_
        refine x_getr C0 hO 4 5 10 rfl rfl (by decide) rfl iX5_takeBack_5 rfl (List.mem_of_getElem? (i := 3) rfl) dX5_takeBack_81 ?_
        refine lv_iload hx hb dX5_takeBack_84 (lv_at hl 5 rfl) ?_
        refine lv_iload hx hb dX5_takeBack_86 (lv_at hl 0 rfl) ?_
        refine x_iast C0 hO 10 rfl hw.1 dX5_takeBack_88 (fun σ10 H locs eσ10 hO => ?_)
        replace hw := hw.2 σ10 eσ10
        obtain ⟨x11, ex11⟩ : ∃ z : Int32, z = m4 + 1 := ⟨_, rfl⟩
        replace hw := hw x11 ex11
        refine lv_iinc (v := x11) (lv' := [(4, .int x11), (6, .int x7), (0, .ref (xa g 4)), (1, .int f1), (2, .int f2), (3, .int f3), (5, .int m5)]) hx hb dX5_takeBack_89 hl (k := 5) rfl (by rw [ex11]; rfl) (by decide) rfl (fun ls hl => ?_)
        obtain ⟨x12, ex12⟩ : ∃ z : Int32, z = m5 + 1 := ⟨_, rfl⟩
        replace hw := hw x12 ex12
        refine lv_iinc (v := x12) (lv' := [(5, .int x12), (4, .int x11), (6, .int x7), (0, .ref (xa g 4)), (1, .int f1), (2, .int f2), (3, .int f3)]) hx hb dX5_takeBack_92 hl (k := 6) rfl (by rw [ex12]; rfl) (by decide) rfl (fun ls hl => ?_)
        refine lv_goto (tgt := 41) hx hb dX5_takeBack_95 (by decide) ?_
        exact ih _ _ _ _ _ _ hw hO (lv_sub hl [3, 4, 5, 6, 1, 0] rfl)
      · replace hw := hw.1 c9
        refine lv_iload hx hb dX5_takeBack_68 (lv_at hl 0 rfl) ?_
        refine x_first C0 hO (List.mem_of_getElem? (i := 4) rfl) dX5_takeBack_70 ?_
        refine lv_iload_n hx hb dX5_takeBack_73 rfl (lv_at hl 2 rfl) ?_
        refine x_firstAt C0 hO hw.1 dX5_takeBack_74 ?_
        replace hw := hw.2
        refine lv_iload_n hx hb dX5_takeBack_75 rfl (lv_at hl 4 rfl) ?_
        refine lv_iadd hx hb dX5_takeBack_76 ?_
        refine lv_icmp_ge (tgt := 92) hx hb dX5_takeBack_77 (by decide) (fun c13 => ?_) (fun c13 => ?_)
        · replace hw := hw.1 c13
          obtain ⟨x14, ex14⟩ : ∃ z : Int32, z = m5 + 1 := ⟨_, rfl⟩
          replace hw := hw x14 ex14
          refine lv_iinc (v := x14) (lv' := [(5, .int x14), (6, .int x7), (0, .ref (xa g 4)), (1, .int f1), (2, .int f2), (3, .int f3), (4, .int m4)]) hx hb dX5_takeBack_92 hl (k := 6) rfl (by rw [ex14]; rfl) (by decide) rfl (fun ls hl => ?_)
          refine lv_goto (tgt := 41) hx hb dX5_takeBack_95 (by decide) ?_
          exact ih _ _ _ _ _ _ hw hO (lv_sub hl [2, 3, 4, 5, 6, 0] rfl)
        · replace hw := hw.2 c13
          refine lv_aload_n hx hb dX5_takeBack_80 rfl (lv_at hl 1 rfl) ?_
          refine x_getr C0 hO 4 5 10 rfl rfl (by decide) rfl iX5_takeBack_5 rfl (List.mem_of_getElem? (i := 3) rfl) dX5_takeBack_81 ?_
          refine lv_iload hx hb dX5_takeBack_84 (lv_at hl 5 rfl) ?_
          refine lv_iload hx hb dX5_takeBack_86 (lv_at hl 0 rfl) ?_
          refine x_iast C0 hO 10 rfl hw.1 dX5_takeBack_88 (fun σ15 H locs eσ15 hO => ?_)
          replace hw := hw.2 σ15 eσ15
          obtain ⟨x16, ex16⟩ : ∃ z : Int32, z = m4 + 1 := ⟨_, rfl⟩
          replace hw := hw x16 ex16
          refine lv_iinc (v := x16) (lv' := [(4, .int x16), (6, .int x7), (0, .ref (xa g 4)), (1, .int f1), (2, .int f2), (3, .int f3), (5, .int m5)]) hx hb dX5_takeBack_89 hl (k := 5) rfl (by rw [ex16]; rfl) (by decide) rfl (fun ls hl => ?_)
          obtain ⟨x17, ex17⟩ : ∃ z : Int32, z = m5 + 1 := ⟨_, rfl⟩
          replace hw := hw x17 ex17
          refine lv_iinc (v := x17) (lv' := [(5, .int x17), (4, .int x16), (6, .int x7), (0, .ref (xa g 4)), (1, .int f1), (2, .int f2), (3, .int f3)]) hx hb dX5_takeBack_92 hl (k := 6) rfl (by rw [ex17]; rfl) (by decide) rfl (fun ls hl => ?_)
          refine lv_goto (tgt := 41) hx hb dX5_takeBack_95 (by decide) ?_
          exact ih _ _ _ _ _ _ hw hO (lv_sub hl [3, 4, 5, 6, 1, 0] rfl)
set_option maxHeartbeats 4000000 in
set_option maxRecDepth 100000 in
theorem kX5_takeBack (l : Launch) (g : XG) (sz : Nat) (a1 : Int32) (a2 : Int32) (σ : XS) (post : Int32 → XS → Prop) (hw : PX5_takeBack a1 a2 σ post) : xMi l yX5_takeBack wsX5_takeBack rmX5_takeBack 0 0 g sz [.ref (xa g 4), .int a1, .int a2] σ post := by
  unfold PX5_takeBack at hw
  refine x_head (Qc := fun A => va_Qi post (xAt g A) A) (cc := cX5_takeBack) (maxL := 7) (ret := (some .int)) (by decide) rfl ?_
  intro p e s m below meth c A C0 hnm hO
  refine x_entry (Nat.le_of_ble_eq_true rfl) (fun ls hl => ?_)
  have hl : lv_has ls 7 [(0, .ref (xa g 4)), (1, .int a1), (2, .int a2)] := hl
  have hx := C0.1
  have hb := C0.2.1
  have hown := C0.2.2.2.2.2.1
  have hts := C0.2.2.2.2.2.2.1
  refine lv_iload_n hx hb dX5_takeBack_0 rfl (lv_at hl 1 rfl) ?_
  refine lv_if_lt (tgt := 23) hx hb dX5_takeBack_1 (by decide) (fun c1 => ?_) (fun c1 => ?_)
  · replace hw := hw.1 c1
    refine lv_bipush (v := -2) hx hb dX5_takeBack_23 (by decide) ?_
    exact x_iret C0 hO hw dX5_takeBack_25
  · replace hw := hw.2 c1
    refine lv_iload_n hx hb dX5_takeBack_4 rfl (lv_at hl 1 rfl) ?_
    refine lv_iconst (v := 4) hx hb dX5_takeBack_5 (by decide) ?_
    refine lv_icmp_ge (tgt := 23) hx hb dX5_takeBack_6 (by decide) (fun c2 => ?_) (fun c2 => ?_)
    · replace hw := hw.1 c2
      refine lv_bipush (v := -2) hx hb dX5_takeBack_23 (by decide) ?_
      exact x_iret C0 hO hw dX5_takeBack_25
    · replace hw := hw.2 c2
      refine lv_iload_n hx hb dX5_takeBack_9 rfl (lv_at hl 2 rfl) ?_
      refine lv_if_lt (tgt := 23) hx hb dX5_takeBack_10 (by decide) (fun c3 => ?_) (fun c3 => ?_)
      · replace hw := hw.1 c3
        refine lv_bipush (v := -2) hx hb dX5_takeBack_23 (by decide) ?_
        exact x_iret C0 hO hw dX5_takeBack_25
      · replace hw := hw.2 c3
        refine lv_iload_n hx hb dX5_takeBack_13 rfl (lv_at hl 2 rfl) ?_
        refine lv_aload_n hx hb dX5_takeBack_14 rfl (lv_at hl 0 rfl) ?_
        refine x_getr C0 hO 4 0 5 rfl rfl (by decide) rfl iX5_takeBack_5 rfl (List.mem_of_getElem? (i := 1) rfl) dX5_takeBack_15 ?_
        refine lv_iload_n hx hb dX5_takeBack_18 rfl (lv_at hl 1 rfl) ?_
        refine x_iald C0 hO 5 rfl hw.1 dX5_takeBack_19 ?_
        replace hw := hw.2
        refine lv_icmp_le (tgt := 26) hx hb dX5_takeBack_20 (by decide) (fun c4 => ?_) (fun c4 => ?_)
        · replace hw := hw.1 c4
          refine lv_aload_n hx hb dX5_takeBack_26 rfl (lv_at hl 0 rfl) ?_
          refine x_getr C0 hO 4 0 5 rfl rfl (by decide) rfl iX5_takeBack_5 rfl (List.mem_of_getElem? (i := 1) rfl) dX5_takeBack_27 ?_
          refine lv_iload_n hx hb dX5_takeBack_30 rfl (lv_at hl 1 rfl) ?_
          refine x_iald C0 hO 5 rfl hw.1 dX5_takeBack_31 ?_
          replace hw := hw.2
          refine lv_iload_n hx hb dX5_takeBack_32 rfl (lv_at hl 2 rfl) ?_
          refine lv_isub hx hb dX5_takeBack_33 ?_
          refine lv_topi (fun x5 ex5 => ?_)
          replace hw := hw x5 ex5
          refine lv_istore_n (lv' := [(3, .int x5), (0, .ref (xa g 4)), (1, .int a1), (2, .int a2)]) hx hb dX5_takeBack_34 rfl hl (by decide) rfl (fun ls hl => ?_)
          refine lv_iconst (v := 0) hx hb dX5_takeBack_35 (by decide) ?_
          refine lv_istore (lv' := [(4, .int (0 : Int32)), (3, .int x5), (0, .ref (xa g 4)), (1, .int a1), (2, .int a2)]) hx hb dX5_takeBack_36 hl (by decide) rfl (fun ls hl => ?_)
          refine lv_iconst (v := 0) hx hb dX5_takeBack_38 (by decide) ?_
          refine lv_istore (lv' := [(5, .int (0 : Int32)), (4, .int (0 : Int32)), (3, .int x5), (0, .ref (xa g 4)), (1, .int a1), (2, .int a2)]) hx hb dX5_takeBack_39 hl (by decide) rfl (fun ls hl => ?_)
          refine lX5_takeBack_41 C0 a1 a2 x5 post _ (fun x18 x19 σ20 H locs ls hw hO hl => ?_) 1000 _ _ _ _ _ _ hw hO (lv_sub hl [3, 4, 5, 2, 1, 0] rfl)
          refine lv_aload_n hx hb dX5_takeBack_98 rfl (lv_at hl 0 rfl) ?_
          refine lv_iload hx hb dX5_takeBack_99 (lv_at hl 4 rfl) ?_
          refine x_puti C0 hO 4 6 tyX5 tyX5_ok nmX5 rfl rfl (by decide) rfl iX5_takeBack_5 rfl rfl rfl (List.mem_of_getElem? (i := 2) rfl) dX5_takeBack_101 (fun σ21 H locs eσ21 hO => ?_)
          replace hw := hw σ21 eσ21
          refine lv_aload_n hx hb dX5_takeBack_104 rfl (lv_at hl 0 rfl) ?_
          refine x_getr C0 hO 4 0 5 rfl rfl (by decide) rfl iX5_takeBack_5 rfl (List.mem_of_getElem? (i := 1) rfl) dX5_takeBack_105 ?_
          refine lv_iload_n hx hb dX5_takeBack_108 rfl (lv_at hl 1 rfl) ?_
          refine lv_iload_n hx hb dX5_takeBack_109 rfl (lv_at hl 3 rfl) ?_
          refine x_iast C0 hO 5 rfl hw.1 dX5_takeBack_110 (fun σ22 H locs eσ22 hO => ?_)
          replace hw := hw.2 σ22 eσ22
          refine lv_iload_n hx hb dX5_takeBack_111 rfl (lv_at hl 3 rfl) ?_
          exact x_iret C0 hO hw dX5_takeBack_112
        · replace hw := hw.2 c4
          refine lv_bipush (v := -2) hx hb dX5_takeBack_23 (by decide) ?_
          exact x_iret C0 hO hw dX5_takeBack_25
theorem iX5_slotOf_5 : ∀ w ∈ wsX50, w ∈ wsX5_slotOf := fun w h => List.mem_cons_of_mem _ (List.mem_append_right _ h)
theorem hdX5_slotOf : yX5_slotOf.cls = RX5 ∧ yX5_slotOf.cls ≠ "java/lang/invoke/MethodHandle" ∧ yX5_slotOf.cls ≠ "java/lang/invoke/VarHandle" ∧ (parseMethodDescriptor yX5_slotOf.desc).map (fun d => d.parameters.length) = some 1 := by decide +kernel
set_option maxHeartbeats 4000000 in
set_option maxRecDepth 100000 in
theorem kX5_slotOf (l : Launch) (g : XG) (sz : Nat) (a1 : Int32) (σ : XS) (post : Int32 → Prop) (hw : PX5_slotOf a1 σ post) : xMi l yX5_slotOf wsX5_slotOf rmX5_slotOf 0 0 g sz [.ref (xa g 4), .int a1] σ (fun r u => σ = u ∧ post r) := by
  unfold PX5_slotOf at hw
  refine x_head (Qc := fun A => va_Qi (fun r u => σ = u ∧ post r) (xAt g A) A) (cc := cX5_slotOf) (maxL := 2) (ret := (some .int)) (by decide) rfl ?_
  intro p e s m below meth c A C0 hnm hO
  refine x_entry (Nat.le_of_ble_eq_true rfl) (fun ls hl => ?_)
  have hl : lv_has ls 2 [(0, .ref (xa g 4)), (1, .int a1)] := hl
  have hx := C0.1
  have hb := C0.2.1
  have hown := C0.2.2.2.2.2.1
  have hts := C0.2.2.2.2.2.2.1
  refine lv_iload_n hx hb dX5_slotOf_0 rfl (lv_at hl 1 rfl) ?_
  refine lv_if_lt (tgt := 24) hx hb dX5_slotOf_1 (by decide) (fun c1 => ?_) (fun c1 => ?_)
  · replace hw := hw.1 c1
    refine lv_bipush (v := -9) hx hb dX5_slotOf_24 (by decide) ?_
    exact x_iret C0 hO ⟨rfl, hw⟩ dX5_slotOf_26
  · replace hw := hw.2 c1
    refine lv_iload_n hx hb dX5_slotOf_4 rfl (lv_at hl 1 rfl) ?_
    refine lv_aload_n hx hb dX5_slotOf_5 rfl (lv_at hl 0 rfl) ?_
    refine x_getr C0 hO 4 0 5 rfl rfl (by decide) rfl iX5_slotOf_5 rfl (List.mem_of_getElem? (i := 1) rfl) dX5_slotOf_6 ?_
    refine lv_iconst (v := 2) hx hb dX5_slotOf_9 (by decide) ?_
    refine x_iald C0 hO 5 rfl hw.1 dX5_slotOf_10 ?_
    replace hw := hw.2
    refine lv_icmp_ge (tgt := 24) hx hb dX5_slotOf_11 (by decide) (fun c2 => ?_) (fun c2 => ?_)
    · replace hw := hw.1 c2
      refine lv_bipush (v := -9) hx hb dX5_slotOf_24 (by decide) ?_
      exact x_iret C0 hO ⟨rfl, hw⟩ dX5_slotOf_26
    · replace hw := hw.2 c2
      refine x_first C0 hO (List.mem_of_getElem? (i := 2) rfl) dX5_slotOf_14 ?_
      refine lv_iconst (v := 2) hx hb dX5_slotOf_17 (by decide) ?_
      refine x_firstAt C0 hO hw.1 dX5_slotOf_18 ?_
      replace hw := hw.2
      refine lv_iload_n hx hb dX5_slotOf_19 rfl (lv_at hl 1 rfl) ?_
      refine lv_iadd hx hb dX5_slotOf_20 ?_
      refine lv_goto (tgt := 26) hx hb dX5_slotOf_21 (by decide) ?_
      exact x_iret C0 hO ⟨rfl, hw⟩ dX5_slotOf_26
theorem iX5_personOf_5 : ∀ w ∈ wsX50, w ∈ wsX5_personOf := fun w h => List.mem_cons_of_mem _ (List.mem_append_right _ h)
theorem hdX5_personOf : yX5_personOf.cls = RX5 ∧ yX5_personOf.cls ≠ "java/lang/invoke/MethodHandle" ∧ yX5_personOf.cls ≠ "java/lang/invoke/VarHandle" ∧ (parseMethodDescriptor yX5_personOf.desc).map (fun d => d.parameters.length) = some 1 := by decide +kernel
set_option maxHeartbeats 4000000 in
set_option maxRecDepth 100000 in
theorem kX5_personOf (l : Launch) (g : XG) (sz : Nat) (a1 : Int32) (σ : XS) (post : Int32 → Prop) (hw : PX5_personOf a1 σ post) : xMi l yX5_personOf wsX5_personOf rmX5_personOf 0 0 g sz [.ref (xa g 4), .int a1] σ (fun r u => σ = u ∧ post r) := by
  unfold PX5_personOf at hw
  refine x_head (Qc := fun A => va_Qi (fun r u => σ = u ∧ post r) (xAt g A) A) (cc := cX5_personOf) (maxL := 3) (ret := (some .int)) (by decide) rfl ?_
  intro p e s m below meth c A C0 hnm hO
  refine x_entry (Nat.le_of_ble_eq_true rfl) (fun ls hl => ?_)
  have hl : lv_has ls 3 [(0, .ref (xa g 4)), (1, .int a1)] := hl
  have hx := C0.1
  have hb := C0.2.1
  have hown := C0.2.2.2.2.2.1
  have hts := C0.2.2.2.2.2.2.1
  refine lv_aload_n hx hb dX5_personOf_0 rfl (lv_at hl 0 rfl) ?_
  refine lv_iload_n hx hb dX5_personOf_1 rfl (lv_at hl 1 rfl) ?_
  refine x_calli C0 hO (x_runV (As := [.int a1]) (rest := []) C0 hO (kX5_slotOf l g _ a1 σ _ hw) 1 rfl (xRecv C0 hO (j := 4) rfl rfl) gX5_personOf_X5_slotOf rfl rfl rfl hdX5_slotOf ⟨Nat.le_of_ble_eq_true rfl, Nat.le_of_ble_eq_true rfl⟩ hl.1 rfl (Nat.le_of_ble_eq_true rfl) dX5_personOf_2 ⟨Nat.le_of_ble_eq_true rfl, Nat.le_of_ble_eq_true rfl⟩) (fun r1 σ' H locs hw hO => ?_)
  obtain ⟨hσ, hw⟩ := hw
  subst hσ
  refine lv_istore_n (lv' := [(2, .int r1), (0, .ref (xa g 4)), (1, .int a1)]) hx hb dX5_personOf_5 rfl hl (by decide) rfl (fun ls hl => ?_)
  refine lv_iload_n hx hb dX5_personOf_6 rfl (lv_at hl 0 rfl) ?_
  refine lv_bipush (v := -9) hx hb dX5_personOf_7 (by decide) ?_
  refine lv_icmp_ne (tgt := 17) hx hb dX5_personOf_9 (by decide) (fun c2 => ?_) (fun c2 => ?_)
  · replace hw := hw.2 c2
    refine lv_aload_n hx hb dX5_personOf_17 rfl (lv_at hl 1 rfl) ?_
    refine x_getr C0 hO 4 3 8 rfl rfl (by decide) rfl iX5_personOf_5 rfl (List.mem_of_getElem? (i := 1) rfl) dX5_personOf_18 ?_
    refine lv_iload_n hx hb dX5_personOf_21 rfl (lv_at hl 0 rfl) ?_
    refine x_iald C0 hO 8 rfl hw.1 dX5_personOf_22 ?_
    replace hw := hw.2
    exact x_iret C0 hO ⟨rfl, hw⟩ dX5_personOf_23
  · replace hw := hw.1 c2
    refine lv_bipush (v := -9) hx hb dX5_personOf_12 (by decide) ?_
    refine lv_goto (tgt := 23) hx hb dX5_personOf_14 (by decide) ?_
    exact x_iret C0 hO ⟨rfl, hw⟩ dX5_personOf_23
theorem iX5_placeOf_5 : ∀ w ∈ wsX50, w ∈ wsX5_placeOf := fun w h => List.mem_cons_of_mem _ (List.mem_append_right _ h)
theorem hdX5_placeOf : yX5_placeOf.cls = RX5 ∧ yX5_placeOf.cls ≠ "java/lang/invoke/MethodHandle" ∧ yX5_placeOf.cls ≠ "java/lang/invoke/VarHandle" ∧ (parseMethodDescriptor yX5_placeOf.desc).map (fun d => d.parameters.length) = some 1 := by decide +kernel
set_option maxHeartbeats 4000000 in
set_option maxRecDepth 100000 in
theorem kX5_placeOf (l : Launch) (g : XG) (sz : Nat) (a1 : Int32) (σ : XS) (post : Int32 → Prop) (hw : PX5_placeOf a1 σ post) : xMi l yX5_placeOf wsX5_placeOf rmX5_placeOf 0 0 g sz [.ref (xa g 4), .int a1] σ (fun r u => σ = u ∧ post r) := by
  unfold PX5_placeOf at hw
  refine x_head (Qc := fun A => va_Qi (fun r u => σ = u ∧ post r) (xAt g A) A) (cc := cX5_placeOf) (maxL := 3) (ret := (some .int)) (by decide) rfl ?_
  intro p e s m below meth c A C0 hnm hO
  refine x_entry (Nat.le_of_ble_eq_true rfl) (fun ls hl => ?_)
  have hl : lv_has ls 3 [(0, .ref (xa g 4)), (1, .int a1)] := hl
  have hx := C0.1
  have hb := C0.2.1
  have hown := C0.2.2.2.2.2.1
  have hts := C0.2.2.2.2.2.2.1
  refine lv_aload_n hx hb dX5_placeOf_0 rfl (lv_at hl 0 rfl) ?_
  refine lv_iload_n hx hb dX5_placeOf_1 rfl (lv_at hl 1 rfl) ?_
  refine x_calli C0 hO (x_runV (As := [.int a1]) (rest := []) C0 hO (kX5_slotOf l g _ a1 σ _ hw) 1 rfl (xRecv C0 hO (j := 4) rfl rfl) gX5_placeOf_X5_slotOf rfl rfl rfl hdX5_slotOf ⟨Nat.le_of_ble_eq_true rfl, Nat.le_of_ble_eq_true rfl⟩ hl.1 rfl (Nat.le_of_ble_eq_true rfl) dX5_placeOf_2 ⟨Nat.le_of_ble_eq_true rfl, Nat.le_of_ble_eq_true rfl⟩) (fun r1 σ' H locs hw hO => ?_)
  obtain ⟨hσ, hw⟩ := hw
  subst hσ
  refine lv_istore_n (lv' := [(2, .int r1), (0, .ref (xa g 4)), (1, .int a1)]) hx hb dX5_placeOf_5 rfl hl (by decide) rfl (fun ls hl => ?_)
  refine lv_iload_n hx hb dX5_placeOf_6 rfl (lv_at hl 0 rfl) ?_
  refine lv_bipush (v := -9) hx hb dX5_placeOf_7 (by decide) ?_
  refine lv_icmp_ne (tgt := 17) hx hb dX5_placeOf_9 (by decide) (fun c2 => ?_) (fun c2 => ?_)
  · replace hw := hw.2 c2
    refine lv_aload_n hx hb dX5_placeOf_17 rfl (lv_at hl 1 rfl) ?_
    refine x_getr C0 hO 4 2 7 rfl rfl (by decide) rfl iX5_placeOf_5 rfl (List.mem_of_getElem? (i := 1) rfl) dX5_placeOf_18 ?_
    refine lv_iload_n hx hb dX5_placeOf_21 rfl (lv_at hl 0 rfl) ?_
    refine x_iald C0 hO 7 rfl hw.1 dX5_placeOf_22 ?_
    replace hw := hw.2
    exact x_iret C0 hO ⟨rfl, hw⟩ dX5_placeOf_23
  · replace hw := hw.1 c2
    refine lv_bipush (v := -9) hx hb dX5_placeOf_12 (by decide) ?_
    refine lv_goto (tgt := 23) hx hb dX5_placeOf_14 (by decide) ?_
    exact x_iret C0 hO ⟨rfl, hw⟩ dX5_placeOf_23
theorem iX5_nightOf_5 : ∀ w ∈ wsX50, w ∈ wsX5_nightOf := fun w h => List.mem_cons_of_mem _ (List.mem_append_right _ h)
theorem hdX5_nightOf : yX5_nightOf.cls = RX5 ∧ yX5_nightOf.cls ≠ "java/lang/invoke/MethodHandle" ∧ yX5_nightOf.cls ≠ "java/lang/invoke/VarHandle" ∧ (parseMethodDescriptor yX5_nightOf.desc).map (fun d => d.parameters.length) = some 1 := by decide +kernel
set_option maxHeartbeats 4000000 in
set_option maxRecDepth 100000 in
theorem kX5_nightOf (l : Launch) (g : XG) (sz : Nat) (a1 : Int32) (σ : XS) (post : Int32 → Prop) (hw : PX5_nightOf a1 σ post) : xMi l yX5_nightOf wsX5_nightOf rmX5_nightOf 0 0 g sz [.ref (xa g 4), .int a1] σ (fun r u => σ = u ∧ post r) := by
  unfold PX5_nightOf at hw
  refine x_head (Qc := fun A => va_Qi (fun r u => σ = u ∧ post r) (xAt g A) A) (cc := cX5_nightOf) (maxL := 3) (ret := (some .int)) (by decide) rfl ?_
  intro p e s m below meth c A C0 hnm hO
  refine x_entry (Nat.le_of_ble_eq_true rfl) (fun ls hl => ?_)
  have hl : lv_has ls 3 [(0, .ref (xa g 4)), (1, .int a1)] := hl
  have hx := C0.1
  have hb := C0.2.1
  have hown := C0.2.2.2.2.2.1
  have hts := C0.2.2.2.2.2.2.1
  refine lv_aload_n hx hb dX5_nightOf_0 rfl (lv_at hl 0 rfl) ?_
  refine lv_iload_n hx hb dX5_nightOf_1 rfl (lv_at hl 1 rfl) ?_
  refine x_calli C0 hO (x_runV (As := [.int a1]) (rest := []) C0 hO (kX5_slotOf l g _ a1 σ _ hw) 1 rfl (xRecv C0 hO (j := 4) rfl rfl) gX5_nightOf_X5_slotOf rfl rfl rfl hdX5_slotOf ⟨Nat.le_of_ble_eq_true rfl, Nat.le_of_ble_eq_true rfl⟩ hl.1 rfl (Nat.le_of_ble_eq_true rfl) dX5_nightOf_2 ⟨Nat.le_of_ble_eq_true rfl, Nat.le_of_ble_eq_true rfl⟩) (fun r1 σ' H locs hw hO => ?_)
  obtain ⟨hσ, hw⟩ := hw
  subst hσ
  refine lv_istore_n (lv' := [(2, .int r1), (0, .ref (xa g 4)), (1, .int a1)]) hx hb dX5_nightOf_5 rfl hl (by decide) rfl (fun ls hl => ?_)
  refine lv_iload_n hx hb dX5_nightOf_6 rfl (lv_at hl 0 rfl) ?_
  refine lv_bipush (v := -9) hx hb dX5_nightOf_7 (by decide) ?_
  refine lv_icmp_ne (tgt := 17) hx hb dX5_nightOf_9 (by decide) (fun c2 => ?_) (fun c2 => ?_)
  · replace hw := hw.2 c2
    refine lv_aload_n hx hb dX5_nightOf_17 rfl (lv_at hl 1 rfl) ?_
    refine x_getr C0 hO 4 1 6 rfl rfl (by decide) rfl iX5_nightOf_5 rfl (List.mem_of_getElem? (i := 1) rfl) dX5_nightOf_18 ?_
    refine lv_iload_n hx hb dX5_nightOf_21 rfl (lv_at hl 0 rfl) ?_
    refine x_iald C0 hO 6 rfl hw.1 dX5_nightOf_22 ?_
    replace hw := hw.2
    exact x_iret C0 hO ⟨rfl, hw⟩ dX5_nightOf_23
  · replace hw := hw.1 c2
    refine lv_bipush (v := -9) hx hb dX5_nightOf_12 (by decide) ?_
    refine lv_goto (tgt := 23) hx hb dX5_nightOf_14 (by decide) ?_
    exact x_iret C0 hO ⟨rfl, hw⟩ dX5_nightOf_23
theorem iX5_gumOf_5 : ∀ w ∈ wsX50, w ∈ wsX5_gumOf := fun w h => List.mem_cons_of_mem _ (List.mem_append_right _ h)
theorem hdX5_gumOf : yX5_gumOf.cls = RX5 ∧ yX5_gumOf.cls ≠ "java/lang/invoke/MethodHandle" ∧ yX5_gumOf.cls ≠ "java/lang/invoke/VarHandle" ∧ (parseMethodDescriptor yX5_gumOf.desc).map (fun d => d.parameters.length) = some 1 := by decide +kernel
set_option maxHeartbeats 4000000 in
set_option maxRecDepth 100000 in
theorem kX5_gumOf (l : Launch) (g : XG) (sz : Nat) (a1 : Int32) (σ : XS) (post : Int32 → Prop) (hw : PX5_gumOf a1 σ post) : xMi l yX5_gumOf wsX5_gumOf rmX5_gumOf 0 0 g sz [.ref (xa g 4), .int a1] σ (fun r u => σ = u ∧ post r) := by
  unfold PX5_gumOf at hw
  refine x_head (Qc := fun A => va_Qi (fun r u => σ = u ∧ post r) (xAt g A) A) (cc := cX5_gumOf) (maxL := 3) (ret := (some .int)) (by decide) rfl ?_
  intro p e s m below meth c A C0 hnm hO
  refine x_entry (Nat.le_of_ble_eq_true rfl) (fun ls hl => ?_)
  have hl : lv_has ls 3 [(0, .ref (xa g 4)), (1, .int a1)] := hl
  have hx := C0.1
  have hb := C0.2.1
  have hown := C0.2.2.2.2.2.1
  have hts := C0.2.2.2.2.2.2.1
  refine lv_aload_n hx hb dX5_gumOf_0 rfl (lv_at hl 0 rfl) ?_
  refine lv_iload_n hx hb dX5_gumOf_1 rfl (lv_at hl 1 rfl) ?_
  refine x_calli C0 hO (x_runV (As := [.int a1]) (rest := []) C0 hO (kX5_slotOf l g _ a1 σ _ hw) 1 rfl (xRecv C0 hO (j := 4) rfl rfl) gX5_gumOf_X5_slotOf rfl rfl rfl hdX5_slotOf ⟨Nat.le_of_ble_eq_true rfl, Nat.le_of_ble_eq_true rfl⟩ hl.1 rfl (Nat.le_of_ble_eq_true rfl) dX5_gumOf_2 ⟨Nat.le_of_ble_eq_true rfl, Nat.le_of_ble_eq_true rfl⟩) (fun r1 σ' H locs hw hO => ?_)
  obtain ⟨hσ, hw⟩ := hw
  subst hσ
  refine lv_istore_n (lv' := [(2, .int r1), (0, .ref (xa g 4)), (1, .int a1)]) hx hb dX5_gumOf_5 rfl hl (by decide) rfl (fun ls hl => ?_)
  refine lv_iload_n hx hb dX5_gumOf_6 rfl (lv_at hl 0 rfl) ?_
  refine lv_bipush (v := -9) hx hb dX5_gumOf_7 (by decide) ?_
  refine lv_icmp_ne (tgt := 17) hx hb dX5_gumOf_9 (by decide) (fun c2 => ?_) (fun c2 => ?_)
  · replace hw := hw.2 c2
    refine lv_aload_n hx hb dX5_gumOf_17 rfl (lv_at hl 1 rfl) ?_
    refine x_getr C0 hO 4 4 9 rfl rfl (by decide) rfl iX5_gumOf_5 rfl (List.mem_of_getElem? (i := 1) rfl) dX5_gumOf_18 ?_
    refine lv_iload_n hx hb dX5_gumOf_21 rfl (lv_at hl 0 rfl) ?_
    refine x_iald C0 hO 9 rfl hw.1 dX5_gumOf_22 ?_
    replace hw := hw.2
    exact x_iret C0 hO ⟨rfl, hw⟩ dX5_gumOf_23
  · replace hw := hw.1 c2
    refine lv_bipush (v := -9) hx hb dX5_gumOf_12 (by decide) ?_
    refine lv_goto (tgt := 23) hx hb dX5_gumOf_14 (by decide) ?_
    exact x_iret C0 hO ⟨rfl, hw⟩ dX5_gumOf_23
theorem iX5_happen_5 : ∀ w ∈ wsX50, w ∈ wsX5_happen := fun w h => List.mem_cons_of_mem _ (List.mem_append_left _ (List.mem_append_right _ h))
theorem hdX5_happen : yX5_happen.cls = RX5 ∧ yX5_happen.cls ≠ "java/lang/invoke/MethodHandle" ∧ yX5_happen.cls ≠ "java/lang/invoke/VarHandle" ∧ (parseMethodDescriptor yX5_happen.desc).map (fun d => d.parameters.length) = some 2 := by decide +kernel
set_option maxHeartbeats 4000000 in
set_option maxRecDepth 100000 in
theorem kX5_happen (l : Launch) (g : XG) (sz : Nat) (a1 : Int32) (σ : XS) (post : XS → Prop) (hw : PX5_happen a1 σ post) : xMv l yX5_happen wsX5_happen rmX5_happen 0 0 g sz [.ref (xa g 4), .int a1, .ref (xa g 11)] σ post := by
  unfold PX5_happen at hw
  refine x_head (Qc := fun A => va_Qv post (xAt g A) A) (cc := cX5_happen) (maxL := 3) (ret := none) (by decide) rfl ?_
  intro p e s m below meth c A C0 hnm hO
  refine x_entry (Nat.le_of_ble_eq_true rfl) (fun ls hl => ?_)
  have hl : lv_has ls 3 [(0, .ref (xa g 4)), (1, .int a1), (2, .ref (xa g 11))] := hl
  have hx := C0.1
  have hb := C0.2.1
  have hown := C0.2.2.2.2.2.1
  have hts := C0.2.2.2.2.2.2.1
  refine lv_iload_n hx hb dX5_happen_0 rfl (lv_at hl 1 rfl) ?_
  refine x_calli C0 hO (x_runS (As := [.int a1]) (rest := []) C0 hO (kX5_kindIn l g _ a1 σ _ hw) 1 rfl gX5_happen_X5_kindIn rfl rfl rfl hdX5_kindIn.2 ⟨Nat.le_of_ble_eq_true rfl, Nat.le_of_ble_eq_true rfl⟩ hl.1 rfl (Nat.le_of_ble_eq_true rfl) dX5_happen_1 ⟨Nat.le_of_ble_eq_true rfl, Nat.le_of_ble_eq_true rfl⟩) (fun r1 σ' H locs hw hO => ?_)
  obtain ⟨hσ, hw⟩ := hw
  subst hσ
  rcases Decidable.em (r1 = (0 : Int32)) with c5 | c5
  · replace hw := hw.1 c5
    refine lv_tableIn (off := 28) (tgt := 32) hx hb dX5_happen_4 (by rw [c5]; decide) (by rw [c5]; decide) (by rw [c5]; rfl) (by decide) ?_
    refine lv_aload_n hx hb dX5_happen_32 rfl (lv_at hl 2 rfl) ?_
    refine lv_aload_n hx hb dX5_happen_33 rfl (lv_at hl 0 rfl) ?_
    refine x_getr C0 hO 4 2 7 rfl rfl (by decide) rfl iX5_happen_5 rfl (List.mem_of_getElem? (i := 1) rfl) dX5_happen_34 ?_
    refine lv_iload_n hx hb dX5_happen_37 rfl (lv_at hl 1 rfl) ?_
    refine x_iald C0 hO 7 rfl hw.1 dX5_happen_38 ?_
    replace hw := hw.2
    refine x_callv C0 hO (x_runV (As := [.int (gI σ 7 a1.toNatClampNeg)]) (rest := []) C0 hO (kX1_wipe l g _ (gI σ 7 a1.toNatClampNeg) σ _ hw) 1 rfl (xRecv C0 hO (j := 11) rfl rfl) gX5_happen_X1_wipe rfl rfl rfl hdX1_wipe ⟨Nat.le_of_ble_eq_true rfl, Nat.le_of_ble_eq_true rfl⟩ hl.1 rfl (Nat.le_of_ble_eq_true rfl) dX5_happen_39 ⟨Nat.le_of_ble_eq_true rfl, Nat.le_of_ble_eq_true rfl⟩) (fun σ2 H locs hw hO => ?_)
    refine lv_goto (tgt := 84) hx hb dX5_happen_42 (by decide) ?_
    exact x_vret C0 hO hw dX5_happen_84
  · rcases Decidable.em (r1 = (1 : Int32)) with c6 | c6
    · replace hw := hw.2.1 c6
      refine lv_tableIn (off := 41) (tgt := 45) hx hb dX5_happen_4 (by rw [c6]; decide) (by rw [c6]; decide) (by rw [c6]; rfl) (by decide) ?_
      refine lv_aload_n hx hb dX5_happen_45 rfl (lv_at hl 2 rfl) ?_
      refine lv_aload_n hx hb dX5_happen_46 rfl (lv_at hl 0 rfl) ?_
      refine x_getr C0 hO 4 2 7 rfl rfl (by decide) rfl iX5_happen_5 rfl (List.mem_of_getElem? (i := 1) rfl) dX5_happen_47 ?_
      refine lv_iload_n hx hb dX5_happen_50 rfl (lv_at hl 1 rfl) ?_
      refine x_iald C0 hO 7 rfl hw.1 dX5_happen_51 ?_
      replace hw := hw.2
      refine lv_aload_n hx hb dX5_happen_52 rfl (lv_at hl 0 rfl) ?_
      refine x_getr C0 hO 4 3 8 rfl rfl (by decide) rfl iX5_happen_5 rfl (List.mem_of_getElem? (i := 2) rfl) dX5_happen_53 ?_
      refine lv_iload_n hx hb dX5_happen_56 rfl (lv_at hl 1 rfl) ?_
      refine x_iald C0 hO 8 rfl hw.1 dX5_happen_57 ?_
      replace hw := hw.2
      refine x_callv C0 hO (x_runV (As := [.int (gI σ 7 a1.toNatClampNeg), .int (gI σ 8 a1.toNatClampNeg)]) (rest := []) C0 hO (kX1_swap l g _ (gI σ 7 a1.toNatClampNeg) (gI σ 8 a1.toNatClampNeg) σ _ hw) 2 rfl (xRecv C0 hO (j := 11) rfl rfl) gX5_happen_X1_swap rfl rfl rfl hdX1_swap ⟨Nat.le_of_ble_eq_true rfl, Nat.le_of_ble_eq_true rfl⟩ hl.1 rfl (Nat.le_of_ble_eq_true rfl) dX5_happen_58 ⟨Nat.le_of_ble_eq_true rfl, Nat.le_of_ble_eq_true rfl⟩) (fun σ3 H locs hw hO => ?_)
      refine lv_goto (tgt := 84) hx hb dX5_happen_61 (by decide) ?_
      exact x_vret C0 hO hw dX5_happen_84
    · rcases Decidable.em (r1 = (2 : Int32)) with c7 | c7
      · replace hw := hw.2.2.1 c7
        refine lv_tableIn (off := 60) (tgt := 64) hx hb dX5_happen_4 (by rw [c7]; decide) (by rw [c7]; decide) (by rw [c7]; rfl) (by decide) ?_
        refine lv_aload_n hx hb dX5_happen_64 rfl (lv_at hl 2 rfl) ?_
        refine lv_aload_n hx hb dX5_happen_65 rfl (lv_at hl 0 rfl) ?_
        refine x_getr C0 hO 4 2 7 rfl rfl (by decide) rfl iX5_happen_5 rfl (List.mem_of_getElem? (i := 1) rfl) dX5_happen_66 ?_
        refine lv_iload_n hx hb dX5_happen_69 rfl (lv_at hl 1 rfl) ?_
        refine x_iald C0 hO 7 rfl hw.1 dX5_happen_70 ?_
        replace hw := hw.2
        refine lv_iload_n hx hb dX5_happen_71 rfl (lv_at hl 1 rfl) ?_
        refine x_first C0 hO (List.mem_of_getElem? (i := 3) rfl) dX5_happen_72 ?_
        refine lv_iconst (v := 2) hx hb dX5_happen_75 (by decide) ?_
        refine x_firstAt C0 hO hw.1 dX5_happen_76 ?_
        replace hw := hw.2
        refine lv_isub hx hb dX5_happen_77 ?_
        refine x_callv C0 hO (x_runV (As := [.int (gI σ 7 a1.toNatClampNeg), .int (a1 - (xFirst (2 : Int32).toNatClampNeg))]) (rest := []) C0 hO (kX1_press l g _ (gI σ 7 a1.toNatClampNeg) (a1 - (xFirst (2 : Int32).toNatClampNeg)) σ _ hw) 2 rfl (xRecv C0 hO (j := 11) rfl rfl) gX5_happen_X1_press rfl rfl rfl hdX1_press ⟨Nat.le_of_ble_eq_true rfl, Nat.le_of_ble_eq_true rfl⟩ hl.1 rfl (Nat.le_of_ble_eq_true rfl) dX5_happen_78 ⟨Nat.le_of_ble_eq_true rfl, Nat.le_of_ble_eq_true rfl⟩) (fun σ4 H locs hw hO => ?_)
        refine lv_goto (tgt := 84) hx hb dX5_happen_81 (by decide) ?_
        exact x_vret C0 hO hw dX5_happen_84
      · replace hw := hw.2.2.2 c5 c6 c7
        have nc5 := lv_neT (a := 0) c5 (by decide)
        have nc6 := lv_neT (a := 1) c6 (by decide)
        have nc7 := lv_neT (a := 2) c7 (by decide)
        refine lv_tableOut (tgt := 84) hx hb dX5_happen_4 (by omega) (by decide) ?_
        exact x_vret C0 hO hw dX5_happen_84
theorem iX5_playTo_5 : ∀ w ∈ wsX50, w ∈ wsX5_playTo := fun w h => List.mem_cons_of_mem _ (List.mem_append_left _ (List.mem_append_right _ h))
theorem hdX5_playTo : yX5_playTo.cls = RX5 ∧ yX5_playTo.cls ≠ "java/lang/invoke/MethodHandle" ∧ yX5_playTo.cls ≠ "java/lang/invoke/VarHandle" ∧ (parseMethodDescriptor yX5_playTo.desc).map (fun d => d.parameters.length) = some 2 := by decide +kernel
set_option maxHeartbeats 4000000 in
set_option maxRecDepth 100000 in
theorem lX5_playTo_6 {p : Program} {l : Launch} {e : Env} {s : State} {m : MethodId} {args : Array Value} {below : List Frame} {meth : Method} {c : Code} {g : XG} {A : Nat → Prop} (C0 : xC g A wsX5_playTo RX5 cX5_playTo 4 none p s m args meth c) (f1 : Int32) (post : XS → Prop) (kx : Int32 → XS → Prop)
    (hkx : ∀ (m3 : Int32) (σ : XS) (H : Heap) (locs : List Loc) (ls : Array Slot), kx m3 σ → xO g A s σ H locs → lv_has ls 4 [(0, .ref (xa g 4)), (1, .int f1), (2, .ref (xa g 11)), (3, .int m3)] → W p l e (headSpec wsX5_playTo rmX5_playTo).room s m args below meth c H locs 0 0 (MQ below (va_Qv post (xAt g A) A) args s 0 0 A) (F0 m 46 ls [])) :
    ∀ (n : Nat) (m3 : Int32) (σ : XS) (H : Heap) (locs : List Loc) (ls : Array Slot), LX5_playTo_6 f1 post kx n m3 σ → xO g A s σ H locs → lv_has ls 4 [(0, .ref (xa g 4)), (1, .int f1), (2, .ref (xa g 11)), (3, .int m3)] → W p l e (headSpec wsX5_playTo rmX5_playTo).room s m args below meth c H locs 0 0 (MQ below (va_Qv post (xAt g A) A) args s 0 0 A) (F0 m 6 ls []) := by
  have hx := C0.1
  have hb := C0.2.1
  have hown := C0.2.2.2.2.2.1
  have hts := C0.2.2.2.2.2.2.1
  intro n
  induction n with
  | zero =>
    intro m3 σ H locs ls hw
    exact hw.elim
  | succ n ih =>
    intro m3 σ H locs ls hw hO hl
    rw [LX5_playTo_6] at hw
    refine lv_iload_n hx hb dX5_playTo_6 rfl (lv_at hl 3 rfl) ?_
    refine lv_aload_n hx hb dX5_playTo_7 rfl (lv_at hl 0 rfl) ?_
    refine x_geti C0 hO 4 6 rfl rfl (by decide) rfl iX5_playTo_5 rfl (List.mem_of_getElem? (i := 1) rfl) dX5_playTo_8 ?_
    refine lv_icmp_ge (tgt := 46) hx hb dX5_playTo_11 (by decide) (fun c2 => ?_) (fun c2 => ?_)
    · replace hw := hw.1 c2
      exact hkx _ _ _ _ _ hw hO (lv_sub hl [0, 1, 2, 3] rfl)
    · replace hw := hw.2 c2
      refine lv_aload_n hx hb dX5_playTo_14 rfl (lv_at hl 0 rfl) ?_
      refine x_getr C0 hO 4 1 6 rfl rfl (by decide) rfl iX5_playTo_5 rfl (List.mem_of_getElem? (i := 2) rfl) dX5_playTo_15 ?_
      refine lv_aload_n hx hb dX5_playTo_18 rfl (lv_at hl 0 rfl) ?_
      refine x_getr C0 hO 4 5 10 rfl rfl (by decide) rfl iX5_playTo_5 rfl (List.mem_of_getElem? (i := 3) rfl) dX5_playTo_19 ?_
      refine lv_iload_n hx hb dX5_playTo_22 rfl (lv_at hl 3 rfl) ?_
      refine x_iald C0 hO 10 rfl hw.1 dX5_playTo_23 ?_
      replace hw := hw.2
      refine x_iald C0 hO 6 rfl hw.1 dX5_playTo_24 ?_
      replace hw := hw.2
      refine lv_iload_n hx hb dX5_playTo_25 rfl (lv_at hl 1 rfl) ?_
      refine lv_icmp_gt (tgt := 46) hx hb dX5_playTo_26 (by decide) (fun c3 => ?_) (fun c3 => ?_)
      · replace hw := hw.1 c3
        exact hkx _ _ _ _ _ hw hO (lv_sub hl [0, 1, 2, 3] rfl)
      · replace hw := hw.2 c3
        refine lv_aload_n hx hb dX5_playTo_29 rfl (lv_at hl 0 rfl) ?_
        refine lv_aload_n hx hb dX5_playTo_30 rfl (lv_at hl 0 rfl) ?_
        refine x_getr C0 hO 4 5 10 rfl rfl (by decide) rfl iX5_playTo_5 rfl (List.mem_of_getElem? (i := 3) rfl) dX5_playTo_31 ?_
        refine lv_iload_n hx hb dX5_playTo_34 rfl (lv_at hl 3 rfl) ?_
        refine x_iald C0 hO 10 rfl hw.1 dX5_playTo_35 ?_
        replace hw := hw.2
        refine lv_aload_n hx hb dX5_playTo_36 rfl (lv_at hl 2 rfl) ?_
        refine x_callv C0 hO (x_runV (As := [.int (gI σ 10 m3.toNatClampNeg), .ref (xa g 11)]) (rest := []) C0 hO (kX5_happen l g _ (gI σ 10 m3.toNatClampNeg) σ _ hw) 2 rfl (xRecv C0 hO (j := 4) rfl rfl) gX5_playTo_X5_happen rfl rfl rfl hdX5_happen ⟨Nat.le_of_ble_eq_true rfl, Nat.le_of_ble_eq_true rfl⟩ hl.1 rfl (Nat.le_of_ble_eq_true rfl) dX5_playTo_37 ⟨Nat.le_of_ble_eq_true rfl, Nat.le_of_ble_eq_true rfl⟩) (fun σ4 H locs hw hO => ?_)
        obtain ⟨x5, ex5⟩ : ∃ z : Int32, z = m3 + 1 := ⟨_, rfl⟩
        replace hw := hw x5 ex5
        refine lv_iinc (v := x5) (lv' := [(3, .int x5), (0, .ref (xa g 4)), (1, .int f1), (2, .ref (xa g 11))]) hx hb dX5_playTo_40 hl (k := 3) rfl (by rw [ex5]; rfl) (by decide) rfl (fun ls hl => ?_)
        refine lv_goto (tgt := 6) hx hb dX5_playTo_43 (by decide) ?_
        exact ih _ _ _ _ _ hw hO (lv_sub hl [1, 2, 3, 0] rfl)
set_option maxHeartbeats 4000000 in
set_option maxRecDepth 100000 in
theorem kX5_playTo (l : Launch) (g : XG) (sz : Nat) (a1 : Int32) (σ : XS) (post : XS → Prop) (hw : PX5_playTo a1 σ post) : xMv l yX5_playTo wsX5_playTo rmX5_playTo 0 0 g sz [.ref (xa g 4), .int a1, .ref (xa g 11)] σ post := by
  unfold PX5_playTo at hw
  refine x_head (Qc := fun A => va_Qv post (xAt g A) A) (cc := cX5_playTo) (maxL := 4) (ret := none) (by decide) rfl ?_
  intro p e s m below meth c A C0 hnm hO
  refine x_entry (Nat.le_of_ble_eq_true rfl) (fun ls hl => ?_)
  have hl : lv_has ls 4 [(0, .ref (xa g 4)), (1, .int a1), (2, .ref (xa g 11))] := hl
  have hx := C0.1
  have hb := C0.2.1
  have hown := C0.2.2.2.2.2.1
  have hts := C0.2.2.2.2.2.2.1
  refine lv_aload_n hx hb dX5_playTo_0 rfl (lv_at hl 2 rfl) ?_
  refine x_callv C0 hO (x_runV (As := []) (rest := []) C0 hO (kX1_reset l g _  σ _ hw) 0 rfl (xRecv C0 hO (j := 11) rfl rfl) gX5_playTo_X1_reset rfl rfl rfl hdX1_reset ⟨Nat.le_of_ble_eq_true rfl, Nat.le_of_ble_eq_true rfl⟩ hl.1 rfl (Nat.le_of_ble_eq_true rfl) dX5_playTo_1 ⟨Nat.le_of_ble_eq_true rfl, Nat.le_of_ble_eq_true rfl⟩) (fun σ1 H locs hw hO => ?_)
  refine lv_iconst (v := 0) hx hb dX5_playTo_4 (by decide) ?_
  refine lv_istore_n (lv' := [(3, .int (0 : Int32)), (0, .ref (xa g 4)), (1, .int a1), (2, .ref (xa g 11))]) hx hb dX5_playTo_5 rfl hl (by decide) rfl (fun ls hl => ?_)
  refine lX5_playTo_6 C0 a1 post _ (fun x6 σ7 H locs ls hw hO hl => ?_) 1000 _ _ _ _ _ hw hO (lv_sub hl [1, 2, 3, 0] rfl)
  exact x_vret C0 hO hw dX5_playTo_46
theorem iX5_isSo_5 : ∀ w ∈ wsX50, w ∈ wsX5_isSo := fun w h => List.mem_cons_of_mem _ (List.mem_append_left _ (List.mem_append_right _ h))
theorem hdX5_isSo : yX5_isSo.cls = RX5 ∧ yX5_isSo.cls ≠ "java/lang/invoke/MethodHandle" ∧ yX5_isSo.cls ≠ "java/lang/invoke/VarHandle" ∧ (parseMethodDescriptor yX5_isSo.desc).map (fun d => d.parameters.length) = some 2 := by decide +kernel
set_option maxHeartbeats 4000000 in
set_option maxRecDepth 100000 in
theorem kX5_isSo (l : Launch) (g : XG) (sz : Nat) (a1 : Int32) (σ : XS) (post : Int32 → Prop) (hw : PX5_isSo a1 σ post) : xMi l yX5_isSo wsX5_isSo rmX5_isSo 0 0 g sz [.ref (xa g 4), .int a1, .ref (xa g 11)] σ (fun r u => σ = u ∧ post r) := by
  unfold PX5_isSo at hw
  refine x_head (Qc := fun A => va_Qi (fun r u => σ = u ∧ post r) (xAt g A) A) (cc := cX5_isSo) (maxL := 5) (ret := (some .boolean)) (by decide) rfl ?_
  intro p e s m below meth c A C0 hnm hO
  refine x_entry (Nat.le_of_ble_eq_true rfl) (fun ls hl => ?_)
  have hl : lv_has ls 5 [(0, .ref (xa g 4)), (1, .int a1), (2, .ref (xa g 11))] := hl
  have hx := C0.1
  have hb := C0.2.1
  have hown := C0.2.2.2.2.2.1
  have hts := C0.2.2.2.2.2.2.1
  refine lv_aload_n hx hb dX5_isSo_0 rfl (lv_at hl 2 rfl) ?_
  refine lv_aload_n hx hb dX5_isSo_1 rfl (lv_at hl 0 rfl) ?_
  refine x_getr C0 hO 4 2 7 rfl rfl (by decide) rfl iX5_isSo_5 rfl (List.mem_of_getElem? (i := 1) rfl) dX5_isSo_2 ?_
  refine lv_iload_n hx hb dX5_isSo_5 rfl (lv_at hl 1 rfl) ?_
  refine x_iald C0 hO 7 rfl hw.1 dX5_isSo_6 ?_
  replace hw := hw.2
  refine lv_aload_n hx hb dX5_isSo_7 rfl (lv_at hl 0 rfl) ?_
  refine x_getr C0 hO 4 3 8 rfl rfl (by decide) rfl iX5_isSo_5 rfl (List.mem_of_getElem? (i := 2) rfl) dX5_isSo_8 ?_
  refine lv_iload_n hx hb dX5_isSo_11 rfl (lv_at hl 1 rfl) ?_
  refine x_iald C0 hO 8 rfl hw.1 dX5_isSo_12 ?_
  replace hw := hw.2
  refine x_calli C0 hO (x_runV (As := [.int (gI σ 7 a1.toNatClampNeg), .int (gI σ 8 a1.toNatClampNeg)]) (rest := []) C0 hO (kX1_layerAt l g _ (gI σ 7 a1.toNatClampNeg) (gI σ 8 a1.toNatClampNeg) σ _ hw) 2 rfl (xRecv C0 hO (j := 11) rfl rfl) gX5_isSo_X1_layerAt rfl rfl rfl hdX1_layerAt ⟨Nat.le_of_ble_eq_true rfl, Nat.le_of_ble_eq_true rfl⟩ hl.1 rfl (Nat.le_of_ble_eq_true rfl) dX5_isSo_13 ⟨Nat.le_of_ble_eq_true rfl, Nat.le_of_ble_eq_true rfl⟩) (fun r1 σ' H locs hw hO => ?_)
  obtain ⟨hσ, hw⟩ := hw
  subst hσ
  refine lv_istore_n (lv' := [(3, .int r1), (0, .ref (xa g 4)), (1, .int a1), (2, .ref (xa g 11))]) hx hb dX5_isSo_16 rfl hl (by decide) rfl (fun ls hl => ?_)
  refine lv_iload_n hx hb dX5_isSo_17 rfl (lv_at hl 0 rfl) ?_
  refine lv_bipush (v := -9) hx hb dX5_isSo_18 (by decide) ?_
  refine lv_icmp_ne (tgt := 28) hx hb dX5_isSo_20 (by decide) (fun c2 => ?_) (fun c2 => ?_)
  · replace hw := hw.2 c2
    refine lv_aload_n hx hb dX5_isSo_28 rfl (lv_at hl 1 rfl) ?_
    refine lv_iload_n hx hb dX5_isSo_29 rfl (lv_at hl 0 rfl) ?_
    refine x_calli C0 hO (x_runV (As := [.int r1]) (rest := []) C0 hO (kX5_gumOf l g _ r1 σ _ hw) 1 rfl (xRecv C0 hO (j := 4) rfl rfl) gX5_isSo_X5_gumOf rfl rfl rfl hdX5_gumOf ⟨Nat.le_of_ble_eq_true rfl, Nat.le_of_ble_eq_true rfl⟩ hl.1 rfl (Nat.le_of_ble_eq_true rfl) dX5_isSo_30 ⟨Nat.le_of_ble_eq_true rfl, Nat.le_of_ble_eq_true rfl⟩) (fun r3 σ' H locs hw hO => ?_)
    obtain ⟨hσ, hw⟩ := hw
    subst hσ
    refine lv_istore (lv' := [(4, .int r3), (3, .int r1), (0, .ref (xa g 4)), (1, .int a1), (2, .ref (xa g 11))]) hx hb dX5_isSo_33 hl (by decide) rfl (fun ls hl => ?_)
    refine lv_iload hx hb dX5_isSo_35 (lv_at hl 0 rfl) ?_
    refine lv_aload_n hx hb dX5_isSo_37 rfl (lv_at hl 2 rfl) ?_
    refine x_getr C0 hO 4 4 9 rfl rfl (by decide) rfl iX5_isSo_5 rfl (List.mem_of_getElem? (i := 3) rfl) dX5_isSo_38 ?_
    refine lv_iload_n hx hb dX5_isSo_41 rfl (lv_at hl 3 rfl) ?_
    refine x_iald C0 hO 9 rfl hw.1 dX5_isSo_42 ?_
    replace hw := hw.2
    refine lv_icmp_ne (tgt := 50) hx hb dX5_isSo_43 (by decide) (fun c4 => ?_) (fun c4 => ?_)
    · replace hw := hw.2 c4
      refine lv_iconst (v := 0) hx hb dX5_isSo_50 (by decide) ?_
      exact x_zret C0 hO rfl ⟨rfl, hw⟩ dX5_isSo_51
    · replace hw := hw.1 c4
      refine lv_iconst (v := 1) hx hb dX5_isSo_46 (by decide) ?_
      refine lv_goto (tgt := 51) hx hb dX5_isSo_47 (by decide) ?_
      exact x_zret C0 hO rfl ⟨rfl, hw⟩ dX5_isSo_51
  · replace hw := hw.1 c2
    refine lv_bipush (v := 9) hx hb dX5_isSo_23 (by decide) ?_
    refine lv_goto (tgt := 33) hx hb dX5_isSo_25 (by decide) ?_
    refine lv_istore (lv' := [(4, .int (9 : Int32)), (3, .int r1), (0, .ref (xa g 4)), (1, .int a1), (2, .ref (xa g 11))]) hx hb dX5_isSo_33 hl (by decide) rfl (fun ls hl => ?_)
    refine lv_iload hx hb dX5_isSo_35 (lv_at hl 0 rfl) ?_
    refine lv_aload_n hx hb dX5_isSo_37 rfl (lv_at hl 2 rfl) ?_
    refine x_getr C0 hO 4 4 9 rfl rfl (by decide) rfl iX5_isSo_5 rfl (List.mem_of_getElem? (i := 3) rfl) dX5_isSo_38 ?_
    refine lv_iload_n hx hb dX5_isSo_41 rfl (lv_at hl 3 rfl) ?_
    refine x_iald C0 hO 9 rfl hw.1 dX5_isSo_42 ?_
    replace hw := hw.2
    refine lv_icmp_ne (tgt := 50) hx hb dX5_isSo_43 (by decide) (fun c5 => ?_) (fun c5 => ?_)
    · replace hw := hw.2 c5
      refine lv_iconst (v := 0) hx hb dX5_isSo_50 (by decide) ?_
      exact x_zret C0 hO rfl ⟨rfl, hw⟩ dX5_isSo_51
    · replace hw := hw.1 c5
      refine lv_iconst (v := 1) hx hb dX5_isSo_46 (by decide) ?_
      refine lv_goto (tgt := 51) hx hb dX5_isSo_47 (by decide) ?_
      exact x_zret C0 hO rfl ⟨rfl, hw⟩ dX5_isSo_51
theorem iX5_isSoWithout_5 : ∀ w ∈ wsX50, w ∈ wsX5_isSoWithout := fun w h => List.mem_cons_of_mem _ (List.mem_append_left _ (List.mem_append_right _ h))
theorem hdX5_isSoWithout : yX5_isSoWithout.cls = RX5 ∧ yX5_isSoWithout.cls ≠ "java/lang/invoke/MethodHandle" ∧ yX5_isSoWithout.cls ≠ "java/lang/invoke/VarHandle" ∧ (parseMethodDescriptor yX5_isSoWithout.desc).map (fun d => d.parameters.length) = some 2 := by decide +kernel
set_option maxHeartbeats 4000000 in
set_option maxRecDepth 100000 in
theorem lX5_isSoWithout_13 {p : Program} {l : Launch} {e : Env} {s : State} {m : MethodId} {args : Array Value} {below : List Frame} {meth : Method} {c : Code} {g : XG} {A : Nat → Prop} (C0 : xC g A wsX5_isSoWithout RX5 cX5_isSoWithout 6 (some .boolean) p s m args meth c) (f1 : Int32) (f3 : Int32) (post : Int32 → XS → Prop) (kx : Int32 → XS → Prop)
    (hkx : ∀ (m4 : Int32) (σ : XS) (H : Heap) (locs : List Loc) (ls : Array Slot), kx m4 σ → xO g A s σ H locs → lv_has ls 6 [(0, .ref (xa g 4)), (1, .int f1), (2, .ref (xa g 11)), (3, .int f3), (4, .int m4)] → W p l e (headSpec wsX5_isSoWithout rmX5_isSoWithout).room s m args below meth c H locs 0 0 (MQ below (va_Qi post (xAt g A) A) args s 0 0 A) (F0 m 71 ls [])) :
    ∀ (n : Nat) (m4 : Int32) (σ : XS) (H : Heap) (locs : List Loc) (ls : Array Slot), LX5_isSoWithout_13 f1 f3 post kx n m4 σ → xO g A s σ H locs → lv_has ls 6 [(0, .ref (xa g 4)), (1, .int f1), (2, .ref (xa g 11)), (3, .int f3), (4, .int m4)] → W p l e (headSpec wsX5_isSoWithout rmX5_isSoWithout).room s m args below meth c H locs 0 0 (MQ below (va_Qi post (xAt g A) A) args s 0 0 A) (F0 m 13 ls []) := by
  have hx := C0.1
  have hb := C0.2.1
  have hown := C0.2.2.2.2.2.1
  have hts := C0.2.2.2.2.2.2.1
  intro n
  induction n with
  | zero =>
    intro m4 σ H locs ls hw
    exact hw.elim
  | succ n ih =>
    intro m4 σ H locs ls hw hO hl
    rw [LX5_isSoWithout_13] at hw
    refine lv_iload hx hb dX5_isSoWithout_13 (lv_at hl 4 rfl) ?_
    refine lv_aload_n hx hb dX5_isSoWithout_15 rfl (lv_at hl 0 rfl) ?_
    refine x_geti C0 hO 4 6 rfl rfl (by decide) rfl iX5_isSoWithout_5 rfl (List.mem_of_getElem? (i := 1) rfl) dX5_isSoWithout_16 ?_
    refine lv_icmp_ge (tgt := 71) hx hb dX5_isSoWithout_19 (by decide) (fun c3 => ?_) (fun c3 => ?_)
    · replace hw := hw.1 c3
      exact hkx _ _ _ _ _ hw hO (lv_sub hl [0, 1, 2, 3, 4] rfl)
    · replace hw := hw.2 c3
      refine lv_aload_n hx hb dX5_isSoWithout_22 rfl (lv_at hl 0 rfl) ?_
      refine x_getr C0 hO 4 5 10 rfl rfl (by decide) rfl iX5_isSoWithout_5 rfl (List.mem_of_getElem? (i := 2) rfl) dX5_isSoWithout_23 ?_
      refine lv_iload hx hb dX5_isSoWithout_26 (lv_at hl 4 rfl) ?_
      refine x_iald C0 hO 10 rfl hw.1 dX5_isSoWithout_28 ?_
      replace hw := hw.2
      refine lv_topi (fun x4 ex4 => ?_)
      replace hw := hw x4 ex4
      refine lv_istore (lv' := [(5, .int x4), (0, .ref (xa g 4)), (1, .int f1), (2, .ref (xa g 11)), (3, .int f3), (4, .int m4)]) hx hb dX5_isSoWithout_29 hl (by decide) rfl (fun ls hl => ?_)
      refine lv_iload hx hb dX5_isSoWithout_31 (lv_at hl 0 rfl) ?_
      refine x_calli C0 hO (x_runS (As := [.int x4]) (rest := []) C0 hO (kX5_kindIn l g _ x4 σ _ hw) 1 rfl gX5_isSoWithout_X5_kindIn rfl rfl rfl hdX5_kindIn.2 ⟨Nat.le_of_ble_eq_true rfl, Nat.le_of_ble_eq_true rfl⟩ hl.1 rfl (Nat.le_of_ble_eq_true rfl) dX5_isSoWithout_33 ⟨Nat.le_of_ble_eq_true rfl, Nat.le_of_ble_eq_true rfl⟩) (fun r5 σ' H locs hw hO => ?_)
      obtain ⟨hσ, hw⟩ := hw
      subst hσ
      refine lv_iconst (v := 3) hx hb dX5_isSoWithout_36 (by decide) ?_
      refine lv_icmp_ne (tgt := 52) hx hb dX5_isSoWithout_37 (by decide) (fun c6 => ?_) (fun c6 => ?_)
      · replace hw := hw.2 c6
        refine lv_iload hx hb dX5_isSoWithout_52 (lv_at hl 0 rfl) ?_
        refine lv_iload_n hx hb dX5_isSoWithout_54 rfl (lv_at hl 4 rfl) ?_
        refine lv_icmp_eq (tgt := 65) hx hb dX5_isSoWithout_55 (by decide) (fun c7 => ?_) (fun c7 => ?_)
        · replace hw := hw.1 c7
          obtain ⟨x8, ex8⟩ : ∃ z : Int32, z = m4 + 1 := ⟨_, rfl⟩
          replace hw := hw x8 ex8
          refine lv_iinc (v := x8) (lv' := [(4, .int x8), (5, .int x4), (0, .ref (xa g 4)), (1, .int f1), (2, .ref (xa g 11)), (3, .int f3)]) hx hb dX5_isSoWithout_65 hl (k := 5) rfl (by rw [ex8]; rfl) (by decide) rfl (fun ls hl => ?_)
          refine lv_goto (tgt := 13) hx hb dX5_isSoWithout_68 (by decide) ?_
          exact ih _ _ _ _ _ hw hO (lv_sub hl [2, 3, 4, 5, 0] rfl)
        · replace hw := hw.2 c7
          refine lv_aload_n hx hb dX5_isSoWithout_58 rfl (lv_at hl 1 rfl) ?_
          refine lv_iload hx hb dX5_isSoWithout_59 (lv_at hl 0 rfl) ?_
          refine lv_aload_n hx hb dX5_isSoWithout_61 rfl (lv_at hl 3 rfl) ?_
          refine x_callv C0 hO (x_runV (As := [.int x4, .ref (xa g 11)]) (rest := []) C0 hO (kX5_happen l g _ x4 σ _ hw) 2 rfl (xRecv C0 hO (j := 4) rfl rfl) gX5_isSoWithout_X5_happen rfl rfl rfl hdX5_happen ⟨Nat.le_of_ble_eq_true rfl, Nat.le_of_ble_eq_true rfl⟩ hl.1 rfl (Nat.le_of_ble_eq_true rfl) dX5_isSoWithout_62 ⟨Nat.le_of_ble_eq_true rfl, Nat.le_of_ble_eq_true rfl⟩) (fun σ9 H locs hw hO => ?_)
          obtain ⟨x10, ex10⟩ : ∃ z : Int32, z = m4 + 1 := ⟨_, rfl⟩
          replace hw := hw x10 ex10
          refine lv_iinc (v := x10) (lv' := [(4, .int x10), (5, .int x4), (0, .ref (xa g 4)), (1, .int f1), (2, .ref (xa g 11)), (3, .int f3)]) hx hb dX5_isSoWithout_65 hl (k := 5) rfl (by rw [ex10]; rfl) (by decide) rfl (fun ls hl => ?_)
          refine lv_goto (tgt := 13) hx hb dX5_isSoWithout_68 (by decide) ?_
          exact ih _ _ _ _ _ hw hO (lv_sub hl [2, 3, 4, 5, 0] rfl)
      · replace hw := hw.1 c6
        refine lv_aload_n hx hb dX5_isSoWithout_40 rfl (lv_at hl 1 rfl) ?_
        refine lv_iload hx hb dX5_isSoWithout_41 (lv_at hl 0 rfl) ?_
        refine lv_aload_n hx hb dX5_isSoWithout_43 rfl (lv_at hl 3 rfl) ?_
        refine x_calli C0 hO (x_runV (As := [.int x4, .ref (xa g 11)]) (rest := []) C0 hO (kX5_isSo l g _ x4 σ _ hw) 2 rfl (xRecv C0 hO (j := 4) rfl rfl) gX5_isSoWithout_X5_isSo rfl rfl rfl hdX5_isSo ⟨Nat.le_of_ble_eq_true rfl, Nat.le_of_ble_eq_true rfl⟩ hl.1 rfl (Nat.le_of_ble_eq_true rfl) dX5_isSoWithout_44 ⟨Nat.le_of_ble_eq_true rfl, Nat.le_of_ble_eq_true rfl⟩) (fun r11 σ' H locs hw hO => ?_)
        obtain ⟨hσ, hw⟩ := hw
        subst hσ
        refine lv_if_ne (tgt := 52) hx hb dX5_isSoWithout_47 (by decide) (fun c12 => ?_) (fun c12 => ?_)
        · replace hw := hw.2 c12
          refine lv_iload hx hb dX5_isSoWithout_52 (lv_at hl 0 rfl) ?_
          refine lv_iload_n hx hb dX5_isSoWithout_54 rfl (lv_at hl 4 rfl) ?_
          refine lv_icmp_eq (tgt := 65) hx hb dX5_isSoWithout_55 (by decide) (fun c13 => ?_) (fun c13 => ?_)
          · replace hw := hw.1 c13
            obtain ⟨x14, ex14⟩ : ∃ z : Int32, z = m4 + 1 := ⟨_, rfl⟩
            replace hw := hw x14 ex14
            refine lv_iinc (v := x14) (lv' := [(4, .int x14), (5, .int x4), (0, .ref (xa g 4)), (1, .int f1), (2, .ref (xa g 11)), (3, .int f3)]) hx hb dX5_isSoWithout_65 hl (k := 5) rfl (by rw [ex14]; rfl) (by decide) rfl (fun ls hl => ?_)
            refine lv_goto (tgt := 13) hx hb dX5_isSoWithout_68 (by decide) ?_
            exact ih _ _ _ _ _ hw hO (lv_sub hl [2, 3, 4, 5, 0] rfl)
          · replace hw := hw.2 c13
            refine lv_aload_n hx hb dX5_isSoWithout_58 rfl (lv_at hl 1 rfl) ?_
            refine lv_iload hx hb dX5_isSoWithout_59 (lv_at hl 0 rfl) ?_
            refine lv_aload_n hx hb dX5_isSoWithout_61 rfl (lv_at hl 3 rfl) ?_
            refine x_callv C0 hO (x_runV (As := [.int x4, .ref (xa g 11)]) (rest := []) C0 hO (kX5_happen l g _ x4 σ _ hw) 2 rfl (xRecv C0 hO (j := 4) rfl rfl) gX5_isSoWithout_X5_happen rfl rfl rfl hdX5_happen ⟨Nat.le_of_ble_eq_true rfl, Nat.le_of_ble_eq_true rfl⟩ hl.1 rfl (Nat.le_of_ble_eq_true rfl) dX5_isSoWithout_62 ⟨Nat.le_of_ble_eq_true rfl, Nat.le_of_ble_eq_true rfl⟩) (fun σ15 H locs hw hO => ?_)
            obtain ⟨x16, ex16⟩ : ∃ z : Int32, z = m4 + 1 := ⟨_, rfl⟩
            replace hw := hw x16 ex16
            refine lv_iinc (v := x16) (lv' := [(4, .int x16), (5, .int x4), (0, .ref (xa g 4)), (1, .int f1), (2, .ref (xa g 11)), (3, .int f3)]) hx hb dX5_isSoWithout_65 hl (k := 5) rfl (by rw [ex16]; rfl) (by decide) rfl (fun ls hl => ?_)
            refine lv_goto (tgt := 13) hx hb dX5_isSoWithout_68 (by decide) ?_
            exact ih _ _ _ _ _ hw hO (lv_sub hl [2, 3, 4, 5, 0] rfl)
        · replace hw := hw.1 c12
          refine lv_iconst (v := 0) hx hb dX5_isSoWithout_50 (by decide) ?_
          exact x_zret C0 hO rfl hw dX5_isSoWithout_51
set_option maxHeartbeats 4000000 in
set_option maxRecDepth 100000 in
theorem kX5_isSoWithout (l : Launch) (g : XG) (sz : Nat) (a1 : Int32) (σ : XS) (post : Int32 → XS → Prop) (hw : PX5_isSoWithout a1 σ post) : xMi l yX5_isSoWithout wsX5_isSoWithout rmX5_isSoWithout 0 0 g sz [.ref (xa g 4), .int a1, .ref (xa g 11)] σ post := by
  unfold PX5_isSoWithout at hw
  refine x_head (Qc := fun A => va_Qi post (xAt g A) A) (cc := cX5_isSoWithout) (maxL := 6) (ret := (some .boolean)) (by decide) rfl ?_
  intro p e s m below meth c A C0 hnm hO
  refine x_entry (Nat.le_of_ble_eq_true rfl) (fun ls hl => ?_)
  have hl : lv_has ls 6 [(0, .ref (xa g 4)), (1, .int a1), (2, .ref (xa g 11))] := hl
  have hx := C0.1
  have hb := C0.2.1
  have hown := C0.2.2.2.2.2.1
  have hts := C0.2.2.2.2.2.2.1
  refine lv_aload_n hx hb dX5_isSoWithout_0 rfl (lv_at hl 0 rfl) ?_
  refine lv_iload_n hx hb dX5_isSoWithout_1 rfl (lv_at hl 1 rfl) ?_
  refine x_calli C0 hO (x_runV (As := [.int a1]) (rest := []) C0 hO (kX5_slotOf l g _ a1 σ _ hw) 1 rfl (xRecv C0 hO (j := 4) rfl rfl) gX5_isSoWithout_X5_slotOf rfl rfl rfl hdX5_slotOf ⟨Nat.le_of_ble_eq_true rfl, Nat.le_of_ble_eq_true rfl⟩ hl.1 rfl (Nat.le_of_ble_eq_true rfl) dX5_isSoWithout_2 ⟨Nat.le_of_ble_eq_true rfl, Nat.le_of_ble_eq_true rfl⟩) (fun r1 σ' H locs hw hO => ?_)
  obtain ⟨hσ, hw⟩ := hw
  subst hσ
  refine lv_istore_n (lv' := [(3, .int r1), (0, .ref (xa g 4)), (1, .int a1), (2, .ref (xa g 11))]) hx hb dX5_isSoWithout_5 rfl hl (by decide) rfl (fun ls hl => ?_)
  refine lv_aload_n hx hb dX5_isSoWithout_6 rfl (lv_at hl 3 rfl) ?_
  refine x_callv C0 hO (x_runV (As := []) (rest := []) C0 hO (kX1_reset l g _  σ _ hw) 0 rfl (xRecv C0 hO (j := 11) rfl rfl) gX5_isSoWithout_X1_reset rfl rfl rfl hdX1_reset ⟨Nat.le_of_ble_eq_true rfl, Nat.le_of_ble_eq_true rfl⟩ hl.1 rfl (Nat.le_of_ble_eq_true rfl) dX5_isSoWithout_7 ⟨Nat.le_of_ble_eq_true rfl, Nat.le_of_ble_eq_true rfl⟩) (fun σ2 H locs hw hO => ?_)
  refine lv_iconst (v := 0) hx hb dX5_isSoWithout_10 (by decide) ?_
  refine lv_istore (lv' := [(4, .int (0 : Int32)), (3, .int r1), (0, .ref (xa g 4)), (1, .int a1), (2, .ref (xa g 11))]) hx hb dX5_isSoWithout_11 hl (by decide) rfl (fun ls hl => ?_)
  refine lX5_isSoWithout_13 C0 a1 r1 post _ (fun x17 σ18 H locs ls hw hO hl => ?_) 1000 _ _ _ _ _ hw hO (lv_sub hl [2, 3, 4, 1, 0] rfl)
  refine lv_iconst (v := 1) hx hb dX5_isSoWithout_71 (by decide) ?_
  exact x_zret C0 hO rfl hw dX5_isSoWithout_72
theorem hdX5_movedFrom : yX5_movedFrom.cls = RX5 ∧ yX5_movedFrom.cls ≠ "java/lang/invoke/MethodHandle" ∧ yX5_movedFrom.cls ≠ "java/lang/invoke/VarHandle" ∧ (parseMethodDescriptor yX5_movedFrom.desc).map (fun d => d.parameters.length) = some 3 := by decide +kernel
set_option maxHeartbeats 4000000 in
set_option maxRecDepth 100000 in
theorem kX5_movedFrom (l : Launch) (g : XG) (sz : Nat) (a0 : Int32) (a1 : Int32) (a2 : Int32) (σ : XS) (post : Int32 → Prop) (hw : PX5_movedFrom a0 a1 a2 σ post) : xMi l yX5_movedFrom wsX5_movedFrom rmX5_movedFrom 0 0 g sz [.int a0, .int a1, .int a2] σ (fun r u => σ = u ∧ post r) := by
  unfold PX5_movedFrom at hw
  refine x_head (Qc := fun A => va_Qi (fun r u => σ = u ∧ post r) (xAt g A) A) (cc := cX5_movedFrom) (maxL := 3) (ret := (some .int)) (by decide) rfl ?_
  intro p e s m below meth c A C0 hnm hO
  refine x_entry (Nat.le_of_ble_eq_true rfl) (fun ls hl => ?_)
  have hl : lv_has ls 3 [(0, .int a0), (1, .int a1), (2, .int a2)] := hl
  have hx := C0.1
  have hb := C0.2.1
  have hown := C0.2.2.2.2.2.1
  have hts := C0.2.2.2.2.2.2.1
  refine lv_iload_n hx hb dX5_movedFrom_0 rfl (lv_at hl 0 rfl) ?_
  refine lv_iload_n hx hb dX5_movedFrom_1 rfl (lv_at hl 1 rfl) ?_
  refine lv_icmp_ne (tgt := 7) hx hb dX5_movedFrom_2 (by decide) (fun c1 => ?_) (fun c1 => ?_)
  · replace hw := hw.2 c1
    refine lv_iload_n hx hb dX5_movedFrom_7 rfl (lv_at hl 0 rfl) ?_
    refine lv_iload_n hx hb dX5_movedFrom_8 rfl (lv_at hl 2 rfl) ?_
    refine lv_icmp_ne (tgt := 16) hx hb dX5_movedFrom_9 (by decide) (fun c2 => ?_) (fun c2 => ?_)
    · replace hw := hw.2 c2
      refine lv_iload_n hx hb dX5_movedFrom_16 rfl (lv_at hl 0 rfl) ?_
      exact x_iret C0 hO ⟨rfl, hw⟩ dX5_movedFrom_17
    · replace hw := hw.1 c2
      refine lv_iload_n hx hb dX5_movedFrom_12 rfl (lv_at hl 1 rfl) ?_
      refine lv_goto (tgt := 17) hx hb dX5_movedFrom_13 (by decide) ?_
      exact x_iret C0 hO ⟨rfl, hw⟩ dX5_movedFrom_17
  · replace hw := hw.1 c1
    refine lv_iload_n hx hb dX5_movedFrom_5 rfl (lv_at hl 2 rfl) ?_
    exact x_iret C0 hO ⟨rfl, hw⟩ dX5_movedFrom_6
theorem iX5_restOf_5 : ∀ w ∈ wsX50, w ∈ wsX5_restOf := fun w h => List.mem_cons_of_mem _ (List.mem_append_right _ h)
theorem hdX5_restOf : yX5_restOf.cls = RX5 ∧ yX5_restOf.cls ≠ "java/lang/invoke/MethodHandle" ∧ yX5_restOf.cls ≠ "java/lang/invoke/VarHandle" ∧ (parseMethodDescriptor yX5_restOf.desc).map (fun d => d.parameters.length) = some 3 := by decide +kernel
set_option maxHeartbeats 4000000 in
set_option maxRecDepth 100000 in
theorem lX5_restOf_14 {p : Program} {l : Launch} {e : Env} {s : State} {m : MethodId} {args : Array Value} {below : List Frame} {meth : Method} {c : Code} {g : XG} {A : Nat → Prop} (C0 : xC g A wsX5_restOf RX5 cX5_restOf 7 (some .int) p s m args meth c) (σ : XS) (f1 : Int32) (f2 : Int32) (f3 : Int32) (post : Int32 → Prop) (kx : Int32 → Int32 → Prop)
    (hkx : ∀ (m4 : Int32) (m5 : Int32) (H : Heap) (locs : List Loc) (ls : Array Slot), kx m4 m5 → xO g A s σ H locs → lv_has ls 7 [(0, .ref (xa g 4)), (1, .int f1), (2, .int f2), (3, .int f3), (4, .int m4), (5, .int m5)] → W p l e (headSpec wsX5_restOf rmX5_restOf).room s m args below meth c H locs 0 0 (MQ below (va_Qi (fun r u => σ = u ∧ post r) (xAt g A) A) args s 0 0 A) (F0 m 118 ls [])) :
    ∀ (n : Nat) (m4 : Int32) (m5 : Int32) (H : Heap) (locs : List Loc) (ls : Array Slot), LX5_restOf_14 σ f1 f2 f3 post kx n m4 m5 → xO g A s σ H locs → lv_has ls 7 [(0, .ref (xa g 4)), (1, .int f1), (2, .int f2), (3, .int f3), (4, .int m4), (5, .int m5)] → W p l e (headSpec wsX5_restOf rmX5_restOf).room s m args below meth c H locs 0 0 (MQ below (va_Qi (fun r u => σ = u ∧ post r) (xAt g A) A) args s 0 0 A) (F0 m 14 ls []) := by
  have hx := C0.1
  have hb := C0.2.1
  have hown := C0.2.2.2.2.2.1
  have hts := C0.2.2.2.2.2.2.1
  intro n
  induction n with
  | zero =>
    intro m4 m5 H locs ls hw
    exact hw.elim
  | succ n ih =>
    intro m4 m5 H locs ls hw hO hl
    rw [LX5_restOf_14] at hw
    refine lv_iload hx hb dX5_restOf_14 (lv_at hl 5 rfl) ?_
    refine lv_aload_n hx hb dX5_restOf_16 rfl (lv_at hl 0 rfl) ?_
    refine x_geti C0 hO 4 6 rfl rfl (by decide) rfl iX5_restOf_5 rfl (List.mem_of_getElem? (i := 1) rfl) dX5_restOf_17 ?_
    refine lv_icmp_ge (tgt := 118) hx hb dX5_restOf_20 (by decide) (fun c2 => ?_) (fun c2 => ?_)
    · replace hw := hw.1 c2
      exact hkx _ _ _ _ _ hw hO (lv_sub hl [0, 1, 2, 3, 4, 5] rfl)
    · replace hw := hw.2 c2
      refine lv_aload_n hx hb dX5_restOf_23 rfl (lv_at hl 0 rfl) ?_
      refine x_getr C0 hO 4 1 6 rfl rfl (by decide) rfl iX5_restOf_5 rfl (List.mem_of_getElem? (i := 2) rfl) dX5_restOf_24 ?_
      refine lv_aload_n hx hb dX5_restOf_27 rfl (lv_at hl 0 rfl) ?_
      refine x_getr C0 hO 4 5 10 rfl rfl (by decide) rfl iX5_restOf_5 rfl (List.mem_of_getElem? (i := 3) rfl) dX5_restOf_28 ?_
      refine lv_iload hx hb dX5_restOf_31 (lv_at hl 5 rfl) ?_
      refine x_iald C0 hO 10 rfl hw.1 dX5_restOf_33 ?_
      replace hw := hw.2
      refine x_iald C0 hO 6 rfl hw.1 dX5_restOf_34 ?_
      replace hw := hw.2
      refine lv_iload_n hx hb dX5_restOf_35 rfl (lv_at hl 3 rfl) ?_
      refine lv_icmp_gt (tgt := 118) hx hb dX5_restOf_36 (by decide) (fun c3 => ?_) (fun c3 => ?_)
      · replace hw := hw.1 c3
        exact hkx _ _ _ _ _ hw hO (lv_sub hl [0, 1, 2, 3, 4, 5] rfl)
      · replace hw := hw.2 c3
        refine lv_aload_n hx hb dX5_restOf_39 rfl (lv_at hl 0 rfl) ?_
        refine x_getr C0 hO 4 5 10 rfl rfl (by decide) rfl iX5_restOf_5 rfl (List.mem_of_getElem? (i := 3) rfl) dX5_restOf_40 ?_
        refine lv_iload hx hb dX5_restOf_43 (lv_at hl 5 rfl) ?_
        refine x_iald C0 hO 10 rfl hw.1 dX5_restOf_45 ?_
        replace hw := hw.2
        refine lv_topi (fun x4 ex4 => ?_)
        replace hw := hw x4 ex4
        refine lv_istore (lv' := [(6, .int x4), (0, .ref (xa g 4)), (1, .int f1), (2, .int f2), (3, .int f3), (4, .int m4), (5, .int m5)]) hx hb dX5_restOf_46 hl (by decide) rfl (fun ls hl => ?_)
        refine lv_aload_n hx hb dX5_restOf_48 rfl (lv_at hl 1 rfl) ?_
        refine x_getr C0 hO 4 1 6 rfl rfl (by decide) rfl iX5_restOf_5 rfl (List.mem_of_getElem? (i := 2) rfl) dX5_restOf_49 ?_
        refine lv_iload hx hb dX5_restOf_52 (lv_at hl 0 rfl) ?_
        refine x_iald C0 hO 6 rfl hw.1 dX5_restOf_54 ?_
        replace hw := hw.2
        refine lv_iload_n hx hb dX5_restOf_55 rfl (lv_at hl 3 rfl) ?_
        refine lv_icmp_le (tgt := 112) hx hb dX5_restOf_56 (by decide) (fun c5 => ?_) (fun c5 => ?_)
        · replace hw := hw.1 c5
          obtain ⟨x6, ex6⟩ : ∃ z : Int32, z = m5 + 1 := ⟨_, rfl⟩
          replace hw := hw x6 ex6
          refine lv_iinc (v := x6) (lv' := [(5, .int x6), (6, .int x4), (0, .ref (xa g 4)), (1, .int f1), (2, .int f2), (3, .int f3), (4, .int m4)]) hx hb dX5_restOf_112 hl (k := 6) rfl (by rw [ex6]; rfl) (by decide) rfl (fun ls hl => ?_)
          refine lv_goto (tgt := 14) hx hb dX5_restOf_115 (by decide) ?_
          exact ih _ _ _ _ _ hw hO (lv_sub hl [2, 3, 4, 5, 6, 0] rfl)
        · replace hw := hw.2 c5
          refine lv_iload hx hb dX5_restOf_59 (lv_at hl 0 rfl) ?_
          refine x_calli C0 hO (x_runS (As := [.int x4]) (rest := []) C0 hO (kX5_kindIn l g _ x4 σ _ hw) 1 rfl gX5_restOf_X5_kindIn rfl rfl rfl hdX5_kindIn.2 ⟨Nat.le_of_ble_eq_true rfl, Nat.le_of_ble_eq_true rfl⟩ hl.1 rfl (Nat.le_of_ble_eq_true rfl) dX5_restOf_61 ⟨Nat.le_of_ble_eq_true rfl, Nat.le_of_ble_eq_true rfl⟩) (fun r7 σ' H locs hw hO => ?_)
          obtain ⟨hσ, hw⟩ := hw
          subst hσ
          refine lv_if_ne (tgt := 82) hx hb dX5_restOf_64 (by decide) (fun c8 => ?_) (fun c8 => ?_)
          · replace hw := hw.2 c8
            refine lv_iload hx hb dX5_restOf_82 (lv_at hl 0 rfl) ?_
            refine x_calli C0 hO (x_runS (As := [.int x4]) (rest := []) C0 hO (kX5_kindIn l g _ x4 σ _ hw) 1 rfl gX5_restOf_X5_kindIn rfl rfl rfl hdX5_kindIn.2 ⟨Nat.le_of_ble_eq_true rfl, Nat.le_of_ble_eq_true rfl⟩ hl.1 rfl (Nat.le_of_ble_eq_true rfl) dX5_restOf_84 ⟨Nat.le_of_ble_eq_true rfl, Nat.le_of_ble_eq_true rfl⟩) (fun r9 σ' H locs hw hO => ?_)
            obtain ⟨hσ, hw⟩ := hw
            subst hσ
            refine lv_iconst (v := 1) hx hb dX5_restOf_87 (by decide) ?_
            refine lv_icmp_ne (tgt := 112) hx hb dX5_restOf_88 (by decide) (fun c10 => ?_) (fun c10 => ?_)
            · replace hw := hw.2 c10
              obtain ⟨x11, ex11⟩ : ∃ z : Int32, z = m5 + 1 := ⟨_, rfl⟩
              replace hw := hw x11 ex11
              refine lv_iinc (v := x11) (lv' := [(5, .int x11), (6, .int x4), (0, .ref (xa g 4)), (1, .int f1), (2, .int f2), (3, .int f3), (4, .int m4)]) hx hb dX5_restOf_112 hl (k := 6) rfl (by rw [ex11]; rfl) (by decide) rfl (fun ls hl => ?_)
              refine lv_goto (tgt := 14) hx hb dX5_restOf_115 (by decide) ?_
              exact ih _ _ _ _ _ hw hO (lv_sub hl [2, 3, 4, 5, 6, 0] rfl)
            · replace hw := hw.1 c10
              refine lv_iload hx hb dX5_restOf_91 (lv_at hl 5 rfl) ?_
              refine lv_aload_n hx hb dX5_restOf_93 rfl (lv_at hl 1 rfl) ?_
              refine x_getr C0 hO 4 2 7 rfl rfl (by decide) rfl iX5_restOf_5 rfl (List.mem_of_getElem? (i := 4) rfl) dX5_restOf_94 ?_
              refine lv_iload hx hb dX5_restOf_97 (lv_at hl 0 rfl) ?_
              refine x_iald C0 hO 7 rfl hw.1 dX5_restOf_99 ?_
              replace hw := hw.2
              refine lv_aload_n hx hb dX5_restOf_100 rfl (lv_at hl 1 rfl) ?_
              refine x_getr C0 hO 4 3 8 rfl rfl (by decide) rfl iX5_restOf_5 rfl (List.mem_of_getElem? (i := 5) rfl) dX5_restOf_101 ?_
              refine lv_iload hx hb dX5_restOf_104 (lv_at hl 0 rfl) ?_
              refine x_iald C0 hO 8 rfl hw.1 dX5_restOf_106 ?_
              replace hw := hw.2
              refine x_calli C0 hO (x_runS (As := [.int m4, .int (gI σ 7 x4.toNatClampNeg), .int (gI σ 8 x4.toNatClampNeg)]) (rest := []) C0 hO (kX5_movedFrom l g _ m4 (gI σ 7 x4.toNatClampNeg) (gI σ 8 x4.toNatClampNeg) σ _ hw) 3 rfl gX5_restOf_X5_movedFrom rfl rfl rfl hdX5_movedFrom.2 ⟨Nat.le_of_ble_eq_true rfl, Nat.le_of_ble_eq_true rfl⟩ hl.1 rfl (Nat.le_of_ble_eq_true rfl) dX5_restOf_107 ⟨Nat.le_of_ble_eq_true rfl, Nat.le_of_ble_eq_true rfl⟩) (fun r12 σ' H locs hw hO => ?_)
              obtain ⟨hσ, hw⟩ := hw
              subst hσ
              refine lv_istore (lv' := [(4, .int r12), (6, .int x4), (0, .ref (xa g 4)), (1, .int f1), (2, .int f2), (3, .int f3), (5, .int m5)]) hx hb dX5_restOf_110 hl (by decide) rfl (fun ls hl => ?_)
              obtain ⟨x13, ex13⟩ : ∃ z : Int32, z = m5 + 1 := ⟨_, rfl⟩
              replace hw := hw x13 ex13
              refine lv_iinc (v := x13) (lv' := [(5, .int x13), (4, .int r12), (6, .int x4), (0, .ref (xa g 4)), (1, .int f1), (2, .int f2), (3, .int f3)]) hx hb dX5_restOf_112 hl (k := 6) rfl (by rw [ex13]; rfl) (by decide) rfl (fun ls hl => ?_)
              refine lv_goto (tgt := 14) hx hb dX5_restOf_115 (by decide) ?_
              exact ih _ _ _ _ _ hw hO (lv_sub hl [3, 4, 5, 6, 1, 0] rfl)
          · replace hw := hw.1 c8
            refine lv_aload_n hx hb dX5_restOf_67 rfl (lv_at hl 1 rfl) ?_
            refine x_getr C0 hO 4 2 7 rfl rfl (by decide) rfl iX5_restOf_5 rfl (List.mem_of_getElem? (i := 4) rfl) dX5_restOf_68 ?_
            refine lv_iload hx hb dX5_restOf_71 (lv_at hl 0 rfl) ?_
            refine x_iald C0 hO 7 rfl hw.1 dX5_restOf_73 ?_
            replace hw := hw.2
            refine lv_iload hx hb dX5_restOf_74 (lv_at hl 5 rfl) ?_
            refine lv_icmp_ne (tgt := 82) hx hb dX5_restOf_76 (by decide) (fun c14 => ?_) (fun c14 => ?_)
            · replace hw := hw.2 c14
              refine lv_iload hx hb dX5_restOf_82 (lv_at hl 0 rfl) ?_
              refine x_calli C0 hO (x_runS (As := [.int x4]) (rest := []) C0 hO (kX5_kindIn l g _ x4 σ _ hw) 1 rfl gX5_restOf_X5_kindIn rfl rfl rfl hdX5_kindIn.2 ⟨Nat.le_of_ble_eq_true rfl, Nat.le_of_ble_eq_true rfl⟩ hl.1 rfl (Nat.le_of_ble_eq_true rfl) dX5_restOf_84 ⟨Nat.le_of_ble_eq_true rfl, Nat.le_of_ble_eq_true rfl⟩) (fun r15 σ' H locs hw hO => ?_)
              obtain ⟨hσ, hw⟩ := hw
              subst hσ
              refine lv_iconst (v := 1) hx hb dX5_restOf_87 (by decide) ?_
              refine lv_icmp_ne (tgt := 112) hx hb dX5_restOf_88 (by decide) (fun c16 => ?_) (fun c16 => ?_)
              · replace hw := hw.2 c16
                obtain ⟨x17, ex17⟩ : ∃ z : Int32, z = m5 + 1 := ⟨_, rfl⟩
                replace hw := hw x17 ex17
                refine lv_iinc (v := x17) (lv' := [(5, .int x17), (6, .int x4), (0, .ref (xa g 4)), (1, .int f1), (2, .int f2), (3, .int f3), (4, .int m4)]) hx hb dX5_restOf_112 hl (k := 6) rfl (by rw [ex17]; rfl) (by decide) rfl (fun ls hl => ?_)
                refine lv_goto (tgt := 14) hx hb dX5_restOf_115 (by decide) ?_
                exact ih _ _ _ _ _ hw hO (lv_sub hl [2, 3, 4, 5, 6, 0] rfl)
              · replace hw := hw.1 c16
                refine lv_iload hx hb dX5_restOf_91 (lv_at hl 5 rfl) ?_
                refine lv_aload_n hx hb dX5_restOf_93 rfl (lv_at hl 1 rfl) ?_
                refine x_getr C0 hO 4 2 7 rfl rfl (by decide) rfl iX5_restOf_5 rfl (List.mem_of_getElem? (i := 4) rfl) dX5_restOf_94 ?_
                refine lv_iload hx hb dX5_restOf_97 (lv_at hl 0 rfl) ?_
                refine x_iald C0 hO 7 rfl hw.1 dX5_restOf_99 ?_
                replace hw := hw.2
                refine lv_aload_n hx hb dX5_restOf_100 rfl (lv_at hl 1 rfl) ?_
                refine x_getr C0 hO 4 3 8 rfl rfl (by decide) rfl iX5_restOf_5 rfl (List.mem_of_getElem? (i := 5) rfl) dX5_restOf_101 ?_
                refine lv_iload hx hb dX5_restOf_104 (lv_at hl 0 rfl) ?_
                refine x_iald C0 hO 8 rfl hw.1 dX5_restOf_106 ?_
                replace hw := hw.2
                refine x_calli C0 hO (x_runS (As := [.int m4, .int (gI σ 7 x4.toNatClampNeg), .int (gI σ 8 x4.toNatClampNeg)]) (rest := []) C0 hO (kX5_movedFrom l g _ m4 (gI σ 7 x4.toNatClampNeg) (gI σ 8 x4.toNatClampNeg) σ _ hw) 3 rfl gX5_restOf_X5_movedFrom rfl rfl rfl hdX5_movedFrom.2 ⟨Nat.le_of_ble_eq_true rfl, Nat.le_of_ble_eq_true rfl⟩ hl.1 rfl (Nat.le_of_ble_eq_true rfl) dX5_restOf_107 ⟨Nat.le_of_ble_eq_true rfl, Nat.le_of_ble_eq_true rfl⟩) (fun r18 σ' H locs hw hO => ?_)
                obtain ⟨hσ, hw⟩ := hw
                subst hσ
                refine lv_istore (lv' := [(4, .int r18), (6, .int x4), (0, .ref (xa g 4)), (1, .int f1), (2, .int f2), (3, .int f3), (5, .int m5)]) hx hb dX5_restOf_110 hl (by decide) rfl (fun ls hl => ?_)
                obtain ⟨x19, ex19⟩ : ∃ z : Int32, z = m5 + 1 := ⟨_, rfl⟩
                replace hw := hw x19 ex19
                refine lv_iinc (v := x19) (lv' := [(5, .int x19), (4, .int r18), (6, .int x4), (0, .ref (xa g 4)), (1, .int f1), (2, .int f2), (3, .int f3)]) hx hb dX5_restOf_112 hl (k := 6) rfl (by rw [ex19]; rfl) (by decide) rfl (fun ls hl => ?_)
                refine lv_goto (tgt := 14) hx hb dX5_restOf_115 (by decide) ?_
                exact ih _ _ _ _ _ hw hO (lv_sub hl [3, 4, 5, 6, 1, 0] rfl)
            · replace hw := hw.1 c14
              refine lv_bipush (v := -9) hx hb dX5_restOf_79 (by decide) ?_
              exact x_iret C0 hO ⟨rfl, hw⟩ dX5_restOf_81
set_option maxHeartbeats 4000000 in
set_option maxRecDepth 100000 in
theorem kX5_restOf (l : Launch) (g : XG) (sz : Nat) (a1 : Int32) (a2 : Int32) (a3 : Int32) (σ : XS) (post : Int32 → Prop) (hw : PX5_restOf a1 a2 a3 σ post) : xMi l yX5_restOf wsX5_restOf rmX5_restOf 0 0 g sz [.ref (xa g 4), .int a1, .int a2, .int a3] σ (fun r u => σ = u ∧ post r) := by
  unfold PX5_restOf at hw
  refine x_head (Qc := fun A => va_Qi (fun r u => σ = u ∧ post r) (xAt g A) A) (cc := cX5_restOf) (maxL := 7) (ret := (some .int)) (by decide) rfl ?_
  intro p e s m below meth c A C0 hnm hO
  refine x_entry (Nat.le_of_ble_eq_true rfl) (fun ls hl => ?_)
  have hl : lv_has ls 7 [(0, .ref (xa g 4)), (1, .int a1), (2, .int a2), (3, .int a3)] := hl
  have hx := C0.1
  have hb := C0.2.1
  have hown := C0.2.2.2.2.2.1
  have hts := C0.2.2.2.2.2.2.1
  refine lv_iload_n hx hb dX5_restOf_0 rfl (lv_at hl 3 rfl) ?_
  refine lv_iload_n hx hb dX5_restOf_1 rfl (lv_at hl 2 rfl) ?_
  refine lv_icmp_ge (tgt := 8) hx hb dX5_restOf_2 (by decide) (fun c1 => ?_) (fun c1 => ?_)
  · replace hw := hw.1 c1
    refine lv_iload_n hx hb dX5_restOf_8 rfl (lv_at hl 1 rfl) ?_
    refine lv_istore (lv' := [(4, .int a1), (0, .ref (xa g 4)), (1, .int a1), (2, .int a2), (3, .int a3)]) hx hb dX5_restOf_9 hl (by decide) rfl (fun ls hl => ?_)
    refine lv_iconst (v := 0) hx hb dX5_restOf_11 (by decide) ?_
    refine lv_istore (lv' := [(5, .int (0 : Int32)), (4, .int a1), (0, .ref (xa g 4)), (1, .int a1), (2, .int a2), (3, .int a3)]) hx hb dX5_restOf_12 hl (by decide) rfl (fun ls hl => ?_)
    refine lX5_restOf_14 C0 σ a1 a2 a3 post _ (fun x20 x21 H locs ls hw hO hl => ?_) 1000 _ _ _ _ _ hw hO (lv_sub hl [2, 3, 4, 5, 1, 0] rfl)
    refine lv_iload hx hb dX5_restOf_118 (lv_at hl 4 rfl) ?_
    exact x_iret C0 hO ⟨rfl, hw⟩ dX5_restOf_120
  · replace hw := hw.2 c1
    refine lv_bipush (v := -9) hx hb dX5_restOf_5 (by decide) ?_
    exact x_iret C0 hO ⟨rfl, hw⟩ dX5_restOf_7
theorem iX7_sheetOf_7 : ∀ w ∈ wsX70, w ∈ wsX7_sheetOf := fun w h => List.mem_cons_of_mem _ (List.mem_append_right _ h)
theorem hdX7_sheetOf : yX7_sheetOf.cls = RX7 ∧ yX7_sheetOf.cls ≠ "java/lang/invoke/MethodHandle" ∧ yX7_sheetOf.cls ≠ "java/lang/invoke/VarHandle" ∧ (parseMethodDescriptor yX7_sheetOf.desc).map (fun d => d.parameters.length) = some 1 := by decide +kernel
set_option maxHeartbeats 4000000 in
set_option maxRecDepth 100000 in
theorem kX7_sheetOf (l : Launch) (g : XG) (sz : Nat) (a1 : Int32) (σ : XS) (post : Option Nat → Prop) (hw : PX7_sheetOf a1 σ post) : xMq l yX7_sheetOf wsX7_sheetOf rmX7_sheetOf 0 0 g sz [.ref (xa g 0), .int a1] σ (fun r u => σ = u ∧ ∃ o : Option Nat, r = o.map (xa g) ∧ post o) := by
  unfold PX7_sheetOf at hw
  refine x_head (Qc := fun A => va_Qq (fun r u => σ = u ∧ ∃ o : Option Nat, r = o.map (xa g) ∧ post o) (xAt g A) A) (cc := cX7_sheetOf) (maxL := 2) (ret := (some (.object "GumHall$Sheet"))) (by decide) rfl ?_
  intro p e s m below meth c A C0 hnm hO
  refine x_entry (Nat.le_of_ble_eq_true rfl) (fun ls hl => ?_)
  have hl : lv_has ls 2 [(0, .ref (xa g 0)), (1, .int a1)] := hl
  have hx := C0.1
  have hb := C0.2.1
  have hown := C0.2.2.2.2.2.1
  have hts := C0.2.2.2.2.2.2.1
  refine lv_iload_n hx hb dX7_sheetOf_0 rfl (lv_at hl 1 rfl) ?_
  refine lv_if_lt (tgt := 18) hx hb dX7_sheetOf_1 (by decide) (fun c1 => ?_) (fun c1 => ?_)
  · replace hw := hw.1 c1
    refine lv_null hx hb dX7_sheetOf_18 ?_
    exact x_aret (v := none) C0 hO ⟨rfl, none, rfl, hw⟩ dX7_sheetOf_19
  · replace hw := hw.2 c1
    refine lv_iload_n hx hb dX7_sheetOf_4 rfl (lv_at hl 1 rfl) ?_
    refine lv_iconst (v := 4) hx hb dX7_sheetOf_5 (by decide) ?_
    refine lv_icmp_ge (tgt := 18) hx hb dX7_sheetOf_6 (by decide) (fun c2 => ?_) (fun c2 => ?_)
    · replace hw := hw.1 c2
      refine lv_null hx hb dX7_sheetOf_18 ?_
      exact x_aret (v := none) C0 hO ⟨rfl, none, rfl, hw⟩ dX7_sheetOf_19
    · replace hw := hw.2 c2
      refine lv_aload_n hx hb dX7_sheetOf_9 rfl (lv_at hl 0 rfl) ?_
      refine x_getr C0 hO 0 0 1 rfl rfl (by decide) rfl iX7_sheetOf_7 rfl (List.mem_of_getElem? (i := 1) rfl) dX7_sheetOf_10 ?_
      refine lv_iload_n hx hb dX7_sheetOf_13 rfl (lv_at hl 1 rfl) ?_
      refine x_aldS C0 hO hw.1 dX7_sheetOf_14 ?_
      replace hw := hw.2
      refine lv_goto (tgt := 19) hx hb dX7_sheetOf_15 (by decide) ?_
      exact x_aret (v := some (xa g (16 + 2 * a1.toNatClampNeg))) C0 hO ⟨rfl, some _, rfl, hw⟩ dX7_sheetOf_19
