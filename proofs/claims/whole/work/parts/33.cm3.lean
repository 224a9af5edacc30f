/-! generated: contracts -/
theorem hdX8_canBoth : yX8_canBoth.cls = RX8 ∧ yX8_canBoth.cls ≠ "java/lang/invoke/MethodHandle" ∧ yX8_canBoth.cls ≠ "java/lang/invoke/VarHandle" ∧ (parseMethodDescriptor yX8_canBoth.desc).map (fun d => d.parameters.length) = some 6 := by decide +kernel
set_option maxHeartbeats 4000000 in
set_option maxRecDepth 100000 in
theorem kX8_canBoth (l : Launch) (g : XG) (sz : Nat) (a0 : Int32) (a1 : Int32) (a2 : Int32) (a3 : Int32) (a4 : Int32) (a5 : Int32) (σ : XS) (post : Int32 → Prop) (hw : PX8_canBoth a0 a1 a2 a3 a4 a5 σ post) : xMi l yX8_canBoth wsX8_canBoth rmX8_canBoth 0 0 g sz [.int a0, .int a1, .int a2, .int a3, .int a4, .int a5] σ (fun r u => σ = u ∧ post r) := by
  unfold PX8_canBoth at hw
  refine x_head (Qc := fun A => va_Qi (fun r u => σ = u ∧ post r) (xAt g A) A) (cc := cX8_canBoth) (maxL := 6) (ret := (some .boolean)) (by decide) rfl ?_
  intro p e s m below meth c A C0 hnm hO
  refine x_entry (Nat.le_of_ble_eq_true rfl) (fun ls hl => ?_)
  have hl : lv_has ls 6 [(0, .int a0), (1, .int a1), (2, .int a2), (3, .int a3), (4, .int a4), (5, .int a5)] := hl
  have hx := C0.1
  have hb := C0.2.1
  have hown := C0.2.2.2.2.2.1
  have hts := C0.2.2.2.2.2.2.1
  refine lv_iload_n hx hb dX8_canBoth_0 rfl (lv_at hl 2 rfl) ?_
  refine lv_iload hx hb dX8_canBoth_1 (lv_at hl 5 rfl) ?_
  refine lv_icmp_ne (tgt := 30) hx hb dX8_canBoth_3 (by decide) (fun c1 => ?_) (fun c1 => ?_)
  · replace hw := hw.2 c1
    refine lv_iconst (v := 1) hx hb dX8_canBoth_30 (by decide) ?_
    refine lv_goto (tgt := 35) hx hb dX8_canBoth_31 (by decide) ?_
    exact x_zret C0 hO rfl ⟨rfl, hw⟩ dX8_canBoth_35
  · replace hw := hw.1 c1
    refine lv_iload_n hx hb dX8_canBoth_6 rfl (lv_at hl 0 rfl) ?_
    refine lv_iload_n hx hb dX8_canBoth_7 rfl (lv_at hl 3 rfl) ?_
    refine lv_icmp_ne (tgt := 15) hx hb dX8_canBoth_8 (by decide) (fun c2 => ?_) (fun c2 => ?_)
    · replace hw := hw.2 c2
      refine lv_iconst (v := 0) hx hb dX8_canBoth_15 (by decide) ?_
      refine lv_iload_n hx hb dX8_canBoth_16 rfl (lv_at hl 1 rfl) ?_
      refine lv_iload hx hb dX8_canBoth_17 (lv_at hl 4 rfl) ?_
      refine lv_icmp_ne (tgt := 26) hx hb dX8_canBoth_19 (by decide) (fun c3 => ?_) (fun c3 => ?_)
      · replace hw := hw.2 c3
        refine lv_iconst (v := 0) hx hb dX8_canBoth_26 (by decide) ?_
        refine lv_icmp_ne (tgt := 34) hx hb dX8_canBoth_27 (by decide) (fun c4 => ?_) (fun c4 => ?_)
        · replace hw := hw.2 c4
          refine lv_iconst (v := 0) hx hb dX8_canBoth_34 (by decide) ?_
          exact x_zret C0 hO rfl ⟨rfl, hw⟩ dX8_canBoth_35
        · replace hw := hw.1 c4
          refine lv_iconst (v := 1) hx hb dX8_canBoth_30 (by decide) ?_
          refine lv_goto (tgt := 35) hx hb dX8_canBoth_31 (by decide) ?_
          exact x_zret C0 hO rfl ⟨rfl, hw⟩ dX8_canBoth_35
      · replace hw := hw.1 c3
        refine lv_iconst (v := 1) hx hb dX8_canBoth_22 (by decide) ?_
        refine lv_goto (tgt := 27) hx hb dX8_canBoth_23 (by decide) ?_
        refine lv_icmp_ne (tgt := 34) hx hb dX8_canBoth_27 (by decide) (fun c5 => ?_) (fun c5 => ?_)
        · replace hw := hw.2 c5
          refine lv_iconst (v := 0) hx hb dX8_canBoth_34 (by decide) ?_
          exact x_zret C0 hO rfl ⟨rfl, hw⟩ dX8_canBoth_35
        · replace hw := hw.1 c5
          refine lv_iconst (v := 1) hx hb dX8_canBoth_30 (by decide) ?_
          refine lv_goto (tgt := 35) hx hb dX8_canBoth_31 (by decide) ?_
          exact x_zret C0 hO rfl ⟨rfl, hw⟩ dX8_canBoth_35
    · replace hw := hw.1 c2
      refine lv_iconst (v := 1) hx hb dX8_canBoth_11 (by decide) ?_
      refine lv_goto (tgt := 16) hx hb dX8_canBoth_12 (by decide) ?_
      refine lv_iload_n hx hb dX8_canBoth_16 rfl (lv_at hl 1 rfl) ?_
      refine lv_iload hx hb dX8_canBoth_17 (lv_at hl 4 rfl) ?_
      refine lv_icmp_ne (tgt := 26) hx hb dX8_canBoth_19 (by decide) (fun c6 => ?_) (fun c6 => ?_)
      · replace hw := hw.2 c6
        refine lv_iconst (v := 0) hx hb dX8_canBoth_26 (by decide) ?_
        refine lv_icmp_ne (tgt := 34) hx hb dX8_canBoth_27 (by decide) (fun c7 => ?_) (fun c7 => ?_)
        · replace hw := hw.2 c7
          refine lv_iconst (v := 0) hx hb dX8_canBoth_34 (by decide) ?_
          exact x_zret C0 hO rfl ⟨rfl, hw⟩ dX8_canBoth_35
        · replace hw := hw.1 c7
          refine lv_iconst (v := 1) hx hb dX8_canBoth_30 (by decide) ?_
          refine lv_goto (tgt := 35) hx hb dX8_canBoth_31 (by decide) ?_
          exact x_zret C0 hO rfl ⟨rfl, hw⟩ dX8_canBoth_35
      · replace hw := hw.1 c6
        refine lv_iconst (v := 1) hx hb dX8_canBoth_22 (by decide) ?_
        refine lv_goto (tgt := 27) hx hb dX8_canBoth_23 (by decide) ?_
        refine lv_icmp_ne (tgt := 34) hx hb dX8_canBoth_27 (by decide) (fun c8 => ?_) (fun c8 => ?_)
        · replace hw := hw.2 c8
          refine lv_iconst (v := 0) hx hb dX8_canBoth_34 (by decide) ?_
          exact x_zret C0 hO rfl ⟨rfl, hw⟩ dX8_canBoth_35
        · replace hw := hw.1 c8
          refine lv_iconst (v := 1) hx hb dX8_canBoth_30 (by decide) ?_
          refine lv_goto (tgt := 35) hx hb dX8_canBoth_31 (by decide) ?_
          exact x_zret C0 hO rfl ⟨rfl, hw⟩ dX8_canBoth_35
theorem iX8_judgeClaims_8 : ∀ w ∈ wsX80, w ∈ wsX8_judgeClaims := fun w h => List.mem_cons_of_mem _ (List.mem_append_right _ h)
theorem hdX8_judgeClaims : yX8_judgeClaims.cls = RX8 ∧ yX8_judgeClaims.cls ≠ "java/lang/invoke/MethodHandle" ∧ yX8_judgeClaims.cls ≠ "java/lang/invoke/VarHandle" ∧ (parseMethodDescriptor yX8_judgeClaims.desc).map (fun d => d.parameters.length) = some 2 := by decide +kernel
set_option maxHeartbeats 4000000 in
set_option maxRecDepth 100000 in
theorem lX8_judgeClaims_53 {p : Program} {l : Launch} {e : Env} {s : State} {m : MethodId} {args : Array Value} {below : List Frame} {meth : Method} {c : Code} {g : XG} {A : Nat → Prop} (C0 : xC g A wsX8_judgeClaims RX8 cX8_judgeClaims 9 (some .int) p s m args meth c) (σ : XS) (f1 : Int32) (f2 : Int32) (f3 : Int32) (f4 : Int32) (f5 : Int32) (f6 : Int32) (post : Int32 → Prop) (kx : Int32 → Int32 → Prop)
    (hkx : ∀ (m7 : Int32) (m8 : Int32) (H : Heap) (locs : List Loc) (ls : Array Slot), kx m7 m8 → xO g A s σ H locs → lv_has ls 9 [(0, .ref (xa g 24)), (1, .int f1), (2, .int f2), (3, .int f3), (4, .int f4), (5, .int f5), (6, .int f6), (7, .int m7), (8, .int m8)] → W p l e (headSpec wsX8_judgeClaims rmX8_judgeClaims).room s m args below meth c H locs 0 0 (MQ below (va_Qi (fun r u => σ = u ∧ post r) (xAt g A) A) args s 0 0 A) (F0 m 113 ls [])) :
    ∀ (n : Nat) (m7 : Int32) (m8 : Int32) (H : Heap) (locs : List Loc) (ls : Array Slot), LX8_judgeClaims_53 σ f1 f2 f3 f4 f5 f6 post kx n m7 m8 → xO g A s σ H locs → lv_has ls 9 [(0, .ref (xa g 24)), (1, .int f1), (2, .int f2), (3, .int f3), (4, .int f4), (5, .int f5), (6, .int f6), (7, .int m7), (8, .int m8)] → W p l e (headSpec wsX8_judgeClaims rmX8_judgeClaims).room s m args below meth c H locs 0 0 (MQ below (va_Qi (fun r u => σ = u ∧ post r) (xAt g A) A) args s 0 0 A) (F0 m 53 ls []) := by
  have hx := C0.1
  have hb := C0.2.1
  have hown := C0.2.2.2.2.2.1
  have hts := C0.2.2.2.2.2.2.1
  intro n
  induction n with
  | zero =>
    intro m7 m8 H locs ls hw
    exact hw.elim
  | succ n ih =>
    intro m7 m8 H locs ls hw hO hl
    rw [LX8_judgeClaims_53] at hw
    refine lv_iload hx hb dX8_judgeClaims_53 (lv_at hl 8 rfl) ?_
    refine lv_aload_n hx hb dX8_judgeClaims_55 rfl (lv_at hl 0 rfl) ?_
    refine x_geti C0 hO 24 10 rfl rfl (by decide) rfl iX8_judgeClaims_8 rfl (List.mem_of_getElem? (i := 2) rfl) dX8_judgeClaims_56 ?_
    refine lv_icmp_ge (tgt := 113) hx hb dX8_judgeClaims_59 (by decide) (fun c5 => ?_) (fun c5 => ?_)
    · replace hw := hw.1 c5
      exact hkx _ _ _ _ _ hw hO (lv_sub hl [0, 1, 2, 3, 4, 5, 6, 7, 8] rfl)
    · replace hw := hw.2 c5
      refine lv_iload hx hb dX8_judgeClaims_62 (lv_at hl 7 rfl) ?_
      refine lv_if_eq (tgt := 104) hx hb dX8_judgeClaims_64 (by decide) (fun c6 => ?_) (fun c6 => ?_)
      · replace hw := hw.1 c6
        refine lv_iconst (v := 0) hx hb dX8_judgeClaims_104 (by decide) ?_
        refine lv_istore (lv' := [(7, .int (0 : Int32)), (0, .ref (xa g 24)), (1, .int f1), (2, .int f2), (3, .int f3), (4, .int f4), (5, .int f5), (6, .int f6), (8, .int m8)]) hx hb dX8_judgeClaims_105 hl (by decide) rfl (fun ls hl => ?_)
        obtain ⟨x7, ex7⟩ : ∃ z : Int32, z = m8 + 1 := ⟨_, rfl⟩
        replace hw := hw x7 ex7
        refine lv_iinc (v := x7) (lv' := [(8, .int x7), (7, .int (0 : Int32)), (0, .ref (xa g 24)), (1, .int f1), (2, .int f2), (3, .int f3), (4, .int f4), (5, .int f5), (6, .int f6)]) hx hb dX8_judgeClaims_107 hl (k := 8) rfl (by rw [ex7]; rfl) (by decide) rfl (fun ls hl => ?_)
        refine lv_goto (tgt := 53) hx hb dX8_judgeClaims_110 (by decide) ?_
        exact ih _ _ _ _ _ hw hO (lv_sub hl [2, 3, 4, 5, 6, 7, 8, 1, 0] rfl)
      · replace hw := hw.2 c6
        refine lv_iload hx hb dX8_judgeClaims_67 (lv_at hl 4 rfl) ?_
        refine lv_iload hx hb dX8_judgeClaims_69 (lv_at hl 5 rfl) ?_
        refine lv_iload hx hb dX8_judgeClaims_71 (lv_at hl 6 rfl) ?_
        refine lv_aload_n hx hb dX8_judgeClaims_73 rfl (lv_at hl 0 rfl) ?_
        refine x_getr C0 hO 24 11 29 rfl rfl (by decide) rfl iX8_judgeClaims_8 rfl (List.mem_of_getElem? (i := 3) rfl) dX8_judgeClaims_74 ?_
        refine lv_iload hx hb dX8_judgeClaims_77 (lv_at hl 8 rfl) ?_
        refine x_iald C0 hO 29 rfl hw.1 dX8_judgeClaims_79 ?_
        replace hw := hw.2
        refine lv_aload_n hx hb dX8_judgeClaims_80 rfl (lv_at hl 0 rfl) ?_
        refine x_getr C0 hO 24 12 30 rfl rfl (by decide) rfl iX8_judgeClaims_8 rfl (List.mem_of_getElem? (i := 4) rfl) dX8_judgeClaims_81 ?_
        refine lv_iload hx hb dX8_judgeClaims_84 (lv_at hl 8 rfl) ?_
        refine x_iald C0 hO 30 rfl hw.1 dX8_judgeClaims_86 ?_
        replace hw := hw.2
        refine lv_aload_n hx hb dX8_judgeClaims_87 rfl (lv_at hl 0 rfl) ?_
        refine x_getr C0 hO 24 13 31 rfl rfl (by decide) rfl iX8_judgeClaims_8 rfl (List.mem_of_getElem? (i := 5) rfl) dX8_judgeClaims_88 ?_
        refine lv_iload hx hb dX8_judgeClaims_91 (lv_at hl 8 rfl) ?_
        refine x_iald C0 hO 31 rfl hw.1 dX8_judgeClaims_93 ?_
        replace hw := hw.2
        refine x_calli C0 hO (x_runS (As := [.int f4, .int f5, .int f6, .int (gI σ 29 m8.toNatClampNeg), .int (gI σ 30 m8.toNatClampNeg), .int (gI σ 31 m8.toNatClampNeg)]) (rest := []) C0 hO (kX8_canBoth l g _ f4 f5 f6 (gI σ 29 m8.toNatClampNeg) (gI σ 30 m8.toNatClampNeg) (gI σ 31 m8.toNatClampNeg) σ _ hw) 6 rfl gX8_judgeClaims_X8_canBoth rfl rfl rfl hdX8_canBoth.2 ⟨Nat.le_of_ble_eq_true rfl, Nat.le_of_ble_eq_true rfl⟩ hl.1 rfl (Nat.le_of_ble_eq_true rfl) dX8_judgeClaims_94 ⟨Nat.le_of_ble_eq_true rfl, Nat.le_of_ble_eq_true rfl⟩) (fun r8 σ' H locs hw hO => ?_)
        obtain ⟨hσ, hw⟩ := hw
        subst hσ
        refine lv_if_eq (tgt := 104) hx hb dX8_judgeClaims_97 (by decide) (fun c9 => ?_) (fun c9 => ?_)
        · replace hw := hw.1 c9
          refine lv_iconst (v := 0) hx hb dX8_judgeClaims_104 (by decide) ?_
          refine lv_istore (lv' := [(7, .int (0 : Int32)), (0, .ref (xa g 24)), (1, .int f1), (2, .int f2), (3, .int f3), (4, .int f4), (5, .int f5), (6, .int f6), (8, .int m8)]) hx hb dX8_judgeClaims_105 hl (by decide) rfl (fun ls hl => ?_)
          obtain ⟨x10, ex10⟩ : ∃ z : Int32, z = m8 + 1 := ⟨_, rfl⟩
          replace hw := hw x10 ex10
          refine lv_iinc (v := x10) (lv' := [(8, .int x10), (7, .int (0 : Int32)), (0, .ref (xa g 24)), (1, .int f1), (2, .int f2), (3, .int f3), (4, .int f4), (5, .int f5), (6, .int f6)]) hx hb dX8_judgeClaims_107 hl (k := 8) rfl (by rw [ex10]; rfl) (by decide) rfl (fun ls hl => ?_)
          refine lv_goto (tgt := 53) hx hb dX8_judgeClaims_110 (by decide) ?_
          exact ih _ _ _ _ _ hw hO (lv_sub hl [2, 3, 4, 5, 6, 7, 8, 1, 0] rfl)
        · replace hw := hw.2 c9
          refine lv_iconst (v := 1) hx hb dX8_judgeClaims_100 (by decide) ?_
          refine lv_goto (tgt := 105) hx hb dX8_judgeClaims_101 (by decide) ?_
          refine lv_istore (lv' := [(7, .int (1 : Int32)), (0, .ref (xa g 24)), (1, .int f1), (2, .int f2), (3, .int f3), (4, .int f4), (5, .int f5), (6, .int f6), (8, .int m8)]) hx hb dX8_judgeClaims_105 hl (by decide) rfl (fun ls hl => ?_)
          obtain ⟨x11, ex11⟩ : ∃ z : Int32, z = m8 + 1 := ⟨_, rfl⟩
          replace hw := hw x11 ex11
          refine lv_iinc (v := x11) (lv' := [(8, .int x11), (7, .int (1 : Int32)), (0, .ref (xa g 24)), (1, .int f1), (2, .int f2), (3, .int f3), (4, .int f4), (5, .int f5), (6, .int f6)]) hx hb dX8_judgeClaims_107 hl (k := 8) rfl (by rw [ex11]; rfl) (by decide) rfl (fun ls hl => ?_)
          refine lv_goto (tgt := 53) hx hb dX8_judgeClaims_110 (by decide) ?_
          exact ih _ _ _ _ _ hw hO (lv_sub hl [2, 3, 4, 5, 6, 7, 8, 1, 0] rfl)
set_option maxHeartbeats 4000000 in
set_option maxRecDepth 100000 in
theorem lX8_judgeClaims_116 {p : Program} {l : Launch} {e : Env} {s : State} {m : MethodId} {args : Array Value} {below : List Frame} {meth : Method} {c : Code} {g : XG} {A : Nat → Prop} (C0 : xC g A wsX8_judgeClaims RX8 cX8_judgeClaims 9 (some .int) p s m args meth c) (σ : XS) (f1 : Int32) (f2 : Int32) (f3 : Int32) (f4 : Int32) (f5 : Int32) (f6 : Int32) (post : Int32 → Prop) (kx : Int32 → Int32 → Prop)
    (hkx : ∀ (m7 : Int32) (m8 : Int32) (H : Heap) (locs : List Loc) (ls : Array Slot), kx m7 m8 → xO g A s σ H locs → lv_has ls 9 [(0, .ref (xa g 24)), (1, .int f1), (2, .int f2), (3, .int f3), (4, .int f4), (5, .int f5), (6, .int f6), (7, .int m7), (8, .int m8)] → W p l e (headSpec wsX8_judgeClaims rmX8_judgeClaims).room s m args below meth c H locs 0 0 (MQ below (va_Qi (fun r u => σ = u ∧ post r) (xAt g A) A) args s 0 0 A) (F0 m 189 ls [])) :
    ∀ (n : Nat) (m7 : Int32) (m8 : Int32) (H : Heap) (locs : List Loc) (ls : Array Slot), LX8_judgeClaims_116 σ f1 f2 f3 f4 f5 f6 post kx n m7 m8 → xO g A s σ H locs → lv_has ls 9 [(0, .ref (xa g 24)), (1, .int f1), (2, .int f2), (3, .int f3), (4, .int f4), (5, .int f5), (6, .int f6), (7, .int m7), (8, .int m8)] → W p l e (headSpec wsX8_judgeClaims rmX8_judgeClaims).room s m args below meth c H locs 0 0 (MQ below (va_Qi (fun r u => σ = u ∧ post r) (xAt g A) A) args s 0 0 A) (F0 m 116 ls []) := by
  have hx := C0.1
  have hb := C0.2.1
  have hown := C0.2.2.2.2.2.1
  have hts := C0.2.2.2.2.2.2.1
  intro n
  induction n with
  | zero =>
    intro m7 m8 H locs ls hw
    exact hw.elim
  | succ n ih =>
    intro m7 m8 H locs ls hw hO hl
    rw [LX8_judgeClaims_116] at hw
    refine lv_iload hx hb dX8_judgeClaims_116 (lv_at hl 8 rfl) ?_
    refine lv_iload_n hx hb dX8_judgeClaims_118 rfl (lv_at hl 3 rfl) ?_
    refine lv_icmp_ge (tgt := 189) hx hb dX8_judgeClaims_119 (by decide) (fun c14 => ?_) (fun c14 => ?_)
    · replace hw := hw.1 c14
      exact hkx _ _ _ _ _ hw hO (lv_sub hl [0, 1, 2, 3, 4, 5, 6, 7, 8] rfl)
    · replace hw := hw.2 c14
      refine lv_iload hx hb dX8_judgeClaims_122 (lv_at hl 7 rfl) ?_
      refine lv_if_eq (tgt := 180) hx hb dX8_judgeClaims_124 (by decide) (fun c15 => ?_) (fun c15 => ?_)
      · replace hw := hw.1 c15
        refine lv_iconst (v := 0) hx hb dX8_judgeClaims_180 (by decide) ?_
        refine lv_istore (lv' := [(7, .int (0 : Int32)), (0, .ref (xa g 24)), (1, .int f1), (2, .int f2), (3, .int f3), (4, .int f4), (5, .int f5), (6, .int f6), (8, .int m8)]) hx hb dX8_judgeClaims_181 hl (by decide) rfl (fun ls hl => ?_)
        obtain ⟨x16, ex16⟩ : ∃ z : Int32, z = m8 + 1 := ⟨_, rfl⟩
        replace hw := hw x16 ex16
        refine lv_iinc (v := x16) (lv' := [(8, .int x16), (7, .int (0 : Int32)), (0, .ref (xa g 24)), (1, .int f1), (2, .int f2), (3, .int f3), (4, .int f4), (5, .int f5), (6, .int f6)]) hx hb dX8_judgeClaims_183 hl (k := 8) rfl (by rw [ex16]; rfl) (by decide) rfl (fun ls hl => ?_)
        refine lv_goto (tgt := 116) hx hb dX8_judgeClaims_186 (by decide) ?_
        exact ih _ _ _ _ _ hw hO (lv_sub hl [2, 3, 4, 5, 6, 7, 8, 1, 0] rfl)
      · replace hw := hw.2 c15
        refine lv_iload hx hb dX8_judgeClaims_127 (lv_at hl 4 rfl) ?_
        refine lv_iload hx hb dX8_judgeClaims_129 (lv_at hl 5 rfl) ?_
        refine lv_iload hx hb dX8_judgeClaims_131 (lv_at hl 6 rfl) ?_
        refine lv_aload_n hx hb dX8_judgeClaims_133 rfl (lv_at hl 0 rfl) ?_
        refine x_getr C0 hO 24 39 48 rfl rfl (by decide) rfl iX8_judgeClaims_8 rfl (List.mem_of_getElem? (i := 1) rfl) dX8_judgeClaims_134 ?_
        refine lv_iload_n hx hb dX8_judgeClaims_137 rfl (lv_at hl 1 rfl) ?_
        refine lv_iconst (v := 3) hx hb dX8_judgeClaims_138 (by decide) ?_
        refine lv_iload hx hb dX8_judgeClaims_139 (lv_at hl 8 rfl) ?_
        refine lv_imul hx hb dX8_judgeClaims_141 ?_
        refine lv_iadd hx hb dX8_judgeClaims_142 ?_
        refine x_iald C0 hO 48 rfl hw.1 dX8_judgeClaims_143 ?_
        replace hw := hw.2
        refine lv_aload_n hx hb dX8_judgeClaims_144 rfl (lv_at hl 0 rfl) ?_
        refine x_getr C0 hO 24 39 48 rfl rfl (by decide) rfl iX8_judgeClaims_8 rfl (List.mem_of_getElem? (i := 1) rfl) dX8_judgeClaims_145 ?_
        refine lv_iload_n hx hb dX8_judgeClaims_148 rfl (lv_at hl 1 rfl) ?_
        refine lv_iconst (v := 3) hx hb dX8_judgeClaims_149 (by decide) ?_
        refine lv_iload hx hb dX8_judgeClaims_150 (lv_at hl 8 rfl) ?_
        refine lv_imul hx hb dX8_judgeClaims_152 ?_
        refine lv_iadd hx hb dX8_judgeClaims_153 ?_
        refine lv_iconst (v := 1) hx hb dX8_judgeClaims_154 (by decide) ?_
        refine lv_iadd hx hb dX8_judgeClaims_155 ?_
        refine x_iald C0 hO 48 rfl hw.1 dX8_judgeClaims_156 ?_
        replace hw := hw.2
        refine lv_aload_n hx hb dX8_judgeClaims_157 rfl (lv_at hl 0 rfl) ?_
        refine x_getr C0 hO 24 39 48 rfl rfl (by decide) rfl iX8_judgeClaims_8 rfl (List.mem_of_getElem? (i := 1) rfl) dX8_judgeClaims_158 ?_
        refine lv_iload_n hx hb dX8_judgeClaims_161 rfl (lv_at hl 1 rfl) ?_
        refine lv_iconst (v := 3) hx hb dX8_judgeClaims_162 (by decide) ?_
        refine lv_iload hx hb dX8_judgeClaims_163 (lv_at hl 8 rfl) ?_
        refine lv_imul hx hb dX8_judgeClaims_165 ?_
        refine lv_iadd hx hb dX8_judgeClaims_166 ?_
        refine lv_iconst (v := 2) hx hb dX8_judgeClaims_167 (by decide) ?_
        refine lv_iadd hx hb dX8_judgeClaims_168 ?_
        refine x_iald C0 hO 48 rfl hw.1 dX8_judgeClaims_169 ?_
        replace hw := hw.2
        refine x_calli C0 hO (x_runS (As := [.int f4, .int f5, .int f6, .int (gI σ 48 (f1 + ((3 : Int32) * m8)).toNatClampNeg), .int (gI σ 48 ((f1 + ((3 : Int32) * m8)) + (1 : Int32)).toNatClampNeg), .int (gI σ 48 ((f1 + ((3 : Int32) * m8)) + (2 : Int32)).toNatClampNeg)]) (rest := []) C0 hO (kX8_canBoth l g _ f4 f5 f6 (gI σ 48 (f1 + ((3 : Int32) * m8)).toNatClampNeg) (gI σ 48 ((f1 + ((3 : Int32) * m8)) + (1 : Int32)).toNatClampNeg) (gI σ 48 ((f1 + ((3 : Int32) * m8)) + (2 : Int32)).toNatClampNeg) σ _ hw) 6 rfl gX8_judgeClaims_X8_canBoth rfl rfl rfl hdX8_canBoth.2 ⟨Nat.le_of_ble_eq_true rfl, Nat.le_of_ble_eq_true rfl⟩ hl.1 rfl (Nat.le_of_ble_eq_true rfl) dX8_judgeClaims_170 ⟨Nat.le_of_ble_eq_true rfl, Nat.le_of_ble_eq_true rfl⟩) (fun r17 σ' H locs hw hO => ?_)
        obtain ⟨hσ, hw⟩ := hw
        subst hσ
        refine lv_if_eq (tgt := 180) hx hb dX8_judgeClaims_173 (by decide) (fun c18 => ?_) (fun c18 => ?_)
        · replace hw := hw.1 c18
          refine lv_iconst (v := 0) hx hb dX8_judgeClaims_180 (by decide) ?_
          refine lv_istore (lv' := [(7, .int (0 : Int32)), (0, .ref (xa g 24)), (1, .int f1), (2, .int f2), (3, .int f3), (4, .int f4), (5, .int f5), (6, .int f6), (8, .int m8)]) hx hb dX8_judgeClaims_181 hl (by decide) rfl (fun ls hl => ?_)
          obtain ⟨x19, ex19⟩ : ∃ z : Int32, z = m8 + 1 := ⟨_, rfl⟩
          replace hw := hw x19 ex19
          refine lv_iinc (v := x19) (lv' := [(8, .int x19), (7, .int (0 : Int32)), (0, .ref (xa g 24)), (1, .int f1), (2, .int f2), (3, .int f3), (4, .int f4), (5, .int f5), (6, .int f6)]) hx hb dX8_judgeClaims_183 hl (k := 8) rfl (by rw [ex19]; rfl) (by decide) rfl (fun ls hl => ?_)
          refine lv_goto (tgt := 116) hx hb dX8_judgeClaims_186 (by decide) ?_
          exact ih _ _ _ _ _ hw hO (lv_sub hl [2, 3, 4, 5, 6, 7, 8, 1, 0] rfl)
        · replace hw := hw.2 c18
          refine lv_iconst (v := 1) hx hb dX8_judgeClaims_176 (by decide) ?_
          refine lv_goto (tgt := 181) hx hb dX8_judgeClaims_177 (by decide) ?_
          refine lv_istore (lv' := [(7, .int (1 : Int32)), (0, .ref (xa g 24)), (1, .int f1), (2, .int f2), (3, .int f3), (4, .int f4), (5, .int f5), (6, .int f6), (8, .int m8)]) hx hb dX8_judgeClaims_181 hl (by decide) rfl (fun ls hl => ?_)
          obtain ⟨x20, ex20⟩ : ∃ z : Int32, z = m8 + 1 := ⟨_, rfl⟩
          replace hw := hw x20 ex20
          refine lv_iinc (v := x20) (lv' := [(8, .int x20), (7, .int (1 : Int32)), (0, .ref (xa g 24)), (1, .int f1), (2, .int f2), (3, .int f3), (4, .int f4), (5, .int f5), (6, .int f6)]) hx hb dX8_judgeClaims_183 hl (k := 8) rfl (by rw [ex20]; rfl) (by decide) rfl (fun ls hl => ?_)
          refine lv_goto (tgt := 116) hx hb dX8_judgeClaims_186 (by decide) ?_
          exact ih _ _ _ _ _ hw hO (lv_sub hl [2, 3, 4, 5, 6, 7, 8, 1, 0] rfl)
set_option maxHeartbeats 4000000 in
set_option maxRecDepth 100000 in
theorem lX8_judgeClaims_2 {p : Program} {l : Launch} {e : Env} {s : State} {m : MethodId} {args : Array Value} {below : List Frame} {meth : Method} {c : Code} {g : XG} {A : Nat → Prop} (C0 : xC g A wsX8_judgeClaims RX8 cX8_judgeClaims 9 (some .int) p s m args meth c) (σ : XS) (f1 : Int32) (f2 : Int32) (post : Int32 → Prop) (kx : Int32 → Prop)
    (hkx : ∀ (m3 : Int32) (H : Heap) (locs : List Loc) (ls : Array Slot), kx m3 → xO g A s σ H locs → lv_has ls 9 [(0, .ref (xa g 24)), (1, .int f1), (2, .int f2), (3, .int m3)] → W p l e (headSpec wsX8_judgeClaims rmX8_judgeClaims).room s m args below meth c H locs 0 0 (MQ below (va_Qi (fun r u => σ = u ∧ post r) (xAt g A) A) args s 0 0 A) (F0 m 202 ls [])) :
    ∀ (n : Nat) (m3 : Int32) (H : Heap) (locs : List Loc) (ls : Array Slot), LX8_judgeClaims_2 σ f1 f2 post kx n m3 → xO g A s σ H locs → lv_has ls 9 [(0, .ref (xa g 24)), (1, .int f1), (2, .int f2), (3, .int m3)] → W p l e (headSpec wsX8_judgeClaims rmX8_judgeClaims).room s m args below meth c H locs 0 0 (MQ below (va_Qi (fun r u => σ = u ∧ post r) (xAt g A) A) args s 0 0 A) (F0 m 2 ls []) := by
  have hx := C0.1
  have hb := C0.2.1
  have hown := C0.2.2.2.2.2.1
  have hts := C0.2.2.2.2.2.2.1
  intro n
  induction n with
  | zero =>
    intro m3 H locs ls hw
    exact hw.elim
  | succ n ih =>
    intro m3 H locs ls hw hO hl
    rw [LX8_judgeClaims_2] at hw
    refine lv_iload_n hx hb dX8_judgeClaims_2 rfl (lv_at hl 3 rfl) ?_
    refine lv_iload_n hx hb dX8_judgeClaims_3 rfl (lv_at hl 2 rfl) ?_
    refine lv_icmp_ge (tgt := 202) hx hb dX8_judgeClaims_4 (by decide) (fun c1 => ?_) (fun c1 => ?_)
    · replace hw := hw.1 c1
      exact hkx _ _ _ _ hw hO (lv_sub hl [0, 1, 2, 3] rfl)
    · replace hw := hw.2 c1
      refine lv_aload_n hx hb dX8_judgeClaims_7 rfl (lv_at hl 0 rfl) ?_
      refine x_getr C0 hO 24 39 48 rfl rfl (by decide) rfl iX8_judgeClaims_8 rfl (List.mem_of_getElem? (i := 1) rfl) dX8_judgeClaims_8 ?_
      refine lv_iload_n hx hb dX8_judgeClaims_11 rfl (lv_at hl 1 rfl) ?_
      refine lv_iconst (v := 3) hx hb dX8_judgeClaims_12 (by decide) ?_
      refine lv_iload_n hx hb dX8_judgeClaims_13 rfl (lv_at hl 3 rfl) ?_
      refine lv_imul hx hb dX8_judgeClaims_14 ?_
      refine lv_iadd hx hb dX8_judgeClaims_15 ?_
      refine x_iald C0 hO 48 rfl hw.1 dX8_judgeClaims_16 ?_
      replace hw := hw.2
      refine lv_topi (fun x2 ex2 => ?_)
      replace hw := hw x2 ex2
      refine lv_istore (lv' := [(4, .int x2), (0, .ref (xa g 24)), (1, .int f1), (2, .int f2), (3, .int m3)]) hx hb dX8_judgeClaims_17 hl (by decide) rfl (fun ls hl => ?_)
      refine lv_aload_n hx hb dX8_judgeClaims_19 rfl (lv_at hl 1 rfl) ?_
      refine x_getr C0 hO 24 39 48 rfl rfl (by decide) rfl iX8_judgeClaims_8 rfl (List.mem_of_getElem? (i := 1) rfl) dX8_judgeClaims_20 ?_
      refine lv_iload_n hx hb dX8_judgeClaims_23 rfl (lv_at hl 2 rfl) ?_
      refine lv_iconst (v := 3) hx hb dX8_judgeClaims_24 (by decide) ?_
      refine lv_iload_n hx hb dX8_judgeClaims_25 rfl (lv_at hl 4 rfl) ?_
      refine lv_imul hx hb dX8_judgeClaims_26 ?_
      refine lv_iadd hx hb dX8_judgeClaims_27 ?_
      refine lv_iconst (v := 1) hx hb dX8_judgeClaims_28 (by decide) ?_
      refine lv_iadd hx hb dX8_judgeClaims_29 ?_
      refine x_iald C0 hO 48 rfl hw.1 dX8_judgeClaims_30 ?_
      replace hw := hw.2
      refine lv_topi (fun x3 ex3 => ?_)
      replace hw := hw x3 ex3
      refine lv_istore (lv' := [(5, .int x3), (4, .int x2), (0, .ref (xa g 24)), (1, .int f1), (2, .int f2), (3, .int m3)]) hx hb dX8_judgeClaims_31 hl (by decide) rfl (fun ls hl => ?_)
      refine lv_aload_n hx hb dX8_judgeClaims_33 rfl (lv_at hl 2 rfl) ?_
      refine x_getr C0 hO 24 39 48 rfl rfl (by decide) rfl iX8_judgeClaims_8 rfl (List.mem_of_getElem? (i := 1) rfl) dX8_judgeClaims_34 ?_
      refine lv_iload_n hx hb dX8_judgeClaims_37 rfl (lv_at hl 3 rfl) ?_
      refine lv_iconst (v := 3) hx hb dX8_judgeClaims_38 (by decide) ?_
      refine lv_iload_n hx hb dX8_judgeClaims_39 rfl (lv_at hl 5 rfl) ?_
      refine lv_imul hx hb dX8_judgeClaims_40 ?_
      refine lv_iadd hx hb dX8_judgeClaims_41 ?_
      refine lv_iconst (v := 2) hx hb dX8_judgeClaims_42 (by decide) ?_
      refine lv_iadd hx hb dX8_judgeClaims_43 ?_
      refine x_iald C0 hO 48 rfl hw.1 dX8_judgeClaims_44 ?_
      replace hw := hw.2
      refine lv_topi (fun x4 ex4 => ?_)
      replace hw := hw x4 ex4
      refine lv_istore (lv' := [(6, .int x4), (5, .int x3), (4, .int x2), (0, .ref (xa g 24)), (1, .int f1), (2, .int f2), (3, .int m3)]) hx hb dX8_judgeClaims_45 hl (by decide) rfl (fun ls hl => ?_)
      refine lv_iconst (v := 1) hx hb dX8_judgeClaims_47 (by decide) ?_
      refine lv_istore (lv' := [(7, .int (1 : Int32)), (6, .int x4), (5, .int x3), (4, .int x2), (0, .ref (xa g 24)), (1, .int f1), (2, .int f2), (3, .int m3)]) hx hb dX8_judgeClaims_48 hl (by decide) rfl (fun ls hl => ?_)
      refine lv_iconst (v := 0) hx hb dX8_judgeClaims_50 (by decide) ?_
      refine lv_istore (lv' := [(8, .int (0 : Int32)), (7, .int (1 : Int32)), (6, .int x4), (5, .int x3), (4, .int x2), (0, .ref (xa g 24)), (1, .int f1), (2, .int f2), (3, .int m3)]) hx hb dX8_judgeClaims_51 hl (by decide) rfl (fun ls hl => ?_)
      refine lX8_judgeClaims_53 C0 σ f1 f2 m3 x2 x3 x4 post _ (fun x12 x13 H locs ls hw hO hl => ?_) 1000 _ _ _ _ _ hw hO (lv_sub hl [5, 6, 7, 8, 4, 3, 2, 1, 0] rfl)
      refine lv_iconst (v := 0) hx hb dX8_judgeClaims_113 (by decide) ?_
      refine lv_istore (lv' := [(8, .int (0 : Int32)), (0, .ref (xa g 24)), (1, .int f1), (2, .int f2), (3, .int m3), (4, .int x2), (5, .int x3), (6, .int x4), (7, .int x12)]) hx hb dX8_judgeClaims_114 hl (by decide) rfl (fun ls hl => ?_)
      refine lX8_judgeClaims_116 C0 σ f1 f2 m3 x2 x3 x4 post _ (fun x21 x22 H locs ls hw hO hl => ?_) 1000 _ _ _ _ _ hw hO (lv_sub hl [1, 2, 3, 4, 5, 6, 7, 8, 0] rfl)
      refine lv_iload hx hb dX8_judgeClaims_189 (lv_at hl 7 rfl) ?_
      refine lv_if_ne (tgt := 196) hx hb dX8_judgeClaims_191 (by decide) (fun c23 => ?_) (fun c23 => ?_)
      · replace hw := hw.2 c23
        obtain ⟨x24, ex24⟩ : ∃ z : Int32, z = m3 + 1 := ⟨_, rfl⟩
        replace hw := hw x24 ex24
        refine lv_iinc (v := x24) (lv' := [(3, .int x24), (0, .ref (xa g 24)), (1, .int f1), (2, .int f2), (4, .int x2), (5, .int x3), (6, .int x4), (7, .int x21), (8, .int x22)]) hx hb dX8_judgeClaims_196 hl (k := 3) rfl (by rw [ex24]; rfl) (by decide) rfl (fun ls hl => ?_)
        refine lv_goto (tgt := 2) hx hb dX8_judgeClaims_199 (by decide) ?_
        exact ih _ _ _ _ hw hO (lv_sub hl [1, 2, 3, 0] rfl)
      · replace hw := hw.1 c23
        refine lv_iload_n hx hb dX8_judgeClaims_194 rfl (lv_at hl 3 rfl) ?_
        exact x_iret C0 hO ⟨rfl, hw⟩ dX8_judgeClaims_195
set_option maxHeartbeats 4000000 in
set_option maxRecDepth 100000 in
theorem kX8_judgeClaims (l : Launch) (g : XG) (sz : Nat) (a1 : Int32) (a2 : Int32) (σ : XS) (post : Int32 → Prop) (hw : PX8_judgeClaims a1 a2 σ post) : xMi l yX8_judgeClaims wsX8_judgeClaims rmX8_judgeClaims 0 0 g sz [.ref (xa g 24), .int a1, .int a2] σ (fun r u => σ = u ∧ post r) := by
  unfold PX8_judgeClaims at hw
  refine x_head (Qc := fun A => va_Qi (fun r u => σ = u ∧ post r) (xAt g A) A) (cc := cX8_judgeClaims) (maxL := 9) (ret := (some .int)) (by decide) rfl ?_
  intro p e s m below meth c A C0 hnm hO
  refine x_entry (Nat.le_of_ble_eq_true rfl) (fun ls hl => ?_)
  have hl : lv_has ls 9 [(0, .ref (xa g 24)), (1, .int a1), (2, .int a2)] := hl
  have hx := C0.1
  have hb := C0.2.1
  have hown := C0.2.2.2.2.2.1
  have hts := C0.2.2.2.2.2.2.1
  refine lv_iconst (v := 0) hx hb dX8_judgeClaims_0 (by decide) ?_
  refine lv_istore_n (lv' := [(3, .int (0 : Int32)), (0, .ref (xa g 24)), (1, .int a1), (2, .int a2)]) hx hb dX8_judgeClaims_1 rfl hl (by decide) rfl (fun ls hl => ?_)
  refine lX8_judgeClaims_2 C0 σ a1 a2 post _ (fun x25 H locs ls hw hO hl => ?_) 1000 _ _ _ _ hw hO (lv_sub hl [1, 2, 3, 0] rfl)
  refine lv_bipush (v := -9) hx hb dX8_judgeClaims_202 (by decide) ?_
  exact x_iret C0 hO ⟨rfl, hw⟩ dX8_judgeClaims_204
theorem iX8_judge_8 : ∀ w ∈ wsX80, w ∈ wsX8_judge := fun w h => List.mem_cons_of_mem _ (List.mem_append_right _ h)
theorem hdX8_judge : yX8_judge.cls = RX8 ∧ yX8_judge.cls ≠ "java/lang/invoke/MethodHandle" ∧ yX8_judge.cls ≠ "java/lang/invoke/VarHandle" ∧ (parseMethodDescriptor yX8_judge.desc).map (fun d => d.parameters.length) = some 4 := by decide +kernel
set_option maxHeartbeats 4000000 in
set_option maxRecDepth 100000 in
theorem lX8_judge_94 {p : Program} {l : Launch} {e : Env} {s : State} {m : MethodId} {args : Array Value} {below : List Frame} {meth : Method} {c : Code} {g : XG} {A : Nat → Prop} (C0 : xC g A wsX8_judge RX8 cX8_judge 8 (some .int) p s m args meth c) (f1 : Int32) (f2 : Int32) (f3 : Int32) (f4 : Int32) (f5 : Int32) (f6 : Int32) (post : Int32 → XS → Prop) (kx : Int32 → XS → Prop)
    (hkx : ∀ (m7 : Int32) (σ : XS) (H : Heap) (locs : List Loc) (ls : Array Slot), kx m7 σ → xO g A s σ H locs → lv_has ls 8 [(0, .ref (xa g 24)), (1, .int f1), (2, .int f2), (3, .int f3), (4, .int f4), (5, .int f5), (6, .int f6), (7, .int m7)] → W p l e (headSpec wsX8_judge rmX8_judge).room s m args below meth c H locs 0 0 (MQ below (va_Qi post (xAt g A) A) args s 0 0 A) (F0 m 174 ls [])) :
    ∀ (n : Nat) (m7 : Int32) (σ : XS) (H : Heap) (locs : List Loc) (ls : Array Slot), LX8_judge_94 f1 f2 f3 f4 f5 f6 post kx n m7 σ → xO g A s σ H locs → lv_has ls 8 [(0, .ref (xa g 24)), (1, .int f1), (2, .int f2), (3, .int f3), (4, .int f4), (5, .int f5), (6, .int f6), (7, .int m7)] → W p l e (headSpec wsX8_judge rmX8_judge).room s m args below meth c H locs 0 0 (MQ below (va_Qi post (xAt g A) A) args s 0 0 A) (F0 m 94 ls []) := by
  have hx := C0.1
  have hb := C0.2.1
  have hown := C0.2.2.2.2.2.1
  have hts := C0.2.2.2.2.2.2.1
  intro n
  induction n with
  | zero =>
    intro m7 σ H locs ls hw
    exact hw.elim
  | succ n ih =>
    intro m7 σ H locs ls hw hO hl
    rw [LX8_judge_94] at hw
    refine lv_iload hx hb dX8_judge_94 (lv_at hl 7 rfl) ?_
    refine lv_iload hx hb dX8_judge_96 (lv_at hl 4 rfl) ?_
    refine lv_icmp_ge (tgt := 174) hx hb dX8_judge_98 (by decide) (fun c14 => ?_) (fun c14 => ?_)
    · replace hw := hw.1 c14
      exact hkx _ _ _ _ _ hw hO (lv_sub hl [0, 1, 2, 3, 4, 5, 6, 7] rfl)
    · replace hw := hw.2 c14
      refine lv_aload_n hx hb dX8_judge_101 rfl (lv_at hl 0 rfl) ?_
      refine lv_aload_n hx hb dX8_judge_102 rfl (lv_at hl 0 rfl) ?_
      refine x_getr C0 hO 24 39 48 rfl rfl (by decide) rfl iX8_judge_8 rfl (List.mem_of_getElem? (i := 5) rfl) dX8_judge_103 ?_
      refine lv_iload hx hb dX8_judge_106 (lv_at hl 6 rfl) ?_
      refine lv_iconst (v := 3) hx hb dX8_judge_108 (by decide) ?_
      refine lv_iload hx hb dX8_judge_109 (lv_at hl 7 rfl) ?_
      refine lv_imul hx hb dX8_judge_111 ?_
      refine lv_iadd hx hb dX8_judge_112 ?_
      refine x_iald C0 hO 48 rfl hw.1 dX8_judge_113 ?_
      replace hw := hw.2
      refine x_calli C0 hO (x_runV (As := [.int (gI σ 48 (f6 + ((3 : Int32) * m7)).toNatClampNeg)]) (rest := []) C0 hO (kX8_noPerson l g _ (gI σ 48 (f6 + ((3 : Int32) * m7)).toNatClampNeg) σ _ hw) 1 rfl (xRecv C0 hO (j := 24) rfl rfl) gX8_judge_X8_noPerson rfl rfl rfl hdX8_noPerson ⟨Nat.le_of_ble_eq_true rfl, Nat.le_of_ble_eq_true rfl⟩ hl.1 rfl (Nat.le_of_ble_eq_true rfl) dX8_judge_114 ⟨Nat.le_of_ble_eq_true rfl, Nat.le_of_ble_eq_true rfl⟩) (fun r15 σ' H locs hw hO => ?_)
      obtain ⟨hσ, hw⟩ := hw
      subst hσ
      refine lv_if_ne (tgt := 161) hx hb dX8_judge_117 (by decide) (fun c16 => ?_) (fun c16 => ?_)
      · replace hw := hw.2 c16
        refine lv_aload_n hx hb dX8_judge_161 rfl (lv_at hl 0 rfl) ?_
        refine lv_bipush (v := -2) hx hb dX8_judge_162 (by decide) ?_
        refine x_calli C0 hO (x_runV (As := [.int (-2 : Int32)]) (rest := []) C0 hO (kX8_refused l g _ (-2 : Int32) σ _ hw) 1 rfl (xRecv C0 hO (j := 24) rfl rfl) gX8_judge_X8_refused rfl rfl rfl hdX8_refused ⟨Nat.le_of_ble_eq_true rfl, Nat.le_of_ble_eq_true rfl⟩ hl.1 rfl (Nat.le_of_ble_eq_true rfl) dX8_judge_164 ⟨Nat.le_of_ble_eq_true rfl, Nat.le_of_ble_eq_true rfl⟩) (fun r17 σ18 H locs hw hO => ?_)
        exact x_iret C0 hO hw dX8_judge_167
      · replace hw := hw.1 c16
        refine lv_aload_n hx hb dX8_judge_120 rfl (lv_at hl 0 rfl) ?_
        refine lv_aload_n hx hb dX8_judge_121 rfl (lv_at hl 0 rfl) ?_
        refine x_getr C0 hO 24 39 48 rfl rfl (by decide) rfl iX8_judge_8 rfl (List.mem_of_getElem? (i := 5) rfl) dX8_judge_122 ?_
        refine lv_iload hx hb dX8_judge_125 (lv_at hl 6 rfl) ?_
        refine lv_iconst (v := 3) hx hb dX8_judge_127 (by decide) ?_
        refine lv_iload hx hb dX8_judge_128 (lv_at hl 7 rfl) ?_
        refine lv_imul hx hb dX8_judge_130 ?_
        refine lv_iadd hx hb dX8_judge_131 ?_
        refine lv_iconst (v := 1) hx hb dX8_judge_132 (by decide) ?_
        refine lv_iadd hx hb dX8_judge_133 ?_
        refine x_iald C0 hO 48 rfl hw.1 dX8_judge_134 ?_
        replace hw := hw.2
        refine x_calli C0 hO (x_runV (As := [.int (gI σ 48 ((f6 + ((3 : Int32) * m7)) + (1 : Int32)).toNatClampNeg)]) (rest := []) C0 hO (kX8_noPlace l g _ (gI σ 48 ((f6 + ((3 : Int32) * m7)) + (1 : Int32)).toNatClampNeg) σ _ hw) 1 rfl (xRecv C0 hO (j := 24) rfl rfl) gX8_judge_X8_noPlace rfl rfl rfl hdX8_noPlace ⟨Nat.le_of_ble_eq_true rfl, Nat.le_of_ble_eq_true rfl⟩ hl.1 rfl (Nat.le_of_ble_eq_true rfl) dX8_judge_135 ⟨Nat.le_of_ble_eq_true rfl, Nat.le_of_ble_eq_true rfl⟩) (fun r19 σ' H locs hw hO => ?_)
        obtain ⟨hσ, hw⟩ := hw
        subst hσ
        refine lv_if_ne (tgt := 161) hx hb dX8_judge_138 (by decide) (fun c20 => ?_) (fun c20 => ?_)
        · replace hw := hw.2 c20
          refine lv_aload_n hx hb dX8_judge_161 rfl (lv_at hl 0 rfl) ?_
          refine lv_bipush (v := -2) hx hb dX8_judge_162 (by decide) ?_
          refine x_calli C0 hO (x_runV (As := [.int (-2 : Int32)]) (rest := []) C0 hO (kX8_refused l g _ (-2 : Int32) σ _ hw) 1 rfl (xRecv C0 hO (j := 24) rfl rfl) gX8_judge_X8_refused rfl rfl rfl hdX8_refused ⟨Nat.le_of_ble_eq_true rfl, Nat.le_of_ble_eq_true rfl⟩ hl.1 rfl (Nat.le_of_ble_eq_true rfl) dX8_judge_164 ⟨Nat.le_of_ble_eq_true rfl, Nat.le_of_ble_eq_true rfl⟩) (fun r21 σ22 H locs hw hO => ?_)
          exact x_iret C0 hO hw dX8_judge_167
        · replace hw := hw.1 c20
          refine lv_aload_n hx hb dX8_judge_141 rfl (lv_at hl 0 rfl) ?_
          refine x_getr C0 hO 24 39 48 rfl rfl (by decide) rfl iX8_judge_8 rfl (List.mem_of_getElem? (i := 5) rfl) dX8_judge_142 ?_
          refine lv_iload hx hb dX8_judge_145 (lv_at hl 6 rfl) ?_
          refine lv_iconst (v := 3) hx hb dX8_judge_147 (by decide) ?_
          refine lv_iload hx hb dX8_judge_148 (lv_at hl 7 rfl) ?_
          refine lv_imul hx hb dX8_judge_150 ?_
          refine lv_iadd hx hb dX8_judge_151 ?_
          refine lv_iconst (v := 2) hx hb dX8_judge_152 (by decide) ?_
          refine lv_iadd hx hb dX8_judge_153 ?_
          refine x_iald C0 hO 48 rfl hw.1 dX8_judge_154 ?_
          replace hw := hw.2
          refine x_calli C0 hO (x_runS (As := [.int (gI σ 48 ((f6 + ((3 : Int32) * m7)) + (2 : Int32)).toNatClampNeg)]) (rest := []) C0 hO (kX8_isNight l g _ (gI σ 48 ((f6 + ((3 : Int32) * m7)) + (2 : Int32)).toNatClampNeg) σ _ hw) 1 rfl gX8_judge_X8_isNight rfl rfl rfl hdX8_isNight.2 ⟨Nat.le_of_ble_eq_true rfl, Nat.le_of_ble_eq_true rfl⟩ hl.1 rfl (Nat.le_of_ble_eq_true rfl) dX8_judge_155 ⟨Nat.le_of_ble_eq_true rfl, Nat.le_of_ble_eq_true rfl⟩) (fun r23 σ' H locs hw hO => ?_)
          obtain ⟨hσ, hw⟩ := hw
          subst hσ
          refine lv_if_ne (tgt := 168) hx hb dX8_judge_158 (by decide) (fun c24 => ?_) (fun c24 => ?_)
          · replace hw := hw.2 c24
            obtain ⟨x25, ex25⟩ : ∃ z : Int32, z = m7 + 1 := ⟨_, rfl⟩
            replace hw := hw x25 ex25
            refine lv_iinc (v := x25) (lv' := [(7, .int x25), (0, .ref (xa g 24)), (1, .int f1), (2, .int f2), (3, .int f3), (4, .int f4), (5, .int f5), (6, .int f6)]) hx hb dX8_judge_168 hl (k := 7) rfl (by rw [ex25]; rfl) (by decide) rfl (fun ls hl => ?_)
            refine lv_goto (tgt := 94) hx hb dX8_judge_171 (by decide) ?_
            exact ih _ _ _ _ _ hw hO (lv_sub hl [1, 2, 3, 4, 5, 6, 7, 0] rfl)
          · replace hw := hw.1 c24
            refine lv_aload_n hx hb dX8_judge_161 rfl (lv_at hl 0 rfl) ?_
            refine lv_bipush (v := -2) hx hb dX8_judge_162 (by decide) ?_
            refine x_calli C0 hO (x_runV (As := [.int (-2 : Int32)]) (rest := []) C0 hO (kX8_refused l g _ (-2 : Int32) σ _ hw) 1 rfl (xRecv C0 hO (j := 24) rfl rfl) gX8_judge_X8_refused rfl rfl rfl hdX8_refused ⟨Nat.le_of_ble_eq_true rfl, Nat.le_of_ble_eq_true rfl⟩ hl.1 rfl (Nat.le_of_ble_eq_true rfl) dX8_judge_164 ⟨Nat.le_of_ble_eq_true rfl, Nat.le_of_ble_eq_true rfl⟩) (fun r26 σ27 H locs hw hO => ?_)
            exact x_iret C0 hO hw dX8_judge_167
set_option maxHeartbeats 4000000 in
set_option maxRecDepth 100000 in
theorem kX8_judge (l : Launch) (g : XG) (sz : Nat) (a1 : Int32) (a2 : Int32) (a3 : Int32) (a4 : Int32) (σ : XS) (post : Int32 → XS → Prop) (hw : PX8_judge a1 a2 a3 a4 σ post) : xMi l yX8_judge wsX8_judge rmX8_judge 0 0 g sz [.ref (xa g 24), .int a1, .int a2, .int a3, .int a4] σ post := by
  unfold PX8_judge at hw
  refine x_head (Qc := fun A => va_Qi post (xAt g A) A) (cc := cX8_judge) (maxL := 8) (ret := (some .int)) (by decide) rfl ?_
  intro p e s m below meth c A C0 hnm hO
  refine x_entry (Nat.le_of_ble_eq_true rfl) (fun ls hl => ?_)
  have hl : lv_has ls 8 [(0, .ref (xa g 24)), (1, .int a1), (2, .int a2), (3, .int a3), (4, .int a4)] := hl
  have hx := C0.1
  have hb := C0.2.1
  have hown := C0.2.2.2.2.2.1
  have hts := C0.2.2.2.2.2.2.1
  refine lv_iload_n hx hb dX8_judge_0 rfl (lv_at hl 1 rfl) ?_
  refine x_calli C0 hO (x_runS (As := [.int a1]) (rest := []) C0 hO (kX8_noSheet l g _ a1 σ _ hw) 1 rfl gX8_judge_X8_noSheet rfl rfl rfl hdX8_noSheet.2 ⟨Nat.le_of_ble_eq_true rfl, Nat.le_of_ble_eq_true rfl⟩ hl.1 rfl (Nat.le_of_ble_eq_true rfl) dX8_judge_1 ⟨Nat.le_of_ble_eq_true rfl, Nat.le_of_ble_eq_true rfl⟩) (fun r1 σ' H locs hw hO => ?_)
  obtain ⟨hσ, hw⟩ := hw
  subst hσ
  refine lv_if_eq (tgt := 13) hx hb dX8_judge_4 (by decide) (fun c2 => ?_) (fun c2 => ?_)
  · replace hw := hw.1 c2
    refine lv_iload_n hx hb dX8_judge_13 rfl (lv_at hl 2 rfl) ?_
    refine lv_i2l hx hb dX8_judge_14 rfl ?_
    refine lv_lconst (v := 0) hx hb dX8_judge_15 (by decide) ?_
    refine lv_ldc2 (v := 2) hx hb hown (hts _ (List.mem_of_getElem? (i := 1) rfl)) dX8_judge_16 ?_
    refine x_calli C0 hO (x_runS (As := [.long a2.toInt64, .long (0 : Int64), .long (2 : Int64)]) (rest := []) C0 hO (kX8_in l g _ a2.toInt64 (0 : Int64) (2 : Int64) σ _ hw) 3 rfl gX8_judge_X8_in rfl rfl rfl hdX8_in.2 ⟨Nat.le_of_ble_eq_true rfl, Nat.le_of_ble_eq_true rfl⟩ hl.1 rfl (Nat.le_of_ble_eq_true rfl) dX8_judge_19 ⟨Nat.le_of_ble_eq_true rfl, Nat.le_of_ble_eq_true rfl⟩) (fun r3 σ' H locs hw hO => ?_)
    obtain ⟨hσ, hw⟩ := hw
    subst hσ
    refine lv_if_eq (tgt := 38) hx hb dX8_judge_22 (by decide) (fun c4 => ?_) (fun c4 => ?_)
    · replace hw := hw.1 c4
      refine lv_aload_n hx hb dX8_judge_38 rfl (lv_at hl 0 rfl) ?_
      refine lv_bipush (v := -2) hx hb dX8_judge_39 (by decide) ?_
      refine x_calli C0 hO (x_runV (As := [.int (-2 : Int32)]) (rest := []) C0 hO (kX8_refused l g _ (-2 : Int32) σ _ hw) 1 rfl (xRecv C0 hO (j := 24) rfl rfl) gX8_judge_X8_refused rfl rfl rfl hdX8_refused ⟨Nat.le_of_ble_eq_true rfl, Nat.le_of_ble_eq_true rfl⟩ hl.1 rfl (Nat.le_of_ble_eq_true rfl) dX8_judge_41 ⟨Nat.le_of_ble_eq_true rfl, Nat.le_of_ble_eq_true rfl⟩) (fun r5 σ6 H locs hw hO => ?_)
      exact x_iret C0 hO hw dX8_judge_44
    · replace hw := hw.2 c4
      refine lv_iload hx hb dX8_judge_25 (lv_at hl 4 rfl) ?_
      refine lv_i2l hx hb dX8_judge_27 rfl ?_
      refine lv_lconst (v := 0) hx hb dX8_judge_28 (by decide) ?_
      refine lv_ldc2 (v := 20) hx hb hown (hts _ (List.mem_of_getElem? (i := 2) rfl)) dX8_judge_29 ?_
      refine x_calli C0 hO (x_runS (As := [.long a4.toInt64, .long (0 : Int64), .long (20 : Int64)]) (rest := []) C0 hO (kX8_in l g _ a4.toInt64 (0 : Int64) (20 : Int64) σ _ hw) 3 rfl gX8_judge_X8_in rfl rfl rfl hdX8_in.2 ⟨Nat.le_of_ble_eq_true rfl, Nat.le_of_ble_eq_true rfl⟩ hl.1 rfl (Nat.le_of_ble_eq_true rfl) dX8_judge_32 ⟨Nat.le_of_ble_eq_true rfl, Nat.le_of_ble_eq_true rfl⟩) (fun r7 σ' H locs hw hO => ?_)
      obtain ⟨hσ, hw⟩ := hw
      subst hσ
      refine lv_if_ne (tgt := 45) hx hb dX8_judge_35 (by decide) (fun c8 => ?_) (fun c8 => ?_)
      · replace hw := hw.2 c8
        refine lv_aload_n hx hb dX8_judge_45 rfl (lv_at hl 0 rfl) ?_
        refine x_geti C0 hO 24 2 rfl rfl (by decide) rfl iX8_judge_8 rfl (List.mem_of_getElem? (i := 3) rfl) dX8_judge_46 ?_
        refine lv_if_ne (tgt := 59) hx hb dX8_judge_49 (by decide) (fun c9 => ?_) (fun c9 => ?_)
        · replace hw := hw.2 c9
          refine lv_aload_n hx hb dX8_judge_59 rfl (lv_at hl 0 rfl) ?_
          refine lv_iload_n hx hb dX8_judge_60 rfl (lv_at hl 1 rfl) ?_
          refine lv_iload_n hx hb dX8_judge_61 rfl (lv_at hl 2 rfl) ?_
          refine lv_iload_n hx hb dX8_judge_62 rfl (lv_at hl 3 rfl) ?_
          refine lv_ldc2 (v := 3) hx hb hown (hts _ (List.mem_of_getElem? (i := 4) rfl)) dX8_judge_63 ?_
          refine lv_iload hx hb dX8_judge_66 (lv_at hl 4 rfl) ?_
          refine lv_i2l hx hb dX8_judge_68 rfl ?_
          refine lv_lmul hx hb dX8_judge_69 ?_
          refine x_calli C0 hO (x_runV (As := [.int a1, .int a2, .int a3, .long ((3 : Int64) * a4.toInt64)]) (rest := []) C0 hO (kX8_cellsBarred l g _ a1 a2 a3 ((3 : Int64) * a4.toInt64) σ _ hw) 4 rfl (xRecv C0 hO (j := 24) rfl rfl) gX8_judge_X8_cellsBarred rfl rfl rfl hdX8_cellsBarred ⟨Nat.le_of_ble_eq_true rfl, Nat.le_of_ble_eq_true rfl⟩ hl.1 rfl (Nat.le_of_ble_eq_true rfl) dX8_judge_70 ⟨Nat.le_of_ble_eq_true rfl, Nat.le_of_ble_eq_true rfl⟩) (fun r10 σ11 H locs hw hO => ?_)
          refine lv_istore (lv' := [(5, .int r10), (0, .ref (xa g 24)), (1, .int a1), (2, .int a2), (3, .int a3), (4, .int a4)]) hx hb dX8_judge_73 hl (by decide) rfl (fun ls hl => ?_)
          refine lv_iload hx hb dX8_judge_75 (lv_at hl 0 rfl) ?_
          refine lv_if_ge (tgt := 83) hx hb dX8_judge_77 (by decide) (fun c12 => ?_) (fun c12 => ?_)
          · replace hw := hw.1 c12
            refine lv_bipush (v := 60) hx hb dX8_judge_83 (by decide) ?_
            refine lv_iload_n hx hb dX8_judge_85 rfl (lv_at hl 2 rfl) ?_
            refine lv_imul hx hb dX8_judge_86 ?_
            refine lv_iload_n hx hb dX8_judge_87 rfl (lv_at hl 4 rfl) ?_
            refine lv_iadd hx hb dX8_judge_88 ?_
            refine lv_topi (fun x13 ex13 => ?_)
            replace hw := hw x13 ex13
            refine lv_istore (lv' := [(6, .int x13), (5, .int r10), (0, .ref (xa g 24)), (1, .int a1), (2, .int a2), (3, .int a3), (4, .int a4)]) hx hb dX8_judge_89 hl (by decide) rfl (fun ls hl => ?_)
            refine lv_iconst (v := 0) hx hb dX8_judge_91 (by decide) ?_
            refine lv_istore (lv' := [(7, .int (0 : Int32)), (6, .int x13), (5, .int r10), (0, .ref (xa g 24)), (1, .int a1), (2, .int a2), (3, .int a3), (4, .int a4)]) hx hb dX8_judge_92 hl (by decide) rfl (fun ls hl => ?_)
            refine lX8_judge_94 C0 a1 a2 a3 a4 r10 x13 post _ (fun x28 σ29 H locs ls hw hO hl => ?_) 1000 _ _ _ _ _ hw hO (lv_sub hl [3, 4, 5, 6, 7, 2, 1, 0] rfl)
            refine lv_aload_n hx hb dX8_judge_174 rfl (lv_at hl 0 rfl) ?_
            refine lv_aload_n hx hb dX8_judge_175 rfl (lv_at hl 0 rfl) ?_
            refine lv_iload hx hb dX8_judge_176 (lv_at hl 6 rfl) ?_
            refine lv_iload hx hb dX8_judge_178 (lv_at hl 4 rfl) ?_
            refine x_calli C0 hO (x_runV (As := [.int x13, .int a4]) (rest := [.ref (xa g 24)]) C0 hO (kX8_judgeClaims l g _ x13 a4 σ29 _ hw) 2 rfl (xRecv C0 hO (j := 24) rfl rfl) gX8_judge_X8_judgeClaims rfl rfl rfl hdX8_judgeClaims ⟨Nat.le_of_ble_eq_true rfl, Nat.le_of_ble_eq_true rfl⟩ hl.1 rfl (Nat.le_of_ble_eq_true rfl) dX8_judge_180 ⟨Nat.le_of_ble_eq_true rfl, Nat.le_of_ble_eq_true rfl⟩) (fun r30 σ' H locs hw hO => ?_)
            obtain ⟨hσ, hw⟩ := hw
            subst hσ
            refine x_calli C0 hO (x_runV (As := [.int r30]) (rest := []) C0 hO (kX8_refused l g _ r30 σ29 _ hw) 1 rfl (xRecv C0 hO (j := 24) rfl rfl) gX8_judge_X8_refused rfl rfl rfl hdX8_refused ⟨Nat.le_of_ble_eq_true rfl, Nat.le_of_ble_eq_true rfl⟩ hl.1 rfl (Nat.le_of_ble_eq_true rfl) dX8_judge_183 ⟨Nat.le_of_ble_eq_true rfl, Nat.le_of_ble_eq_true rfl⟩) (fun r31 σ32 H locs hw hO => ?_)
            exact x_iret C0 hO hw dX8_judge_186
          · replace hw := hw.2 c12
            refine lv_iload hx hb dX8_judge_80 (lv_at hl 0 rfl) ?_
            exact x_iret C0 hO hw dX8_judge_82
        · replace hw := hw.1 c9
          refine lv_aload_n hx hb dX8_judge_52 rfl (lv_at hl 0 rfl) ?_
          refine lv_bipush (v := -3) hx hb dX8_judge_53 (by decide) ?_
          refine x_calli C0 hO (x_runV (As := [.int (-3 : Int32)]) (rest := []) C0 hO (kX8_refused l g _ (-3 : Int32) σ _ hw) 1 rfl (xRecv C0 hO (j := 24) rfl rfl) gX8_judge_X8_refused rfl rfl rfl hdX8_refused ⟨Nat.le_of_ble_eq_true rfl, Nat.le_of_ble_eq_true rfl⟩ hl.1 rfl (Nat.le_of_ble_eq_true rfl) dX8_judge_55 ⟨Nat.le_of_ble_eq_true rfl, Nat.le_of_ble_eq_true rfl⟩) (fun r33 σ34 H locs hw hO => ?_)
          exact x_iret C0 hO hw dX8_judge_58
      · replace hw := hw.1 c8
        refine lv_aload_n hx hb dX8_judge_38 rfl (lv_at hl 0 rfl) ?_
        refine lv_bipush (v := -2) hx hb dX8_judge_39 (by decide) ?_
        refine x_calli C0 hO (x_runV (As := [.int (-2 : Int32)]) (rest := []) C0 hO (kX8_refused l g _ (-2 : Int32) σ _ hw) 1 rfl (xRecv C0 hO (j := 24) rfl rfl) gX8_judge_X8_refused rfl rfl rfl hdX8_refused ⟨Nat.le_of_ble_eq_true rfl, Nat.le_of_ble_eq_true rfl⟩ hl.1 rfl (Nat.le_of_ble_eq_true rfl) dX8_judge_41 ⟨Nat.le_of_ble_eq_true rfl, Nat.le_of_ble_eq_true rfl⟩) (fun r35 σ36 H locs hw hO => ?_)
        exact x_iret C0 hO hw dX8_judge_44
  · replace hw := hw.2 c2
    refine lv_aload_n hx hb dX8_judge_7 rfl (lv_at hl 0 rfl) ?_
    refine lv_iconst (v := -1) hx hb dX8_judge_8 (by decide) ?_
    refine x_calli C0 hO (x_runV (As := [.int (-1 : Int32)]) (rest := []) C0 hO (kX8_refused l g _ (-1 : Int32) σ _ hw) 1 rfl (xRecv C0 hO (j := 24) rfl rfl) gX8_judge_X8_refused rfl rfl rfl hdX8_refused ⟨Nat.le_of_ble_eq_true rfl, Nat.le_of_ble_eq_true rfl⟩ hl.1 rfl (Nat.le_of_ble_eq_true rfl) dX8_judge_9 ⟨Nat.le_of_ble_eq_true rfl, Nat.le_of_ble_eq_true rfl⟩) (fun r37 σ38 H locs hw hO => ?_)
    exact x_iret C0 hO hw dX8_judge_12
theorem iX8_reading_8 : ∀ w ∈ wsX80, w ∈ wsX8_reading := fun w h => List.mem_cons_of_mem _ (List.mem_append_right _ h)
theorem hdX8_reading : yX8_reading.cls = RX8 ∧ yX8_reading.cls ≠ "java/lang/invoke/MethodHandle" ∧ yX8_reading.cls ≠ "java/lang/invoke/VarHandle" ∧ (parseMethodDescriptor yX8_reading.desc).map (fun d => d.parameters.length) = some 4 := by decide +kernel
set_option maxHeartbeats 4000000 in
set_option maxRecDepth 100000 in
theorem kX8_reading (l : Launch) (g : XG) (sz : Nat) (a1 : Int32) (a2 : Int32) (a3 : Int32) (a4 : Int32) (σ : XS) (post : Int32 → XS → Prop) (hw : PX8_reading a1 a2 a3 a4 σ post) : xMi l yX8_reading wsX8_reading rmX8_reading 0 0 g sz [.ref (xa g 24), .int a1, .int a2, .int a3, .int a4] σ post := by
  unfold PX8_reading at hw
  refine x_head (Qc := fun A => va_Qi post (xAt g A) A) (cc := cX8_reading) (maxL := 5) (ret := (some .int)) (by decide) rfl ?_
  intro p e s m below meth c A C0 hnm hO
  refine x_entry (Nat.le_of_ble_eq_true rfl) (fun ls hl => ?_)
  have hl : lv_has ls 5 [(0, .ref (xa g 24)), (1, .int a1), (2, .int a2), (3, .int a3), (4, .int a4)] := hl
  have hx := C0.1
  have hb := C0.2.1
  have hown := C0.2.2.2.2.2.1
  have hts := C0.2.2.2.2.2.2.1
  refine lv_aload_n hx hb dX8_reading_0 rfl (lv_at hl 0 rfl) ?_
  refine lv_iload_n hx hb dX8_reading_1 rfl (lv_at hl 1 rfl) ?_
  refine x_calli C0 hO (x_runV (As := [.int a1]) (rest := []) C0 hO (kX8_noPlace l g _ a1 σ _ hw) 1 rfl (xRecv C0 hO (j := 24) rfl rfl) gX8_reading_X8_noPlace rfl rfl rfl hdX8_noPlace ⟨Nat.le_of_ble_eq_true rfl, Nat.le_of_ble_eq_true rfl⟩ hl.1 rfl (Nat.le_of_ble_eq_true rfl) dX8_reading_2 ⟨Nat.le_of_ble_eq_true rfl, Nat.le_of_ble_eq_true rfl⟩) (fun r1 σ' H locs hw hO => ?_)
  obtain ⟨hσ, hw⟩ := hw
  subst hσ
  refine lv_if_eq (tgt := 10) hx hb dX8_reading_5 (by decide) (fun c2 => ?_) (fun c2 => ?_)
  · replace hw := hw.1 c2
    refine lv_iload_n hx hb dX8_reading_10 rfl (lv_at hl 2 rfl) ?_
    refine x_calli C0 hO (x_runS (As := [.int a2]) (rest := []) C0 hO (kX8_isNight l g _ a2 σ _ hw) 1 rfl gX8_reading_X8_isNight rfl rfl rfl hdX8_isNight.2 ⟨Nat.le_of_ble_eq_true rfl, Nat.le_of_ble_eq_true rfl⟩ hl.1 rfl (Nat.le_of_ble_eq_true rfl) dX8_reading_11 ⟨Nat.le_of_ble_eq_true rfl, Nat.le_of_ble_eq_true rfl⟩) (fun r3 σ' H locs hw hO => ?_)
    obtain ⟨hσ, hw⟩ := hw
    subst hσ
    refine lv_if_eq (tgt := 49) hx hb dX8_reading_14 (by decide) (fun c4 => ?_) (fun c4 => ?_)
    · replace hw := hw.1 c4
      refine lv_bipush (v := -2) hx hb dX8_reading_49 (by decide) ?_
      exact x_iret C0 hO hw dX8_reading_51
    · replace hw := hw.2 c4
      refine lv_iload_n hx hb dX8_reading_17 rfl (lv_at hl 3 rfl) ?_
      refine lv_i2l hx hb dX8_reading_18 rfl ?_
      refine lv_lconst (v := 0) hx hb dX8_reading_19 (by decide) ?_
      refine lv_ldc2 (v := 9) hx hb hown (hts _ (List.mem_of_getElem? (i := 1) rfl)) dX8_reading_20 ?_
      refine x_calli C0 hO (x_runS (As := [.long a3.toInt64, .long (0 : Int64), .long (9 : Int64)]) (rest := []) C0 hO (kX8_in l g _ a3.toInt64 (0 : Int64) (9 : Int64) σ _ hw) 3 rfl gX8_reading_X8_in rfl rfl rfl hdX8_in.2 ⟨Nat.le_of_ble_eq_true rfl, Nat.le_of_ble_eq_true rfl⟩ hl.1 rfl (Nat.le_of_ble_eq_true rfl) dX8_reading_23 ⟨Nat.le_of_ble_eq_true rfl, Nat.le_of_ble_eq_true rfl⟩) (fun r5 σ' H locs hw hO => ?_)
      obtain ⟨hσ, hw⟩ := hw
      subst hσ
      refine lv_if_eq (tgt := 49) hx hb dX8_reading_26 (by decide) (fun c6 => ?_) (fun c6 => ?_)
      · replace hw := hw.1 c6
        refine lv_bipush (v := -2) hx hb dX8_reading_49 (by decide) ?_
        exact x_iret C0 hO hw dX8_reading_51
      · replace hw := hw.2 c6
        refine lv_iload hx hb dX8_reading_29 (lv_at hl 4 rfl) ?_
        refine lv_i2l hx hb dX8_reading_31 rfl ?_
        refine lv_lconst (v := 0) hx hb dX8_reading_32 (by decide) ?_
        refine lv_ldc2 (v := 7) hx hb hown (hts _ (List.mem_of_getElem? (i := 2) rfl)) dX8_reading_33 ?_
        refine x_calli C0 hO (x_runS (As := [.long a4.toInt64, .long (0 : Int64), .long (7 : Int64)]) (rest := []) C0 hO (kX8_in l g _ a4.toInt64 (0 : Int64) (7 : Int64) σ _ hw) 3 rfl gX8_reading_X8_in rfl rfl rfl hdX8_in.2 ⟨Nat.le_of_ble_eq_true rfl, Nat.le_of_ble_eq_true rfl⟩ hl.1 rfl (Nat.le_of_ble_eq_true rfl) dX8_reading_36 ⟨Nat.le_of_ble_eq_true rfl, Nat.le_of_ble_eq_true rfl⟩) (fun r7 σ' H locs hw hO => ?_)
        obtain ⟨hσ, hw⟩ := hw
        subst hσ
        refine lv_if_ne (tgt := 52) hx hb dX8_reading_39 (by decide) (fun c8 => ?_) (fun c8 => ?_)
        · replace hw := hw.2 c8
          refine lv_aload_n hx hb dX8_reading_52 rfl (lv_at hl 0 rfl) ?_
          refine x_geti C0 hO 24 30 rfl rfl (by decide) rfl iX8_reading_8 rfl (List.mem_of_getElem? (i := 3) rfl) dX8_reading_53 ?_
          refine lv_bipush (v := 8) hx hb dX8_reading_56 (by decide) ?_
          refine lv_icmp_ne (tgt := 64) hx hb dX8_reading_58 (by decide) (fun c9 => ?_) (fun c9 => ?_)
          · replace hw := hw.2 c9
            refine lv_aload_n hx hb dX8_reading_64 rfl (lv_at hl 0 rfl) ?_
            refine x_getr C0 hO 24 31 40 rfl rfl (by decide) rfl iX8_reading_8 rfl (List.mem_of_getElem? (i := 4) rfl) dX8_reading_65 ?_
            refine lv_aload_n hx hb dX8_reading_68 rfl (lv_at hl 0 rfl) ?_
            refine x_geti C0 hO 24 30 rfl rfl (by decide) rfl iX8_reading_8 rfl (List.mem_of_getElem? (i := 3) rfl) dX8_reading_69 ?_
            refine lv_iload_n hx hb dX8_reading_72 rfl (lv_at hl 1 rfl) ?_
            refine x_iast C0 hO 40 rfl hw.1 dX8_reading_73 (fun σ10 H locs eσ10 hO => ?_)
            replace hw := hw.2 σ10 eσ10
            refine lv_aload_n hx hb dX8_reading_74 rfl (lv_at hl 0 rfl) ?_
            refine x_getr C0 hO 24 32 41 rfl rfl (by decide) rfl iX8_reading_8 rfl (List.mem_of_getElem? (i := 5) rfl) dX8_reading_75 ?_
            refine lv_aload_n hx hb dX8_reading_78 rfl (lv_at hl 0 rfl) ?_
            refine x_geti C0 hO 24 30 rfl rfl (by decide) rfl iX8_reading_8 rfl (List.mem_of_getElem? (i := 3) rfl) dX8_reading_79 ?_
            refine lv_iload_n hx hb dX8_reading_82 rfl (lv_at hl 2 rfl) ?_
            refine x_iast C0 hO 41 rfl hw.1 dX8_reading_83 (fun σ11 H locs eσ11 hO => ?_)
            replace hw := hw.2 σ11 eσ11
            refine lv_aload_n hx hb dX8_reading_84 rfl (lv_at hl 0 rfl) ?_
            refine x_getr C0 hO 24 33 42 rfl rfl (by decide) rfl iX8_reading_8 rfl (List.mem_of_getElem? (i := 6) rfl) dX8_reading_85 ?_
            refine lv_aload_n hx hb dX8_reading_88 rfl (lv_at hl 0 rfl) ?_
            refine x_geti C0 hO 24 30 rfl rfl (by decide) rfl iX8_reading_8 rfl (List.mem_of_getElem? (i := 3) rfl) dX8_reading_89 ?_
            refine lv_iload_n hx hb dX8_reading_92 rfl (lv_at hl 3 rfl) ?_
            refine x_iast C0 hO 42 rfl hw.1 dX8_reading_93 (fun σ12 H locs eσ12 hO => ?_)
            replace hw := hw.2 σ12 eσ12
            refine lv_aload_n hx hb dX8_reading_94 rfl (lv_at hl 0 rfl) ?_
            refine x_getr C0 hO 24 34 43 rfl rfl (by decide) rfl iX8_reading_8 rfl (List.mem_of_getElem? (i := 7) rfl) dX8_reading_95 ?_
            refine lv_aload_n hx hb dX8_reading_98 rfl (lv_at hl 0 rfl) ?_
            refine x_geti C0 hO 24 30 rfl rfl (by decide) rfl iX8_reading_8 rfl (List.mem_of_getElem? (i := 3) rfl) dX8_reading_99 ?_
            refine lv_iload hx hb dX8_reading_102 (lv_at hl 4 rfl) ?_
            refine x_iast C0 hO 43 rfl hw.1 dX8_reading_104 (fun σ13 H locs eσ13 hO => ?_)
            replace hw := hw.2 σ13 eσ13
            refine lv_aload_n hx hb dX8_reading_105 rfl (lv_at hl 0 rfl) ?_
            refine lv_dup hx hb dX8_reading_106 rfl ?_
            refine x_geti C0 hO 24 30 rfl rfl (by decide) rfl iX8_reading_8 rfl (List.mem_of_getElem? (i := 3) rfl) dX8_reading_107 ?_
            refine lv_iconst (v := 1) hx hb dX8_reading_110 (by decide) ?_
            refine lv_iadd hx hb dX8_reading_111 ?_
            refine x_puti C0 hO 24 30 tyX8 tyX8_ok nmX8 rfl rfl (by decide) rfl iX8_reading_8 rfl rfl rfl (List.mem_of_getElem? (i := 3) rfl) dX8_reading_112 (fun σ14 H locs eσ14 hO => ?_)
            replace hw := hw σ14 eσ14
            refine lv_aload_n hx hb dX8_reading_115 rfl (lv_at hl 0 rfl) ?_
            refine x_geti C0 hO 24 30 rfl rfl (by decide) rfl iX8_reading_8 rfl (List.mem_of_getElem? (i := 3) rfl) dX8_reading_116 ?_
            refine lv_iconst (v := 1) hx hb dX8_reading_119 (by decide) ?_
            refine lv_isub hx hb dX8_reading_120 ?_
            exact x_iret C0 hO hw dX8_reading_121
          · replace hw := hw.1 c9
            refine lv_bipush (v := -4) hx hb dX8_reading_61 (by decide) ?_
            exact x_iret C0 hO hw dX8_reading_63
        · replace hw := hw.1 c8
          refine lv_iload hx hb dX8_reading_42 (lv_at hl 4 rfl) ?_
          refine lv_bipush (v := 9) hx hb dX8_reading_44 (by decide) ?_
          refine lv_icmp_eq (tgt := 52) hx hb dX8_reading_46 (by decide) (fun c15 => ?_) (fun c15 => ?_)
          · replace hw := hw.1 c15
            refine lv_aload_n hx hb dX8_reading_52 rfl (lv_at hl 0 rfl) ?_
            refine x_geti C0 hO 24 30 rfl rfl (by decide) rfl iX8_reading_8 rfl (List.mem_of_getElem? (i := 3) rfl) dX8_reading_53 ?_
            refine lv_bipush (v := 8) hx hb dX8_reading_56 (by decide) ?_
            refine lv_icmp_ne (tgt := 64) hx hb dX8_reading_58 (by decide) (fun c16 => ?_) (fun c16 => ?_)
            · replace hw := hw.2 c16
              refine lv_aload_n hx hb dX8_reading_64 rfl (lv_at hl 0 rfl) ?_
              refine x_getr C0 hO 24 31 40 rfl rfl (by decide) rfl iX8_reading_8 rfl (List.mem_of_getElem? (i := 4) rfl) dX8_reading_65 ?_
              refine lv_aload_n hx hb dX8_reading_68 rfl (lv_at hl 0 rfl) ?_
              refine x_geti C0 hO 24 30 rfl rfl (by decide) rfl iX8_reading_8 rfl (List.mem_of_getElem? (i := 3) rfl) dX8_reading_69 ?_
              refine lv_iload_n hx hb dX8_reading_72 rfl (lv_at hl 1 rfl) ?_
              refine x_iast C0 hO 40 rfl hw.1 dX8_reading_73 (fun σ17 H locs eσ17 hO => ?_)
              replace hw := hw.2 σ17 eσ17
              refine lv_aload_n hx hb dX8_reading_74 rfl (lv_at hl 0 rfl) ?_
              refine x_getr C0 hO 24 32 41 rfl rfl (by decide) rfl iX8_reading_8 rfl (List.mem_of_getElem? (i := 5) rfl) dX8_reading_75 ?_
              refine lv_aload_n hx hb dX8_reading_78 rfl (lv_at hl 0 rfl) ?_
              refine x_geti C0 hO 24 30 rfl rfl (by decide) rfl iX8_reading_8 rfl (List.mem_of_getElem? (i := 3) rfl) dX8_reading_79 ?_
              refine lv_iload_n hx hb dX8_reading_82 rfl (lv_at hl 2 rfl) ?_
              refine x_iast C0 hO 41 rfl hw.1 dX8_reading_83 (fun σ18 H locs eσ18 hO => ?_)
              replace hw := hw.2 σ18 eσ18
              refine lv_aload_n hx hb dX8_reading_84 rfl (lv_at hl 0 rfl) ?_
              refine x_getr C0 hO 24 33 42 rfl rfl (by decide) rfl iX8_reading_8 rfl (List.mem_of_getElem? (i := 6) rfl) dX8_reading_85 ?_
              refine lv_aload_n hx hb dX8_reading_88 rfl (lv_at hl 0 rfl) ?_
              refine x_geti C0 hO 24 30 rfl rfl (by decide) rfl iX8_reading_8 rfl (List.mem_of_getElem? (i := 3) rfl) dX8_reading_89 ?_
              refine lv_iload_n hx hb dX8_reading_92 rfl (lv_at hl 3 rfl) ?_
              refine x_iast C0 hO 42 rfl hw.1 dX8_reading_93 (fun σ19 H locs eσ19 hO => ?_)
              replace hw := hw.2 σ19 eσ19
              refine lv_aload_n hx hb dX8_reading_94 rfl (lv_at hl 0 rfl) ?_
              refine x_getr C0 hO 24 34 43 rfl rfl (by decide) rfl iX8_reading_8 rfl (List.mem_of_getElem? (i := 7) rfl) dX8_reading_95 ?_
              refine lv_aload_n hx hb dX8_reading_98 rfl (lv_at hl 0 rfl) ?_
              refine x_geti C0 hO 24 30 rfl rfl (by decide) rfl iX8_reading_8 rfl (List.mem_of_getElem? (i := 3) rfl) dX8_reading_99 ?_
              refine lv_iload hx hb dX8_reading_102 (lv_at hl 4 rfl) ?_
              refine x_iast C0 hO 43 rfl hw.1 dX8_reading_104 (fun σ20 H locs eσ20 hO => ?_)
              replace hw := hw.2 σ20 eσ20
              refine lv_aload_n hx hb dX8_reading_105 rfl (lv_at hl 0 rfl) ?_
              refine lv_dup hx hb dX8_reading_106 rfl ?_
              refine x_geti C0 hO 24 30 rfl rfl (by decide) rfl iX8_reading_8 rfl (List.mem_of_getElem? (i := 3) rfl) dX8_reading_107 ?_
              refine lv_iconst (v := 1) hx hb dX8_reading_110 (by decide) ?_
              refine lv_iadd hx hb dX8_reading_111 ?_
              refine x_puti C0 hO 24 30 tyX8 tyX8_ok nmX8 rfl rfl (by decide) rfl iX8_reading_8 rfl rfl rfl (List.mem_of_getElem? (i := 3) rfl) dX8_reading_112 (fun σ21 H locs eσ21 hO => ?_)
              replace hw := hw σ21 eσ21
              refine lv_aload_n hx hb dX8_reading_115 rfl (lv_at hl 0 rfl) ?_
              refine x_geti C0 hO 24 30 rfl rfl (by decide) rfl iX8_reading_8 rfl (List.mem_of_getElem? (i := 3) rfl) dX8_reading_116 ?_
              refine lv_iconst (v := 1) hx hb dX8_reading_119 (by decide) ?_
              refine lv_isub hx hb dX8_reading_120 ?_
              exact x_iret C0 hO hw dX8_reading_121
            · replace hw := hw.1 c16
              refine lv_bipush (v := -4) hx hb dX8_reading_61 (by decide) ?_
              exact x_iret C0 hO hw dX8_reading_63
          · replace hw := hw.2 c15
            refine lv_bipush (v := -2) hx hb dX8_reading_49 (by decide) ?_
            exact x_iret C0 hO hw dX8_reading_51
  · replace hw := hw.2 c2
    refine lv_iconst (v := -1) hx hb dX8_reading_8 (by decide) ?_
    exact x_iret C0 hO hw dX8_reading_9
theorem iX8_back_8 : ∀ w ∈ wsX80, w ∈ wsX8_back := fun w h => List.mem_cons_of_mem _ (List.mem_append_right _ h)
theorem hdX8_back : yX8_back.cls = RX8 ∧ yX8_back.cls ≠ "java/lang/invoke/MethodHandle" ∧ yX8_back.cls ≠ "java/lang/invoke/VarHandle" ∧ (parseMethodDescriptor yX8_back.desc).map (fun d => d.parameters.length) = some 1 := by decide +kernel
set_option maxHeartbeats 4000000 in
set_option maxRecDepth 100000 in
theorem kX8_back (l : Launch) (g : XG) (sz : Nat) (a1 : Int32) (σ : XS) (post : Int32 → XS → Prop) (hw : PX8_back a1 σ post) : xMi l yX8_back wsX8_back rmX8_back 0 0 g sz [.ref (xa g 24), .int a1] σ post := by
  unfold PX8_back at hw
  refine x_head (Qc := fun A => va_Qi post (xAt g A) A) (cc := cX8_back) (maxL := 2) (ret := (some .int)) (by decide) rfl ?_
  intro p e s m below meth c A C0 hnm hO
  refine x_entry (Nat.le_of_ble_eq_true rfl) (fun ls hl => ?_)
  have hl : lv_has ls 2 [(0, .ref (xa g 24)), (1, .int a1)] := hl
  have hx := C0.1
  have hb := C0.2.1
  have hown := C0.2.2.2.2.2.1
  have hts := C0.2.2.2.2.2.2.1
  refine lv_iload_n hx hb dX8_back_0 rfl (lv_at hl 1 rfl) ?_
  refine lv_i2l hx hb dX8_back_1 rfl ?_
  refine lv_lconst (v := 0) hx hb dX8_back_2 (by decide) ?_
  refine lv_aload_n hx hb dX8_back_3 rfl (lv_at hl 0 rfl) ?_
  refine x_geti C0 hO 24 30 rfl rfl (by decide) rfl iX8_back_8 rfl (List.mem_of_getElem? (i := 1) rfl) dX8_back_4 ?_
  refine lv_i2l hx hb dX8_back_7 rfl ?_
  refine x_calli C0 hO (x_runS (As := [.long a1.toInt64, .long (0 : Int64), .long ((gI σ 24 30).toInt64)]) (rest := []) C0 hO (kX8_in l g _ a1.toInt64 (0 : Int64) ((gI σ 24 30).toInt64) σ _ hw) 3 rfl gX8_back_X8_in rfl rfl rfl hdX8_in.2 ⟨Nat.le_of_ble_eq_true rfl, Nat.le_of_ble_eq_true rfl⟩ hl.1 rfl (Nat.le_of_ble_eq_true rfl) dX8_back_8 ⟨Nat.le_of_ble_eq_true rfl, Nat.le_of_ble_eq_true rfl⟩) (fun r1 σ' H locs hw hO => ?_)
  obtain ⟨hσ, hw⟩ := hw
  subst hσ
  refine lv_if_ne (tgt := 17) hx hb dX8_back_11 (by decide) (fun c2 => ?_) (fun c2 => ?_)
  · replace hw := hw.2 c2
    refine lv_aload_n hx hb dX8_back_17 rfl (lv_at hl 0 rfl) ?_
    refine lv_dup hx hb dX8_back_18 rfl ?_
    refine x_geti C0 hO 24 30 rfl rfl (by decide) rfl iX8_back_8 rfl (List.mem_of_getElem? (i := 1) rfl) dX8_back_19 ?_
    refine lv_iload_n hx hb dX8_back_22 rfl (lv_at hl 1 rfl) ?_
    refine lv_isub hx hb dX8_back_23 ?_
    refine x_puti C0 hO 24 30 tyX8 tyX8_ok nmX8 rfl rfl (by decide) rfl iX8_back_8 rfl rfl rfl (List.mem_of_getElem? (i := 1) rfl) dX8_back_24 (fun σ3 H locs eσ3 hO => ?_)
    replace hw := hw σ3 eσ3
    refine lv_aload_n hx hb dX8_back_27 rfl (lv_at hl 0 rfl) ?_
    refine x_geti C0 hO 24 30 rfl rfl (by decide) rfl iX8_back_8 rfl (List.mem_of_getElem? (i := 1) rfl) dX8_back_28 ?_
    exact x_iret C0 hO hw dX8_back_31
  · replace hw := hw.1 c2
    refine lv_bipush (v := -2) hx hb dX8_back_14 (by decide) ?_
    exact x_iret C0 hO hw dX8_back_16
theorem iX8_areSo_8 : ∀ w ∈ wsX80, w ∈ wsX8_areSo := fun w h => List.mem_cons_of_mem _ (List.mem_append_right _ h)
theorem hdX8_areSo : yX8_areSo.cls = RX8 ∧ yX8_areSo.cls ≠ "java/lang/invoke/MethodHandle" ∧ yX8_areSo.cls ≠ "java/lang/invoke/VarHandle" ∧ (parseMethodDescriptor yX8_areSo.desc).map (fun d => d.parameters.length) = some 0 := by decide +kernel
set_option maxHeartbeats 4000000 in
set_option maxRecDepth 100000 in
theorem lX8_areSo_4 {p : Program} {l : Launch} {e : Env} {s : State} {m : MethodId} {args : Array Value} {below : List Frame} {meth : Method} {c : Code} {g : XG} {A : Nat → Prop} (C0 : xC g A wsX8_areSo RX8 cX8_areSo 4 (some .boolean) p s m args meth c) (post : Int32 → XS → Prop) (kx : Int32 → Int32 → XS → Prop)
    (hkx : ∀ (m1 : Int32) (m2 : Int32) (σ : XS) (H : Heap) (locs : List Loc) (ls : Array Slot), kx m1 m2 σ → xO g A s σ H locs → lv_has ls 4 [(0, .ref (xa g 24)), (1, .int m1), (2, .int m2)] → W p l e (headSpec wsX8_areSo rmX8_areSo).room s m args below meth c H locs 0 0 (MQ below (va_Qi post (xAt g A) A) args s 0 0 A) (F0 m 78 ls [])) :
    ∀ (n : Nat) (m1 : Int32) (m2 : Int32) (σ : XS) (H : Heap) (locs : List Loc) (ls : Array Slot), LX8_areSo_4  post kx n m1 m2 σ → xO g A s σ H locs → lv_has ls 4 [(0, .ref (xa g 24)), (1, .int m1), (2, .int m2)] → W p l e (headSpec wsX8_areSo rmX8_areSo).room s m args below meth c H locs 0 0 (MQ below (va_Qi post (xAt g A) A) args s 0 0 A) (F0 m 4 ls []) := by
  have hx := C0.1
  have hb := C0.2.1
  have hown := C0.2.2.2.2.2.1
  have hts := C0.2.2.2.2.2.2.1
  intro n
  induction n with
  | zero =>
    intro m1 m2 σ H locs ls hw
    exact hw.elim
  | succ n ih =>
    intro m1 m2 σ H locs ls hw hO hl
    rw [LX8_areSo_4] at hw
    refine lv_iload_n hx hb dX8_areSo_4 rfl (lv_at hl 2 rfl) ?_
    refine lv_aload_n hx hb dX8_areSo_5 rfl (lv_at hl 0 rfl) ?_
    refine x_geti C0 hO 24 30 rfl rfl (by decide) rfl iX8_areSo_8 rfl (List.mem_of_getElem? (i := 1) rfl) dX8_areSo_6 ?_
    refine lv_icmp_ge (tgt := 78) hx hb dX8_areSo_9 (by decide) (fun c1 => ?_) (fun c1 => ?_)
    · replace hw := hw.1 c1
      exact hkx _ _ _ _ _ _ hw hO (lv_sub hl [0, 1, 2] rfl)
    · replace hw := hw.2 c1
      refine lv_iload_n hx hb dX8_areSo_12 rfl (lv_at hl 1 rfl) ?_
      refine lv_if_eq (tgt := 78) hx hb dX8_areSo_13 (by decide) (fun c2 => ?_) (fun c2 => ?_)
      · replace hw := hw.1 c2
        exact hkx _ _ _ _ _ _ hw hO (lv_sub hl [0, 1, 2] rfl)
      · replace hw := hw.2 c2
        refine lv_aload_n hx hb dX8_areSo_16 rfl (lv_at hl 0 rfl) ?_
        refine lv_aload_n hx hb dX8_areSo_17 rfl (lv_at hl 0 rfl) ?_
        refine x_getr C0 hO 24 32 41 rfl rfl (by decide) rfl iX8_areSo_8 rfl (List.mem_of_getElem? (i := 2) rfl) dX8_areSo_18 ?_
        refine lv_iload_n hx hb dX8_areSo_21 rfl (lv_at hl 2 rfl) ?_
        refine x_iald C0 hO 41 rfl hw.1 dX8_areSo_22 ?_
        replace hw := hw.2
        refine x_callv C0 hO (x_runV (As := [.int (gI σ 41 m2.toNatClampNeg)]) (rest := []) C0 hO (kX8_goTo l g _ (gI σ 41 m2.toNatClampNeg) σ _ hw) 1 rfl (xRecv C0 hO (j := 24) rfl rfl) gX8_areSo_X8_goTo rfl rfl rfl hdX8_goTo ⟨Nat.le_of_ble_eq_true rfl, Nat.le_of_ble_eq_true rfl⟩ hl.1 rfl (Nat.le_of_ble_eq_true rfl) dX8_areSo_23 ⟨Nat.le_of_ble_eq_true rfl, Nat.le_of_ble_eq_true rfl⟩) (fun σ3 H locs hw hO => ?_)
        refine lv_aload_n hx hb dX8_areSo_26 rfl (lv_at hl 0 rfl) ?_
        refine lv_aload_n hx hb dX8_areSo_27 rfl (lv_at hl 0 rfl) ?_
        refine x_getr C0 hO 24 31 40 rfl rfl (by decide) rfl iX8_areSo_8 rfl (List.mem_of_getElem? (i := 3) rfl) dX8_areSo_28 ?_
        refine lv_iload_n hx hb dX8_areSo_31 rfl (lv_at hl 2 rfl) ?_
        refine x_iald C0 hO 40 rfl hw.1 dX8_areSo_32 ?_
        replace hw := hw.2
        refine lv_aload_n hx hb dX8_areSo_33 rfl (lv_at hl 0 rfl) ?_
        refine x_getr C0 hO 24 33 42 rfl rfl (by decide) rfl iX8_areSo_8 rfl (List.mem_of_getElem? (i := 4) rfl) dX8_areSo_34 ?_
        refine lv_iload_n hx hb dX8_areSo_37 rfl (lv_at hl 2 rfl) ?_
        refine x_iald C0 hO 42 rfl hw.1 dX8_areSo_38 ?_
        replace hw := hw.2
        refine x_calli C0 hO (x_runV (As := [.int (gI σ3 40 m2.toNatClampNeg), .int (gI σ3 42 m2.toNatClampNeg)]) (rest := []) C0 hO (kX8_layerAt l g _ (gI σ3 40 m2.toNatClampNeg) (gI σ3 42 m2.toNatClampNeg) σ3 _ hw) 2 rfl (xRecv C0 hO (j := 24) rfl rfl) gX8_areSo_X8_layerAt rfl rfl rfl hdX8_layerAt ⟨Nat.le_of_ble_eq_true rfl, Nat.le_of_ble_eq_true rfl⟩ hl.1 rfl (Nat.le_of_ble_eq_true rfl) dX8_areSo_39 ⟨Nat.le_of_ble_eq_true rfl, Nat.le_of_ble_eq_true rfl⟩) (fun r4 σ' H locs hw hO => ?_)
        obtain ⟨hσ, hw⟩ := hw
        subst hσ
        refine lv_istore_n (lv' := [(3, .int r4), (0, .ref (xa g 24)), (1, .int m1), (2, .int m2)]) hx hb dX8_areSo_42 rfl hl (by decide) rfl (fun ls hl => ?_)
        refine lv_iload_n hx hb dX8_areSo_43 rfl (lv_at hl 0 rfl) ?_
        refine lv_if_ge (tgt := 52) hx hb dX8_areSo_44 (by decide) (fun c5 => ?_) (fun c5 => ?_)
        · replace hw := hw.1 c5
          refine lv_aload_n hx hb dX8_areSo_52 rfl (lv_at hl 1 rfl) ?_
          refine lv_iload_n hx hb dX8_areSo_53 rfl (lv_at hl 0 rfl) ?_
          refine x_calli C0 hO (x_runV (As := [.int r4]) (rest := []) C0 hO (kX8_gumBy l g _ r4 σ3 _ hw) 1 rfl (xRecv C0 hO (j := 24) rfl rfl) gX8_areSo_X8_gumBy rfl rfl rfl hdX8_gumBy ⟨Nat.le_of_ble_eq_true rfl, Nat.le_of_ble_eq_true rfl⟩ hl.1 rfl (Nat.le_of_ble_eq_true rfl) dX8_areSo_54 ⟨Nat.le_of_ble_eq_true rfl, Nat.le_of_ble_eq_true rfl⟩) (fun r6 σ' H locs hw hO => ?_)
          obtain ⟨hσ, hw⟩ := hw
          subst hσ
          refine lv_aload_n hx hb dX8_areSo_57 rfl (lv_at hl 1 rfl) ?_
          refine x_getr C0 hO 24 34 43 rfl rfl (by decide) rfl iX8_areSo_8 rfl (List.mem_of_getElem? (i := 5) rfl) dX8_areSo_58 ?_
          refine lv_iload_n hx hb dX8_areSo_61 rfl (lv_at hl 3 rfl) ?_
          refine x_iald C0 hO 43 rfl hw.1 dX8_areSo_62 ?_
          replace hw := hw.2
          refine lv_icmp_ne (tgt := 70) hx hb dX8_areSo_63 (by decide) (fun c7 => ?_) (fun c7 => ?_)
          · replace hw := hw.2 c7
            refine lv_iconst (v := 0) hx hb dX8_areSo_70 (by decide) ?_
            refine lv_istore_n (lv' := [(1, .int (0 : Int32)), (3, .int r4), (0, .ref (xa g 24)), (2, .int m2)]) hx hb dX8_areSo_71 rfl hl (by decide) rfl (fun ls hl => ?_)
            obtain ⟨x8, ex8⟩ : ∃ z : Int32, z = m2 + 1 := ⟨_, rfl⟩
            replace hw := hw x8 ex8
            refine lv_iinc (v := x8) (lv' := [(2, .int x8), (1, .int (0 : Int32)), (3, .int r4), (0, .ref (xa g 24))]) hx hb dX8_areSo_72 hl (k := 3) rfl (by rw [ex8]; rfl) (by decide) rfl (fun ls hl => ?_)
            refine lv_goto (tgt := 4) hx hb dX8_areSo_75 (by decide) ?_
            exact ih _ _ _ _ _ _ hw hO (lv_sub hl [3, 1, 0] rfl)
          · replace hw := hw.1 c7
            refine lv_iconst (v := 1) hx hb dX8_areSo_66 (by decide) ?_
            refine lv_goto (tgt := 71) hx hb dX8_areSo_67 (by decide) ?_
            refine lv_istore_n (lv' := [(1, .int (1 : Int32)), (3, .int r4), (0, .ref (xa g 24)), (2, .int m2)]) hx hb dX8_areSo_71 rfl hl (by decide) rfl (fun ls hl => ?_)
            obtain ⟨x9, ex9⟩ : ∃ z : Int32, z = m2 + 1 := ⟨_, rfl⟩
            replace hw := hw x9 ex9
            refine lv_iinc (v := x9) (lv' := [(2, .int x9), (1, .int (1 : Int32)), (3, .int r4), (0, .ref (xa g 24))]) hx hb dX8_areSo_72 hl (k := 3) rfl (by rw [ex9]; rfl) (by decide) rfl (fun ls hl => ?_)
            refine lv_goto (tgt := 4) hx hb dX8_areSo_75 (by decide) ?_
            exact ih _ _ _ _ _ _ hw hO (lv_sub hl [3, 1, 0] rfl)
        · replace hw := hw.2 c5
          refine lv_bipush (v := 9) hx hb dX8_areSo_47 (by decide) ?_
          refine lv_goto (tgt := 57) hx hb dX8_areSo_49 (by decide) ?_
          refine lv_aload_n hx hb dX8_areSo_57 rfl (lv_at hl 1 rfl) ?_
          refine x_getr C0 hO 24 34 43 rfl rfl (by decide) rfl iX8_areSo_8 rfl (List.mem_of_getElem? (i := 5) rfl) dX8_areSo_58 ?_
          refine lv_iload_n hx hb dX8_areSo_61 rfl (lv_at hl 3 rfl) ?_
          refine x_iald C0 hO 43 rfl hw.1 dX8_areSo_62 ?_
          replace hw := hw.2
          refine lv_icmp_ne (tgt := 70) hx hb dX8_areSo_63 (by decide) (fun c10 => ?_) (fun c10 => ?_)
          · replace hw := hw.2 c10
            refine lv_iconst (v := 0) hx hb dX8_areSo_70 (by decide) ?_
            refine lv_istore_n (lv' := [(1, .int (0 : Int32)), (3, .int r4), (0, .ref (xa g 24)), (2, .int m2)]) hx hb dX8_areSo_71 rfl hl (by decide) rfl (fun ls hl => ?_)
            obtain ⟨x11, ex11⟩ : ∃ z : Int32, z = m2 + 1 := ⟨_, rfl⟩
            replace hw := hw x11 ex11
            refine lv_iinc (v := x11) (lv' := [(2, .int x11), (1, .int (0 : Int32)), (3, .int r4), (0, .ref (xa g 24))]) hx hb dX8_areSo_72 hl (k := 3) rfl (by rw [ex11]; rfl) (by decide) rfl (fun ls hl => ?_)
            refine lv_goto (tgt := 4) hx hb dX8_areSo_75 (by decide) ?_
            exact ih _ _ _ _ _ _ hw hO (lv_sub hl [3, 1, 0] rfl)
          · replace hw := hw.1 c10
            refine lv_iconst (v := 1) hx hb dX8_areSo_66 (by decide) ?_
            refine lv_goto (tgt := 71) hx hb dX8_areSo_67 (by decide) ?_
            refine lv_istore_n (lv' := [(1, .int (1 : Int32)), (3, .int r4), (0, .ref (xa g 24)), (2, .int m2)]) hx hb dX8_areSo_71 rfl hl (by decide) rfl (fun ls hl => ?_)
            obtain ⟨x12, ex12⟩ : ∃ z : Int32, z = m2 + 1 := ⟨_, rfl⟩
            replace hw := hw x12 ex12
            refine lv_iinc (v := x12) (lv' := [(2, .int x12), (1, .int (1 : Int32)), (3, .int r4), (0, .ref (xa g 24))]) hx hb dX8_areSo_72 hl (k := 3) rfl (by rw [ex12]; rfl) (by decide) rfl (fun ls hl => ?_)
            refine lv_goto (tgt := 4) hx hb dX8_areSo_75 (by decide) ?_
            exact ih _ _ _ _ _ _ hw hO (lv_sub hl [3, 1, 0] rfl)
set_option maxHeartbeats 4000000 in
set_option maxRecDepth 100000 in
theorem kX8_areSo (l : Launch) (g : XG) (sz : Nat) (σ : XS) (post : Int32 → XS → Prop) (hw : PX8_areSo  σ post) : xMi l yX8_areSo wsX8_areSo rmX8_areSo 0 0 g sz [.ref (xa g 24)] σ post := by
  unfold PX8_areSo at hw
  refine x_head (Qc := fun A => va_Qi post (xAt g A) A) (cc := cX8_areSo) (maxL := 4) (ret := (some .boolean)) (by decide) rfl ?_
  intro p e s m below meth c A C0 hnm hO
  refine x_entry (Nat.le_of_ble_eq_true rfl) (fun ls hl => ?_)
  have hl : lv_has ls 4 [(0, .ref (xa g 24))] := hl
  have hx := C0.1
  have hb := C0.2.1
  have hown := C0.2.2.2.2.2.1
  have hts := C0.2.2.2.2.2.2.1
  refine lv_iconst (v := 1) hx hb dX8_areSo_0 (by decide) ?_
  refine lv_istore_n (lv' := [(1, .int (1 : Int32)), (0, .ref (xa g 24))]) hx hb dX8_areSo_1 rfl hl (by decide) rfl (fun ls hl => ?_)
  refine lv_iconst (v := 0) hx hb dX8_areSo_2 (by decide) ?_
  refine lv_istore_n (lv' := [(2, .int (0 : Int32)), (1, .int (1 : Int32)), (0, .ref (xa g 24))]) hx hb dX8_areSo_3 rfl hl (by decide) rfl (fun ls hl => ?_)
  refine lX8_areSo_4 C0  post _ (fun x13 x14 σ15 H locs ls hw hO hl => ?_) 1000 _ _ _ _ _ _ hw hO (lv_sub hl [2, 1, 0] rfl)
  refine lv_iload_n hx hb dX8_areSo_78 rfl (lv_at hl 1 rfl) ?_
  exact x_zret C0 hO hw.1 hw.2 dX8_areSo_79
theorem iX8_sat_8 : ∀ w ∈ wsX80, w ∈ wsX8_sat := fun w h => List.mem_cons_of_mem _ (List.mem_append_right _ h)
theorem hdX8_sat : yX8_sat.cls = RX8 ∧ yX8_sat.cls ≠ "java/lang/invoke/MethodHandle" ∧ yX8_sat.cls ≠ "java/lang/invoke/VarHandle" ∧ (parseMethodDescriptor yX8_sat.desc).map (fun d => d.parameters.length) = some 2 := by decide +kernel
set_option maxHeartbeats 4000000 in
set_option maxRecDepth 100000 in
theorem lX8_sat_25 {p : Program} {l : Launch} {e : Env} {s : State} {m : MethodId} {args : Array Value} {below : List Frame} {meth : Method} {c : Code} {g : XG} {A : Nat → Prop} (C0 : xC g A wsX8_sat RX8 cX8_sat 5 (some .int) p s m args meth c) (f1 : Int32) (f2 : Int32) (post : Int32 → XS → Prop) (kx : Int32 → Int32 → XS → Prop)
    (hkx : ∀ (m3 : Int32) (m4 : Int32) (σ : XS) (H : Heap) (locs : List Loc) (ls : Array Slot), kx m3 m4 σ → xO g A s σ H locs → lv_has ls 5 [(0, .ref (xa g 24)), (1, .int f1), (2, .int f2), (3, .int m3), (4, .int m4)] → W p l e (headSpec wsX8_sat rmX8_sat).room s m args below meth c H locs 0 0 (MQ below (va_Qi post (xAt g A) A) args s 0 0 A) (F0 m 87 ls [])) :
    ∀ (n : Nat) (m3 : Int32) (m4 : Int32) (σ : XS) (H : Heap) (locs : List Loc) (ls : Array Slot), LX8_sat_25 f1 f2 post kx n m3 m4 σ → xO g A s σ H locs → lv_has ls 5 [(0, .ref (xa g 24)), (1, .int f1), (2, .int f2), (3, .int m3), (4, .int m4)] → W p l e (headSpec wsX8_sat rmX8_sat).room s m args below meth c H locs 0 0 (MQ below (va_Qi post (xAt g A) A) args s 0 0 A) (F0 m 25 ls []) := by
  have hx := C0.1
  have hb := C0.2.1
  have hown := C0.2.2.2.2.2.1
  have hts := C0.2.2.2.2.2.2.1
  intro n
  induction n with
  | zero =>
    intro m3 m4 σ H locs ls hw
    exact hw.elim
  | succ n ih =>
    intro m3 m4 σ H locs ls hw hO hl
    rw [LX8_sat_25] at hw
    refine lv_iload hx hb dX8_sat_25 (lv_at hl 4 rfl) ?_
    refine lv_aload_n hx hb dX8_sat_27 rfl (lv_at hl 0 rfl) ?_
    refine x_geti C0 hO 24 2 rfl rfl (by decide) rfl iX8_sat_8 rfl (List.mem_of_getElem? (i := 1) rfl) dX8_sat_28 ?_
    refine lv_icmp_ge (tgt := 87) hx hb dX8_sat_31 (by decide) (fun c5 => ?_) (fun c5 => ?_)
    · replace hw := hw.1 c5
      exact hkx _ _ _ _ _ _ hw hO (lv_sub hl [0, 1, 2, 3, 4] rfl)
    · replace hw := hw.2 c5
      refine lv_aload_n hx hb dX8_sat_34 rfl (lv_at hl 0 rfl) ?_
      refine lv_iload hx hb dX8_sat_35 (lv_at hl 4 rfl) ?_
      refine lv_iload_n hx hb dX8_sat_37 rfl (lv_at hl 1 rfl) ?_
      refine lv_iload_n hx hb dX8_sat_38 rfl (lv_at hl 2 rfl) ?_
      refine x_calli C0 hO (x_runV (As := [.int m4, .int f1, .int f2]) (rest := []) C0 hO (kX8_maySit l g _ m4 f1 f2 σ _ hw) 3 rfl (xRecv C0 hO (j := 24) rfl rfl) gX8_sat_X8_maySit rfl rfl rfl hdX8_maySit ⟨Nat.le_of_ble_eq_true rfl, Nat.le_of_ble_eq_true rfl⟩ hl.1 rfl (Nat.le_of_ble_eq_true rfl) dX8_sat_39 ⟨Nat.le_of_ble_eq_true rfl, Nat.le_of_ble_eq_true rfl⟩) (fun r6 σ' H locs hw hO => ?_)
      obtain ⟨hσ, hw⟩ := hw
      subst hσ
      refine lv_if_eq (tgt := 81) hx hb dX8_sat_42 (by decide) (fun c7 => ?_) (fun c7 => ?_)
      · replace hw := hw.1 c7
        obtain ⟨x8, ex8⟩ : ∃ z : Int32, z = m4 + 1 := ⟨_, rfl⟩
        replace hw := hw x8 ex8
        refine lv_iinc (v := x8) (lv' := [(4, .int x8), (0, .ref (xa g 24)), (1, .int f1), (2, .int f2), (3, .int m3)]) hx hb dX8_sat_81 hl (k := 4) rfl (by rw [ex8]; rfl) (by decide) rfl (fun ls hl => ?_)
        refine lv_goto (tgt := 25) hx hb dX8_sat_84 (by decide) ?_
        exact ih _ _ _ _ _ _ hw hO (lv_sub hl [1, 2, 3, 4, 0] rfl)
      · replace hw := hw.2 c7
        refine lv_aload_n hx hb dX8_sat_45 rfl (lv_at hl 0 rfl) ?_
        refine lv_iload hx hb dX8_sat_46 (lv_at hl 4 rfl) ?_
        refine lv_iload_n hx hb dX8_sat_48 rfl (lv_at hl 1 rfl) ?_
        refine lv_iload_n hx hb dX8_sat_49 rfl (lv_at hl 2 rfl) ?_
        refine x_callv C0 hO (x_runV (As := [.int m4, .int f1, .int f2]) (rest := []) C0 hO (kX8_sitDown l g _ m4 f1 f2 σ _ hw) 3 rfl (xRecv C0 hO (j := 24) rfl rfl) gX8_sat_X8_sitDown rfl rfl rfl hdX8_sitDown ⟨Nat.le_of_ble_eq_true rfl, Nat.le_of_ble_eq_true rfl⟩ hl.1 rfl (Nat.le_of_ble_eq_true rfl) dX8_sat_50 ⟨Nat.le_of_ble_eq_true rfl, Nat.le_of_ble_eq_true rfl⟩) (fun σ9 H locs hw hO => ?_)
        refine lv_iload_n hx hb dX8_sat_53 rfl (lv_at hl 3 rfl) ?_
        refine lv_aload_n hx hb dX8_sat_54 rfl (lv_at hl 0 rfl) ?_
        refine x_calli C0 hO (x_runV (As := []) (rest := [.int m3]) C0 hO (kX8_areSo l g _  σ9 _ hw) 0 rfl (xRecv C0 hO (j := 24) rfl rfl) gX8_sat_X8_areSo rfl rfl rfl hdX8_areSo ⟨Nat.le_of_ble_eq_true rfl, Nat.le_of_ble_eq_true rfl⟩ hl.1 rfl (Nat.le_of_ble_eq_true rfl) dX8_sat_55 ⟨Nat.le_of_ble_eq_true rfl, Nat.le_of_ble_eq_true rfl⟩) (fun r10 σ11 H locs hw hO => ?_)
        refine lv_if_eq (tgt := 68) hx hb dX8_sat_58 (by decide) (fun c12 => ?_) (fun c12 => ?_)
        · replace hw := hw.1 c12
          refine lv_iconst (v := 0) hx hb dX8_sat_68 (by decide) ?_
          refine lv_ior hx hb dX8_sat_69 ?_
          refine lv_topi (fun x13 ex13 => ?_)
          replace hw := hw x13 ex13
          refine lv_istore_n (lv' := [(3, .int x13), (0, .ref (xa g 24)), (1, .int f1), (2, .int f2), (4, .int m4)]) hx hb dX8_sat_70 rfl hl (by decide) rfl (fun ls hl => ?_)
          refine lv_aload_n hx hb dX8_sat_71 rfl (lv_at hl 1 rfl) ?_
          refine lv_dup hx hb dX8_sat_72 rfl ?_
          refine x_geti C0 hO 24 10 rfl rfl (by decide) rfl iX8_sat_8 rfl (List.mem_of_getElem? (i := 2) rfl) dX8_sat_73 ?_
          refine lv_iconst (v := 1) hx hb dX8_sat_76 (by decide) ?_
          refine lv_isub hx hb dX8_sat_77 ?_
          refine x_puti C0 hO 24 10 tyX8 tyX8_ok nmX8 rfl rfl (by decide) rfl iX8_sat_8 rfl rfl rfl (List.mem_of_getElem? (i := 2) rfl) dX8_sat_78 (fun σ14 H locs eσ14 hO => ?_)
          replace hw := hw σ14 eσ14
          obtain ⟨x15, ex15⟩ : ∃ z : Int32, z = m4 + 1 := ⟨_, rfl⟩
          replace hw := hw x15 ex15
          refine lv_iinc (v := x15) (lv' := [(4, .int x15), (3, .int x13), (0, .ref (xa g 24)), (1, .int f1), (2, .int f2)]) hx hb dX8_sat_81 hl (k := 4) rfl (by rw [ex15]; rfl) (by decide) rfl (fun ls hl => ?_)
          refine lv_goto (tgt := 25) hx hb dX8_sat_84 (by decide) ?_
          exact ih _ _ _ _ _ _ hw hO (lv_sub hl [2, 3, 4, 1, 0] rfl)
        · replace hw := hw.2 c12
          refine lv_iconst (v := 1) hx hb dX8_sat_61 (by decide) ?_
          refine lv_iload hx hb dX8_sat_62 (lv_at hl 4 rfl) ?_
          refine lv_ishl hx hb dX8_sat_64 ?_
          refine lv_goto (tgt := 69) hx hb dX8_sat_65 (by decide) ?_
          refine lv_ior hx hb dX8_sat_69 ?_
          refine lv_topi (fun x16 ex16 => ?_)
          replace hw := hw x16 ex16
          refine lv_istore_n (lv' := [(3, .int x16), (0, .ref (xa g 24)), (1, .int f1), (2, .int f2), (4, .int m4)]) hx hb dX8_sat_70 rfl hl (by decide) rfl (fun ls hl => ?_)
          refine lv_aload_n hx hb dX8_sat_71 rfl (lv_at hl 1 rfl) ?_
          refine lv_dup hx hb dX8_sat_72 rfl ?_
          refine x_geti C0 hO 24 10 rfl rfl (by decide) rfl iX8_sat_8 rfl (List.mem_of_getElem? (i := 2) rfl) dX8_sat_73 ?_
          refine lv_iconst (v := 1) hx hb dX8_sat_76 (by decide) ?_
          refine lv_isub hx hb dX8_sat_77 ?_
          refine x_puti C0 hO 24 10 tyX8 tyX8_ok nmX8 rfl rfl (by decide) rfl iX8_sat_8 rfl rfl rfl (List.mem_of_getElem? (i := 2) rfl) dX8_sat_78 (fun σ17 H locs eσ17 hO => ?_)
          replace hw := hw σ17 eσ17
          obtain ⟨x18, ex18⟩ : ∃ z : Int32, z = m4 + 1 := ⟨_, rfl⟩
          replace hw := hw x18 ex18
          refine lv_iinc (v := x18) (lv' := [(4, .int x18), (3, .int x16), (0, .ref (xa g 24)), (1, .int f1), (2, .int f2)]) hx hb dX8_sat_81 hl (k := 4) rfl (by rw [ex18]; rfl) (by decide) rfl (fun ls hl => ?_)
          refine lv_goto (tgt := 25) hx hb dX8_sat_84 (by decide) ?_
          exact ih _ _ _ _ _ _ hw hO (lv_sub hl [2, 3, 4, 1, 0] rfl)
set_option maxHeartbeats 4000000 in
set_option maxRecDepth 100000 in
theorem kX8_sat (l : Launch) (g : XG) (sz : Nat) (a1 : Int32) (a2 : Int32) (σ : XS) (post : Int32 → XS → Prop) (hw : PX8_sat a1 a2 σ post) : xMi l yX8_sat wsX8_sat rmX8_sat 0 0 g sz [.ref (xa g 24), .int a1, .int a2] σ post := by
  unfold PX8_sat at hw
  refine x_head (Qc := fun A => va_Qi post (xAt g A) A) (cc := cX8_sat) (maxL := 5) (ret := (some .int)) (by decide) rfl ?_
  intro p e s m below meth c A C0 hnm hO
  refine x_entry (Nat.le_of_ble_eq_true rfl) (fun ls hl => ?_)
  have hl : lv_has ls 5 [(0, .ref (xa g 24)), (1, .int a1), (2, .int a2)] := hl
  have hx := C0.1
  have hb := C0.2.1
  have hown := C0.2.2.2.2.2.1
  have hts := C0.2.2.2.2.2.2.1
  refine lv_aload_n hx hb dX8_sat_0 rfl (lv_at hl 0 rfl) ?_
  refine lv_iload_n hx hb dX8_sat_1 rfl (lv_at hl 1 rfl) ?_
  refine x_calli C0 hO (x_runV (As := [.int a1]) (rest := []) C0 hO (kX8_noPlace l g _ a1 σ _ hw) 1 rfl (xRecv C0 hO (j := 24) rfl rfl) gX8_sat_X8_noPlace rfl rfl rfl hdX8_noPlace ⟨Nat.le_of_ble_eq_true rfl, Nat.le_of_ble_eq_true rfl⟩ hl.1 rfl (Nat.le_of_ble_eq_true rfl) dX8_sat_2 ⟨Nat.le_of_ble_eq_true rfl, Nat.le_of_ble_eq_true rfl⟩) (fun r1 σ' H locs hw hO => ?_)
  obtain ⟨hσ, hw⟩ := hw
  subst hσ
  refine lv_if_eq (tgt := 10) hx hb dX8_sat_5 (by decide) (fun c2 => ?_) (fun c2 => ?_)
  · replace hw := hw.1 c2
    refine lv_iload_n hx hb dX8_sat_10 rfl (lv_at hl 2 rfl) ?_
    refine x_calli C0 hO (x_runS (As := [.int a2]) (rest := []) C0 hO (kX8_isNight l g _ a2 σ _ hw) 1 rfl gX8_sat_X8_isNight rfl rfl rfl hdX8_isNight.2 ⟨Nat.le_of_ble_eq_true rfl, Nat.le_of_ble_eq_true rfl⟩ hl.1 rfl (Nat.le_of_ble_eq_true rfl) dX8_sat_11 ⟨Nat.le_of_ble_eq_true rfl, Nat.le_of_ble_eq_true rfl⟩) (fun r3 σ' H locs hw hO => ?_)
    obtain ⟨hσ, hw⟩ := hw
    subst hσ
    refine lv_if_ne (tgt := 20) hx hb dX8_sat_14 (by decide) (fun c4 => ?_) (fun c4 => ?_)
    · replace hw := hw.2 c4
      refine lv_iconst (v := 0) hx hb dX8_sat_20 (by decide) ?_
      refine lv_istore_n (lv' := [(3, .int (0 : Int32)), (0, .ref (xa g 24)), (1, .int a1), (2, .int a2)]) hx hb dX8_sat_21 rfl hl (by decide) rfl (fun ls hl => ?_)
      refine lv_iconst (v := 0) hx hb dX8_sat_22 (by decide) ?_
      refine lv_istore (lv' := [(4, .int (0 : Int32)), (3, .int (0 : Int32)), (0, .ref (xa g 24)), (1, .int a1), (2, .int a2)]) hx hb dX8_sat_23 hl (by decide) rfl (fun ls hl => ?_)
      refine lX8_sat_25 C0 a1 a2 post _ (fun x19 x20 σ21 H locs ls hw hO hl => ?_) 1000 _ _ _ _ _ _ hw hO (lv_sub hl [2, 3, 4, 1, 0] rfl)
      refine lv_iload_n hx hb dX8_sat_87 rfl (lv_at hl 3 rfl) ?_
      exact x_iret C0 hO hw dX8_sat_88
    · replace hw := hw.1 c4
      refine lv_bipush (v := -2) hx hb dX8_sat_17 (by decide) ?_
      exact x_iret C0 hO hw dX8_sat_19
  · replace hw := hw.2 c2
    refine lv_iconst (v := -1) hx hb dX8_sat_8 (by decide) ?_
    exact x_iret C0 hO hw dX8_sat_9
theorem iX8_moved_8 : ∀ w ∈ wsX80, w ∈ wsX8_moved := fun w h => List.mem_cons_of_mem _ (List.mem_append_right _ h)
theorem hdX8_moved : yX8_moved.cls = RX8 ∧ yX8_moved.cls ≠ "java/lang/invoke/MethodHandle" ∧ yX8_moved.cls ≠ "java/lang/invoke/VarHandle" ∧ (parseMethodDescriptor yX8_moved.desc).map (fun d => d.parameters.length) = some 1 := by decide +kernel
set_option maxHeartbeats 4000000 in
set_option maxRecDepth 100000 in
theorem lX8_moved_30 {p : Program} {l : Launch} {e : Env} {s : State} {m : MethodId} {args : Array Value} {below : List Frame} {meth : Method} {c : Code} {g : XG} {A : Nat → Prop} (C0 : xC g A wsX8_moved RX8 cX8_moved 4 (some .int) p s m args meth c) (f1 : Int32) (post : Int32 → XS → Prop) (kx : Int32 → Int32 → XS → Prop)
    (hkx : ∀ (m2 : Int32) (m3 : Int32) (σ : XS) (H : Heap) (locs : List Loc) (ls : Array Slot), kx m2 m3 σ → xO g A s σ H locs → lv_has ls 4 [(0, .ref (xa g 24)), (1, .int f1), (2, .int m2), (3, .int m3)] → W p l e (headSpec wsX8_moved rmX8_moved).room s m args below meth c H locs 0 0 (MQ below (va_Qi post (xAt g A) A) args s 0 0 A) (F0 m 104 ls [])) :
    ∀ (n : Nat) (m2 : Int32) (m3 : Int32) (σ : XS) (H : Heap) (locs : List Loc) (ls : Array Slot), LX8_moved_30 f1 post kx n m2 m3 σ → xO g A s σ H locs → lv_has ls 4 [(0, .ref (xa g 24)), (1, .int f1), (2, .int m2), (3, .int m3)] → W p l e (headSpec wsX8_moved rmX8_moved).room s m args below meth c H locs 0 0 (MQ below (va_Qi post (xAt g A) A) args s 0 0 A) (F0 m 30 ls []) := by
  have hx := C0.1
  have hb := C0.2.1
  have hown := C0.2.2.2.2.2.1
  have hts := C0.2.2.2.2.2.2.1
  intro n
  induction n with
  | zero =>
    intro m2 m3 σ H locs ls hw
    exact hw.elim
  | succ n ih =>
    intro m2 m3 σ H locs ls hw hO hl
    rw [LX8_moved_30] at hw
    refine lv_iload_n hx hb dX8_moved_30 rfl (lv_at hl 3 rfl) ?_
    refine lv_aload_n hx hb dX8_moved_31 rfl (lv_at hl 0 rfl) ?_
    refine x_geti C0 hO 24 1 rfl rfl (by decide) rfl iX8_moved_8 rfl (List.mem_of_getElem? (i := 3) rfl) dX8_moved_32 ?_
    refine lv_aload_n hx hb dX8_moved_35 rfl (lv_at hl 0 rfl) ?_
    refine x_geti C0 hO 24 1 rfl rfl (by decide) rfl iX8_moved_8 rfl (List.mem_of_getElem? (i := 3) rfl) dX8_moved_36 ?_
    refine lv_imul hx hb dX8_moved_39 ?_
    refine lv_icmp_ge (tgt := 104) hx hb dX8_moved_40 (by decide) (fun c5 => ?_) (fun c5 => ?_)
    · replace hw := hw.1 c5
      exact hkx _ _ _ _ _ _ hw hO (lv_sub hl [0, 1, 2, 3] rfl)
    · replace hw := hw.2 c5
      refine lv_iload_n hx hb dX8_moved_43 rfl (lv_at hl 2 rfl) ?_
      refine lv_if_ge (tgt := 104) hx hb dX8_moved_44 (by decide) (fun c6 => ?_) (fun c6 => ?_)
      · replace hw := hw.1 c6
        exact hkx _ _ _ _ _ _ hw hO (lv_sub hl [0, 1, 2, 3] rfl)
      · replace hw := hw.2 c6
        refine lv_aload_n hx hb dX8_moved_47 rfl (lv_at hl 0 rfl) ?_
        refine lv_iload_n hx hb dX8_moved_48 rfl (lv_at hl 3 rfl) ?_
        refine lv_aload_n hx hb dX8_moved_49 rfl (lv_at hl 0 rfl) ?_
        refine x_geti C0 hO 24 1 rfl rfl (by decide) rfl iX8_moved_8 rfl (List.mem_of_getElem? (i := 3) rfl) dX8_moved_50 ?_
        refine lv_idiv hx hb dX8_moved_53 hw.1 ?_
        replace hw := hw.2
        refine x_puti C0 hO 24 23 tyX8 tyX8_ok nmX8 rfl rfl (by decide) rfl iX8_moved_8 rfl rfl rfl (List.mem_of_getElem? (i := 4) rfl) dX8_moved_54 (fun σ7 H locs eσ7 hO => ?_)
        replace hw := hw σ7 eσ7
        refine lv_aload_n hx hb dX8_moved_57 rfl (lv_at hl 0 rfl) ?_
        refine lv_iload_n hx hb dX8_moved_58 rfl (lv_at hl 3 rfl) ?_
        refine lv_aload_n hx hb dX8_moved_59 rfl (lv_at hl 0 rfl) ?_
        refine x_geti C0 hO 24 1 rfl rfl (by decide) rfl iX8_moved_8 rfl (List.mem_of_getElem? (i := 3) rfl) dX8_moved_60 ?_
        refine lv_irem hx hb dX8_moved_63 hw.1 ?_
        replace hw := hw.2
        refine x_puti C0 hO 24 24 tyX8 tyX8_ok nmX8 rfl rfl (by decide) rfl iX8_moved_8 rfl rfl rfl (List.mem_of_getElem? (i := 5) rfl) dX8_moved_64 (fun σ8 H locs eσ8 hO => ?_)
        replace hw := hw σ8 eσ8
        refine lv_aload_n hx hb dX8_moved_67 rfl (lv_at hl 0 rfl) ?_
        refine x_geti C0 hO 24 23 rfl rfl (by decide) rfl iX8_moved_8 rfl (List.mem_of_getElem? (i := 4) rfl) dX8_moved_68 ?_
        refine lv_aload_n hx hb dX8_moved_71 rfl (lv_at hl 0 rfl) ?_
        refine x_geti C0 hO 24 24 rfl rfl (by decide) rfl iX8_moved_8 rfl (List.mem_of_getElem? (i := 5) rfl) dX8_moved_72 ?_
        refine lv_icmp_ge (tgt := 98) hx hb dX8_moved_75 (by decide) (fun c9 => ?_) (fun c9 => ?_)
        · replace hw := hw.1 c9
          obtain ⟨x10, ex10⟩ : ∃ z : Int32, z = m3 + 1 := ⟨_, rfl⟩
          replace hw := hw x10 ex10
          refine lv_iinc (v := x10) (lv' := [(3, .int x10), (0, .ref (xa g 24)), (1, .int f1), (2, .int m2)]) hx hb dX8_moved_98 hl (k := 3) rfl (by rw [ex10]; rfl) (by decide) rfl (fun ls hl => ?_)
          refine lv_goto (tgt := 30) hx hb dX8_moved_101 (by decide) ?_
          exact ih _ _ _ _ _ _ hw hO (lv_sub hl [1, 2, 3, 0] rfl)
        · replace hw := hw.2 c9
          refine lv_aload_n hx hb dX8_moved_78 rfl (lv_at hl 0 rfl) ?_
          refine x_calli C0 hO (x_runV (As := []) (rest := []) C0 hO (kX8_areSo l g _  σ8 _ hw) 0 rfl (xRecv C0 hO (j := 24) rfl rfl) gX8_moved_X8_areSo rfl rfl rfl hdX8_areSo ⟨Nat.le_of_ble_eq_true rfl, Nat.le_of_ble_eq_true rfl⟩ hl.1 rfl (Nat.le_of_ble_eq_true rfl) dX8_moved_79 ⟨Nat.le_of_ble_eq_true rfl, Nat.le_of_ble_eq_true rfl⟩) (fun r11 σ12 H locs hw hO => ?_)
          refine lv_if_eq (tgt := 98) hx hb dX8_moved_82 (by decide) (fun c13 => ?_) (fun c13 => ?_)
          · replace hw := hw.1 c13
            obtain ⟨x14, ex14⟩ : ∃ z : Int32, z = m3 + 1 := ⟨_, rfl⟩
            replace hw := hw x14 ex14
            refine lv_iinc (v := x14) (lv' := [(3, .int x14), (0, .ref (xa g 24)), (1, .int f1), (2, .int m2)]) hx hb dX8_moved_98 hl (k := 3) rfl (by rw [ex14]; rfl) (by decide) rfl (fun ls hl => ?_)
            refine lv_goto (tgt := 30) hx hb dX8_moved_101 (by decide) ?_
            exact ih _ _ _ _ _ _ hw hO (lv_sub hl [1, 2, 3, 0] rfl)
          · replace hw := hw.2 c13
            refine lv_bipush (v := 10) hx hb dX8_moved_85 (by decide) ?_
            refine lv_aload_n hx hb dX8_moved_87 rfl (lv_at hl 0 rfl) ?_
            refine x_geti C0 hO 24 23 rfl rfl (by decide) rfl iX8_moved_8 rfl (List.mem_of_getElem? (i := 4) rfl) dX8_moved_88 ?_
            refine lv_imul hx hb dX8_moved_91 ?_
            refine lv_aload_n hx hb dX8_moved_92 rfl (lv_at hl 0 rfl) ?_
            refine x_geti C0 hO 24 24 rfl rfl (by decide) rfl iX8_moved_8 rfl (List.mem_of_getElem? (i := 5) rfl) dX8_moved_93 ?_
            refine lv_iadd hx hb dX8_moved_96 ?_
            refine lv_topi (fun x15 ex15 => ?_)
            replace hw := hw x15 ex15
            refine lv_istore_n (lv' := [(2, .int x15), (0, .ref (xa g 24)), (1, .int f1), (3, .int m3)]) hx hb dX8_moved_97 rfl hl (by decide) rfl (fun ls hl => ?_)
            obtain ⟨x16, ex16⟩ : ∃ z : Int32, z = m3 + 1 := ⟨_, rfl⟩
            replace hw := hw x16 ex16
            refine lv_iinc (v := x16) (lv' := [(3, .int x16), (2, .int x15), (0, .ref (xa g 24)), (1, .int f1)]) hx hb dX8_moved_98 hl (k := 3) rfl (by rw [ex16]; rfl) (by decide) rfl (fun ls hl => ?_)
            refine lv_goto (tgt := 30) hx hb dX8_moved_101 (by decide) ?_
            exact ih _ _ _ _ _ _ hw hO (lv_sub hl [2, 3, 1, 0] rfl)
set_option maxHeartbeats 4000000 in
set_option maxRecDepth 100000 in
theorem kX8_moved (l : Launch) (g : XG) (sz : Nat) (a1 : Int32) (σ : XS) (post : Int32 → XS → Prop) (hw : PX8_moved a1 σ post) : xMi l yX8_moved wsX8_moved rmX8_moved 0 0 g sz [.ref (xa g 24), .int a1] σ post := by
  unfold PX8_moved at hw
  refine x_head (Qc := fun A => va_Qi post (xAt g A) A) (cc := cX8_moved) (maxL := 4) (ret := (some .int)) (by decide) rfl ?_
  intro p e s m below meth c A C0 hnm hO
  refine x_entry (Nat.le_of_ble_eq_true rfl) (fun ls hl => ?_)
  have hl : lv_has ls 4 [(0, .ref (xa g 24)), (1, .int a1)] := hl
  have hx := C0.1
  have hb := C0.2.1
  have hown := C0.2.2.2.2.2.1
  have hts := C0.2.2.2.2.2.2.1
  refine lv_iload_n hx hb dX8_moved_0 rfl (lv_at hl 1 rfl) ?_
  refine x_calli C0 hO (x_runS (As := [.int a1]) (rest := []) C0 hO (kX8_isNight l g _ a1 σ _ hw) 1 rfl gX8_moved_X8_isNight rfl rfl rfl hdX8_isNight.2 ⟨Nat.le_of_ble_eq_true rfl, Nat.le_of_ble_eq_true rfl⟩ hl.1 rfl (Nat.le_of_ble_eq_true rfl) dX8_moved_1 ⟨Nat.le_of_ble_eq_true rfl, Nat.le_of_ble_eq_true rfl⟩) (fun r1 σ' H locs hw hO => ?_)
  obtain ⟨hσ, hw⟩ := hw
  subst hσ
  refine lv_if_ne (tgt := 10) hx hb dX8_moved_4 (by decide) (fun c2 => ?_) (fun c2 => ?_)
  · replace hw := hw.2 c2
    refine lv_aload_n hx hb dX8_moved_10 rfl (lv_at hl 0 rfl) ?_
    refine x_geti C0 hO 24 2 rfl rfl (by decide) rfl iX8_moved_8 rfl (List.mem_of_getElem? (i := 1) rfl) dX8_moved_11 ?_
    refine lv_if_ne (tgt := 20) hx hb dX8_moved_14 (by decide) (fun c3 => ?_) (fun c3 => ?_)
    · replace hw := hw.2 c3
      refine lv_bipush (v := -9) hx hb dX8_moved_20 (by decide) ?_
      refine lv_istore_n (lv' := [(2, .int (-9 : Int32)), (0, .ref (xa g 24)), (1, .int a1)]) hx hb dX8_moved_22 rfl hl (by decide) rfl (fun ls hl => ?_)
      refine lv_aload_n hx hb dX8_moved_23 rfl (lv_at hl 1 rfl) ?_
      refine lv_iload_n hx hb dX8_moved_24 rfl (lv_at hl 2 rfl) ?_
      refine x_puti C0 hO 24 22 tyX8 tyX8_ok nmX8 rfl rfl (by decide) rfl iX8_moved_8 rfl rfl rfl (List.mem_of_getElem? (i := 2) rfl) dX8_moved_25 (fun σ4 H locs eσ4 hO => ?_)
      replace hw := hw σ4 eσ4
      refine lv_iconst (v := 0) hx hb dX8_moved_28 (by decide) ?_
      refine lv_istore_n (lv' := [(3, .int (0 : Int32)), (2, .int (-9 : Int32)), (0, .ref (xa g 24)), (1, .int a1)]) hx hb dX8_moved_29 rfl hl (by decide) rfl (fun ls hl => ?_)
      refine lX8_moved_30 C0 a1 post _ (fun x17 x18 σ19 H locs ls hw hO hl => ?_) 1000 _ _ _ _ _ _ hw hO (lv_sub hl [2, 3, 1, 0] rfl)
      refine lv_aload_n hx hb dX8_moved_104 rfl (lv_at hl 0 rfl) ?_
      refine x_callv C0 hO (x_runV (As := []) (rest := []) C0 hO (kX8_meanNothing l g _  σ19 _ hw) 0 rfl (xRecv C0 hO (j := 24) rfl rfl) gX8_moved_X8_meanNothing rfl rfl rfl hdX8_meanNothing ⟨Nat.le_of_ble_eq_true rfl, Nat.le_of_ble_eq_true rfl⟩ hl.1 rfl (Nat.le_of_ble_eq_true rfl) dX8_moved_105 ⟨Nat.le_of_ble_eq_true rfl, Nat.le_of_ble_eq_true rfl⟩) (fun σ20 H locs hw hO => ?_)
      refine lv_iload_n hx hb dX8_moved_108 rfl (lv_at hl 2 rfl) ?_
      exact x_iret C0 hO hw dX8_moved_109
    · replace hw := hw.1 c3
      refine lv_bipush (v := -3) hx hb dX8_moved_17 (by decide) ?_
      exact x_iret C0 hO hw dX8_moved_19
  · replace hw := hw.1 c2
    refine lv_bipush (v := -2) hx hb dX8_moved_7 (by decide) ?_
    exact x_iret C0 hO hw dX8_moved_9
