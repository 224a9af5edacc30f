/-! generated: contracts -/
theorem hdX7_isLane : yX7_isLane.cls = RX7 ∧ yX7_isLane.cls ≠ "java/lang/invoke/MethodHandle" ∧ yX7_isLane.cls ≠ "java/lang/invoke/VarHandle" ∧ (parseMethodDescriptor yX7_isLane.desc).map (fun d => d.parameters.length) = some 1 := by decide +kernel
set_option maxHeartbeats 4000000 in
set_option maxRecDepth 100000 in
theorem kX7_isLane (l : Launch) (g : XG) (sz : Nat) (a0 : Int32) (σ : XS) (post : Int32 → Prop) (hw : PX7_isLane a0 σ post) : xMi l yX7_isLane wsX7_isLane rmX7_isLane 0 0 g sz [.int a0] σ (fun r u => σ = u ∧ post r) := by
  unfold PX7_isLane at hw
  refine x_head (Qc := fun A => va_Qi (fun r u => σ = u ∧ post r) (xAt g A) A) (cc := cX7_isLane) (maxL := 1) (ret := (some .boolean)) (by decide) rfl ?_
  intro p e s m below meth c A C0 hnm hO
  refine x_entry (Nat.le_of_ble_eq_true rfl) (fun ls hl => ?_)
  have hl : lv_has ls 1 [(0, .int a0)] := hl
  have hx := C0.1
  have hb := C0.2.1
  have hown := C0.2.2.2.2.2.1
  have hts := C0.2.2.2.2.2.2.1
  refine lv_iload_n hx hb dX7_isLane_0 rfl (lv_at hl 0 rfl) ?_
  refine lv_if_lt (tgt := 13) hx hb dX7_isLane_1 (by decide) (fun c1 => ?_) (fun c1 => ?_)
  · replace hw := hw.1 c1
    refine lv_iconst (v := 0) hx hb dX7_isLane_13 (by decide) ?_
    exact x_zret C0 hO rfl ⟨rfl, hw⟩ dX7_isLane_14
  · replace hw := hw.2 c1
    refine lv_iload_n hx hb dX7_isLane_4 rfl (lv_at hl 0 rfl) ?_
    refine lv_iconst (v := 3) hx hb dX7_isLane_5 (by decide) ?_
    refine lv_icmp_ge (tgt := 13) hx hb dX7_isLane_6 (by decide) (fun c2 => ?_) (fun c2 => ?_)
    · replace hw := hw.1 c2
      refine lv_iconst (v := 0) hx hb dX7_isLane_13 (by decide) ?_
      exact x_zret C0 hO rfl ⟨rfl, hw⟩ dX7_isLane_14
    · replace hw := hw.2 c2
      refine lv_iconst (v := 1) hx hb dX7_isLane_9 (by decide) ?_
      refine lv_goto (tgt := 14) hx hb dX7_isLane_10 (by decide) ?_
      exact x_zret C0 hO rfl ⟨rfl, hw⟩ dX7_isLane_14
theorem iX7_fails_7 : ∀ w ∈ wsX70, w ∈ wsX7_fails := fun w h => List.mem_cons_of_mem _ (List.mem_append_right _ h)
theorem hdX7_fails : yX7_fails.cls = RX7 ∧ yX7_fails.cls ≠ "java/lang/invoke/MethodHandle" ∧ yX7_fails.cls ≠ "java/lang/invoke/VarHandle" ∧ (parseMethodDescriptor yX7_fails.desc).map (fun d => d.parameters.length) = some 1 := by decide +kernel
set_option maxHeartbeats 4000000 in
set_option maxRecDepth 100000 in
theorem kX7_fails (l : Launch) (g : XG) (sz : Nat) (a1 : Int32) (σ : XS) (post : Int32 → XS → Prop) (hw : PX7_fails a1 σ post) : xMi l yX7_fails wsX7_fails rmX7_fails 0 0 g sz [.ref (xa g 0), .int a1] σ post := by
  unfold PX7_fails at hw
  refine x_head (Qc := fun A => va_Qi post (xAt g A) A) (cc := cX7_fails) (maxL := 2) (ret := (some .int)) (by decide) rfl ?_
  intro p e s m below meth c A C0 hnm hO
  refine x_entry (Nat.le_of_ble_eq_true rfl) (fun ls hl => ?_)
  have hl : lv_has ls 2 [(0, .ref (xa g 0)), (1, .int a1)] := hl
  have hx := C0.1
  have hb := C0.2.1
  have hown := C0.2.2.2.2.2.1
  have hts := C0.2.2.2.2.2.2.1
  refine lv_aload_n hx hb dX7_fails_0 rfl (lv_at hl 0 rfl) ?_
  refine lv_iload_n hx hb dX7_fails_1 rfl (lv_at hl 1 rfl) ?_
  refine x_puti C0 hO 0 8 tyX7 tyX7_ok nmX7 rfl rfl (by decide) rfl iX7_fails_7 rfl rfl rfl (List.mem_of_getElem? (i := 1) rfl) dX7_fails_2 (fun σ1 H locs eσ1 hO => ?_)
  replace hw := hw σ1 eσ1
  refine lv_bipush (v := -10) hx hb dX7_fails_5 (by decide) ?_
  refine lv_iload_n hx hb dX7_fails_7 rfl (lv_at hl 1 rfl) ?_
  refine lv_isub hx hb dX7_fails_8 ?_
  exact x_iret C0 hO hw dX7_fails_9
theorem hdX7_goesOn : yX7_goesOn.cls = RX7 ∧ yX7_goesOn.cls ≠ "java/lang/invoke/MethodHandle" ∧ yX7_goesOn.cls ≠ "java/lang/invoke/VarHandle" ∧ (parseMethodDescriptor yX7_goesOn.desc).map (fun d => d.parameters.length) = some 2 := by decide +kernel
set_option maxHeartbeats 4000000 in
set_option maxRecDepth 100000 in
theorem kX7_goesOn (l : Launch) (g : XG) (sz : Nat) (a0 : Int32) (a1 : Int32) (σ : XS) (post : Int32 → Prop) (hw : PX7_goesOn a0 a1 σ post) : xMi l yX7_goesOn wsX7_goesOn rmX7_goesOn 0 0 g sz [.int a0, .int a1] σ (fun r u => σ = u ∧ post r) := by
  unfold PX7_goesOn at hw
  refine x_head (Qc := fun A => va_Qi (fun r u => σ = u ∧ post r) (xAt g A) A) (cc := cX7_goesOn) (maxL := 2) (ret := (some .boolean)) (by decide) rfl ?_
  intro p e s m below meth c A C0 hnm hO
  refine x_entry (Nat.le_of_ble_eq_true rfl) (fun ls hl => ?_)
  have hl : lv_has ls 2 [(0, .int a0), (1, .int a1)] := hl
  have hx := C0.1
  have hb := C0.2.1
  have hown := C0.2.2.2.2.2.1
  have hts := C0.2.2.2.2.2.2.1
  refine lv_iload_n hx hb dX7_goesOn_0 rfl (lv_at hl 0 rfl) ?_
  refine lv_if_ne (tgt := 16) hx hb dX7_goesOn_1 (by decide) (fun c1 => ?_) (fun c1 => ?_)
  · replace hw := hw.2 c1
    refine lv_iload_n hx hb dX7_goesOn_16 rfl (lv_at hl 0 rfl) ?_
    refine lv_iconst (v := 1) hx hb dX7_goesOn_17 (by decide) ?_
    refine lv_icmp_ne (tgt := 39) hx hb dX7_goesOn_18 (by decide) (fun c2 => ?_) (fun c2 => ?_)
    · replace hw := hw.2 c2
      refine lv_iload_n hx hb dX7_goesOn_39 rfl (lv_at hl 0 rfl) ?_
      refine lv_bipush (v := 17) hx hb dX7_goesOn_40 (by decide) ?_
      refine lv_icmp_lt (tgt := 47) hx hb dX7_goesOn_42 (by decide) (fun c3 => ?_) (fun c3 => ?_)
      · replace hw := hw.1 c3
        refine lv_iload_n hx hb dX7_goesOn_47 rfl (lv_at hl 0 rfl) ?_
        refine lv_iconst (v := 2) hx hb dX7_goesOn_48 (by decide) ?_
        refine lv_isub hx hb dX7_goesOn_49 ?_
        refine lv_iconst (v := 3) hx hb dX7_goesOn_50 (by decide) ?_
        refine lv_irem hx hb dX7_goesOn_51 hw.1 ?_
        replace hw := hw.2
        rcases Decidable.em (((a0 - (2 : Int32)) - (a0 - (2 : Int32)) / (3 : Int32) * (3 : Int32)) = (0 : Int32)) with c10 | c10
        · replace hw := hw.1 c10
          refine lv_lookup (off := 28) (tgt := 80) hx hb dX7_goesOn_52 (by decide) (by rw [c10]; rfl) (by decide) ?_
          refine lv_iload_n hx hb dX7_goesOn_80 rfl (lv_at hl 1 rfl) ?_
          refine lv_bipush (v := 59) hx hb dX7_goesOn_81 (by decide) ?_
          refine lv_icmp_ne (tgt := 90) hx hb dX7_goesOn_83 (by decide) (fun c4 => ?_) (fun c4 => ?_)
          · replace hw := hw.2 c4
            refine lv_iconst (v := 0) hx hb dX7_goesOn_90 (by decide) ?_
            exact x_zret C0 hO rfl ⟨rfl, hw⟩ dX7_goesOn_91
          · replace hw := hw.1 c4
            refine lv_iconst (v := 1) hx hb dX7_goesOn_86 (by decide) ?_
            refine lv_goto (tgt := 91) hx hb dX7_goesOn_87 (by decide) ?_
            exact x_zret C0 hO rfl ⟨rfl, hw⟩ dX7_goesOn_91
        · rcases Decidable.em (((a0 - (2 : Int32)) - (a0 - (2 : Int32)) / (3 : Int32) * (3 : Int32)) = (1 : Int32)) with c11 | c11
          · replace hw := hw.2.1 c11
            refine lv_lookup (off := 40) (tgt := 92) hx hb dX7_goesOn_52 (by decide) (by rw [c11]; rfl) (by decide) ?_
            refine lv_iload_n hx hb dX7_goesOn_92 rfl (lv_at hl 1 rfl) ?_
            refine lv_bipush (v := 115) hx hb dX7_goesOn_93 (by decide) ?_
            refine lv_icmp_eq (tgt := 110) hx hb dX7_goesOn_95 (by decide) (fun c5 => ?_) (fun c5 => ?_)
            · replace hw := hw.1 c5
              refine lv_iconst (v := 1) hx hb dX7_goesOn_110 (by decide) ?_
              refine lv_goto (tgt := 115) hx hb dX7_goesOn_111 (by decide) ?_
              exact x_zret C0 hO rfl ⟨rfl, hw⟩ dX7_goesOn_115
            · replace hw := hw.2 c5
              refine lv_iload_n hx hb dX7_goesOn_98 rfl (lv_at hl 1 rfl) ?_
              refine lv_bipush (v := 102) hx hb dX7_goesOn_99 (by decide) ?_
              refine lv_icmp_eq (tgt := 110) hx hb dX7_goesOn_101 (by decide) (fun c6 => ?_) (fun c6 => ?_)
              · replace hw := hw.1 c6
                refine lv_iconst (v := 1) hx hb dX7_goesOn_110 (by decide) ?_
                refine lv_goto (tgt := 115) hx hb dX7_goesOn_111 (by decide) ?_
                exact x_zret C0 hO rfl ⟨rfl, hw⟩ dX7_goesOn_115
              · replace hw := hw.2 c6
                refine lv_iload_n hx hb dX7_goesOn_104 rfl (lv_at hl 1 rfl) ?_
                refine lv_bipush (v := 98) hx hb dX7_goesOn_105 (by decide) ?_
                refine lv_icmp_ne (tgt := 114) hx hb dX7_goesOn_107 (by decide) (fun c7 => ?_) (fun c7 => ?_)
                · replace hw := hw.2 c7
                  refine lv_iconst (v := 0) hx hb dX7_goesOn_114 (by decide) ?_
                  exact x_zret C0 hO rfl ⟨rfl, hw⟩ dX7_goesOn_115
                · replace hw := hw.1 c7
                  refine lv_iconst (v := 1) hx hb dX7_goesOn_110 (by decide) ?_
                  refine lv_goto (tgt := 115) hx hb dX7_goesOn_111 (by decide) ?_
                  exact x_zret C0 hO rfl ⟨rfl, hw⟩ dX7_goesOn_115
          · replace hw := hw.2.2 c10 c11
            have nc10 := lv_neT (a := 0) c10 (by decide)
            have nc11 := lv_neT (a := 1) c11 (by decide)
            refine lv_lookup (off := 64) (tgt := 116) hx hb dX7_goesOn_52 (by decide) (by show Op.lookupswitch.offset [(0, 28), (1, 40)] _ _ = _; rw [lv_osw c10 (by decide)]; rw [lv_osw c11 (by decide)]; rfl) (by decide) ?_
            refine lv_iload_n hx hb dX7_goesOn_116 rfl (lv_at hl 1 rfl) ?_
            refine lv_bipush (v := 48) hx hb dX7_goesOn_117 (by decide) ?_
            refine lv_icmp_lt (tgt := 132) hx hb dX7_goesOn_119 (by decide) (fun c8 => ?_) (fun c8 => ?_)
            · replace hw := hw.1 c8
              refine lv_iconst (v := 0) hx hb dX7_goesOn_132 (by decide) ?_
              exact x_zret C0 hO rfl ⟨rfl, hw⟩ dX7_goesOn_133
            · replace hw := hw.2 c8
              refine lv_iload_n hx hb dX7_goesOn_122 rfl (lv_at hl 1 rfl) ?_
              refine lv_bipush (v := 51) hx hb dX7_goesOn_123 (by decide) ?_
              refine lv_icmp_gt (tgt := 132) hx hb dX7_goesOn_125 (by decide) (fun c9 => ?_) (fun c9 => ?_)
              · replace hw := hw.1 c9
                refine lv_iconst (v := 0) hx hb dX7_goesOn_132 (by decide) ?_
                exact x_zret C0 hO rfl ⟨rfl, hw⟩ dX7_goesOn_133
              · replace hw := hw.2 c9
                refine lv_iconst (v := 1) hx hb dX7_goesOn_128 (by decide) ?_
                refine lv_goto (tgt := 133) hx hb dX7_goesOn_129 (by decide) ?_
                exact x_zret C0 hO rfl ⟨rfl, hw⟩ dX7_goesOn_133
      · replace hw := hw.2 c3
        refine lv_iconst (v := 0) hx hb dX7_goesOn_45 (by decide) ?_
        exact x_zret C0 hO rfl ⟨rfl, hw⟩ dX7_goesOn_46
    · replace hw := hw.1 c2
      refine lv_iload_n hx hb dX7_goesOn_21 rfl (lv_at hl 1 rfl) ?_
      refine lv_bipush (v := 50) hx hb dX7_goesOn_22 (by decide) ?_
      refine lv_icmp_lt (tgt := 37) hx hb dX7_goesOn_24 (by decide) (fun c12 => ?_) (fun c12 => ?_)
      · replace hw := hw.1 c12
        refine lv_iconst (v := 0) hx hb dX7_goesOn_37 (by decide) ?_
        exact x_zret C0 hO rfl ⟨rfl, hw⟩ dX7_goesOn_38
      · replace hw := hw.2 c12
        refine lv_iload_n hx hb dX7_goesOn_27 rfl (lv_at hl 1 rfl) ?_
        refine lv_bipush (v := 54) hx hb dX7_goesOn_28 (by decide) ?_
        refine lv_icmp_gt (tgt := 37) hx hb dX7_goesOn_30 (by decide) (fun c13 => ?_) (fun c13 => ?_)
        · replace hw := hw.1 c13
          refine lv_iconst (v := 0) hx hb dX7_goesOn_37 (by decide) ?_
          exact x_zret C0 hO rfl ⟨rfl, hw⟩ dX7_goesOn_38
        · replace hw := hw.2 c13
          refine lv_iconst (v := 1) hx hb dX7_goesOn_33 (by decide) ?_
          refine lv_goto (tgt := 38) hx hb dX7_goesOn_34 (by decide) ?_
          exact x_zret C0 hO rfl ⟨rfl, hw⟩ dX7_goesOn_38
  · replace hw := hw.1 c1
    refine lv_iload_n hx hb dX7_goesOn_4 rfl (lv_at hl 1 rfl) ?_
    refine lv_bipush (v := 104) hx hb dX7_goesOn_5 (by decide) ?_
    refine lv_icmp_ne (tgt := 14) hx hb dX7_goesOn_7 (by decide) (fun c14 => ?_) (fun c14 => ?_)
    · replace hw := hw.2 c14
      refine lv_iconst (v := 0) hx hb dX7_goesOn_14 (by decide) ?_
      exact x_zret C0 hO rfl ⟨rfl, hw⟩ dX7_goesOn_15
    · replace hw := hw.1 c14
      refine lv_iconst (v := 1) hx hb dX7_goesOn_10 (by decide) ?_
      refine lv_goto (tgt := 15) hx hb dX7_goesOn_11 (by decide) ?_
      exact x_zret C0 hO rfl ⟨rfl, hw⟩ dX7_goesOn_15
theorem hdX7_firstFault : yX7_firstFault.cls = RX7 ∧ yX7_firstFault.cls ≠ "java/lang/invoke/MethodHandle" ∧ yX7_firstFault.cls ≠ "java/lang/invoke/VarHandle" ∧ (parseMethodDescriptor yX7_firstFault.desc).map (fun d => d.parameters.length) = some 3 := by decide +kernel
set_option maxHeartbeats 4000000 in
set_option maxRecDepth 100000 in
theorem lX7_firstFault_2 {p : Program} {l : Launch} {e : Env} {s : State} {m : MethodId} {args : Array Value} {below : List Frame} {meth : Method} {c : Code} {g : XG} {A : Nat → Prop} (C0 : xC g A wsX7_firstFault RX7 cX7_firstFault 4 (some .int) p s m args meth c) (σ : XS) (f0 : Nat) (f1 : Int32) (f2 : Int32) (hs0 : isSh f0) (post : Int32 → Prop) (kx : Int32 → Prop)
    (hkx : ∀ (m3 : Int32) (H : Heap) (locs : List Loc) (ls : Array Slot), kx m3 → xO g A s σ H locs → lv_has ls 4 [(0, .ref (xa g f0)), (1, .int f1), (2, .int f2), (3, .int m3)] → W p l e (headSpec wsX7_firstFault rmX7_firstFault).room s m args below meth c H locs 0 0 (MQ below (va_Qi (fun r u => σ = u ∧ post r) (xAt g A) A) args s 0 0 A) (F0 m 29 ls [])) :
    ∀ (n : Nat) (m3 : Int32) (H : Heap) (locs : List Loc) (ls : Array Slot), LX7_firstFault_2 σ f0 f1 f2 post kx n m3 → xO g A s σ H locs → lv_has ls 4 [(0, .ref (xa g f0)), (1, .int f1), (2, .int f2), (3, .int m3)] → W p l e (headSpec wsX7_firstFault rmX7_firstFault).room s m args below meth c H locs 0 0 (MQ below (va_Qi (fun r u => σ = u ∧ post r) (xAt g A) A) args s 0 0 A) (F0 m 2 ls []) := by
  have hx := C0.1
  have hb := C0.2.1
  have hown := C0.2.2.2.2.2.1
  have hts := C0.2.2.2.2.2.2.1
  intro n
  induction n with
  | zero =>
    intro m3 H locs ls hw
    exact hw.elim
  | succ n ih =>
    intro m3 H locs ls hw hO hl
    rw [LX7_firstFault_2] at hw
    refine lv_iload_n hx hb dX7_firstFault_2 rfl (lv_at hl 3 rfl) ?_
    refine lv_iload_n hx hb dX7_firstFault_3 rfl (lv_at hl 2 rfl) ?_
    refine lv_icmp_ge (tgt := 29) hx hb dX7_firstFault_4 (by decide) (fun c1 => ?_) (fun c1 => ?_)
    · replace hw := hw.1 c1
      exact hkx _ _ _ _ hw hO (lv_sub hl [0, 1, 2, 3] rfl)
    · replace hw := hw.2 c1
      refine lv_iload_n hx hb dX7_firstFault_7 rfl (lv_at hl 3 rfl) ?_
      refine lv_aload_n hx hb dX7_firstFault_8 rfl (lv_at hl 0 rfl) ?_
      refine lv_iload_n hx hb dX7_firstFault_9 rfl (lv_at hl 1 rfl) ?_
      refine lv_iload_n hx hb dX7_firstFault_10 rfl (lv_at hl 3 rfl) ?_
      refine lv_iadd hx hb dX7_firstFault_11 ?_
      refine x_calli C0 hO (x_runV (As := [.int (f1 + m3)]) (rest := [.int m3]) C0 hO (kX3_read l g _ f0 hs0 (f1 + m3) σ _ hw) 1 rfl (xRecv C0 hO (j := f0) hs0.1 rfl) gX7_firstFault_X3_read rfl rfl rfl hdX3_read ⟨Nat.le_of_ble_eq_true rfl, Nat.le_of_ble_eq_true rfl⟩ hl.1 rfl (Nat.le_of_ble_eq_true rfl) dX7_firstFault_12 ⟨Nat.le_of_ble_eq_true rfl, Nat.le_of_ble_eq_true rfl⟩) (fun r2 σ' H locs hw hO => ?_)
      obtain ⟨hσ, hw⟩ := hw
      subst hσ
      refine x_calli C0 hO (x_runS (As := [.int m3, .int r2]) (rest := []) C0 hO (kX7_goesOn l g _ m3 r2 σ _ hw) 2 rfl gX7_firstFault_X7_goesOn rfl rfl rfl hdX7_goesOn.2 ⟨Nat.le_of_ble_eq_true rfl, Nat.le_of_ble_eq_true rfl⟩ hl.1 rfl (Nat.le_of_ble_eq_true rfl) dX7_firstFault_15 ⟨Nat.le_of_ble_eq_true rfl, Nat.le_of_ble_eq_true rfl⟩) (fun r3 σ' H locs hw hO => ?_)
      obtain ⟨hσ, hw⟩ := hw
      subst hσ
      refine lv_if_ne (tgt := 23) hx hb dX7_firstFault_18 (by decide) (fun c4 => ?_) (fun c4 => ?_)
      · replace hw := hw.2 c4
        obtain ⟨x5, ex5⟩ : ∃ z : Int32, z = m3 + 1 := ⟨_, rfl⟩
        replace hw := hw x5 ex5
        refine lv_iinc (v := x5) (lv' := [(3, .int x5), (0, .ref (xa g f0)), (1, .int f1), (2, .int f2)]) hx hb dX7_firstFault_23 hl (k := 3) rfl (by rw [ex5]; rfl) (by decide) rfl (fun ls hl => ?_)
        refine lv_goto (tgt := 2) hx hb dX7_firstFault_26 (by decide) ?_
        exact ih _ _ _ _ hw hO (lv_sub hl [1, 2, 3, 0] rfl)
      · replace hw := hw.1 c4
        refine lv_iload_n hx hb dX7_firstFault_21 rfl (lv_at hl 3 rfl) ?_
        exact x_iret C0 hO ⟨rfl, hw⟩ dX7_firstFault_22
set_option maxHeartbeats 4000000 in
set_option maxRecDepth 100000 in
theorem kX7_firstFault (l : Launch) (g : XG) (sz : Nat) (q0 : Nat) (a1 : Int32) (a2 : Int32) (hq0 : isSh q0) (σ : XS) (post : Int32 → Prop) (hw : PX7_firstFault q0 a1 a2 σ post) : xMi l yX7_firstFault wsX7_firstFault rmX7_firstFault 0 0 g sz [.ref (xa g q0), .int a1, .int a2] σ (fun r u => σ = u ∧ post r) := by
  unfold PX7_firstFault at hw
  refine x_head (Qc := fun A => va_Qi (fun r u => σ = u ∧ post r) (xAt g A) A) (cc := cX7_firstFault) (maxL := 4) (ret := (some .int)) (by decide) rfl ?_
  intro p e s m below meth c A C0 hnm hO
  refine x_entry (Nat.le_of_ble_eq_true rfl) (fun ls hl => ?_)
  have hl : lv_has ls 4 [(0, .ref (xa g q0)), (1, .int a1), (2, .int a2)] := hl
  have hx := C0.1
  have hb := C0.2.1
  have hown := C0.2.2.2.2.2.1
  have hts := C0.2.2.2.2.2.2.1
  refine lv_iconst (v := 0) hx hb dX7_firstFault_0 (by decide) ?_
  refine lv_istore_n (lv' := [(3, .int (0 : Int32)), (0, .ref (xa g q0)), (1, .int a1), (2, .int a2)]) hx hb dX7_firstFault_1 rfl hl (by decide) rfl (fun ls hl => ?_)
  refine lX7_firstFault_2 C0 σ q0 a1 a2 hq0 post _ (fun x6 H locs ls hw hO hl => ?_) 1000 _ _ _ _ hw hO (lv_sub hl [1, 2, 3, 0] rfl)
  refine lv_iload_n hx hb dX7_firstFault_29 rfl (lv_at hl 2 rfl) ?_
  refine lv_iconst (v := 2) hx hb dX7_firstFault_30 (by decide) ?_
  refine lv_icmp_le (tgt := 46) hx hb dX7_firstFault_31 (by decide) (fun c7 => ?_) (fun c7 => ?_)
  · replace hw := hw.1 c7
    refine lv_iconst (v := 0) hx hb dX7_firstFault_46 (by decide) ?_
    refine lv_istore_n (lv' := [(3, .int (0 : Int32)), (0, .ref (xa g q0)), (1, .int a1), (2, .int a2)]) hx hb dX7_firstFault_47 rfl hl (by decide) rfl (fun ls hl => ?_)
    refine lv_iload_n hx hb dX7_firstFault_48 rfl (lv_at hl 0 rfl) ?_
    refine lv_if_eq (tgt := 57) hx hb dX7_firstFault_49 (by decide) (fun c8 => ?_) (fun c8 => ?_)
    · replace hw := hw.1 c8
      refine lv_iload_n hx hb dX7_firstFault_57 rfl (lv_at hl 3 rfl) ?_
      exact x_iret C0 hO ⟨rfl, hw⟩ dX7_firstFault_58
    · replace hw := hw.2 c8
      refine lv_bipush (v := -9) hx hb dX7_firstFault_52 (by decide) ?_
      refine lv_goto (tgt := 58) hx hb dX7_firstFault_54 (by decide) ?_
      exact x_iret C0 hO ⟨rfl, hw⟩ dX7_firstFault_58
  · replace hw := hw.2 c7
    refine lv_iload_n hx hb dX7_firstFault_34 rfl (lv_at hl 2 rfl) ?_
    refine lv_iconst (v := 2) hx hb dX7_firstFault_35 (by decide) ?_
    refine lv_isub hx hb dX7_firstFault_36 ?_
    refine lv_iconst (v := 3) hx hb dX7_firstFault_37 (by decide) ?_
    refine lv_irem hx hb dX7_firstFault_38 hw.1 ?_
    replace hw := hw.2
    refine lv_if_ne (tgt := 46) hx hb dX7_firstFault_39 (by decide) (fun c9 => ?_) (fun c9 => ?_)
    · replace hw := hw.2 c9
      refine lv_iconst (v := 0) hx hb dX7_firstFault_46 (by decide) ?_
      refine lv_istore_n (lv' := [(3, .int (0 : Int32)), (0, .ref (xa g q0)), (1, .int a1), (2, .int a2)]) hx hb dX7_firstFault_47 rfl hl (by decide) rfl (fun ls hl => ?_)
      refine lv_iload_n hx hb dX7_firstFault_48 rfl (lv_at hl 0 rfl) ?_
      refine lv_if_eq (tgt := 57) hx hb dX7_firstFault_49 (by decide) (fun c10 => ?_) (fun c10 => ?_)
      · replace hw := hw.1 c10
        refine lv_iload_n hx hb dX7_firstFault_57 rfl (lv_at hl 3 rfl) ?_
        exact x_iret C0 hO ⟨rfl, hw⟩ dX7_firstFault_58
      · replace hw := hw.2 c10
        refine lv_bipush (v := -9) hx hb dX7_firstFault_52 (by decide) ?_
        refine lv_goto (tgt := 58) hx hb dX7_firstFault_54 (by decide) ?_
        exact x_iret C0 hO ⟨rfl, hw⟩ dX7_firstFault_58
    · replace hw := hw.1 c9
      refine lv_iconst (v := 1) hx hb dX7_firstFault_42 (by decide) ?_
      refine lv_goto (tgt := 47) hx hb dX7_firstFault_43 (by decide) ?_
      refine lv_istore_n (lv' := [(3, .int (1 : Int32)), (0, .ref (xa g q0)), (1, .int a1), (2, .int a2)]) hx hb dX7_firstFault_47 rfl hl (by decide) rfl (fun ls hl => ?_)
      refine lv_iload_n hx hb dX7_firstFault_48 rfl (lv_at hl 0 rfl) ?_
      refine lv_if_eq (tgt := 57) hx hb dX7_firstFault_49 (by decide) (fun c11 => ?_) (fun c11 => ?_)
      · replace hw := hw.1 c11
        refine lv_iload_n hx hb dX7_firstFault_57 rfl (lv_at hl 3 rfl) ?_
        exact x_iret C0 hO ⟨rfl, hw⟩ dX7_firstFault_58
      · replace hw := hw.2 c11
        refine lv_bipush (v := -9) hx hb dX7_firstFault_52 (by decide) ?_
        refine lv_goto (tgt := 58) hx hb dX7_firstFault_54 (by decide) ?_
        exact x_iret C0 hO ⟨rfl, hw⟩ dX7_firstFault_58
theorem iX7_personBy_0 : ∀ w ∈ wsX00, w ∈ wsX7_personBy := fun w h => List.mem_cons_of_mem _ (List.mem_append_left _ (List.mem_append_left _ (List.mem_append_right _ h)))
theorem iX7_personBy_2 : ∀ w ∈ wsX20, w ∈ wsX7_personBy := fun w h => List.mem_cons_of_mem _ (List.mem_append_left _ (List.mem_append_right _ h))
theorem iX7_personBy_4 : ∀ w ∈ wsX40, w ∈ wsX7_personBy := fun w h => List.mem_cons_of_mem _ (List.mem_append_right _ h)
theorem hdX7_personBy : yX7_personBy.cls = RX7 ∧ yX7_personBy.cls ≠ "java/lang/invoke/MethodHandle" ∧ yX7_personBy.cls ≠ "java/lang/invoke/VarHandle" ∧ (parseMethodDescriptor yX7_personBy.desc).map (fun d => d.parameters.length) = some 2 := by decide +kernel
set_option maxHeartbeats 4000000 in
set_option maxRecDepth 100000 in
theorem kX7_personBy (l : Launch) (g : XG) (sz : Nat) (a0 : Int32) (a1 : Int32) (σ : XS) (post : Option Nat → XS → Prop) (hw : PX7_personBy a0 a1 σ post) : xMq l yX7_personBy wsX7_personBy rmX7_personBy 1 1 g sz [.int a0, .int a1] σ post := by
  unfold PX7_personBy at hw
  refine x_head (Qc := fun A => va_Qq post (xAt g A) A) (cc := cX7_personBy) (maxL := 2) (ret := (some (.object "GumHall$Sitter"))) (by decide) rfl ?_
  intro p e s m below meth c A C0 hnm hO
  refine x_entry (Nat.le_of_ble_eq_true rfl) (fun ls hl => ?_)
  have hl : lv_has ls 2 [(0, .int a0), (1, .int a1)] := hl
  have hx := C0.1
  have hb := C0.2.1
  have hown := C0.2.2.2.2.2.1
  have hts := C0.2.2.2.2.2.2.1
  refine lv_iload_n hx hb dX7_personBy_0 rfl (lv_at hl 0 rfl) ?_
  rcases Decidable.em (a0 = (98 : Int32)) with c10 | c10
  · replace hw := hw.1 c10
    refine lv_lookup (off := 27) (tgt := 28) hx hb dX7_personBy_1 (by decide) (by rw [c10]; rfl) (by decide) ?_
    refine x_newP C0 hO (ci := 0) rfl tyX0 tyX0_ok rfl iX7_personBy_0 (List.mem_of_getElem? (i := 1) rfl) (List.mem_of_getElem? (i := 2) rfl) (List.mem_of_getElem? (i := 3) rfl) (Nat.le_of_ble_eq_true rfl) (Nat.le_of_ble_eq_true rfl) dX7_personBy_28 (fun b1 σ2 H hnb1 eσ2 hO => ?_)
    replace hw := hw b1 σ2 hnb1 eσ2
    refine lv_dup hx hb dX7_personBy_31 rfl ?_
    refine lv_iload_n hx hb dX7_personBy_32 rfl (lv_at hl 1 rfl) ?_
    refine x_callv C0 hO (x_runI (As := [.int a1]) (rest := [.ref b1]) C0 hO (kX0_init l g _ b1 a1 σ2 _ hw) 1 rfl gX7_personBy_X0_init rfl rfl rfl (List.mem_of_getElem? (i := 3) rfl) (List.mem_of_getElem? (i := 10) rfl) (List.mem_of_getElem? (i := 11) rfl) rfl hdX0_init.2 ⟨Nat.le_of_ble_eq_true rfl, Nat.le_of_ble_eq_true rfl⟩ hl.1 rfl (Nat.le_of_ble_eq_true rfl) dX7_personBy_33 ⟨Nat.le_of_ble_eq_true rfl, Nat.le_of_ble_eq_true rfl⟩) (fun σ3 H locs hw hO => ?_)
    exact x_aret (v := (some b1)) C0 hO hw dX7_personBy_36
  · rcases Decidable.em (a0 = (102 : Int32)) with c11 | c11
    · replace hw := hw.2.1 c11
      refine lv_lookup (off := 36) (tgt := 37) hx hb dX7_personBy_1 (by decide) (by rw [c11]; rfl) (by decide) ?_
      refine x_newP C0 hO (ci := 2) rfl tyX2 tyX2_ok rfl iX7_personBy_2 (List.mem_of_getElem? (i := 4) rfl) (List.mem_of_getElem? (i := 5) rfl) (List.mem_of_getElem? (i := 6) rfl) (Nat.le_of_ble_eq_true rfl) (Nat.le_of_ble_eq_true rfl) dX7_personBy_37 (fun b4 σ5 H hnb4 eσ5 hO => ?_)
      replace hw := hw b4 σ5 hnb4 eσ5
      refine lv_dup hx hb dX7_personBy_40 rfl ?_
      refine lv_iload_n hx hb dX7_personBy_41 rfl (lv_at hl 1 rfl) ?_
      refine x_callv C0 hO (x_runI (As := [.int a1]) (rest := [.ref b4]) C0 hO (kX2_init l g _ b4 a1 σ5 _ hw) 1 rfl gX7_personBy_X2_init rfl rfl rfl (List.mem_of_getElem? (i := 6) rfl) (List.mem_of_getElem? (i := 23) rfl) (List.mem_of_getElem? (i := 14) rfl) rfl hdX2_init.2 ⟨Nat.le_of_ble_eq_true rfl, Nat.le_of_ble_eq_true rfl⟩ hl.1 rfl (Nat.le_of_ble_eq_true rfl) dX7_personBy_42 ⟨Nat.le_of_ble_eq_true rfl, Nat.le_of_ble_eq_true rfl⟩) (fun σ6 H locs hw hO => ?_)
      exact x_aret (v := (some b4)) C0 hO hw dX7_personBy_45
    · replace hw := hw.2.2 c10 c11
      have nc10 := lv_neT (a := 98) c10 (by decide)
      have nc11 := lv_neT (a := 102) c11 (by decide)
      refine lv_lookup (off := 45) (tgt := 46) hx hb dX7_personBy_1 (by decide) (by show Op.lookupswitch.offset [(98, 27), (102, 36)] _ _ = _; rw [lv_osw c10 (by decide)]; rw [lv_osw c11 (by decide)]; rfl) (by decide) ?_
      refine x_newP C0 hO (ci := 4) rfl tyX4 tyX4_ok rfl iX7_personBy_4 (List.mem_of_getElem? (i := 7) rfl) (List.mem_of_getElem? (i := 8) rfl) (List.mem_of_getElem? (i := 9) rfl) (Nat.le_of_ble_eq_true rfl) (Nat.le_of_ble_eq_true rfl) dX7_personBy_46 (fun b7 σ8 H hnb7 eσ8 hO => ?_)
      replace hw := hw b7 σ8 hnb7 eσ8
      refine lv_dup hx hb dX7_personBy_49 rfl ?_
      refine lv_iload_n hx hb dX7_personBy_50 rfl (lv_at hl 1 rfl) ?_
      refine x_callv C0 hO (x_runI (As := [.int a1]) (rest := [.ref b7]) C0 hO (kX4_init l g _ b7 a1 σ8 _ hw) 1 rfl gX7_personBy_X4_init rfl rfl rfl (List.mem_of_getElem? (i := 9) rfl) (List.mem_of_getElem? (i := 24) rfl) (List.mem_of_getElem? (i := 17) rfl) rfl hdX4_init.2 ⟨Nat.le_of_ble_eq_true rfl, Nat.le_of_ble_eq_true rfl⟩ hl.1 rfl (Nat.le_of_ble_eq_true rfl) dX7_personBy_51 ⟨Nat.le_of_ble_eq_true rfl, Nat.le_of_ble_eq_true rfl⟩) (fun σ9 H locs hw hO => ?_)
      exact x_aret (v := (some b7)) C0 hO hw dX7_personBy_54
theorem iX7_open_7 : ∀ w ∈ wsX70, w ∈ wsX7_open := fun w h => List.mem_cons_of_mem _ (List.mem_append_left _ (List.mem_append_left _ (List.mem_append_left _ (List.mem_append_left _ (List.mem_append_left _ (List.mem_append_right _ h))))))
theorem hdX7_open : yX7_open.cls = RX7 ∧ yX7_open.cls ≠ "java/lang/invoke/MethodHandle" ∧ yX7_open.cls ≠ "java/lang/invoke/VarHandle" ∧ (parseMethodDescriptor yX7_open.desc).map (fun d => d.parameters.length) = some 3 := by decide +kernel
set_option maxHeartbeats 4000000 in
set_option maxRecDepth 100000 in
theorem lX7_open_34 {p : Program} {l : Launch} {e : Env} {s : State} {m : MethodId} {args : Array Value} {below : List Frame} {meth : Method} {c : Code} {g : XG} {A : Nat → Prop} (C0 : xC g A wsX7_open RX7 cX7_open 7 none p s m args meth c) (f1 : Nat) (f2 : Int32) (f3 : Int32) (hs1 : isSh f1) (post : XS → Prop) (kx : Int32 → XS → Prop)
    (hkx : ∀ (m4 : Int32) (σ : XS) (H : Heap) (locs : List Loc) (ls : Array Slot), kx m4 σ → xO g A s σ H locs → lv_has ls 7 [(0, .ref (xa g 0)), (1, .ref (xa g f1)), (2, .int f2), (3, .int f3), (4, .int m4)] → ∀ cs : Nat, cs ≤ 1000 → W p l e (headSpec wsX7_open rmX7_open).room s m args below meth c H locs cs cs (MQ below (va_Qv post (xAt g A) A) args s 1000 1000 A) (F0 m 107 ls [])) :
    ∀ (n : Nat) (m4 : Int32) (σ : XS) (H : Heap) (locs : List Loc) (ls : Array Slot), LX7_open_34 f1 f2 f3 post kx n m4 σ → xO g A s σ H locs → lv_has ls 7 [(0, .ref (xa g 0)), (1, .ref (xa g f1)), (2, .int f2), (3, .int f3), (4, .int m4)] → ∀ cs : Nat, cs + n ≤ 1000 → W p l e (headSpec wsX7_open rmX7_open).room s m args below meth c H locs cs cs (MQ below (va_Qv post (xAt g A) A) args s 1000 1000 A) (F0 m 34 ls []) := by
  have hx := C0.1
  have hb := C0.2.1
  have hown := C0.2.2.2.2.2.1
  have hts := C0.2.2.2.2.2.2.1
  intro n
  induction n with
  | zero =>
    intro m4 σ H locs ls hw
    exact hw.elim
  | succ n ih =>
    intro m4 σ H locs ls hw hO hl cs hcs
    rw [LX7_open_34] at hw
    refine lv_iload hx hb dX7_open_34 (lv_at hl 4 rfl) ?_
    refine lv_iload_n hx hb dX7_open_36 rfl (lv_at hl 3 rfl) ?_
    refine lv_icmp_ge (tgt := 107) hx hb dX7_open_37 (by decide) (fun c5 => ?_) (fun c5 => ?_)
    · replace hw := hw.1 c5
      exact hkx _ _ _ _ _ hw hO (lv_sub hl [0, 1, 2, 3, 4] rfl) _ (by omega)
    · replace hw := hw.2 c5
      refine lv_aload_n hx hb dX7_open_40 rfl (lv_at hl 0 rfl) ?_
      refine x_geti C0 hO 0 6 rfl rfl (by decide) rfl iX7_open_7 rfl (List.mem_of_getElem? (i := 7) rfl) dX7_open_41 ?_
      refine lv_iconst (v := 5) hx hb dX7_open_44 (by decide) ?_
      refine lv_icmp_ge (tgt := 107) hx hb dX7_open_45 (by decide) (fun c6 => ?_) (fun c6 => ?_)
      · replace hw := hw.1 c6
        exact hkx _ _ _ _ _ hw hO (lv_sub hl [0, 1, 2, 3, 4] rfl) _ (by omega)
      · replace hw := hw.2 c6
        refine lv_aload_n hx hb dX7_open_48 rfl (lv_at hl 1 rfl) ?_
        refine lv_iload_n hx hb dX7_open_49 rfl (lv_at hl 2 rfl) ?_
        refine lv_iload hx hb dX7_open_50 (lv_at hl 4 rfl) ?_
        refine lv_iadd hx hb dX7_open_52 ?_
        refine lv_iconst (v := 1) hx hb dX7_open_53 (by decide) ?_
        refine lv_iadd hx hb dX7_open_54 ?_
        refine x_calli C0 hO (x_runV (As := [.int ((f2 + m4) + (1 : Int32))]) (rest := []) C0 hO (kX3_read l g _ f1 hs1 ((f2 + m4) + (1 : Int32)) σ _ hw) 1 rfl (xRecv C0 hO (j := f1) hs1.1 rfl) gX7_open_X3_read rfl rfl rfl hdX3_read ⟨Nat.le_of_ble_eq_true rfl, Nat.le_of_ble_eq_true rfl⟩ hl.1 rfl (Nat.le_of_ble_eq_true rfl) dX7_open_55 ⟨(show _ ≤ 1000 by omega), (show _ ≤ 1000 by omega)⟩) (fun r7 σ' H locs hw hO => ?_)
        obtain ⟨hσ, hw⟩ := hw
        subst hσ
        refine lv_istore (lv' := [(5, .int r7), (0, .ref (xa g 0)), (1, .ref (xa g f1)), (2, .int f2), (3, .int f3), (4, .int m4)]) hx hb dX7_open_58 hl (by decide) rfl (fun ls hl => ?_)
        refine lv_aload_n hx hb dX7_open_60 rfl (lv_at hl 2 rfl) ?_
        refine lv_iload_n hx hb dX7_open_61 rfl (lv_at hl 3 rfl) ?_
        refine lv_iload hx hb dX7_open_62 (lv_at hl 5 rfl) ?_
        refine lv_iadd hx hb dX7_open_64 ?_
        refine lv_iconst (v := 2) hx hb dX7_open_65 (by decide) ?_
        refine lv_iadd hx hb dX7_open_66 ?_
        refine x_calli C0 hO (x_runV (As := [.int ((f2 + m4) + (2 : Int32))]) (rest := []) C0 hO (kX3_read l g _ f1 hs1 ((f2 + m4) + (2 : Int32)) σ _ hw) 1 rfl (xRecv C0 hO (j := f1) hs1.1 rfl) gX7_open_X3_read rfl rfl rfl hdX3_read ⟨Nat.le_of_ble_eq_true rfl, Nat.le_of_ble_eq_true rfl⟩ hl.1 rfl (Nat.le_of_ble_eq_true rfl) dX7_open_67 ⟨(show _ ≤ 1000 by omega), (show _ ≤ 1000 by omega)⟩) (fun r8 σ' H locs hw hO => ?_)
        obtain ⟨hσ, hw⟩ := hw
        subst hσ
        refine lv_bipush (v := 48) hx hb dX7_open_70 (by decide) ?_
        refine lv_isub hx hb dX7_open_72 ?_
        refine lv_topi (fun x9 ex9 => ?_)
        replace hw := hw x9 ex9
        refine lv_istore (lv' := [(6, .int x9), (5, .int r7), (0, .ref (xa g 0)), (1, .ref (xa g f1)), (2, .int f2), (3, .int f3), (4, .int m4)]) hx hb dX7_open_73 hl (by decide) rfl (fun ls hl => ?_)
        refine lv_aload_n hx hb dX7_open_75 rfl (lv_at hl 2 rfl) ?_
        refine x_getr C0 hO 0 1 2 rfl rfl (by decide) rfl iX7_open_7 rfl (List.mem_of_getElem? (i := 8) rfl) dX7_open_76 ?_
        refine lv_aload_n hx hb dX7_open_79 rfl (lv_at hl 2 rfl) ?_
        refine x_geti C0 hO 0 6 rfl rfl (by decide) rfl iX7_open_7 rfl (List.mem_of_getElem? (i := 7) rfl) dX7_open_80 ?_
        refine lv_iload hx hb dX7_open_83 (lv_at hl 1 rfl) ?_
        refine lv_iload hx hb dX7_open_85 (lv_at hl 0 rfl) ?_
        refine x_callq C0 hO (x_runS (As := [.int r7, .int x9]) (rest := [.int (gI σ 0 6), .ref (xa g 2)]) C0 hO (kX7_personBy l g _ r7 x9 σ _ hw) 2 rfl gX7_open_X7_personBy rfl rfl rfl hdX7_personBy.2 ⟨Nat.le_of_ble_eq_true rfl, Nat.le_of_ble_eq_true rfl⟩ hl.1 rfl (Nat.le_of_ble_eq_true rfl) dX7_open_87 ⟨(show _ ≤ 1000 by omega), (show _ ≤ 1000 by omega)⟩) (fun r10 σ11 H locs hw hO => ?_)
        obtain ⟨w12, hr, hw⟩ := hw
        subst hr
        refine W.eq (g2 := F0 m 90 ls [.ref w12, .int (gI σ 0 6), .ref (xa g 2)]) rfl ?_
        refine x_astP C0 hO hw.1 hw.2.1 dX7_open_90 (fun σ13 H locs eσ13 hO => ?_)
        replace hw := hw.2.2 σ13 eσ13
        refine lv_aload_n hx hb dX7_open_91 rfl (lv_at hl 2 rfl) ?_
        refine lv_dup hx hb dX7_open_92 rfl ?_
        refine x_geti C0 hO 0 6 rfl rfl (by decide) rfl iX7_open_7 rfl (List.mem_of_getElem? (i := 7) rfl) dX7_open_93 ?_
        refine lv_iconst (v := 1) hx hb dX7_open_96 (by decide) ?_
        refine lv_iadd hx hb dX7_open_97 ?_
        refine x_puti C0 hO 0 6 tyX7 tyX7_ok nmX7 rfl rfl (by decide) rfl iX7_open_7 rfl rfl rfl (List.mem_of_getElem? (i := 7) rfl) dX7_open_98 (fun σ14 H locs eσ14 hO => ?_)
        replace hw := hw σ14 eσ14
        obtain ⟨x15, ex15⟩ : ∃ z : Int32, z = m4 + 3 := ⟨_, rfl⟩
        replace hw := hw x15 ex15
        refine lv_iinc (v := x15) (lv' := [(4, .int x15), (6, .int x9), (5, .int r7), (0, .ref (xa g 0)), (1, .ref (xa g f1)), (2, .int f2), (3, .int f3)]) hx hb dX7_open_101 hl (k := 6) rfl (by rw [ex15]; rfl) (by decide) rfl (fun ls hl => ?_)
        refine lv_goto (tgt := 34) hx hb dX7_open_104 (by decide) ?_
        exact ih _ _ _ _ _ hw hO (lv_sub hl [3, 4, 5, 6, 0] rfl) _ (by omega)
set_option maxHeartbeats 4000000 in
set_option maxRecDepth 100000 in
theorem kX7_open (l : Launch) (g : XG) (sz : Nat) (q1 : Nat) (a2 : Int32) (a3 : Int32) (hq1 : isSh q1) (σ : XS) (post : XS → Prop) (hw : PX7_open q1 a2 a3 σ post) : xMv l yX7_open wsX7_open rmX7_open 1000 1000 g sz [.ref (xa g 0), .ref (xa g q1), .int a2, .int a3] σ post := by
  unfold PX7_open at hw
  refine x_head (Qc := fun A => va_Qv post (xAt g A) A) (cc := cX7_open) (maxL := 7) (ret := none) (by decide) rfl ?_
  intro p e s m below meth c A C0 hnm hO
  refine x_entry (Nat.le_of_ble_eq_true rfl) (fun ls hl => ?_)
  have hl : lv_has ls 7 [(0, .ref (xa g 0)), (1, .ref (xa g q1)), (2, .int a2), (3, .int a3)] := hl
  have hx := C0.1
  have hb := C0.2.1
  have hown := C0.2.2.2.2.2.1
  have hts := C0.2.2.2.2.2.2.1
  refine lv_aload_n hx hb dX7_open_0 rfl (lv_at hl 0 rfl) ?_
  refine x_getr C0 hO 0 3 4 rfl rfl (by decide) rfl iX7_open_7 rfl (List.mem_of_getElem? (i := 1) rfl) dX7_open_1 ?_
  refine x_callv C0 hO (x_runV (As := []) (rest := []) C0 hO (kX5_clear l g _  σ _ hw) 0 rfl (xRecv C0 hO (j := 4) rfl rfl) gX7_open_X5_clear rfl rfl rfl hdX5_clear ⟨Nat.le_of_ble_eq_true rfl, Nat.le_of_ble_eq_true rfl⟩ hl.1 rfl (Nat.le_of_ble_eq_true rfl) dX7_open_4 ⟨(show _ ≤ 1000 by omega), (show _ ≤ 1000 by omega)⟩) (fun σ1 H locs hw hO => ?_)
  refine lv_aload_n hx hb dX7_open_7 rfl (lv_at hl 0 rfl) ?_
  refine lv_aload_n hx hb dX7_open_8 rfl (lv_at hl 1 rfl) ?_
  refine lv_iload_n hx hb dX7_open_9 rfl (lv_at hl 2 rfl) ?_
  refine lv_iconst (v := 1) hx hb dX7_open_10 (by decide) ?_
  refine lv_iadd hx hb dX7_open_11 ?_
  refine x_calli C0 hO (x_runV (As := [.int (a2 + (1 : Int32))]) (rest := [.ref (xa g 0)]) C0 hO (kX3_read l g _ q1 hq1 (a2 + (1 : Int32)) σ1 _ hw) 1 rfl (xRecv C0 hO (j := q1) hq1.1 rfl) gX7_open_X3_read rfl rfl rfl hdX3_read ⟨Nat.le_of_ble_eq_true rfl, Nat.le_of_ble_eq_true rfl⟩ hl.1 rfl (Nat.le_of_ble_eq_true rfl) dX7_open_12 ⟨(show _ ≤ 1000 by omega), (show _ ≤ 1000 by omega)⟩) (fun r2 σ' H locs hw hO => ?_)
  obtain ⟨hσ, hw⟩ := hw
  subst hσ
  refine lv_bipush (v := 48) hx hb dX7_open_15 (by decide) ?_
  refine lv_isub hx hb dX7_open_17 ?_
  refine lv_bipush (v := 6) hx hb dX7_open_18 (by decide) ?_
  refine va_mmin hx hb (by rw [C0.2.2.2.2.1]; exact hl.1.symm) hown (hts _ (List.mem_of_getElem? (i := 2) rfl)) (hts _ (List.mem_of_getElem? (i := 3) rfl)) (hts _ (List.mem_of_getElem? (i := 4) rfl)) (hts _ (List.mem_of_getElem? (i := 5) rfl)) (Nat.le_of_ble_eq_true rfl) (Nat.le_of_ble_eq_true rfl) (Nat.le_of_ble_eq_true rfl) (Nat.le_of_ble_eq_true rfl) dX7_open_20 ?_
  refine x_puti C0 hO 0 7 tyX7 tyX7_ok nmX7 rfl rfl (by decide) rfl iX7_open_7 rfl rfl rfl (List.mem_of_getElem? (i := 6) rfl) dX7_open_23 (fun σ3 H locs eσ3 hO => ?_)
  replace hw := hw σ3 eσ3
  refine lv_aload_n hx hb dX7_open_26 rfl (lv_at hl 0 rfl) ?_
  refine lv_iconst (v := 0) hx hb dX7_open_27 (by decide) ?_
  refine x_puti C0 hO 0 6 tyX7 tyX7_ok nmX7 rfl rfl (by decide) rfl iX7_open_7 rfl rfl rfl (List.mem_of_getElem? (i := 7) rfl) dX7_open_28 (fun σ4 H locs eσ4 hO => ?_)
  replace hw := hw σ4 eσ4
  refine lv_iconst (v := 2) hx hb dX7_open_31 (by decide) ?_
  refine lv_istore (lv' := [(4, .int (2 : Int32)), (0, .ref (xa g 0)), (1, .ref (xa g q1)), (2, .int a2), (3, .int a3)]) hx hb dX7_open_32 hl (by decide) rfl (fun ls hl => ?_)
  refine lX7_open_34 C0 q1 a2 a3 hq1 post _ (fun x16 σ17 H locs ls hw hO hl cs hcs => ?_) 1000 _ _ _ _ _ hw hO (lv_sub hl [1, 2, 3, 4, 0] rfl) _ (by omega)
  refine W.widen (k := 1000) (n := 1000) (by omega) (by omega) ?_
  exact x_vret C0 hO hw dX7_open_107
theorem iX7_hall_7 : ∀ w ∈ wsX70, w ∈ wsX7_hall := fun w h => List.mem_cons_of_mem _ (List.mem_append_left _ (List.mem_append_left _ (List.mem_append_left _ (List.mem_append_left _ (List.mem_append_left _ (List.mem_append_right _ h))))))
theorem hdX7_hall : yX7_hall.cls = RX7 ∧ yX7_hall.cls ≠ "java/lang/invoke/MethodHandle" ∧ yX7_hall.cls ≠ "java/lang/invoke/VarHandle" ∧ (parseMethodDescriptor yX7_hall.desc).map (fun d => d.parameters.length) = some 4 := by decide +kernel
set_option maxHeartbeats 4000000 in
set_option maxRecDepth 100000 in
theorem kX7_hall (l : Launch) (g : XG) (sz : Nat) (a1 : Int32) (a2 : Int32) (a3 : Int32) (a4 : Int32) (σ : XS) (post : Int32 → XS → Prop) (hw : PX7_hall a1 a2 a3 a4 σ post) : xMi l yX7_hall wsX7_hall rmX7_hall 1000 1000 g sz [.ref (xa g 0), .int a1, .int a2, .int a3, .int a4] σ post := by
  unfold PX7_hall at hw
  refine x_head (Qc := fun A => va_Qi post (xAt g A) A) (cc := cX7_hall) (maxL := 7) (ret := (some .int)) (by decide) rfl ?_
  intro p e s m below meth c A C0 hnm hO
  refine x_entry (Nat.le_of_ble_eq_true rfl) (fun ls hl => ?_)
  have hl : lv_has ls 7 [(0, .ref (xa g 0)), (1, .int a1), (2, .int a2), (3, .int a3), (4, .int a4)] := hl
  have hx := C0.1
  have hb := C0.2.1
  have hown := C0.2.2.2.2.2.1
  have hts := C0.2.2.2.2.2.2.1
  refine lv_aload_n hx hb dX7_hall_0 rfl (lv_at hl 0 rfl) ?_
  refine lv_iconst (v := 0) hx hb dX7_hall_1 (by decide) ?_
  refine x_puti C0 hO 0 8 tyX7 tyX7_ok nmX7 rfl rfl (by decide) rfl iX7_hall_7 rfl rfl rfl (List.mem_of_getElem? (i := 1) rfl) dX7_hall_2 (fun σ1 H locs eσ1 hO => ?_)
  replace hw := hw σ1 eσ1
  refine lv_aload_n hx hb dX7_hall_5 rfl (lv_at hl 0 rfl) ?_
  refine lv_iload_n hx hb dX7_hall_6 rfl (lv_at hl 1 rfl) ?_
  refine x_callq C0 hO (x_runV (As := [.int a1]) (rest := []) C0 hO (kX7_sheetOf l g _ a1 σ1 _ hw) 1 rfl (xRecv C0 hO (j := 0) rfl rfl) gX7_hall_X7_sheetOf rfl rfl rfl hdX7_sheetOf ⟨Nat.le_of_ble_eq_true rfl, Nat.le_of_ble_eq_true rfl⟩ hl.1 rfl (Nat.le_of_ble_eq_true rfl) dX7_hall_7 ⟨Nat.le_of_ble_eq_true rfl, Nat.le_of_ble_eq_true rfl⟩) (fun r2 σ' H locs hw hO => ?_)
  obtain ⟨hσ, hw⟩ := hw
  subst hσ
  obtain ⟨o, hr, hw⟩ := hw
  subst hr
  rcases o with _ | u3
  · replace hw := hw.1 rfl
    refine W.eq (g2 := F0 m 10 ls [.null]) rfl ?_
    refine lv_astoreN (lv' := [(5, .null), (0, .ref (xa g 0)), (1, .int a1), (2, .int a2), (3, .int a3), (4, .int a4)]) hx hb dX7_hall_10 hl (by decide) rfl (fun ls hl => ?_)
    refine lv_aloadN hx hb dX7_hall_12 (lv_at hl 0 rfl) ?_
    refine lv_ifnonnullN hx hb dX7_hall_14 ?_
    refine lv_iconst (v := -1) hx hb dX7_hall_17 (by decide) ?_
    refine W.widen (k := 1000) (n := 1000) (by omega) (by omega) ?_
    exact x_iret C0 hO hw dX7_hall_18
  · have hs_u3 := (hw.2 u3 rfl).1
    replace hw := (hw.2 u3 rfl).2
    refine W.eq (g2 := F0 m 10 ls [.ref (xa g u3)]) rfl ?_
    refine lv_astore (lv' := [(5, .ref (xa g u3)), (0, .ref (xa g 0)), (1, .int a1), (2, .int a2), (3, .int a3), (4, .int a4)]) hx hb dX7_hall_10 hl (by decide) rfl (fun ls hl => ?_)
    refine lv_aload hx hb dX7_hall_12 (lv_at hl 0 rfl) ?_
    refine lv_ifnonnull (tgt := 19) hx hb dX7_hall_14 (by decide) ?_
    refine lv_iload_n hx hb dX7_hall_19 rfl (lv_at hl 3 rfl) ?_
    refine x_calli C0 hO (x_runS (As := [.int a2]) (rest := []) C0 hO (kX7_isLane l g _ a2 σ1 _ hw) 1 rfl gX7_hall_X7_isLane rfl rfl rfl hdX7_isLane.2 ⟨Nat.le_of_ble_eq_true rfl, Nat.le_of_ble_eq_true rfl⟩ hl.1 rfl (Nat.le_of_ble_eq_true rfl) dX7_hall_20 ⟨Nat.le_of_ble_eq_true rfl, Nat.le_of_ble_eq_true rfl⟩) (fun r4 σ' H locs hw hO => ?_)
    obtain ⟨hσ, hw⟩ := hw
    subst hσ
    refine lv_if_ne (tgt := 29) hx hb dX7_hall_23 (by decide) (fun c5 => ?_) (fun c5 => ?_)
    · replace hw := hw.2 c5
      refine lv_aload hx hb dX7_hall_29 (lv_at hl 0 rfl) ?_
      refine lv_iload_n hx hb dX7_hall_31 rfl (lv_at hl 3 rfl) ?_
      refine x_calli C0 hO (x_runV (As := [.int a2]) (rest := []) C0 hO (kX3_faultAs l g _ u3 hs_u3 a2 σ1 _ hw) 1 rfl (xRecv C0 hO (j := u3) hs_u3.1 rfl) gX7_hall_X3_faultAs rfl rfl rfl hdX3_faultAs ⟨Nat.le_of_ble_eq_true rfl, Nat.le_of_ble_eq_true rfl⟩ hl.1 rfl (Nat.le_of_ble_eq_true rfl) dX7_hall_32 ⟨Nat.le_of_ble_eq_true rfl, Nat.le_of_ble_eq_true rfl⟩) (fun r6 σ' H locs hw hO => ?_)
      obtain ⟨hσ, hw⟩ := hw
      subst hσ
      refine lv_if_eq (tgt := 49) hx hb dX7_hall_35 (by decide) (fun c7 => ?_) (fun c7 => ?_)
      · replace hw := hw.1 c7
        refine lv_iload hx hb dX7_hall_49 (lv_at hl 5 rfl) ?_
        refine lv_if_ge (tgt := 60) hx hb dX7_hall_51 (by decide) (fun c8 => ?_) (fun c8 => ?_)
        · replace hw := hw.1 c8
          refine lv_aload hx hb dX7_hall_60 (lv_at hl 0 rfl) ?_
          refine lv_iload_n hx hb dX7_hall_62 rfl (lv_at hl 4 rfl) ?_
          refine lv_iload hx hb dX7_hall_63 (lv_at hl 5 rfl) ?_
          refine x_calli C0 hO (x_runV (As := [.int a3, .int a4]) (rest := []) C0 hO (kX3_reaches l g _ u3 hs_u3 a3 a4 σ1 _ hw) 2 rfl (xRecv C0 hO (j := u3) hs_u3.1 rfl) gX7_hall_X3_reaches rfl rfl rfl hdX3_reaches ⟨Nat.le_of_ble_eq_true rfl, Nat.le_of_ble_eq_true rfl⟩ hl.1 rfl (Nat.le_of_ble_eq_true rfl) dX7_hall_65 ⟨Nat.le_of_ble_eq_true rfl, Nat.le_of_ble_eq_true rfl⟩) (fun r9 σ' H locs hw hO => ?_)
          obtain ⟨hσ, hw⟩ := hw
          subst hσ
          refine lv_if_ne (tgt := 77) hx hb dX7_hall_68 (by decide) (fun c10 => ?_) (fun c10 => ?_)
          · replace hw := hw.2 c10
            refine lv_aload hx hb dX7_hall_77 (lv_at hl 0 rfl) ?_
            refine lv_iload_n hx hb dX7_hall_79 rfl (lv_at hl 4 rfl) ?_
            refine lv_iload hx hb dX7_hall_80 (lv_at hl 5 rfl) ?_
            refine x_calli C0 hO (x_runS (As := [.ref (xa g u3), .int a3, .int a4]) (rest := []) C0 hO (kX7_firstFault l g _ u3 a3 a4 hs_u3 σ1 _ hw) 3 rfl gX7_hall_X7_firstFault rfl rfl rfl hdX7_firstFault.2 ⟨Nat.le_of_ble_eq_true rfl, Nat.le_of_ble_eq_true rfl⟩ hl.1 rfl (Nat.le_of_ble_eq_true rfl) dX7_hall_82 ⟨Nat.le_of_ble_eq_true rfl, Nat.le_of_ble_eq_true rfl⟩) (fun r11 σ' H locs hw hO => ?_)
            obtain ⟨hσ, hw⟩ := hw
            subst hσ
            refine lv_istore (lv' := [(6, .int r11), (5, .ref (xa g u3)), (0, .ref (xa g 0)), (1, .int a1), (2, .int a2), (3, .int a3), (4, .int a4)]) hx hb dX7_hall_85 hl (by decide) rfl (fun ls hl => ?_)
            refine lv_iload hx hb dX7_hall_87 (lv_at hl 0 rfl) ?_
            refine lv_bipush (v := -9) hx hb dX7_hall_89 (by decide) ?_
            refine lv_icmp_eq (tgt := 100) hx hb dX7_hall_91 (by decide) (fun c12 => ?_) (fun c12 => ?_)
            · replace hw := hw.1 c12
              refine lv_aload_n hx hb dX7_hall_100 rfl (lv_at hl 2 rfl) ?_
              refine lv_aload hx hb dX7_hall_101 (lv_at hl 1 rfl) ?_
              refine lv_iload_n hx hb dX7_hall_103 rfl (lv_at hl 5 rfl) ?_
              refine lv_iload hx hb dX7_hall_104 (lv_at hl 6 rfl) ?_
              refine x_callv C0 hO (x_runV (As := [.ref (xa g u3), .int a3, .int a4]) (rest := []) C0 hO (kX7_open l g _ u3 a3 a4 hs_u3 σ1 _ hw) 3 rfl (xRecv C0 hO (j := 0) rfl rfl) gX7_hall_X7_open rfl rfl rfl hdX7_open ⟨Nat.le_of_ble_eq_true rfl, Nat.le_of_ble_eq_true rfl⟩ hl.1 rfl (Nat.le_of_ble_eq_true rfl) dX7_hall_106 ⟨Nat.le_of_ble_eq_true rfl, Nat.le_of_ble_eq_true rfl⟩) (fun σ13 H locs hw hO => ?_)
              refine lv_aload_n hx hb dX7_hall_109 rfl (lv_at hl 2 rfl) ?_
              refine x_geti C0 hO 0 6 rfl rfl (by decide) rfl iX7_hall_7 rfl (List.mem_of_getElem? (i := 2) rfl) dX7_hall_110 ?_
              refine W.widen (k := 1000) (n := 1000) (by omega) (by omega) ?_
              exact x_iret C0 hO hw dX7_hall_113
            · replace hw := hw.2 c12
              refine lv_bipush (v := -100) hx hb dX7_hall_94 (by decide) ?_
              refine lv_iload hx hb dX7_hall_96 (lv_at hl 0 rfl) ?_
              refine lv_isub hx hb dX7_hall_98 ?_
              refine W.widen (k := 1000) (n := 1000) (by omega) (by omega) ?_
              exact x_iret C0 hO hw dX7_hall_99
          · replace hw := hw.1 c10
            refine lv_aload_n hx hb dX7_hall_71 rfl (lv_at hl 1 rfl) ?_
            refine lv_iconst (v := 3) hx hb dX7_hall_72 (by decide) ?_
            refine x_calli C0 hO (x_runV (As := [.int (3 : Int32)]) (rest := []) C0 hO (kX7_fails l g _ (3 : Int32) σ1 _ hw) 1 rfl (xRecv C0 hO (j := 0) rfl rfl) gX7_hall_X7_fails rfl rfl rfl hdX7_fails ⟨Nat.le_of_ble_eq_true rfl, Nat.le_of_ble_eq_true rfl⟩ hl.1 rfl (Nat.le_of_ble_eq_true rfl) dX7_hall_73 ⟨Nat.le_of_ble_eq_true rfl, Nat.le_of_ble_eq_true rfl⟩) (fun r14 σ15 H locs hw hO => ?_)
            refine W.widen (k := 1000) (n := 1000) (by omega) (by omega) ?_
            exact x_iret C0 hO hw dX7_hall_76
        · replace hw := hw.2 c8
          refine lv_aload_n hx hb dX7_hall_54 rfl (lv_at hl 1 rfl) ?_
          refine lv_iconst (v := 4) hx hb dX7_hall_55 (by decide) ?_
          refine x_calli C0 hO (x_runV (As := [.int (4 : Int32)]) (rest := []) C0 hO (kX7_fails l g _ (4 : Int32) σ1 _ hw) 1 rfl (xRecv C0 hO (j := 0) rfl rfl) gX7_hall_X7_fails rfl rfl rfl hdX7_fails ⟨Nat.le_of_ble_eq_true rfl, Nat.le_of_ble_eq_true rfl⟩ hl.1 rfl (Nat.le_of_ble_eq_true rfl) dX7_hall_56 ⟨Nat.le_of_ble_eq_true rfl, Nat.le_of_ble_eq_true rfl⟩) (fun r16 σ17 H locs hw hO => ?_)
          refine W.widen (k := 1000) (n := 1000) (by omega) (by omega) ?_
          exact x_iret C0 hO hw dX7_hall_59
      · replace hw := hw.2 c7
        refine lv_aload_n hx hb dX7_hall_38 rfl (lv_at hl 1 rfl) ?_
        refine lv_aload hx hb dX7_hall_39 (lv_at hl 0 rfl) ?_
        refine lv_iload_n hx hb dX7_hall_41 rfl (lv_at hl 3 rfl) ?_
        refine x_calli C0 hO (x_runV (As := [.int a2]) (rest := [.ref (xa g 0)]) C0 hO (kX3_faultAs l g _ u3 hs_u3 a2 σ1 _ hw) 1 rfl (xRecv C0 hO (j := u3) hs_u3.1 rfl) gX7_hall_X3_faultAs rfl rfl rfl hdX3_faultAs ⟨Nat.le_of_ble_eq_true rfl, Nat.le_of_ble_eq_true rfl⟩ hl.1 rfl (Nat.le_of_ble_eq_true rfl) dX7_hall_42 ⟨Nat.le_of_ble_eq_true rfl, Nat.le_of_ble_eq_true rfl⟩) (fun r18 σ' H locs hw hO => ?_)
        obtain ⟨hσ, hw⟩ := hw
        subst hσ
        refine x_calli C0 hO (x_runV (As := [.int r18]) (rest := []) C0 hO (kX7_fails l g _ r18 σ1 _ hw) 1 rfl (xRecv C0 hO (j := 0) rfl rfl) gX7_hall_X7_fails rfl rfl rfl hdX7_fails ⟨Nat.le_of_ble_eq_true rfl, Nat.le_of_ble_eq_true rfl⟩ hl.1 rfl (Nat.le_of_ble_eq_true rfl) dX7_hall_45 ⟨Nat.le_of_ble_eq_true rfl, Nat.le_of_ble_eq_true rfl⟩) (fun r19 σ20 H locs hw hO => ?_)
        refine W.widen (k := 1000) (n := 1000) (by omega) (by omega) ?_
        exact x_iret C0 hO hw dX7_hall_48
    · replace hw := hw.1 c5
      refine lv_bipush (v := -2) hx hb dX7_hall_26 (by decide) ?_
      refine W.widen (k := 1000) (n := 1000) (by omega) (by omega) ?_
      exact x_iret C0 hO hw dX7_hall_28
theorem iX7_personOf_7 : ∀ w ∈ wsX70, w ∈ wsX7_personOf := fun w h => List.mem_cons_of_mem _ (List.mem_append_right _ h)
theorem hdX7_personOf : yX7_personOf.cls = RX7 ∧ yX7_personOf.cls ≠ "java/lang/invoke/MethodHandle" ∧ yX7_personOf.cls ≠ "java/lang/invoke/VarHandle" ∧ (parseMethodDescriptor yX7_personOf.desc).map (fun d => d.parameters.length) = some 1 := by decide +kernel
set_option maxHeartbeats 4000000 in
set_option maxRecDepth 100000 in
theorem kX7_personOf (l : Launch) (g : XG) (sz : Nat) (a1 : Int32) (σ : XS) (post : Option Nat → Prop) (hw : PX7_personOf a1 σ post) : xMq l yX7_personOf wsX7_personOf rmX7_personOf 0 0 g sz [.ref (xa g 0), .int a1] σ (fun r u => σ = u ∧ post r) := by
  unfold PX7_personOf at hw
  refine x_head (Qc := fun A => va_Qq (fun r u => σ = u ∧ post r) (xAt g A) A) (cc := cX7_personOf) (maxL := 2) (ret := (some (.object "GumHall$Sitter"))) (by decide) rfl ?_
  intro p e s m below meth c A C0 hnm hO
  refine x_entry (Nat.le_of_ble_eq_true rfl) (fun ls hl => ?_)
  have hl : lv_has ls 2 [(0, .ref (xa g 0)), (1, .int a1)] := hl
  have hx := C0.1
  have hb := C0.2.1
  have hown := C0.2.2.2.2.2.1
  have hts := C0.2.2.2.2.2.2.1
  refine lv_iload_n hx hb dX7_personOf_0 rfl (lv_at hl 1 rfl) ?_
  refine lv_if_lt (tgt := 26) hx hb dX7_personOf_1 (by decide) (fun c1 => ?_) (fun c1 => ?_)
  · replace hw := hw.1 c1
    refine lv_null hx hb dX7_personOf_26 ?_
    exact x_aret (v := none) C0 hO ⟨rfl, hw⟩ dX7_personOf_27
  · replace hw := hw.2 c1
    refine lv_iload_n hx hb dX7_personOf_4 rfl (lv_at hl 1 rfl) ?_
    refine lv_aload_n hx hb dX7_personOf_5 rfl (lv_at hl 0 rfl) ?_
    refine x_geti C0 hO 0 6 rfl rfl (by decide) rfl iX7_personOf_7 rfl (List.mem_of_getElem? (i := 1) rfl) dX7_personOf_6 ?_
    refine lv_icmp_ge (tgt := 26) hx hb dX7_personOf_9 (by decide) (fun c2 => ?_) (fun c2 => ?_)
    · replace hw := hw.1 c2
      refine lv_null hx hb dX7_personOf_26 ?_
      exact x_aret (v := none) C0 hO ⟨rfl, hw⟩ dX7_personOf_27
    · replace hw := hw.2 c2
      refine lv_iload_n hx hb dX7_personOf_12 rfl (lv_at hl 1 rfl) ?_
      refine lv_iconst (v := 5) hx hb dX7_personOf_13 (by decide) ?_
      refine lv_icmp_ge (tgt := 26) hx hb dX7_personOf_14 (by decide) (fun c3 => ?_) (fun c3 => ?_)
      · replace hw := hw.1 c3
        refine lv_null hx hb dX7_personOf_26 ?_
        exact x_aret (v := none) C0 hO ⟨rfl, hw⟩ dX7_personOf_27
      · replace hw := hw.2 c3
        refine lv_aload_n hx hb dX7_personOf_17 rfl (lv_at hl 0 rfl) ?_
        refine x_getr C0 hO 0 1 2 rfl rfl (by decide) rfl iX7_personOf_7 rfl (List.mem_of_getElem? (i := 2) rfl) dX7_personOf_18 ?_
        refine lv_iload_n hx hb dX7_personOf_21 rfl (lv_at hl 1 rfl) ?_
        refine x_aldP C0 hO hw.1 dX7_personOf_22 ?_
        replace hw := hw.2
        refine lv_goto (tgt := 27) hx hb dX7_personOf_23 (by decide) ?_
        exact x_aret (v := (gP σ a1.toNatClampNeg)) C0 hO ⟨rfl, hw⟩ dX7_personOf_27
theorem hdX7_isEither : yX7_isEither.cls = RX7 ∧ yX7_isEither.cls ≠ "java/lang/invoke/MethodHandle" ∧ yX7_isEither.cls ≠ "java/lang/invoke/VarHandle" ∧ (parseMethodDescriptor yX7_isEither.desc).map (fun d => d.parameters.length) = some 1 := by decide +kernel
set_option maxHeartbeats 4000000 in
set_option maxRecDepth 100000 in
theorem kX7_isEither (l : Launch) (g : XG) (sz : Nat) (a0 : Int32) (σ : XS) (post : Int32 → Prop) (hw : PX7_isEither a0 σ post) : xMi l yX7_isEither wsX7_isEither rmX7_isEither 0 0 g sz [.int a0] σ (fun r u => σ = u ∧ post r) := by
  unfold PX7_isEither at hw
  refine x_head (Qc := fun A => va_Qi (fun r u => σ = u ∧ post r) (xAt g A) A) (cc := cX7_isEither) (maxL := 1) (ret := (some .boolean)) (by decide) rfl ?_
  intro p e s m below meth c A C0 hnm hO
  refine x_entry (Nat.le_of_ble_eq_true rfl) (fun ls hl => ?_)
  have hl : lv_has ls 1 [(0, .int a0)] := hl
  have hx := C0.1
  have hb := C0.2.1
  have hown := C0.2.2.2.2.2.1
  have hts := C0.2.2.2.2.2.2.1
  refine lv_iload_n hx hb dX7_isEither_0 rfl (lv_at hl 0 rfl) ?_
  refine lv_if_eq (tgt := 9) hx hb dX7_isEither_1 (by decide) (fun c1 => ?_) (fun c1 => ?_)
  · replace hw := hw.1 c1
    refine lv_iconst (v := 1) hx hb dX7_isEither_9 (by decide) ?_
    refine lv_goto (tgt := 14) hx hb dX7_isEither_10 (by decide) ?_
    exact x_zret C0 hO rfl ⟨rfl, hw⟩ dX7_isEither_14
  · replace hw := hw.2 c1
    refine lv_iload_n hx hb dX7_isEither_4 rfl (lv_at hl 0 rfl) ?_
    refine lv_iconst (v := 1) hx hb dX7_isEither_5 (by decide) ?_
    refine lv_icmp_ne (tgt := 13) hx hb dX7_isEither_6 (by decide) (fun c2 => ?_) (fun c2 => ?_)
    · replace hw := hw.2 c2
      refine lv_iconst (v := 0) hx hb dX7_isEither_13 (by decide) ?_
      exact x_zret C0 hO rfl ⟨rfl, hw⟩ dX7_isEither_14
    · replace hw := hw.1 c2
      refine lv_iconst (v := 1) hx hb dX7_isEither_9 (by decide) ?_
      refine lv_goto (tgt := 14) hx hb dX7_isEither_10 (by decide) ?_
      exact x_zret C0 hO rfl ⟨rfl, hw⟩ dX7_isEither_14
theorem iX7_ofPerson_0 : ∀ w ∈ wsX00, w ∈ wsX7_ofPerson := fun w h => List.mem_cons_of_mem _ (List.mem_append_left _ (List.mem_append_left _ (List.mem_append_left _ (List.mem_append_right _ h))))
theorem iX7_ofPerson_2 : ∀ w ∈ wsX20, w ∈ wsX7_ofPerson := fun w h => List.mem_cons_of_mem _ (List.mem_append_left _ (List.mem_append_left _ (List.mem_append_right _ h)))
theorem iX7_ofPerson_4 : ∀ w ∈ wsX40, w ∈ wsX7_ofPerson := fun w h => List.mem_cons_of_mem _ (List.mem_append_left _ (List.mem_append_right _ h))
theorem hdX7_ofPerson : yX7_ofPerson.cls = RX7 ∧ yX7_ofPerson.cls ≠ "java/lang/invoke/MethodHandle" ∧ yX7_ofPerson.cls ≠ "java/lang/invoke/VarHandle" ∧ (parseMethodDescriptor yX7_ofPerson.desc).map (fun d => d.parameters.length) = some 2 := by decide +kernel
set_option maxHeartbeats 4000000 in
set_option maxRecDepth 100000 in
theorem kX7_ofPerson (l : Launch) (g : XG) (sz : Nat) (a1 : Int32) (a2 : Int32) (σ : XS) (post : Int32 → Prop) (hw : PX7_ofPerson a1 a2 σ post) : xMi l yX7_ofPerson wsX7_ofPerson rmX7_ofPerson 0 0 g sz [.ref (xa g 0), .int a1, .int a2] σ (fun r u => σ = u ∧ post r) := by
  unfold PX7_ofPerson at hw
  refine x_head (Qc := fun A => va_Qi (fun r u => σ = u ∧ post r) (xAt g A) A) (cc := cX7_ofPerson) (maxL := 4) (ret := (some .int)) (by decide) rfl ?_
  intro p e s m below meth c A C0 hnm hO
  refine x_entry (Nat.le_of_ble_eq_true rfl) (fun ls hl => ?_)
  have hl : lv_has ls 4 [(0, .ref (xa g 0)), (1, .int a1), (2, .int a2)] := hl
  have hx := C0.1
  have hb := C0.2.1
  have hown := C0.2.2.2.2.2.1
  have hts := C0.2.2.2.2.2.2.1
  refine lv_aload_n hx hb dX7_ofPerson_0 rfl (lv_at hl 0 rfl) ?_
  refine lv_iload_n hx hb dX7_ofPerson_1 rfl (lv_at hl 1 rfl) ?_
  refine x_callq C0 hO (x_runV (As := [.int a1]) (rest := []) C0 hO (kX7_personOf l g _ a1 σ _ hw) 1 rfl (xRecv C0 hO (j := 0) rfl rfl) gX7_ofPerson_X7_personOf rfl rfl rfl hdX7_personOf ⟨Nat.le_of_ble_eq_true rfl, Nat.le_of_ble_eq_true rfl⟩ hl.1 rfl (Nat.le_of_ble_eq_true rfl) dX7_ofPerson_2 ⟨Nat.le_of_ble_eq_true rfl, Nat.le_of_ble_eq_true rfl⟩) (fun r1 σ' H locs hw hO => ?_)
  obtain ⟨hσ, hw⟩ := hw
  subst hσ
  rcases r1 with _ | w2
  · replace hw := hw.1 rfl
    refine W.eq (g2 := F0 m 5 ls [.null]) rfl ?_
    refine lv_astore_nN (lv' := [(3, .null), (0, .ref (xa g 0)), (1, .int a1), (2, .int a2)]) hx hb dX7_ofPerson_5 rfl hl (by decide) rfl (fun ls hl => ?_)
    refine lv_aload_nN hx hb dX7_ofPerson_6 rfl (lv_at hl 0 rfl) ?_
    refine lv_ifnonnullN hx hb dX7_ofPerson_7 ?_
    refine lv_iconst (v := -1) hx hb dX7_ofPerson_10 (by decide) ?_
    exact x_iret C0 hO ⟨rfl, hw⟩ dX7_ofPerson_11
  · replace hw := hw.2 w2 rfl
    refine W.eq (g2 := F0 m 5 ls [.ref w2]) rfl ?_
    refine lv_astore_n (lv' := [(3, .ref w2), (0, .ref (xa g 0)), (1, .int a1), (2, .int a2)]) hx hb dX7_ofPerson_5 rfl hl (by decide) rfl (fun ls hl => ?_)
    refine lv_aload_n hx hb dX7_ofPerson_6 rfl (lv_at hl 0 rfl) ?_
    refine lv_ifnonnull (tgt := 12) hx hb dX7_ofPerson_7 (by decide) ?_
    refine lv_iload_n hx hb dX7_ofPerson_12 rfl (lv_at hl 3 rfl) ?_
    refine x_calli C0 hO (x_runS (As := [.int a2]) (rest := []) C0 hO (kX7_isEither l g _ a2 σ _ hw) 1 rfl gX7_ofPerson_X7_isEither rfl rfl rfl hdX7_isEither.2 ⟨Nat.le_of_ble_eq_true rfl, Nat.le_of_ble_eq_true rfl⟩ hl.1 rfl (Nat.le_of_ble_eq_true rfl) dX7_ofPerson_13 ⟨Nat.le_of_ble_eq_true rfl, Nat.le_of_ble_eq_true rfl⟩) (fun r3 σ' H locs hw hO => ?_)
    obtain ⟨hσ, hw⟩ := hw
    subst hσ
    refine lv_if_ne (tgt := 22) hx hb dX7_ofPerson_16 (by decide) (fun c4 => ?_) (fun c4 => ?_)
    · replace hw := hw.2 c4
      refine lv_iload_n hx hb dX7_ofPerson_22 rfl (lv_at hl 3 rfl) ?_
      refine lv_if_ne (tgt := 33) hx hb dX7_ofPerson_23 (by decide) (fun c5 => ?_) (fun c5 => ?_)
      · replace hw := hw.2 c5
        refine lv_aload_n hx hb dX7_ofPerson_33 rfl (lv_at hl 0 rfl) ?_
        refine x_flav C0 hO hw.1 iX7_ofPerson_0 iX7_ofPerson_2 iX7_ofPerson_4 (List.mem_of_getElem? (i := 1) rfl) (fun _ h => h) dX7_ofPerson_34 ?_
        replace hw := hw.2
        exact x_iret C0 hO ⟨rfl, hw⟩ dX7_ofPerson_37
      · replace hw := hw.1 c5
        refine lv_aload_n hx hb dX7_ofPerson_26 rfl (lv_at hl 0 rfl) ?_
        have hpe := hw.1
        rcases hw.2.1 with hk | hk | hk
        · replace hw := hw.2.2.1 hk
          refine x_calli C0 hO (x_runV (As := []) (rest := []) C0 hO (kX4_kindNumber l g _ w2 σ _ hw) 0 rfl (xRecvP C0 hO hpe.1 hk (ci := 4) rfl) gX7_ofPerson_X4_kindNumber rfl rfl rfl hdX4_kindNumber ⟨Nat.le_of_ble_eq_true rfl, Nat.le_of_ble_eq_true rfl⟩ hl.1 rfl (Nat.le_of_ble_eq_true rfl) dX7_ofPerson_27 ⟨Nat.le_of_ble_eq_true rfl, Nat.le_of_ble_eq_true rfl⟩) (fun r6 σ' H locs hw hO => ?_)
          obtain ⟨hσ, hw⟩ := hw
          subst hσ
          refine lv_goto (tgt := 37) hx hb dX7_ofPerson_30 (by decide) ?_
          exact x_iret C0 hO ⟨rfl, hw⟩ dX7_ofPerson_37
        · replace hw := hw.2.2.2.1 hk
          refine x_calli C0 hO (x_runO (As := []) (rest := []) C0 hO (kX2_kindNumber l g _ w2 σ _ hw) 0 rfl (xRecvP C0 hO hpe.1 hk (ci := 2) rfl) gX7_ofPerson_X2_kindNumber_u93X2 rfl rfl rfl (List.mem_of_getElem? (i := 19) rfl) (by decide +kernel) ⟨Nat.le_of_ble_eq_true rfl, Nat.le_of_ble_eq_true rfl⟩ hl.1 rfl (Nat.le_of_ble_eq_true rfl) dX7_ofPerson_27 ⟨Nat.le_of_ble_eq_true rfl, Nat.le_of_ble_eq_true rfl⟩) (fun r7 σ' H locs hw hO => ?_)
          obtain ⟨hσ, hw⟩ := hw
          subst hσ
          refine lv_goto (tgt := 37) hx hb dX7_ofPerson_30 (by decide) ?_
          exact x_iret C0 hO ⟨rfl, hw⟩ dX7_ofPerson_37
        · replace hw := hw.2.2.2.2 hk
          refine x_calli C0 hO (x_runO (As := []) (rest := []) C0 hO (kX0_kindNumber l g _ w2 σ _ hw) 0 rfl (xRecvP C0 hO hpe.1 hk (ci := 0) rfl) gX7_ofPerson_X0_kindNumber_u93X0 rfl rfl rfl (List.mem_of_getElem? (i := 19) rfl) (by decide +kernel) ⟨Nat.le_of_ble_eq_true rfl, Nat.le_of_ble_eq_true rfl⟩ hl.1 rfl (Nat.le_of_ble_eq_true rfl) dX7_ofPerson_27 ⟨Nat.le_of_ble_eq_true rfl, Nat.le_of_ble_eq_true rfl⟩) (fun r8 σ' H locs hw hO => ?_)
          obtain ⟨hσ, hw⟩ := hw
          subst hσ
          refine lv_goto (tgt := 37) hx hb dX7_ofPerson_30 (by decide) ?_
          exact x_iret C0 hO ⟨rfl, hw⟩ dX7_ofPerson_37
    · replace hw := hw.1 c4
      refine lv_bipush (v := -2) hx hb dX7_ofPerson_19 (by decide) ?_
      exact x_iret C0 hO ⟨rfl, hw⟩ dX7_ofPerson_21
theorem hdX7_isNight : yX7_isNight.cls = RX7 ∧ yX7_isNight.cls ≠ "java/lang/invoke/MethodHandle" ∧ yX7_isNight.cls ≠ "java/lang/invoke/VarHandle" ∧ (parseMethodDescriptor yX7_isNight.desc).map (fun d => d.parameters.length) = some 1 := by decide +kernel
set_option maxHeartbeats 4000000 in
set_option maxRecDepth 100000 in
theorem kX7_isNight (l : Launch) (g : XG) (sz : Nat) (a0 : Int32) (σ : XS) (post : Int32 → Prop) (hw : PX7_isNight a0 σ post) : xMi l yX7_isNight wsX7_isNight rmX7_isNight 0 0 g sz [.int a0] σ (fun r u => σ = u ∧ post r) := by
  unfold PX7_isNight at hw
  refine x_head (Qc := fun A => va_Qi (fun r u => σ = u ∧ post r) (xAt g A) A) (cc := cX7_isNight) (maxL := 1) (ret := (some .boolean)) (by decide) rfl ?_
  intro p e s m below meth c A C0 hnm hO
  refine x_entry (Nat.le_of_ble_eq_true rfl) (fun ls hl => ?_)
  have hl : lv_has ls 1 [(0, .int a0)] := hl
  have hx := C0.1
  have hb := C0.2.1
  have hown := C0.2.2.2.2.2.1
  have hts := C0.2.2.2.2.2.2.1
  refine lv_iload_n hx hb dX7_isNight_0 rfl (lv_at hl 0 rfl) ?_
  refine lv_if_lt (tgt := 14) hx hb dX7_isNight_1 (by decide) (fun c1 => ?_) (fun c1 => ?_)
  · replace hw := hw.1 c1
    refine lv_iconst (v := 0) hx hb dX7_isNight_14 (by decide) ?_
    exact x_zret C0 hO rfl ⟨rfl, hw⟩ dX7_isNight_15
  · replace hw := hw.2 c1
    refine lv_iload_n hx hb dX7_isNight_4 rfl (lv_at hl 0 rfl) ?_
    refine lv_bipush (v := 40) hx hb dX7_isNight_5 (by decide) ?_
    refine lv_icmp_ge (tgt := 14) hx hb dX7_isNight_7 (by decide) (fun c2 => ?_) (fun c2 => ?_)
    · replace hw := hw.1 c2
      refine lv_iconst (v := 0) hx hb dX7_isNight_14 (by decide) ?_
      exact x_zret C0 hO rfl ⟨rfl, hw⟩ dX7_isNight_15
    · replace hw := hw.2 c2
      refine lv_iconst (v := 1) hx hb dX7_isNight_10 (by decide) ?_
      refine lv_goto (tgt := 15) hx hb dX7_isNight_11 (by decide) ?_
      exact x_zret C0 hO rfl ⟨rfl, hw⟩ dX7_isNight_15
theorem hdX7_gum : yX7_gum.cls = RX7 ∧ yX7_gum.cls ≠ "java/lang/invoke/MethodHandle" ∧ yX7_gum.cls ≠ "java/lang/invoke/VarHandle" ∧ (parseMethodDescriptor yX7_gum.desc).map (fun d => d.parameters.length) = some 2 := by decide +kernel
set_option maxHeartbeats 4000000 in
set_option maxRecDepth 100000 in
theorem kX7_gum (l : Launch) (g : XG) (sz : Nat) (a1 : Int32) (a2 : Int32) (σ : XS) (post : Int32 → Prop) (hw : PX7_gum a1 a2 σ post) : xMi l yX7_gum wsX7_gum rmX7_gum 0 0 g sz [.ref (xa g 0), .int a1, .int a2] σ (fun r u => σ = u ∧ post r) := by
  unfold PX7_gum at hw
  refine x_head (Qc := fun A => va_Qi (fun r u => σ = u ∧ post r) (xAt g A) A) (cc := cX7_gum) (maxL := 4) (ret := (some .int)) (by decide) rfl ?_
  intro p e s m below meth c A C0 hnm hO
  refine x_entry (Nat.le_of_ble_eq_true rfl) (fun ls hl => ?_)
  have hl : lv_has ls 4 [(0, .ref (xa g 0)), (1, .int a1), (2, .int a2)] := hl
  have hx := C0.1
  have hb := C0.2.1
  have hown := C0.2.2.2.2.2.1
  have hts := C0.2.2.2.2.2.2.1
  refine lv_aload_n hx hb dX7_gum_0 rfl (lv_at hl 0 rfl) ?_
  refine lv_iload_n hx hb dX7_gum_1 rfl (lv_at hl 1 rfl) ?_
  refine x_callq C0 hO (x_runV (As := [.int a1]) (rest := []) C0 hO (kX7_personOf l g _ a1 σ _ hw) 1 rfl (xRecv C0 hO (j := 0) rfl rfl) gX7_gum_X7_personOf rfl rfl rfl hdX7_personOf ⟨Nat.le_of_ble_eq_true rfl, Nat.le_of_ble_eq_true rfl⟩ hl.1 rfl (Nat.le_of_ble_eq_true rfl) dX7_gum_2 ⟨Nat.le_of_ble_eq_true rfl, Nat.le_of_ble_eq_true rfl⟩) (fun r1 σ' H locs hw hO => ?_)
  obtain ⟨hσ, hw⟩ := hw
  subst hσ
  rcases r1 with _ | w2
  · replace hw := hw.1 rfl
    refine W.eq (g2 := F0 m 5 ls [.null]) rfl ?_
    refine lv_astore_nN (lv' := [(3, .null), (0, .ref (xa g 0)), (1, .int a1), (2, .int a2)]) hx hb dX7_gum_5 rfl hl (by decide) rfl (fun ls hl => ?_)
    refine lv_aload_nN hx hb dX7_gum_6 rfl (lv_at hl 0 rfl) ?_
    refine lv_ifnonnullN hx hb dX7_gum_7 ?_
    refine lv_iconst (v := -1) hx hb dX7_gum_10 (by decide) ?_
    exact x_iret C0 hO ⟨rfl, hw⟩ dX7_gum_11
  · replace hw := hw.2 w2 rfl
    refine W.eq (g2 := F0 m 5 ls [.ref w2]) rfl ?_
    refine lv_astore_n (lv' := [(3, .ref w2), (0, .ref (xa g 0)), (1, .int a1), (2, .int a2)]) hx hb dX7_gum_5 rfl hl (by decide) rfl (fun ls hl => ?_)
    refine lv_aload_n hx hb dX7_gum_6 rfl (lv_at hl 0 rfl) ?_
    refine lv_ifnonnull (tgt := 12) hx hb dX7_gum_7 (by decide) ?_
    refine lv_iload_n hx hb dX7_gum_12 rfl (lv_at hl 3 rfl) ?_
    refine x_calli C0 hO (x_runS (As := [.int a2]) (rest := []) C0 hO (kX7_isNight l g _ a2 σ _ hw) 1 rfl gX7_gum_X7_isNight rfl rfl rfl hdX7_isNight.2 ⟨Nat.le_of_ble_eq_true rfl, Nat.le_of_ble_eq_true rfl⟩ hl.1 rfl (Nat.le_of_ble_eq_true rfl) dX7_gum_13 ⟨Nat.le_of_ble_eq_true rfl, Nat.le_of_ble_eq_true rfl⟩) (fun r3 σ' H locs hw hO => ?_)
    obtain ⟨hσ, hw⟩ := hw
    subst hσ
    refine lv_if_ne (tgt := 22) hx hb dX7_gum_16 (by decide) (fun c4 => ?_) (fun c4 => ?_)
    · replace hw := hw.2 c4
      refine lv_aload_n hx hb dX7_gum_22 rfl (lv_at hl 0 rfl) ?_
      refine lv_iload_n hx hb dX7_gum_23 rfl (lv_at hl 3 rfl) ?_
      have hpe := hw.1
      rcases hw.2.1 with hk | hk | hk
      · replace hw := hw.2.2.1 hk
        refine x_calli C0 hO (x_runV (As := [.int a2]) (rest := []) C0 hO (kX4_leaves l g _ w2 a2 σ _ hw) 1 rfl (xRecvP C0 hO hpe.1 hk (ci := 4) rfl) gX7_gum_X4_leaves rfl rfl rfl hdX4_leaves ⟨Nat.le_of_ble_eq_true rfl, Nat.le_of_ble_eq_true rfl⟩ hl.1 rfl (Nat.le_of_ble_eq_true rfl) dX7_gum_24 ⟨Nat.le_of_ble_eq_true rfl, Nat.le_of_ble_eq_true rfl⟩) (fun r5 σ' H locs hw hO => ?_)
        obtain ⟨hσ, hw⟩ := hw
        subst hσ
        exact x_iret C0 hO ⟨rfl, hw⟩ dX7_gum_27
      · replace hw := hw.2.2.2.1 hk
        refine x_calli C0 hO (x_runO (As := [.int a2]) (rest := []) C0 hO (kX2_leaves l g _ w2 a2 σ _ hw) 1 rfl (xRecvP C0 hO hpe.1 hk (ci := 2) rfl) gX7_gum_X2_leaves_u103X2 rfl rfl rfl (List.mem_of_getElem? (i := 26) rfl) (by decide +kernel) ⟨Nat.le_of_ble_eq_true rfl, Nat.le_of_ble_eq_true rfl⟩ hl.1 rfl (Nat.le_of_ble_eq_true rfl) dX7_gum_24 ⟨Nat.le_of_ble_eq_true rfl, Nat.le_of_ble_eq_true rfl⟩) (fun r6 σ' H locs hw hO => ?_)
        obtain ⟨hσ, hw⟩ := hw
        subst hσ
        exact x_iret C0 hO ⟨rfl, hw⟩ dX7_gum_27
      · replace hw := hw.2.2.2.2 hk
        refine x_calli C0 hO (x_runO (As := [.int a2]) (rest := []) C0 hO (kX0_leaves l g _ w2 a2 σ _ hw) 1 rfl (xRecvP C0 hO hpe.1 hk (ci := 0) rfl) gX7_gum_X0_leaves_u103X0 rfl rfl rfl (List.mem_of_getElem? (i := 26) rfl) (by decide +kernel) ⟨Nat.le_of_ble_eq_true rfl, Nat.le_of_ble_eq_true rfl⟩ hl.1 rfl (Nat.le_of_ble_eq_true rfl) dX7_gum_24 ⟨Nat.le_of_ble_eq_true rfl, Nat.le_of_ble_eq_true rfl⟩) (fun r7 σ' H locs hw hO => ?_)
        obtain ⟨hσ, hw⟩ := hw
        subst hσ
        exact x_iret C0 hO ⟨rfl, hw⟩ dX7_gum_27
    · replace hw := hw.1 c4
      refine lv_bipush (v := -2) hx hb dX7_gum_19 (by decide) ?_
      exact x_iret C0 hO ⟨rfl, hw⟩ dX7_gum_21
theorem iX7_isPlace_7 : ∀ w ∈ wsX70, w ∈ wsX7_isPlace := fun w h => List.mem_cons_of_mem _ (List.mem_append_right _ h)
theorem hdX7_isPlace : yX7_isPlace.cls = RX7 ∧ yX7_isPlace.cls ≠ "java/lang/invoke/MethodHandle" ∧ yX7_isPlace.cls ≠ "java/lang/invoke/VarHandle" ∧ (parseMethodDescriptor yX7_isPlace.desc).map (fun d => d.parameters.length) = some 1 := by decide +kernel
set_option maxHeartbeats 4000000 in
set_option maxRecDepth 100000 in
theorem kX7_isPlace (l : Launch) (g : XG) (sz : Nat) (a1 : Int32) (σ : XS) (post : Int32 → Prop) (hw : PX7_isPlace a1 σ post) : xMi l yX7_isPlace wsX7_isPlace rmX7_isPlace 0 0 g sz [.ref (xa g 0), .int a1] σ (fun r u => σ = u ∧ post r) := by
  unfold PX7_isPlace at hw
  refine x_head (Qc := fun A => va_Qi (fun r u => σ = u ∧ post r) (xAt g A) A) (cc := cX7_isPlace) (maxL := 2) (ret := (some .boolean)) (by decide) rfl ?_
  intro p e s m below meth c A C0 hnm hO
  refine x_entry (Nat.le_of_ble_eq_true rfl) (fun ls hl => ?_)
  have hl : lv_has ls 2 [(0, .ref (xa g 0)), (1, .int a1)] := hl
  have hx := C0.1
  have hb := C0.2.1
  have hown := C0.2.2.2.2.2.1
  have hts := C0.2.2.2.2.2.2.1
  refine lv_iload_n hx hb dX7_isPlace_0 rfl (lv_at hl 1 rfl) ?_
  refine lv_if_lt (tgt := 16) hx hb dX7_isPlace_1 (by decide) (fun c1 => ?_) (fun c1 => ?_)
  · replace hw := hw.1 c1
    refine lv_iconst (v := 0) hx hb dX7_isPlace_16 (by decide) ?_
    exact x_zret C0 hO rfl ⟨rfl, hw⟩ dX7_isPlace_17
  · replace hw := hw.2 c1
    refine lv_iload_n hx hb dX7_isPlace_4 rfl (lv_at hl 1 rfl) ?_
    refine lv_aload_n hx hb dX7_isPlace_5 rfl (lv_at hl 0 rfl) ?_
    refine x_geti C0 hO 0 7 rfl rfl (by decide) rfl iX7_isPlace_7 rfl (List.mem_of_getElem? (i := 1) rfl) dX7_isPlace_6 ?_
    refine lv_icmp_ge (tgt := 16) hx hb dX7_isPlace_9 (by decide) (fun c2 => ?_) (fun c2 => ?_)
    · replace hw := hw.1 c2
      refine lv_iconst (v := 0) hx hb dX7_isPlace_16 (by decide) ?_
      exact x_zret C0 hO rfl ⟨rfl, hw⟩ dX7_isPlace_17
    · replace hw := hw.2 c2
      refine lv_iconst (v := 1) hx hb dX7_isPlace_12 (by decide) ?_
      refine lv_goto (tgt := 17) hx hb dX7_isPlace_13 (by decide) ?_
      exact x_zret C0 hO rfl ⟨rfl, hw⟩ dX7_isPlace_17
theorem iX7_placeOn_7 : ∀ w ∈ wsX70, w ∈ wsX7_placeOn := fun w h => List.mem_cons_of_mem _ (List.mem_append_left _ (List.mem_append_right _ h))
theorem hdX7_placeOn : yX7_placeOn.cls = RX7 ∧ yX7_placeOn.cls ≠ "java/lang/invoke/MethodHandle" ∧ yX7_placeOn.cls ≠ "java/lang/invoke/VarHandle" ∧ (parseMethodDescriptor yX7_placeOn.desc).map (fun d => d.parameters.length) = some 2 := by decide +kernel
set_option maxHeartbeats 4000000 in
set_option maxRecDepth 100000 in
theorem lX7_placeOn_2 {p : Program} {l : Launch} {e : Env} {s : State} {m : MethodId} {args : Array Value} {below : List Frame} {meth : Method} {c : Code} {g : XG} {A : Nat → Prop} (C0 : xC g A wsX7_placeOn RX7 cX7_placeOn 4 (some .int) p s m args meth c) (σ : XS) (f1 : Int32) (f2 : Int32) (post : Int32 → Prop) (kx : Int32 → Prop)
    (hkx : ∀ (m3 : Int32) (H : Heap) (locs : List Loc) (ls : Array Slot), kx m3 → xO g A s σ H locs → lv_has ls 4 [(0, .ref (xa g 0)), (1, .int f1), (2, .int f2), (3, .int m3)] → W p l e (headSpec wsX7_placeOn rmX7_placeOn).room s m args below meth c H locs 0 0 (MQ below (va_Qi (fun r u => σ = u ∧ post r) (xAt g A) A) args s 0 0 A) (F0 m 53 ls [])) :
    ∀ (n : Nat) (m3 : Int32) (H : Heap) (locs : List Loc) (ls : Array Slot), LX7_placeOn_2 σ f1 f2 post kx n m3 → xO g A s σ H locs → lv_has ls 4 [(0, .ref (xa g 0)), (1, .int f1), (2, .int f2), (3, .int m3)] → W p l e (headSpec wsX7_placeOn rmX7_placeOn).room s m args below meth c H locs 0 0 (MQ below (va_Qi (fun r u => σ = u ∧ post r) (xAt g A) A) args s 0 0 A) (F0 m 2 ls []) := by
  have hx := C0.1
  have hb := C0.2.1
  have hown := C0.2.2.2.2.2.1
  have hts := C0.2.2.2.2.2.2.1
  intro n
  induction n with
  | zero =>
    intro m3 H locs ls hw
    exact hw.elim
  | succ n ih =>
    intro m3 H locs ls hw hO hl
    rw [LX7_placeOn_2] at hw
    refine lv_iload_n hx hb dX7_placeOn_2 rfl (lv_at hl 3 rfl) ?_
    refine lv_aload_n hx hb dX7_placeOn_3 rfl (lv_at hl 0 rfl) ?_
    refine x_getr C0 hO 0 3 4 rfl rfl (by decide) rfl iX7_placeOn_7 rfl (List.mem_of_getElem? (i := 1) rfl) dX7_placeOn_4 ?_
    refine lv_iconst (v := 2) hx hb dX7_placeOn_7 (by decide) ?_
    refine x_calli C0 hO (x_runV (As := [.int (2 : Int32)]) (rest := [.int m3]) C0 hO (kX5_count l g _ (2 : Int32) σ _ hw) 1 rfl (xRecv C0 hO (j := 4) rfl rfl) gX7_placeOn_X5_count rfl rfl rfl hdX5_count ⟨Nat.le_of_ble_eq_true rfl, Nat.le_of_ble_eq_true rfl⟩ hl.1 rfl (Nat.le_of_ble_eq_true rfl) dX7_placeOn_8 ⟨Nat.le_of_ble_eq_true rfl, Nat.le_of_ble_eq_true rfl⟩) (fun r1 σ' H locs hw hO => ?_)
    obtain ⟨hσ, hw⟩ := hw
    subst hσ
    refine lv_icmp_ge (tgt := 53) hx hb dX7_placeOn_11 (by decide) (fun c2 => ?_) (fun c2 => ?_)
    · replace hw := hw.1 c2
      exact hkx _ _ _ _ hw hO (lv_sub hl [0, 1, 2, 3] rfl)
    · replace hw := hw.2 c2
      refine lv_aload_n hx hb dX7_placeOn_14 rfl (lv_at hl 0 rfl) ?_
      refine x_getr C0 hO 0 3 4 rfl rfl (by decide) rfl iX7_placeOn_7 rfl (List.mem_of_getElem? (i := 1) rfl) dX7_placeOn_15 ?_
      refine lv_iload_n hx hb dX7_placeOn_18 rfl (lv_at hl 3 rfl) ?_
      refine x_calli C0 hO (x_runV (As := [.int m3]) (rest := []) C0 hO (kX5_nightOf l g _ m3 σ _ hw) 1 rfl (xRecv C0 hO (j := 4) rfl rfl) gX7_placeOn_X5_nightOf rfl rfl rfl hdX5_nightOf ⟨Nat.le_of_ble_eq_true rfl, Nat.le_of_ble_eq_true rfl⟩ hl.1 rfl (Nat.le_of_ble_eq_true rfl) dX7_placeOn_19 ⟨Nat.le_of_ble_eq_true rfl, Nat.le_of_ble_eq_true rfl⟩) (fun r3 σ' H locs hw hO => ?_)
      obtain ⟨hσ, hw⟩ := hw
      subst hσ
      refine lv_iload_n hx hb dX7_placeOn_22 rfl (lv_at hl 1 rfl) ?_
      refine lv_icmp_ne (tgt := 47) hx hb dX7_placeOn_23 (by decide) (fun c4 => ?_) (fun c4 => ?_)
      · replace hw := hw.2 c4
        obtain ⟨x5, ex5⟩ : ∃ z : Int32, z = m3 + 1 := ⟨_, rfl⟩
        replace hw := hw x5 ex5
        refine lv_iinc (v := x5) (lv' := [(3, .int x5), (0, .ref (xa g 0)), (1, .int f1), (2, .int f2)]) hx hb dX7_placeOn_47 hl (k := 3) rfl (by rw [ex5]; rfl) (by decide) rfl (fun ls hl => ?_)
        refine lv_goto (tgt := 2) hx hb dX7_placeOn_50 (by decide) ?_
        exact ih _ _ _ _ hw hO (lv_sub hl [1, 2, 3, 0] rfl)
      · replace hw := hw.1 c4
        refine lv_aload_n hx hb dX7_placeOn_26 rfl (lv_at hl 0 rfl) ?_
        refine x_getr C0 hO 0 3 4 rfl rfl (by decide) rfl iX7_placeOn_7 rfl (List.mem_of_getElem? (i := 1) rfl) dX7_placeOn_27 ?_
        refine lv_iload_n hx hb dX7_placeOn_30 rfl (lv_at hl 3 rfl) ?_
        refine x_calli C0 hO (x_runV (As := [.int m3]) (rest := []) C0 hO (kX5_personOf l g _ m3 σ _ hw) 1 rfl (xRecv C0 hO (j := 4) rfl rfl) gX7_placeOn_X5_personOf rfl rfl rfl hdX5_personOf ⟨Nat.le_of_ble_eq_true rfl, Nat.le_of_ble_eq_true rfl⟩ hl.1 rfl (Nat.le_of_ble_eq_true rfl) dX7_placeOn_31 ⟨Nat.le_of_ble_eq_true rfl, Nat.le_of_ble_eq_true rfl⟩) (fun r6 σ' H locs hw hO => ?_)
        obtain ⟨hσ, hw⟩ := hw
        subst hσ
        refine lv_iload_n hx hb dX7_placeOn_34 rfl (lv_at hl 2 rfl) ?_
        refine lv_icmp_ne (tgt := 47) hx hb dX7_placeOn_35 (by decide) (fun c7 => ?_) (fun c7 => ?_)
        · replace hw := hw.2 c7
          obtain ⟨x8, ex8⟩ : ∃ z : Int32, z = m3 + 1 := ⟨_, rfl⟩
          replace hw := hw x8 ex8
          refine lv_iinc (v := x8) (lv' := [(3, .int x8), (0, .ref (xa g 0)), (1, .int f1), (2, .int f2)]) hx hb dX7_placeOn_47 hl (k := 3) rfl (by rw [ex8]; rfl) (by decide) rfl (fun ls hl => ?_)
          refine lv_goto (tgt := 2) hx hb dX7_placeOn_50 (by decide) ?_
          exact ih _ _ _ _ hw hO (lv_sub hl [1, 2, 3, 0] rfl)
        · replace hw := hw.1 c7
          refine lv_aload_n hx hb dX7_placeOn_38 rfl (lv_at hl 0 rfl) ?_
          refine x_getr C0 hO 0 3 4 rfl rfl (by decide) rfl iX7_placeOn_7 rfl (List.mem_of_getElem? (i := 1) rfl) dX7_placeOn_39 ?_
          refine lv_iload_n hx hb dX7_placeOn_42 rfl (lv_at hl 3 rfl) ?_
          refine x_calli C0 hO (x_runV (As := [.int m3]) (rest := []) C0 hO (kX5_placeOf l g _ m3 σ _ hw) 1 rfl (xRecv C0 hO (j := 4) rfl rfl) gX7_placeOn_X5_placeOf rfl rfl rfl hdX5_placeOf ⟨Nat.le_of_ble_eq_true rfl, Nat.le_of_ble_eq_true rfl⟩ hl.1 rfl (Nat.le_of_ble_eq_true rfl) dX7_placeOn_43 ⟨Nat.le_of_ble_eq_true rfl, Nat.le_of_ble_eq_true rfl⟩) (fun r9 σ' H locs hw hO => ?_)
          obtain ⟨hσ, hw⟩ := hw
          subst hσ
          exact x_iret C0 hO ⟨rfl, hw⟩ dX7_placeOn_46
set_option maxHeartbeats 4000000 in
set_option maxRecDepth 100000 in
theorem kX7_placeOn (l : Launch) (g : XG) (sz : Nat) (a1 : Int32) (a2 : Int32) (σ : XS) (post : Int32 → Prop) (hw : PX7_placeOn a1 a2 σ post) : xMi l yX7_placeOn wsX7_placeOn rmX7_placeOn 0 0 g sz [.ref (xa g 0), .int a1, .int a2] σ (fun r u => σ = u ∧ post r) := by
  unfold PX7_placeOn at hw
  refine x_head (Qc := fun A => va_Qi (fun r u => σ = u ∧ post r) (xAt g A) A) (cc := cX7_placeOn) (maxL := 4) (ret := (some .int)) (by decide) rfl ?_
  intro p e s m below meth c A C0 hnm hO
  refine x_entry (Nat.le_of_ble_eq_true rfl) (fun ls hl => ?_)
  have hl : lv_has ls 4 [(0, .ref (xa g 0)), (1, .int a1), (2, .int a2)] := hl
  have hx := C0.1
  have hb := C0.2.1
  have hown := C0.2.2.2.2.2.1
  have hts := C0.2.2.2.2.2.2.1
  refine lv_iconst (v := 0) hx hb dX7_placeOn_0 (by decide) ?_
  refine lv_istore_n (lv' := [(3, .int (0 : Int32)), (0, .ref (xa g 0)), (1, .int a1), (2, .int a2)]) hx hb dX7_placeOn_1 rfl hl (by decide) rfl (fun ls hl => ?_)
  refine lX7_placeOn_2 C0 σ a1 a2 post _ (fun x10 H locs ls hw hO hl => ?_) 1000 _ _ _ _ hw hO (lv_sub hl [1, 2, 3, 0] rfl)
  refine lv_bipush (v := -9) hx hb dX7_placeOn_53 (by decide) ?_
  exact x_iret C0 hO ⟨rfl, hw⟩ dX7_placeOn_55
theorem iX7_isTaken_7 : ∀ w ∈ wsX70, w ∈ wsX7_isTaken := fun w h => List.mem_cons_of_mem _ (List.mem_append_left _ (List.mem_append_right _ h))
theorem hdX7_isTaken : yX7_isTaken.cls = RX7 ∧ yX7_isTaken.cls ≠ "java/lang/invoke/MethodHandle" ∧ yX7_isTaken.cls ≠ "java/lang/invoke/VarHandle" ∧ (parseMethodDescriptor yX7_isTaken.desc).map (fun d => d.parameters.length) = some 2 := by decide +kernel
set_option maxHeartbeats 4000000 in
set_option maxRecDepth 100000 in
theorem lX7_isTaken_2 {p : Program} {l : Launch} {e : Env} {s : State} {m : MethodId} {args : Array Value} {below : List Frame} {meth : Method} {c : Code} {g : XG} {A : Nat → Prop} (C0 : xC g A wsX7_isTaken RX7 cX7_isTaken 4 (some .boolean) p s m args meth c) (σ : XS) (f1 : Int32) (f2 : Int32) (post : Int32 → Prop) (kx : Int32 → Prop)
    (hkx : ∀ (m3 : Int32) (H : Heap) (locs : List Loc) (ls : Array Slot), kx m3 → xO g A s σ H locs → lv_has ls 4 [(0, .ref (xa g 0)), (1, .int f1), (2, .int f2), (3, .int m3)] → W p l e (headSpec wsX7_isTaken rmX7_isTaken).room s m args below meth c H locs 0 0 (MQ below (va_Qi (fun r u => σ = u ∧ post r) (xAt g A) A) args s 0 0 A) (F0 m 46 ls [])) :
    ∀ (n : Nat) (m3 : Int32) (H : Heap) (locs : List Loc) (ls : Array Slot), LX7_isTaken_2 σ f1 f2 post kx n m3 → xO g A s σ H locs → lv_has ls 4 [(0, .ref (xa g 0)), (1, .int f1), (2, .int f2), (3, .int m3)] → W p l e (headSpec wsX7_isTaken rmX7_isTaken).room s m args below meth c H locs 0 0 (MQ below (va_Qi (fun r u => σ = u ∧ post r) (xAt g A) A) args s 0 0 A) (F0 m 2 ls []) := by
  have hx := C0.1
  have hb := C0.2.1
  have hown := C0.2.2.2.2.2.1
  have hts := C0.2.2.2.2.2.2.1
  intro n
  induction n with
  | zero =>
    intro m3 H locs ls hw
    exact hw.elim
  | succ n ih =>
    intro m3 H locs ls hw hO hl
    rw [LX7_isTaken_2] at hw
    refine lv_iload_n hx hb dX7_isTaken_2 rfl (lv_at hl 3 rfl) ?_
    refine lv_aload_n hx hb dX7_isTaken_3 rfl (lv_at hl 0 rfl) ?_
    refine x_getr C0 hO 0 3 4 rfl rfl (by decide) rfl iX7_isTaken_7 rfl (List.mem_of_getElem? (i := 1) rfl) dX7_isTaken_4 ?_
    refine lv_iconst (v := 2) hx hb dX7_isTaken_7 (by decide) ?_
    refine x_calli C0 hO (x_runV (As := [.int (2 : Int32)]) (rest := [.int m3]) C0 hO (kX5_count l g _ (2 : Int32) σ _ hw) 1 rfl (xRecv C0 hO (j := 4) rfl rfl) gX7_isTaken_X5_count rfl rfl rfl hdX5_count ⟨Nat.le_of_ble_eq_true rfl, Nat.le_of_ble_eq_true rfl⟩ hl.1 rfl (Nat.le_of_ble_eq_true rfl) dX7_isTaken_8 ⟨Nat.le_of_ble_eq_true rfl, Nat.le_of_ble_eq_true rfl⟩) (fun r1 σ' H locs hw hO => ?_)
    obtain ⟨hσ, hw⟩ := hw
    subst hσ
    refine lv_icmp_ge (tgt := 46) hx hb dX7_isTaken_11 (by decide) (fun c2 => ?_) (fun c2 => ?_)
    · replace hw := hw.1 c2
      exact hkx _ _ _ _ hw hO (lv_sub hl [0, 1, 2, 3] rfl)
    · replace hw := hw.2 c2
      refine lv_aload_n hx hb dX7_isTaken_14 rfl (lv_at hl 0 rfl) ?_
      refine x_getr C0 hO 0 3 4 rfl rfl (by decide) rfl iX7_isTaken_7 rfl (List.mem_of_getElem? (i := 1) rfl) dX7_isTaken_15 ?_
      refine lv_iload_n hx hb dX7_isTaken_18 rfl (lv_at hl 3 rfl) ?_
      refine x_calli C0 hO (x_runV (As := [.int m3]) (rest := []) C0 hO (kX5_nightOf l g _ m3 σ _ hw) 1 rfl (xRecv C0 hO (j := 4) rfl rfl) gX7_isTaken_X5_nightOf rfl rfl rfl hdX5_nightOf ⟨Nat.le_of_ble_eq_true rfl, Nat.le_of_ble_eq_true rfl⟩ hl.1 rfl (Nat.le_of_ble_eq_true rfl) dX7_isTaken_19 ⟨Nat.le_of_ble_eq_true rfl, Nat.le_of_ble_eq_true rfl⟩) (fun r3 σ' H locs hw hO => ?_)
      obtain ⟨hσ, hw⟩ := hw
      subst hσ
      refine lv_iload_n hx hb dX7_isTaken_22 rfl (lv_at hl 2 rfl) ?_
      refine lv_icmp_ne (tgt := 40) hx hb dX7_isTaken_23 (by decide) (fun c4 => ?_) (fun c4 => ?_)
      · replace hw := hw.2 c4
        obtain ⟨x5, ex5⟩ : ∃ z : Int32, z = m3 + 1 := ⟨_, rfl⟩
        replace hw := hw x5 ex5
        refine lv_iinc (v := x5) (lv' := [(3, .int x5), (0, .ref (xa g 0)), (1, .int f1), (2, .int f2)]) hx hb dX7_isTaken_40 hl (k := 3) rfl (by rw [ex5]; rfl) (by decide) rfl (fun ls hl => ?_)
        refine lv_goto (tgt := 2) hx hb dX7_isTaken_43 (by decide) ?_
        exact ih _ _ _ _ hw hO (lv_sub hl [1, 2, 3, 0] rfl)
      · replace hw := hw.1 c4
        refine lv_aload_n hx hb dX7_isTaken_26 rfl (lv_at hl 0 rfl) ?_
        refine x_getr C0 hO 0 3 4 rfl rfl (by decide) rfl iX7_isTaken_7 rfl (List.mem_of_getElem? (i := 1) rfl) dX7_isTaken_27 ?_
        refine lv_iload_n hx hb dX7_isTaken_30 rfl (lv_at hl 3 rfl) ?_
        refine x_calli C0 hO (x_runV (As := [.int m3]) (rest := []) C0 hO (kX5_placeOf l g _ m3 σ _ hw) 1 rfl (xRecv C0 hO (j := 4) rfl rfl) gX7_isTaken_X5_placeOf rfl rfl rfl hdX5_placeOf ⟨Nat.le_of_ble_eq_true rfl, Nat.le_of_ble_eq_true rfl⟩ hl.1 rfl (Nat.le_of_ble_eq_true rfl) dX7_isTaken_31 ⟨Nat.le_of_ble_eq_true rfl, Nat.le_of_ble_eq_true rfl⟩) (fun r6 σ' H locs hw hO => ?_)
        obtain ⟨hσ, hw⟩ := hw
        subst hσ
        refine lv_iload_n hx hb dX7_isTaken_34 rfl (lv_at hl 1 rfl) ?_
        refine lv_icmp_ne (tgt := 40) hx hb dX7_isTaken_35 (by decide) (fun c7 => ?_) (fun c7 => ?_)
        · replace hw := hw.2 c7
          obtain ⟨x8, ex8⟩ : ∃ z : Int32, z = m3 + 1 := ⟨_, rfl⟩
          replace hw := hw x8 ex8
          refine lv_iinc (v := x8) (lv' := [(3, .int x8), (0, .ref (xa g 0)), (1, .int f1), (2, .int f2)]) hx hb dX7_isTaken_40 hl (k := 3) rfl (by rw [ex8]; rfl) (by decide) rfl (fun ls hl => ?_)
          refine lv_goto (tgt := 2) hx hb dX7_isTaken_43 (by decide) ?_
          exact ih _ _ _ _ hw hO (lv_sub hl [1, 2, 3, 0] rfl)
        · replace hw := hw.1 c7
          refine lv_iconst (v := 1) hx hb dX7_isTaken_38 (by decide) ?_
          exact x_zret C0 hO rfl ⟨rfl, hw⟩ dX7_isTaken_39
set_option maxHeartbeats 4000000 in
set_option maxRecDepth 100000 in
theorem kX7_isTaken (l : Launch) (g : XG) (sz : Nat) (a1 : Int32) (a2 : Int32) (σ : XS) (post : Int32 → Prop) (hw : PX7_isTaken a1 a2 σ post) : xMi l yX7_isTaken wsX7_isTaken rmX7_isTaken 0 0 g sz [.ref (xa g 0), .int a1, .int a2] σ (fun r u => σ = u ∧ post r) := by
  unfold PX7_isTaken at hw
  refine x_head (Qc := fun A => va_Qi (fun r u => σ = u ∧ post r) (xAt g A) A) (cc := cX7_isTaken) (maxL := 4) (ret := (some .boolean)) (by decide) rfl ?_
  intro p e s m below meth c A C0 hnm hO
  refine x_entry (Nat.le_of_ble_eq_true rfl) (fun ls hl => ?_)
  have hl : lv_has ls 4 [(0, .ref (xa g 0)), (1, .int a1), (2, .int a2)] := hl
  have hx := C0.1
  have hb := C0.2.1
  have hown := C0.2.2.2.2.2.1
  have hts := C0.2.2.2.2.2.2.1
  refine lv_iconst (v := 0) hx hb dX7_isTaken_0 (by decide) ?_
  refine lv_istore_n (lv' := [(3, .int (0 : Int32)), (0, .ref (xa g 0)), (1, .int a1), (2, .int a2)]) hx hb dX7_isTaken_1 rfl hl (by decide) rfl (fun ls hl => ?_)
  refine lX7_isTaken_2 C0 σ a1 a2 post _ (fun x9 H locs ls hw hO hl => ?_) 1000 _ _ _ _ hw hO (lv_sub hl [1, 2, 3, 0] rfl)
  refine lv_iconst (v := 0) hx hb dX7_isTaken_46 (by decide) ?_
  exact x_zret C0 hO rfl ⟨rfl, hw⟩ dX7_isTaken_47
theorem hdX7_maySit : yX7_maySit.cls = RX7 ∧ yX7_maySit.cls ≠ "java/lang/invoke/MethodHandle" ∧ yX7_maySit.cls ≠ "java/lang/invoke/VarHandle" ∧ (parseMethodDescriptor yX7_maySit.desc).map (fun d => d.parameters.length) = some 3 := by decide +kernel
set_option maxHeartbeats 4000000 in
set_option maxRecDepth 100000 in
theorem kX7_maySit (l : Launch) (g : XG) (sz : Nat) (a1 : Int32) (a2 : Int32) (a3 : Int32) (σ : XS) (post : Int32 → Prop) (hw : PX7_maySit a1 a2 a3 σ post) : xMi l yX7_maySit wsX7_maySit rmX7_maySit 0 0 g sz [.ref (xa g 0), .int a1, .int a2, .int a3] σ (fun r u => σ = u ∧ post r) := by
  unfold PX7_maySit at hw
  refine x_head (Qc := fun A => va_Qi (fun r u => σ = u ∧ post r) (xAt g A) A) (cc := cX7_maySit) (maxL := 4) (ret := (some .boolean)) (by decide) rfl ?_
  intro p e s m below meth c A C0 hnm hO
  refine x_entry (Nat.le_of_ble_eq_true rfl) (fun ls hl => ?_)
  have hl : lv_has ls 4 [(0, .ref (xa g 0)), (1, .int a1), (2, .int a2), (3, .int a3)] := hl
  have hx := C0.1
  have hb := C0.2.1
  have hown := C0.2.2.2.2.2.1
  have hts := C0.2.2.2.2.2.2.1
  refine lv_aload_n hx hb dX7_maySit_0 rfl (lv_at hl 0 rfl) ?_
  refine lv_iload_n hx hb dX7_maySit_1 rfl (lv_at hl 3 rfl) ?_
  refine lv_iload_n hx hb dX7_maySit_2 rfl (lv_at hl 1 rfl) ?_
  refine x_calli C0 hO (x_runV (As := [.int a3, .int a1]) (rest := []) C0 hO (kX7_placeOn l g _ a3 a1 σ _ hw) 2 rfl (xRecv C0 hO (j := 0) rfl rfl) gX7_maySit_X7_placeOn rfl rfl rfl hdX7_placeOn ⟨Nat.le_of_ble_eq_true rfl, Nat.le_of_ble_eq_true rfl⟩ hl.1 rfl (Nat.le_of_ble_eq_true rfl) dX7_maySit_3 ⟨Nat.le_of_ble_eq_true rfl, Nat.le_of_ble_eq_true rfl⟩) (fun r1 σ' H locs hw hO => ?_)
  obtain ⟨hσ, hw⟩ := hw
  subst hσ
  refine lv_bipush (v := -9) hx hb dX7_maySit_6 (by decide) ?_
  refine lv_icmp_ne (tgt := 24) hx hb dX7_maySit_8 (by decide) (fun c2 => ?_) (fun c2 => ?_)
  · replace hw := hw.2 c2
    refine lv_iconst (v := 0) hx hb dX7_maySit_24 (by decide) ?_
    exact x_zret C0 hO rfl ⟨rfl, hw⟩ dX7_maySit_25
  · replace hw := hw.1 c2
    refine lv_aload_n hx hb dX7_maySit_11 rfl (lv_at hl 0 rfl) ?_
    refine lv_iload_n hx hb dX7_maySit_12 rfl (lv_at hl 2 rfl) ?_
    refine lv_iload_n hx hb dX7_maySit_13 rfl (lv_at hl 3 rfl) ?_
    refine x_calli C0 hO (x_runV (As := [.int a2, .int a3]) (rest := []) C0 hO (kX7_isTaken l g _ a2 a3 σ _ hw) 2 rfl (xRecv C0 hO (j := 0) rfl rfl) gX7_maySit_X7_isTaken rfl rfl rfl hdX7_isTaken ⟨Nat.le_of_ble_eq_true rfl, Nat.le_of_ble_eq_true rfl⟩ hl.1 rfl (Nat.le_of_ble_eq_true rfl) dX7_maySit_14 ⟨Nat.le_of_ble_eq_true rfl, Nat.le_of_ble_eq_true rfl⟩) (fun r3 σ' H locs hw hO => ?_)
    obtain ⟨hσ, hw⟩ := hw
    subst hσ
    refine lv_if_ne (tgt := 24) hx hb dX7_maySit_17 (by decide) (fun c4 => ?_) (fun c4 => ?_)
    · replace hw := hw.2 c4
      refine lv_iconst (v := 0) hx hb dX7_maySit_24 (by decide) ?_
      exact x_zret C0 hO rfl ⟨rfl, hw⟩ dX7_maySit_25
    · replace hw := hw.1 c4
      refine lv_iconst (v := 1) hx hb dX7_maySit_20 (by decide) ?_
      refine lv_goto (tgt := 25) hx hb dX7_maySit_21 (by decide) ?_
      exact x_zret C0 hO rfl ⟨rfl, hw⟩ dX7_maySit_25
theorem iX7_sit_7 : ∀ w ∈ wsX70, w ∈ wsX7_sit := fun w h => List.mem_cons_of_mem _ (List.mem_append_left _ (List.mem_append_left _ (List.mem_append_left _ (List.mem_append_left _ (List.mem_append_right _ h)))))
theorem hdX7_sit : yX7_sit.cls = RX7 ∧ yX7_sit.cls ≠ "java/lang/invoke/MethodHandle" ∧ yX7_sit.cls ≠ "java/lang/invoke/VarHandle" ∧ (parseMethodDescriptor yX7_sit.desc).map (fun d => d.parameters.length) = some 3 := by decide +kernel
set_option maxHeartbeats 4000000 in
set_option maxRecDepth 100000 in
theorem kX7_sit (l : Launch) (g : XG) (sz : Nat) (a1 : Int32) (a2 : Int32) (a3 : Int32) (σ : XS) (post : Int32 → XS → Prop) (hw : PX7_sit a1 a2 a3 σ post) : xMi l yX7_sit wsX7_sit rmX7_sit 0 0 g sz [.ref (xa g 0), .int a1, .int a2, .int a3] σ post := by
  unfold PX7_sit at hw
  refine x_head (Qc := fun A => va_Qi post (xAt g A) A) (cc := cX7_sit) (maxL := 5) (ret := (some .int)) (by decide) rfl ?_
  intro p e s m below meth c A C0 hnm hO
  refine x_entry (Nat.le_of_ble_eq_true rfl) (fun ls hl => ?_)
  have hl : lv_has ls 5 [(0, .ref (xa g 0)), (1, .int a1), (2, .int a2), (3, .int a3)] := hl
  have hx := C0.1
  have hb := C0.2.1
  have hown := C0.2.2.2.2.2.1
  have hts := C0.2.2.2.2.2.2.1
  refine lv_aload_n hx hb dX7_sit_0 rfl (lv_at hl 0 rfl) ?_
  refine lv_iload_n hx hb dX7_sit_1 rfl (lv_at hl 1 rfl) ?_
  refine x_callq C0 hO (x_runV (As := [.int a1]) (rest := []) C0 hO (kX7_personOf l g _ a1 σ _ hw) 1 rfl (xRecv C0 hO (j := 0) rfl rfl) gX7_sit_X7_personOf rfl rfl rfl hdX7_personOf ⟨Nat.le_of_ble_eq_true rfl, Nat.le_of_ble_eq_true rfl⟩ hl.1 rfl (Nat.le_of_ble_eq_true rfl) dX7_sit_2 ⟨Nat.le_of_ble_eq_true rfl, Nat.le_of_ble_eq_true rfl⟩) (fun r1 σ' H locs hw hO => ?_)
  obtain ⟨hσ, hw⟩ := hw
  subst hσ
  rcases r1 with _ | w2
  · replace hw := hw.1 rfl
    refine W.eq (g2 := F0 m 5 ls [.null]) rfl ?_
    refine lv_astoreN (lv' := [(4, .null), (0, .ref (xa g 0)), (1, .int a1), (2, .int a2), (3, .int a3)]) hx hb dX7_sit_5 hl (by decide) rfl (fun ls hl => ?_)
    refine lv_aloadN hx hb dX7_sit_7 (lv_at hl 0 rfl) ?_
    refine lv_ifnullN (tgt := 20) hx hb dX7_sit_9 (by decide) ?_
    refine lv_iconst (v := -1) hx hb dX7_sit_20 (by decide) ?_
    exact x_iret C0 hO hw dX7_sit_21
  · replace hw := hw.2 w2 rfl
    refine W.eq (g2 := F0 m 5 ls [.ref w2]) rfl ?_
    refine lv_astore (lv' := [(4, .ref w2), (0, .ref (xa g 0)), (1, .int a1), (2, .int a2), (3, .int a3)]) hx hb dX7_sit_5 hl (by decide) rfl (fun ls hl => ?_)
    refine lv_aload hx hb dX7_sit_7 (lv_at hl 0 rfl) ?_
    refine lv_ifnull hx hb dX7_sit_9 ?_
    refine lv_aload_n hx hb dX7_sit_12 rfl (lv_at hl 1 rfl) ?_
    refine lv_iload_n hx hb dX7_sit_13 rfl (lv_at hl 3 rfl) ?_
    refine x_calli C0 hO (x_runV (As := [.int a2]) (rest := []) C0 hO (kX7_isPlace l g _ a2 σ _ hw) 1 rfl (xRecv C0 hO (j := 0) rfl rfl) gX7_sit_X7_isPlace rfl rfl rfl hdX7_isPlace ⟨Nat.le_of_ble_eq_true rfl, Nat.le_of_ble_eq_true rfl⟩ hl.1 rfl (Nat.le_of_ble_eq_true rfl) dX7_sit_14 ⟨Nat.le_of_ble_eq_true rfl, Nat.le_of_ble_eq_true rfl⟩) (fun r3 σ' H locs hw hO => ?_)
    obtain ⟨hσ, hw⟩ := hw
    subst hσ
    refine lv_if_ne (tgt := 22) hx hb dX7_sit_17 (by decide) (fun c4 => ?_) (fun c4 => ?_)
    · replace hw := hw.2 c4
      refine lv_iload_n hx hb dX7_sit_22 rfl (lv_at hl 4 rfl) ?_
      refine x_calli C0 hO (x_runS (As := [.int a3]) (rest := []) C0 hO (kX7_isNight l g _ a3 σ _ hw) 1 rfl gX7_sit_X7_isNight rfl rfl rfl hdX7_isNight.2 ⟨Nat.le_of_ble_eq_true rfl, Nat.le_of_ble_eq_true rfl⟩ hl.1 rfl (Nat.le_of_ble_eq_true rfl) dX7_sit_23 ⟨Nat.le_of_ble_eq_true rfl, Nat.le_of_ble_eq_true rfl⟩) (fun r5 σ' H locs hw hO => ?_)
      obtain ⟨hσ, hw⟩ := hw
      subst hσ
      refine lv_if_ne (tgt := 32) hx hb dX7_sit_26 (by decide) (fun c6 => ?_) (fun c6 => ?_)
      · replace hw := hw.2 c6
        refine lv_aload_n hx hb dX7_sit_32 rfl (lv_at hl 1 rfl) ?_
        refine lv_iload_n hx hb dX7_sit_33 rfl (lv_at hl 2 rfl) ?_
        refine lv_iload_n hx hb dX7_sit_34 rfl (lv_at hl 3 rfl) ?_
        refine lv_iload_n hx hb dX7_sit_35 rfl (lv_at hl 4 rfl) ?_
        refine x_calli C0 hO (x_runV (As := [.int a1, .int a2, .int a3]) (rest := []) C0 hO (kX7_maySit l g _ a1 a2 a3 σ _ hw) 3 rfl (xRecv C0 hO (j := 0) rfl rfl) gX7_sit_X7_maySit rfl rfl rfl hdX7_maySit ⟨Nat.le_of_ble_eq_true rfl, Nat.le_of_ble_eq_true rfl⟩ hl.1 rfl (Nat.le_of_ble_eq_true rfl) dX7_sit_36 ⟨Nat.le_of_ble_eq_true rfl, Nat.le_of_ble_eq_true rfl⟩) (fun r7 σ' H locs hw hO => ?_)
        obtain ⟨hσ, hw⟩ := hw
        subst hσ
        refine lv_if_ne (tgt := 45) hx hb dX7_sit_39 (by decide) (fun c8 => ?_) (fun c8 => ?_)
        · replace hw := hw.2 c8
          refine lv_aload_n hx hb dX7_sit_45 rfl (lv_at hl 1 rfl) ?_
          refine x_getr C0 hO 0 3 4 rfl rfl (by decide) rfl iX7_sit_7 rfl (List.mem_of_getElem? (i := 1) rfl) dX7_sit_46 ?_
          refine lv_iconst (v := 2) hx hb dX7_sit_49 (by decide) ?_
          refine x_calli C0 hO (x_runV (As := [.int (2 : Int32)]) (rest := []) C0 hO (kX5_isFull l g _ (2 : Int32) σ _ hw) 1 rfl (xRecv C0 hO (j := 4) rfl rfl) gX7_sit_X5_isFull rfl rfl rfl hdX5_isFull ⟨Nat.le_of_ble_eq_true rfl, Nat.le_of_ble_eq_true rfl⟩ hl.1 rfl (Nat.le_of_ble_eq_true rfl) dX7_sit_50 ⟨Nat.le_of_ble_eq_true rfl, Nat.le_of_ble_eq_true rfl⟩) (fun r9 σ' H locs hw hO => ?_)
          obtain ⟨hσ, hw⟩ := hw
          subst hσ
          refine lv_if_eq (tgt := 59) hx hb dX7_sit_53 (by decide) (fun c10 => ?_) (fun c10 => ?_)
          · replace hw := hw.1 c10
            refine lv_aload_n hx hb dX7_sit_59 rfl (lv_at hl 1 rfl) ?_
            refine x_getr C0 hO 0 3 4 rfl rfl (by decide) rfl iX7_sit_7 rfl (List.mem_of_getElem? (i := 1) rfl) dX7_sit_60 ?_
            refine lv_iconst (v := 2) hx hb dX7_sit_63 (by decide) ?_
            refine lv_iload_n hx hb dX7_sit_64 rfl (lv_at hl 4 rfl) ?_
            refine lv_iload_n hx hb dX7_sit_65 rfl (lv_at hl 3 rfl) ?_
            refine lv_iload_n hx hb dX7_sit_66 rfl (lv_at hl 2 rfl) ?_
            refine lv_aload hx hb dX7_sit_67 (lv_at hl 0 rfl) ?_
            refine lv_iload_n hx hb dX7_sit_69 rfl (lv_at hl 4 rfl) ?_
            have hpe := hw.1
            rcases hw.2.1 with hk | hk | hk
            · replace hw := hw.2.2.1 hk
              refine x_calli C0 hO (x_runV (As := [.int a3]) (rest := [.int a1, .int a2, .int a3, .int (2 : Int32), .ref (xa g 4)]) C0 hO (kX4_leaves l g _ w2 a3 σ _ hw) 1 rfl (xRecvP C0 hO hpe.1 hk (ci := 4) rfl) gX7_sit_X4_leaves rfl rfl rfl hdX4_leaves ⟨Nat.le_of_ble_eq_true rfl, Nat.le_of_ble_eq_true rfl⟩ hl.1 rfl (Nat.le_of_ble_eq_true rfl) dX7_sit_70 ⟨Nat.le_of_ble_eq_true rfl, Nat.le_of_ble_eq_true rfl⟩) (fun r11 σ' H locs hw hO => ?_)
              obtain ⟨hσ, hw⟩ := hw
              subst hσ
              refine x_calli C0 hO (x_runV (As := [.int (2 : Int32), .int a3, .int a2, .int a1, .int r11]) (rest := []) C0 hO (kX5_add l g _ (2 : Int32) a3 a2 a1 r11 σ _ hw) 5 rfl (xRecv C0 hO (j := 4) rfl rfl) gX7_sit_X5_add rfl rfl rfl hdX5_add ⟨Nat.le_of_ble_eq_true rfl, Nat.le_of_ble_eq_true rfl⟩ hl.1 rfl (Nat.le_of_ble_eq_true rfl) dX7_sit_73 ⟨Nat.le_of_ble_eq_true rfl, Nat.le_of_ble_eq_true rfl⟩) (fun r12 σ13 H locs hw hO => ?_)
              exact x_iret C0 hO hw dX7_sit_76
            · replace hw := hw.2.2.2.1 hk
              refine x_calli C0 hO (x_runO (As := [.int a3]) (rest := [.int a1, .int a2, .int a3, .int (2 : Int32), .ref (xa g 4)]) C0 hO (kX2_leaves l g _ w2 a3 σ _ hw) 1 rfl (xRecvP C0 hO hpe.1 hk (ci := 2) rfl) gX7_sit_X2_leaves_u103X2 rfl rfl rfl (List.mem_of_getElem? (i := 75) rfl) (by decide +kernel) ⟨Nat.le_of_ble_eq_true rfl, Nat.le_of_ble_eq_true rfl⟩ hl.1 rfl (Nat.le_of_ble_eq_true rfl) dX7_sit_70 ⟨Nat.le_of_ble_eq_true rfl, Nat.le_of_ble_eq_true rfl⟩) (fun r14 σ' H locs hw hO => ?_)
              obtain ⟨hσ, hw⟩ := hw
              subst hσ
              refine x_calli C0 hO (x_runV (As := [.int (2 : Int32), .int a3, .int a2, .int a1, .int r14]) (rest := []) C0 hO (kX5_add l g _ (2 : Int32) a3 a2 a1 r14 σ _ hw) 5 rfl (xRecv C0 hO (j := 4) rfl rfl) gX7_sit_X5_add rfl rfl rfl hdX5_add ⟨Nat.le_of_ble_eq_true rfl, Nat.le_of_ble_eq_true rfl⟩ hl.1 rfl (Nat.le_of_ble_eq_true rfl) dX7_sit_73 ⟨Nat.le_of_ble_eq_true rfl, Nat.le_of_ble_eq_true rfl⟩) (fun r15 σ16 H locs hw hO => ?_)
              exact x_iret C0 hO hw dX7_sit_76
            · replace hw := hw.2.2.2.2 hk
              refine x_calli C0 hO (x_runO (As := [.int a3]) (rest := [.int a1, .int a2, .int a3, .int (2 : Int32), .ref (xa g 4)]) C0 hO (kX0_leaves l g _ w2 a3 σ _ hw) 1 rfl (xRecvP C0 hO hpe.1 hk (ci := 0) rfl) gX7_sit_X0_leaves_u103X0 rfl rfl rfl (List.mem_of_getElem? (i := 75) rfl) (by decide +kernel) ⟨Nat.le_of_ble_eq_true rfl, Nat.le_of_ble_eq_true rfl⟩ hl.1 rfl (Nat.le_of_ble_eq_true rfl) dX7_sit_70 ⟨Nat.le_of_ble_eq_true rfl, Nat.le_of_ble_eq_true rfl⟩) (fun r17 σ' H locs hw hO => ?_)
              obtain ⟨hσ, hw⟩ := hw
              subst hσ
              refine x_calli C0 hO (x_runV (As := [.int (2 : Int32), .int a3, .int a2, .int a1, .int r17]) (rest := []) C0 hO (kX5_add l g _ (2 : Int32) a3 a2 a1 r17 σ _ hw) 5 rfl (xRecv C0 hO (j := 4) rfl rfl) gX7_sit_X5_add rfl rfl rfl hdX5_add ⟨Nat.le_of_ble_eq_true rfl, Nat.le_of_ble_eq_true rfl⟩ hl.1 rfl (Nat.le_of_ble_eq_true rfl) dX7_sit_73 ⟨Nat.le_of_ble_eq_true rfl, Nat.le_of_ble_eq_true rfl⟩) (fun r18 σ19 H locs hw hO => ?_)
              exact x_iret C0 hO hw dX7_sit_76
          · replace hw := hw.2 c10
            refine lv_bipush (v := -4) hx hb dX7_sit_56 (by decide) ?_
            exact x_iret C0 hO hw dX7_sit_58
        · replace hw := hw.1 c8
          refine lv_bipush (v := -3) hx hb dX7_sit_42 (by decide) ?_
          exact x_iret C0 hO hw dX7_sit_44
      · replace hw := hw.1 c6
        refine lv_bipush (v := -2) hx hb dX7_sit_29 (by decide) ?_
        exact x_iret C0 hO hw dX7_sit_31
    · replace hw := hw.1 c4
      refine lv_iconst (v := -1) hx hb dX7_sit_20 (by decide) ?_
      exact x_iret C0 hO hw dX7_sit_21
