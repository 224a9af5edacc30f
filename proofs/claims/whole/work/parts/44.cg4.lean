/-! generated: contracts -/
theorem iX7_judge_7 : ∀ w ∈ wsX70, w ∈ wsX7_judge := fun w h => List.mem_cons_of_mem _ (List.mem_append_left _ (List.mem_append_left _ (List.mem_append_right _ h)))
theorem hdX7_judge : yX7_judge.cls = RX7 ∧ yX7_judge.cls ≠ "java/lang/invoke/MethodHandle" ∧ yX7_judge.cls ≠ "java/lang/invoke/VarHandle" ∧ (parseMethodDescriptor yX7_judge.desc).map (fun d => d.parameters.length) = some 4 := by decide +kernel
set_option maxHeartbeats 4000000 in
set_option maxRecDepth 100000 in
theorem lX7_judge_108 {p : Program} {l : Launch} {e : Env} {s : State} {m : MethodId} {args : Array Value} {below : List Frame} {meth : Method} {c : Code} {g : XG} {A : Nat → Prop} (C0 : xC g A wsX7_judge RX7 cX7_judge 7 (some .int) p s m args meth c) (f1 : Int32) (f2 : Int32) (f3 : Int32) (f4 : Int32) (f5 : Nat) (hs5 : isSh f5) (post : Int32 → XS → Prop) (kx : Int32 → XS → Prop)
    (hkx : ∀ (m6 : Int32) (σ : XS) (H : Heap) (locs : List Loc) (ls : Array Slot), kx m6 σ → xO g A s σ H locs → lv_has ls 7 [(0, .ref (xa g 0)), (1, .int f1), (2, .int f2), (3, .int f3), (4, .int f4), (5, .ref (xa g f5)), (6, .int m6)] → W p l e (headSpec wsX7_judge rmX7_judge).room s m args below meth c H locs 0 0 (MQ below (va_Qi post (xAt g A) A) args s 0 0 A) (F0 m 136 ls [])) :
    ∀ (n : Nat) (m6 : Int32) (σ : XS) (H : Heap) (locs : List Loc) (ls : Array Slot), LX7_judge_108 f1 f2 f3 f4 f5 post kx n m6 σ → xO g A s σ H locs → lv_has ls 7 [(0, .ref (xa g 0)), (1, .int f1), (2, .int f2), (3, .int f3), (4, .int f4), (5, .ref (xa g f5)), (6, .int m6)] → W p l e (headSpec wsX7_judge rmX7_judge).room s m args below meth c H locs 0 0 (MQ below (va_Qi post (xAt g A) A) args s 0 0 A) (F0 m 108 ls []) := by
  have hx := C0.1
  have hb := C0.2.1
  have hown := C0.2.2.2.2.2.1
  have hts := C0.2.2.2.2.2.2.1
  intro n
  induction n with
  | zero =>
    intro m6 σ H locs ls hw
    exact hw.elim
  | succ n ih =>
    intro m6 σ H locs ls hw hO hl
    rw [LX7_judge_108] at hw
    refine lv_iload hx hb dX7_judge_108 (lv_at hl 6 rfl) ?_
    refine lv_iload hx hb dX7_judge_110 (lv_at hl 4 rfl) ?_
    refine lv_icmp_ge (tgt := 136) hx hb dX7_judge_112 (by decide) (fun c16 => ?_) (fun c16 => ?_)
    · replace hw := hw.1 c16
      exact hkx _ _ _ _ _ hw hO (lv_sub hl [0, 1, 2, 3, 4, 5, 6] rfl)
    · replace hw := hw.2 c16
      refine lv_aload_n hx hb dX7_judge_115 rfl (lv_at hl 0 rfl) ?_
      refine lv_aload hx hb dX7_judge_116 (lv_at hl 5 rfl) ?_
      refine lv_iload_n hx hb dX7_judge_118 rfl (lv_at hl 3 rfl) ?_
      refine lv_iload hx hb dX7_judge_119 (lv_at hl 6 rfl) ?_
      refine x_calli C0 hO (x_runV (As := [.ref (xa g f5), .int f3, .int m6]) (rest := []) C0 hO (kX7_claimMayBe l g _ f5 f3 m6 hs5 σ _ hw) 3 rfl (xRecv C0 hO (j := 0) rfl rfl) gX7_judge_X7_claimMayBe rfl rfl rfl hdX7_claimMayBe ⟨Nat.le_of_ble_eq_true rfl, Nat.le_of_ble_eq_true rfl⟩ hl.1 rfl (Nat.le_of_ble_eq_true rfl) dX7_judge_121 ⟨Nat.le_of_ble_eq_true rfl, Nat.le_of_ble_eq_true rfl⟩) (fun r17 σ' H locs hw hO => ?_)
      obtain ⟨hσ, hw⟩ := hw
      subst hσ
      refine lv_if_ne (tgt := 130) hx hb dX7_judge_124 (by decide) (fun c18 => ?_) (fun c18 => ?_)
      · replace hw := hw.2 c18
        obtain ⟨x19, ex19⟩ : ∃ z : Int32, z = m6 + 1 := ⟨_, rfl⟩
        replace hw := hw x19 ex19
        refine lv_iinc (v := x19) (lv' := [(6, .int x19), (0, .ref (xa g 0)), (1, .int f1), (2, .int f2), (3, .int f3), (4, .int f4), (5, .ref (xa g f5))]) hx hb dX7_judge_130 hl (k := 6) rfl (by rw [ex19]; rfl) (by decide) rfl (fun ls hl => ?_)
        refine lv_goto (tgt := 108) hx hb dX7_judge_133 (by decide) ?_
        exact ih _ _ _ _ _ hw hO (lv_sub hl [1, 2, 3, 4, 5, 6, 0] rfl)
      · replace hw := hw.1 c18
        refine lv_iload hx hb dX7_judge_127 (lv_at hl 6 rfl) ?_
        exact x_iret C0 hO hw dX7_judge_129
set_option maxHeartbeats 4000000 in
set_option maxRecDepth 100000 in
theorem kX7_judge (l : Launch) (g : XG) (sz : Nat) (a1 : Int32) (a2 : Int32) (a3 : Int32) (a4 : Int32) (σ : XS) (post : Int32 → XS → Prop) (hw : PX7_judge a1 a2 a3 a4 σ post) : xMi l yX7_judge wsX7_judge rmX7_judge 0 0 g sz [.ref (xa g 0), .int a1, .int a2, .int a3, .int a4] σ post := by
  unfold PX7_judge at hw
  refine x_head (Qc := fun A => va_Qi post (xAt g A) A) (cc := cX7_judge) (maxL := 7) (ret := (some .int)) (by decide) rfl ?_
  intro p e s m below meth c A C0 hnm hO
  refine x_entry (Nat.le_of_ble_eq_true rfl) (fun ls hl => ?_)
  have hl : lv_has ls 7 [(0, .ref (xa g 0)), (1, .int a1), (2, .int a2), (3, .int a3), (4, .int a4)] := hl
  have hx := C0.1
  have hb := C0.2.1
  have hown := C0.2.2.2.2.2.1
  have hts := C0.2.2.2.2.2.2.1
  refine lv_aload_n hx hb dX7_judge_0 rfl (lv_at hl 0 rfl) ?_
  refine lv_iconst (v := 0) hx hb dX7_judge_1 (by decide) ?_
  refine x_puti C0 hO 0 8 tyX7 tyX7_ok nmX7 rfl rfl (by decide) rfl iX7_judge_7 rfl rfl rfl (List.mem_of_getElem? (i := 1) rfl) dX7_judge_2 (fun σ1 H locs eσ1 hO => ?_)
  replace hw := hw σ1 eσ1
  refine lv_aload_n hx hb dX7_judge_5 rfl (lv_at hl 0 rfl) ?_
  refine lv_iload_n hx hb dX7_judge_6 rfl (lv_at hl 1 rfl) ?_
  refine x_callq C0 hO (x_runV (As := [.int a1]) (rest := []) C0 hO (kX7_sheetOf l g _ a1 σ1 _ hw) 1 rfl (xRecv C0 hO (j := 0) rfl rfl) gX7_judge_X7_sheetOf rfl rfl rfl hdX7_sheetOf ⟨Nat.le_of_ble_eq_true rfl, Nat.le_of_ble_eq_true rfl⟩ hl.1 rfl (Nat.le_of_ble_eq_true rfl) dX7_judge_7 ⟨Nat.le_of_ble_eq_true rfl, Nat.le_of_ble_eq_true rfl⟩) (fun r2 σ' H locs hw hO => ?_)
  obtain ⟨hσ, hw⟩ := hw
  subst hσ
  obtain ⟨o, hr, hw⟩ := hw
  subst hr
  rcases o with _ | u3
  · replace hw := hw.1 rfl
    refine W.eq (g2 := F0 m 10 ls [.null]) rfl ?_
    refine lv_astoreN (lv' := [(5, .null), (0, .ref (xa g 0)), (1, .int a1), (2, .int a2), (3, .int a3), (4, .int a4)]) hx hb dX7_judge_10 hl (by decide) rfl (fun ls hl => ?_)
    refine lv_aloadN hx hb dX7_judge_12 (lv_at hl 0 rfl) ?_
    refine lv_ifnonnullN hx hb dX7_judge_14 ?_
    refine lv_iconst (v := -1) hx hb dX7_judge_17 (by decide) ?_
    exact x_iret C0 hO hw dX7_judge_18
  · have hs_u3 := (hw.2 u3 rfl).1
    replace hw := (hw.2 u3 rfl).2
    refine W.eq (g2 := F0 m 10 ls [.ref (xa g u3)]) rfl ?_
    refine lv_astore (lv' := [(5, .ref (xa g u3)), (0, .ref (xa g 0)), (1, .int a1), (2, .int a2), (3, .int a3), (4, .int a4)]) hx hb dX7_judge_10 hl (by decide) rfl (fun ls hl => ?_)
    refine lv_aload hx hb dX7_judge_12 (lv_at hl 0 rfl) ?_
    refine lv_ifnonnull (tgt := 19) hx hb dX7_judge_14 (by decide) ?_
    refine lv_iload_n hx hb dX7_judge_19 rfl (lv_at hl 3 rfl) ?_
    refine x_calli C0 hO (x_runS (As := [.int a2]) (rest := []) C0 hO (kX7_isLane l g _ a2 σ1 _ hw) 1 rfl gX7_judge_X7_isLane rfl rfl rfl hdX7_isLane.2 ⟨Nat.le_of_ble_eq_true rfl, Nat.le_of_ble_eq_true rfl⟩ hl.1 rfl (Nat.le_of_ble_eq_true rfl) dX7_judge_20 ⟨Nat.le_of_ble_eq_true rfl, Nat.le_of_ble_eq_true rfl⟩) (fun r4 σ' H locs hw hO => ?_)
    obtain ⟨hσ, hw⟩ := hw
    subst hσ
    refine lv_if_eq (tgt := 38) hx hb dX7_judge_23 (by decide) (fun c5 => ?_) (fun c5 => ?_)
    · replace hw := hw.1 c5
      refine lv_bipush (v := -2) hx hb dX7_judge_38 (by decide) ?_
      exact x_iret C0 hO hw dX7_judge_40
    · replace hw := hw.2 c5
      refine lv_iload hx hb dX7_judge_26 (lv_at hl 5 rfl) ?_
      refine lv_if_lt (tgt := 38) hx hb dX7_judge_28 (by decide) (fun c6 => ?_) (fun c6 => ?_)
      · replace hw := hw.1 c6
        refine lv_bipush (v := -2) hx hb dX7_judge_38 (by decide) ?_
        exact x_iret C0 hO hw dX7_judge_40
      · replace hw := hw.2 c6
        refine lv_iload hx hb dX7_judge_31 (lv_at hl 5 rfl) ?_
        refine lv_bipush (v := 20) hx hb dX7_judge_33 (by decide) ?_
        refine lv_icmp_le (tgt := 41) hx hb dX7_judge_35 (by decide) (fun c7 => ?_) (fun c7 => ?_)
        · replace hw := hw.1 c7
          refine lv_aload_n hx hb dX7_judge_41 rfl (lv_at hl 1 rfl) ?_
          refine x_calli C0 hO (x_runV (As := []) (rest := []) C0 hO (kX7_hasHall l g _  σ1 _ hw) 0 rfl (xRecv C0 hO (j := 0) rfl rfl) gX7_judge_X7_hasHall rfl rfl rfl hdX7_hasHall ⟨Nat.le_of_ble_eq_true rfl, Nat.le_of_ble_eq_true rfl⟩ hl.1 rfl (Nat.le_of_ble_eq_true rfl) dX7_judge_42 ⟨Nat.le_of_ble_eq_true rfl, Nat.le_of_ble_eq_true rfl⟩) (fun r8 σ' H locs hw hO => ?_)
          obtain ⟨hσ, hw⟩ := hw
          subst hσ
          refine lv_if_ne (tgt := 51) hx hb dX7_judge_45 (by decide) (fun c9 => ?_) (fun c9 => ?_)
          · replace hw := hw.2 c9
            refine lv_aload hx hb dX7_judge_51 (lv_at hl 0 rfl) ?_
            refine lv_iload_n hx hb dX7_judge_53 rfl (lv_at hl 3 rfl) ?_
            refine x_calli C0 hO (x_runV (As := [.int a2]) (rest := []) C0 hO (kX3_faultAs l g _ u3 hs_u3 a2 σ1 _ hw) 1 rfl (xRecv C0 hO (j := u3) hs_u3.1 rfl) gX7_judge_X3_faultAs rfl rfl rfl hdX3_faultAs ⟨Nat.le_of_ble_eq_true rfl, Nat.le_of_ble_eq_true rfl⟩ hl.1 rfl (Nat.le_of_ble_eq_true rfl) dX7_judge_54 ⟨Nat.le_of_ble_eq_true rfl, Nat.le_of_ble_eq_true rfl⟩) (fun r10 σ' H locs hw hO => ?_)
            obtain ⟨hσ, hw⟩ := hw
            subst hσ
            refine lv_if_eq (tgt := 71) hx hb dX7_judge_57 (by decide) (fun c11 => ?_) (fun c11 => ?_)
            · replace hw := hw.1 c11
              refine lv_aload hx hb dX7_judge_71 (lv_at hl 0 rfl) ?_
              refine lv_iload_n hx hb dX7_judge_73 rfl (lv_at hl 4 rfl) ?_
              refine lv_iconst (v := 3) hx hb dX7_judge_74 (by decide) ?_
              refine lv_iload hx hb dX7_judge_75 (lv_at hl 5 rfl) ?_
              refine lv_imul hx hb dX7_judge_77 ?_
              refine x_calli C0 hO (x_runV (As := [.int a3, .int ((3 : Int32) * a4)]) (rest := []) C0 hO (kX3_reaches l g _ u3 hs_u3 a3 ((3 : Int32) * a4) σ1 _ hw) 2 rfl (xRecv C0 hO (j := u3) hs_u3.1 rfl) gX7_judge_X3_reaches rfl rfl rfl hdX3_reaches ⟨Nat.le_of_ble_eq_true rfl, Nat.le_of_ble_eq_true rfl⟩ hl.1 rfl (Nat.le_of_ble_eq_true rfl) dX7_judge_78 ⟨Nat.le_of_ble_eq_true rfl, Nat.le_of_ble_eq_true rfl⟩) (fun r12 σ' H locs hw hO => ?_)
              obtain ⟨hσ, hw⟩ := hw
              subst hσ
              refine lv_if_ne (tgt := 90) hx hb dX7_judge_81 (by decide) (fun c13 => ?_) (fun c13 => ?_)
              · replace hw := hw.2 c13
                refine lv_aload_n hx hb dX7_judge_90 rfl (lv_at hl 1 rfl) ?_
                refine lv_aload hx hb dX7_judge_91 (lv_at hl 0 rfl) ?_
                refine lv_iload_n hx hb dX7_judge_93 rfl (lv_at hl 4 rfl) ?_
                refine lv_iload hx hb dX7_judge_94 (lv_at hl 5 rfl) ?_
                refine x_calli C0 hO (x_runV (As := [.ref (xa g u3), .int a3, .int a4]) (rest := []) C0 hO (kX7_areClaims l g _ u3 a3 a4 hs_u3 σ1 _ hw) 3 rfl (xRecv C0 hO (j := 0) rfl rfl) gX7_judge_X7_areClaims rfl rfl rfl hdX7_areClaims ⟨Nat.le_of_ble_eq_true rfl, Nat.le_of_ble_eq_true rfl⟩ hl.1 rfl (Nat.le_of_ble_eq_true rfl) dX7_judge_96 ⟨Nat.le_of_ble_eq_true rfl, Nat.le_of_ble_eq_true rfl⟩) (fun r14 σ' H locs hw hO => ?_)
                obtain ⟨hσ, hw⟩ := hw
                subst hσ
                refine lv_if_ne (tgt := 105) hx hb dX7_judge_99 (by decide) (fun c15 => ?_) (fun c15 => ?_)
                · replace hw := hw.2 c15
                  refine lv_iconst (v := 0) hx hb dX7_judge_105 (by decide) ?_
                  refine lv_istore (lv' := [(6, .int (0 : Int32)), (5, .ref (xa g u3)), (0, .ref (xa g 0)), (1, .int a1), (2, .int a2), (3, .int a3), (4, .int a4)]) hx hb dX7_judge_106 hl (by decide) rfl (fun ls hl => ?_)
                  refine lX7_judge_108 C0 a1 a2 a3 a4 u3 hs_u3 post _ (fun x20 σ21 H locs ls hw hO hl => ?_) 1000 _ _ _ _ _ hw hO (lv_sub hl [2, 3, 4, 5, 6, 1, 0] rfl)
                  refine lv_bipush (v := -9) hx hb dX7_judge_136 (by decide) ?_
                  exact x_iret C0 hO hw dX7_judge_138
                · replace hw := hw.1 c15
                  refine lv_bipush (v := -2) hx hb dX7_judge_102 (by decide) ?_
                  exact x_iret C0 hO hw dX7_judge_104
              · replace hw := hw.1 c13
                refine lv_aload_n hx hb dX7_judge_84 rfl (lv_at hl 1 rfl) ?_
                refine lv_iconst (v := 3) hx hb dX7_judge_85 (by decide) ?_
                refine x_calli C0 hO (x_runV (As := [.int (3 : Int32)]) (rest := []) C0 hO (kX7_fails l g _ (3 : Int32) σ1 _ hw) 1 rfl (xRecv C0 hO (j := 0) rfl rfl) gX7_judge_X7_fails rfl rfl rfl hdX7_fails ⟨Nat.le_of_ble_eq_true rfl, Nat.le_of_ble_eq_true rfl⟩ hl.1 rfl (Nat.le_of_ble_eq_true rfl) dX7_judge_86 ⟨Nat.le_of_ble_eq_true rfl, Nat.le_of_ble_eq_true rfl⟩) (fun r22 σ23 H locs hw hO => ?_)
                exact x_iret C0 hO hw dX7_judge_89
            · replace hw := hw.2 c11
              refine lv_aload_n hx hb dX7_judge_60 rfl (lv_at hl 1 rfl) ?_
              refine lv_aload hx hb dX7_judge_61 (lv_at hl 0 rfl) ?_
              refine lv_iload_n hx hb dX7_judge_63 rfl (lv_at hl 3 rfl) ?_
              refine x_calli C0 hO (x_runV (As := [.int a2]) (rest := [.ref (xa g 0)]) C0 hO (kX3_faultAs l g _ u3 hs_u3 a2 σ1 _ hw) 1 rfl (xRecv C0 hO (j := u3) hs_u3.1 rfl) gX7_judge_X3_faultAs rfl rfl rfl hdX3_faultAs ⟨Nat.le_of_ble_eq_true rfl, Nat.le_of_ble_eq_true rfl⟩ hl.1 rfl (Nat.le_of_ble_eq_true rfl) dX7_judge_64 ⟨Nat.le_of_ble_eq_true rfl, Nat.le_of_ble_eq_true rfl⟩) (fun r24 σ' H locs hw hO => ?_)
              obtain ⟨hσ, hw⟩ := hw
              subst hσ
              refine x_calli C0 hO (x_runV (As := [.int r24]) (rest := []) C0 hO (kX7_fails l g _ r24 σ1 _ hw) 1 rfl (xRecv C0 hO (j := 0) rfl rfl) gX7_judge_X7_fails rfl rfl rfl hdX7_fails ⟨Nat.le_of_ble_eq_true rfl, Nat.le_of_ble_eq_true rfl⟩ hl.1 rfl (Nat.le_of_ble_eq_true rfl) dX7_judge_67 ⟨Nat.le_of_ble_eq_true rfl, Nat.le_of_ble_eq_true rfl⟩) (fun r25 σ26 H locs hw hO => ?_)
              exact x_iret C0 hO hw dX7_judge_70
          · replace hw := hw.1 c9
            refine lv_bipush (v := -3) hx hb dX7_judge_48 (by decide) ?_
            exact x_iret C0 hO hw dX7_judge_50
        · replace hw := hw.2 c7
          refine lv_bipush (v := -2) hx hb dX7_judge_38 (by decide) ?_
          exact x_iret C0 hO hw dX7_judge_40
theorem iX7_reading_7 : ∀ w ∈ wsX70, w ∈ wsX7_reading := fun w h => List.mem_cons_of_mem _ (List.mem_append_left _ (List.mem_append_right _ h))
theorem hdX7_reading : yX7_reading.cls = RX7 ∧ yX7_reading.cls ≠ "java/lang/invoke/MethodHandle" ∧ yX7_reading.cls ≠ "java/lang/invoke/VarHandle" ∧ (parseMethodDescriptor yX7_reading.desc).map (fun d => d.parameters.length) = some 4 := by decide +kernel
set_option maxHeartbeats 4000000 in
set_option maxRecDepth 100000 in
theorem kX7_reading (l : Launch) (g : XG) (sz : Nat) (a1 : Int32) (a2 : Int32) (a3 : Int32) (a4 : Int32) (σ : XS) (post : Int32 → XS → Prop) (hw : PX7_reading a1 a2 a3 a4 σ post) : xMi l yX7_reading wsX7_reading rmX7_reading 0 0 g sz [.ref (xa g 0), .int a1, .int a2, .int a3, .int a4] σ post := by
  unfold PX7_reading at hw
  refine x_head (Qc := fun A => va_Qi post (xAt g A) A) (cc := cX7_reading) (maxL := 5) (ret := (some .int)) (by decide) rfl ?_
  intro p e s m below meth c A C0 hnm hO
  refine x_entry (Nat.le_of_ble_eq_true rfl) (fun ls hl => ?_)
  have hl : lv_has ls 5 [(0, .ref (xa g 0)), (1, .int a1), (2, .int a2), (3, .int a3), (4, .int a4)] := hl
  have hx := C0.1
  have hb := C0.2.1
  have hown := C0.2.2.2.2.2.1
  have hts := C0.2.2.2.2.2.2.1
  refine lv_aload_n hx hb dX7_reading_0 rfl (lv_at hl 0 rfl) ?_
  refine lv_iload_n hx hb dX7_reading_1 rfl (lv_at hl 1 rfl) ?_
  refine x_calli C0 hO (x_runV (As := [.int a1]) (rest := []) C0 hO (kX7_isPlace l g _ a1 σ _ hw) 1 rfl (xRecv C0 hO (j := 0) rfl rfl) gX7_reading_X7_isPlace rfl rfl rfl hdX7_isPlace ⟨Nat.le_of_ble_eq_true rfl, Nat.le_of_ble_eq_true rfl⟩ hl.1 rfl (Nat.le_of_ble_eq_true rfl) dX7_reading_2 ⟨Nat.le_of_ble_eq_true rfl, Nat.le_of_ble_eq_true rfl⟩) (fun r1 σ' H locs hw hO => ?_)
  obtain ⟨hσ, hw⟩ := hw
  subst hσ
  refine lv_if_ne (tgt := 10) hx hb dX7_reading_5 (by decide) (fun c2 => ?_) (fun c2 => ?_)
  · replace hw := hw.2 c2
    refine lv_iload_n hx hb dX7_reading_10 rfl (lv_at hl 2 rfl) ?_
    refine x_calli C0 hO (x_runS (As := [.int a2]) (rest := []) C0 hO (kX7_isNight l g _ a2 σ _ hw) 1 rfl gX7_reading_X7_isNight rfl rfl rfl hdX7_isNight.2 ⟨Nat.le_of_ble_eq_true rfl, Nat.le_of_ble_eq_true rfl⟩ hl.1 rfl (Nat.le_of_ble_eq_true rfl) dX7_reading_11 ⟨Nat.le_of_ble_eq_true rfl, Nat.le_of_ble_eq_true rfl⟩) (fun r3 σ' H locs hw hO => ?_)
    obtain ⟨hσ, hw⟩ := hw
    subst hσ
    refine lv_if_eq (tgt := 27) hx hb dX7_reading_14 (by decide) (fun c4 => ?_) (fun c4 => ?_)
    · replace hw := hw.1 c4
      refine lv_bipush (v := -2) hx hb dX7_reading_27 (by decide) ?_
      exact x_iret C0 hO hw dX7_reading_29
    · replace hw := hw.2 c4
      refine lv_iload_n hx hb dX7_reading_17 rfl (lv_at hl 3 rfl) ?_
      refine lv_if_lt (tgt := 27) hx hb dX7_reading_18 (by decide) (fun c5 => ?_) (fun c5 => ?_)
      · replace hw := hw.1 c5
        refine lv_bipush (v := -2) hx hb dX7_reading_27 (by decide) ?_
        exact x_iret C0 hO hw dX7_reading_29
      · replace hw := hw.2 c5
        refine lv_iload_n hx hb dX7_reading_21 rfl (lv_at hl 3 rfl) ?_
        refine lv_bipush (v := 9) hx hb dX7_reading_22 (by decide) ?_
        refine lv_icmp_le (tgt := 30) hx hb dX7_reading_24 (by decide) (fun c6 => ?_) (fun c6 => ?_)
        · replace hw := hw.1 c6
          refine lv_iload hx hb dX7_reading_30 (lv_at hl 4 rfl) ?_
          refine x_calli C0 hO (x_runS (As := [.int a4]) (rest := []) C0 hO (kX7_isGum l g _ a4 σ _ hw) 1 rfl gX7_reading_X7_isGum rfl rfl rfl hdX7_isGum.2 ⟨Nat.le_of_ble_eq_true rfl, Nat.le_of_ble_eq_true rfl⟩ hl.1 rfl (Nat.le_of_ble_eq_true rfl) dX7_reading_32 ⟨Nat.le_of_ble_eq_true rfl, Nat.le_of_ble_eq_true rfl⟩) (fun r7 σ' H locs hw hO => ?_)
          obtain ⟨hσ, hw⟩ := hw
          subst hσ
          refine lv_if_ne (tgt := 48) hx hb dX7_reading_35 (by decide) (fun c8 => ?_) (fun c8 => ?_)
          · replace hw := hw.2 c8
            refine lv_aload_n hx hb dX7_reading_48 rfl (lv_at hl 0 rfl) ?_
            refine x_getr C0 hO 0 3 4 rfl rfl (by decide) rfl iX7_reading_7 rfl (List.mem_of_getElem? (i := 1) rfl) dX7_reading_49 ?_
            refine lv_iconst (v := 3) hx hb dX7_reading_52 (by decide) ?_
            refine x_calli C0 hO (x_runV (As := [.int (3 : Int32)]) (rest := []) C0 hO (kX5_isFull l g _ (3 : Int32) σ _ hw) 1 rfl (xRecv C0 hO (j := 4) rfl rfl) gX7_reading_X5_isFull rfl rfl rfl hdX5_isFull ⟨Nat.le_of_ble_eq_true rfl, Nat.le_of_ble_eq_true rfl⟩ hl.1 rfl (Nat.le_of_ble_eq_true rfl) dX7_reading_53 ⟨Nat.le_of_ble_eq_true rfl, Nat.le_of_ble_eq_true rfl⟩) (fun r9 σ' H locs hw hO => ?_)
            obtain ⟨hσ, hw⟩ := hw
            subst hσ
            refine lv_if_eq (tgt := 62) hx hb dX7_reading_56 (by decide) (fun c10 => ?_) (fun c10 => ?_)
            · replace hw := hw.1 c10
              refine lv_aload_n hx hb dX7_reading_62 rfl (lv_at hl 0 rfl) ?_
              refine x_getr C0 hO 0 3 4 rfl rfl (by decide) rfl iX7_reading_7 rfl (List.mem_of_getElem? (i := 1) rfl) dX7_reading_63 ?_
              refine lv_iconst (v := 3) hx hb dX7_reading_66 (by decide) ?_
              refine lv_iload_n hx hb dX7_reading_67 rfl (lv_at hl 2 rfl) ?_
              refine lv_iload_n hx hb dX7_reading_68 rfl (lv_at hl 1 rfl) ?_
              refine lv_iload_n hx hb dX7_reading_69 rfl (lv_at hl 3 rfl) ?_
              refine lv_iload hx hb dX7_reading_70 (lv_at hl 4 rfl) ?_
              refine x_calli C0 hO (x_runV (As := [.int (3 : Int32), .int a2, .int a1, .int a3, .int a4]) (rest := []) C0 hO (kX5_add l g _ (3 : Int32) a2 a1 a3 a4 σ _ hw) 5 rfl (xRecv C0 hO (j := 4) rfl rfl) gX7_reading_X5_add rfl rfl rfl hdX5_add ⟨Nat.le_of_ble_eq_true rfl, Nat.le_of_ble_eq_true rfl⟩ hl.1 rfl (Nat.le_of_ble_eq_true rfl) dX7_reading_72 ⟨Nat.le_of_ble_eq_true rfl, Nat.le_of_ble_eq_true rfl⟩) (fun r11 σ12 H locs hw hO => ?_)
              exact x_iret C0 hO hw dX7_reading_75
            · replace hw := hw.2 c10
              refine lv_bipush (v := -4) hx hb dX7_reading_59 (by decide) ?_
              exact x_iret C0 hO hw dX7_reading_61
          · replace hw := hw.1 c8
            refine lv_iload hx hb dX7_reading_38 (lv_at hl 4 rfl) ?_
            refine lv_bipush (v := 9) hx hb dX7_reading_40 (by decide) ?_
            refine lv_icmp_eq (tgt := 48) hx hb dX7_reading_42 (by decide) (fun c13 => ?_) (fun c13 => ?_)
            · replace hw := hw.1 c13
              refine lv_aload_n hx hb dX7_reading_48 rfl (lv_at hl 0 rfl) ?_
              refine x_getr C0 hO 0 3 4 rfl rfl (by decide) rfl iX7_reading_7 rfl (List.mem_of_getElem? (i := 1) rfl) dX7_reading_49 ?_
              refine lv_iconst (v := 3) hx hb dX7_reading_52 (by decide) ?_
              refine x_calli C0 hO (x_runV (As := [.int (3 : Int32)]) (rest := []) C0 hO (kX5_isFull l g _ (3 : Int32) σ _ hw) 1 rfl (xRecv C0 hO (j := 4) rfl rfl) gX7_reading_X5_isFull rfl rfl rfl hdX5_isFull ⟨Nat.le_of_ble_eq_true rfl, Nat.le_of_ble_eq_true rfl⟩ hl.1 rfl (Nat.le_of_ble_eq_true rfl) dX7_reading_53 ⟨Nat.le_of_ble_eq_true rfl, Nat.le_of_ble_eq_true rfl⟩) (fun r14 σ' H locs hw hO => ?_)
              obtain ⟨hσ, hw⟩ := hw
              subst hσ
              refine lv_if_eq (tgt := 62) hx hb dX7_reading_56 (by decide) (fun c15 => ?_) (fun c15 => ?_)
              · replace hw := hw.1 c15
                refine lv_aload_n hx hb dX7_reading_62 rfl (lv_at hl 0 rfl) ?_
                refine x_getr C0 hO 0 3 4 rfl rfl (by decide) rfl iX7_reading_7 rfl (List.mem_of_getElem? (i := 1) rfl) dX7_reading_63 ?_
                refine lv_iconst (v := 3) hx hb dX7_reading_66 (by decide) ?_
                refine lv_iload_n hx hb dX7_reading_67 rfl (lv_at hl 2 rfl) ?_
                refine lv_iload_n hx hb dX7_reading_68 rfl (lv_at hl 1 rfl) ?_
                refine lv_iload_n hx hb dX7_reading_69 rfl (lv_at hl 3 rfl) ?_
                refine lv_iload hx hb dX7_reading_70 (lv_at hl 4 rfl) ?_
                refine x_calli C0 hO (x_runV (As := [.int (3 : Int32), .int a2, .int a1, .int a3, .int a4]) (rest := []) C0 hO (kX5_add l g _ (3 : Int32) a2 a1 a3 a4 σ _ hw) 5 rfl (xRecv C0 hO (j := 4) rfl rfl) gX7_reading_X5_add rfl rfl rfl hdX5_add ⟨Nat.le_of_ble_eq_true rfl, Nat.le_of_ble_eq_true rfl⟩ hl.1 rfl (Nat.le_of_ble_eq_true rfl) dX7_reading_72 ⟨Nat.le_of_ble_eq_true rfl, Nat.le_of_ble_eq_true rfl⟩) (fun r16 σ17 H locs hw hO => ?_)
                exact x_iret C0 hO hw dX7_reading_75
              · replace hw := hw.2 c15
                refine lv_bipush (v := -4) hx hb dX7_reading_59 (by decide) ?_
                exact x_iret C0 hO hw dX7_reading_61
            · replace hw := hw.2 c13
              refine lv_bipush (v := -2) hx hb dX7_reading_45 (by decide) ?_
              exact x_iret C0 hO hw dX7_reading_47
        · replace hw := hw.2 c6
          refine lv_bipush (v := -2) hx hb dX7_reading_27 (by decide) ?_
          exact x_iret C0 hO hw dX7_reading_29
  · replace hw := hw.1 c2
    refine lv_iconst (v := -1) hx hb dX7_reading_8 (by decide) ?_
    exact x_iret C0 hO hw dX7_reading_9
theorem iX7_back_7 : ∀ w ∈ wsX70, w ∈ wsX7_back := fun w h => List.mem_cons_of_mem _ (List.mem_append_left _ (List.mem_append_right _ h))
theorem hdX7_back : yX7_back.cls = RX7 ∧ yX7_back.cls ≠ "java/lang/invoke/MethodHandle" ∧ yX7_back.cls ≠ "java/lang/invoke/VarHandle" ∧ (parseMethodDescriptor yX7_back.desc).map (fun d => d.parameters.length) = some 1 := by decide +kernel
set_option maxHeartbeats 4000000 in
set_option maxRecDepth 100000 in
theorem kX7_back (l : Launch) (g : XG) (sz : Nat) (a1 : Int32) (σ : XS) (post : Int32 → XS → Prop) (hw : PX7_back a1 σ post) : xMi l yX7_back wsX7_back rmX7_back 0 0 g sz [.ref (xa g 0), .int a1] σ post := by
  unfold PX7_back at hw
  refine x_head (Qc := fun A => va_Qi post (xAt g A) A) (cc := cX7_back) (maxL := 2) (ret := (some .int)) (by decide) rfl ?_
  intro p e s m below meth c A C0 hnm hO
  refine x_entry (Nat.le_of_ble_eq_true rfl) (fun ls hl => ?_)
  have hl : lv_has ls 2 [(0, .ref (xa g 0)), (1, .int a1)] := hl
  have hx := C0.1
  have hb := C0.2.1
  have hown := C0.2.2.2.2.2.1
  have hts := C0.2.2.2.2.2.2.1
  refine lv_aload_n hx hb dX7_back_0 rfl (lv_at hl 0 rfl) ?_
  refine x_getr C0 hO 0 3 4 rfl rfl (by decide) rfl iX7_back_7 rfl (List.mem_of_getElem? (i := 1) rfl) dX7_back_1 ?_
  refine lv_iconst (v := 3) hx hb dX7_back_4 (by decide) ?_
  refine lv_iload_n hx hb dX7_back_5 rfl (lv_at hl 1 rfl) ?_
  refine x_calli C0 hO (x_runV (As := [.int (3 : Int32), .int a1]) (rest := []) C0 hO (kX5_takeBack l g _ (3 : Int32) a1 σ _ hw) 2 rfl (xRecv C0 hO (j := 4) rfl rfl) gX7_back_X5_takeBack rfl rfl rfl hdX5_takeBack ⟨Nat.le_of_ble_eq_true rfl, Nat.le_of_ble_eq_true rfl⟩ hl.1 rfl (Nat.le_of_ble_eq_true rfl) dX7_back_6 ⟨Nat.le_of_ble_eq_true rfl, Nat.le_of_ble_eq_true rfl⟩) (fun r1 σ2 H locs hw hO => ?_)
  exact x_iret C0 hO hw dX7_back_9
theorem iX7_isSoWith_7 : ∀ w ∈ wsX70, w ∈ wsX7_isSoWith := fun w h => List.mem_cons_of_mem _ (List.mem_append_left _ (List.mem_append_left _ (List.mem_append_left _ (List.mem_append_left _ (List.mem_append_left _ (List.mem_append_right _ h))))))
theorem hdX7_isSoWith : yX7_isSoWith.cls = RX7 ∧ yX7_isSoWith.cls ≠ "java/lang/invoke/MethodHandle" ∧ yX7_isSoWith.cls ≠ "java/lang/invoke/VarHandle" ∧ (parseMethodDescriptor yX7_isSoWith.desc).map (fun d => d.parameters.length) = some 4 := by decide +kernel
set_option maxHeartbeats 4000000 in
set_option maxRecDepth 100000 in
theorem kX7_isSoWith (l : Launch) (g : XG) (sz : Nat) (a1 : Int32) (a2 : Int32) (a3 : Int32) (a4 : Int32) (σ : XS) (post : Int32 → XS → Prop) (hw : PX7_isSoWith a1 a2 a3 a4 σ post) : xMi l yX7_isSoWith wsX7_isSoWith rmX7_isSoWith 0 0 g sz [.ref (xa g 0), .int a1, .int a2, .int a3, .int a4] σ post := by
  unfold PX7_isSoWith at hw
  refine x_head (Qc := fun A => va_Qi post (xAt g A) A) (cc := cX7_isSoWith) (maxL := 7) (ret := (some .boolean)) (by decide) rfl ?_
  intro p e s m below meth c A C0 hnm hO
  refine x_entry (Nat.le_of_ble_eq_true rfl) (fun ls hl => ?_)
  have hl : lv_has ls 7 [(0, .ref (xa g 0)), (1, .int a1), (2, .int a2), (3, .int a3), (4, .int a4)] := hl
  have hx := C0.1
  have hb := C0.2.1
  have hown := C0.2.2.2.2.2.1
  have hts := C0.2.2.2.2.2.2.1
  refine lv_iload_n hx hb dX7_isSoWith_0 rfl (lv_at hl 1 rfl) ?_
  refine lv_iconst (v := 2) hx hb dX7_isSoWith_1 (by decide) ?_
  refine lv_icmp_ne (tgt := 15) hx hb dX7_isSoWith_2 (by decide) (fun c1 => ?_) (fun c1 => ?_)
  · replace hw := hw.2 c1
    refine lv_iconst (v := 0) hx hb dX7_isSoWith_15 (by decide) ?_
    refine lv_istore (lv' := [(5, .int (0 : Int32)), (0, .ref (xa g 0)), (1, .int a1), (2, .int a2), (3, .int a3), (4, .int a4)]) hx hb dX7_isSoWith_16 hl (by decide) rfl (fun ls hl => ?_)
    refine lv_aload_n hx hb dX7_isSoWith_18 rfl (lv_at hl 1 rfl) ?_
    refine x_getr C0 hO 0 3 4 rfl rfl (by decide) rfl iX7_isSoWith_7 rfl (List.mem_of_getElem? (i := 1) rfl) dX7_isSoWith_19 ?_
    refine lv_iload_n hx hb dX7_isSoWith_22 rfl (lv_at hl 2 rfl) ?_
    refine lv_iload_n hx hb dX7_isSoWith_23 rfl (lv_at hl 3 rfl) ?_
    refine lv_iload_n hx hb dX7_isSoWith_24 rfl (lv_at hl 4 rfl) ?_
    refine lv_iload hx hb dX7_isSoWith_25 (lv_at hl 5 rfl) ?_
    refine lv_iload hx hb dX7_isSoWith_27 (lv_at hl 0 rfl) ?_
    refine x_calli C0 hO (x_runV (As := [.int a1, .int a2, .int a3, .int a4, .int (0 : Int32)]) (rest := []) C0 hO (kX5_add l g _ a1 a2 a3 a4 (0 : Int32) σ _ hw) 5 rfl (xRecv C0 hO (j := 4) rfl rfl) gX7_isSoWith_X5_add rfl rfl rfl hdX5_add ⟨Nat.le_of_ble_eq_true rfl, Nat.le_of_ble_eq_true rfl⟩ hl.1 rfl (Nat.le_of_ble_eq_true rfl) dX7_isSoWith_29 ⟨Nat.le_of_ble_eq_true rfl, Nat.le_of_ble_eq_true rfl⟩) (fun r2 σ3 H locs hw hO => ?_)
    refine lv_pop hx hb dX7_isSoWith_32 rfl ?_
    refine lv_aload_n hx hb dX7_isSoWith_33 rfl (lv_at hl 1 rfl) ?_
    refine x_getr C0 hO 0 3 4 rfl rfl (by decide) rfl iX7_isSoWith_7 rfl (List.mem_of_getElem? (i := 1) rfl) dX7_isSoWith_34 ?_
    refine lv_bipush (v := -9) hx hb dX7_isSoWith_37 (by decide) ?_
    refine lv_aload_n hx hb dX7_isSoWith_39 rfl (lv_at hl 1 rfl) ?_
    refine x_getr C0 hO 0 4 11 rfl rfl (by decide) rfl iX7_isSoWith_7 rfl (List.mem_of_getElem? (i := 2) rfl) dX7_isSoWith_40 ?_
    refine x_calli C0 hO (x_runV (As := [.int (-9 : Int32), .ref (xa g 11)]) (rest := []) C0 hO (kX5_isSoWithout l g _ (-9 : Int32) σ3 _ hw) 2 rfl (xRecv C0 hO (j := 4) rfl rfl) gX7_isSoWith_X5_isSoWithout rfl rfl rfl hdX5_isSoWithout ⟨Nat.le_of_ble_eq_true rfl, Nat.le_of_ble_eq_true rfl⟩ hl.1 rfl (Nat.le_of_ble_eq_true rfl) dX7_isSoWith_43 ⟨Nat.le_of_ble_eq_true rfl, Nat.le_of_ble_eq_true rfl⟩) (fun r4 σ5 H locs hw hO => ?_)
    refine lv_istore (lv' := [(6, .int r4), (5, .int (0 : Int32)), (0, .ref (xa g 0)), (1, .int a1), (2, .int a2), (3, .int a3), (4, .int a4)]) hx hb dX7_isSoWith_46 hl (by decide) rfl (fun ls hl => ?_)
    refine lv_aload_n hx hb dX7_isSoWith_48 rfl (lv_at hl 2 rfl) ?_
    refine x_getr C0 hO 0 3 4 rfl rfl (by decide) rfl iX7_isSoWith_7 rfl (List.mem_of_getElem? (i := 1) rfl) dX7_isSoWith_49 ?_
    refine lv_iload_n hx hb dX7_isSoWith_52 rfl (lv_at hl 3 rfl) ?_
    refine lv_iconst (v := 1) hx hb dX7_isSoWith_53 (by decide) ?_
    refine x_calli C0 hO (x_runV (As := [.int a1, .int (1 : Int32)]) (rest := []) C0 hO (kX5_takeBack l g _ a1 (1 : Int32) σ5 _ hw) 2 rfl (xRecv C0 hO (j := 4) rfl rfl) gX7_isSoWith_X5_takeBack rfl rfl rfl hdX5_takeBack ⟨Nat.le_of_ble_eq_true rfl, Nat.le_of_ble_eq_true rfl⟩ hl.1 rfl (Nat.le_of_ble_eq_true rfl) dX7_isSoWith_54 ⟨Nat.le_of_ble_eq_true rfl, Nat.le_of_ble_eq_true rfl⟩) (fun r6 σ7 H locs hw hO => ?_)
    refine lv_pop hx hb dX7_isSoWith_57 rfl ?_
    refine lv_iload hx hb dX7_isSoWith_58 (lv_at hl 0 rfl) ?_
    exact x_zret C0 hO hw.1 hw.2 dX7_isSoWith_60
  · replace hw := hw.1 c1
    refine lv_aload_n hx hb dX7_isSoWith_5 rfl (lv_at hl 0 rfl) ?_
    refine lv_iload hx hb dX7_isSoWith_6 (lv_at hl 4 rfl) ?_
    refine lv_iload_n hx hb dX7_isSoWith_8 rfl (lv_at hl 2 rfl) ?_
    refine x_calli C0 hO (x_runV (As := [.int a4, .int a2]) (rest := []) C0 hO (kX7_gumLeft l g _ a4 a2 σ _ hw) 2 rfl (xRecv C0 hO (j := 0) rfl rfl) gX7_isSoWith_X7_gumLeft rfl rfl rfl hdX7_gumLeft ⟨Nat.le_of_ble_eq_true rfl, Nat.le_of_ble_eq_true rfl⟩ hl.1 rfl (Nat.le_of_ble_eq_true rfl) dX7_isSoWith_9 ⟨Nat.le_of_ble_eq_true rfl, Nat.le_of_ble_eq_true rfl⟩) (fun r8 σ' H locs hw hO => ?_)
    obtain ⟨hσ, hw⟩ := hw
    subst hσ
    refine lv_goto (tgt := 16) hx hb dX7_isSoWith_12 (by decide) ?_
    refine lv_istore (lv' := [(5, .int r8), (0, .ref (xa g 0)), (1, .int a1), (2, .int a2), (3, .int a3), (4, .int a4)]) hx hb dX7_isSoWith_16 hl (by decide) rfl (fun ls hl => ?_)
    refine lv_aload_n hx hb dX7_isSoWith_18 rfl (lv_at hl 1 rfl) ?_
    refine x_getr C0 hO 0 3 4 rfl rfl (by decide) rfl iX7_isSoWith_7 rfl (List.mem_of_getElem? (i := 1) rfl) dX7_isSoWith_19 ?_
    refine lv_iload_n hx hb dX7_isSoWith_22 rfl (lv_at hl 2 rfl) ?_
    refine lv_iload_n hx hb dX7_isSoWith_23 rfl (lv_at hl 3 rfl) ?_
    refine lv_iload_n hx hb dX7_isSoWith_24 rfl (lv_at hl 4 rfl) ?_
    refine lv_iload hx hb dX7_isSoWith_25 (lv_at hl 5 rfl) ?_
    refine lv_iload hx hb dX7_isSoWith_27 (lv_at hl 0 rfl) ?_
    refine x_calli C0 hO (x_runV (As := [.int a1, .int a2, .int a3, .int a4, .int r8]) (rest := []) C0 hO (kX5_add l g _ a1 a2 a3 a4 r8 σ _ hw) 5 rfl (xRecv C0 hO (j := 4) rfl rfl) gX7_isSoWith_X5_add rfl rfl rfl hdX5_add ⟨Nat.le_of_ble_eq_true rfl, Nat.le_of_ble_eq_true rfl⟩ hl.1 rfl (Nat.le_of_ble_eq_true rfl) dX7_isSoWith_29 ⟨Nat.le_of_ble_eq_true rfl, Nat.le_of_ble_eq_true rfl⟩) (fun r9 σ10 H locs hw hO => ?_)
    refine lv_pop hx hb dX7_isSoWith_32 rfl ?_
    refine lv_aload_n hx hb dX7_isSoWith_33 rfl (lv_at hl 1 rfl) ?_
    refine x_getr C0 hO 0 3 4 rfl rfl (by decide) rfl iX7_isSoWith_7 rfl (List.mem_of_getElem? (i := 1) rfl) dX7_isSoWith_34 ?_
    refine lv_bipush (v := -9) hx hb dX7_isSoWith_37 (by decide) ?_
    refine lv_aload_n hx hb dX7_isSoWith_39 rfl (lv_at hl 1 rfl) ?_
    refine x_getr C0 hO 0 4 11 rfl rfl (by decide) rfl iX7_isSoWith_7 rfl (List.mem_of_getElem? (i := 2) rfl) dX7_isSoWith_40 ?_
    refine x_calli C0 hO (x_runV (As := [.int (-9 : Int32), .ref (xa g 11)]) (rest := []) C0 hO (kX5_isSoWithout l g _ (-9 : Int32) σ10 _ hw) 2 rfl (xRecv C0 hO (j := 4) rfl rfl) gX7_isSoWith_X5_isSoWithout rfl rfl rfl hdX5_isSoWithout ⟨Nat.le_of_ble_eq_true rfl, Nat.le_of_ble_eq_true rfl⟩ hl.1 rfl (Nat.le_of_ble_eq_true rfl) dX7_isSoWith_43 ⟨Nat.le_of_ble_eq_true rfl, Nat.le_of_ble_eq_true rfl⟩) (fun r11 σ12 H locs hw hO => ?_)
    refine lv_istore (lv' := [(6, .int r11), (5, .int r8), (0, .ref (xa g 0)), (1, .int a1), (2, .int a2), (3, .int a3), (4, .int a4)]) hx hb dX7_isSoWith_46 hl (by decide) rfl (fun ls hl => ?_)
    refine lv_aload_n hx hb dX7_isSoWith_48 rfl (lv_at hl 2 rfl) ?_
    refine x_getr C0 hO 0 3 4 rfl rfl (by decide) rfl iX7_isSoWith_7 rfl (List.mem_of_getElem? (i := 1) rfl) dX7_isSoWith_49 ?_
    refine lv_iload_n hx hb dX7_isSoWith_52 rfl (lv_at hl 3 rfl) ?_
    refine lv_iconst (v := 1) hx hb dX7_isSoWith_53 (by decide) ?_
    refine x_calli C0 hO (x_runV (As := [.int a1, .int (1 : Int32)]) (rest := []) C0 hO (kX5_takeBack l g _ a1 (1 : Int32) σ12 _ hw) 2 rfl (xRecv C0 hO (j := 4) rfl rfl) gX7_isSoWith_X5_takeBack rfl rfl rfl hdX5_takeBack ⟨Nat.le_of_ble_eq_true rfl, Nat.le_of_ble_eq_true rfl⟩ hl.1 rfl (Nat.le_of_ble_eq_true rfl) dX7_isSoWith_54 ⟨Nat.le_of_ble_eq_true rfl, Nat.le_of_ble_eq_true rfl⟩) (fun r13 σ14 H locs hw hO => ?_)
    refine lv_pop hx hb dX7_isSoWith_57 rfl ?_
    refine lv_iload hx hb dX7_isSoWith_58 (lv_at hl 0 rfl) ?_
    exact x_zret C0 hO hw.1 hw.2 dX7_isSoWith_60
theorem iX7_sat_7 : ∀ w ∈ wsX70, w ∈ wsX7_sat := fun w h => List.mem_cons_of_mem _ (List.mem_append_left _ (List.mem_append_left _ (List.mem_append_left _ (List.mem_append_left _ (List.mem_append_left _ (List.mem_append_right _ h))))))
theorem hdX7_sat : yX7_sat.cls = RX7 ∧ yX7_sat.cls ≠ "java/lang/invoke/MethodHandle" ∧ yX7_sat.cls ≠ "java/lang/invoke/VarHandle" ∧ (parseMethodDescriptor yX7_sat.desc).map (fun d => d.parameters.length) = some 2 := by decide +kernel
set_option maxHeartbeats 4000000 in
set_option maxRecDepth 100000 in
theorem lX7_sat_25 {p : Program} {l : Launch} {e : Env} {s : State} {m : MethodId} {args : Array Value} {below : List Frame} {meth : Method} {c : Code} {g : XG} {A : Nat → Prop} (C0 : xC g A wsX7_sat RX7 cX7_sat 5 (some .int) p s m args meth c) (f1 : Int32) (f2 : Int32) (post : Int32 → XS → Prop) (kx : Int32 → Int32 → XS → Prop)
    (hkx : ∀ (m3 : Int32) (m4 : Int32) (σ : XS) (H : Heap) (locs : List Loc) (ls : Array Slot), kx m3 m4 σ → xO g A s σ H locs → lv_has ls 5 [(0, .ref (xa g 0)), (1, .int f1), (2, .int f2), (3, .int m3), (4, .int m4)] → W p l e (headSpec wsX7_sat rmX7_sat).room s m args below meth c H locs 0 0 (MQ below (va_Qi post (xAt g A) A) args s 0 0 A) (F0 m 70 ls [])) :
    ∀ (n : Nat) (m3 : Int32) (m4 : Int32) (σ : XS) (H : Heap) (locs : List Loc) (ls : Array Slot), LX7_sat_25 f1 f2 post kx n m3 m4 σ → xO g A s σ H locs → lv_has ls 5 [(0, .ref (xa g 0)), (1, .int f1), (2, .int f2), (3, .int m3), (4, .int m4)] → W p l e (headSpec wsX7_sat rmX7_sat).room s m args below meth c H locs 0 0 (MQ below (va_Qi post (xAt g A) A) args s 0 0 A) (F0 m 25 ls []) := by
  have hx := C0.1
  have hb := C0.2.1
  have hown := C0.2.2.2.2.2.1
  have hts := C0.2.2.2.2.2.2.1
  intro n
  induction n with
  | zero =>
    intro m3 m4 σ H locs ls hw
    exact hw.elim
  | succ n ih =>
    intro m3 m4 σ H locs ls hw hO hl
    rw [LX7_sat_25] at hw
    refine lv_iload hx hb dX7_sat_25 (lv_at hl 4 rfl) ?_
    refine lv_aload_n hx hb dX7_sat_27 rfl (lv_at hl 0 rfl) ?_
    refine x_geti C0 hO 0 6 rfl rfl (by decide) rfl iX7_sat_7 rfl (List.mem_of_getElem? (i := 1) rfl) dX7_sat_28 ?_
    refine lv_icmp_ge (tgt := 70) hx hb dX7_sat_31 (by decide) (fun c5 => ?_) (fun c5 => ?_)
    · replace hw := hw.1 c5
      exact hkx _ _ _ _ _ _ hw hO (lv_sub hl [0, 1, 2, 3, 4] rfl)
    · replace hw := hw.2 c5
      refine lv_aload_n hx hb dX7_sat_34 rfl (lv_at hl 0 rfl) ?_
      refine lv_iload hx hb dX7_sat_35 (lv_at hl 4 rfl) ?_
      refine lv_iload_n hx hb dX7_sat_37 rfl (lv_at hl 1 rfl) ?_
      refine lv_iload_n hx hb dX7_sat_38 rfl (lv_at hl 2 rfl) ?_
      refine x_calli C0 hO (x_runV (As := [.int m4, .int f1, .int f2]) (rest := []) C0 hO (kX7_maySit l g _ m4 f1 f2 σ _ hw) 3 rfl (xRecv C0 hO (j := 0) rfl rfl) gX7_sat_X7_maySit rfl rfl rfl hdX7_maySit ⟨Nat.le_of_ble_eq_true rfl, Nat.le_of_ble_eq_true rfl⟩ hl.1 rfl (Nat.le_of_ble_eq_true rfl) dX7_sat_39 ⟨Nat.le_of_ble_eq_true rfl, Nat.le_of_ble_eq_true rfl⟩) (fun r6 σ' H locs hw hO => ?_)
      obtain ⟨hσ, hw⟩ := hw
      subst hσ
      refine lv_if_eq (tgt := 64) hx hb dX7_sat_42 (by decide) (fun c7 => ?_) (fun c7 => ?_)
      · replace hw := hw.1 c7
        obtain ⟨x8, ex8⟩ : ∃ z : Int32, z = m4 + 1 := ⟨_, rfl⟩
        replace hw := hw x8 ex8
        refine lv_iinc (v := x8) (lv' := [(4, .int x8), (0, .ref (xa g 0)), (1, .int f1), (2, .int f2), (3, .int m3)]) hx hb dX7_sat_64 hl (k := 4) rfl (by rw [ex8]; rfl) (by decide) rfl (fun ls hl => ?_)
        refine lv_goto (tgt := 25) hx hb dX7_sat_67 (by decide) ?_
        exact ih _ _ _ _ _ _ hw hO (lv_sub hl [1, 2, 3, 4, 0] rfl)
      · replace hw := hw.2 c7
        refine lv_aload_n hx hb dX7_sat_45 rfl (lv_at hl 0 rfl) ?_
        refine lv_iconst (v := 2) hx hb dX7_sat_46 (by decide) ?_
        refine lv_iload_n hx hb dX7_sat_47 rfl (lv_at hl 2 rfl) ?_
        refine lv_iload_n hx hb dX7_sat_48 rfl (lv_at hl 1 rfl) ?_
        refine lv_iload hx hb dX7_sat_49 (lv_at hl 4 rfl) ?_
        refine x_calli C0 hO (x_runV (As := [.int (2 : Int32), .int f2, .int f1, .int m4]) (rest := []) C0 hO (kX7_isSoWith l g _ (2 : Int32) f2 f1 m4 σ _ hw) 4 rfl (xRecv C0 hO (j := 0) rfl rfl) gX7_sat_X7_isSoWith rfl rfl rfl hdX7_isSoWith ⟨Nat.le_of_ble_eq_true rfl, Nat.le_of_ble_eq_true rfl⟩ hl.1 rfl (Nat.le_of_ble_eq_true rfl) dX7_sat_51 ⟨Nat.le_of_ble_eq_true rfl, Nat.le_of_ble_eq_true rfl⟩) (fun r9 σ10 H locs hw hO => ?_)
        refine lv_if_eq (tgt := 64) hx hb dX7_sat_54 (by decide) (fun c11 => ?_) (fun c11 => ?_)
        · replace hw := hw.1 c11
          obtain ⟨x12, ex12⟩ : ∃ z : Int32, z = m4 + 1 := ⟨_, rfl⟩
          replace hw := hw x12 ex12
          refine lv_iinc (v := x12) (lv' := [(4, .int x12), (0, .ref (xa g 0)), (1, .int f1), (2, .int f2), (3, .int m3)]) hx hb dX7_sat_64 hl (k := 4) rfl (by rw [ex12]; rfl) (by decide) rfl (fun ls hl => ?_)
          refine lv_goto (tgt := 25) hx hb dX7_sat_67 (by decide) ?_
          exact ih _ _ _ _ _ _ hw hO (lv_sub hl [1, 2, 3, 4, 0] rfl)
        · replace hw := hw.2 c11
          refine lv_iload_n hx hb dX7_sat_57 rfl (lv_at hl 3 rfl) ?_
          refine lv_iconst (v := 1) hx hb dX7_sat_58 (by decide) ?_
          refine lv_iload hx hb dX7_sat_59 (lv_at hl 4 rfl) ?_
          refine lv_ishl hx hb dX7_sat_61 ?_
          refine lv_ior hx hb dX7_sat_62 ?_
          refine lv_topi (fun x13 ex13 => ?_)
          replace hw := hw x13 ex13
          refine lv_istore_n (lv' := [(3, .int x13), (0, .ref (xa g 0)), (1, .int f1), (2, .int f2), (4, .int m4)]) hx hb dX7_sat_63 rfl hl (by decide) rfl (fun ls hl => ?_)
          obtain ⟨x14, ex14⟩ : ∃ z : Int32, z = m4 + 1 := ⟨_, rfl⟩
          replace hw := hw x14 ex14
          refine lv_iinc (v := x14) (lv' := [(4, .int x14), (3, .int x13), (0, .ref (xa g 0)), (1, .int f1), (2, .int f2)]) hx hb dX7_sat_64 hl (k := 4) rfl (by rw [ex14]; rfl) (by decide) rfl (fun ls hl => ?_)
          refine lv_goto (tgt := 25) hx hb dX7_sat_67 (by decide) ?_
          exact ih _ _ _ _ _ _ hw hO (lv_sub hl [2, 3, 4, 1, 0] rfl)
set_option maxHeartbeats 4000000 in
set_option maxRecDepth 100000 in
theorem kX7_sat (l : Launch) (g : XG) (sz : Nat) (a1 : Int32) (a2 : Int32) (σ : XS) (post : Int32 → XS → Prop) (hw : PX7_sat a1 a2 σ post) : xMi l yX7_sat wsX7_sat rmX7_sat 0 0 g sz [.ref (xa g 0), .int a1, .int a2] σ post := by
  unfold PX7_sat at hw
  refine x_head (Qc := fun A => va_Qi post (xAt g A) A) (cc := cX7_sat) (maxL := 5) (ret := (some .int)) (by decide) rfl ?_
  intro p e s m below meth c A C0 hnm hO
  refine x_entry (Nat.le_of_ble_eq_true rfl) (fun ls hl => ?_)
  have hl : lv_has ls 5 [(0, .ref (xa g 0)), (1, .int a1), (2, .int a2)] := hl
  have hx := C0.1
  have hb := C0.2.1
  have hown := C0.2.2.2.2.2.1
  have hts := C0.2.2.2.2.2.2.1
  refine lv_aload_n hx hb dX7_sat_0 rfl (lv_at hl 0 rfl) ?_
  refine lv_iload_n hx hb dX7_sat_1 rfl (lv_at hl 1 rfl) ?_
  refine x_calli C0 hO (x_runV (As := [.int a1]) (rest := []) C0 hO (kX7_isPlace l g _ a1 σ _ hw) 1 rfl (xRecv C0 hO (j := 0) rfl rfl) gX7_sat_X7_isPlace rfl rfl rfl hdX7_isPlace ⟨Nat.le_of_ble_eq_true rfl, Nat.le_of_ble_eq_true rfl⟩ hl.1 rfl (Nat.le_of_ble_eq_true rfl) dX7_sat_2 ⟨Nat.le_of_ble_eq_true rfl, Nat.le_of_ble_eq_true rfl⟩) (fun r1 σ' H locs hw hO => ?_)
  obtain ⟨hσ, hw⟩ := hw
  subst hσ
  refine lv_if_ne (tgt := 10) hx hb dX7_sat_5 (by decide) (fun c2 => ?_) (fun c2 => ?_)
  · replace hw := hw.2 c2
    refine lv_iload_n hx hb dX7_sat_10 rfl (lv_at hl 2 rfl) ?_
    refine x_calli C0 hO (x_runS (As := [.int a2]) (rest := []) C0 hO (kX7_isNight l g _ a2 σ _ hw) 1 rfl gX7_sat_X7_isNight rfl rfl rfl hdX7_isNight.2 ⟨Nat.le_of_ble_eq_true rfl, Nat.le_of_ble_eq_true rfl⟩ hl.1 rfl (Nat.le_of_ble_eq_true rfl) dX7_sat_11 ⟨Nat.le_of_ble_eq_true rfl, Nat.le_of_ble_eq_true rfl⟩) (fun r3 σ' H locs hw hO => ?_)
    obtain ⟨hσ, hw⟩ := hw
    subst hσ
    refine lv_if_ne (tgt := 20) hx hb dX7_sat_14 (by decide) (fun c4 => ?_) (fun c4 => ?_)
    · replace hw := hw.2 c4
      refine lv_iconst (v := 0) hx hb dX7_sat_20 (by decide) ?_
      refine lv_istore_n (lv' := [(3, .int (0 : Int32)), (0, .ref (xa g 0)), (1, .int a1), (2, .int a2)]) hx hb dX7_sat_21 rfl hl (by decide) rfl (fun ls hl => ?_)
      refine lv_iconst (v := 0) hx hb dX7_sat_22 (by decide) ?_
      refine lv_istore (lv' := [(4, .int (0 : Int32)), (3, .int (0 : Int32)), (0, .ref (xa g 0)), (1, .int a1), (2, .int a2)]) hx hb dX7_sat_23 hl (by decide) rfl (fun ls hl => ?_)
      refine lX7_sat_25 C0 a1 a2 post _ (fun x15 x16 σ17 H locs ls hw hO hl => ?_) 1000 _ _ _ _ _ _ hw hO (lv_sub hl [2, 3, 4, 1, 0] rfl)
      refine lv_iload_n hx hb dX7_sat_70 rfl (lv_at hl 3 rfl) ?_
      exact x_iret C0 hO hw dX7_sat_71
    · replace hw := hw.1 c4
      refine lv_bipush (v := -2) hx hb dX7_sat_17 (by decide) ?_
      exact x_iret C0 hO hw dX7_sat_19
  · replace hw := hw.1 c2
    refine lv_iconst (v := -1) hx hb dX7_sat_8 (by decide) ?_
    exact x_iret C0 hO hw dX7_sat_9
theorem iX7_moved_7 : ∀ w ∈ wsX70, w ∈ wsX7_moved := fun w h => List.mem_cons_of_mem _ (List.mem_append_left _ (List.mem_append_left _ (List.mem_append_left _ (List.mem_append_left _ (List.mem_append_left _ (List.mem_append_right _ h))))))
theorem hdX7_moved : yX7_moved.cls = RX7 ∧ yX7_moved.cls ≠ "java/lang/invoke/MethodHandle" ∧ yX7_moved.cls ≠ "java/lang/invoke/VarHandle" ∧ (parseMethodDescriptor yX7_moved.desc).map (fun d => d.parameters.length) = some 1 := by decide +kernel
set_option maxHeartbeats 4000000 in
set_option maxRecDepth 100000 in
theorem lX7_moved_34 {p : Program} {l : Launch} {e : Env} {s : State} {m : MethodId} {args : Array Value} {below : List Frame} {meth : Method} {c : Code} {g : XG} {A : Nat → Prop} (C0 : xC g A wsX7_moved RX7 cX7_moved 4 (some .int) p s m args meth c) (f1 : Int32) (f2 : Int32) (post : Int32 → XS → Prop) (kx : Int32 → XS → Prop)
    (hkx : ∀ (m3 : Int32) (σ : XS) (H : Heap) (locs : List Loc) (ls : Array Slot), kx m3 σ → xO g A s σ H locs → lv_has ls 4 [(0, .ref (xa g 0)), (1, .int f1), (2, .int f2), (3, .int m3)] → W p l e (headSpec wsX7_moved rmX7_moved).room s m args below meth c H locs 0 0 (MQ below (va_Qi post (xAt g A) A) args s 0 0 A) (F0 m 66 ls [])) :
    ∀ (n : Nat) (m3 : Int32) (σ : XS) (H : Heap) (locs : List Loc) (ls : Array Slot), LX7_moved_34 f1 f2 post kx n m3 σ → xO g A s σ H locs → lv_has ls 4 [(0, .ref (xa g 0)), (1, .int f1), (2, .int f2), (3, .int m3)] → W p l e (headSpec wsX7_moved rmX7_moved).room s m args below meth c H locs 0 0 (MQ below (va_Qi post (xAt g A) A) args s 0 0 A) (F0 m 34 ls []) := by
  have hx := C0.1
  have hb := C0.2.1
  have hown := C0.2.2.2.2.2.1
  have hts := C0.2.2.2.2.2.2.1
  intro n
  induction n with
  | zero =>
    intro m3 σ H locs ls hw
    exact hw.elim
  | succ n ih =>
    intro m3 σ H locs ls hw hO hl
    rw [LX7_moved_34] at hw
    refine lv_iload_n hx hb dX7_moved_34 rfl (lv_at hl 3 rfl) ?_
    refine lv_aload_n hx hb dX7_moved_35 rfl (lv_at hl 0 rfl) ?_
    refine x_geti C0 hO 0 7 rfl rfl (by decide) rfl iX7_moved_7 rfl (List.mem_of_getElem? (i := 1) rfl) dX7_moved_36 ?_
    refine lv_icmp_ge (tgt := 66) hx hb dX7_moved_39 (by decide) (fun c7 => ?_) (fun c7 => ?_)
    · replace hw := hw.1 c7
      exact hkx _ _ _ _ _ hw hO (lv_sub hl [0, 1, 2, 3] rfl)
    · replace hw := hw.2 c7
      refine lv_aload_n hx hb dX7_moved_42 rfl (lv_at hl 0 rfl) ?_
      refine lv_iconst (v := 1) hx hb dX7_moved_43 (by decide) ?_
      refine lv_iload_n hx hb dX7_moved_44 rfl (lv_at hl 1 rfl) ?_
      refine lv_iload_n hx hb dX7_moved_45 rfl (lv_at hl 2 rfl) ?_
      refine lv_iload_n hx hb dX7_moved_46 rfl (lv_at hl 3 rfl) ?_
      refine x_calli C0 hO (x_runV (As := [.int (1 : Int32), .int f1, .int f2, .int m3]) (rest := []) C0 hO (kX7_isSoWith l g _ (1 : Int32) f1 f2 m3 σ _ hw) 4 rfl (xRecv C0 hO (j := 0) rfl rfl) gX7_moved_X7_isSoWith rfl rfl rfl hdX7_isSoWith ⟨Nat.le_of_ble_eq_true rfl, Nat.le_of_ble_eq_true rfl⟩ hl.1 rfl (Nat.le_of_ble_eq_true rfl) dX7_moved_47 ⟨Nat.le_of_ble_eq_true rfl, Nat.le_of_ble_eq_true rfl⟩) (fun r8 σ9 H locs hw hO => ?_)
      refine lv_if_eq (tgt := 60) hx hb dX7_moved_50 (by decide) (fun c10 => ?_) (fun c10 => ?_)
      · replace hw := hw.1 c10
        obtain ⟨x11, ex11⟩ : ∃ z : Int32, z = m3 + 1 := ⟨_, rfl⟩
        replace hw := hw x11 ex11
        refine lv_iinc (v := x11) (lv' := [(3, .int x11), (0, .ref (xa g 0)), (1, .int f1), (2, .int f2)]) hx hb dX7_moved_60 hl (k := 3) rfl (by rw [ex11]; rfl) (by decide) rfl (fun ls hl => ?_)
        refine lv_goto (tgt := 34) hx hb dX7_moved_63 (by decide) ?_
        exact ih _ _ _ _ _ hw hO (lv_sub hl [1, 2, 3, 0] rfl)
      · replace hw := hw.2 c10
        refine lv_bipush (v := 10) hx hb dX7_moved_53 (by decide) ?_
        refine lv_iload_n hx hb dX7_moved_55 rfl (lv_at hl 2 rfl) ?_
        refine lv_imul hx hb dX7_moved_56 ?_
        refine lv_iload_n hx hb dX7_moved_57 rfl (lv_at hl 3 rfl) ?_
        refine lv_iadd hx hb dX7_moved_58 ?_
        exact x_iret C0 hO hw dX7_moved_59
set_option maxHeartbeats 4000000 in
set_option maxRecDepth 100000 in
theorem lX7_moved_22 {p : Program} {l : Launch} {e : Env} {s : State} {m : MethodId} {args : Array Value} {below : List Frame} {meth : Method} {c : Code} {g : XG} {A : Nat → Prop} (C0 : xC g A wsX7_moved RX7 cX7_moved 4 (some .int) p s m args meth c) (f1 : Int32) (post : Int32 → XS → Prop) (kx : Int32 → XS → Prop)
    (hkx : ∀ (m2 : Int32) (σ : XS) (H : Heap) (locs : List Loc) (ls : Array Slot), kx m2 σ → xO g A s σ H locs → lv_has ls 4 [(0, .ref (xa g 0)), (1, .int f1), (2, .int m2)] → W p l e (headSpec wsX7_moved rmX7_moved).room s m args below meth c H locs 0 0 (MQ below (va_Qi post (xAt g A) A) args s 0 0 A) (F0 m 72 ls [])) :
    ∀ (n : Nat) (m2 : Int32) (σ : XS) (H : Heap) (locs : List Loc) (ls : Array Slot), LX7_moved_22 f1 post kx n m2 σ → xO g A s σ H locs → lv_has ls 4 [(0, .ref (xa g 0)), (1, .int f1), (2, .int m2)] → W p l e (headSpec wsX7_moved rmX7_moved).room s m args below meth c H locs 0 0 (MQ below (va_Qi post (xAt g A) A) args s 0 0 A) (F0 m 22 ls []) := by
  have hx := C0.1
  have hb := C0.2.1
  have hown := C0.2.2.2.2.2.1
  have hts := C0.2.2.2.2.2.2.1
  intro n
  induction n with
  | zero =>
    intro m2 σ H locs ls hw
    exact hw.elim
  | succ n ih =>
    intro m2 σ H locs ls hw hO hl
    rw [LX7_moved_22] at hw
    refine lv_iload_n hx hb dX7_moved_22 rfl (lv_at hl 2 rfl) ?_
    refine lv_aload_n hx hb dX7_moved_23 rfl (lv_at hl 0 rfl) ?_
    refine x_geti C0 hO 0 7 rfl rfl (by decide) rfl iX7_moved_7 rfl (List.mem_of_getElem? (i := 1) rfl) dX7_moved_24 ?_
    refine lv_icmp_ge (tgt := 72) hx hb dX7_moved_27 (by decide) (fun c5 => ?_) (fun c5 => ?_)
    · replace hw := hw.1 c5
      exact hkx _ _ _ _ _ hw hO (lv_sub hl [0, 1, 2] rfl)
    · replace hw := hw.2 c5
      refine lv_iload_n hx hb dX7_moved_30 rfl (lv_at hl 2 rfl) ?_
      refine lv_iconst (v := 1) hx hb dX7_moved_31 (by decide) ?_
      refine lv_iadd hx hb dX7_moved_32 ?_
      refine lv_topi (fun x6 ex6 => ?_)
      replace hw := hw x6 ex6
      refine lv_istore_n (lv' := [(3, .int x6), (0, .ref (xa g 0)), (1, .int f1), (2, .int m2)]) hx hb dX7_moved_33 rfl hl (by decide) rfl (fun ls hl => ?_)
      refine lX7_moved_34 C0 f1 m2 post _ (fun x12 σ13 H locs ls hw hO hl => ?_) 1000 _ _ _ _ _ hw hO (lv_sub hl [1, 2, 3, 0] rfl)
      obtain ⟨x14, ex14⟩ : ∃ z : Int32, z = m2 + 1 := ⟨_, rfl⟩
      replace hw := hw x14 ex14
      refine lv_iinc (v := x14) (lv' := [(2, .int x14), (0, .ref (xa g 0)), (1, .int f1), (3, .int x12)]) hx hb dX7_moved_66 hl (k := 2) rfl (by rw [ex14]; rfl) (by decide) rfl (fun ls hl => ?_)
      refine lv_goto (tgt := 22) hx hb dX7_moved_69 (by decide) ?_
      exact ih _ _ _ _ _ hw hO (lv_sub hl [1, 2, 0] rfl)
set_option maxHeartbeats 4000000 in
set_option maxRecDepth 100000 in
theorem kX7_moved (l : Launch) (g : XG) (sz : Nat) (a1 : Int32) (σ : XS) (post : Int32 → XS → Prop) (hw : PX7_moved a1 σ post) : xMi l yX7_moved wsX7_moved rmX7_moved 0 0 g sz [.ref (xa g 0), .int a1] σ post := by
  unfold PX7_moved at hw
  refine x_head (Qc := fun A => va_Qi post (xAt g A) A) (cc := cX7_moved) (maxL := 4) (ret := (some .int)) (by decide) rfl ?_
  intro p e s m below meth c A C0 hnm hO
  refine x_entry (Nat.le_of_ble_eq_true rfl) (fun ls hl => ?_)
  have hl : lv_has ls 4 [(0, .ref (xa g 0)), (1, .int a1)] := hl
  have hx := C0.1
  have hb := C0.2.1
  have hown := C0.2.2.2.2.2.1
  have hts := C0.2.2.2.2.2.2.1
  refine lv_iload_n hx hb dX7_moved_0 rfl (lv_at hl 1 rfl) ?_
  refine x_calli C0 hO (x_runS (As := [.int a1]) (rest := []) C0 hO (kX7_isNight l g _ a1 σ _ hw) 1 rfl gX7_moved_X7_isNight rfl rfl rfl hdX7_isNight.2 ⟨Nat.le_of_ble_eq_true rfl, Nat.le_of_ble_eq_true rfl⟩ hl.1 rfl (Nat.le_of_ble_eq_true rfl) dX7_moved_1 ⟨Nat.le_of_ble_eq_true rfl, Nat.le_of_ble_eq_true rfl⟩) (fun r1 σ' H locs hw hO => ?_)
  obtain ⟨hσ, hw⟩ := hw
  subst hσ
  refine lv_if_ne (tgt := 10) hx hb dX7_moved_4 (by decide) (fun c2 => ?_) (fun c2 => ?_)
  · replace hw := hw.2 c2
    refine lv_aload_n hx hb dX7_moved_10 rfl (lv_at hl 0 rfl) ?_
    refine x_calli C0 hO (x_runV (As := []) (rest := []) C0 hO (kX7_hasHall l g _  σ _ hw) 0 rfl (xRecv C0 hO (j := 0) rfl rfl) gX7_moved_X7_hasHall rfl rfl rfl hdX7_hasHall ⟨Nat.le_of_ble_eq_true rfl, Nat.le_of_ble_eq_true rfl⟩ hl.1 rfl (Nat.le_of_ble_eq_true rfl) dX7_moved_11 ⟨Nat.le_of_ble_eq_true rfl, Nat.le_of_ble_eq_true rfl⟩) (fun r3 σ' H locs hw hO => ?_)
    obtain ⟨hσ, hw⟩ := hw
    subst hσ
    refine lv_if_ne (tgt := 20) hx hb dX7_moved_14 (by decide) (fun c4 => ?_) (fun c4 => ?_)
    · replace hw := hw.2 c4
      refine lv_iconst (v := 0) hx hb dX7_moved_20 (by decide) ?_
      refine lv_istore_n (lv' := [(2, .int (0 : Int32)), (0, .ref (xa g 0)), (1, .int a1)]) hx hb dX7_moved_21 rfl hl (by decide) rfl (fun ls hl => ?_)
      refine lX7_moved_22 C0 a1 post _ (fun x15 σ16 H locs ls hw hO hl => ?_) 1000 _ _ _ _ _ hw hO (lv_sub hl [1, 2, 0] rfl)
      refine lv_bipush (v := -9) hx hb dX7_moved_72 (by decide) ?_
      exact x_iret C0 hO hw dX7_moved_74
    · replace hw := hw.1 c4
      refine lv_bipush (v := -3) hx hb dX7_moved_17 (by decide) ?_
      exact x_iret C0 hO hw dX7_moved_19
  · replace hw := hw.1 c2
    refine lv_bipush (v := -2) hx hb dX7_moved_7 (by decide) ?_
    exact x_iret C0 hO hw dX7_moved_9
theorem iX7_scraped_7 : ∀ w ∈ wsX70, w ∈ wsX7_scraped := fun w h => List.mem_cons_of_mem _ (List.mem_append_left _ (List.mem_append_left _ (List.mem_append_left _ (List.mem_append_left _ (List.mem_append_left _ (List.mem_append_right _ h))))))
theorem hdX7_scraped : yX7_scraped.cls = RX7 ∧ yX7_scraped.cls ≠ "java/lang/invoke/MethodHandle" ∧ yX7_scraped.cls ≠ "java/lang/invoke/VarHandle" ∧ (parseMethodDescriptor yX7_scraped.desc).map (fun d => d.parameters.length) = some 1 := by decide +kernel
set_option maxHeartbeats 4000000 in
set_option maxRecDepth 100000 in
theorem lX7_scraped_24 {p : Program} {l : Launch} {e : Env} {s : State} {m : MethodId} {args : Array Value} {below : List Frame} {meth : Method} {c : Code} {g : XG} {A : Nat → Prop} (C0 : xC g A wsX7_scraped RX7 cX7_scraped 4 (some .int) p s m args meth c) (f1 : Int32) (post : Int32 → XS → Prop) (kx : Int32 → Int32 → XS → Prop)
    (hkx : ∀ (m2 : Int32) (m3 : Int32) (σ : XS) (H : Heap) (locs : List Loc) (ls : Array Slot), kx m2 m3 σ → xO g A s σ H locs → lv_has ls 4 [(0, .ref (xa g 0)), (1, .int f1), (2, .int m2), (3, .int m3)] → W p l e (headSpec wsX7_scraped rmX7_scraped).room s m args below meth c H locs 0 0 (MQ below (va_Qi post (xAt g A) A) args s 0 0 A) (F0 m 55 ls [])) :
    ∀ (n : Nat) (m2 : Int32) (m3 : Int32) (σ : XS) (H : Heap) (locs : List Loc) (ls : Array Slot), LX7_scraped_24 f1 post kx n m2 m3 σ → xO g A s σ H locs → lv_has ls 4 [(0, .ref (xa g 0)), (1, .int f1), (2, .int m2), (3, .int m3)] → W p l e (headSpec wsX7_scraped rmX7_scraped).room s m args below meth c H locs 0 0 (MQ below (va_Qi post (xAt g A) A) args s 0 0 A) (F0 m 24 ls []) := by
  have hx := C0.1
  have hb := C0.2.1
  have hown := C0.2.2.2.2.2.1
  have hts := C0.2.2.2.2.2.2.1
  intro n
  induction n with
  | zero =>
    intro m2 m3 σ H locs ls hw
    exact hw.elim
  | succ n ih =>
    intro m2 m3 σ H locs ls hw hO hl
    rw [LX7_scraped_24] at hw
    refine lv_iload_n hx hb dX7_scraped_24 rfl (lv_at hl 3 rfl) ?_
    refine lv_aload_n hx hb dX7_scraped_25 rfl (lv_at hl 0 rfl) ?_
    refine x_geti C0 hO 0 7 rfl rfl (by decide) rfl iX7_scraped_7 rfl (List.mem_of_getElem? (i := 1) rfl) dX7_scraped_26 ?_
    refine lv_icmp_ge (tgt := 55) hx hb dX7_scraped_29 (by decide) (fun c5 => ?_) (fun c5 => ?_)
    · replace hw := hw.1 c5
      exact hkx _ _ _ _ _ _ hw hO (lv_sub hl [0, 1, 2, 3] rfl)
    · replace hw := hw.2 c5
      refine lv_aload_n hx hb dX7_scraped_32 rfl (lv_at hl 0 rfl) ?_
      refine lv_iconst (v := 0) hx hb dX7_scraped_33 (by decide) ?_
      refine lv_iload_n hx hb dX7_scraped_34 rfl (lv_at hl 1 rfl) ?_
      refine lv_iload_n hx hb dX7_scraped_35 rfl (lv_at hl 3 rfl) ?_
      refine lv_iconst (v := 0) hx hb dX7_scraped_36 (by decide) ?_
      refine x_calli C0 hO (x_runV (As := [.int (0 : Int32), .int f1, .int m3, .int (0 : Int32)]) (rest := []) C0 hO (kX7_isSoWith l g _ (0 : Int32) f1 m3 (0 : Int32) σ _ hw) 4 rfl (xRecv C0 hO (j := 0) rfl rfl) gX7_scraped_X7_isSoWith rfl rfl rfl hdX7_isSoWith ⟨Nat.le_of_ble_eq_true rfl, Nat.le_of_ble_eq_true rfl⟩ hl.1 rfl (Nat.le_of_ble_eq_true rfl) dX7_scraped_37 ⟨Nat.le_of_ble_eq_true rfl, Nat.le_of_ble_eq_true rfl⟩) (fun r6 σ7 H locs hw hO => ?_)
      refine lv_if_eq (tgt := 49) hx hb dX7_scraped_40 (by decide) (fun c8 => ?_) (fun c8 => ?_)
      · replace hw := hw.1 c8
        obtain ⟨x9, ex9⟩ : ∃ z : Int32, z = m3 + 1 := ⟨_, rfl⟩
        replace hw := hw x9 ex9
        refine lv_iinc (v := x9) (lv' := [(3, .int x9), (0, .ref (xa g 0)), (1, .int f1), (2, .int m2)]) hx hb dX7_scraped_49 hl (k := 3) rfl (by rw [ex9]; rfl) (by decide) rfl (fun ls hl => ?_)
        refine lv_goto (tgt := 24) hx hb dX7_scraped_52 (by decide) ?_
        exact ih _ _ _ _ _ _ hw hO (lv_sub hl [1, 2, 3, 0] rfl)
      · replace hw := hw.2 c8
        refine lv_iload_n hx hb dX7_scraped_43 rfl (lv_at hl 2 rfl) ?_
        refine lv_iconst (v := 1) hx hb dX7_scraped_44 (by decide) ?_
        refine lv_iload_n hx hb dX7_scraped_45 rfl (lv_at hl 3 rfl) ?_
        refine lv_ishl hx hb dX7_scraped_46 ?_
        refine lv_ior hx hb dX7_scraped_47 ?_
        refine lv_topi (fun x10 ex10 => ?_)
        replace hw := hw x10 ex10
        refine lv_istore_n (lv' := [(2, .int x10), (0, .ref (xa g 0)), (1, .int f1), (3, .int m3)]) hx hb dX7_scraped_48 rfl hl (by decide) rfl (fun ls hl => ?_)
        obtain ⟨x11, ex11⟩ : ∃ z : Int32, z = m3 + 1 := ⟨_, rfl⟩
        replace hw := hw x11 ex11
        refine lv_iinc (v := x11) (lv' := [(3, .int x11), (2, .int x10), (0, .ref (xa g 0)), (1, .int f1)]) hx hb dX7_scraped_49 hl (k := 3) rfl (by rw [ex11]; rfl) (by decide) rfl (fun ls hl => ?_)
        refine lv_goto (tgt := 24) hx hb dX7_scraped_52 (by decide) ?_
        exact ih _ _ _ _ _ _ hw hO (lv_sub hl [2, 3, 1, 0] rfl)
set_option maxHeartbeats 4000000 in
set_option maxRecDepth 100000 in
theorem kX7_scraped (l : Launch) (g : XG) (sz : Nat) (a1 : Int32) (σ : XS) (post : Int32 → XS → Prop) (hw : PX7_scraped a1 σ post) : xMi l yX7_scraped wsX7_scraped rmX7_scraped 0 0 g sz [.ref (xa g 0), .int a1] σ post := by
  unfold PX7_scraped at hw
  refine x_head (Qc := fun A => va_Qi post (xAt g A) A) (cc := cX7_scraped) (maxL := 4) (ret := (some .int)) (by decide) rfl ?_
  intro p e s m below meth c A C0 hnm hO
  refine x_entry (Nat.le_of_ble_eq_true rfl) (fun ls hl => ?_)
  have hl : lv_has ls 4 [(0, .ref (xa g 0)), (1, .int a1)] := hl
  have hx := C0.1
  have hb := C0.2.1
  have hown := C0.2.2.2.2.2.1
  have hts := C0.2.2.2.2.2.2.1
  refine lv_iload_n hx hb dX7_scraped_0 rfl (lv_at hl 1 rfl) ?_
  refine x_calli C0 hO (x_runS (As := [.int a1]) (rest := []) C0 hO (kX7_isNight l g _ a1 σ _ hw) 1 rfl gX7_scraped_X7_isNight rfl rfl rfl hdX7_isNight.2 ⟨Nat.le_of_ble_eq_true rfl, Nat.le_of_ble_eq_true rfl⟩ hl.1 rfl (Nat.le_of_ble_eq_true rfl) dX7_scraped_1 ⟨Nat.le_of_ble_eq_true rfl, Nat.le_of_ble_eq_true rfl⟩) (fun r1 σ' H locs hw hO => ?_)
  obtain ⟨hσ, hw⟩ := hw
  subst hσ
  refine lv_if_ne (tgt := 10) hx hb dX7_scraped_4 (by decide) (fun c2 => ?_) (fun c2 => ?_)
  · replace hw := hw.2 c2
    refine lv_aload_n hx hb dX7_scraped_10 rfl (lv_at hl 0 rfl) ?_
    refine x_calli C0 hO (x_runV (As := []) (rest := []) C0 hO (kX7_hasHall l g _  σ _ hw) 0 rfl (xRecv C0 hO (j := 0) rfl rfl) gX7_scraped_X7_hasHall rfl rfl rfl hdX7_hasHall ⟨Nat.le_of_ble_eq_true rfl, Nat.le_of_ble_eq_true rfl⟩ hl.1 rfl (Nat.le_of_ble_eq_true rfl) dX7_scraped_11 ⟨Nat.le_of_ble_eq_true rfl, Nat.le_of_ble_eq_true rfl⟩) (fun r3 σ' H locs hw hO => ?_)
    obtain ⟨hσ, hw⟩ := hw
    subst hσ
    refine lv_if_ne (tgt := 20) hx hb dX7_scraped_14 (by decide) (fun c4 => ?_) (fun c4 => ?_)
    · replace hw := hw.2 c4
      refine lv_iconst (v := 0) hx hb dX7_scraped_20 (by decide) ?_
      refine lv_istore_n (lv' := [(2, .int (0 : Int32)), (0, .ref (xa g 0)), (1, .int a1)]) hx hb dX7_scraped_21 rfl hl (by decide) rfl (fun ls hl => ?_)
      refine lv_iconst (v := 0) hx hb dX7_scraped_22 (by decide) ?_
      refine lv_istore_n (lv' := [(3, .int (0 : Int32)), (2, .int (0 : Int32)), (0, .ref (xa g 0)), (1, .int a1)]) hx hb dX7_scraped_23 rfl hl (by decide) rfl (fun ls hl => ?_)
      refine lX7_scraped_24 C0 a1 post _ (fun x12 x13 σ14 H locs ls hw hO hl => ?_) 1000 _ _ _ _ _ _ hw hO (lv_sub hl [2, 3, 1, 0] rfl)
      refine lv_iload_n hx hb dX7_scraped_55 rfl (lv_at hl 2 rfl) ?_
      exact x_iret C0 hO hw dX7_scraped_56
    · replace hw := hw.1 c4
      refine lv_bipush (v := -3) hx hb dX7_scraped_17 (by decide) ?_
      exact x_iret C0 hO hw dX7_scraped_19
  · replace hw := hw.1 c2
    refine lv_bipush (v := -2) hx hb dX7_scraped_7 (by decide) ?_
    exact x_iret C0 hO hw dX7_scraped_9
theorem iX7_never_7 : ∀ w ∈ wsX70, w ∈ wsX7_never := fun w h => List.mem_cons_of_mem _ (List.mem_append_left _ (List.mem_append_left _ (List.mem_append_right _ h)))
theorem hdX7_never : yX7_never.cls = RX7 ∧ yX7_never.cls ≠ "java/lang/invoke/MethodHandle" ∧ yX7_never.cls ≠ "java/lang/invoke/VarHandle" ∧ (parseMethodDescriptor yX7_never.desc).map (fun d => d.parameters.length) = some 0 := by decide +kernel
set_option maxHeartbeats 4000000 in
set_option maxRecDepth 100000 in
theorem lX7_never_14 {p : Program} {l : Launch} {e : Env} {s : State} {m : MethodId} {args : Array Value} {below : List Frame} {meth : Method} {c : Code} {g : XG} {A : Nat → Prop} (C0 : xC g A wsX7_never RX7 cX7_never 3 (some .int) p s m args meth c) (post : Int32 → XS → Prop) (kx : Int32 → Int32 → XS → Prop)
    (hkx : ∀ (m1 : Int32) (m2 : Int32) (σ : XS) (H : Heap) (locs : List Loc) (ls : Array Slot), kx m1 m2 σ → xO g A s σ H locs → lv_has ls 3 [(0, .ref (xa g 0)), (1, .int m1), (2, .int m2)] → W p l e (headSpec wsX7_never rmX7_never).room s m args below meth c H locs 0 0 (MQ below (va_Qi post (xAt g A) A) args s 0 0 A) (F0 m 53 ls [])) :
    ∀ (n : Nat) (m1 : Int32) (m2 : Int32) (σ : XS) (H : Heap) (locs : List Loc) (ls : Array Slot), LX7_never_14  post kx n m1 m2 σ → xO g A s σ H locs → lv_has ls 3 [(0, .ref (xa g 0)), (1, .int m1), (2, .int m2)] → W p l e (headSpec wsX7_never rmX7_never).room s m args below meth c H locs 0 0 (MQ below (va_Qi post (xAt g A) A) args s 0 0 A) (F0 m 14 ls []) := by
  have hx := C0.1
  have hb := C0.2.1
  have hown := C0.2.2.2.2.2.1
  have hts := C0.2.2.2.2.2.2.1
  intro n
  induction n with
  | zero =>
    intro m1 m2 σ H locs ls hw
    exact hw.elim
  | succ n ih =>
    intro m1 m2 σ H locs ls hw hO hl
    rw [LX7_never_14] at hw
    refine lv_iload_n hx hb dX7_never_14 rfl (lv_at hl 2 rfl) ?_
    refine lv_aload_n hx hb dX7_never_15 rfl (lv_at hl 0 rfl) ?_
    refine x_getr C0 hO 0 3 4 rfl rfl (by decide) rfl iX7_never_7 rfl (List.mem_of_getElem? (i := 1) rfl) dX7_never_16 ?_
    refine lv_iconst (v := 2) hx hb dX7_never_19 (by decide) ?_
    refine x_calli C0 hO (x_runV (As := [.int (2 : Int32)]) (rest := [.int m2]) C0 hO (kX5_count l g _ (2 : Int32) σ _ hw) 1 rfl (xRecv C0 hO (j := 4) rfl rfl) gX7_never_X5_count rfl rfl rfl hdX5_count ⟨Nat.le_of_ble_eq_true rfl, Nat.le_of_ble_eq_true rfl⟩ hl.1 rfl (Nat.le_of_ble_eq_true rfl) dX7_never_20 ⟨Nat.le_of_ble_eq_true rfl, Nat.le_of_ble_eq_true rfl⟩) (fun r3 σ' H locs hw hO => ?_)
    obtain ⟨hσ, hw⟩ := hw
    subst hσ
    refine lv_icmp_ge (tgt := 53) hx hb dX7_never_23 (by decide) (fun c4 => ?_) (fun c4 => ?_)
    · replace hw := hw.1 c4
      exact hkx _ _ _ _ _ _ hw hO (lv_sub hl [0, 1, 2] rfl)
    · replace hw := hw.2 c4
      refine lv_aload_n hx hb dX7_never_26 rfl (lv_at hl 0 rfl) ?_
      refine x_getr C0 hO 0 3 4 rfl rfl (by decide) rfl iX7_never_7 rfl (List.mem_of_getElem? (i := 1) rfl) dX7_never_27 ?_
      refine lv_iload_n hx hb dX7_never_30 rfl (lv_at hl 2 rfl) ?_
      refine lv_aload_n hx hb dX7_never_31 rfl (lv_at hl 0 rfl) ?_
      refine x_getr C0 hO 0 4 11 rfl rfl (by decide) rfl iX7_never_7 rfl (List.mem_of_getElem? (i := 2) rfl) dX7_never_32 ?_
      refine x_calli C0 hO (x_runV (As := [.int m2, .ref (xa g 11)]) (rest := []) C0 hO (kX5_isSoWithout l g _ m2 σ _ hw) 2 rfl (xRecv C0 hO (j := 4) rfl rfl) gX7_never_X5_isSoWithout rfl rfl rfl hdX5_isSoWithout ⟨Nat.le_of_ble_eq_true rfl, Nat.le_of_ble_eq_true rfl⟩ hl.1 rfl (Nat.le_of_ble_eq_true rfl) dX7_never_35 ⟨Nat.le_of_ble_eq_true rfl, Nat.le_of_ble_eq_true rfl⟩) (fun r5 σ6 H locs hw hO => ?_)
      refine lv_if_eq (tgt := 47) hx hb dX7_never_38 (by decide) (fun c7 => ?_) (fun c7 => ?_)
      · replace hw := hw.1 c7
        obtain ⟨x8, ex8⟩ : ∃ z : Int32, z = m2 + 1 := ⟨_, rfl⟩
        replace hw := hw x8 ex8
        refine lv_iinc (v := x8) (lv' := [(2, .int x8), (0, .ref (xa g 0)), (1, .int m1)]) hx hb dX7_never_47 hl (k := 2) rfl (by rw [ex8]; rfl) (by decide) rfl (fun ls hl => ?_)
        refine lv_goto (tgt := 14) hx hb dX7_never_50 (by decide) ?_
        exact ih _ _ _ _ _ _ hw hO (lv_sub hl [1, 2, 0] rfl)
      · replace hw := hw.2 c7
        refine lv_iload_n hx hb dX7_never_41 rfl (lv_at hl 1 rfl) ?_
        refine lv_iconst (v := 1) hx hb dX7_never_42 (by decide) ?_
        refine lv_iload_n hx hb dX7_never_43 rfl (lv_at hl 2 rfl) ?_
        refine lv_ishl hx hb dX7_never_44 ?_
        refine lv_ior hx hb dX7_never_45 ?_
        refine lv_topi (fun x9 ex9 => ?_)
        replace hw := hw x9 ex9
        refine lv_istore_n (lv' := [(1, .int x9), (0, .ref (xa g 0)), (2, .int m2)]) hx hb dX7_never_46 rfl hl (by decide) rfl (fun ls hl => ?_)
        obtain ⟨x10, ex10⟩ : ∃ z : Int32, z = m2 + 1 := ⟨_, rfl⟩
        replace hw := hw x10 ex10
        refine lv_iinc (v := x10) (lv' := [(2, .int x10), (1, .int x9), (0, .ref (xa g 0))]) hx hb dX7_never_47 hl (k := 2) rfl (by rw [ex10]; rfl) (by decide) rfl (fun ls hl => ?_)
        refine lv_goto (tgt := 14) hx hb dX7_never_50 (by decide) ?_
        exact ih _ _ _ _ _ _ hw hO (lv_sub hl [2, 1, 0] rfl)
set_option maxHeartbeats 4000000 in
set_option maxRecDepth 100000 in
theorem kX7_never (l : Launch) (g : XG) (sz : Nat) (σ : XS) (post : Int32 → XS → Prop) (hw : PX7_never  σ post) : xMi l yX7_never wsX7_never rmX7_never 0 0 g sz [.ref (xa g 0)] σ post := by
  unfold PX7_never at hw
  refine x_head (Qc := fun A => va_Qi post (xAt g A) A) (cc := cX7_never) (maxL := 3) (ret := (some .int)) (by decide) rfl ?_
  intro p e s m below meth c A C0 hnm hO
  refine x_entry (Nat.le_of_ble_eq_true rfl) (fun ls hl => ?_)
  have hl : lv_has ls 3 [(0, .ref (xa g 0))] := hl
  have hx := C0.1
  have hb := C0.2.1
  have hown := C0.2.2.2.2.2.1
  have hts := C0.2.2.2.2.2.2.1
  refine lv_aload_n hx hb dX7_never_0 rfl (lv_at hl 0 rfl) ?_
  refine x_calli C0 hO (x_runV (As := []) (rest := []) C0 hO (kX7_hasHall l g _  σ _ hw) 0 rfl (xRecv C0 hO (j := 0) rfl rfl) gX7_never_X7_hasHall rfl rfl rfl hdX7_hasHall ⟨Nat.le_of_ble_eq_true rfl, Nat.le_of_ble_eq_true rfl⟩ hl.1 rfl (Nat.le_of_ble_eq_true rfl) dX7_never_1 ⟨Nat.le_of_ble_eq_true rfl, Nat.le_of_ble_eq_true rfl⟩) (fun r1 σ' H locs hw hO => ?_)
  obtain ⟨hσ, hw⟩ := hw
  subst hσ
  refine lv_if_ne (tgt := 10) hx hb dX7_never_4 (by decide) (fun c2 => ?_) (fun c2 => ?_)
  · replace hw := hw.2 c2
    refine lv_iconst (v := 0) hx hb dX7_never_10 (by decide) ?_
    refine lv_istore_n (lv' := [(1, .int (0 : Int32)), (0, .ref (xa g 0))]) hx hb dX7_never_11 rfl hl (by decide) rfl (fun ls hl => ?_)
    refine lv_iconst (v := 0) hx hb dX7_never_12 (by decide) ?_
    refine lv_istore_n (lv' := [(2, .int (0 : Int32)), (1, .int (0 : Int32)), (0, .ref (xa g 0))]) hx hb dX7_never_13 rfl hl (by decide) rfl (fun ls hl => ?_)
    refine lX7_never_14 C0  post _ (fun x11 x12 σ13 H locs ls hw hO hl => ?_) 1000 _ _ _ _ _ _ hw hO (lv_sub hl [2, 1, 0] rfl)
    refine lv_iload_n hx hb dX7_never_53 rfl (lv_at hl 1 rfl) ?_
    exact x_iret C0 hO hw dX7_never_54
  · replace hw := hw.1 c2
    refine lv_bipush (v := -3) hx hb dX7_never_7 (by decide) ?_
    exact x_iret C0 hO hw dX7_never_9
theorem iX7_seatedOn_7 : ∀ w ∈ wsX70, w ∈ wsX7_seatedOn := fun w h => List.mem_cons_of_mem _ (List.mem_append_left _ (List.mem_append_right _ h))
theorem hdX7_seatedOn : yX7_seatedOn.cls = RX7 ∧ yX7_seatedOn.cls ≠ "java/lang/invoke/MethodHandle" ∧ yX7_seatedOn.cls ≠ "java/lang/invoke/VarHandle" ∧ (parseMethodDescriptor yX7_seatedOn.desc).map (fun d => d.parameters.length) = some 1 := by decide +kernel
set_option maxHeartbeats 4000000 in
set_option maxRecDepth 100000 in
theorem lX7_seatedOn_4 {p : Program} {l : Launch} {e : Env} {s : State} {m : MethodId} {args : Array Value} {below : List Frame} {meth : Method} {c : Code} {g : XG} {A : Nat → Prop} (C0 : xC g A wsX7_seatedOn RX7 cX7_seatedOn 4 (some .int) p s m args meth c) (σ : XS) (f1 : Int32) (post : Int32 → Prop) (kx : Int32 → Int32 → Prop)
    (hkx : ∀ (m2 : Int32) (m3 : Int32) (H : Heap) (locs : List Loc) (ls : Array Slot), kx m2 m3 → xO g A s σ H locs → lv_has ls 4 [(0, .ref (xa g 0)), (1, .int f1), (2, .int m2), (3, .int m3)] → W p l e (headSpec wsX7_seatedOn rmX7_seatedOn).room s m args below meth c H locs 0 0 (MQ below (va_Qi (fun r u => σ = u ∧ post r) (xAt g A) A) args s 0 0 A) (F0 m 37 ls [])) :
    ∀ (n : Nat) (m2 : Int32) (m3 : Int32) (H : Heap) (locs : List Loc) (ls : Array Slot), LX7_seatedOn_4 σ f1 post kx n m2 m3 → xO g A s σ H locs → lv_has ls 4 [(0, .ref (xa g 0)), (1, .int f1), (2, .int m2), (3, .int m3)] → W p l e (headSpec wsX7_seatedOn rmX7_seatedOn).room s m args below meth c H locs 0 0 (MQ below (va_Qi (fun r u => σ = u ∧ post r) (xAt g A) A) args s 0 0 A) (F0 m 4 ls []) := by
  have hx := C0.1
  have hb := C0.2.1
  have hown := C0.2.2.2.2.2.1
  have hts := C0.2.2.2.2.2.2.1
  intro n
  induction n with
  | zero =>
    intro m2 m3 H locs ls hw
    exact hw.elim
  | succ n ih =>
    intro m2 m3 H locs ls hw hO hl
    rw [LX7_seatedOn_4] at hw
    refine lv_iload_n hx hb dX7_seatedOn_4 rfl (lv_at hl 3 rfl) ?_
    refine lv_aload_n hx hb dX7_seatedOn_5 rfl (lv_at hl 0 rfl) ?_
    refine x_getr C0 hO 0 3 4 rfl rfl (by decide) rfl iX7_seatedOn_7 rfl (List.mem_of_getElem? (i := 1) rfl) dX7_seatedOn_6 ?_
    refine lv_iconst (v := 2) hx hb dX7_seatedOn_9 (by decide) ?_
    refine x_calli C0 hO (x_runV (As := [.int (2 : Int32)]) (rest := [.int m3]) C0 hO (kX5_count l g _ (2 : Int32) σ _ hw) 1 rfl (xRecv C0 hO (j := 4) rfl rfl) gX7_seatedOn_X5_count rfl rfl rfl hdX5_count ⟨Nat.le_of_ble_eq_true rfl, Nat.le_of_ble_eq_true rfl⟩ hl.1 rfl (Nat.le_of_ble_eq_true rfl) dX7_seatedOn_10 ⟨Nat.le_of_ble_eq_true rfl, Nat.le_of_ble_eq_true rfl⟩) (fun r1 σ' H locs hw hO => ?_)
    obtain ⟨hσ, hw⟩ := hw
    subst hσ
    refine lv_icmp_ge (tgt := 37) hx hb dX7_seatedOn_13 (by decide) (fun c2 => ?_) (fun c2 => ?_)
    · replace hw := hw.1 c2
      exact hkx _ _ _ _ _ hw hO (lv_sub hl [0, 1, 2, 3] rfl)
    · replace hw := hw.2 c2
      refine lv_aload_n hx hb dX7_seatedOn_16 rfl (lv_at hl 0 rfl) ?_
      refine x_getr C0 hO 0 3 4 rfl rfl (by decide) rfl iX7_seatedOn_7 rfl (List.mem_of_getElem? (i := 1) rfl) dX7_seatedOn_17 ?_
      refine lv_iload_n hx hb dX7_seatedOn_20 rfl (lv_at hl 3 rfl) ?_
      refine x_calli C0 hO (x_runV (As := [.int m3]) (rest := []) C0 hO (kX5_nightOf l g _ m3 σ _ hw) 1 rfl (xRecv C0 hO (j := 4) rfl rfl) gX7_seatedOn_X5_nightOf rfl rfl rfl hdX5_nightOf ⟨Nat.le_of_ble_eq_true rfl, Nat.le_of_ble_eq_true rfl⟩ hl.1 rfl (Nat.le_of_ble_eq_true rfl) dX7_seatedOn_21 ⟨Nat.le_of_ble_eq_true rfl, Nat.le_of_ble_eq_true rfl⟩) (fun r3 σ' H locs hw hO => ?_)
      obtain ⟨hσ, hw⟩ := hw
      subst hσ
      refine lv_iload_n hx hb dX7_seatedOn_24 rfl (lv_at hl 1 rfl) ?_
      refine lv_icmp_ne (tgt := 31) hx hb dX7_seatedOn_25 (by decide) (fun c4 => ?_) (fun c4 => ?_)
      · replace hw := hw.2 c4
        obtain ⟨x5, ex5⟩ : ∃ z : Int32, z = m3 + 1 := ⟨_, rfl⟩
        replace hw := hw x5 ex5
        refine lv_iinc (v := x5) (lv' := [(3, .int x5), (0, .ref (xa g 0)), (1, .int f1), (2, .int m2)]) hx hb dX7_seatedOn_31 hl (k := 3) rfl (by rw [ex5]; rfl) (by decide) rfl (fun ls hl => ?_)
        refine lv_goto (tgt := 4) hx hb dX7_seatedOn_34 (by decide) ?_
        exact ih _ _ _ _ _ hw hO (lv_sub hl [1, 2, 3, 0] rfl)
      · replace hw := hw.1 c4
        obtain ⟨x6, ex6⟩ : ∃ z : Int32, z = m2 + 1 := ⟨_, rfl⟩
        replace hw := hw x6 ex6
        refine lv_iinc (v := x6) (lv' := [(2, .int x6), (0, .ref (xa g 0)), (1, .int f1), (3, .int m3)]) hx hb dX7_seatedOn_28 hl (k := 2) rfl (by rw [ex6]; rfl) (by decide) rfl (fun ls hl => ?_)
        obtain ⟨x7, ex7⟩ : ∃ z : Int32, z = m3 + 1 := ⟨_, rfl⟩
        replace hw := hw x7 ex7
        refine lv_iinc (v := x7) (lv' := [(3, .int x7), (2, .int x6), (0, .ref (xa g 0)), (1, .int f1)]) hx hb dX7_seatedOn_31 hl (k := 3) rfl (by rw [ex7]; rfl) (by decide) rfl (fun ls hl => ?_)
        refine lv_goto (tgt := 4) hx hb dX7_seatedOn_34 (by decide) ?_
        exact ih _ _ _ _ _ hw hO (lv_sub hl [2, 3, 1, 0] rfl)
set_option maxHeartbeats 4000000 in
set_option maxRecDepth 100000 in
theorem kX7_seatedOn (l : Launch) (g : XG) (sz : Nat) (a1 : Int32) (σ : XS) (post : Int32 → Prop) (hw : PX7_seatedOn a1 σ post) : xMi l yX7_seatedOn wsX7_seatedOn rmX7_seatedOn 0 0 g sz [.ref (xa g 0), .int a1] σ (fun r u => σ = u ∧ post r) := by
  unfold PX7_seatedOn at hw
  refine x_head (Qc := fun A => va_Qi (fun r u => σ = u ∧ post r) (xAt g A) A) (cc := cX7_seatedOn) (maxL := 4) (ret := (some .int)) (by decide) rfl ?_
  intro p e s m below meth c A C0 hnm hO
  refine x_entry (Nat.le_of_ble_eq_true rfl) (fun ls hl => ?_)
  have hl : lv_has ls 4 [(0, .ref (xa g 0)), (1, .int a1)] := hl
  have hx := C0.1
  have hb := C0.2.1
  have hown := C0.2.2.2.2.2.1
  have hts := C0.2.2.2.2.2.2.1
  refine lv_iconst (v := 0) hx hb dX7_seatedOn_0 (by decide) ?_
  refine lv_istore_n (lv' := [(2, .int (0 : Int32)), (0, .ref (xa g 0)), (1, .int a1)]) hx hb dX7_seatedOn_1 rfl hl (by decide) rfl (fun ls hl => ?_)
  refine lv_iconst (v := 0) hx hb dX7_seatedOn_2 (by decide) ?_
  refine lv_istore_n (lv' := [(3, .int (0 : Int32)), (2, .int (0 : Int32)), (0, .ref (xa g 0)), (1, .int a1)]) hx hb dX7_seatedOn_3 rfl hl (by decide) rfl (fun ls hl => ?_)
  refine lX7_seatedOn_4 C0 σ a1 post _ (fun x8 x9 H locs ls hw hO hl => ?_) 1000 _ _ _ _ _ hw hO (lv_sub hl [2, 3, 1, 0] rfl)
  refine lv_iload_n hx hb dX7_seatedOn_37 rfl (lv_at hl 2 rfl) ?_
  exact x_iret C0 hO ⟨rfl, hw⟩ dX7_seatedOn_38
theorem iX7_mostAlike_7 : ∀ w ∈ wsX70, w ∈ wsX7_mostAlike := fun w h => List.mem_cons_of_mem _ (List.mem_append_left _ (List.mem_append_left _ (List.mem_append_left _ (List.mem_append_left _ (List.mem_append_right _ h)))))
theorem hdX7_mostAlike : yX7_mostAlike.cls = RX7 ∧ yX7_mostAlike.cls ≠ "java/lang/invoke/MethodHandle" ∧ yX7_mostAlike.cls ≠ "java/lang/invoke/VarHandle" ∧ (parseMethodDescriptor yX7_mostAlike.desc).map (fun d => d.parameters.length) = some 1 := by decide +kernel
set_option maxHeartbeats 4000000 in
set_option maxRecDepth 100000 in
theorem lX7_mostAlike_12 {p : Program} {l : Launch} {e : Env} {s : State} {m : MethodId} {args : Array Value} {below : List Frame} {meth : Method} {c : Code} {g : XG} {A : Nat → Prop} (C0 : xC g A wsX7_mostAlike RX7 cX7_mostAlike 5 (some .int) p s m args meth c) (f1 : Int32) (post : Int32 → XS → Prop) (kx : Int32 → Int32 → XS → Prop)
    (hkx : ∀ (m2 : Int32) (m3 : Int32) (σ : XS) (H : Heap) (locs : List Loc) (ls : Array Slot), kx m2 m3 σ → xO g A s σ H locs → lv_has ls 5 [(0, .ref (xa g 0)), (1, .int f1), (2, .int m2), (3, .int m3)] → W p l e (headSpec wsX7_mostAlike rmX7_mostAlike).room s m args below meth c H locs 0 0 (MQ below (va_Qi post (xAt g A) A) args s 0 0 A) (F0 m 76 ls [])) :
    ∀ (n : Nat) (m2 : Int32) (m3 : Int32) (σ : XS) (H : Heap) (locs : List Loc) (ls : Array Slot), LX7_mostAlike_12 f1 post kx n m2 m3 σ → xO g A s σ H locs → lv_has ls 5 [(0, .ref (xa g 0)), (1, .int f1), (2, .int m2), (3, .int m3)] → W p l e (headSpec wsX7_mostAlike rmX7_mostAlike).room s m args below meth c H locs 0 0 (MQ below (va_Qi post (xAt g A) A) args s 0 0 A) (F0 m 12 ls []) := by
  have hx := C0.1
  have hb := C0.2.1
  have hown := C0.2.2.2.2.2.1
  have hts := C0.2.2.2.2.2.2.1
  intro n
  induction n with
  | zero =>
    intro m2 m3 σ H locs ls hw
    exact hw.elim
  | succ n ih =>
    intro m2 m3 σ H locs ls hw hO hl
    rw [LX7_mostAlike_12] at hw
    refine lv_iload_n hx hb dX7_mostAlike_12 rfl (lv_at hl 3 rfl) ?_
    refine lv_aload_n hx hb dX7_mostAlike_13 rfl (lv_at hl 0 rfl) ?_
    refine x_geti C0 hO 0 6 rfl rfl (by decide) rfl iX7_mostAlike_7 rfl (List.mem_of_getElem? (i := 2) rfl) dX7_mostAlike_14 ?_
    refine lv_icmp_ge (tgt := 76) hx hb dX7_mostAlike_17 (by decide) (fun c2 => ?_) (fun c2 => ?_)
    · replace hw := hw.1 c2
      exact hkx _ _ _ _ _ _ hw hO (lv_sub hl [0, 1, 2, 3] rfl)
    · replace hw := hw.2 c2
      refine lv_aload_n hx hb dX7_mostAlike_20 rfl (lv_at hl 0 rfl) ?_
      refine lv_iload_n hx hb dX7_mostAlike_21 rfl (lv_at hl 3 rfl) ?_
      refine lv_iload_n hx hb dX7_mostAlike_22 rfl (lv_at hl 1 rfl) ?_
      refine x_calli C0 hO (x_runV (As := [.int m3, .int f1]) (rest := []) C0 hO (kX7_gumLeft l g _ m3 f1 σ _ hw) 2 rfl (xRecv C0 hO (j := 0) rfl rfl) gX7_mostAlike_X7_gumLeft rfl rfl rfl hdX7_gumLeft ⟨Nat.le_of_ble_eq_true rfl, Nat.le_of_ble_eq_true rfl⟩ hl.1 rfl (Nat.le_of_ble_eq_true rfl) dX7_mostAlike_23 ⟨Nat.le_of_ble_eq_true rfl, Nat.le_of_ble_eq_true rfl⟩) (fun r3 σ' H locs hw hO => ?_)
      obtain ⟨hσ, hw⟩ := hw
      subst hσ
      refine lv_istore (lv' := [(4, .int r3), (0, .ref (xa g 0)), (1, .int f1), (2, .int m2), (3, .int m3)]) hx hb dX7_mostAlike_26 hl (by decide) rfl (fun ls hl => ?_)
      refine lv_iload hx hb dX7_mostAlike_28 (lv_at hl 0 rfl) ?_
      refine x_calli C0 hO (x_runS (As := [.int r3]) (rest := []) C0 hO (kX7_isGum l g _ r3 σ _ hw) 1 rfl gX7_mostAlike_X7_isGum rfl rfl rfl hdX7_isGum.2 ⟨Nat.le_of_ble_eq_true rfl, Nat.le_of_ble_eq_true rfl⟩ hl.1 rfl (Nat.le_of_ble_eq_true rfl) dX7_mostAlike_30 ⟨Nat.le_of_ble_eq_true rfl, Nat.le_of_ble_eq_true rfl⟩) (fun r4 σ' H locs hw hO => ?_)
      obtain ⟨hσ, hw⟩ := hw
      subst hσ
      refine lv_if_eq (tgt := 70) hx hb dX7_mostAlike_33 (by decide) (fun c5 => ?_) (fun c5 => ?_)
      · replace hw := hw.1 c5
        obtain ⟨x6, ex6⟩ : ∃ z : Int32, z = m3 + 1 := ⟨_, rfl⟩
        replace hw := hw x6 ex6
        refine lv_iinc (v := x6) (lv' := [(3, .int x6), (4, .int r3), (0, .ref (xa g 0)), (1, .int f1), (2, .int m2)]) hx hb dX7_mostAlike_70 hl (k := 4) rfl (by rw [ex6]; rfl) (by decide) rfl (fun ls hl => ?_)
        refine lv_goto (tgt := 12) hx hb dX7_mostAlike_73 (by decide) ?_
        exact ih _ _ _ _ _ _ hw hO (lv_sub hl [2, 3, 4, 0] rfl)
      · replace hw := hw.2 c5
        refine lv_aload_n hx hb dX7_mostAlike_36 rfl (lv_at hl 1 rfl) ?_
        refine lv_iload_n hx hb dX7_mostAlike_37 rfl (lv_at hl 2 rfl) ?_
        refine lv_iload_n hx hb dX7_mostAlike_38 rfl (lv_at hl 4 rfl) ?_
        refine x_calli C0 hO (x_runV (As := [.int f1, .int m3]) (rest := []) C0 hO (kX7_placeOn l g _ f1 m3 σ _ hw) 2 rfl (xRecv C0 hO (j := 0) rfl rfl) gX7_mostAlike_X7_placeOn rfl rfl rfl hdX7_placeOn ⟨Nat.le_of_ble_eq_true rfl, Nat.le_of_ble_eq_true rfl⟩ hl.1 rfl (Nat.le_of_ble_eq_true rfl) dX7_mostAlike_39 ⟨Nat.le_of_ble_eq_true rfl, Nat.le_of_ble_eq_true rfl⟩) (fun r7 σ' H locs hw hO => ?_)
        obtain ⟨hσ, hw⟩ := hw
        subst hσ
        refine lv_bipush (v := -9) hx hb dX7_mostAlike_42 (by decide) ?_
        refine lv_icmp_ne (tgt := 70) hx hb dX7_mostAlike_44 (by decide) (fun c8 => ?_) (fun c8 => ?_)
        · replace hw := hw.2 c8
          obtain ⟨x9, ex9⟩ : ∃ z : Int32, z = m3 + 1 := ⟨_, rfl⟩
          replace hw := hw x9 ex9
          refine lv_iinc (v := x9) (lv' := [(3, .int x9), (4, .int r3), (0, .ref (xa g 0)), (1, .int f1), (2, .int m2)]) hx hb dX7_mostAlike_70 hl (k := 4) rfl (by rw [ex9]; rfl) (by decide) rfl (fun ls hl => ?_)
          refine lv_goto (tgt := 12) hx hb dX7_mostAlike_73 (by decide) ?_
          exact ih _ _ _ _ _ _ hw hO (lv_sub hl [2, 3, 4, 0] rfl)
        · replace hw := hw.1 c8
          refine lv_aload_n hx hb dX7_mostAlike_47 rfl (lv_at hl 1 rfl) ?_
          refine x_getr C0 hO 0 2 3 rfl rfl (by decide) rfl iX7_mostAlike_7 rfl (List.mem_of_getElem? (i := 1) rfl) dX7_mostAlike_48 ?_
          refine lv_iload hx hb dX7_mostAlike_51 (lv_at hl 0 rfl) ?_
          refine lv_dup2_11 hx hb dX7_mostAlike_53 rfl rfl ?_
          refine x_iald C0 hO 3 rfl hw.1 dX7_mostAlike_54 ?_
          replace hw := hw.2
          refine lv_iconst (v := 1) hx hb dX7_mostAlike_55 (by decide) ?_
          refine lv_iadd hx hb dX7_mostAlike_56 ?_
          refine x_iast C0 hO 3 rfl hw.1 dX7_mostAlike_57 (fun σ10 H locs eσ10 hO => ?_)
          replace hw := hw.2 σ10 eσ10
          refine lv_iload_n hx hb dX7_mostAlike_58 rfl (lv_at hl 3 rfl) ?_
          refine lv_aload_n hx hb dX7_mostAlike_59 rfl (lv_at hl 1 rfl) ?_
          refine x_getr C0 hO 0 2 3 rfl rfl (by decide) rfl iX7_mostAlike_7 rfl (List.mem_of_getElem? (i := 1) rfl) dX7_mostAlike_60 ?_
          refine lv_iload hx hb dX7_mostAlike_63 (lv_at hl 0 rfl) ?_
          refine x_iald C0 hO 3 rfl hw.1 dX7_mostAlike_65 ?_
          replace hw := hw.2
          refine va_mmax hx hb (by rw [C0.2.2.2.2.1]; exact hl.1.symm) hown (hts _ (List.mem_of_getElem? (i := 3) rfl)) (hts _ (List.mem_of_getElem? (i := 4) rfl)) (hts _ (List.mem_of_getElem? (i := 5) rfl)) (hts _ (List.mem_of_getElem? (i := 6) rfl)) (Nat.le_of_ble_eq_true rfl) (Nat.le_of_ble_eq_true rfl) (Nat.le_of_ble_eq_true rfl) (Nat.le_of_ble_eq_true rfl) dX7_mostAlike_66 ?_
          refine lv_topi (fun x11 ex11 => ?_)
          replace hw := hw x11 ex11
          refine lv_istore_n (lv' := [(2, .int x11), (4, .int r3), (0, .ref (xa g 0)), (1, .int f1), (3, .int m3)]) hx hb dX7_mostAlike_69 rfl hl (by decide) rfl (fun ls hl => ?_)
          obtain ⟨x12, ex12⟩ : ∃ z : Int32, z = m3 + 1 := ⟨_, rfl⟩
          replace hw := hw x12 ex12
          refine lv_iinc (v := x12) (lv' := [(3, .int x12), (2, .int x11), (4, .int r3), (0, .ref (xa g 0)), (1, .int f1)]) hx hb dX7_mostAlike_70 hl (k := 4) rfl (by rw [ex12]; rfl) (by decide) rfl (fun ls hl => ?_)
          refine lv_goto (tgt := 12) hx hb dX7_mostAlike_73 (by decide) ?_
          exact ih _ _ _ _ _ _ hw hO (lv_sub hl [3, 4, 1, 0] rfl)
set_option maxHeartbeats 4000000 in
set_option maxRecDepth 100000 in
theorem kX7_mostAlike (l : Launch) (g : XG) (sz : Nat) (a1 : Int32) (σ : XS) (post : Int32 → XS → Prop) (hw : PX7_mostAlike a1 σ post) : xMi l yX7_mostAlike wsX7_mostAlike rmX7_mostAlike 0 0 g sz [.ref (xa g 0), .int a1] σ post := by
  unfold PX7_mostAlike at hw
  refine x_head (Qc := fun A => va_Qi post (xAt g A) A) (cc := cX7_mostAlike) (maxL := 5) (ret := (some .int)) (by decide) rfl ?_
  intro p e s m below meth c A C0 hnm hO
  refine x_entry (Nat.le_of_ble_eq_true rfl) (fun ls hl => ?_)
  have hl : lv_has ls 5 [(0, .ref (xa g 0)), (1, .int a1)] := hl
  have hx := C0.1
  have hb := C0.2.1
  have hown := C0.2.2.2.2.2.1
  have hts := C0.2.2.2.2.2.2.1
  refine lv_aload_n hx hb dX7_mostAlike_0 rfl (lv_at hl 0 rfl) ?_
  refine x_getr C0 hO 0 2 3 rfl rfl (by decide) rfl iX7_mostAlike_7 rfl (List.mem_of_getElem? (i := 1) rfl) dX7_mostAlike_1 ?_
  refine lv_iconst (v := 0) hx hb dX7_mostAlike_4 (by decide) ?_
  refine x_callv C0 hO (x_runS (As := [.ref (xa g 3), .int (0 : Int32)]) (rest := []) C0 hO (kJ7_fill_53178 l g _ 3 8 rfl (0 : Int32) σ _ hw) 2 rfl gX7_mostAlike_J7_fill_53178 rfl rfl rfl hdJ7_fill_53178.2 ⟨Nat.le_of_ble_eq_true rfl, Nat.le_of_ble_eq_true rfl⟩ hl.1 rfl (Nat.le_of_ble_eq_true rfl) dX7_mostAlike_5 ⟨Nat.le_of_ble_eq_true rfl, Nat.le_of_ble_eq_true rfl⟩) (fun σ1 H locs hw hO => ?_)
  refine lv_iconst (v := 0) hx hb dX7_mostAlike_8 (by decide) ?_
  refine lv_istore_n (lv' := [(2, .int (0 : Int32)), (0, .ref (xa g 0)), (1, .int a1)]) hx hb dX7_mostAlike_9 rfl hl (by decide) rfl (fun ls hl => ?_)
  refine lv_iconst (v := 0) hx hb dX7_mostAlike_10 (by decide) ?_
  refine lv_istore_n (lv' := [(3, .int (0 : Int32)), (2, .int (0 : Int32)), (0, .ref (xa g 0)), (1, .int a1)]) hx hb dX7_mostAlike_11 rfl hl (by decide) rfl (fun ls hl => ?_)
  refine lX7_mostAlike_12 C0 a1 post _ (fun x13 x14 σ15 H locs ls hw hO hl => ?_) 1000 _ _ _ _ _ _ hw hO (lv_sub hl [2, 3, 1, 0] rfl)
  refine lv_iload_n hx hb dX7_mostAlike_76 rfl (lv_at hl 2 rfl) ?_
  exact x_iret C0 hO hw dX7_mostAlike_77
theorem iX7_telling_7 : ∀ w ∈ wsX70, w ∈ wsX7_telling := fun w h => List.mem_cons_of_mem _ (List.mem_append_left _ (List.mem_append_right _ h))
theorem hdX7_telling : yX7_telling.cls = RX7 ∧ yX7_telling.cls ≠ "java/lang/invoke/MethodHandle" ∧ yX7_telling.cls ≠ "java/lang/invoke/VarHandle" ∧ (parseMethodDescriptor yX7_telling.desc).map (fun d => d.parameters.length) = some 2 := by decide +kernel
set_option maxHeartbeats 4000000 in
set_option maxRecDepth 100000 in
theorem lX7_telling_5 {p : Program} {l : Launch} {e : Env} {s : State} {m : MethodId} {args : Array Value} {below : List Frame} {meth : Method} {c : Code} {g : XG} {A : Nat → Prop} (C0 : xC g A wsX7_telling RX7 cX7_telling 6 (some .int) p s m args meth c) (σ : XS) (f1 : Int32) (f2 : Int32) (post : Int32 → Prop) (kx : Int32 → Int32 → Prop)
    (hkx : ∀ (m3 : Int32) (m4 : Int32) (H : Heap) (locs : List Loc) (ls : Array Slot), kx m3 m4 → xO g A s σ H locs → lv_has ls 6 [(0, .ref (xa g 0)), (1, .int f1), (2, .int f2), (3, .int m3), (4, .int m4)] → W p l e (headSpec wsX7_telling rmX7_telling).room s m args below meth c H locs 0 0 (MQ below (va_Qi (fun r u => σ = u ∧ post r) (xAt g A) A) args s 0 0 A) (F0 m 62 ls [])) :
    ∀ (n : Nat) (m3 : Int32) (m4 : Int32) (H : Heap) (locs : List Loc) (ls : Array Slot), LX7_telling_5 σ f1 f2 post kx n m3 m4 → xO g A s σ H locs → lv_has ls 6 [(0, .ref (xa g 0)), (1, .int f1), (2, .int f2), (3, .int m3), (4, .int m4)] → W p l e (headSpec wsX7_telling rmX7_telling).room s m args below meth c H locs 0 0 (MQ below (va_Qi (fun r u => σ = u ∧ post r) (xAt g A) A) args s 0 0 A) (F0 m 5 ls []) := by
  have hx := C0.1
  have hb := C0.2.1
  have hown := C0.2.2.2.2.2.1
  have hts := C0.2.2.2.2.2.2.1
  intro n
  induction n with
  | zero =>
    intro m3 m4 H locs ls hw
    exact hw.elim
  | succ n ih =>
    intro m3 m4 H locs ls hw hO hl
    rw [LX7_telling_5] at hw
    refine lv_iload hx hb dX7_telling_5 (lv_at hl 4 rfl) ?_
    refine lv_aload_n hx hb dX7_telling_7 rfl (lv_at hl 0 rfl) ?_
    refine x_geti C0 hO 0 7 rfl rfl (by decide) rfl iX7_telling_7 rfl (List.mem_of_getElem? (i := 1) rfl) dX7_telling_8 ?_
    refine lv_icmp_ge (tgt := 62) hx hb dX7_telling_11 (by decide) (fun c1 => ?_) (fun c1 => ?_)
    · replace hw := hw.1 c1
      exact hkx _ _ _ _ _ hw hO (lv_sub hl [0, 1, 2, 3, 4] rfl)
    · replace hw := hw.2 c1
      refine lv_aload_n hx hb dX7_telling_14 rfl (lv_at hl 0 rfl) ?_
      refine lv_iload hx hb dX7_telling_15 (lv_at hl 4 rfl) ?_
      refine lv_iload_n hx hb dX7_telling_17 rfl (lv_at hl 1 rfl) ?_
      refine x_calli C0 hO (x_runV (As := [.int m4, .int f1]) (rest := []) C0 hO (kX7_isTaken l g _ m4 f1 σ _ hw) 2 rfl (xRecv C0 hO (j := 0) rfl rfl) gX7_telling_X7_isTaken rfl rfl rfl hdX7_isTaken ⟨Nat.le_of_ble_eq_true rfl, Nat.le_of_ble_eq_true rfl⟩ hl.1 rfl (Nat.le_of_ble_eq_true rfl) dX7_telling_18 ⟨Nat.le_of_ble_eq_true rfl, Nat.le_of_ble_eq_true rfl⟩) (fun r2 σ' H locs hw hO => ?_)
      obtain ⟨hσ, hw⟩ := hw
      subst hσ
      refine lv_if_eq (tgt := 29) hx hb dX7_telling_21 (by decide) (fun c3 => ?_) (fun c3 => ?_)
      · replace hw := hw.1 c3
        refine lv_aload_n hx hb dX7_telling_29 rfl (lv_at hl 0 rfl) ?_
        refine x_getr C0 hO 0 3 4 rfl rfl (by decide) rfl iX7_telling_7 rfl (List.mem_of_getElem? (i := 2) rfl) dX7_telling_30 ?_
        refine lv_iload hx hb dX7_telling_33 (lv_at hl 4 rfl) ?_
        refine lv_iload_n hx hb dX7_telling_35 rfl (lv_at hl 1 rfl) ?_
        refine lv_iload_n hx hb dX7_telling_36 rfl (lv_at hl 2 rfl) ?_
        refine x_calli C0 hO (x_runV (As := [.int m4, .int f1, .int f2]) (rest := []) C0 hO (kX5_restOf l g _ m4 f1 f2 σ _ hw) 3 rfl (xRecv C0 hO (j := 4) rfl rfl) gX7_telling_X5_restOf rfl rfl rfl hdX5_restOf ⟨Nat.le_of_ble_eq_true rfl, Nat.le_of_ble_eq_true rfl⟩ hl.1 rfl (Nat.le_of_ble_eq_true rfl) dX7_telling_37 ⟨Nat.le_of_ble_eq_true rfl, Nat.le_of_ble_eq_true rfl⟩) (fun r4 σ' H locs hw hO => ?_)
        obtain ⟨hσ, hw⟩ := hw
        subst hσ
        refine lv_istore (lv' := [(5, .int r4), (0, .ref (xa g 0)), (1, .int f1), (2, .int f2), (3, .int m3), (4, .int m4)]) hx hb dX7_telling_40 hl (by decide) rfl (fun ls hl => ?_)
        refine lv_iload hx hb dX7_telling_42 (lv_at hl 0 rfl) ?_
        refine lv_bipush (v := -9) hx hb dX7_telling_44 (by decide) ?_
        refine lv_icmp_eq (tgt := 56) hx hb dX7_telling_46 (by decide) (fun c5 => ?_) (fun c5 => ?_)
        · replace hw := hw.1 c5
          obtain ⟨x6, ex6⟩ : ∃ z : Int32, z = m4 + 1 := ⟨_, rfl⟩
          replace hw := hw x6 ex6
          refine lv_iinc (v := x6) (lv' := [(4, .int x6), (5, .int r4), (0, .ref (xa g 0)), (1, .int f1), (2, .int f2), (3, .int m3)]) hx hb dX7_telling_56 hl (k := 5) rfl (by rw [ex6]; rfl) (by decide) rfl (fun ls hl => ?_)
          refine lv_goto (tgt := 5) hx hb dX7_telling_59 (by decide) ?_
          exact ih _ _ _ _ _ hw hO (lv_sub hl [2, 3, 4, 5, 0] rfl)
        · replace hw := hw.2 c5
          refine lv_iload_n hx hb dX7_telling_49 rfl (lv_at hl 4 rfl) ?_
          refine lv_iconst (v := 1) hx hb dX7_telling_50 (by decide) ?_
          refine lv_iload hx hb dX7_telling_51 (lv_at hl 0 rfl) ?_
          refine lv_ishl hx hb dX7_telling_53 ?_
          refine lv_ior hx hb dX7_telling_54 ?_
          refine lv_topi (fun x7 ex7 => ?_)
          replace hw := hw x7 ex7
          refine lv_istore_n (lv' := [(3, .int x7), (5, .int r4), (0, .ref (xa g 0)), (1, .int f1), (2, .int f2), (4, .int m4)]) hx hb dX7_telling_55 rfl hl (by decide) rfl (fun ls hl => ?_)
          obtain ⟨x8, ex8⟩ : ∃ z : Int32, z = m4 + 1 := ⟨_, rfl⟩
          replace hw := hw x8 ex8
          refine lv_iinc (v := x8) (lv' := [(4, .int x8), (3, .int x7), (5, .int r4), (0, .ref (xa g 0)), (1, .int f1), (2, .int f2)]) hx hb dX7_telling_56 hl (k := 5) rfl (by rw [ex8]; rfl) (by decide) rfl (fun ls hl => ?_)
          refine lv_goto (tgt := 5) hx hb dX7_telling_59 (by decide) ?_
          exact ih _ _ _ _ _ hw hO (lv_sub hl [3, 4, 5, 1, 0] rfl)
      · replace hw := hw.2 c3
        refine lv_bipush (v := -9) hx hb dX7_telling_24 (by decide) ?_
        refine lv_goto (tgt := 40) hx hb dX7_telling_26 (by decide) ?_
        refine lv_istore (lv' := [(5, .int (-9 : Int32)), (0, .ref (xa g 0)), (1, .int f1), (2, .int f2), (3, .int m3), (4, .int m4)]) hx hb dX7_telling_40 hl (by decide) rfl (fun ls hl => ?_)
        refine lv_iload hx hb dX7_telling_42 (lv_at hl 0 rfl) ?_
        refine lv_bipush (v := -9) hx hb dX7_telling_44 (by decide) ?_
        refine lv_icmp_eq (tgt := 56) hx hb dX7_telling_46 (by decide) (fun c9 => ?_) (fun c9 => ?_)
        · replace hw := hw.1 c9
          obtain ⟨x10, ex10⟩ : ∃ z : Int32, z = m4 + 1 := ⟨_, rfl⟩
          replace hw := hw x10 ex10
          refine lv_iinc (v := x10) (lv' := [(4, .int x10), (5, .int (-9 : Int32)), (0, .ref (xa g 0)), (1, .int f1), (2, .int f2), (3, .int m3)]) hx hb dX7_telling_56 hl (k := 5) rfl (by rw [ex10]; rfl) (by decide) rfl (fun ls hl => ?_)
          refine lv_goto (tgt := 5) hx hb dX7_telling_59 (by decide) ?_
          exact ih _ _ _ _ _ hw hO (lv_sub hl [2, 3, 4, 5, 0] rfl)
        · replace hw := hw.2 c9
          refine lv_iload_n hx hb dX7_telling_49 rfl (lv_at hl 4 rfl) ?_
          refine lv_iconst (v := 1) hx hb dX7_telling_50 (by decide) ?_
          refine lv_iload hx hb dX7_telling_51 (lv_at hl 0 rfl) ?_
          refine lv_ishl hx hb dX7_telling_53 ?_
          refine lv_ior hx hb dX7_telling_54 ?_
          refine lv_topi (fun x11 ex11 => ?_)
          replace hw := hw x11 ex11
          refine lv_istore_n (lv' := [(3, .int x11), (5, .int (-9 : Int32)), (0, .ref (xa g 0)), (1, .int f1), (2, .int f2), (4, .int m4)]) hx hb dX7_telling_55 rfl hl (by decide) rfl (fun ls hl => ?_)
          obtain ⟨x12, ex12⟩ : ∃ z : Int32, z = m4 + 1 := ⟨_, rfl⟩
          replace hw := hw x12 ex12
          refine lv_iinc (v := x12) (lv' := [(4, .int x12), (3, .int x11), (5, .int (-9 : Int32)), (0, .ref (xa g 0)), (1, .int f1), (2, .int f2)]) hx hb dX7_telling_56 hl (k := 5) rfl (by rw [ex12]; rfl) (by decide) rfl (fun ls hl => ?_)
          refine lv_goto (tgt := 5) hx hb dX7_telling_59 (by decide) ?_
          exact ih _ _ _ _ _ hw hO (lv_sub hl [3, 4, 5, 1, 0] rfl)
set_option maxHeartbeats 4000000 in
set_option maxRecDepth 100000 in
theorem kX7_telling (l : Launch) (g : XG) (sz : Nat) (a1 : Int32) (a2 : Int32) (σ : XS) (post : Int32 → Prop) (hw : PX7_telling a1 a2 σ post) : xMi l yX7_telling wsX7_telling rmX7_telling 0 0 g sz [.ref (xa g 0), .int a1, .int a2] σ (fun r u => σ = u ∧ post r) := by
  unfold PX7_telling at hw
  refine x_head (Qc := fun A => va_Qi (fun r u => σ = u ∧ post r) (xAt g A) A) (cc := cX7_telling) (maxL := 6) (ret := (some .int)) (by decide) rfl ?_
  intro p e s m below meth c A C0 hnm hO
  refine x_entry (Nat.le_of_ble_eq_true rfl) (fun ls hl => ?_)
  have hl : lv_has ls 6 [(0, .ref (xa g 0)), (1, .int a1), (2, .int a2)] := hl
  have hx := C0.1
  have hb := C0.2.1
  have hown := C0.2.2.2.2.2.1
  have hts := C0.2.2.2.2.2.2.1
  refine lv_iconst (v := 0) hx hb dX7_telling_0 (by decide) ?_
  refine lv_istore_n (lv' := [(3, .int (0 : Int32)), (0, .ref (xa g 0)), (1, .int a1), (2, .int a2)]) hx hb dX7_telling_1 rfl hl (by decide) rfl (fun ls hl => ?_)
  refine lv_iconst (v := 0) hx hb dX7_telling_2 (by decide) ?_
  refine lv_istore (lv' := [(4, .int (0 : Int32)), (3, .int (0 : Int32)), (0, .ref (xa g 0)), (1, .int a1), (2, .int a2)]) hx hb dX7_telling_3 hl (by decide) rfl (fun ls hl => ?_)
  refine lX7_telling_5 C0 σ a1 a2 post _ (fun x13 x14 H locs ls hw hO hl => ?_) 1000 _ _ _ _ _ hw hO (lv_sub hl [2, 3, 4, 1, 0] rfl)
  refine lv_iload_n hx hb dX7_telling_62 rfl (lv_at hl 3 rfl) ?_
  exact x_iret C0 hO ⟨rfl, hw⟩ dX7_telling_63
