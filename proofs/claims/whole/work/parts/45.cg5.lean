/-! generated: contracts -/
theorem iX7_look_7 : ∀ w ∈ wsX70, w ∈ wsX7_look := fun w h => List.mem_cons_of_mem _ (List.mem_append_left _ (List.mem_append_left _ (List.mem_append_left _ (List.mem_append_left _ (List.mem_append_right _ h)))))
theorem hdX7_look : yX7_look.cls = RX7 ∧ yX7_look.cls ≠ "java/lang/invoke/MethodHandle" ∧ yX7_look.cls ≠ "java/lang/invoke/VarHandle" ∧ (parseMethodDescriptor yX7_look.desc).map (fun d => d.parameters.length) = some 3 := by decide +kernel
set_option maxHeartbeats 4000000 in
set_option maxRecDepth 100000 in
theorem lX7_look_106 {p : Program} {l : Launch} {e : Env} {s : State} {m : MethodId} {args : Array Value} {below : List Frame} {meth : Method} {c : Code} {g : XG} {A : Nat → Prop} (C0 : xC g A wsX7_look RX7 cX7_look 12 (some .int) p s m args meth c) (f1 : Int32) (f2 : Int32) (f3 : Int32) (f4 : Int32) (f5 : Int32) (f6 : Int32) (f7 : Int32) (post : Int32 → XS → Prop) (kx : Int32 → Int32 → Int32 → XS → Prop)
    (hkx : ∀ (m8 : Int32) (m9 : Int32) (m10 : Int32) (σ : XS) (H : Heap) (locs : List Loc) (ls : Array Slot), kx m8 m9 m10 σ → xO g A s σ H locs → lv_has ls 12 [(0, .ref (xa g 0)), (1, .int f1), (2, .int f2), (3, .int f3), (4, .int f4), (5, .int f5), (6, .int f6), (7, .int f7), (8, .int m8), (9, .int m9), (10, .int m10)] → W p l e (headSpec wsX7_look rmX7_look).room s m args below meth c H locs 0 0 (MQ below (va_Qi post (xAt g A) A) args s 0 0 A) (F0 m 155 ls [])) :
    ∀ (n : Nat) (m8 : Int32) (m9 : Int32) (m10 : Int32) (σ : XS) (H : Heap) (locs : List Loc) (ls : Array Slot), LX7_look_106 f1 f2 f3 f4 f5 f6 f7 post kx n m8 m9 m10 σ → xO g A s σ H locs → lv_has ls 12 [(0, .ref (xa g 0)), (1, .int f1), (2, .int f2), (3, .int f3), (4, .int f4), (5, .int f5), (6, .int f6), (7, .int f7), (8, .int m8), (9, .int m9), (10, .int m10)] → W p l e (headSpec wsX7_look rmX7_look).room s m args below meth c H locs 0 0 (MQ below (va_Qi post (xAt g A) A) args s 0 0 A) (F0 m 106 ls []) := by
  have hx := C0.1
  have hb := C0.2.1
  have hown := C0.2.2.2.2.2.1
  have hts := C0.2.2.2.2.2.2.1
  intro n
  induction n with
  | zero =>
    intro m8 m9 m10 σ H locs ls hw
    exact hw.elim
  | succ n ih =>
    intro m8 m9 m10 σ H locs ls hw hO hl
    rw [LX7_look_106] at hw
    refine lv_iload hx hb dX7_look_106 (lv_at hl 10 rfl) ?_
    refine lv_aload_n hx hb dX7_look_108 rfl (lv_at hl 0 rfl) ?_
    refine x_geti C0 hO 0 7 rfl rfl (by decide) rfl iX7_look_7 rfl (List.mem_of_getElem? (i := 2) rfl) dX7_look_109 ?_
    refine lv_icmp_ge (tgt := 155) hx hb dX7_look_112 (by decide) (fun c18 => ?_) (fun c18 => ?_)
    · replace hw := hw.1 c18
      exact hkx _ _ _ _ _ _ _ hw hO (lv_sub hl [0, 1, 2, 3, 4, 5, 6, 7, 8, 9, 10] rfl)
    · replace hw := hw.2 c18
      refine lv_iload hx hb dX7_look_115 (lv_at hl 7 rfl) ?_
      refine lv_iload hx hb dX7_look_117 (lv_at hl 10 rfl) ?_
      refine lv_ishr hx hb dX7_look_119 ?_
      refine lv_iconst (v := 1) hx hb dX7_look_120 (by decide) ?_
      refine lv_iand hx hb dX7_look_121 ?_
      refine lv_if_eq (tgt := 130) hx hb dX7_look_122 (by decide) (fun c19 => ?_) (fun c19 => ?_)
      · replace hw := hw.1 c19
        refine lv_iload hx hb dX7_look_130 (lv_at hl 5 rfl) ?_
        refine lv_istore (lv' := [(11, .int f5), (0, .ref (xa g 0)), (1, .int f1), (2, .int f2), (3, .int f3), (4, .int f4), (5, .int f5), (6, .int f6), (7, .int f7), (8, .int m8), (9, .int m9), (10, .int m10)]) hx hb dX7_look_132 hl (by decide) rfl (fun ls hl => ?_)
        refine lv_iload hx hb dX7_look_134 (lv_at hl 0 rfl) ?_
        refine lv_iload hx hb dX7_look_136 (lv_at hl 10 rfl) ?_
        refine lv_icmp_ge (tgt := 149) hx hb dX7_look_138 (by decide) (fun c20 => ?_) (fun c20 => ?_)
        · replace hw := hw.1 c20
          obtain ⟨x21, ex21⟩ : ∃ z : Int32, z = m10 + 1 := ⟨_, rfl⟩
          replace hw := hw x21 ex21
          refine lv_iinc (v := x21) (lv' := [(10, .int x21), (11, .int f5), (0, .ref (xa g 0)), (1, .int f1), (2, .int f2), (3, .int f3), (4, .int f4), (5, .int f5), (6, .int f6), (7, .int f7), (8, .int m8), (9, .int m9)]) hx hb dX7_look_149 hl (k := 11) rfl (by rw [ex21]; rfl) (by decide) rfl (fun ls hl => ?_)
          refine lv_goto (tgt := 106) hx hb dX7_look_152 (by decide) ?_
          exact ih _ _ _ _ _ _ _ hw hO (lv_sub hl [2, 3, 4, 5, 6, 7, 8, 9, 10, 11, 0] rfl)
        · replace hw := hw.2 c20
          refine lv_iload hx hb dX7_look_141 (lv_at hl 11 rfl) ?_
          refine lv_istore (lv' := [(8, .int m10), (11, .int f5), (0, .ref (xa g 0)), (1, .int f1), (2, .int f2), (3, .int f3), (4, .int f4), (5, .int f5), (6, .int f6), (7, .int f7), (9, .int m9), (10, .int m10)]) hx hb dX7_look_143 hl (by decide) rfl (fun ls hl => ?_)
          refine lv_iload hx hb dX7_look_145 (lv_at hl 1 rfl) ?_
          refine lv_istore (lv' := [(9, .int f5), (8, .int m10), (11, .int f5), (0, .ref (xa g 0)), (1, .int f1), (2, .int f2), (3, .int f3), (4, .int f4), (5, .int f5), (6, .int f6), (7, .int f7), (10, .int m10)]) hx hb dX7_look_147 hl (by decide) rfl (fun ls hl => ?_)
          obtain ⟨x22, ex22⟩ : ∃ z : Int32, z = m10 + 1 := ⟨_, rfl⟩
          replace hw := hw x22 ex22
          refine lv_iinc (v := x22) (lv' := [(10, .int x22), (9, .int f5), (8, .int m10), (11, .int f5), (0, .ref (xa g 0)), (1, .int f1), (2, .int f2), (3, .int f3), (4, .int f4), (5, .int f5), (6, .int f6), (7, .int f7)]) hx hb dX7_look_149 hl (k := 11) rfl (by rw [ex22]; rfl) (by decide) rfl (fun ls hl => ?_)
          refine lv_goto (tgt := 106) hx hb dX7_look_152 (by decide) ?_
          exact ih _ _ _ _ _ _ _ hw hO (lv_sub hl [4, 5, 6, 7, 8, 9, 10, 11, 2, 1, 0] rfl)
      · replace hw := hw.2 c19
        refine lv_iload hx hb dX7_look_125 (lv_at hl 6 rfl) ?_
        refine lv_goto (tgt := 132) hx hb dX7_look_127 (by decide) ?_
        refine lv_istore (lv' := [(11, .int f6), (0, .ref (xa g 0)), (1, .int f1), (2, .int f2), (3, .int f3), (4, .int f4), (5, .int f5), (6, .int f6), (7, .int f7), (8, .int m8), (9, .int m9), (10, .int m10)]) hx hb dX7_look_132 hl (by decide) rfl (fun ls hl => ?_)
        refine lv_iload hx hb dX7_look_134 (lv_at hl 0 rfl) ?_
        refine lv_iload hx hb dX7_look_136 (lv_at hl 10 rfl) ?_
        refine lv_icmp_ge (tgt := 149) hx hb dX7_look_138 (by decide) (fun c23 => ?_) (fun c23 => ?_)
        · replace hw := hw.1 c23
          obtain ⟨x24, ex24⟩ : ∃ z : Int32, z = m10 + 1 := ⟨_, rfl⟩
          replace hw := hw x24 ex24
          refine lv_iinc (v := x24) (lv' := [(10, .int x24), (11, .int f6), (0, .ref (xa g 0)), (1, .int f1), (2, .int f2), (3, .int f3), (4, .int f4), (5, .int f5), (6, .int f6), (7, .int f7), (8, .int m8), (9, .int m9)]) hx hb dX7_look_149 hl (k := 11) rfl (by rw [ex24]; rfl) (by decide) rfl (fun ls hl => ?_)
          refine lv_goto (tgt := 106) hx hb dX7_look_152 (by decide) ?_
          exact ih _ _ _ _ _ _ _ hw hO (lv_sub hl [2, 3, 4, 5, 6, 7, 8, 9, 10, 11, 0] rfl)
        · replace hw := hw.2 c23
          refine lv_iload hx hb dX7_look_141 (lv_at hl 11 rfl) ?_
          refine lv_istore (lv' := [(8, .int m10), (11, .int f6), (0, .ref (xa g 0)), (1, .int f1), (2, .int f2), (3, .int f3), (4, .int f4), (5, .int f5), (6, .int f6), (7, .int f7), (9, .int m9), (10, .int m10)]) hx hb dX7_look_143 hl (by decide) rfl (fun ls hl => ?_)
          refine lv_iload hx hb dX7_look_145 (lv_at hl 1 rfl) ?_
          refine lv_istore (lv' := [(9, .int f6), (8, .int m10), (11, .int f6), (0, .ref (xa g 0)), (1, .int f1), (2, .int f2), (3, .int f3), (4, .int f4), (5, .int f5), (6, .int f6), (7, .int f7), (10, .int m10)]) hx hb dX7_look_147 hl (by decide) rfl (fun ls hl => ?_)
          obtain ⟨x25, ex25⟩ : ∃ z : Int32, z = m10 + 1 := ⟨_, rfl⟩
          replace hw := hw x25 ex25
          refine lv_iinc (v := x25) (lv' := [(10, .int x25), (9, .int f6), (8, .int m10), (11, .int f6), (0, .ref (xa g 0)), (1, .int f1), (2, .int f2), (3, .int f3), (4, .int f4), (5, .int f5), (6, .int f6), (7, .int f7)]) hx hb dX7_look_149 hl (k := 11) rfl (by rw [ex25]; rfl) (by decide) rfl (fun ls hl => ?_)
          refine lv_goto (tgt := 106) hx hb dX7_look_152 (by decide) ?_
          exact ih _ _ _ _ _ _ _ hw hO (lv_sub hl [4, 5, 6, 7, 8, 9, 10, 11, 2, 1, 0] rfl)
set_option maxHeartbeats 4000000 in
set_option maxRecDepth 100000 in
theorem kX7_look (l : Launch) (g : XG) (sz : Nat) (a1 : Int32) (a2 : Int32) (a3 : Int32) (σ : XS) (post : Int32 → XS → Prop) (hw : PX7_look a1 a2 a3 σ post) : xMi l yX7_look wsX7_look rmX7_look 0 0 g sz [.ref (xa g 0), .int a1, .int a2, .int a3] σ post := by
  unfold PX7_look at hw
  refine x_head (Qc := fun A => va_Qi post (xAt g A) A) (cc := cX7_look) (maxL := 12) (ret := (some .int)) (by decide) rfl ?_
  intro p e s m below meth c A C0 hnm hO
  refine x_entry (Nat.le_of_ble_eq_true rfl) (fun ls hl => ?_)
  have hl : lv_has ls 12 [(0, .ref (xa g 0)), (1, .int a1), (2, .int a2), (3, .int a3)] := hl
  have hx := C0.1
  have hb := C0.2.1
  have hown := C0.2.2.2.2.2.1
  have hts := C0.2.2.2.2.2.2.1
  refine lv_iload_n hx hb dX7_look_0 rfl (lv_at hl 1 rfl) ?_
  refine x_calli C0 hO (x_runS (As := [.int a1]) (rest := []) C0 hO (kX7_isNight l g _ a1 σ _ hw) 1 rfl gX7_look_X7_isNight rfl rfl rfl hdX7_isNight.2 ⟨Nat.le_of_ble_eq_true rfl, Nat.le_of_ble_eq_true rfl⟩ hl.1 rfl (Nat.le_of_ble_eq_true rfl) dX7_look_1 ⟨Nat.le_of_ble_eq_true rfl, Nat.le_of_ble_eq_true rfl⟩) (fun r1 σ' H locs hw hO => ?_)
  obtain ⟨hσ, hw⟩ := hw
  subst hσ
  refine lv_if_eq (tgt := 21) hx hb dX7_look_4 (by decide) (fun c2 => ?_) (fun c2 => ?_)
  · replace hw := hw.1 c2
    refine lv_bipush (v := -2) hx hb dX7_look_21 (by decide) ?_
    exact x_iret C0 hO hw dX7_look_23
  · replace hw := hw.2 c2
    refine lv_iload_n hx hb dX7_look_7 rfl (lv_at hl 2 rfl) ?_
    refine x_calli C0 hO (x_runS (As := [.int a2]) (rest := []) C0 hO (kX7_isNight l g _ a2 σ _ hw) 1 rfl gX7_look_X7_isNight rfl rfl rfl hdX7_isNight.2 ⟨Nat.le_of_ble_eq_true rfl, Nat.le_of_ble_eq_true rfl⟩ hl.1 rfl (Nat.le_of_ble_eq_true rfl) dX7_look_8 ⟨Nat.le_of_ble_eq_true rfl, Nat.le_of_ble_eq_true rfl⟩) (fun r3 σ' H locs hw hO => ?_)
    obtain ⟨hσ, hw⟩ := hw
    subst hσ
    refine lv_if_eq (tgt := 21) hx hb dX7_look_11 (by decide) (fun c4 => ?_) (fun c4 => ?_)
    · replace hw := hw.1 c4
      refine lv_bipush (v := -2) hx hb dX7_look_21 (by decide) ?_
      exact x_iret C0 hO hw dX7_look_23
    · replace hw := hw.2 c4
      refine lv_iload_n hx hb dX7_look_14 rfl (lv_at hl 3 rfl) ?_
      refine x_calli C0 hO (x_runS (As := [.int a3]) (rest := []) C0 hO (kX7_isEither l g _ a3 σ _ hw) 1 rfl gX7_look_X7_isEither rfl rfl rfl hdX7_isEither.2 ⟨Nat.le_of_ble_eq_true rfl, Nat.le_of_ble_eq_true rfl⟩ hl.1 rfl (Nat.le_of_ble_eq_true rfl) dX7_look_15 ⟨Nat.le_of_ble_eq_true rfl, Nat.le_of_ble_eq_true rfl⟩) (fun r5 σ' H locs hw hO => ?_)
      obtain ⟨hσ, hw⟩ := hw
      subst hσ
      refine lv_if_ne (tgt := 24) hx hb dX7_look_18 (by decide) (fun c6 => ?_) (fun c6 => ?_)
      · replace hw := hw.2 c6
        refine lv_aload_n hx hb dX7_look_24 rfl (lv_at hl 0 rfl) ?_
        refine x_calli C0 hO (x_runV (As := []) (rest := []) C0 hO (kX7_hasHall l g _  σ _ hw) 0 rfl (xRecv C0 hO (j := 0) rfl rfl) gX7_look_X7_hasHall rfl rfl rfl hdX7_hasHall ⟨Nat.le_of_ble_eq_true rfl, Nat.le_of_ble_eq_true rfl⟩ hl.1 rfl (Nat.le_of_ble_eq_true rfl) dX7_look_25 ⟨Nat.le_of_ble_eq_true rfl, Nat.le_of_ble_eq_true rfl⟩) (fun r7 σ' H locs hw hO => ?_)
        obtain ⟨hσ, hw⟩ := hw
        subst hσ
        refine lv_if_ne (tgt := 34) hx hb dX7_look_28 (by decide) (fun c8 => ?_) (fun c8 => ?_)
        · replace hw := hw.2 c8
          refine lv_aload_n hx hb dX7_look_34 rfl (lv_at hl 0 rfl) ?_
          refine x_geti C0 hO 0 6 rfl rfl (by decide) rfl iX7_look_7 rfl (List.mem_of_getElem? (i := 1) rfl) dX7_look_35 ?_
          refine lv_aload_n hx hb dX7_look_38 rfl (lv_at hl 0 rfl) ?_
          refine lv_iload_n hx hb dX7_look_39 rfl (lv_at hl 1 rfl) ?_
          refine x_calli C0 hO (x_runV (As := [.int a1]) (rest := [.int (gI σ 0 6)]) C0 hO (kX7_seatedOn l g _ a1 σ _ hw) 1 rfl (xRecv C0 hO (j := 0) rfl rfl) gX7_look_X7_seatedOn rfl rfl rfl hdX7_seatedOn ⟨Nat.le_of_ble_eq_true rfl, Nat.le_of_ble_eq_true rfl⟩ hl.1 rfl (Nat.le_of_ble_eq_true rfl) dX7_look_40 ⟨Nat.le_of_ble_eq_true rfl, Nat.le_of_ble_eq_true rfl⟩) (fun r9 σ' H locs hw hO => ?_)
          obtain ⟨hσ, hw⟩ := hw
          subst hσ
          refine lv_isub hx hb dX7_look_43 ?_
          refine lv_topi (fun x10 ex10 => ?_)
          replace hw := hw x10 ex10
          refine lv_istore (lv' := [(4, .int x10), (0, .ref (xa g 0)), (1, .int a1), (2, .int a2), (3, .int a3)]) hx hb dX7_look_44 hl (by decide) rfl (fun ls hl => ?_)
          refine lv_iload hx hb dX7_look_46 (lv_at hl 0 rfl) ?_
          refine lv_aload_n hx hb dX7_look_48 rfl (lv_at hl 1 rfl) ?_
          refine x_geti C0 hO 0 7 rfl rfl (by decide) rfl iX7_look_7 rfl (List.mem_of_getElem? (i := 2) rfl) dX7_look_49 ?_
          refine lv_aload_n hx hb dX7_look_52 rfl (lv_at hl 1 rfl) ?_
          refine lv_iload_n hx hb dX7_look_53 rfl (lv_at hl 2 rfl) ?_
          refine x_calli C0 hO (x_runV (As := [.int a1]) (rest := [.int (gI σ 0 7), .int x10]) C0 hO (kX7_seatedOn l g _ a1 σ _ hw) 1 rfl (xRecv C0 hO (j := 0) rfl rfl) gX7_look_X7_seatedOn rfl rfl rfl hdX7_seatedOn ⟨Nat.le_of_ble_eq_true rfl, Nat.le_of_ble_eq_true rfl⟩ hl.1 rfl (Nat.le_of_ble_eq_true rfl) dX7_look_54 ⟨Nat.le_of_ble_eq_true rfl, Nat.le_of_ble_eq_true rfl⟩) (fun r11 σ' H locs hw hO => ?_)
          obtain ⟨hσ, hw⟩ := hw
          subst hσ
          refine lv_isub hx hb dX7_look_57 ?_
          refine lv_imul hx hb dX7_look_58 ?_
          refine lv_topi (fun x12 ex12 => ?_)
          replace hw := hw x12 ex12
          refine lv_istore (lv' := [(5, .int x12), (4, .int x10), (0, .ref (xa g 0)), (1, .int a1), (2, .int a2), (3, .int a3)]) hx hb dX7_look_59 hl (by decide) rfl (fun ls hl => ?_)
          refine lv_iload hx hb dX7_look_61 (lv_at hl 0 rfl) ?_
          refine lv_iload hx hb dX7_look_63 (lv_at hl 1 rfl) ?_
          refine lv_isub hx hb dX7_look_65 ?_
          refine lv_aload_n hx hb dX7_look_66 rfl (lv_at hl 2 rfl) ?_
          refine lv_iload_n hx hb dX7_look_67 rfl (lv_at hl 3 rfl) ?_
          refine x_calli C0 hO (x_runV (As := [.int a1]) (rest := [.int (x12 - x10)]) C0 hO (kX7_mostAlike l g _ a1 σ _ hw) 1 rfl (xRecv C0 hO (j := 0) rfl rfl) gX7_look_X7_mostAlike rfl rfl rfl hdX7_mostAlike ⟨Nat.le_of_ble_eq_true rfl, Nat.le_of_ble_eq_true rfl⟩ hl.1 rfl (Nat.le_of_ble_eq_true rfl) dX7_look_68 ⟨Nat.le_of_ble_eq_true rfl, Nat.le_of_ble_eq_true rfl⟩) (fun r13 σ14 H locs hw hO => ?_)
          refine va_mmax hx hb (by rw [C0.2.2.2.2.1]; exact hl.1.symm) hown (hts _ (List.mem_of_getElem? (i := 3) rfl)) (hts _ (List.mem_of_getElem? (i := 4) rfl)) (hts _ (List.mem_of_getElem? (i := 5) rfl)) (hts _ (List.mem_of_getElem? (i := 6) rfl)) (Nat.le_of_ble_eq_true rfl) (Nat.le_of_ble_eq_true rfl) (Nat.le_of_ble_eq_true rfl) (Nat.le_of_ble_eq_true rfl) dX7_look_71 ?_
          refine lv_topi (fun x15 ex15 => ?_)
          replace hw := hw x15 ex15
          refine lv_istore (lv' := [(6, .int x15), (5, .int x12), (4, .int x10), (0, .ref (xa g 0)), (1, .int a1), (2, .int a2), (3, .int a3)]) hx hb dX7_look_74 hl (by decide) rfl (fun ls hl => ?_)
          refine lv_aload_n hx hb dX7_look_76 rfl (lv_at hl 3 rfl) ?_
          refine lv_iload_n hx hb dX7_look_77 rfl (lv_at hl 4 rfl) ?_
          refine lv_iload_n hx hb dX7_look_78 rfl (lv_at hl 5 rfl) ?_
          refine x_calli C0 hO (x_runV (As := [.int a1, .int a2]) (rest := []) C0 hO (kX7_telling l g _ a1 a2 σ14 _ hw) 2 rfl (xRecv C0 hO (j := 0) rfl rfl) gX7_look_X7_telling rfl rfl rfl hdX7_telling ⟨Nat.le_of_ble_eq_true rfl, Nat.le_of_ble_eq_true rfl⟩ hl.1 rfl (Nat.le_of_ble_eq_true rfl) dX7_look_79 ⟨Nat.le_of_ble_eq_true rfl, Nat.le_of_ble_eq_true rfl⟩) (fun r16 σ' H locs hw hO => ?_)
          obtain ⟨hσ, hw⟩ := hw
          subst hσ
          refine lv_istore (lv' := [(7, .int r16), (6, .int x15), (5, .int x12), (4, .int x10), (0, .ref (xa g 0)), (1, .int a1), (2, .int a2), (3, .int a3)]) hx hb dX7_look_82 hl (by decide) rfl (fun ls hl => ?_)
          refine lv_iconst (v := 0) hx hb dX7_look_84 (by decide) ?_
          refine lv_istore (lv' := [(8, .int (0 : Int32)), (7, .int r16), (6, .int x15), (5, .int x12), (4, .int x10), (0, .ref (xa g 0)), (1, .int a1), (2, .int a2), (3, .int a3)]) hx hb dX7_look_85 hl (by decide) rfl (fun ls hl => ?_)
          refine lv_iload hx hb dX7_look_87 (lv_at hl 1 rfl) ?_
          refine lv_iconst (v := 1) hx hb dX7_look_89 (by decide) ?_
          refine lv_iand hx hb dX7_look_90 ?_
          refine lv_if_eq (tgt := 99) hx hb dX7_look_91 (by decide) (fun c17 => ?_) (fun c17 => ?_)
          · replace hw := hw.1 c17
            refine lv_iload hx hb dX7_look_99 (lv_at hl 3 rfl) ?_
            refine lv_istore (lv' := [(9, .int x12), (8, .int (0 : Int32)), (7, .int r16), (6, .int x15), (5, .int x12), (4, .int x10), (0, .ref (xa g 0)), (1, .int a1), (2, .int a2), (3, .int a3)]) hx hb dX7_look_101 hl (by decide) rfl (fun ls hl => ?_)
            refine lv_iconst (v := 1) hx hb dX7_look_103 (by decide) ?_
            refine lv_istore (lv' := [(10, .int (1 : Int32)), (9, .int x12), (8, .int (0 : Int32)), (7, .int r16), (6, .int x15), (5, .int x12), (4, .int x10), (0, .ref (xa g 0)), (1, .int a1), (2, .int a2), (3, .int a3)]) hx hb dX7_look_104 hl (by decide) rfl (fun ls hl => ?_)
            refine lX7_look_106 C0 a1 a2 a3 x10 x12 x15 r16 post _ (fun x26 x27 x28 σ29 H locs ls hw hO hl => ?_) 1000 _ _ _ _ _ _ _ hw hO (lv_sub hl [7, 8, 9, 10, 6, 5, 4, 3, 2, 1, 0] rfl)
            refine lv_iload_n hx hb dX7_look_155 rfl (lv_at hl 3 rfl) ?_
            refine lv_if_ne (tgt := 164) hx hb dX7_look_156 (by decide) (fun c30 => ?_) (fun c30 => ?_)
            · replace hw := hw.2 c30
              refine lv_iload hx hb dX7_look_164 (lv_at hl 9 rfl) ?_
              exact x_iret C0 hO hw dX7_look_166
            · replace hw := hw.1 c30
              refine lv_iload hx hb dX7_look_159 (lv_at hl 8 rfl) ?_
              refine lv_goto (tgt := 166) hx hb dX7_look_161 (by decide) ?_
              exact x_iret C0 hO hw dX7_look_166
          · replace hw := hw.2 c17
            refine lv_iload hx hb dX7_look_94 (lv_at hl 2 rfl) ?_
            refine lv_goto (tgt := 101) hx hb dX7_look_96 (by decide) ?_
            refine lv_istore (lv' := [(9, .int x15), (8, .int (0 : Int32)), (7, .int r16), (6, .int x15), (5, .int x12), (4, .int x10), (0, .ref (xa g 0)), (1, .int a1), (2, .int a2), (3, .int a3)]) hx hb dX7_look_101 hl (by decide) rfl (fun ls hl => ?_)
            refine lv_iconst (v := 1) hx hb dX7_look_103 (by decide) ?_
            refine lv_istore (lv' := [(10, .int (1 : Int32)), (9, .int x15), (8, .int (0 : Int32)), (7, .int r16), (6, .int x15), (5, .int x12), (4, .int x10), (0, .ref (xa g 0)), (1, .int a1), (2, .int a2), (3, .int a3)]) hx hb dX7_look_104 hl (by decide) rfl (fun ls hl => ?_)
            refine lX7_look_106 C0 a1 a2 a3 x10 x12 x15 r16 post _ (fun x31 x32 x33 σ34 H locs ls hw hO hl => ?_) 1000 _ _ _ _ _ _ _ hw hO (lv_sub hl [7, 8, 9, 10, 6, 5, 4, 3, 2, 1, 0] rfl)
            refine lv_iload_n hx hb dX7_look_155 rfl (lv_at hl 3 rfl) ?_
            refine lv_if_ne (tgt := 164) hx hb dX7_look_156 (by decide) (fun c35 => ?_) (fun c35 => ?_)
            · replace hw := hw.2 c35
              refine lv_iload hx hb dX7_look_164 (lv_at hl 9 rfl) ?_
              exact x_iret C0 hO hw dX7_look_166
            · replace hw := hw.1 c35
              refine lv_iload hx hb dX7_look_159 (lv_at hl 8 rfl) ?_
              refine lv_goto (tgt := 166) hx hb dX7_look_161 (by decide) ?_
              exact x_iret C0 hO hw dX7_look_166
        · replace hw := hw.1 c8
          refine lv_bipush (v := -3) hx hb dX7_look_31 (by decide) ?_
          exact x_iret C0 hO hw dX7_look_33
      · replace hw := hw.1 c6
        refine lv_bipush (v := -2) hx hb dX7_look_21 (by decide) ?_
        exact x_iret C0 hO hw dX7_look_23
theorem hdX7_waysToPick : yX7_waysToPick.cls = RX7 ∧ yX7_waysToPick.cls ≠ "java/lang/invoke/MethodHandle" ∧ yX7_waysToPick.cls ≠ "java/lang/invoke/VarHandle" ∧ (parseMethodDescriptor yX7_waysToPick.desc).map (fun d => d.parameters.length) = some 2 := by decide +kernel
set_option maxHeartbeats 4000000 in
set_option maxRecDepth 100000 in
theorem lX7_waysToPick_12 {p : Program} {l : Launch} {e : Env} {s : State} {m : MethodId} {args : Array Value} {below : List Frame} {meth : Method} {c : Code} {g : XG} {A : Nat → Prop} (C0 : xC g A wsX7_waysToPick RX7 cX7_waysToPick 5 (some .long) p s m args meth c) (σ : XS) (f0 : Int32) (f1 : Int32) (post : Int64 → Prop) (kx : Int64 → Int32 → Prop)
    (hkx : ∀ (m2 : Int64) (m4 : Int32) (H : Heap) (locs : List Loc) (ls : Array Slot), kx m2 m4 → xO g A s σ H locs → lv_has ls 5 [(0, .int f0), (1, .int f1), (2, .long m2), (4, .int m4)] → W p l e (headSpec wsX7_waysToPick rmX7_waysToPick).room s m args below meth c H locs 0 0 (MQ below (va_Ql (fun r u => σ = u ∧ post r) (xAt g A) A) args s 0 0 A) (F0 m 38 ls [])) :
    ∀ (n : Nat) (m2 : Int64) (m4 : Int32) (H : Heap) (locs : List Loc) (ls : Array Slot), LX7_waysToPick_12 σ f0 f1 post kx n m2 m4 → xO g A s σ H locs → lv_has ls 5 [(0, .int f0), (1, .int f1), (2, .long m2), (4, .int m4)] → W p l e (headSpec wsX7_waysToPick rmX7_waysToPick).room s m args below meth c H locs 0 0 (MQ below (va_Ql (fun r u => σ = u ∧ post r) (xAt g A) A) args s 0 0 A) (F0 m 12 ls []) := by
  have hx := C0.1
  have hb := C0.2.1
  have hown := C0.2.2.2.2.2.1
  have hts := C0.2.2.2.2.2.2.1
  intro n
  induction n with
  | zero =>
    intro m2 m4 H locs ls hw
    exact hw.elim
  | succ n ih =>
    intro m2 m4 H locs ls hw hO hl
    rw [LX7_waysToPick_12] at hw
    refine lv_iload hx hb dX7_waysToPick_12 (lv_at hl 3 rfl) ?_
    refine lv_iload_n hx hb dX7_waysToPick_14 rfl (lv_at hl 1 rfl) ?_
    refine lv_icmp_gt (tgt := 38) hx hb dX7_waysToPick_15 (by decide) (fun c2 => ?_) (fun c2 => ?_)
    · replace hw := hw.1 c2
      exact hkx _ _ _ _ _ hw hO (lv_sub hl [0, 1, 2, 3] rfl)
    · replace hw := hw.2 c2
      refine lv_lload_n hx hb dX7_waysToPick_18 rfl (lv_at hl 2 rfl) ?_
      refine lv_iload_n hx hb dX7_waysToPick_19 rfl (lv_at hl 0 rfl) ?_
      refine lv_iload_n hx hb dX7_waysToPick_20 rfl (lv_at hl 1 rfl) ?_
      refine lv_isub hx hb dX7_waysToPick_21 ?_
      refine lv_iload hx hb dX7_waysToPick_22 (lv_at hl 3 rfl) ?_
      refine lv_iadd hx hb dX7_waysToPick_24 ?_
      refine lv_i2l hx hb dX7_waysToPick_25 rfl ?_
      refine lv_lmul hx hb dX7_waysToPick_26 ?_
      refine lv_iload hx hb dX7_waysToPick_27 (lv_at hl 3 rfl) ?_
      refine lv_i2l hx hb dX7_waysToPick_29 rfl ?_
      refine lv_ldiv hx hb dX7_waysToPick_30 hw.1 ?_
      replace hw := hw.2
      refine lv_topl (fun x3 ex3 => ?_)
      replace hw := hw x3 ex3
      refine lv_lstore_n (lv' := [(2, .long x3), (0, .int f0), (1, .int f1), (4, .int m4)]) hx hb dX7_waysToPick_31 rfl hl (by decide) rfl (fun ls hl => ?_)
      obtain ⟨x4, ex4⟩ : ∃ z : Int32, z = m4 + 1 := ⟨_, rfl⟩
      replace hw := hw x4 ex4
      refine lv_iinc (v := x4) (lv' := [(4, .int x4), (2, .long x3), (0, .int f0), (1, .int f1)]) hx hb dX7_waysToPick_32 hl (k := 3) rfl (by rw [ex4]; rfl) (by decide) rfl (fun ls hl => ?_)
      refine lv_goto (tgt := 12) hx hb dX7_waysToPick_35 (by decide) ?_
      exact ih _ _ _ _ _ hw hO (lv_sub hl [2, 3, 1, 0] rfl)
set_option maxHeartbeats 4000000 in
set_option maxRecDepth 100000 in
theorem kX7_waysToPick (l : Launch) (g : XG) (sz : Nat) (a0 : Int32) (a1 : Int32) (σ : XS) (post : Int64 → Prop) (hw : PX7_waysToPick a0 a1 σ post) : xMl l yX7_waysToPick wsX7_waysToPick rmX7_waysToPick 0 0 g sz [.int a0, .int a1] σ (fun r u => σ = u ∧ post r) := by
  unfold PX7_waysToPick at hw
  refine x_head (Qc := fun A => va_Ql (fun r u => σ = u ∧ post r) (xAt g A) A) (cc := cX7_waysToPick) (maxL := 5) (ret := (some .long)) (by decide) rfl ?_
  intro p e s m below meth c A C0 hnm hO
  refine x_entry (Nat.le_of_ble_eq_true rfl) (fun ls hl => ?_)
  have hl : lv_has ls 5 [(0, .int a0), (1, .int a1)] := hl
  have hx := C0.1
  have hb := C0.2.1
  have hown := C0.2.2.2.2.2.1
  have hts := C0.2.2.2.2.2.2.1
  refine lv_iload_n hx hb dX7_waysToPick_0 rfl (lv_at hl 1 rfl) ?_
  refine lv_iload_n hx hb dX7_waysToPick_1 rfl (lv_at hl 0 rfl) ?_
  refine lv_icmp_le (tgt := 7) hx hb dX7_waysToPick_2 (by decide) (fun c1 => ?_) (fun c1 => ?_)
  · replace hw := hw.1 c1
    refine lv_lconst (v := 1) hx hb dX7_waysToPick_7 (by decide) ?_
    refine lv_lstore_n (lv' := [(2, .long (1 : Int64)), (0, .int a0), (1, .int a1)]) hx hb dX7_waysToPick_8 rfl hl (by decide) rfl (fun ls hl => ?_)
    refine lv_iconst (v := 1) hx hb dX7_waysToPick_9 (by decide) ?_
    refine lv_istore (lv' := [(4, .int (1 : Int32)), (2, .long (1 : Int64)), (0, .int a0), (1, .int a1)]) hx hb dX7_waysToPick_10 hl (by decide) rfl (fun ls hl => ?_)
    refine lX7_waysToPick_12 C0 σ a0 a1 post _ (fun x5 x6 H locs ls hw hO hl => ?_) 1000 _ _ _ _ _ hw hO (lv_sub hl [2, 3, 1, 0] rfl)
    refine lv_lload_n hx hb dX7_waysToPick_38 rfl (lv_at hl 2 rfl) ?_
    exact x_lret C0 hO ⟨rfl, hw⟩ dX7_waysToPick_39
  · replace hw := hw.2 c1
    refine lv_lconst (v := 0) hx hb dX7_waysToPick_5 (by decide) ?_
    exact x_lret C0 hO ⟨rfl, hw⟩ dX7_waysToPick_6
theorem iX7_odds_7 : ∀ w ∈ wsX70, w ∈ wsX7_odds := fun w h => List.mem_cons_of_mem _ (List.mem_append_left _ (List.mem_append_left _ (List.mem_append_right _ h)))
theorem hdX7_odds : yX7_odds.cls = RX7 ∧ yX7_odds.cls ≠ "java/lang/invoke/MethodHandle" ∧ yX7_odds.cls ≠ "java/lang/invoke/VarHandle" ∧ (parseMethodDescriptor yX7_odds.desc).map (fun d => d.parameters.length) = some 4 := by decide +kernel
set_option maxHeartbeats 4000000 in
set_option maxRecDepth 100000 in
theorem lX7_odds_90 {p : Program} {l : Launch} {e : Env} {s : State} {m : MethodId} {args : Array Value} {below : List Frame} {meth : Method} {c : Code} {g : XG} {A : Nat → Prop} (C0 : xC g A wsX7_odds RX7 cX7_odds 11 (some .long) p s m args meth c) (f1 : Int32) (f2 : Int32) (f3 : Int32) (f4 : Int32) (f5 : Int32) (post : Int64 → XS → Prop) (kx : Int64 → Int64 → Int32 → XS → Prop)
    (hkx : ∀ (m6 : Int64) (m8 : Int64) (m10 : Int32) (σ : XS) (H : Heap) (locs : List Loc) (ls : Array Slot), kx m6 m8 m10 σ → xO g A s σ H locs → lv_has ls 11 [(0, .ref (xa g 0)), (1, .int f1), (2, .int f2), (3, .int f3), (4, .int f4), (5, .int f5), (6, .long m6), (8, .long m8), (10, .int m10)] → W p l e (headSpec wsX7_odds rmX7_odds).room s m args below meth c H locs 0 0 (MQ below (va_Ql post (xAt g A) A) args s 0 0 A) (F0 m 137 ls [])) :
    ∀ (n : Nat) (m6 : Int64) (m8 : Int64) (m10 : Int32) (σ : XS) (H : Heap) (locs : List Loc) (ls : Array Slot), LX7_odds_90 f1 f2 f3 f4 f5 post kx n m6 m8 m10 σ → xO g A s σ H locs → lv_has ls 11 [(0, .ref (xa g 0)), (1, .int f1), (2, .int f2), (3, .int f3), (4, .int f4), (5, .int f5), (6, .long m6), (8, .long m8), (10, .int m10)] → W p l e (headSpec wsX7_odds rmX7_odds).room s m args below meth c H locs 0 0 (MQ below (va_Ql post (xAt g A) A) args s 0 0 A) (F0 m 90 ls []) := by
  have hx := C0.1
  have hb := C0.2.1
  have hown := C0.2.2.2.2.2.1
  have hts := C0.2.2.2.2.2.2.1
  intro n
  induction n with
  | zero =>
    intro m6 m8 m10 σ H locs ls hw
    exact hw.elim
  | succ n ih =>
    intro m6 m8 m10 σ H locs ls hw hO hl
    rw [LX7_odds_90] at hw
    refine lv_iload hx hb dX7_odds_90 (lv_at hl 8 rfl) ?_
    refine lv_iload hx hb dX7_odds_92 (lv_at hl 5 rfl) ?_
    refine lv_icmp_ge (tgt := 137) hx hb dX7_odds_94 (by decide) (fun c14 => ?_) (fun c14 => ?_)
    · replace hw := hw.1 c14
      exact hkx _ _ _ _ _ _ _ hw hO (lv_sub hl [0, 1, 2, 3, 4, 5, 6, 7, 8] rfl)
    · replace hw := hw.2 c14
      refine lv_lload hx hb dX7_odds_97 (lv_at hl 7 rfl) ?_
      refine lv_lconst (v := 1) hx hb dX7_odds_99 (by decide) ?_
      refine W.lcmp hx hb dX7_odds_100 ?_
      refine lv_if_le (tgt := 137) hx hb dX7_odds_101 (by decide) (fun c15 => ?_) (fun c15 => ?_)
      · replace hw := hw.1 c15
        exact hkx _ _ _ _ _ _ _ hw hO (lv_sub hl [0, 1, 2, 3, 4, 5, 6, 7, 8] rfl)
      · replace hw := hw.2 c15
        refine lv_lload hx hb dX7_odds_104 (lv_at hl 6 rfl) ?_
        refine lv_ldc2 (v := 2) hx hb hown (hts _ (List.mem_of_getElem? (i := 4) rfl)) dX7_odds_106 ?_
        refine lv_lrem hx hb dX7_odds_109 hw.1 ?_
        replace hw := hw.2
        refine lv_lconst (v := 0) hx hb dX7_odds_110 (by decide) ?_
        refine W.lcmp hx hb dX7_odds_111 ?_
        refine lv_if_ne (tgt := 137) hx hb dX7_odds_112 (by decide) (fun c16 => ?_) (fun c16 => ?_)
        · replace hw := hw.2 c16
          exact hkx _ _ _ _ _ _ _ hw hO (lv_sub hl [0, 1, 2, 3, 4, 5, 6, 7, 8] rfl)
        · replace hw := hw.1 c16
          refine lv_lload hx hb dX7_odds_115 (lv_at hl 6 rfl) ?_
          refine lv_ldc2 (v := 2) hx hb hown (hts _ (List.mem_of_getElem? (i := 4) rfl)) dX7_odds_117 ?_
          refine lv_ldiv hx hb dX7_odds_120 hw.1 ?_
          replace hw := hw.2
          refine lv_topl (fun x17 ex17 => ?_)
          replace hw := hw x17 ex17
          refine lv_lstore (lv' := [(6, .long x17), (0, .ref (xa g 0)), (1, .int f1), (2, .int f2), (3, .int f3), (4, .int f4), (5, .int f5), (8, .long m8), (10, .int m10)]) hx hb dX7_odds_121 hl (by decide) rfl (fun ls hl => ?_)
          refine lv_lload hx hb dX7_odds_123 (lv_at hl 7 rfl) ?_
          refine lv_ldc2 (v := 2) hx hb hown (hts _ (List.mem_of_getElem? (i := 4) rfl)) dX7_odds_125 ?_
          refine lv_ldiv hx hb dX7_odds_128 hw.1 ?_
          replace hw := hw.2
          refine lv_topl (fun x18 ex18 => ?_)
          replace hw := hw x18 ex18
          refine lv_lstore (lv' := [(8, .long x18), (6, .long x17), (0, .ref (xa g 0)), (1, .int f1), (2, .int f2), (3, .int f3), (4, .int f4), (5, .int f5), (10, .int m10)]) hx hb dX7_odds_129 hl (by decide) rfl (fun ls hl => ?_)
          obtain ⟨x19, ex19⟩ : ∃ z : Int32, z = m10 + 1 := ⟨_, rfl⟩
          replace hw := hw x19 ex19
          refine lv_iinc (v := x19) (lv' := [(10, .int x19), (8, .long x18), (6, .long x17), (0, .ref (xa g 0)), (1, .int f1), (2, .int f2), (3, .int f3), (4, .int f4), (5, .int f5)]) hx hb dX7_odds_131 hl (k := 8) rfl (by rw [ex19]; rfl) (by decide) rfl (fun ls hl => ?_)
          refine lv_goto (tgt := 90) hx hb dX7_odds_134 (by decide) ?_
          exact ih _ _ _ _ _ _ _ hw hO (lv_sub hl [3, 4, 5, 6, 7, 8, 2, 1, 0] rfl)
set_option maxHeartbeats 4000000 in
set_option maxRecDepth 100000 in
theorem kX7_odds (l : Launch) (g : XG) (sz : Nat) (a1 : Int32) (a2 : Int32) (a3 : Int32) (a4 : Int32) (σ : XS) (post : Int64 → XS → Prop) (hw : PX7_odds a1 a2 a3 a4 σ post) : xMl l yX7_odds wsX7_odds rmX7_odds 0 0 g sz [.ref (xa g 0), .int a1, .int a2, .int a3, .int a4] σ post := by
  unfold PX7_odds at hw
  refine x_head (Qc := fun A => va_Ql post (xAt g A) A) (cc := cX7_odds) (maxL := 11) (ret := (some .long)) (by decide) rfl ?_
  intro p e s m below meth c A C0 hnm hO
  refine x_entry (Nat.le_of_ble_eq_true rfl) (fun ls hl => ?_)
  have hl : lv_has ls 11 [(0, .ref (xa g 0)), (1, .int a1), (2, .int a2), (3, .int a3), (4, .int a4)] := hl
  have hx := C0.1
  have hb := C0.2.1
  have hown := C0.2.2.2.2.2.1
  have hts := C0.2.2.2.2.2.2.1
  refine lv_aload_n hx hb dX7_odds_0 rfl (lv_at hl 0 rfl) ?_
  refine lv_iload_n hx hb dX7_odds_1 rfl (lv_at hl 1 rfl) ?_
  refine x_calli C0 hO (x_runV (As := [.int a1]) (rest := []) C0 hO (kX7_isPlace l g _ a1 σ _ hw) 1 rfl (xRecv C0 hO (j := 0) rfl rfl) gX7_odds_X7_isPlace rfl rfl rfl hdX7_isPlace ⟨Nat.le_of_ble_eq_true rfl, Nat.le_of_ble_eq_true rfl⟩ hl.1 rfl (Nat.le_of_ble_eq_true rfl) dX7_odds_2 ⟨Nat.le_of_ble_eq_true rfl, Nat.le_of_ble_eq_true rfl⟩) (fun r1 σ' H locs hw hO => ?_)
  obtain ⟨hσ, hw⟩ := hw
  subst hσ
  refine lv_if_ne (tgt := 12) hx hb dX7_odds_5 (by decide) (fun c2 => ?_) (fun c2 => ?_)
  · replace hw := hw.2 c2
    refine lv_iload_n hx hb dX7_odds_12 rfl (lv_at hl 2 rfl) ?_
    refine x_calli C0 hO (x_runS (As := [.int a2]) (rest := []) C0 hO (kX7_isNight l g _ a2 σ _ hw) 1 rfl gX7_odds_X7_isNight rfl rfl rfl hdX7_isNight.2 ⟨Nat.le_of_ble_eq_true rfl, Nat.le_of_ble_eq_true rfl⟩ hl.1 rfl (Nat.le_of_ble_eq_true rfl) dX7_odds_13 ⟨Nat.le_of_ble_eq_true rfl, Nat.le_of_ble_eq_true rfl⟩) (fun r3 σ' H locs hw hO => ?_)
    obtain ⟨hσ, hw⟩ := hw
    subst hσ
    refine lv_if_eq (tgt := 37) hx hb dX7_odds_16 (by decide) (fun c4 => ?_) (fun c4 => ?_)
    · replace hw := hw.1 c4
      refine lv_ldc2 (v := -9223372036854775808) hx hb hown (hts _ (List.mem_of_getElem? (i := 1) rfl)) dX7_odds_37 ?_
      exact x_lret C0 hO hw dX7_odds_40
    · replace hw := hw.2 c4
      refine lv_iload_n hx hb dX7_odds_19 rfl (lv_at hl 3 rfl) ?_
      refine lv_if_lt (tgt := 37) hx hb dX7_odds_20 (by decide) (fun c5 => ?_) (fun c5 => ?_)
      · replace hw := hw.1 c5
        refine lv_ldc2 (v := -9223372036854775808) hx hb hown (hts _ (List.mem_of_getElem? (i := 1) rfl)) dX7_odds_37 ?_
        exact x_lret C0 hO hw dX7_odds_40
      · replace hw := hw.2 c5
        refine lv_iload_n hx hb dX7_odds_23 rfl (lv_at hl 3 rfl) ?_
        refine lv_bipush (v := 24) hx hb dX7_odds_24 (by decide) ?_
        refine lv_icmp_gt (tgt := 37) hx hb dX7_odds_26 (by decide) (fun c6 => ?_) (fun c6 => ?_)
        · replace hw := hw.1 c6
          refine lv_ldc2 (v := -9223372036854775808) hx hb hown (hts _ (List.mem_of_getElem? (i := 1) rfl)) dX7_odds_37 ?_
          exact x_lret C0 hO hw dX7_odds_40
        · replace hw := hw.2 c6
          refine lv_iload hx hb dX7_odds_29 (lv_at hl 4 rfl) ?_
          refine x_calli C0 hO (x_runS (As := [.int a4]) (rest := []) C0 hO (kX7_isEither l g _ a4 σ _ hw) 1 rfl gX7_odds_X7_isEither rfl rfl rfl hdX7_isEither.2 ⟨Nat.le_of_ble_eq_true rfl, Nat.le_of_ble_eq_true rfl⟩ hl.1 rfl (Nat.le_of_ble_eq_true rfl) dX7_odds_31 ⟨Nat.le_of_ble_eq_true rfl, Nat.le_of_ble_eq_true rfl⟩) (fun r7 σ' H locs hw hO => ?_)
          obtain ⟨hσ, hw⟩ := hw
          subst hσ
          refine lv_if_ne (tgt := 41) hx hb dX7_odds_34 (by decide) (fun c8 => ?_) (fun c8 => ?_)
          · replace hw := hw.2 c8
            refine lv_aload_n hx hb dX7_odds_41 rfl (lv_at hl 0 rfl) ?_
            refine x_getr C0 hO 0 3 4 rfl rfl (by decide) rfl iX7_odds_7 rfl (List.mem_of_getElem? (i := 2) rfl) dX7_odds_42 ?_
            refine lv_iload_n hx hb dX7_odds_45 rfl (lv_at hl 2 rfl) ?_
            refine lv_aload_n hx hb dX7_odds_46 rfl (lv_at hl 0 rfl) ?_
            refine x_getr C0 hO 0 4 11 rfl rfl (by decide) rfl iX7_odds_7 rfl (List.mem_of_getElem? (i := 3) rfl) dX7_odds_47 ?_
            refine x_callv C0 hO (x_runV (As := [.int a2, .ref (xa g 11)]) (rest := []) C0 hO (kX5_playTo l g _ a2 σ _ hw) 2 rfl (xRecv C0 hO (j := 4) rfl rfl) gX7_odds_X5_playTo rfl rfl rfl hdX5_playTo ⟨Nat.le_of_ble_eq_true rfl, Nat.le_of_ble_eq_true rfl⟩ hl.1 rfl (Nat.le_of_ble_eq_true rfl) dX7_odds_50 ⟨Nat.le_of_ble_eq_true rfl, Nat.le_of_ble_eq_true rfl⟩) (fun σ9 H locs hw hO => ?_)
            refine lv_aload_n hx hb dX7_odds_53 rfl (lv_at hl 0 rfl) ?_
            refine x_getr C0 hO 0 4 11 rfl rfl (by decide) rfl iX7_odds_7 rfl (List.mem_of_getElem? (i := 3) rfl) dX7_odds_54 ?_
            refine lv_iload_n hx hb dX7_odds_57 rfl (lv_at hl 1 rfl) ?_
            refine x_calli C0 hO (x_runV (As := [.int a1]) (rest := []) C0 hO (kX1_heightAt l g _ a1 σ9 _ hw) 1 rfl (xRecv C0 hO (j := 11) rfl rfl) gX7_odds_X1_heightAt rfl rfl rfl hdX1_heightAt ⟨Nat.le_of_ble_eq_true rfl, Nat.le_of_ble_eq_true rfl⟩ hl.1 rfl (Nat.le_of_ble_eq_true rfl) dX7_odds_58 ⟨Nat.le_of_ble_eq_true rfl, Nat.le_of_ble_eq_true rfl⟩) (fun r10 σ' H locs hw hO => ?_)
            obtain ⟨hσ, hw⟩ := hw
            subst hσ
            refine lv_istore (lv' := [(5, .int r10), (0, .ref (xa g 0)), (1, .int a1), (2, .int a2), (3, .int a3), (4, .int a4)]) hx hb dX7_odds_61 hl (by decide) rfl (fun ls hl => ?_)
            refine lv_iload hx hb dX7_odds_63 (lv_at hl 0 rfl) ?_
            refine lv_iload_n hx hb dX7_odds_65 rfl (lv_at hl 4 rfl) ?_
            refine x_calll C0 hO (x_runS (As := [.int r10, .int a3]) (rest := []) C0 hO (kX7_waysToPick l g _ r10 a3 σ9 _ hw) 2 rfl gX7_odds_X7_waysToPick rfl rfl rfl hdX7_waysToPick.2 ⟨Nat.le_of_ble_eq_true rfl, Nat.le_of_ble_eq_true rfl⟩ hl.1 rfl (Nat.le_of_ble_eq_true rfl) dX7_odds_66 ⟨Nat.le_of_ble_eq_true rfl, Nat.le_of_ble_eq_true rfl⟩) (fun r11 σ' H locs hw hO => ?_)
            obtain ⟨hσ, hw⟩ := hw
            subst hσ
            refine lv_lstore (lv' := [(6, .long r11), (5, .int r10), (0, .ref (xa g 0)), (1, .int a1), (2, .int a2), (3, .int a3), (4, .int a4)]) hx hb dX7_odds_69 hl (by decide) rfl (fun ls hl => ?_)
            refine lv_lconst (v := 1) hx hb dX7_odds_71 (by decide) ?_
            refine lv_iload hx hb dX7_odds_72 (lv_at hl 1 rfl) ?_
            refine lv_lshl hx hb dX7_odds_74 rfl ?_
            refine lv_topl (fun x12 ex12 => ?_)
            replace hw := hw x12 ex12
            refine lv_lstore (lv' := [(8, .long x12), (6, .long r11), (5, .int r10), (0, .ref (xa g 0)), (1, .int a1), (2, .int a2), (3, .int a3), (4, .int a4)]) hx hb dX7_odds_75 hl (by decide) rfl (fun ls hl => ?_)
            refine lv_lload hx hb dX7_odds_77 (lv_at hl 1 rfl) ?_
            refine lv_lconst (v := 0) hx hb dX7_odds_79 (by decide) ?_
            refine W.lcmp hx hb dX7_odds_80 ?_
            refine lv_if_ne (tgt := 87) hx hb dX7_odds_81 (by decide) (fun c13 => ?_) (fun c13 => ?_)
            · replace hw := hw.2 c13
              refine lv_iconst (v := 0) hx hb dX7_odds_87 (by decide) ?_
              refine lv_istore (lv' := [(10, .int (0 : Int32)), (8, .long x12), (6, .long r11), (5, .int r10), (0, .ref (xa g 0)), (1, .int a1), (2, .int a2), (3, .int a3), (4, .int a4)]) hx hb dX7_odds_88 hl (by decide) rfl (fun ls hl => ?_)
              refine lX7_odds_90 C0 a1 a2 a3 a4 r10 post _ (fun x20 x21 x22 σ23 H locs ls hw hO hl => ?_) 1000 _ _ _ _ _ _ _ hw hO (lv_sub hl [4, 5, 6, 7, 8, 3, 2, 1, 0] rfl)
              refine lv_iload hx hb dX7_odds_137 (lv_at hl 4 rfl) ?_
              refine lv_if_ne (tgt := 147) hx hb dX7_odds_139 (by decide) (fun c24 => ?_) (fun c24 => ?_)
              · replace hw := hw.2 c24
                refine lv_lload hx hb dX7_odds_147 (lv_at hl 7 rfl) ?_
                exact x_lret C0 hO hw dX7_odds_149
              · replace hw := hw.1 c24
                refine lv_lload hx hb dX7_odds_142 (lv_at hl 6 rfl) ?_
                refine lv_goto (tgt := 149) hx hb dX7_odds_144 (by decide) ?_
                exact x_lret C0 hO hw dX7_odds_149
            · replace hw := hw.1 c13
              refine lv_lconst (v := 1) hx hb dX7_odds_84 (by decide) ?_
              refine lv_lstore (lv' := [(8, .long (1 : Int64)), (6, .long r11), (5, .int r10), (0, .ref (xa g 0)), (1, .int a1), (2, .int a2), (3, .int a3), (4, .int a4)]) hx hb dX7_odds_85 hl (by decide) rfl (fun ls hl => ?_)
              refine lv_iconst (v := 0) hx hb dX7_odds_87 (by decide) ?_
              refine lv_istore (lv' := [(10, .int (0 : Int32)), (8, .long (1 : Int64)), (6, .long r11), (5, .int r10), (0, .ref (xa g 0)), (1, .int a1), (2, .int a2), (3, .int a3), (4, .int a4)]) hx hb dX7_odds_88 hl (by decide) rfl (fun ls hl => ?_)
              refine lX7_odds_90 C0 a1 a2 a3 a4 r10 post _ (fun x25 x26 x27 σ28 H locs ls hw hO hl => ?_) 1000 _ _ _ _ _ _ _ hw hO (lv_sub hl [4, 5, 6, 7, 8, 3, 2, 1, 0] rfl)
              refine lv_iload hx hb dX7_odds_137 (lv_at hl 4 rfl) ?_
              refine lv_if_ne (tgt := 147) hx hb dX7_odds_139 (by decide) (fun c29 => ?_) (fun c29 => ?_)
              · replace hw := hw.2 c29
                refine lv_lload hx hb dX7_odds_147 (lv_at hl 7 rfl) ?_
                exact x_lret C0 hO hw dX7_odds_149
              · replace hw := hw.1 c29
                refine lv_lload hx hb dX7_odds_142 (lv_at hl 6 rfl) ?_
                refine lv_goto (tgt := 149) hx hb dX7_odds_144 (by decide) ?_
                exact x_lret C0 hO hw dX7_odds_149
          · replace hw := hw.1 c8
            refine lv_ldc2 (v := -9223372036854775808) hx hb hown (hts _ (List.mem_of_getElem? (i := 1) rfl)) dX7_odds_37 ?_
            exact x_lret C0 hO hw dX7_odds_40
  · replace hw := hw.1 c2
    refine lv_ldc2 (v := -9223372036854775808) hx hb hown (hts _ (List.mem_of_getElem? (i := 1) rfl)) dX7_odds_8 ?_
    exact x_lret C0 hO hw dX7_odds_11
theorem iX7_sheet_7 : ∀ w ∈ wsX70, w ∈ wsX7_sheet := fun w h => List.mem_cons_of_mem _ (List.mem_append_left _ (List.mem_append_right _ h))
theorem hdX7_sheet : yX7_sheet.cls = RX7 ∧ yX7_sheet.cls ≠ "java/lang/invoke/MethodHandle" ∧ yX7_sheet.cls ≠ "java/lang/invoke/VarHandle" ∧ (parseMethodDescriptor yX7_sheet.desc).map (fun d => d.parameters.length) = some 3 := by decide +kernel
set_option maxHeartbeats 4000000 in
set_option maxRecDepth 100000 in
theorem kX7_sheet (l : Launch) (g : XG) (sz : Nat) (a1 : Int32) (a2 : Int32) (a3 : Int32) (σ : XS) (post : Int32 → XS → Prop) (hw : PX7_sheet a1 a2 a3 σ post) : xMi l yX7_sheet wsX7_sheet rmX7_sheet 0 0 g sz [.ref (xa g 0), .int a1, .int a2, .int a3] σ post := by
  unfold PX7_sheet at hw
  refine x_head (Qc := fun A => va_Qi post (xAt g A) A) (cc := cX7_sheet) (maxL := 5) (ret := (some .int)) (by decide) rfl ?_
  intro p e s m below meth c A C0 hnm hO
  refine x_entry (Nat.le_of_ble_eq_true rfl) (fun ls hl => ?_)
  have hl : lv_has ls 5 [(0, .ref (xa g 0)), (1, .int a1), (2, .int a2), (3, .int a3)] := hl
  have hx := C0.1
  have hb := C0.2.1
  have hown := C0.2.2.2.2.2.1
  have hts := C0.2.2.2.2.2.2.1
  refine lv_aload_n hx hb dX7_sheet_0 rfl (lv_at hl 0 rfl) ?_
  refine lv_iconst (v := 0) hx hb dX7_sheet_1 (by decide) ?_
  refine x_puti C0 hO 0 8 tyX7 tyX7_ok nmX7 rfl rfl (by decide) rfl iX7_sheet_7 rfl rfl rfl (List.mem_of_getElem? (i := 1) rfl) dX7_sheet_2 (fun σ1 H locs eσ1 hO => ?_)
  replace hw := hw σ1 eσ1
  refine lv_aload_n hx hb dX7_sheet_5 rfl (lv_at hl 0 rfl) ?_
  refine lv_iload_n hx hb dX7_sheet_6 rfl (lv_at hl 1 rfl) ?_
  refine x_callq C0 hO (x_runV (As := [.int a1]) (rest := []) C0 hO (kX7_sheetOf l g _ a1 σ1 _ hw) 1 rfl (xRecv C0 hO (j := 0) rfl rfl) gX7_sheet_X7_sheetOf rfl rfl rfl hdX7_sheetOf ⟨Nat.le_of_ble_eq_true rfl, Nat.le_of_ble_eq_true rfl⟩ hl.1 rfl (Nat.le_of_ble_eq_true rfl) dX7_sheet_7 ⟨Nat.le_of_ble_eq_true rfl, Nat.le_of_ble_eq_true rfl⟩) (fun r2 σ' H locs hw hO => ?_)
  obtain ⟨hσ, hw⟩ := hw
  subst hσ
  obtain ⟨o, hr, hw⟩ := hw
  subst hr
  rcases o with _ | u3
  · replace hw := hw.1 rfl
    refine W.eq (g2 := F0 m 10 ls [.null]) rfl ?_
    refine lv_astoreN (lv' := [(4, .null), (0, .ref (xa g 0)), (1, .int a1), (2, .int a2), (3, .int a3)]) hx hb dX7_sheet_10 hl (by decide) rfl (fun ls hl => ?_)
    refine lv_aloadN hx hb dX7_sheet_12 (lv_at hl 0 rfl) ?_
    refine lv_ifnonnullN hx hb dX7_sheet_14 ?_
    refine lv_iconst (v := -1) hx hb dX7_sheet_17 (by decide) ?_
    exact x_iret C0 hO hw dX7_sheet_18
  · have hs_u3 := (hw.2 u3 rfl).1
    replace hw := (hw.2 u3 rfl).2
    refine W.eq (g2 := F0 m 10 ls [.ref (xa g u3)]) rfl ?_
    refine lv_astore (lv' := [(4, .ref (xa g u3)), (0, .ref (xa g 0)), (1, .int a1), (2, .int a2), (3, .int a3)]) hx hb dX7_sheet_10 hl (by decide) rfl (fun ls hl => ?_)
    refine lv_aload hx hb dX7_sheet_12 (lv_at hl 0 rfl) ?_
    refine lv_ifnonnull (tgt := 19) hx hb dX7_sheet_14 (by decide) ?_
    refine lv_iload_n hx hb dX7_sheet_19 rfl (lv_at hl 3 rfl) ?_
    refine x_calli C0 hO (x_runS (As := [.int a2]) (rest := []) C0 hO (kX7_isLane l g _ a2 σ1 _ hw) 1 rfl gX7_sheet_X7_isLane rfl rfl rfl hdX7_isLane.2 ⟨Nat.le_of_ble_eq_true rfl, Nat.le_of_ble_eq_true rfl⟩ hl.1 rfl (Nat.le_of_ble_eq_true rfl) dX7_sheet_20 ⟨Nat.le_of_ble_eq_true rfl, Nat.le_of_ble_eq_true rfl⟩) (fun r4 σ' H locs hw hO => ?_)
    obtain ⟨hσ, hw⟩ := hw
    subst hσ
    refine lv_if_eq (tgt := 32) hx hb dX7_sheet_23 (by decide) (fun c5 => ?_) (fun c5 => ?_)
    · replace hw := hw.1 c5
      refine lv_bipush (v := -2) hx hb dX7_sheet_32 (by decide) ?_
      exact x_iret C0 hO hw dX7_sheet_34
    · replace hw := hw.2 c5
      refine lv_iload_n hx hb dX7_sheet_26 rfl (lv_at hl 4 rfl) ?_
      refine lv_bipush (v := 60) hx hb dX7_sheet_27 (by decide) ?_
      refine lv_icmp_le (tgt := 35) hx hb dX7_sheet_29 (by decide) (fun c6 => ?_) (fun c6 => ?_)
      · replace hw := hw.1 c6
        refine lv_iload_n hx hb dX7_sheet_35 rfl (lv_at hl 4 rfl) ?_
        refine lv_if_ge (tgt := 45) hx hb dX7_sheet_36 (by decide) (fun c7 => ?_) (fun c7 => ?_)
        · replace hw := hw.1 c7
          refine lv_aload hx hb dX7_sheet_45 (lv_at hl 0 rfl) ?_
          refine lv_iload_n hx hb dX7_sheet_47 rfl (lv_at hl 3 rfl) ?_
          refine lv_iload_n hx hb dX7_sheet_48 rfl (lv_at hl 4 rfl) ?_
          refine x_callv C0 hO (x_runV (As := [.int a2, .int a3]) (rest := []) C0 hO (kX3_renew l g _ u3 hs_u3 a2 a3 σ1 _ hw) 2 rfl (xRecv C0 hO (j := u3) hs_u3.1 rfl) gX7_sheet_X3_renew rfl rfl rfl hdX3_renew ⟨Nat.le_of_ble_eq_true rfl, Nat.le_of_ble_eq_true rfl⟩ hl.1 rfl (Nat.le_of_ble_eq_true rfl) dX7_sheet_49 ⟨Nat.le_of_ble_eq_true rfl, Nat.le_of_ble_eq_true rfl⟩) (fun σ8 H locs hw hO => ?_)
          refine lv_iconst (v := 1) hx hb dX7_sheet_52 (by decide) ?_
          exact x_iret C0 hO hw dX7_sheet_53
        · replace hw := hw.2 c7
          refine lv_aload_n hx hb dX7_sheet_39 rfl (lv_at hl 1 rfl) ?_
          refine lv_iconst (v := 4) hx hb dX7_sheet_40 (by decide) ?_
          refine x_calli C0 hO (x_runV (As := [.int (4 : Int32)]) (rest := []) C0 hO (kX7_fails l g _ (4 : Int32) σ1 _ hw) 1 rfl (xRecv C0 hO (j := 0) rfl rfl) gX7_sheet_X7_fails rfl rfl rfl hdX7_fails ⟨Nat.le_of_ble_eq_true rfl, Nat.le_of_ble_eq_true rfl⟩ hl.1 rfl (Nat.le_of_ble_eq_true rfl) dX7_sheet_41 ⟨Nat.le_of_ble_eq_true rfl, Nat.le_of_ble_eq_true rfl⟩) (fun r9 σ10 H locs hw hO => ?_)
          exact x_iret C0 hO hw dX7_sheet_44
      · replace hw := hw.2 c6
        refine lv_bipush (v := -2) hx hb dX7_sheet_32 (by decide) ?_
        exact x_iret C0 hO hw dX7_sheet_34
theorem hdX7_lose : yX7_lose.cls = RX7 ∧ yX7_lose.cls ≠ "java/lang/invoke/MethodHandle" ∧ yX7_lose.cls ≠ "java/lang/invoke/VarHandle" ∧ (parseMethodDescriptor yX7_lose.desc).map (fun d => d.parameters.length) = some 1 := by decide +kernel
set_option maxHeartbeats 4000000 in
set_option maxRecDepth 100000 in
theorem kX7_lose (l : Launch) (g : XG) (sz : Nat) (a1 : Int32) (σ : XS) (post : Int32 → XS → Prop) (hw : PX7_lose a1 σ post) : xMi l yX7_lose wsX7_lose rmX7_lose 0 0 g sz [.ref (xa g 0), .int a1] σ post := by
  unfold PX7_lose at hw
  refine x_head (Qc := fun A => va_Qi post (xAt g A) A) (cc := cX7_lose) (maxL := 3) (ret := (some .int)) (by decide) rfl ?_
  intro p e s m below meth c A C0 hnm hO
  refine x_entry (Nat.le_of_ble_eq_true rfl) (fun ls hl => ?_)
  have hl : lv_has ls 3 [(0, .ref (xa g 0)), (1, .int a1)] := hl
  have hx := C0.1
  have hb := C0.2.1
  have hown := C0.2.2.2.2.2.1
  have hts := C0.2.2.2.2.2.2.1
  refine lv_aload_n hx hb dX7_lose_0 rfl (lv_at hl 0 rfl) ?_
  refine lv_iload_n hx hb dX7_lose_1 rfl (lv_at hl 1 rfl) ?_
  refine x_callq C0 hO (x_runV (As := [.int a1]) (rest := []) C0 hO (kX7_sheetOf l g _ a1 σ _ hw) 1 rfl (xRecv C0 hO (j := 0) rfl rfl) gX7_lose_X7_sheetOf rfl rfl rfl hdX7_sheetOf ⟨Nat.le_of_ble_eq_true rfl, Nat.le_of_ble_eq_true rfl⟩ hl.1 rfl (Nat.le_of_ble_eq_true rfl) dX7_lose_2 ⟨Nat.le_of_ble_eq_true rfl, Nat.le_of_ble_eq_true rfl⟩) (fun r1 σ' H locs hw hO => ?_)
  obtain ⟨hσ, hw⟩ := hw
  subst hσ
  obtain ⟨o, hr, hw⟩ := hw
  subst hr
  rcases o with _ | u2
  · replace hw := hw.1 rfl
    refine W.eq (g2 := F0 m 5 ls [.null]) rfl ?_
    refine lv_astore_nN (lv' := [(2, .null), (0, .ref (xa g 0)), (1, .int a1)]) hx hb dX7_lose_5 rfl hl (by decide) rfl (fun ls hl => ?_)
    refine lv_aload_nN hx hb dX7_lose_6 rfl (lv_at hl 0 rfl) ?_
    refine lv_ifnonnullN hx hb dX7_lose_7 ?_
    refine lv_iconst (v := -1) hx hb dX7_lose_10 (by decide) ?_
    exact x_iret C0 hO hw dX7_lose_11
  · have hs_u2 := (hw.2 u2 rfl).1
    replace hw := (hw.2 u2 rfl).2
    refine W.eq (g2 := F0 m 5 ls [.ref (xa g u2)]) rfl ?_
    refine lv_astore_n (lv' := [(2, .ref (xa g u2)), (0, .ref (xa g 0)), (1, .int a1)]) hx hb dX7_lose_5 rfl hl (by decide) rfl (fun ls hl => ?_)
    refine lv_aload_n hx hb dX7_lose_6 rfl (lv_at hl 0 rfl) ?_
    refine lv_ifnonnull (tgt := 12) hx hb dX7_lose_7 (by decide) ?_
    refine lv_aload_n hx hb dX7_lose_12 rfl (lv_at hl 0 rfl) ?_
    refine x_calli C0 hO (x_runV (As := []) (rest := []) C0 hO (kX3_isNothing l g _ u2 hs_u2 σ _ hw) 0 rfl (xRecv C0 hO (j := u2) hs_u2.1 rfl) gX7_lose_X3_isNothing rfl rfl rfl hdX3_isNothing ⟨Nat.le_of_ble_eq_true rfl, Nat.le_of_ble_eq_true rfl⟩ hl.1 rfl (Nat.le_of_ble_eq_true rfl) dX7_lose_13 ⟨Nat.le_of_ble_eq_true rfl, Nat.le_of_ble_eq_true rfl⟩) (fun r3 σ' H locs hw hO => ?_)
    obtain ⟨hσ, hw⟩ := hw
    subst hσ
    refine lv_if_eq (tgt := 21) hx hb dX7_lose_16 (by decide) (fun c4 => ?_) (fun c4 => ?_)
    · replace hw := hw.1 c4
      refine lv_aload_n hx hb dX7_lose_21 rfl (lv_at hl 0 rfl) ?_
      refine x_callv C0 hO (x_runV (As := []) (rest := []) C0 hO (kX3_drop l g _ u2 hs_u2 σ _ hw) 0 rfl (xRecv C0 hO (j := u2) hs_u2.1 rfl) gX7_lose_X3_drop rfl rfl rfl hdX3_drop ⟨Nat.le_of_ble_eq_true rfl, Nat.le_of_ble_eq_true rfl⟩ hl.1 rfl (Nat.le_of_ble_eq_true rfl) dX7_lose_22 ⟨Nat.le_of_ble_eq_true rfl, Nat.le_of_ble_eq_true rfl⟩) (fun σ5 H locs hw hO => ?_)
      refine lv_iconst (v := 1) hx hb dX7_lose_25 (by decide) ?_
      exact x_iret C0 hO hw dX7_lose_26
    · replace hw := hw.2 c4
      refine lv_iconst (v := 0) hx hb dX7_lose_19 (by decide) ?_
      exact x_iret C0 hO hw dX7_lose_20
theorem iX7_put_7 : ∀ w ∈ wsX70, w ∈ wsX7_put := fun w h => List.mem_cons_of_mem _ (List.mem_append_left _ (List.mem_append_right _ h))
theorem hdX7_put : yX7_put.cls = RX7 ∧ yX7_put.cls ≠ "java/lang/invoke/MethodHandle" ∧ yX7_put.cls ≠ "java/lang/invoke/VarHandle" ∧ (parseMethodDescriptor yX7_put.desc).map (fun d => d.parameters.length) = some 3 := by decide +kernel
set_option maxHeartbeats 4000000 in
set_option maxRecDepth 100000 in
theorem kX7_put (l : Launch) (g : XG) (sz : Nat) (a1 : Int32) (a2 : Int32) (a3 : Int32) (σ : XS) (post : Int32 → XS → Prop) (hw : PX7_put a1 a2 a3 σ post) : xMi l yX7_put wsX7_put rmX7_put 0 0 g sz [.ref (xa g 0), .int a1, .int a2, .int a3] σ post := by
  unfold PX7_put at hw
  refine x_head (Qc := fun A => va_Qi post (xAt g A) A) (cc := cX7_put) (maxL := 5) (ret := (some .int)) (by decide) rfl ?_
  intro p e s m below meth c A C0 hnm hO
  refine x_entry (Nat.le_of_ble_eq_true rfl) (fun ls hl => ?_)
  have hl : lv_has ls 5 [(0, .ref (xa g 0)), (1, .int a1), (2, .int a2), (3, .int a3)] := hl
  have hx := C0.1
  have hb := C0.2.1
  have hown := C0.2.2.2.2.2.1
  have hts := C0.2.2.2.2.2.2.1
  refine lv_aload_n hx hb dX7_put_0 rfl (lv_at hl 0 rfl) ?_
  refine lv_iconst (v := 0) hx hb dX7_put_1 (by decide) ?_
  refine x_puti C0 hO 0 8 tyX7 tyX7_ok nmX7 rfl rfl (by decide) rfl iX7_put_7 rfl rfl rfl (List.mem_of_getElem? (i := 1) rfl) dX7_put_2 (fun σ1 H locs eσ1 hO => ?_)
  replace hw := hw σ1 eσ1
  refine lv_aload_n hx hb dX7_put_5 rfl (lv_at hl 0 rfl) ?_
  refine lv_iload_n hx hb dX7_put_6 rfl (lv_at hl 1 rfl) ?_
  refine x_callq C0 hO (x_runV (As := [.int a1]) (rest := []) C0 hO (kX7_sheetOf l g _ a1 σ1 _ hw) 1 rfl (xRecv C0 hO (j := 0) rfl rfl) gX7_put_X7_sheetOf rfl rfl rfl hdX7_sheetOf ⟨Nat.le_of_ble_eq_true rfl, Nat.le_of_ble_eq_true rfl⟩ hl.1 rfl (Nat.le_of_ble_eq_true rfl) dX7_put_7 ⟨Nat.le_of_ble_eq_true rfl, Nat.le_of_ble_eq_true rfl⟩) (fun r2 σ' H locs hw hO => ?_)
  obtain ⟨hσ, hw⟩ := hw
  subst hσ
  obtain ⟨o, hr, hw⟩ := hw
  subst hr
  rcases o with _ | u3
  · replace hw := hw.1 rfl
    refine W.eq (g2 := F0 m 10 ls [.null]) rfl ?_
    refine lv_astoreN (lv' := [(4, .null), (0, .ref (xa g 0)), (1, .int a1), (2, .int a2), (3, .int a3)]) hx hb dX7_put_10 hl (by decide) rfl (fun ls hl => ?_)
    refine lv_aloadN hx hb dX7_put_12 (lv_at hl 0 rfl) ?_
    refine lv_ifnonnullN hx hb dX7_put_14 ?_
    refine lv_iconst (v := -1) hx hb dX7_put_17 (by decide) ?_
    exact x_iret C0 hO hw dX7_put_18
  · have hs_u3 := (hw.2 u3 rfl).1
    replace hw := (hw.2 u3 rfl).2
    refine W.eq (g2 := F0 m 10 ls [.ref (xa g u3)]) rfl ?_
    refine lv_astore (lv' := [(4, .ref (xa g u3)), (0, .ref (xa g 0)), (1, .int a1), (2, .int a2), (3, .int a3)]) hx hb dX7_put_10 hl (by decide) rfl (fun ls hl => ?_)
    refine lv_aload hx hb dX7_put_12 (lv_at hl 0 rfl) ?_
    refine lv_ifnonnull (tgt := 19) hx hb dX7_put_14 (by decide) ?_
    refine lv_aload hx hb dX7_put_19 (lv_at hl 0 rfl) ?_
    refine x_calli C0 hO (x_runV (As := []) (rest := []) C0 hO (kX3_isNothing l g _ u3 hs_u3 σ1 _ hw) 0 rfl (xRecv C0 hO (j := u3) hs_u3.1 rfl) gX7_put_X3_isNothing rfl rfl rfl hdX3_isNothing ⟨Nat.le_of_ble_eq_true rfl, Nat.le_of_ble_eq_true rfl⟩ hl.1 rfl (Nat.le_of_ble_eq_true rfl) dX7_put_21 ⟨Nat.le_of_ble_eq_true rfl, Nat.le_of_ble_eq_true rfl⟩) (fun r4 σ' H locs hw hO => ?_)
    obtain ⟨hσ, hw⟩ := hw
    subst hσ
    refine lv_if_eq (tgt := 33) hx hb dX7_put_24 (by decide) (fun c5 => ?_) (fun c5 => ?_)
    · replace hw := hw.1 c5
      refine lv_aload hx hb dX7_put_33 (lv_at hl 0 rfl) ?_
      refine lv_iload_n hx hb dX7_put_35 rfl (lv_at hl 3 rfl) ?_
      refine lv_iconst (v := 1) hx hb dX7_put_36 (by decide) ?_
      refine x_calli C0 hO (x_runV (As := [.int a2, .int (1 : Int32)]) (rest := []) C0 hO (kX3_reaches l g _ u3 hs_u3 a2 (1 : Int32) σ1 _ hw) 2 rfl (xRecv C0 hO (j := u3) hs_u3.1 rfl) gX7_put_X3_reaches rfl rfl rfl hdX3_reaches ⟨Nat.le_of_ble_eq_true rfl, Nat.le_of_ble_eq_true rfl⟩ hl.1 rfl (Nat.le_of_ble_eq_true rfl) dX7_put_37 ⟨Nat.le_of_ble_eq_true rfl, Nat.le_of_ble_eq_true rfl⟩) (fun r6 σ' H locs hw hO => ?_)
      obtain ⟨hσ, hw⟩ := hw
      subst hσ
      refine lv_if_ne (tgt := 49) hx hb dX7_put_40 (by decide) (fun c7 => ?_) (fun c7 => ?_)
      · replace hw := hw.2 c7
        refine lv_aload hx hb dX7_put_49 (lv_at hl 0 rfl) ?_
        refine lv_iload_n hx hb dX7_put_51 rfl (lv_at hl 3 rfl) ?_
        refine lv_iload_n hx hb dX7_put_52 rfl (lv_at hl 4 rfl) ?_
        refine x_callv C0 hO (x_runV (As := [.int a2, .int a3]) (rest := []) C0 hO (kX3_write l g _ u3 hs_u3 a2 a3 σ1 _ hw) 2 rfl (xRecv C0 hO (j := u3) hs_u3.1 rfl) gX7_put_X3_write rfl rfl rfl hdX3_write ⟨Nat.le_of_ble_eq_true rfl, Nat.le_of_ble_eq_true rfl⟩ hl.1 rfl (Nat.le_of_ble_eq_true rfl) dX7_put_53 ⟨Nat.le_of_ble_eq_true rfl, Nat.le_of_ble_eq_true rfl⟩) (fun σ8 H locs hw hO => ?_)
        refine lv_iconst (v := 1) hx hb dX7_put_56 (by decide) ?_
        exact x_iret C0 hO hw dX7_put_57
      · replace hw := hw.1 c7
        refine lv_aload_n hx hb dX7_put_43 rfl (lv_at hl 1 rfl) ?_
        refine lv_iconst (v := 3) hx hb dX7_put_44 (by decide) ?_
        refine x_calli C0 hO (x_runV (As := [.int (3 : Int32)]) (rest := []) C0 hO (kX7_fails l g _ (3 : Int32) σ1 _ hw) 1 rfl (xRecv C0 hO (j := 0) rfl rfl) gX7_put_X7_fails rfl rfl rfl hdX7_fails ⟨Nat.le_of_ble_eq_true rfl, Nat.le_of_ble_eq_true rfl⟩ hl.1 rfl (Nat.le_of_ble_eq_true rfl) dX7_put_45 ⟨Nat.le_of_ble_eq_true rfl, Nat.le_of_ble_eq_true rfl⟩) (fun r9 σ10 H locs hw hO => ?_)
        exact x_iret C0 hO hw dX7_put_48
    · replace hw := hw.2 c5
      refine lv_aload_n hx hb dX7_put_27 rfl (lv_at hl 1 rfl) ?_
      refine lv_iconst (v := 1) hx hb dX7_put_28 (by decide) ?_
      refine x_calli C0 hO (x_runV (As := [.int (1 : Int32)]) (rest := []) C0 hO (kX7_fails l g _ (1 : Int32) σ1 _ hw) 1 rfl (xRecv C0 hO (j := 0) rfl rfl) gX7_put_X7_fails rfl rfl rfl hdX7_fails ⟨Nat.le_of_ble_eq_true rfl, Nat.le_of_ble_eq_true rfl⟩ hl.1 rfl (Nat.le_of_ble_eq_true rfl) dX7_put_29 ⟨Nat.le_of_ble_eq_true rfl, Nat.le_of_ble_eq_true rfl⟩) (fun r11 σ12 H locs hw hO => ?_)
      exact x_iret C0 hO hw dX7_put_32
theorem iX7_cell_7 : ∀ w ∈ wsX70, w ∈ wsX7_cell := fun w h => List.mem_cons_of_mem _ (List.mem_append_left _ (List.mem_append_right _ h))
theorem hdX7_cell : yX7_cell.cls = RX7 ∧ yX7_cell.cls ≠ "java/lang/invoke/MethodHandle" ∧ yX7_cell.cls ≠ "java/lang/invoke/VarHandle" ∧ (parseMethodDescriptor yX7_cell.desc).map (fun d => d.parameters.length) = some 3 := by decide +kernel
set_option maxHeartbeats 4000000 in
set_option maxRecDepth 100000 in
theorem kX7_cell (l : Launch) (g : XG) (sz : Nat) (a1 : Int32) (a2 : Int32) (a3 : Int32) (σ : XS) (post : Int64 → XS → Prop) (hw : PX7_cell a1 a2 a3 σ post) : xMl l yX7_cell wsX7_cell rmX7_cell 0 0 g sz [.ref (xa g 0), .int a1, .int a2, .int a3] σ post := by
  unfold PX7_cell at hw
  refine x_head (Qc := fun A => va_Ql post (xAt g A) A) (cc := cX7_cell) (maxL := 5) (ret := (some .long)) (by decide) rfl ?_
  intro p e s m below meth c A C0 hnm hO
  refine x_entry (Nat.le_of_ble_eq_true rfl) (fun ls hl => ?_)
  have hl : lv_has ls 5 [(0, .ref (xa g 0)), (1, .int a1), (2, .int a2), (3, .int a3)] := hl
  have hx := C0.1
  have hb := C0.2.1
  have hown := C0.2.2.2.2.2.1
  have hts := C0.2.2.2.2.2.2.1
  refine lv_aload_n hx hb dX7_cell_0 rfl (lv_at hl 0 rfl) ?_
  refine lv_iconst (v := 0) hx hb dX7_cell_1 (by decide) ?_
  refine x_puti C0 hO 0 8 tyX7 tyX7_ok nmX7 rfl rfl (by decide) rfl iX7_cell_7 rfl rfl rfl (List.mem_of_getElem? (i := 1) rfl) dX7_cell_2 (fun σ1 H locs eσ1 hO => ?_)
  replace hw := hw σ1 eσ1
  refine lv_aload_n hx hb dX7_cell_5 rfl (lv_at hl 0 rfl) ?_
  refine lv_iload_n hx hb dX7_cell_6 rfl (lv_at hl 1 rfl) ?_
  refine x_callq C0 hO (x_runV (As := [.int a1]) (rest := []) C0 hO (kX7_sheetOf l g _ a1 σ1 _ hw) 1 rfl (xRecv C0 hO (j := 0) rfl rfl) gX7_cell_X7_sheetOf rfl rfl rfl hdX7_sheetOf ⟨Nat.le_of_ble_eq_true rfl, Nat.le_of_ble_eq_true rfl⟩ hl.1 rfl (Nat.le_of_ble_eq_true rfl) dX7_cell_7 ⟨Nat.le_of_ble_eq_true rfl, Nat.le_of_ble_eq_true rfl⟩) (fun r2 σ' H locs hw hO => ?_)
  obtain ⟨hσ, hw⟩ := hw
  subst hσ
  obtain ⟨o, hr, hw⟩ := hw
  subst hr
  rcases o with _ | u3
  · replace hw := hw.1 rfl
    refine W.eq (g2 := F0 m 10 ls [.null]) rfl ?_
    refine lv_astoreN (lv' := [(4, .null), (0, .ref (xa g 0)), (1, .int a1), (2, .int a2), (3, .int a3)]) hx hb dX7_cell_10 hl (by decide) rfl (fun ls hl => ?_)
    refine lv_aloadN hx hb dX7_cell_12 (lv_at hl 0 rfl) ?_
    refine lv_ifnullN (tgt := 24) hx hb dX7_cell_14 (by decide) ?_
    refine lv_ldc2 (v := -9223372036854775808) hx hb hown (hts _ (List.mem_of_getElem? (i := 2) rfl)) dX7_cell_24 ?_
    exact x_lret C0 hO hw dX7_cell_27
  · have hs_u3 := (hw.2 u3 rfl).1
    replace hw := (hw.2 u3 rfl).2
    refine W.eq (g2 := F0 m 10 ls [.ref (xa g u3)]) rfl ?_
    refine lv_astore (lv' := [(4, .ref (xa g u3)), (0, .ref (xa g 0)), (1, .int a1), (2, .int a2), (3, .int a3)]) hx hb dX7_cell_10 hl (by decide) rfl (fun ls hl => ?_)
    refine lv_aload hx hb dX7_cell_12 (lv_at hl 0 rfl) ?_
    refine lv_ifnull hx hb dX7_cell_14 ?_
    refine lv_iload_n hx hb dX7_cell_17 rfl (lv_at hl 4 rfl) ?_
    refine x_calli C0 hO (x_runS (As := [.int a3]) (rest := []) C0 hO (kX7_isLane l g _ a3 σ1 _ hw) 1 rfl gX7_cell_X7_isLane rfl rfl rfl hdX7_isLane.2 ⟨Nat.le_of_ble_eq_true rfl, Nat.le_of_ble_eq_true rfl⟩ hl.1 rfl (Nat.le_of_ble_eq_true rfl) dX7_cell_18 ⟨Nat.le_of_ble_eq_true rfl, Nat.le_of_ble_eq_true rfl⟩) (fun r4 σ' H locs hw hO => ?_)
    obtain ⟨hσ, hw⟩ := hw
    subst hσ
    refine lv_if_ne (tgt := 28) hx hb dX7_cell_21 (by decide) (fun c5 => ?_) (fun c5 => ?_)
    · replace hw := hw.2 c5
      refine lv_aload_n hx hb dX7_cell_28 rfl (lv_at hl 1 rfl) ?_
      refine lv_aload hx hb dX7_cell_29 (lv_at hl 0 rfl) ?_
      refine lv_iload_n hx hb dX7_cell_31 rfl (lv_at hl 4 rfl) ?_
      refine x_calli C0 hO (x_runV (As := [.int a3]) (rest := [.ref (xa g 0)]) C0 hO (kX3_faultAs l g _ u3 hs_u3 a3 σ1 _ hw) 1 rfl (xRecv C0 hO (j := u3) hs_u3.1 rfl) gX7_cell_X3_faultAs rfl rfl rfl hdX3_faultAs ⟨Nat.le_of_ble_eq_true rfl, Nat.le_of_ble_eq_true rfl⟩ hl.1 rfl (Nat.le_of_ble_eq_true rfl) dX7_cell_32 ⟨Nat.le_of_ble_eq_true rfl, Nat.le_of_ble_eq_true rfl⟩) (fun r6 σ' H locs hw hO => ?_)
      obtain ⟨hσ, hw⟩ := hw
      subst hσ
      refine x_puti C0 hO 0 8 tyX7 tyX7_ok nmX7 rfl rfl (by decide) rfl iX7_cell_7 rfl rfl rfl (List.mem_of_getElem? (i := 1) rfl) dX7_cell_35 (fun σ7 H locs eσ7 hO => ?_)
      replace hw := hw σ7 eσ7
      refine lv_aload_n hx hb dX7_cell_38 rfl (lv_at hl 1 rfl) ?_
      refine x_geti C0 hO 0 8 rfl rfl (by decide) rfl iX7_cell_7 rfl (List.mem_of_getElem? (i := 1) rfl) dX7_cell_39 ?_
      refine lv_if_ne (tgt := 60) hx hb dX7_cell_42 (by decide) (fun c8 => ?_) (fun c8 => ?_)
      · replace hw := hw.2 c8
        refine lv_aload_n hx hb dX7_cell_60 rfl (lv_at hl 1 rfl) ?_
        refine x_geti C0 hO 0 8 rfl rfl (by decide) rfl iX7_cell_7 rfl (List.mem_of_getElem? (i := 1) rfl) dX7_cell_61 ?_
        refine lv_if_eq (tgt := 73) hx hb dX7_cell_64 (by decide) (fun c9 => ?_) (fun c9 => ?_)
        · replace hw := hw.1 c9
          refine lv_aload hx hb dX7_cell_73 (lv_at hl 0 rfl) ?_
          refine lv_iload_n hx hb dX7_cell_75 rfl (lv_at hl 3 rfl) ?_
          refine x_calli C0 hO (x_runV (As := [.int a2]) (rest := []) C0 hO (kX3_read l g _ u3 hs_u3 a2 σ7 _ hw) 1 rfl (xRecv C0 hO (j := u3) hs_u3.1 rfl) gX7_cell_X3_read rfl rfl rfl hdX3_read ⟨Nat.le_of_ble_eq_true rfl, Nat.le_of_ble_eq_true rfl⟩ hl.1 rfl (Nat.le_of_ble_eq_true rfl) dX7_cell_76 ⟨Nat.le_of_ble_eq_true rfl, Nat.le_of_ble_eq_true rfl⟩) (fun r10 σ' H locs hw hO => ?_)
          obtain ⟨hσ, hw⟩ := hw
          subst hσ
          refine lv_i2l hx hb dX7_cell_79 rfl ?_
          exact x_lret C0 hO hw dX7_cell_80
        · replace hw := hw.2 c9
          refine lv_ldc2 (v := -9223372036854775808) hx hb hown (hts _ (List.mem_of_getElem? (i := 2) rfl)) dX7_cell_67 ?_
          refine lv_goto (tgt := 80) hx hb dX7_cell_70 (by decide) ?_
          exact x_lret C0 hO hw dX7_cell_80
      · replace hw := hw.1 c8
        refine lv_aload hx hb dX7_cell_45 (lv_at hl 0 rfl) ?_
        refine lv_iload_n hx hb dX7_cell_47 rfl (lv_at hl 3 rfl) ?_
        refine lv_iconst (v := 1) hx hb dX7_cell_48 (by decide) ?_
        refine x_calli C0 hO (x_runV (As := [.int a2, .int (1 : Int32)]) (rest := []) C0 hO (kX3_reaches l g _ u3 hs_u3 a2 (1 : Int32) σ7 _ hw) 2 rfl (xRecv C0 hO (j := u3) hs_u3.1 rfl) gX7_cell_X3_reaches rfl rfl rfl hdX3_reaches ⟨Nat.le_of_ble_eq_true rfl, Nat.le_of_ble_eq_true rfl⟩ hl.1 rfl (Nat.le_of_ble_eq_true rfl) dX7_cell_49 ⟨Nat.le_of_ble_eq_true rfl, Nat.le_of_ble_eq_true rfl⟩) (fun r11 σ' H locs hw hO => ?_)
        obtain ⟨hσ, hw⟩ := hw
        subst hσ
        refine lv_if_ne (tgt := 60) hx hb dX7_cell_52 (by decide) (fun c12 => ?_) (fun c12 => ?_)
        · replace hw := hw.2 c12
          refine lv_aload_n hx hb dX7_cell_60 rfl (lv_at hl 1 rfl) ?_
          refine x_geti C0 hO 0 8 rfl rfl (by decide) rfl iX7_cell_7 rfl (List.mem_of_getElem? (i := 1) rfl) dX7_cell_61 ?_
          refine lv_if_eq (tgt := 73) hx hb dX7_cell_64 (by decide) (fun c13 => ?_) (fun c13 => ?_)
          · replace hw := hw.1 c13
            refine lv_aload hx hb dX7_cell_73 (lv_at hl 0 rfl) ?_
            refine lv_iload_n hx hb dX7_cell_75 rfl (lv_at hl 3 rfl) ?_
            refine x_calli C0 hO (x_runV (As := [.int a2]) (rest := []) C0 hO (kX3_read l g _ u3 hs_u3 a2 σ7 _ hw) 1 rfl (xRecv C0 hO (j := u3) hs_u3.1 rfl) gX7_cell_X3_read rfl rfl rfl hdX3_read ⟨Nat.le_of_ble_eq_true rfl, Nat.le_of_ble_eq_true rfl⟩ hl.1 rfl (Nat.le_of_ble_eq_true rfl) dX7_cell_76 ⟨Nat.le_of_ble_eq_true rfl, Nat.le_of_ble_eq_true rfl⟩) (fun r14 σ' H locs hw hO => ?_)
            obtain ⟨hσ, hw⟩ := hw
            subst hσ
            refine lv_i2l hx hb dX7_cell_79 rfl ?_
            exact x_lret C0 hO hw dX7_cell_80
          · replace hw := hw.2 c13
            refine lv_ldc2 (v := -9223372036854775808) hx hb hown (hts _ (List.mem_of_getElem? (i := 2) rfl)) dX7_cell_67 ?_
            refine lv_goto (tgt := 80) hx hb dX7_cell_70 (by decide) ?_
            exact x_lret C0 hO hw dX7_cell_80
        · replace hw := hw.1 c12
          refine lv_aload_n hx hb dX7_cell_55 rfl (lv_at hl 1 rfl) ?_
          refine lv_iconst (v := 3) hx hb dX7_cell_56 (by decide) ?_
          refine x_puti C0 hO 0 8 tyX7 tyX7_ok nmX7 rfl rfl (by decide) rfl iX7_cell_7 rfl rfl rfl (List.mem_of_getElem? (i := 1) rfl) dX7_cell_57 (fun σ15 H locs eσ15 hO => ?_)
          replace hw := hw σ15 eσ15
          refine lv_aload_n hx hb dX7_cell_60 rfl (lv_at hl 1 rfl) ?_
          refine x_geti C0 hO 0 8 rfl rfl (by decide) rfl iX7_cell_7 rfl (List.mem_of_getElem? (i := 1) rfl) dX7_cell_61 ?_
          refine lv_if_eq (tgt := 73) hx hb dX7_cell_64 (by decide) (fun c16 => ?_) (fun c16 => ?_)
          · replace hw := hw.1 c16
            refine lv_aload hx hb dX7_cell_73 (lv_at hl 0 rfl) ?_
            refine lv_iload_n hx hb dX7_cell_75 rfl (lv_at hl 3 rfl) ?_
            refine x_calli C0 hO (x_runV (As := [.int a2]) (rest := []) C0 hO (kX3_read l g _ u3 hs_u3 a2 σ15 _ hw) 1 rfl (xRecv C0 hO (j := u3) hs_u3.1 rfl) gX7_cell_X3_read rfl rfl rfl hdX3_read ⟨Nat.le_of_ble_eq_true rfl, Nat.le_of_ble_eq_true rfl⟩ hl.1 rfl (Nat.le_of_ble_eq_true rfl) dX7_cell_76 ⟨Nat.le_of_ble_eq_true rfl, Nat.le_of_ble_eq_true rfl⟩) (fun r17 σ' H locs hw hO => ?_)
            obtain ⟨hσ, hw⟩ := hw
            subst hσ
            refine lv_i2l hx hb dX7_cell_79 rfl ?_
            exact x_lret C0 hO hw dX7_cell_80
          · replace hw := hw.2 c16
            refine lv_ldc2 (v := -9223372036854775808) hx hb hown (hts _ (List.mem_of_getElem? (i := 2) rfl)) dX7_cell_67 ?_
            refine lv_goto (tgt := 80) hx hb dX7_cell_70 (by decide) ?_
            exact x_lret C0 hO hw dX7_cell_80
    · replace hw := hw.1 c5
      refine lv_ldc2 (v := -9223372036854775808) hx hb hown (hts _ (List.mem_of_getElem? (i := 2) rfl)) dX7_cell_24 ?_
      exact x_lret C0 hO hw dX7_cell_27
theorem iX7_copy_3 : ∀ w ∈ wsX30, w ∈ wsX7_copy := fun w h => List.mem_cons_of_mem _ (List.mem_append_right _ h)
theorem iX7_copy_7 : ∀ w ∈ wsX70, w ∈ wsX7_copy := fun w h => List.mem_cons_of_mem _ (List.mem_append_left _ (List.mem_append_right _ h))
theorem hdX7_copy : yX7_copy.cls = RX7 ∧ yX7_copy.cls ≠ "java/lang/invoke/MethodHandle" ∧ yX7_copy.cls ≠ "java/lang/invoke/VarHandle" ∧ (parseMethodDescriptor yX7_copy.desc).map (fun d => d.parameters.length) = some 5 := by decide +kernel
set_option maxHeartbeats 4000000 in
set_option maxRecDepth 100000 in
theorem kX7_copy (l : Launch) (g : XG) (sz : Nat) (a1 : Int32) (a2 : Int32) (a3 : Int32) (a4 : Int32) (a5 : Int32) (σ : XS) (post : Int32 → XS → Prop) (hw : PX7_copy a1 a2 a3 a4 a5 σ post) : xMi l yX7_copy wsX7_copy rmX7_copy 0 0 g sz [.ref (xa g 0), .int a1, .int a2, .int a3, .int a4, .int a5] σ post := by
  unfold PX7_copy at hw
  refine x_head (Qc := fun A => va_Qi post (xAt g A) A) (cc := cX7_copy) (maxL := 8) (ret := (some .int)) (by decide) rfl ?_
  intro p e s m below meth c A C0 hnm hO
  refine x_entry (Nat.le_of_ble_eq_true rfl) (fun ls hl => ?_)
  have hl : lv_has ls 8 [(0, .ref (xa g 0)), (1, .int a1), (2, .int a2), (3, .int a3), (4, .int a4), (5, .int a5)] := hl
  have hx := C0.1
  have hb := C0.2.1
  have hown := C0.2.2.2.2.2.1
  have hts := C0.2.2.2.2.2.2.1
  refine lv_aload_n hx hb dX7_copy_0 rfl (lv_at hl 0 rfl) ?_
  refine lv_iconst (v := 0) hx hb dX7_copy_1 (by decide) ?_
  refine x_puti C0 hO 0 8 tyX7 tyX7_ok nmX7 rfl rfl (by decide) rfl iX7_copy_7 rfl rfl rfl (List.mem_of_getElem? (i := 1) rfl) dX7_copy_2 (fun σ1 H locs eσ1 hO => ?_)
  replace hw := hw σ1 eσ1
  refine lv_aload_n hx hb dX7_copy_5 rfl (lv_at hl 0 rfl) ?_
  refine lv_iload_n hx hb dX7_copy_6 rfl (lv_at hl 1 rfl) ?_
  refine x_callq C0 hO (x_runV (As := [.int a1]) (rest := []) C0 hO (kX7_sheetOf l g _ a1 σ1 _ hw) 1 rfl (xRecv C0 hO (j := 0) rfl rfl) gX7_copy_X7_sheetOf rfl rfl rfl hdX7_sheetOf ⟨Nat.le_of_ble_eq_true rfl, Nat.le_of_ble_eq_true rfl⟩ hl.1 rfl (Nat.le_of_ble_eq_true rfl) dX7_copy_7 ⟨Nat.le_of_ble_eq_true rfl, Nat.le_of_ble_eq_true rfl⟩) (fun r2 σ' H locs hw hO => ?_)
  obtain ⟨hσ, hw⟩ := hw
  subst hσ
  obtain ⟨o, hr, hw⟩ := hw
  subst hr
  rcases o with _ | u3
  · replace hw := hw.1 rfl
    refine W.eq (g2 := F0 m 10 ls [.null]) rfl ?_
    refine lv_astoreN (lv' := [(6, .null), (0, .ref (xa g 0)), (1, .int a1), (2, .int a2), (3, .int a3), (4, .int a4), (5, .int a5)]) hx hb dX7_copy_10 hl (by decide) rfl (fun ls hl => ?_)
    refine lv_aload_n hx hb dX7_copy_12 rfl (lv_at hl 1 rfl) ?_
    refine lv_iload_n hx hb dX7_copy_13 rfl (lv_at hl 4 rfl) ?_
    refine x_callq C0 hO (x_runV (As := [.int a3]) (rest := []) C0 hO (kX7_sheetOf l g _ a3 σ1 _ hw) 1 rfl (xRecv C0 hO (j := 0) rfl rfl) gX7_copy_X7_sheetOf rfl rfl rfl hdX7_sheetOf ⟨Nat.le_of_ble_eq_true rfl, Nat.le_of_ble_eq_true rfl⟩ hl.1 rfl (Nat.le_of_ble_eq_true rfl) dX7_copy_14 ⟨Nat.le_of_ble_eq_true rfl, Nat.le_of_ble_eq_true rfl⟩) (fun r4 σ' H locs hw hO => ?_)
    obtain ⟨hσ, hw⟩ := hw
    subst hσ
    obtain ⟨o, hr, hw⟩ := hw
    subst hr
    rcases o with _ | u5
    · replace hw := hw.1 rfl
      refine W.eq (g2 := F0 m 17 ls [.null]) rfl ?_
      refine lv_astoreN (lv' := [(7, .null), (6, .null), (0, .ref (xa g 0)), (1, .int a1), (2, .int a2), (3, .int a3), (4, .int a4), (5, .int a5)]) hx hb dX7_copy_17 hl (by decide) rfl (fun ls hl => ?_)
      refine lv_aloadN hx hb dX7_copy_19 (lv_at hl 1 rfl) ?_
      refine lv_ifnullN (tgt := 29) hx hb dX7_copy_21 (by decide) ?_
      refine lv_iconst (v := -1) hx hb dX7_copy_29 (by decide) ?_
      exact x_iret C0 hO hw dX7_copy_30
    · have hs_u5 := (hw.2 u5 rfl).1
      replace hw := (hw.2 u5 rfl).2
      refine W.eq (g2 := F0 m 17 ls [.ref (xa g u5)]) rfl ?_
      refine lv_astore (lv' := [(7, .ref (xa g u5)), (6, .null), (0, .ref (xa g 0)), (1, .int a1), (2, .int a2), (3, .int a3), (4, .int a4), (5, .int a5)]) hx hb dX7_copy_17 hl (by decide) rfl (fun ls hl => ?_)
      refine lv_aloadN hx hb dX7_copy_19 (lv_at hl 1 rfl) ?_
      refine lv_ifnullN (tgt := 29) hx hb dX7_copy_21 (by decide) ?_
      refine lv_iconst (v := -1) hx hb dX7_copy_29 (by decide) ?_
      exact x_iret C0 hO hw dX7_copy_30
  · have hs_u3 := (hw.2 u3 rfl).1
    replace hw := (hw.2 u3 rfl).2
    refine W.eq (g2 := F0 m 10 ls [.ref (xa g u3)]) rfl ?_
    refine lv_astore (lv' := [(6, .ref (xa g u3)), (0, .ref (xa g 0)), (1, .int a1), (2, .int a2), (3, .int a3), (4, .int a4), (5, .int a5)]) hx hb dX7_copy_10 hl (by decide) rfl (fun ls hl => ?_)
    refine lv_aload_n hx hb dX7_copy_12 rfl (lv_at hl 1 rfl) ?_
    refine lv_iload_n hx hb dX7_copy_13 rfl (lv_at hl 4 rfl) ?_
    refine x_callq C0 hO (x_runV (As := [.int a3]) (rest := []) C0 hO (kX7_sheetOf l g _ a3 σ1 _ hw) 1 rfl (xRecv C0 hO (j := 0) rfl rfl) gX7_copy_X7_sheetOf rfl rfl rfl hdX7_sheetOf ⟨Nat.le_of_ble_eq_true rfl, Nat.le_of_ble_eq_true rfl⟩ hl.1 rfl (Nat.le_of_ble_eq_true rfl) dX7_copy_14 ⟨Nat.le_of_ble_eq_true rfl, Nat.le_of_ble_eq_true rfl⟩) (fun r6 σ' H locs hw hO => ?_)
    obtain ⟨hσ, hw⟩ := hw
    subst hσ
    obtain ⟨o, hr, hw⟩ := hw
    subst hr
    rcases o with _ | u7
    · replace hw := hw.1 rfl
      refine W.eq (g2 := F0 m 17 ls [.null]) rfl ?_
      refine lv_astoreN (lv' := [(7, .null), (6, .ref (xa g u3)), (0, .ref (xa g 0)), (1, .int a1), (2, .int a2), (3, .int a3), (4, .int a4), (5, .int a5)]) hx hb dX7_copy_17 hl (by decide) rfl (fun ls hl => ?_)
      refine lv_aload hx hb dX7_copy_19 (lv_at hl 1 rfl) ?_
      refine lv_ifnull hx hb dX7_copy_21 ?_
      refine lv_aloadN hx hb dX7_copy_24 (lv_at hl 0 rfl) ?_
      refine lv_ifnonnullN hx hb dX7_copy_26 ?_
      refine lv_iconst (v := -1) hx hb dX7_copy_29 (by decide) ?_
      exact x_iret C0 hO hw dX7_copy_30
    · have hs_u7 := (hw.2 u7 rfl).1
      replace hw := (hw.2 u7 rfl).2
      refine W.eq (g2 := F0 m 17 ls [.ref (xa g u7)]) rfl ?_
      refine lv_astore (lv' := [(7, .ref (xa g u7)), (6, .ref (xa g u3)), (0, .ref (xa g 0)), (1, .int a1), (2, .int a2), (3, .int a3), (4, .int a4), (5, .int a5)]) hx hb dX7_copy_17 hl (by decide) rfl (fun ls hl => ?_)
      refine lv_aload hx hb dX7_copy_19 (lv_at hl 1 rfl) ?_
      refine lv_ifnull hx hb dX7_copy_21 ?_
      refine lv_aload hx hb dX7_copy_24 (lv_at hl 0 rfl) ?_
      refine lv_ifnonnull (tgt := 31) hx hb dX7_copy_26 (by decide) ?_
      refine lv_aload hx hb dX7_copy_31 (lv_at hl 1 rfl) ?_
      refine x_calli C0 hO (x_runV (As := []) (rest := []) C0 hO (kX3_isNothing l g _ u3 hs_u3 σ1 _ hw) 0 rfl (xRecv C0 hO (j := u3) hs_u3.1 rfl) gX7_copy_X3_isNothing rfl rfl rfl hdX3_isNothing ⟨Nat.le_of_ble_eq_true rfl, Nat.le_of_ble_eq_true rfl⟩ hl.1 rfl (Nat.le_of_ble_eq_true rfl) dX7_copy_33 ⟨Nat.le_of_ble_eq_true rfl, Nat.le_of_ble_eq_true rfl⟩) (fun r8 σ' H locs hw hO => ?_)
      obtain ⟨hσ, hw⟩ := hw
      subst hσ
      refine lv_if_ne (tgt := 47) hx hb dX7_copy_36 (by decide) (fun c9 => ?_) (fun c9 => ?_)
      · replace hw := hw.2 c9
        refine lv_aload_n hx hb dX7_copy_47 rfl (lv_at hl 2 rfl) ?_
        refine lv_iconst (v := 1) hx hb dX7_copy_48 (by decide) ?_
        refine x_calli C0 hO (x_runV (As := [.int (1 : Int32)]) (rest := []) C0 hO (kX7_fails l g _ (1 : Int32) σ1 _ hw) 1 rfl (xRecv C0 hO (j := 0) rfl rfl) gX7_copy_X7_fails rfl rfl rfl hdX7_fails ⟨Nat.le_of_ble_eq_true rfl, Nat.le_of_ble_eq_true rfl⟩ hl.1 rfl (Nat.le_of_ble_eq_true rfl) dX7_copy_49 ⟨Nat.le_of_ble_eq_true rfl, Nat.le_of_ble_eq_true rfl⟩) (fun r10 σ11 H locs hw hO => ?_)
        exact x_iret C0 hO hw dX7_copy_52
      · replace hw := hw.1 c9
        refine lv_aload hx hb dX7_copy_39 (lv_at hl 0 rfl) ?_
        refine x_calli C0 hO (x_runV (As := []) (rest := []) C0 hO (kX3_isNothing l g _ u7 hs_u7 σ1 _ hw) 0 rfl (xRecv C0 hO (j := u7) hs_u7.1 rfl) gX7_copy_X3_isNothing rfl rfl rfl hdX3_isNothing ⟨Nat.le_of_ble_eq_true rfl, Nat.le_of_ble_eq_true rfl⟩ hl.1 rfl (Nat.le_of_ble_eq_true rfl) dX7_copy_41 ⟨Nat.le_of_ble_eq_true rfl, Nat.le_of_ble_eq_true rfl⟩) (fun r12 σ' H locs hw hO => ?_)
        obtain ⟨hσ, hw⟩ := hw
        subst hσ
        refine lv_if_eq (tgt := 53) hx hb dX7_copy_44 (by decide) (fun c13 => ?_) (fun c13 => ?_)
        · replace hw := hw.1 c13
          refine lv_aload hx hb dX7_copy_53 (lv_at hl 0 rfl) ?_
          refine lv_aload hx hb dX7_copy_55 (lv_at hl 1 rfl) ?_
          refine x_geti C0 hO u3 2 hs_u3.1 rfl (by decide) rfl iX7_copy_3 rfl (List.mem_of_getElem? (i := 2) rfl) dX7_copy_57 ?_
          refine x_calli C0 hO (x_runV (As := [.int (gI σ1 u3 2)]) (rest := []) C0 hO (kX3_faultAs l g _ u7 hs_u7 (gI σ1 u3 2) σ1 _ hw) 1 rfl (xRecv C0 hO (j := u7) hs_u7.1 rfl) gX7_copy_X3_faultAs rfl rfl rfl hdX3_faultAs ⟨Nat.le_of_ble_eq_true rfl, Nat.le_of_ble_eq_true rfl⟩ hl.1 rfl (Nat.le_of_ble_eq_true rfl) dX7_copy_60 ⟨Nat.le_of_ble_eq_true rfl, Nat.le_of_ble_eq_true rfl⟩) (fun r14 σ' H locs hw hO => ?_)
          obtain ⟨hσ, hw⟩ := hw
          subst hσ
          refine lv_if_eq (tgt := 72) hx hb dX7_copy_63 (by decide) (fun c15 => ?_) (fun c15 => ?_)
          · replace hw := hw.1 c15
            refine lv_aload hx hb dX7_copy_72 (lv_at hl 1 rfl) ?_
            refine lv_iload_n hx hb dX7_copy_74 rfl (lv_at hl 4 rfl) ?_
            refine lv_iload hx hb dX7_copy_75 (lv_at hl 7 rfl) ?_
            refine x_calli C0 hO (x_runV (As := [.int a2, .int a5]) (rest := []) C0 hO (kX3_reaches l g _ u3 hs_u3 a2 a5 σ1 _ hw) 2 rfl (xRecv C0 hO (j := u3) hs_u3.1 rfl) gX7_copy_X3_reaches rfl rfl rfl hdX3_reaches ⟨Nat.le_of_ble_eq_true rfl, Nat.le_of_ble_eq_true rfl⟩ hl.1 rfl (Nat.le_of_ble_eq_true rfl) dX7_copy_77 ⟨Nat.le_of_ble_eq_true rfl, Nat.le_of_ble_eq_true rfl⟩) (fun r16 σ' H locs hw hO => ?_)
            obtain ⟨hσ, hw⟩ := hw
            subst hσ
            refine lv_if_eq (tgt := 95) hx hb dX7_copy_80 (by decide) (fun c17 => ?_) (fun c17 => ?_)
            · replace hw := hw.1 c17
              refine lv_aload_n hx hb dX7_copy_95 rfl (lv_at hl 2 rfl) ?_
              refine lv_iconst (v := 3) hx hb dX7_copy_96 (by decide) ?_
              refine x_calli C0 hO (x_runV (As := [.int (3 : Int32)]) (rest := []) C0 hO (kX7_fails l g _ (3 : Int32) σ1 _ hw) 1 rfl (xRecv C0 hO (j := 0) rfl rfl) gX7_copy_X7_fails rfl rfl rfl hdX7_fails ⟨Nat.le_of_ble_eq_true rfl, Nat.le_of_ble_eq_true rfl⟩ hl.1 rfl (Nat.le_of_ble_eq_true rfl) dX7_copy_97 ⟨Nat.le_of_ble_eq_true rfl, Nat.le_of_ble_eq_true rfl⟩) (fun r18 σ19 H locs hw hO => ?_)
              exact x_iret C0 hO hw dX7_copy_100
            · replace hw := hw.2 c17
              refine lv_aload hx hb dX7_copy_83 (lv_at hl 0 rfl) ?_
              refine lv_iload hx hb dX7_copy_85 (lv_at hl 6 rfl) ?_
              refine lv_iload hx hb dX7_copy_87 (lv_at hl 7 rfl) ?_
              refine x_calli C0 hO (x_runV (As := [.int a4, .int a5]) (rest := []) C0 hO (kX3_reaches l g _ u7 hs_u7 a4 a5 σ1 _ hw) 2 rfl (xRecv C0 hO (j := u7) hs_u7.1 rfl) gX7_copy_X3_reaches rfl rfl rfl hdX3_reaches ⟨Nat.le_of_ble_eq_true rfl, Nat.le_of_ble_eq_true rfl⟩ hl.1 rfl (Nat.le_of_ble_eq_true rfl) dX7_copy_89 ⟨Nat.le_of_ble_eq_true rfl, Nat.le_of_ble_eq_true rfl⟩) (fun r20 σ' H locs hw hO => ?_)
              obtain ⟨hσ, hw⟩ := hw
              subst hσ
              refine lv_if_ne (tgt := 101) hx hb dX7_copy_92 (by decide) (fun c21 => ?_) (fun c21 => ?_)
              · replace hw := hw.2 c21
                refine lv_aload hx hb dX7_copy_101 (lv_at hl 0 rfl) ?_
                refine lv_iload hx hb dX7_copy_103 (lv_at hl 6 rfl) ?_
                refine lv_aload hx hb dX7_copy_105 (lv_at hl 1 rfl) ?_
                refine lv_iload_n hx hb dX7_copy_107 rfl (lv_at hl 4 rfl) ?_
                refine lv_iload hx hb dX7_copy_108 (lv_at hl 7 rfl) ?_
                refine x_callv C0 hO (x_runV (As := [.int a4, .ref (xa g u3), .int a2, .int a5]) (rest := []) C0 hO (kX3_take l g _ u7 hs_u7 a4 u3 a2 a5 hs_u3 σ1 _ hw) 4 rfl (xRecv C0 hO (j := u7) hs_u7.1 rfl) gX7_copy_X3_take rfl rfl rfl hdX3_take ⟨Nat.le_of_ble_eq_true rfl, Nat.le_of_ble_eq_true rfl⟩ hl.1 rfl (Nat.le_of_ble_eq_true rfl) dX7_copy_110 ⟨Nat.le_of_ble_eq_true rfl, Nat.le_of_ble_eq_true rfl⟩) (fun σ22 H locs hw hO => ?_)
                refine lv_iload hx hb dX7_copy_113 (lv_at hl 7 rfl) ?_
                exact x_iret C0 hO hw dX7_copy_115
              · replace hw := hw.1 c21
                refine lv_aload_n hx hb dX7_copy_95 rfl (lv_at hl 2 rfl) ?_
                refine lv_iconst (v := 3) hx hb dX7_copy_96 (by decide) ?_
                refine x_calli C0 hO (x_runV (As := [.int (3 : Int32)]) (rest := []) C0 hO (kX7_fails l g _ (3 : Int32) σ1 _ hw) 1 rfl (xRecv C0 hO (j := 0) rfl rfl) gX7_copy_X7_fails rfl rfl rfl hdX7_fails ⟨Nat.le_of_ble_eq_true rfl, Nat.le_of_ble_eq_true rfl⟩ hl.1 rfl (Nat.le_of_ble_eq_true rfl) dX7_copy_97 ⟨Nat.le_of_ble_eq_true rfl, Nat.le_of_ble_eq_true rfl⟩) (fun r23 σ24 H locs hw hO => ?_)
                exact x_iret C0 hO hw dX7_copy_100
          · replace hw := hw.2 c15
            refine lv_aload_n hx hb dX7_copy_66 rfl (lv_at hl 2 rfl) ?_
            refine lv_iconst (v := 2) hx hb dX7_copy_67 (by decide) ?_
            refine x_calli C0 hO (x_runV (As := [.int (2 : Int32)]) (rest := []) C0 hO (kX7_fails l g _ (2 : Int32) σ1 _ hw) 1 rfl (xRecv C0 hO (j := 0) rfl rfl) gX7_copy_X7_fails rfl rfl rfl hdX7_fails ⟨Nat.le_of_ble_eq_true rfl, Nat.le_of_ble_eq_true rfl⟩ hl.1 rfl (Nat.le_of_ble_eq_true rfl) dX7_copy_68 ⟨Nat.le_of_ble_eq_true rfl, Nat.le_of_ble_eq_true rfl⟩) (fun r25 σ26 H locs hw hO => ?_)
            exact x_iret C0 hO hw dX7_copy_71
        · replace hw := hw.2 c13
          refine lv_aload_n hx hb dX7_copy_47 rfl (lv_at hl 2 rfl) ?_
          refine lv_iconst (v := 1) hx hb dX7_copy_48 (by decide) ?_
          refine x_calli C0 hO (x_runV (As := [.int (1 : Int32)]) (rest := []) C0 hO (kX7_fails l g _ (1 : Int32) σ1 _ hw) 1 rfl (xRecv C0 hO (j := 0) rfl rfl) gX7_copy_X7_fails rfl rfl rfl hdX7_fails ⟨Nat.le_of_ble_eq_true rfl, Nat.le_of_ble_eq_true rfl⟩ hl.1 rfl (Nat.le_of_ble_eq_true rfl) dX7_copy_49 ⟨Nat.le_of_ble_eq_true rfl, Nat.le_of_ble_eq_true rfl⟩) (fun r27 σ28 H locs hw hO => ?_)
          exact x_iret C0 hO hw dX7_copy_52
theorem iX7_tell_7 : ∀ w ∈ wsX70, w ∈ wsX7_tell := fun w h => List.mem_cons_of_mem _ (List.mem_append_left _ (List.mem_append_left _ (List.mem_append_left _ (List.mem_append_left _ (List.mem_append_right _ h)))))
theorem hdX7_tell : yX7_tell.cls = RX7 ∧ yX7_tell.cls ≠ "java/lang/invoke/MethodHandle" ∧ yX7_tell.cls ≠ "java/lang/invoke/VarHandle" ∧ (parseMethodDescriptor yX7_tell.desc).map (fun d => d.parameters.length) = some 1 := by decide +kernel
set_option maxHeartbeats 4000000 in
set_option maxRecDepth 100000 in
theorem kX7_tell (l : Launch) (g : XG) (sz : Nat) (a1 : Int32) (σ : XS) (post : Int32 → XS → Prop) (hw : PX7_tell a1 σ post) : xMi l yX7_tell wsX7_tell rmX7_tell 0 0 g sz [.ref (xa g 0), .int a1] σ post := by
  unfold PX7_tell at hw
  refine x_head (Qc := fun A => va_Qi post (xAt g A) A) (cc := cX7_tell) (maxL := 3) (ret := (some .int)) (by decide) rfl ?_
  intro p e s m below meth c A C0 hnm hO
  refine x_entry (Nat.le_of_ble_eq_true rfl) (fun ls hl => ?_)
  have hl : lv_has ls 3 [(0, .ref (xa g 0)), (1, .int a1)] := hl
  have hx := C0.1
  have hb := C0.2.1
  have hown := C0.2.2.2.2.2.1
  have hts := C0.2.2.2.2.2.2.1
  refine lv_aload_n hx hb dX7_tell_0 rfl (lv_at hl 0 rfl) ?_
  refine lv_iload_n hx hb dX7_tell_1 rfl (lv_at hl 1 rfl) ?_
  refine x_callq C0 hO (x_runV (As := [.int a1]) (rest := []) C0 hO (kX7_personOf l g _ a1 σ _ hw) 1 rfl (xRecv C0 hO (j := 0) rfl rfl) gX7_tell_X7_personOf rfl rfl rfl hdX7_personOf ⟨Nat.le_of_ble_eq_true rfl, Nat.le_of_ble_eq_true rfl⟩ hl.1 rfl (Nat.le_of_ble_eq_true rfl) dX7_tell_2 ⟨Nat.le_of_ble_eq_true rfl, Nat.le_of_ble_eq_true rfl⟩) (fun r1 σ' H locs hw hO => ?_)
  obtain ⟨hσ, hw⟩ := hw
  subst hσ
  rcases r1 with _ | w2
  · replace hw := hw.1 rfl
    refine W.eq (g2 := F0 m 5 ls [.null]) rfl ?_
    refine lv_astore_nN (lv' := [(2, .null), (0, .ref (xa g 0)), (1, .int a1)]) hx hb dX7_tell_5 rfl hl (by decide) rfl (fun ls hl => ?_)
    refine lv_aload_nN hx hb dX7_tell_6 rfl (lv_at hl 0 rfl) ?_
    refine lv_ifnonnullN hx hb dX7_tell_7 ?_
    refine lv_iconst (v := -1) hx hb dX7_tell_10 (by decide) ?_
    exact x_iret C0 hO hw dX7_tell_11
  · replace hw := hw.2 w2 rfl
    refine W.eq (g2 := F0 m 5 ls [.ref w2]) rfl ?_
    refine lv_astore_n (lv' := [(2, .ref w2), (0, .ref (xa g 0)), (1, .int a1)]) hx hb dX7_tell_5 rfl hl (by decide) rfl (fun ls hl => ?_)
    refine lv_aload_n hx hb dX7_tell_6 rfl (lv_at hl 0 rfl) ?_
    refine lv_ifnonnull (tgt := 12) hx hb dX7_tell_7 (by decide) ?_
    refine lv_aload_n hx hb dX7_tell_12 rfl (lv_at hl 0 rfl) ?_
    refine lv_aload_n hx hb dX7_tell_13 rfl (lv_at hl 1 rfl) ?_
    refine x_getr C0 hO 0 5 15 rfl rfl (by decide) rfl iX7_tell_7 rfl (List.mem_of_getElem? (i := 1) rfl) dX7_tell_14 ?_
    have hpe := hw.1
    rcases hw.2.1 with hk | hk | hk
    · replace hw := hw.2.2.1 hk
      refine x_calli C0 hO (x_runV (As := [.ref (xa g 15)]) (rest := []) C0 hO (kX4_says l g _ w2 σ _ hw) 1 rfl (xRecvP C0 hO hpe.1 hk (ci := 4) rfl) gX7_tell_X4_says rfl rfl rfl hdX4_says ⟨Nat.le_of_ble_eq_true rfl, Nat.le_of_ble_eq_true rfl⟩ hl.1 rfl (Nat.le_of_ble_eq_true rfl) dX7_tell_17 ⟨Nat.le_of_ble_eq_true rfl, Nat.le_of_ble_eq_true rfl⟩) (fun r3 σ4 H locs hw hO => ?_)
      exact x_iret C0 hO hw dX7_tell_20
    · replace hw := hw.2.2.2.1 hk
      refine x_calli C0 hO (x_runO (As := [.ref (xa g 15)]) (rest := []) C0 hO (kX2_says l g _ w2 σ _ hw) 1 rfl (xRecvP C0 hO hpe.1 hk (ci := 2) rfl) gX7_tell_X2_says_u230X2 rfl rfl rfl (List.mem_of_getElem? (i := 33) rfl) (by decide +kernel) ⟨Nat.le_of_ble_eq_true rfl, Nat.le_of_ble_eq_true rfl⟩ hl.1 rfl (Nat.le_of_ble_eq_true rfl) dX7_tell_17 ⟨Nat.le_of_ble_eq_true rfl, Nat.le_of_ble_eq_true rfl⟩) (fun r5 σ6 H locs hw hO => ?_)
      exact x_iret C0 hO hw dX7_tell_20
    · replace hw := hw.2.2.2.2 hk
      refine x_calli C0 hO (x_runO (As := [.ref (xa g 15)]) (rest := []) C0 hO (kX0_says l g _ w2 σ _ hw) 1 rfl (xRecvP C0 hO hpe.1 hk (ci := 0) rfl) gX7_tell_X0_says_u230X0 rfl rfl rfl (List.mem_of_getElem? (i := 33) rfl) (by decide +kernel) ⟨Nat.le_of_ble_eq_true rfl, Nat.le_of_ble_eq_true rfl⟩ hl.1 rfl (Nat.le_of_ble_eq_true rfl) dX7_tell_17 ⟨Nat.le_of_ble_eq_true rfl, Nat.le_of_ble_eq_true rfl⟩) (fun r7 σ8 H locs hw hO => ?_)
      exact x_iret C0 hO hw dX7_tell_20
theorem iX7_greet_7 : ∀ w ∈ wsX70, w ∈ wsX7_greet := fun w h => List.mem_cons_of_mem _ (List.mem_append_left _ (List.mem_append_right _ h))
theorem hdX7_greet : yX7_greet.cls = RX7 ∧ yX7_greet.cls ≠ "java/lang/invoke/MethodHandle" ∧ yX7_greet.cls ≠ "java/lang/invoke/VarHandle" ∧ (parseMethodDescriptor yX7_greet.desc).map (fun d => d.parameters.length) = some 1 := by decide +kernel
set_option maxHeartbeats 4000000 in
set_option maxRecDepth 100000 in
theorem kX7_greet (l : Launch) (g : XG) (sz : Nat) (a1 : Int32) (σ : XS) (post : Int32 → XS → Prop) (hw : PX7_greet a1 σ post) : xMi l yX7_greet wsX7_greet rmX7_greet 0 0 g sz [.ref (xa g 0), .int a1] σ post := by
  unfold PX7_greet at hw
  refine x_head (Qc := fun A => va_Qi post (xAt g A) A) (cc := cX7_greet) (maxL := 3) (ret := (some .int)) (by decide) rfl ?_
  intro p e s m below meth c A C0 hnm hO
  refine x_entry (Nat.le_of_ble_eq_true rfl) (fun ls hl => ?_)
  have hl : lv_has ls 3 [(0, .ref (xa g 0)), (1, .int a1)] := hl
  have hx := C0.1
  have hb := C0.2.1
  have hown := C0.2.2.2.2.2.1
  have hts := C0.2.2.2.2.2.2.1
  refine lv_aload_n hx hb dX7_greet_0 rfl (lv_at hl 0 rfl) ?_
  refine lv_iload_n hx hb dX7_greet_1 rfl (lv_at hl 1 rfl) ?_
  refine x_callq C0 hO (x_runV (As := [.int a1]) (rest := []) C0 hO (kX7_personOf l g _ a1 σ _ hw) 1 rfl (xRecv C0 hO (j := 0) rfl rfl) gX7_greet_X7_personOf rfl rfl rfl hdX7_personOf ⟨Nat.le_of_ble_eq_true rfl, Nat.le_of_ble_eq_true rfl⟩ hl.1 rfl (Nat.le_of_ble_eq_true rfl) dX7_greet_2 ⟨Nat.le_of_ble_eq_true rfl, Nat.le_of_ble_eq_true rfl⟩) (fun r1 σ' H locs hw hO => ?_)
  obtain ⟨hσ, hw⟩ := hw
  subst hσ
  rcases r1 with _ | w2
  · replace hw := hw.1 rfl
    refine W.eq (g2 := F0 m 5 ls [.null]) rfl ?_
    refine lv_astore_nN (lv' := [(2, .null), (0, .ref (xa g 0)), (1, .int a1)]) hx hb dX7_greet_5 rfl hl (by decide) rfl (fun ls hl => ?_)
    refine lv_aload_nN hx hb dX7_greet_6 rfl (lv_at hl 0 rfl) ?_
    refine lv_ifnonnullN hx hb dX7_greet_7 ?_
    refine lv_iconst (v := -1) hx hb dX7_greet_10 (by decide) ?_
    exact x_iret C0 hO hw dX7_greet_11
  · replace hw := hw.2 w2 rfl
    refine W.eq (g2 := F0 m 5 ls [.ref w2]) rfl ?_
    refine lv_astore_n (lv' := [(2, .ref w2), (0, .ref (xa g 0)), (1, .int a1)]) hx hb dX7_greet_5 rfl hl (by decide) rfl (fun ls hl => ?_)
    refine lv_aload_n hx hb dX7_greet_6 rfl (lv_at hl 0 rfl) ?_
    refine lv_ifnonnull (tgt := 12) hx hb dX7_greet_7 (by decide) ?_
    refine lv_aload_n hx hb dX7_greet_12 rfl (lv_at hl 0 rfl) ?_
    refine lv_iload_n hx hb dX7_greet_13 rfl (lv_at hl 2 rfl) ?_
    refine lv_aload_n hx hb dX7_greet_14 rfl (lv_at hl 1 rfl) ?_
    refine x_getr C0 hO 0 5 15 rfl rfl (by decide) rfl iX7_greet_7 rfl (List.mem_of_getElem? (i := 1) rfl) dX7_greet_15 ?_
    have hpe := hw.1
    rcases hw.2.1 with hk | hk | hk
    · replace hw := hw.2.2.1 hk
      refine x_calli C0 hO (x_runV (As := [.int a1, .ref (xa g 15)]) (rest := []) C0 hO (kX4_isGreeted l g _ w2 a1 σ _ hw) 2 rfl (xRecvP C0 hO hpe.1 hk (ci := 4) rfl) gX7_greet_X4_isGreeted rfl rfl rfl hdX4_isGreeted ⟨Nat.le_of_ble_eq_true rfl, Nat.le_of_ble_eq_true rfl⟩ hl.1 rfl (Nat.le_of_ble_eq_true rfl) dX7_greet_18 ⟨Nat.le_of_ble_eq_true rfl, Nat.le_of_ble_eq_true rfl⟩) (fun r3 σ4 H locs hw hO => ?_)
      exact x_iret C0 hO hw dX7_greet_21
    · replace hw := hw.2.2.2.1 hk
      refine x_calli C0 hO (x_runU (As := [.int a1, .ref (xa g 15)]) (rest := []) C0 hO (kX4_isGreeted l g _ w2 a1 σ _ hw) 2 rfl (xRecvP C0 hO hpe.1 hk (ci := 2) rfl) gX7_greet_X4_isGreeted_u234X2 rfl rfl rfl rfl (by decide +kernel) ⟨Nat.le_of_ble_eq_true rfl, Nat.le_of_ble_eq_true rfl⟩ hl.1 rfl (Nat.le_of_ble_eq_true rfl) dX7_greet_18 ⟨Nat.le_of_ble_eq_true rfl, Nat.le_of_ble_eq_true rfl⟩) (fun r5 σ6 H locs hw hO => ?_)
      exact x_iret C0 hO hw dX7_greet_21
    · replace hw := hw.2.2.2.2 hk
      refine x_calli C0 hO (x_runO (As := [.int a1, .ref (xa g 15)]) (rest := []) C0 hO (kX0_isGreeted l g _ w2 a1 σ _ hw) 2 rfl (xRecvP C0 hO hpe.1 hk (ci := 0) rfl) gX7_greet_X0_isGreeted_u234X0 rfl rfl rfl (List.mem_of_getElem? (i := 22) rfl) (by decide +kernel) ⟨Nat.le_of_ble_eq_true rfl, Nat.le_of_ble_eq_true rfl⟩ hl.1 rfl (Nat.le_of_ble_eq_true rfl) dX7_greet_18 ⟨Nat.le_of_ble_eq_true rfl, Nat.le_of_ble_eq_true rfl⟩) (fun r7 σ8 H locs hw hO => ?_)
      exact x_iret C0 hO hw dX7_greet_21
theorem iX7_as_7 : ∀ w ∈ wsX70, w ∈ wsX7_as := fun w h => List.mem_cons_of_mem _ (List.mem_append_right _ h)
theorem hdX7_as : yX7_as.cls = RX7 ∧ yX7_as.cls ≠ "java/lang/invoke/MethodHandle" ∧ yX7_as.cls ≠ "java/lang/invoke/VarHandle" ∧ (parseMethodDescriptor yX7_as.desc).map (fun d => d.parameters.length) = some 2 := by decide +kernel
set_option maxHeartbeats 4000000 in
set_option maxRecDepth 100000 in
theorem kX7_as (l : Launch) (g : XG) (sz : Nat) (a1 : Int32) (a2 : Int32) (σ : XS) (post : Int32 → XS → Prop) (hw : PX7_as a1 a2 σ post) : xMi l yX7_as wsX7_as rmX7_as 0 0 g sz [.ref (xa g 0), .int a1, .int a2] σ post := by
  unfold PX7_as at hw
  refine x_head (Qc := fun A => va_Qi post (xAt g A) A) (cc := cX7_as) (maxL := 4) (ret := (some .int)) (by decide) rfl ?_
  intro p e s m below meth c A C0 hnm hO
  refine x_entry (Nat.le_of_ble_eq_true rfl) (fun ls hl => ?_)
  have hl : lv_has ls 4 [(0, .ref (xa g 0)), (1, .int a1), (2, .int a2)] := hl
  have hx := C0.1
  have hb := C0.2.1
  have hown := C0.2.2.2.2.2.1
  have hts := C0.2.2.2.2.2.2.1
  refine lv_aload_n hx hb dX7_as_0 rfl (lv_at hl 0 rfl) ?_
  refine lv_iconst (v := 0) hx hb dX7_as_1 (by decide) ?_
  refine x_puti C0 hO 0 8 tyX7 tyX7_ok nmX7 rfl rfl (by decide) rfl iX7_as_7 rfl rfl rfl (List.mem_of_getElem? (i := 1) rfl) dX7_as_2 (fun σ1 H locs eσ1 hO => ?_)
  replace hw := hw σ1 eσ1
  refine lv_aload_n hx hb dX7_as_5 rfl (lv_at hl 0 rfl) ?_
  refine lv_iload_n hx hb dX7_as_6 rfl (lv_at hl 1 rfl) ?_
  refine x_callq C0 hO (x_runV (As := [.int a1]) (rest := []) C0 hO (kX7_personOf l g _ a1 σ1 _ hw) 1 rfl (xRecv C0 hO (j := 0) rfl rfl) gX7_as_X7_personOf rfl rfl rfl hdX7_personOf ⟨Nat.le_of_ble_eq_true rfl, Nat.le_of_ble_eq_true rfl⟩ hl.1 rfl (Nat.le_of_ble_eq_true rfl) dX7_as_7 ⟨Nat.le_of_ble_eq_true rfl, Nat.le_of_ble_eq_true rfl⟩) (fun r2 σ' H locs hw hO => ?_)
  obtain ⟨hσ, hw⟩ := hw
  subst hσ
  rcases r2 with _ | w3
  · replace hw := hw.1 rfl
    refine W.eq (g2 := F0 m 10 ls [.null]) rfl ?_
    refine lv_astore_nN (lv' := [(3, .null), (0, .ref (xa g 0)), (1, .int a1), (2, .int a2)]) hx hb dX7_as_10 rfl hl (by decide) rfl (fun ls hl => ?_)
    refine lv_aload_nN hx hb dX7_as_11 rfl (lv_at hl 0 rfl) ?_
    refine lv_ifnonnullN hx hb dX7_as_12 ?_
    refine lv_iconst (v := -1) hx hb dX7_as_15 (by decide) ?_
    exact x_iret C0 hO hw dX7_as_16
  · replace hw := hw.2 w3 rfl
    refine W.eq (g2 := F0 m 10 ls [.ref w3]) rfl ?_
    refine lv_astore_n (lv' := [(3, .ref w3), (0, .ref (xa g 0)), (1, .int a1), (2, .int a2)]) hx hb dX7_as_10 rfl hl (by decide) rfl (fun ls hl => ?_)
    refine lv_aload_n hx hb dX7_as_11 rfl (lv_at hl 0 rfl) ?_
    refine lv_ifnonnull (tgt := 17) hx hb dX7_as_12 (by decide) ?_
    refine lv_iload_n hx hb dX7_as_17 rfl (lv_at hl 3 rfl) ?_
    refine lv_if_lt (tgt := 26) hx hb dX7_as_18 (by decide) (fun c4 => ?_) (fun c4 => ?_)
    · replace hw := hw.1 c4
      refine lv_bipush (v := -2) hx hb dX7_as_26 (by decide) ?_
      exact x_iret C0 hO hw dX7_as_28
    · replace hw := hw.2 c4
      refine lv_iload_n hx hb dX7_as_21 rfl (lv_at hl 3 rfl) ?_
      refine lv_iconst (v := 2) hx hb dX7_as_22 (by decide) ?_
      refine lv_icmp_le (tgt := 29) hx hb dX7_as_23 (by decide) (fun c5 => ?_) (fun c5 => ?_)
      · replace hw := hw.1 c5
        refine lv_aload_n hx hb dX7_as_29 rfl (lv_at hl 0 rfl) ?_
        have hpe := hw.1
        rcases hw.2.1 with hk | hk | hk
        · replace hw := hw.2.2.1 hk
          refine x_calli C0 hO (x_runV (As := []) (rest := []) C0 hO (kX4_kindNumber l g _ w3 σ1 _ hw) 0 rfl (xRecvP C0 hO hpe.1 hk (ci := 4) rfl) gX7_as_X4_kindNumber rfl rfl rfl hdX4_kindNumber ⟨Nat.le_of_ble_eq_true rfl, Nat.le_of_ble_eq_true rfl⟩ hl.1 rfl (Nat.le_of_ble_eq_true rfl) dX7_as_30 ⟨Nat.le_of_ble_eq_true rfl, Nat.le_of_ble_eq_true rfl⟩) (fun r6 σ' H locs hw hO => ?_)
          obtain ⟨hσ, hw⟩ := hw
          subst hσ
          refine lv_iload_n hx hb dX7_as_33 rfl (lv_at hl 3 rfl) ?_
          refine lv_icmp_ge (tgt := 43) hx hb dX7_as_34 (by decide) (fun c7 => ?_) (fun c7 => ?_)
          · replace hw := hw.1 c7
            refine lv_iconst (v := 1) hx hb dX7_as_43 (by decide) ?_
            exact x_iret C0 hO hw dX7_as_44
          · replace hw := hw.2 c7
            refine lv_aload_n hx hb dX7_as_37 rfl (lv_at hl 1 rfl) ?_
            refine lv_iconst (v := 2) hx hb dX7_as_38 (by decide) ?_
            refine x_calli C0 hO (x_runV (As := [.int (2 : Int32)]) (rest := []) C0 hO (kX7_fails l g _ (2 : Int32) σ1 _ hw) 1 rfl (xRecv C0 hO (j := 0) rfl rfl) gX7_as_X7_fails rfl rfl rfl hdX7_fails ⟨Nat.le_of_ble_eq_true rfl, Nat.le_of_ble_eq_true rfl⟩ hl.1 rfl (Nat.le_of_ble_eq_true rfl) dX7_as_39 ⟨Nat.le_of_ble_eq_true rfl, Nat.le_of_ble_eq_true rfl⟩) (fun r8 σ9 H locs hw hO => ?_)
            exact x_iret C0 hO hw dX7_as_42
        · replace hw := hw.2.2.2.1 hk
          refine x_calli C0 hO (x_runO (As := []) (rest := []) C0 hO (kX2_kindNumber l g _ w3 σ1 _ hw) 0 rfl (xRecvP C0 hO hpe.1 hk (ci := 2) rfl) gX7_as_X2_kindNumber_u93X2 rfl rfl rfl (List.mem_of_getElem? (i := 16) rfl) (by decide +kernel) ⟨Nat.le_of_ble_eq_true rfl, Nat.le_of_ble_eq_true rfl⟩ hl.1 rfl (Nat.le_of_ble_eq_true rfl) dX7_as_30 ⟨Nat.le_of_ble_eq_true rfl, Nat.le_of_ble_eq_true rfl⟩) (fun r10 σ' H locs hw hO => ?_)
          obtain ⟨hσ, hw⟩ := hw
          subst hσ
          refine lv_iload_n hx hb dX7_as_33 rfl (lv_at hl 3 rfl) ?_
          refine lv_icmp_ge (tgt := 43) hx hb dX7_as_34 (by decide) (fun c11 => ?_) (fun c11 => ?_)
          · replace hw := hw.1 c11
            refine lv_iconst (v := 1) hx hb dX7_as_43 (by decide) ?_
            exact x_iret C0 hO hw dX7_as_44
          · replace hw := hw.2 c11
            refine lv_aload_n hx hb dX7_as_37 rfl (lv_at hl 1 rfl) ?_
            refine lv_iconst (v := 2) hx hb dX7_as_38 (by decide) ?_
            refine x_calli C0 hO (x_runV (As := [.int (2 : Int32)]) (rest := []) C0 hO (kX7_fails l g _ (2 : Int32) σ1 _ hw) 1 rfl (xRecv C0 hO (j := 0) rfl rfl) gX7_as_X7_fails rfl rfl rfl hdX7_fails ⟨Nat.le_of_ble_eq_true rfl, Nat.le_of_ble_eq_true rfl⟩ hl.1 rfl (Nat.le_of_ble_eq_true rfl) dX7_as_39 ⟨Nat.le_of_ble_eq_true rfl, Nat.le_of_ble_eq_true rfl⟩) (fun r12 σ13 H locs hw hO => ?_)
            exact x_iret C0 hO hw dX7_as_42
        · replace hw := hw.2.2.2.2 hk
          refine x_calli C0 hO (x_runO (As := []) (rest := []) C0 hO (kX0_kindNumber l g _ w3 σ1 _ hw) 0 rfl (xRecvP C0 hO hpe.1 hk (ci := 0) rfl) gX7_as_X0_kindNumber_u93X0 rfl rfl rfl (List.mem_of_getElem? (i := 16) rfl) (by decide +kernel) ⟨Nat.le_of_ble_eq_true rfl, Nat.le_of_ble_eq_true rfl⟩ hl.1 rfl (Nat.le_of_ble_eq_true rfl) dX7_as_30 ⟨Nat.le_of_ble_eq_true rfl, Nat.le_of_ble_eq_true rfl⟩) (fun r14 σ' H locs hw hO => ?_)
          obtain ⟨hσ, hw⟩ := hw
          subst hσ
          refine lv_iload_n hx hb dX7_as_33 rfl (lv_at hl 3 rfl) ?_
          refine lv_icmp_ge (tgt := 43) hx hb dX7_as_34 (by decide) (fun c15 => ?_) (fun c15 => ?_)
          · replace hw := hw.1 c15
            refine lv_iconst (v := 1) hx hb dX7_as_43 (by decide) ?_
            exact x_iret C0 hO hw dX7_as_44
          · replace hw := hw.2 c15
            refine lv_aload_n hx hb dX7_as_37 rfl (lv_at hl 1 rfl) ?_
            refine lv_iconst (v := 2) hx hb dX7_as_38 (by decide) ?_
            refine x_calli C0 hO (x_runV (As := [.int (2 : Int32)]) (rest := []) C0 hO (kX7_fails l g _ (2 : Int32) σ1 _ hw) 1 rfl (xRecv C0 hO (j := 0) rfl rfl) gX7_as_X7_fails rfl rfl rfl hdX7_fails ⟨Nat.le_of_ble_eq_true rfl, Nat.le_of_ble_eq_true rfl⟩ hl.1 rfl (Nat.le_of_ble_eq_true rfl) dX7_as_39 ⟨Nat.le_of_ble_eq_true rfl, Nat.le_of_ble_eq_true rfl⟩) (fun r16 σ17 H locs hw hO => ?_)
            exact x_iret C0 hO hw dX7_as_42
      · replace hw := hw.2 c5
        refine lv_bipush (v := -2) hx hb dX7_as_26 (by decide) ?_
        exact x_iret C0 hO hw dX7_as_28
