set_option maxHeartbeats 4000000 in
set_option maxRecDepth 100000 in
theorem lc_24 {p : Program} {l : Launch} {e : Env} {s : State} {m : MethodId} {args : Array Value} {below : List Frame} {meth : Method} {c : Code} {g : XG} {A : Nat → Prop} {Q : State → Prop} {b L : Nat} {xs : Nat → Int32} (C0 : xC g A lw_tbl RL cL_law 4 ret p s m args meth c) (hX : va_X b L xs s s.heap) (hbl : b < s.heap.size) (hbA : ¬ A b) {i : Int32} (hin : ∀ c : Int32, vp_in c 6 → vp_in (i + c) L) (Gd : XS → Prop) {σ : XS} {H : Heap} {locs : List Loc} {ls : Array Slot} {cs : Nat} (hcs : cs + 1000 ≤ 600000) (hO : xO g A s σ H locs) (hl : lv_has ls 4 [(0, .ref b), (1, .ref (xa g 0)), (2, .ref (xa g 24)), (3, .int i)]) (hw : S24 Gd σ)
    (kk : ∀ (σ2 : XS) (H : Heap) (locs : List Loc) (c2 : Nat), c2 ≤ cs + 1000 → Gd σ2 → xO g A s σ2 H locs → W p l e room_1 s m args below meth c H locs c2 c2 Q (F0 m 1375 ls [])) : W p l e room_1 s m args below meth c H locs cs cs Q (F0 m 1031 ls []) := by
  have hx := C0.1
  have hb := C0.2.1
  unfold S24 at hw
  refine lv_aload_n hx hb dL_law_1031 rfl (lv_at hl 1 rfl) ?_
  refine lv_aload_n hx hb dL_law_1032 rfl (lv_at hl 0 rfl) ?_
  refine lv_iload_n hx hb dL_law_1033 rfl (lv_at hl 3 rfl) ?_
  refine lv_iconst (v := 1) hx hb dL_law_1034 (by decide) ?_
  refine lv_iadd hx hb dL_law_1035 ?_
  refine va_sld hx hb hX hbl hbA hO.2.2 (hin 1 (show ¬ ((1 : Int32) < 0 ∨ 6 ≤ (1 : Int32).toNatClampNeg) by decide)) dL_law_1036 ?_
  refine lv_aload_n hx hb dL_law_1037 rfl (lv_at hl 0 rfl) ?_
  refine lv_iload_n hx hb dL_law_1038 rfl (lv_at hl 3 rfl) ?_
  refine lv_iconst (v := 2) hx hb dL_law_1039 (by decide) ?_
  refine lv_iadd hx hb dL_law_1040 ?_
  refine va_sld hx hb hX hbl hbA hO.2.2 (hin 2 (show ¬ ((2 : Int32) < 0 ∨ 6 ≤ (2 : Int32).toNatClampNeg) by decide)) dL_law_1041 ?_
  refine lv_aload_n hx hb dL_law_1042 rfl (lv_at hl 0 rfl) ?_
  refine lv_iload_n hx hb dL_law_1043 rfl (lv_at hl 3 rfl) ?_
  refine lv_iconst (v := 3) hx hb dL_law_1044 (by decide) ?_
  refine lv_iadd hx hb dL_law_1045 ?_
  refine va_sld hx hb hX hbl hbA hO.2.2 (hin 3 (show ¬ ((3 : Int32) < 0 ∨ 6 ≤ (3 : Int32).toNatClampNeg) by decide)) dL_law_1046 ?_
  replace hw := hw (xs (i + 1).toNatClampNeg) (xs (i + 2).toNatClampNeg) (xs (i + 3).toNatClampNeg)
  refine x_calli C0 hO (x_runV (As := [.int (xs (i + 1).toNatClampNeg), .int (xs (i + 2).toNatClampNeg), .int (xs (i + 3).toNatClampNeg)]) (rest := []) C0 hO (kX7_sheet l g _ (xs (i + 1).toNatClampNeg) (xs (i + 2).toNatClampNeg) (xs (i + 3).toNatClampNeg) σ _ hw) 3 rfl (xRecv C0 hO (j := 0) rfl rfl) gL_X7_sheet rfl rfl rfl hdX7_sheet ⟨Nat.le_of_ble_eq_true rfl, Nat.le_of_ble_eq_true rfl⟩ hl.1 rfl (Nat.le_of_ble_eq_true rfl) dL_law_1047 ⟨(show _ ≤ 600000 by omega), (show _ ≤ 7302250 by omega)⟩) (fun r1 σ1 H locs hw hO => ?_)
  refine lv_aload_n hx hb dL_law_1050 rfl (lv_at hl 2 rfl) ?_
  refine lv_aload_n hx hb dL_law_1051 rfl (lv_at hl 0 rfl) ?_
  refine lv_iload_n hx hb dL_law_1052 rfl (lv_at hl 3 rfl) ?_
  refine lv_iconst (v := 1) hx hb dL_law_1053 (by decide) ?_
  refine lv_iadd hx hb dL_law_1054 ?_
  refine va_sld hx hb hX hbl hbA hO.2.2 (hin 1 (show ¬ ((1 : Int32) < 0 ∨ 6 ≤ (1 : Int32).toNatClampNeg) by decide)) dL_law_1055 ?_
  refine lv_aload_n hx hb dL_law_1056 rfl (lv_at hl 0 rfl) ?_
  refine lv_iload_n hx hb dL_law_1057 rfl (lv_at hl 3 rfl) ?_
  refine lv_iconst (v := 2) hx hb dL_law_1058 (by decide) ?_
  refine lv_iadd hx hb dL_law_1059 ?_
  refine va_sld hx hb hX hbl hbA hO.2.2 (hin 2 (show ¬ ((2 : Int32) < 0 ∨ 6 ≤ (2 : Int32).toNatClampNeg) by decide)) dL_law_1060 ?_
  refine lv_aload_n hx hb dL_law_1061 rfl (lv_at hl 0 rfl) ?_
  refine lv_iload_n hx hb dL_law_1062 rfl (lv_at hl 3 rfl) ?_
  refine lv_iconst (v := 3) hx hb dL_law_1063 (by decide) ?_
  refine lv_iadd hx hb dL_law_1064 ?_
  refine va_sld hx hb hX hbl hbA hO.2.2 (hin 3 (show ¬ ((3 : Int32) < 0 ∨ 6 ≤ (3 : Int32).toNatClampNeg) by decide)) dL_law_1065 ?_
  refine x_calli C0 hO (x_runV (As := [.int (xs (i + 1).toNatClampNeg), .int (xs (i + 2).toNatClampNeg), .int (xs (i + 3).toNatClampNeg)]) (rest := [.int r1]) C0 hO (kX8_sheet l g _ (xs (i + 1).toNatClampNeg) (xs (i + 2).toNatClampNeg) (xs (i + 3).toNatClampNeg) σ1 _ hw) 3 rfl (xRecv C0 hO (j := 24) rfl rfl) gL_X8_sheet rfl rfl rfl hdX8_sheet ⟨Nat.le_of_ble_eq_true rfl, Nat.le_of_ble_eq_true rfl⟩ hl.1 rfl (Nat.le_of_ble_eq_true rfl) dL_law_1066 ⟨(show _ ≤ 600000 by omega), (show _ ≤ 7302250 by omega)⟩) (fun r2 σ2 H locs hw hO => ?_)
  obtain ⟨hr, hG⟩ := hw
  refine lv_icmp_eq (tgt := 1375) hx hb dL_law_1069 (by decide) (fun c9 => ?_) (fun c9 => absurd hr c9)
  exact kk _ _ _ _ (by omega) hG hO
set_option maxHeartbeats 4000000 in
set_option maxRecDepth 100000 in
theorem lc_25 {p : Program} {l : Launch} {e : Env} {s : State} {m : MethodId} {args : Array Value} {below : List Frame} {meth : Method} {c : Code} {g : XG} {A : Nat → Prop} {Q : State → Prop} {b L : Nat} {xs : Nat → Int32} (C0 : xC g A lw_tbl RL cL_law 4 ret p s m args meth c) (hX : va_X b L xs s s.heap) (hbl : b < s.heap.size) (hbA : ¬ A b) {i : Int32} (hin : ∀ c : Int32, vp_in c 6 → vp_in (i + c) L) (Gd : XS → Prop) {σ : XS} {H : Heap} {locs : List Loc} {ls : Array Slot} {cs : Nat} (hcs : cs + 1000 ≤ 600000) (hO : xO g A s σ H locs) (hl : lv_has ls 4 [(0, .ref b), (1, .ref (xa g 0)), (2, .ref (xa g 24)), (3, .int i)]) (hw : S25 Gd σ)
    (kk : ∀ (σ2 : XS) (H : Heap) (locs : List Loc) (c2 : Nat), c2 ≤ cs + 1000 → Gd σ2 → xO g A s σ2 H locs → W p l e room_1 s m args below meth c H locs c2 c2 Q (F0 m 1375 ls [])) : W p l e room_1 s m args below meth c H locs cs cs Q (F0 m 1074 ls []) := by
  have hx := C0.1
  have hb := C0.2.1
  unfold S25 at hw
  refine lv_aload_n hx hb dL_law_1074 rfl (lv_at hl 1 rfl) ?_
  refine lv_aload_n hx hb dL_law_1075 rfl (lv_at hl 0 rfl) ?_
  refine lv_iload_n hx hb dL_law_1076 rfl (lv_at hl 3 rfl) ?_
  refine lv_iconst (v := 1) hx hb dL_law_1077 (by decide) ?_
  refine lv_iadd hx hb dL_law_1078 ?_
  refine va_sld hx hb hX hbl hbA hO.2.2 (hin 1 (show ¬ ((1 : Int32) < 0 ∨ 6 ≤ (1 : Int32).toNatClampNeg) by decide)) dL_law_1079 ?_
  replace hw := hw (xs (i + 1).toNatClampNeg)
  refine x_calli C0 hO (x_runV (As := [.int (xs (i + 1).toNatClampNeg)]) (rest := []) C0 hO (kX7_lose l g _ (xs (i + 1).toNatClampNeg) σ _ hw) 1 rfl (xRecv C0 hO (j := 0) rfl rfl) gL_X7_lose rfl rfl rfl hdX7_lose ⟨Nat.le_of_ble_eq_true rfl, Nat.le_of_ble_eq_true rfl⟩ hl.1 rfl (Nat.le_of_ble_eq_true rfl) dL_law_1080 ⟨(show _ ≤ 600000 by omega), (show _ ≤ 7302250 by omega)⟩) (fun r1 σ1 H locs hw hO => ?_)
  refine lv_aload_n hx hb dL_law_1083 rfl (lv_at hl 2 rfl) ?_
  refine lv_aload_n hx hb dL_law_1084 rfl (lv_at hl 0 rfl) ?_
  refine lv_iload_n hx hb dL_law_1085 rfl (lv_at hl 3 rfl) ?_
  refine lv_iconst (v := 1) hx hb dL_law_1086 (by decide) ?_
  refine lv_iadd hx hb dL_law_1087 ?_
  refine va_sld hx hb hX hbl hbA hO.2.2 (hin 1 (show ¬ ((1 : Int32) < 0 ∨ 6 ≤ (1 : Int32).toNatClampNeg) by decide)) dL_law_1088 ?_
  refine x_calli C0 hO (x_runV (As := [.int (xs (i + 1).toNatClampNeg)]) (rest := [.int r1]) C0 hO (kX8_lose l g _ (xs (i + 1).toNatClampNeg) σ1 _ hw) 1 rfl (xRecv C0 hO (j := 24) rfl rfl) gL_X8_lose rfl rfl rfl hdX8_lose ⟨Nat.le_of_ble_eq_true rfl, Nat.le_of_ble_eq_true rfl⟩ hl.1 rfl (Nat.le_of_ble_eq_true rfl) dL_law_1089 ⟨(show _ ≤ 600000 by omega), (show _ ≤ 7302250 by omega)⟩) (fun r2 σ2 H locs hw hO => ?_)
  obtain ⟨hr, hG⟩ := hw
  refine lv_icmp_eq (tgt := 1375) hx hb dL_law_1092 (by decide) (fun c9 => ?_) (fun c9 => absurd hr c9)
  exact kk _ _ _ _ (by omega) hG hO
set_option maxHeartbeats 4000000 in
set_option maxRecDepth 100000 in
theorem lc_26 {p : Program} {l : Launch} {e : Env} {s : State} {m : MethodId} {args : Array Value} {below : List Frame} {meth : Method} {c : Code} {g : XG} {A : Nat → Prop} {Q : State → Prop} {b L : Nat} {xs : Nat → Int32} (C0 : xC g A lw_tbl RL cL_law 4 ret p s m args meth c) (hX : va_X b L xs s s.heap) (hbl : b < s.heap.size) (hbA : ¬ A b) {i : Int32} (hin : ∀ c : Int32, vp_in c 6 → vp_in (i + c) L) (Gd : XS → Prop) {σ : XS} {H : Heap} {locs : List Loc} {ls : Array Slot} {cs : Nat} (hcs : cs + 1000 ≤ 600000) (hO : xO g A s σ H locs) (hl : lv_has ls 4 [(0, .ref b), (1, .ref (xa g 0)), (2, .ref (xa g 24)), (3, .int i)]) (hw : S26 Gd σ)
    (kk : ∀ (σ2 : XS) (H : Heap) (locs : List Loc) (c2 : Nat), c2 ≤ cs + 1000 → Gd σ2 → xO g A s σ2 H locs → W p l e room_1 s m args below meth c H locs c2 c2 Q (F0 m 1375 ls [])) : W p l e room_1 s m args below meth c H locs cs cs Q (F0 m 1097 ls []) := by
  have hx := C0.1
  have hb := C0.2.1
  unfold S26 at hw
  refine lv_aload_n hx hb dL_law_1097 rfl (lv_at hl 1 rfl) ?_
  refine lv_aload_n hx hb dL_law_1098 rfl (lv_at hl 0 rfl) ?_
  refine lv_iload_n hx hb dL_law_1099 rfl (lv_at hl 3 rfl) ?_
  refine lv_iconst (v := 1) hx hb dL_law_1100 (by decide) ?_
  refine lv_iadd hx hb dL_law_1101 ?_
  refine va_sld hx hb hX hbl hbA hO.2.2 (hin 1 (show ¬ ((1 : Int32) < 0 ∨ 6 ≤ (1 : Int32).toNatClampNeg) by decide)) dL_law_1102 ?_
  refine lv_aload_n hx hb dL_law_1103 rfl (lv_at hl 0 rfl) ?_
  refine lv_iload_n hx hb dL_law_1104 rfl (lv_at hl 3 rfl) ?_
  refine lv_iconst (v := 2) hx hb dL_law_1105 (by decide) ?_
  refine lv_iadd hx hb dL_law_1106 ?_
  refine va_sld hx hb hX hbl hbA hO.2.2 (hin 2 (show ¬ ((2 : Int32) < 0 ∨ 6 ≤ (2 : Int32).toNatClampNeg) by decide)) dL_law_1107 ?_
  refine lv_aload_n hx hb dL_law_1108 rfl (lv_at hl 0 rfl) ?_
  refine lv_iload_n hx hb dL_law_1109 rfl (lv_at hl 3 rfl) ?_
  refine lv_iconst (v := 3) hx hb dL_law_1110 (by decide) ?_
  refine lv_iadd hx hb dL_law_1111 ?_
  refine va_sld hx hb hX hbl hbA hO.2.2 (hin 3 (show ¬ ((3 : Int32) < 0 ∨ 6 ≤ (3 : Int32).toNatClampNeg) by decide)) dL_law_1112 ?_
  replace hw := hw (xs (i + 1).toNatClampNeg) (xs (i + 2).toNatClampNeg) (xs (i + 3).toNatClampNeg)
  refine x_calli C0 hO (x_runV (As := [.int (xs (i + 1).toNatClampNeg), .int (xs (i + 2).toNatClampNeg), .int (xs (i + 3).toNatClampNeg)]) (rest := []) C0 hO (kX7_put l g _ (xs (i + 1).toNatClampNeg) (xs (i + 2).toNatClampNeg) (xs (i + 3).toNatClampNeg) σ _ hw) 3 rfl (xRecv C0 hO (j := 0) rfl rfl) gL_X7_put rfl rfl rfl hdX7_put ⟨Nat.le_of_ble_eq_true rfl, Nat.le_of_ble_eq_true rfl⟩ hl.1 rfl (Nat.le_of_ble_eq_true rfl) dL_law_1113 ⟨(show _ ≤ 600000 by omega), (show _ ≤ 7302250 by omega)⟩) (fun r1 σ1 H locs hw hO => ?_)
  refine lv_aload_n hx hb dL_law_1116 rfl (lv_at hl 2 rfl) ?_
  refine lv_aload_n hx hb dL_law_1117 rfl (lv_at hl 0 rfl) ?_
  refine lv_iload_n hx hb dL_law_1118 rfl (lv_at hl 3 rfl) ?_
  refine lv_iconst (v := 1) hx hb dL_law_1119 (by decide) ?_
  refine lv_iadd hx hb dL_law_1120 ?_
  refine va_sld hx hb hX hbl hbA hO.2.2 (hin 1 (show ¬ ((1 : Int32) < 0 ∨ 6 ≤ (1 : Int32).toNatClampNeg) by decide)) dL_law_1121 ?_
  refine lv_aload_n hx hb dL_law_1122 rfl (lv_at hl 0 rfl) ?_
  refine lv_iload_n hx hb dL_law_1123 rfl (lv_at hl 3 rfl) ?_
  refine lv_iconst (v := 2) hx hb dL_law_1124 (by decide) ?_
  refine lv_iadd hx hb dL_law_1125 ?_
  refine va_sld hx hb hX hbl hbA hO.2.2 (hin 2 (show ¬ ((2 : Int32) < 0 ∨ 6 ≤ (2 : Int32).toNatClampNeg) by decide)) dL_law_1126 ?_
  refine lv_aload_n hx hb dL_law_1127 rfl (lv_at hl 0 rfl) ?_
  refine lv_iload_n hx hb dL_law_1128 rfl (lv_at hl 3 rfl) ?_
  refine lv_iconst (v := 3) hx hb dL_law_1129 (by decide) ?_
  refine lv_iadd hx hb dL_law_1130 ?_
  refine va_sld hx hb hX hbl hbA hO.2.2 (hin 3 (show ¬ ((3 : Int32) < 0 ∨ 6 ≤ (3 : Int32).toNatClampNeg) by decide)) dL_law_1131 ?_
  refine x_calli C0 hO (x_runV (As := [.int (xs (i + 1).toNatClampNeg), .int (xs (i + 2).toNatClampNeg), .int (xs (i + 3).toNatClampNeg)]) (rest := [.int r1]) C0 hO (kX8_put l g _ (xs (i + 1).toNatClampNeg) (xs (i + 2).toNatClampNeg) (xs (i + 3).toNatClampNeg) σ1 _ hw) 3 rfl (xRecv C0 hO (j := 24) rfl rfl) gL_X8_put rfl rfl rfl hdX8_put ⟨Nat.le_of_ble_eq_true rfl, Nat.le_of_ble_eq_true rfl⟩ hl.1 rfl (Nat.le_of_ble_eq_true rfl) dL_law_1132 ⟨(show _ ≤ 600000 by omega), (show _ ≤ 7302250 by omega)⟩) (fun r2 σ2 H locs hw hO => ?_)
  obtain ⟨hr, hG⟩ := hw
  refine lv_icmp_eq (tgt := 1375) hx hb dL_law_1135 (by decide) (fun c9 => ?_) (fun c9 => absurd hr c9)
  exact kk _ _ _ _ (by omega) hG hO
set_option maxHeartbeats 4000000 in
set_option maxRecDepth 100000 in
theorem lc_27 {p : Program} {l : Launch} {e : Env} {s : State} {m : MethodId} {args : Array Value} {below : List Frame} {meth : Method} {c : Code} {g : XG} {A : Nat → Prop} {Q : State → Prop} {b L : Nat} {xs : Nat → Int32} (C0 : xC g A lw_tbl RL cL_law 4 ret p s m args meth c) (hX : va_X b L xs s s.heap) (hbl : b < s.heap.size) (hbA : ¬ A b) {i : Int32} (hin : ∀ c : Int32, vp_in c 6 → vp_in (i + c) L) (Gd : XS → Prop) {σ : XS} {H : Heap} {locs : List Loc} {ls : Array Slot} {cs : Nat} (hcs : cs + 1000 ≤ 600000) (hO : xO g A s σ H locs) (hl : lv_has ls 4 [(0, .ref b), (1, .ref (xa g 0)), (2, .ref (xa g 24)), (3, .int i)]) (hw : S27 Gd σ)
    (kk : ∀ (σ2 : XS) (H : Heap) (locs : List Loc) (c2 : Nat), c2 ≤ cs + 1000 → Gd σ2 → xO g A s σ2 H locs → W p l e room_1 s m args below meth c H locs c2 c2 Q (F0 m 1375 ls [])) : W p l e room_1 s m args below meth c H locs cs cs Q (F0 m 1140 ls []) := by
  have hx := C0.1
  have hb := C0.2.1
  unfold S27 at hw
  refine lv_aload_n hx hb dL_law_1140 rfl (lv_at hl 1 rfl) ?_
  refine lv_aload_n hx hb dL_law_1141 rfl (lv_at hl 0 rfl) ?_
  refine lv_iload_n hx hb dL_law_1142 rfl (lv_at hl 3 rfl) ?_
  refine lv_iconst (v := 1) hx hb dL_law_1143 (by decide) ?_
  refine lv_iadd hx hb dL_law_1144 ?_
  refine va_sld hx hb hX hbl hbA hO.2.2 (hin 1 (show ¬ ((1 : Int32) < 0 ∨ 6 ≤ (1 : Int32).toNatClampNeg) by decide)) dL_law_1145 ?_
  refine lv_aload_n hx hb dL_law_1146 rfl (lv_at hl 0 rfl) ?_
  refine lv_iload_n hx hb dL_law_1147 rfl (lv_at hl 3 rfl) ?_
  refine lv_iconst (v := 2) hx hb dL_law_1148 (by decide) ?_
  refine lv_iadd hx hb dL_law_1149 ?_
  refine va_sld hx hb hX hbl hbA hO.2.2 (hin 2 (show ¬ ((2 : Int32) < 0 ∨ 6 ≤ (2 : Int32).toNatClampNeg) by decide)) dL_law_1150 ?_
  refine lv_aload_n hx hb dL_law_1151 rfl (lv_at hl 0 rfl) ?_
  refine lv_iload_n hx hb dL_law_1152 rfl (lv_at hl 3 rfl) ?_
  refine lv_iconst (v := 3) hx hb dL_law_1153 (by decide) ?_
  refine lv_iadd hx hb dL_law_1154 ?_
  refine va_sld hx hb hX hbl hbA hO.2.2 (hin 3 (show ¬ ((3 : Int32) < 0 ∨ 6 ≤ (3 : Int32).toNatClampNeg) by decide)) dL_law_1155 ?_
  replace hw := hw (xs (i + 1).toNatClampNeg) (xs (i + 2).toNatClampNeg) (xs (i + 3).toNatClampNeg)
  refine x_calll C0 hO (x_runV (As := [.int (xs (i + 1).toNatClampNeg), .int (xs (i + 2).toNatClampNeg), .int (xs (i + 3).toNatClampNeg)]) (rest := []) C0 hO (kX7_cell l g _ (xs (i + 1).toNatClampNeg) (xs (i + 2).toNatClampNeg) (xs (i + 3).toNatClampNeg) σ _ hw) 3 rfl (xRecv C0 hO (j := 0) rfl rfl) gL_X7_cell rfl rfl rfl hdX7_cell ⟨Nat.le_of_ble_eq_true rfl, Nat.le_of_ble_eq_true rfl⟩ hl.1 rfl (Nat.le_of_ble_eq_true rfl) dL_law_1156 ⟨(show _ ≤ 600000 by omega), (show _ ≤ 7302250 by omega)⟩) (fun r1 σ1 H locs hw hO => ?_)
  refine lv_aload_n hx hb dL_law_1159 rfl (lv_at hl 2 rfl) ?_
  refine lv_aload_n hx hb dL_law_1160 rfl (lv_at hl 0 rfl) ?_
  refine lv_iload_n hx hb dL_law_1161 rfl (lv_at hl 3 rfl) ?_
  refine lv_iconst (v := 1) hx hb dL_law_1162 (by decide) ?_
  refine lv_iadd hx hb dL_law_1163 ?_
  refine va_sld hx hb hX hbl hbA hO.2.2 (hin 1 (show ¬ ((1 : Int32) < 0 ∨ 6 ≤ (1 : Int32).toNatClampNeg) by decide)) dL_law_1164 ?_
  refine lv_aload_n hx hb dL_law_1165 rfl (lv_at hl 0 rfl) ?_
  refine lv_iload_n hx hb dL_law_1166 rfl (lv_at hl 3 rfl) ?_
  refine lv_iconst (v := 2) hx hb dL_law_1167 (by decide) ?_
  refine lv_iadd hx hb dL_law_1168 ?_
  refine va_sld hx hb hX hbl hbA hO.2.2 (hin 2 (show ¬ ((2 : Int32) < 0 ∨ 6 ≤ (2 : Int32).toNatClampNeg) by decide)) dL_law_1169 ?_
  refine lv_aload_n hx hb dL_law_1170 rfl (lv_at hl 0 rfl) ?_
  refine lv_iload_n hx hb dL_law_1171 rfl (lv_at hl 3 rfl) ?_
  refine lv_iconst (v := 3) hx hb dL_law_1172 (by decide) ?_
  refine lv_iadd hx hb dL_law_1173 ?_
  refine va_sld hx hb hX hbl hbA hO.2.2 (hin 3 (show ¬ ((3 : Int32) < 0 ∨ 6 ≤ (3 : Int32).toNatClampNeg) by decide)) dL_law_1174 ?_
  refine x_calll C0 hO (x_runV (As := [.int (xs (i + 1).toNatClampNeg), .int (xs (i + 2).toNatClampNeg), .int (xs (i + 3).toNatClampNeg)]) (rest := [.long r1]) C0 hO (kX8_cell l g _ (xs (i + 1).toNatClampNeg) (xs (i + 2).toNatClampNeg) (xs (i + 3).toNatClampNeg) σ1 _ hw) 3 rfl (xRecv C0 hO (j := 24) rfl rfl) gL_X8_cell rfl rfl rfl hdX8_cell ⟨Nat.le_of_ble_eq_true rfl, Nat.le_of_ble_eq_true rfl⟩ hl.1 rfl (Nat.le_of_ble_eq_true rfl) dL_law_1175 ⟨(show _ ≤ 600000 by omega), (show _ ≤ 7302250 by omega)⟩) (fun r2 σ2 H locs hw hO => ?_)
  obtain ⟨hr, hG⟩ := hw
  subst hr
  refine W.lcmp hx hb dL_law_1178 ?_
  refine lv_if_eq (tgt := 1375) hx hb dL_law_1179 (by decide) (fun c9 => ?_) (fun c9 => absurd (lc_cmp _) c9)
  exact kk _ _ _ _ (by omega) hG hO
set_option maxHeartbeats 4000000 in
set_option maxRecDepth 100000 in
theorem lc_28 {p : Program} {l : Launch} {e : Env} {s : State} {m : MethodId} {args : Array Value} {below : List Frame} {meth : Method} {c : Code} {g : XG} {A : Nat → Prop} {Q : State → Prop} {b L : Nat} {xs : Nat → Int32} (C0 : xC g A lw_tbl RL cL_law 4 ret p s m args meth c) (hX : va_X b L xs s s.heap) (hbl : b < s.heap.size) (hbA : ¬ A b) {i : Int32} (hin : ∀ c : Int32, vp_in c 6 → vp_in (i + c) L) (Gd : XS → Prop) {σ : XS} {H : Heap} {locs : List Loc} {ls : Array Slot} {cs : Nat} (hcs : cs + 1000 ≤ 600000) (hO : xO g A s σ H locs) (hl : lv_has ls 4 [(0, .ref b), (1, .ref (xa g 0)), (2, .ref (xa g 24)), (3, .int i)]) (hw : S28 Gd σ)
    (kk : ∀ (σ2 : XS) (H : Heap) (locs : List Loc) (c2 : Nat), c2 ≤ cs + 1000 → Gd σ2 → xO g A s σ2 H locs → W p l e room_1 s m args below meth c H locs c2 c2 Q (F0 m 1375 ls [])) : W p l e room_1 s m args below meth c H locs cs cs Q (F0 m 1184 ls []) := by
  have hx := C0.1
  have hb := C0.2.1
  unfold S28 at hw
  refine lv_aload_n hx hb dL_law_1184 rfl (lv_at hl 1 rfl) ?_
  refine lv_aload_n hx hb dL_law_1185 rfl (lv_at hl 0 rfl) ?_
  refine lv_iload_n hx hb dL_law_1186 rfl (lv_at hl 3 rfl) ?_
  refine lv_iconst (v := 1) hx hb dL_law_1187 (by decide) ?_
  refine lv_iadd hx hb dL_law_1188 ?_
  refine va_sld hx hb hX hbl hbA hO.2.2 (hin 1 (show ¬ ((1 : Int32) < 0 ∨ 6 ≤ (1 : Int32).toNatClampNeg) by decide)) dL_law_1189 ?_
  refine lv_aload_n hx hb dL_law_1190 rfl (lv_at hl 0 rfl) ?_
  refine lv_iload_n hx hb dL_law_1191 rfl (lv_at hl 3 rfl) ?_
  refine lv_iconst (v := 2) hx hb dL_law_1192 (by decide) ?_
  refine lv_iadd hx hb dL_law_1193 ?_
  refine va_sld hx hb hX hbl hbA hO.2.2 (hin 2 (show ¬ ((2 : Int32) < 0 ∨ 6 ≤ (2 : Int32).toNatClampNeg) by decide)) dL_law_1194 ?_
  refine lv_aload_n hx hb dL_law_1195 rfl (lv_at hl 0 rfl) ?_
  refine lv_iload_n hx hb dL_law_1196 rfl (lv_at hl 3 rfl) ?_
  refine lv_iconst (v := 3) hx hb dL_law_1197 (by decide) ?_
  refine lv_iadd hx hb dL_law_1198 ?_
  refine va_sld hx hb hX hbl hbA hO.2.2 (hin 3 (show ¬ ((3 : Int32) < 0 ∨ 6 ≤ (3 : Int32).toNatClampNeg) by decide)) dL_law_1199 ?_
  refine lv_aload_n hx hb dL_law_1200 rfl (lv_at hl 0 rfl) ?_
  refine lv_iload_n hx hb dL_law_1201 rfl (lv_at hl 3 rfl) ?_
  refine lv_iconst (v := 4) hx hb dL_law_1202 (by decide) ?_
  refine lv_iadd hx hb dL_law_1203 ?_
  refine va_sld hx hb hX hbl hbA hO.2.2 (hin 4 (show ¬ ((4 : Int32) < 0 ∨ 6 ≤ (4 : Int32).toNatClampNeg) by decide)) dL_law_1204 ?_
  refine lv_aload_n hx hb dL_law_1205 rfl (lv_at hl 0 rfl) ?_
  refine lv_iload_n hx hb dL_law_1206 rfl (lv_at hl 3 rfl) ?_
  refine lv_iconst (v := 5) hx hb dL_law_1207 (by decide) ?_
  refine lv_iadd hx hb dL_law_1208 ?_
  refine va_sld hx hb hX hbl hbA hO.2.2 (hin 5 (show ¬ ((5 : Int32) < 0 ∨ 6 ≤ (5 : Int32).toNatClampNeg) by decide)) dL_law_1209 ?_
  replace hw := hw (xs (i + 1).toNatClampNeg) (xs (i + 2).toNatClampNeg) (xs (i + 3).toNatClampNeg) (xs (i + 4).toNatClampNeg) (xs (i + 5).toNatClampNeg)
  refine x_calli C0 hO (x_runV (As := [.int (xs (i + 1).toNatClampNeg), .int (xs (i + 2).toNatClampNeg), .int (xs (i + 3).toNatClampNeg), .int (xs (i + 4).toNatClampNeg), .int (xs (i + 5).toNatClampNeg)]) (rest := []) C0 hO (kX7_copy l g _ (xs (i + 1).toNatClampNeg) (xs (i + 2).toNatClampNeg) (xs (i + 3).toNatClampNeg) (xs (i + 4).toNatClampNeg) (xs (i + 5).toNatClampNeg) σ _ hw) 5 rfl (xRecv C0 hO (j := 0) rfl rfl) gL_X7_copy rfl rfl rfl hdX7_copy ⟨Nat.le_of_ble_eq_true rfl, Nat.le_of_ble_eq_true rfl⟩ hl.1 rfl (Nat.le_of_ble_eq_true rfl) dL_law_1210 ⟨(show _ ≤ 600000 by omega), (show _ ≤ 7302250 by omega)⟩) (fun r1 σ1 H locs hw hO => ?_)
  refine lv_aload_n hx hb dL_law_1213 rfl (lv_at hl 2 rfl) ?_
  refine lv_aload_n hx hb dL_law_1214 rfl (lv_at hl 0 rfl) ?_
  refine lv_iload_n hx hb dL_law_1215 rfl (lv_at hl 3 rfl) ?_
  refine lv_iconst (v := 1) hx hb dL_law_1216 (by decide) ?_
  refine lv_iadd hx hb dL_law_1217 ?_
  refine va_sld hx hb hX hbl hbA hO.2.2 (hin 1 (show ¬ ((1 : Int32) < 0 ∨ 6 ≤ (1 : Int32).toNatClampNeg) by decide)) dL_law_1218 ?_
  refine lv_aload_n hx hb dL_law_1219 rfl (lv_at hl 0 rfl) ?_
  refine lv_iload_n hx hb dL_law_1220 rfl (lv_at hl 3 rfl) ?_
  refine lv_iconst (v := 2) hx hb dL_law_1221 (by decide) ?_
  refine lv_iadd hx hb dL_law_1222 ?_
  refine va_sld hx hb hX hbl hbA hO.2.2 (hin 2 (show ¬ ((2 : Int32) < 0 ∨ 6 ≤ (2 : Int32).toNatClampNeg) by decide)) dL_law_1223 ?_
  refine lv_aload_n hx hb dL_law_1224 rfl (lv_at hl 0 rfl) ?_
  refine lv_iload_n hx hb dL_law_1225 rfl (lv_at hl 3 rfl) ?_
  refine lv_iconst (v := 3) hx hb dL_law_1226 (by decide) ?_
  refine lv_iadd hx hb dL_law_1227 ?_
  refine va_sld hx hb hX hbl hbA hO.2.2 (hin 3 (show ¬ ((3 : Int32) < 0 ∨ 6 ≤ (3 : Int32).toNatClampNeg) by decide)) dL_law_1228 ?_
  refine lv_aload_n hx hb dL_law_1229 rfl (lv_at hl 0 rfl) ?_
  refine lv_iload_n hx hb dL_law_1230 rfl (lv_at hl 3 rfl) ?_
  refine lv_iconst (v := 4) hx hb dL_law_1231 (by decide) ?_
  refine lv_iadd hx hb dL_law_1232 ?_
  refine va_sld hx hb hX hbl hbA hO.2.2 (hin 4 (show ¬ ((4 : Int32) < 0 ∨ 6 ≤ (4 : Int32).toNatClampNeg) by decide)) dL_law_1233 ?_
  refine lv_aload_n hx hb dL_law_1234 rfl (lv_at hl 0 rfl) ?_
  refine lv_iload_n hx hb dL_law_1235 rfl (lv_at hl 3 rfl) ?_
  refine lv_iconst (v := 5) hx hb dL_law_1236 (by decide) ?_
  refine lv_iadd hx hb dL_law_1237 ?_
  refine va_sld hx hb hX hbl hbA hO.2.2 (hin 5 (show ¬ ((5 : Int32) < 0 ∨ 6 ≤ (5 : Int32).toNatClampNeg) by decide)) dL_law_1238 ?_
  refine x_calli C0 hO (x_runV (As := [.int (xs (i + 1).toNatClampNeg), .int (xs (i + 2).toNatClampNeg), .int (xs (i + 3).toNatClampNeg), .int (xs (i + 4).toNatClampNeg), .int (xs (i + 5).toNatClampNeg)]) (rest := [.int r1]) C0 hO (kX8_copy l g _ (xs (i + 1).toNatClampNeg) (xs (i + 2).toNatClampNeg) (xs (i + 3).toNatClampNeg) (xs (i + 4).toNatClampNeg) (xs (i + 5).toNatClampNeg) σ1 _ hw) 5 rfl (xRecv C0 hO (j := 24) rfl rfl) gL_X8_copy rfl rfl rfl hdX8_copy ⟨Nat.le_of_ble_eq_true rfl, Nat.le_of_ble_eq_true rfl⟩ hl.1 rfl (Nat.le_of_ble_eq_true rfl) dL_law_1239 ⟨(show _ ≤ 600000 by omega), (show _ ≤ 7302250 by omega)⟩) (fun r2 σ2 H locs hw hO => ?_)
  obtain ⟨hr, hG⟩ := hw
  refine lv_icmp_eq (tgt := 1375) hx hb dL_law_1242 (by decide) (fun c9 => ?_) (fun c9 => absurd hr c9)
  exact kk _ _ _ _ (by omega) hG hO
set_option maxHeartbeats 4000000 in
set_option maxRecDepth 100000 in
theorem lc_29 {p : Program} {l : Launch} {e : Env} {s : State} {m : MethodId} {args : Array Value} {below : List Frame} {meth : Method} {c : Code} {g : XG} {A : Nat → Prop} {Q : State → Prop} {b L : Nat} {xs : Nat → Int32} (C0 : xC g A lw_tbl RL cL_law 4 ret p s m args meth c) (hX : va_X b L xs s s.heap) (hbl : b < s.heap.size) (hbA : ¬ A b) {i : Int32} (hin : ∀ c : Int32, vp_in c 6 → vp_in (i + c) L) (Gd : XS → Prop) {σ : XS} {H : Heap} {locs : List Loc} {ls : Array Slot} {cs : Nat} (hcs : cs + 1000 ≤ 600000) (hO : xO g A s σ H locs) (hl : lv_has ls 4 [(0, .ref b), (1, .ref (xa g 0)), (2, .ref (xa g 24)), (3, .int i)]) (hw : S29 Gd σ)
    (kk : ∀ (σ2 : XS) (H : Heap) (locs : List Loc) (c2 : Nat), c2 ≤ cs + 1000 → Gd σ2 → xO g A s σ2 H locs → W p l e room_1 s m args below meth c H locs c2 c2 Q (F0 m 1375 ls [])) : W p l e room_1 s m args below meth c H locs cs cs Q (F0 m 1247 ls []) := by
  have hx := C0.1
  have hb := C0.2.1
  unfold S29 at hw
  refine lv_aload_n hx hb dL_law_1247 rfl (lv_at hl 1 rfl) ?_
  refine lv_aload_n hx hb dL_law_1248 rfl (lv_at hl 0 rfl) ?_
  refine lv_iload_n hx hb dL_law_1249 rfl (lv_at hl 3 rfl) ?_
  refine lv_iconst (v := 1) hx hb dL_law_1250 (by decide) ?_
  refine lv_iadd hx hb dL_law_1251 ?_
  refine va_sld hx hb hX hbl hbA hO.2.2 (hin 1 (show ¬ ((1 : Int32) < 0 ∨ 6 ≤ (1 : Int32).toNatClampNeg) by decide)) dL_law_1252 ?_
  replace hw := hw (xs (i + 1).toNatClampNeg)
  refine x_calli C0 hO (x_runV (As := [.int (xs (i + 1).toNatClampNeg)]) (rest := []) C0 hO (kX7_tell l g _ (xs (i + 1).toNatClampNeg) σ _ hw) 1 rfl (xRecv C0 hO (j := 0) rfl rfl) gL_X7_tell rfl rfl rfl hdX7_tell ⟨Nat.le_of_ble_eq_true rfl, Nat.le_of_ble_eq_true rfl⟩ hl.1 rfl (Nat.le_of_ble_eq_true rfl) dL_law_1253 ⟨(show _ ≤ 600000 by omega), (show _ ≤ 7302250 by omega)⟩) (fun r1 σ1 H locs hw hO => ?_)
  refine lv_aload_n hx hb dL_law_1256 rfl (lv_at hl 2 rfl) ?_
  refine lv_aload_n hx hb dL_law_1257 rfl (lv_at hl 0 rfl) ?_
  refine lv_iload_n hx hb dL_law_1258 rfl (lv_at hl 3 rfl) ?_
  refine lv_iconst (v := 1) hx hb dL_law_1259 (by decide) ?_
  refine lv_iadd hx hb dL_law_1260 ?_
  refine va_sld hx hb hX hbl hbA hO.2.2 (hin 1 (show ¬ ((1 : Int32) < 0 ∨ 6 ≤ (1 : Int32).toNatClampNeg) by decide)) dL_law_1261 ?_
  refine x_calli C0 hO (x_runV (As := [.int (xs (i + 1).toNatClampNeg)]) (rest := [.int r1]) C0 hO (kX8_tell l g _ (xs (i + 1).toNatClampNeg) σ1 _ hw) 1 rfl (xRecv C0 hO (j := 24) rfl rfl) gL_X8_tell rfl rfl rfl hdX8_tell ⟨Nat.le_of_ble_eq_true rfl, Nat.le_of_ble_eq_true rfl⟩ hl.1 rfl (Nat.le_of_ble_eq_true rfl) dL_law_1262 ⟨(show _ ≤ 600000 by omega), (show _ ≤ 7302250 by omega)⟩) (fun r2 σ2 H locs hw hO => ?_)
  obtain ⟨hr, hG⟩ := hw
  refine lv_icmp_eq (tgt := 1375) hx hb dL_law_1265 (by decide) (fun c9 => ?_) (fun c9 => absurd hr c9)
  exact kk _ _ _ _ (by omega) hG hO
set_option maxHeartbeats 4000000 in
set_option maxRecDepth 100000 in
theorem lc_30 {p : Program} {l : Launch} {e : Env} {s : State} {m : MethodId} {args : Array Value} {below : List Frame} {meth : Method} {c : Code} {g : XG} {A : Nat → Prop} {Q : State → Prop} {b L : Nat} {xs : Nat → Int32} (C0 : xC g A lw_tbl RL cL_law 4 ret p s m args meth c) (hX : va_X b L xs s s.heap) (hbl : b < s.heap.size) (hbA : ¬ A b) {i : Int32} (hin : ∀ c : Int32, vp_in c 6 → vp_in (i + c) L) (Gd : XS → Prop) {σ : XS} {H : Heap} {locs : List Loc} {ls : Array Slot} {cs : Nat} (hcs : cs + 1000 ≤ 600000) (hO : xO g A s σ H locs) (hl : lv_has ls 4 [(0, .ref b), (1, .ref (xa g 0)), (2, .ref (xa g 24)), (3, .int i)]) (hw : S30 Gd σ)
    (kk : ∀ (σ2 : XS) (H : Heap) (locs : List Loc) (c2 : Nat), c2 ≤ cs + 1000 → Gd σ2 → xO g A s σ2 H locs → W p l e room_1 s m args below meth c H locs c2 c2 Q (F0 m 1375 ls [])) : W p l e room_1 s m args below meth c H locs cs cs Q (F0 m 1270 ls []) := by
  have hx := C0.1
  have hb := C0.2.1
  unfold S30 at hw
  refine lv_aload_n hx hb dL_law_1270 rfl (lv_at hl 1 rfl) ?_
  refine lv_aload_n hx hb dL_law_1271 rfl (lv_at hl 0 rfl) ?_
  refine lv_iload_n hx hb dL_law_1272 rfl (lv_at hl 3 rfl) ?_
  refine lv_iconst (v := 1) hx hb dL_law_1273 (by decide) ?_
  refine lv_iadd hx hb dL_law_1274 ?_
  refine va_sld hx hb hX hbl hbA hO.2.2 (hin 1 (show ¬ ((1 : Int32) < 0 ∨ 6 ≤ (1 : Int32).toNatClampNeg) by decide)) dL_law_1275 ?_
  replace hw := hw (xs (i + 1).toNatClampNeg)
  refine x_calli C0 hO (x_runV (As := [.int (xs (i + 1).toNatClampNeg)]) (rest := []) C0 hO (kX7_greet l g _ (xs (i + 1).toNatClampNeg) σ _ hw) 1 rfl (xRecv C0 hO (j := 0) rfl rfl) gL_X7_greet rfl rfl rfl hdX7_greet ⟨Nat.le_of_ble_eq_true rfl, Nat.le_of_ble_eq_true rfl⟩ hl.1 rfl (Nat.le_of_ble_eq_true rfl) dL_law_1276 ⟨(show _ ≤ 600000 by omega), (show _ ≤ 7302250 by omega)⟩) (fun r1 σ1 H locs hw hO => ?_)
  refine lv_aload_n hx hb dL_law_1279 rfl (lv_at hl 2 rfl) ?_
  refine lv_aload_n hx hb dL_law_1280 rfl (lv_at hl 0 rfl) ?_
  refine lv_iload_n hx hb dL_law_1281 rfl (lv_at hl 3 rfl) ?_
  refine lv_iconst (v := 1) hx hb dL_law_1282 (by decide) ?_
  refine lv_iadd hx hb dL_law_1283 ?_
  refine va_sld hx hb hX hbl hbA hO.2.2 (hin 1 (show ¬ ((1 : Int32) < 0 ∨ 6 ≤ (1 : Int32).toNatClampNeg) by decide)) dL_law_1284 ?_
  refine x_calli C0 hO (x_runV (As := [.int (xs (i + 1).toNatClampNeg)]) (rest := [.int r1]) C0 hO (kX8_greet l g _ (xs (i + 1).toNatClampNeg) σ1 _ hw) 1 rfl (xRecv C0 hO (j := 24) rfl rfl) gL_X8_greet rfl rfl rfl hdX8_greet ⟨Nat.le_of_ble_eq_true rfl, Nat.le_of_ble_eq_true rfl⟩ hl.1 rfl (Nat.le_of_ble_eq_true rfl) dL_law_1285 ⟨(show _ ≤ 600000 by omega), (show _ ≤ 7302250 by omega)⟩) (fun r2 σ2 H locs hw hO => ?_)
  obtain ⟨hr, hG⟩ := hw
  refine lv_icmp_eq (tgt := 1375) hx hb dL_law_1288 (by decide) (fun c9 => ?_) (fun c9 => absurd hr c9)
  exact kk _ _ _ _ (by omega) hG hO
set_option maxHeartbeats 4000000 in
set_option maxRecDepth 100000 in
theorem lc_31 {p : Program} {l : Launch} {e : Env} {s : State} {m : MethodId} {args : Array Value} {below : List Frame} {meth : Method} {c : Code} {g : XG} {A : Nat → Prop} {Q : State → Prop} {b L : Nat} {xs : Nat → Int32} (C0 : xC g A lw_tbl RL cL_law 4 ret p s m args meth c) (hX : va_X b L xs s s.heap) (hbl : b < s.heap.size) (hbA : ¬ A b) {i : Int32} (hin : ∀ c : Int32, vp_in c 6 → vp_in (i + c) L) (Gd : XS → Prop) {σ : XS} {H : Heap} {locs : List Loc} {ls : Array Slot} {cs : Nat} (hcs : cs + 1000 ≤ 600000) (hO : xO g A s σ H locs) (hl : lv_has ls 4 [(0, .ref b), (1, .ref (xa g 0)), (2, .ref (xa g 24)), (3, .int i)]) (hw : S31 Gd σ)
    (kk : ∀ (σ2 : XS) (H : Heap) (locs : List Loc) (c2 : Nat), c2 ≤ cs + 1000 → Gd σ2 → xO g A s σ2 H locs → W p l e room_1 s m args below meth c H locs c2 c2 Q (F0 m 1375 ls [])) : W p l e room_1 s m args below meth c H locs cs cs Q (F0 m 1293 ls []) := by
  have hx := C0.1
  have hb := C0.2.1
  unfold S31 at hw
  refine lv_aload_n hx hb dL_law_1293 rfl (lv_at hl 1 rfl) ?_
  refine lv_aload_n hx hb dL_law_1294 rfl (lv_at hl 0 rfl) ?_
  refine lv_iload_n hx hb dL_law_1295 rfl (lv_at hl 3 rfl) ?_
  refine lv_iconst (v := 1) hx hb dL_law_1296 (by decide) ?_
  refine lv_iadd hx hb dL_law_1297 ?_
  refine va_sld hx hb hX hbl hbA hO.2.2 (hin 1 (show ¬ ((1 : Int32) < 0 ∨ 6 ≤ (1 : Int32).toNatClampNeg) by decide)) dL_law_1298 ?_
  refine lv_aload_n hx hb dL_law_1299 rfl (lv_at hl 0 rfl) ?_
  refine lv_iload_n hx hb dL_law_1300 rfl (lv_at hl 3 rfl) ?_
  refine lv_iconst (v := 2) hx hb dL_law_1301 (by decide) ?_
  refine lv_iadd hx hb dL_law_1302 ?_
  refine va_sld hx hb hX hbl hbA hO.2.2 (hin 2 (show ¬ ((2 : Int32) < 0 ∨ 6 ≤ (2 : Int32).toNatClampNeg) by decide)) dL_law_1303 ?_
  replace hw := hw (xs (i + 1).toNatClampNeg) (xs (i + 2).toNatClampNeg)
  refine x_calli C0 hO (x_runV (As := [.int (xs (i + 1).toNatClampNeg), .int (xs (i + 2).toNatClampNeg)]) (rest := []) C0 hO (kX7_as l g _ (xs (i + 1).toNatClampNeg) (xs (i + 2).toNatClampNeg) σ _ hw) 2 rfl (xRecv C0 hO (j := 0) rfl rfl) gL_X7_as rfl rfl rfl hdX7_as ⟨Nat.le_of_ble_eq_true rfl, Nat.le_of_ble_eq_true rfl⟩ hl.1 rfl (Nat.le_of_ble_eq_true rfl) dL_law_1304 ⟨(show _ ≤ 600000 by omega), (show _ ≤ 7302250 by omega)⟩) (fun r1 σ1 H locs hw hO => ?_)
  refine lv_aload_n hx hb dL_law_1307 rfl (lv_at hl 2 rfl) ?_
  refine lv_aload_n hx hb dL_law_1308 rfl (lv_at hl 0 rfl) ?_
  refine lv_iload_n hx hb dL_law_1309 rfl (lv_at hl 3 rfl) ?_
  refine lv_iconst (v := 1) hx hb dL_law_1310 (by decide) ?_
  refine lv_iadd hx hb dL_law_1311 ?_
  refine va_sld hx hb hX hbl hbA hO.2.2 (hin 1 (show ¬ ((1 : Int32) < 0 ∨ 6 ≤ (1 : Int32).toNatClampNeg) by decide)) dL_law_1312 ?_
  refine lv_aload_n hx hb dL_law_1313 rfl (lv_at hl 0 rfl) ?_
  refine lv_iload_n hx hb dL_law_1314 rfl (lv_at hl 3 rfl) ?_
  refine lv_iconst (v := 2) hx hb dL_law_1315 (by decide) ?_
  refine lv_iadd hx hb dL_law_1316 ?_
  refine va_sld hx hb hX hbl hbA hO.2.2 (hin 2 (show ¬ ((2 : Int32) < 0 ∨ 6 ≤ (2 : Int32).toNatClampNeg) by decide)) dL_law_1317 ?_
  refine x_calli C0 hO (x_runV (As := [.int (xs (i + 1).toNatClampNeg), .int (xs (i + 2).toNatClampNeg)]) (rest := [.int r1]) C0 hO (kX8_as l g _ (xs (i + 1).toNatClampNeg) (xs (i + 2).toNatClampNeg) σ1 _ hw) 2 rfl (xRecv C0 hO (j := 24) rfl rfl) gL_X8_as rfl rfl rfl hdX8_as ⟨Nat.le_of_ble_eq_true rfl, Nat.le_of_ble_eq_true rfl⟩ hl.1 rfl (Nat.le_of_ble_eq_true rfl) dL_law_1318 ⟨(show _ ≤ 600000 by omega), (show _ ≤ 7302250 by omega)⟩) (fun r2 σ2 H locs hw hO => ?_)
  obtain ⟨hr, hG⟩ := hw
  refine lv_icmp_eq (tgt := 1375) hx hb dL_law_1321 (by decide) (fun c9 => ?_) (fun c9 => absurd hr c9)
  exact kk _ _ _ _ (by omega) hG hO
set_option maxHeartbeats 4000000 in
set_option maxRecDepth 100000 in
theorem lc_32 {p : Program} {l : Launch} {e : Env} {s : State} {m : MethodId} {args : Array Value} {below : List Frame} {meth : Method} {c : Code} {g : XG} {A : Nat → Prop} {Q : State → Prop} {b L : Nat} {xs : Nat → Int32} (C0 : xC g A lw_tbl RL cL_law 4 ret p s m args meth c) (hX : va_X b L xs s s.heap) (hbl : b < s.heap.size) (hbA : ¬ A b) {i : Int32} (hin : ∀ c : Int32, vp_in c 6 → vp_in (i + c) L) (Gd : XS → Prop) {σ : XS} {H : Heap} {locs : List Loc} {ls : Array Slot} {cs : Nat} (hcs : cs + 1000 ≤ 600000) (hO : xO g A s σ H locs) (hl : lv_has ls 4 [(0, .ref b), (1, .ref (xa g 0)), (2, .ref (xa g 24)), (3, .int i)]) (hw : S32 Gd σ)
    (kk : ∀ (σ2 : XS) (H : Heap) (locs : List Loc) (c2 : Nat), c2 ≤ cs + 1000 → Gd σ2 → xO g A s σ2 H locs → W p l e room_1 s m args below meth c H locs c2 c2 Q (F0 m 1375 ls [])) : W p l e room_1 s m args below meth c H locs cs cs Q (F0 m 1326 ls []) := by
  have hx := C0.1
  have hb := C0.2.1
  unfold S32 at hw
  refine lv_aload_n hx hb dL_law_1326 rfl (lv_at hl 1 rfl) ?_
  refine x_calli C0 hO (x_runV (As := []) (rest := []) C0 hO (kX7_trace l g _  σ _ hw) 0 rfl (xRecv C0 hO (j := 0) rfl rfl) gL_X7_trace rfl rfl rfl hdX7_trace ⟨Nat.le_of_ble_eq_true rfl, Nat.le_of_ble_eq_true rfl⟩ hl.1 rfl (Nat.le_of_ble_eq_true rfl) dL_law_1327 ⟨(show _ ≤ 600000 by omega), (show _ ≤ 7302250 by omega)⟩) (fun r1 σ' H locs hw hO => ?_)
  obtain ⟨hσ, hw⟩ := hw
  subst hσ
  refine lv_aload_n hx hb dL_law_1330 rfl (lv_at hl 2 rfl) ?_
  refine x_calli C0 hO (x_runV (As := []) (rest := [.int r1]) C0 hO (kX8_trace l g _  σ _ hw) 0 rfl (xRecv C0 hO (j := 24) rfl rfl) gL_X8_trace rfl rfl rfl hdX8_trace ⟨Nat.le_of_ble_eq_true rfl, Nat.le_of_ble_eq_true rfl⟩ hl.1 rfl (Nat.le_of_ble_eq_true rfl) dL_law_1331 ⟨(show _ ≤ 600000 by omega), (show _ ≤ 7302250 by omega)⟩) (fun r2 σ' H locs hw hO => ?_)
  obtain ⟨hσ, hw⟩ := hw
  subst hσ
  obtain ⟨hr, hG⟩ := hw
  refine lv_icmp_eq (tgt := 1375) hx hb dL_law_1334 (by decide) (fun c9 => ?_) (fun c9 => absurd hr c9)
  exact kk _ _ _ _ (by omega) hG hO
set_option maxHeartbeats 4000000 in
set_option maxRecDepth 100000 in
theorem lc_33 {p : Program} {l : Launch} {e : Env} {s : State} {m : MethodId} {args : Array Value} {below : List Frame} {meth : Method} {c : Code} {g : XG} {A : Nat → Prop} {Q : State → Prop} {b L : Nat} {xs : Nat → Int32} (C0 : xC g A lw_tbl RL cL_law 4 ret p s m args meth c) (hX : va_X b L xs s s.heap) (hbl : b < s.heap.size) (hbA : ¬ A b) {i : Int32} (hin : ∀ c : Int32, vp_in c 6 → vp_in (i + c) L) (Gd : XS → Prop) {σ : XS} {H : Heap} {locs : List Loc} {ls : Array Slot} {cs : Nat} (hcs : cs + 1000 ≤ 600000) (hO : xO g A s σ H locs) (hl : lv_has ls 4 [(0, .ref b), (1, .ref (xa g 0)), (2, .ref (xa g 24)), (3, .int i)]) (hw : S33 Gd σ)
    (kk : ∀ (σ2 : XS) (H : Heap) (locs : List Loc) (c2 : Nat), c2 ≤ cs + 1000 → Gd σ2 → xO g A s σ2 H locs → W p l e room_1 s m args below meth c H locs c2 c2 Q (F0 m 1375 ls [])) : W p l e room_1 s m args below meth c H locs cs cs Q (F0 m 1339 ls []) := by
  have hx := C0.1
  have hb := C0.2.1
  unfold S33 at hw
  refine lv_aload_n hx hb dL_law_1339 rfl (lv_at hl 1 rfl) ?_
  refine x_calli C0 hO (x_runV (As := []) (rest := []) C0 hO (kX7_fault l g _  σ _ hw) 0 rfl (xRecv C0 hO (j := 0) rfl rfl) gL_X7_fault rfl rfl rfl hdX7_fault ⟨Nat.le_of_ble_eq_true rfl, Nat.le_of_ble_eq_true rfl⟩ hl.1 rfl (Nat.le_of_ble_eq_true rfl) dL_law_1340 ⟨(show _ ≤ 600000 by omega), (show _ ≤ 7302250 by omega)⟩) (fun r1 σ' H locs hw hO => ?_)
  obtain ⟨hσ, hw⟩ := hw
  subst hσ
  refine lv_aload_n hx hb dL_law_1343 rfl (lv_at hl 2 rfl) ?_
  refine x_calli C0 hO (x_runV (As := []) (rest := [.int r1]) C0 hO (kX8_fault l g _  σ _ hw) 0 rfl (xRecv C0 hO (j := 24) rfl rfl) gL_X8_fault rfl rfl rfl hdX8_fault ⟨Nat.le_of_ble_eq_true rfl, Nat.le_of_ble_eq_true rfl⟩ hl.1 rfl (Nat.le_of_ble_eq_true rfl) dL_law_1344 ⟨(show _ ≤ 600000 by omega), (show _ ≤ 7302250 by omega)⟩) (fun r2 σ' H locs hw hO => ?_)
  obtain ⟨hσ, hw⟩ := hw
  subst hσ
  obtain ⟨hr, hG⟩ := hw
  refine lv_icmp_eq (tgt := 1375) hx hb dL_law_1347 (by decide) (fun c9 => ?_) (fun c9 => absurd hr c9)
  exact kk _ _ _ _ (by omega) hG hO
set_option maxHeartbeats 4000000 in
set_option maxRecDepth 100000 in
theorem lc_34 {p : Program} {l : Launch} {e : Env} {s : State} {m : MethodId} {args : Array Value} {below : List Frame} {meth : Method} {c : Code} {g : XG} {A : Nat → Prop} {Q : State → Prop} {b L : Nat} {xs : Nat → Int32} (C0 : xC g A lw_tbl RL cL_law 4 ret p s m args meth c) (hX : va_X b L xs s s.heap) (hbl : b < s.heap.size) (hbA : ¬ A b) {i : Int32} (hin : ∀ c : Int32, vp_in c 6 → vp_in (i + c) L) (Gd : XS → Prop) {σ : XS} {H : Heap} {locs : List Loc} {ls : Array Slot} {cs : Nat} (hcs : cs + 1000 ≤ 600000) (hO : xO g A s σ H locs) (hl : lv_has ls 4 [(0, .ref b), (1, .ref (xa g 0)), (2, .ref (xa g 24)), (3, .int i)]) (hw : S34 Gd σ)
    (kk : ∀ (σ2 : XS) (H : Heap) (locs : List Loc) (c2 : Nat), c2 ≤ cs + 1000 → Gd σ2 → xO g A s σ2 H locs → W p l e room_1 s m args below meth c H locs c2 c2 Q (F0 m 1375 ls [])) : W p l e room_1 s m args below meth c H locs cs cs Q (F0 m 1352 ls []) := by
  have hx := C0.1
  have hb := C0.2.1
  unfold S34 at hw
  refine lv_aload_n hx hb dL_law_1352 rfl (lv_at hl 1 rfl) ?_
  refine lv_aload_n hx hb dL_law_1353 rfl (lv_at hl 0 rfl) ?_
  refine lv_iload_n hx hb dL_law_1354 rfl (lv_at hl 3 rfl) ?_
  refine lv_iconst (v := 1) hx hb dL_law_1355 (by decide) ?_
  refine lv_iadd hx hb dL_law_1356 ?_
  refine va_sld hx hb hX hbl hbA hO.2.2 (hin 1 (show ¬ ((1 : Int32) < 0 ∨ 6 ≤ (1 : Int32).toNatClampNeg) by decide)) dL_law_1357 ?_
  replace hw := hw (xs (i + 1).toNatClampNeg)
  refine x_calli C0 hO (x_runV (As := [.int (xs (i + 1).toNatClampNeg)]) (rest := []) C0 hO (kX7_many l g _ (xs (i + 1).toNatClampNeg) σ _ hw) 1 rfl (xRecv C0 hO (j := 0) rfl rfl) gL_X7_many rfl rfl rfl hdX7_many ⟨Nat.le_of_ble_eq_true rfl, Nat.le_of_ble_eq_true rfl⟩ hl.1 rfl (Nat.le_of_ble_eq_true rfl) dL_law_1358 ⟨(show _ ≤ 600000 by omega), (show _ ≤ 7302250 by omega)⟩) (fun r1 σ' H locs hw hO => ?_)
  obtain ⟨hσ, hw⟩ := hw
  subst hσ
  refine lv_aload_n hx hb dL_law_1361 rfl (lv_at hl 2 rfl) ?_
  refine lv_aload_n hx hb dL_law_1362 rfl (lv_at hl 0 rfl) ?_
  refine lv_iload_n hx hb dL_law_1363 rfl (lv_at hl 3 rfl) ?_
  refine lv_iconst (v := 1) hx hb dL_law_1364 (by decide) ?_
  refine lv_iadd hx hb dL_law_1365 ?_
  refine va_sld hx hb hX hbl hbA hO.2.2 (hin 1 (show ¬ ((1 : Int32) < 0 ∨ 6 ≤ (1 : Int32).toNatClampNeg) by decide)) dL_law_1366 ?_
  refine x_calli C0 hO (x_runV (As := [.int (xs (i + 1).toNatClampNeg)]) (rest := [.int r1]) C0 hO (kX8_many l g _ (xs (i + 1).toNatClampNeg) σ _ hw) 1 rfl (xRecv C0 hO (j := 24) rfl rfl) gL_X8_many rfl rfl rfl hdX8_many ⟨Nat.le_of_ble_eq_true rfl, Nat.le_of_ble_eq_true rfl⟩ hl.1 rfl (Nat.le_of_ble_eq_true rfl) dL_law_1367 ⟨(show _ ≤ 600000 by omega), (show _ ≤ 7302250 by omega)⟩) (fun r2 σ' H locs hw hO => ?_)
  obtain ⟨hσ, hw⟩ := hw
  subst hσ
  obtain ⟨hr, hG⟩ := hw
  refine lv_icmp_eq (tgt := 1375) hx hb dL_law_1370 (by decide) (fun c9 => ?_) (fun c9 => absurd hr c9)
  exact kk _ _ _ _ (by omega) hG hO
