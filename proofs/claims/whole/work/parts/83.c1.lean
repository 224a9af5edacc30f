set_option maxHeartbeats 4000000 in
set_option maxRecDepth 100000 in
theorem lc_12 {p : Program} {l : Launch} {e : Env} {s : State} {m : MethodId} {args : Array Value} {below : List Frame} {meth : Method} {c : Code} {g : XG} {A : Nat → Prop} {Q : State → Prop} {b L : Nat} {xs : Nat → Int32} (C0 : xC g A lw_tbl RL cL_law 4 ret p s m args meth c) (hX : va_X b L xs s s.heap) (hbl : b < s.heap.size) (hbA : ¬ A b) {i : Int32} (hin : ∀ c : Int32, vp_in c 6 → vp_in (i + c) L) (Gd : XS → Prop) {σ : XS} {H : Heap} {locs : List Loc} {ls : Array Slot} {cs : Nat} (hcs : cs + 1000 ≤ 600000) (hO : xO g A s σ H locs) (hl : lv_has ls 4 [(0, .ref b), (1, .ref (xa g 0)), (2, .ref (xa g 24)), (3, .int i)]) (hw : S12 Gd σ)
    (kk : ∀ (σ2 : XS) (H : Heap) (locs : List Loc) (c2 : Nat), c2 ≤ cs + 1000 → Gd σ2 → xO g A s σ2 H locs → W p l e room_1 s m args below meth c H locs c2 c2 Q (F0 m 1375 ls [])) : W p l e room_1 s m args below meth c H locs cs cs Q (F0 m 614 ls []) := by
  have hx := C0.1
  have hb := C0.2.1
  unfold S12 at hw
  refine lv_aload_n hx hb dL_law_614 rfl (lv_at hl 1 rfl) ?_
  refine lv_aload_n hx hb dL_law_615 rfl (lv_at hl 0 rfl) ?_
  refine lv_iload_n hx hb dL_law_616 rfl (lv_at hl 3 rfl) ?_
  refine lv_iconst (v := 1) hx hb dL_law_617 (by decide) ?_
  refine lv_iadd hx hb dL_law_618 ?_
  refine va_sld hx hb hX hbl hbA hO.2.2 (hin 1 (show ¬ ((1 : Int32) < 0 ∨ 6 ≤ (1 : Int32).toNatClampNeg) by decide)) dL_law_619 ?_
  refine lv_aload_n hx hb dL_law_620 rfl (lv_at hl 0 rfl) ?_
  refine lv_iload_n hx hb dL_law_621 rfl (lv_at hl 3 rfl) ?_
  refine lv_iconst (v := 2) hx hb dL_law_622 (by decide) ?_
  refine lv_iadd hx hb dL_law_623 ?_
  refine va_sld hx hb hX hbl hbA hO.2.2 (hin 2 (show ¬ ((2 : Int32) < 0 ∨ 6 ≤ (2 : Int32).toNatClampNeg) by decide)) dL_law_624 ?_
  replace hw := hw (xs (i + 1).toNatClampNeg) (xs (i + 2).toNatClampNeg)
  refine x_calli C0 hO (x_runV (As := [.int (xs (i + 1).toNatClampNeg), .int (xs (i + 2).toNatClampNeg)]) (rest := []) C0 hO (kX7_beside l g _ (xs (i + 1).toNatClampNeg) (xs (i + 2).toNatClampNeg) σ _ hw) 2 rfl (xRecv C0 hO (j := 0) rfl rfl) gL_X7_beside rfl rfl rfl hdX7_beside ⟨Nat.le_of_ble_eq_true rfl, Nat.le_of_ble_eq_true rfl⟩ hl.1 rfl (Nat.le_of_ble_eq_true rfl) dL_law_625 ⟨(show _ ≤ 600000 by omega), (show _ ≤ 7302250 by omega)⟩) (fun r1 σ' H locs hw hO => ?_)
  obtain ⟨hσ, hw⟩ := hw
  subst hσ
  refine lv_aload_n hx hb dL_law_628 rfl (lv_at hl 2 rfl) ?_
  refine lv_aload_n hx hb dL_law_629 rfl (lv_at hl 0 rfl) ?_
  refine lv_iload_n hx hb dL_law_630 rfl (lv_at hl 3 rfl) ?_
  refine lv_iconst (v := 1) hx hb dL_law_631 (by decide) ?_
  refine lv_iadd hx hb dL_law_632 ?_
  refine va_sld hx hb hX hbl hbA hO.2.2 (hin 1 (show ¬ ((1 : Int32) < 0 ∨ 6 ≤ (1 : Int32).toNatClampNeg) by decide)) dL_law_633 ?_
  refine lv_aload_n hx hb dL_law_634 rfl (lv_at hl 0 rfl) ?_
  refine lv_iload_n hx hb dL_law_635 rfl (lv_at hl 3 rfl) ?_
  refine lv_iconst (v := 2) hx hb dL_law_636 (by decide) ?_
  refine lv_iadd hx hb dL_law_637 ?_
  refine va_sld hx hb hX hbl hbA hO.2.2 (hin 2 (show ¬ ((2 : Int32) < 0 ∨ 6 ≤ (2 : Int32).toNatClampNeg) by decide)) dL_law_638 ?_
  refine x_calli C0 hO (x_runV (As := [.int (xs (i + 1).toNatClampNeg), .int (xs (i + 2).toNatClampNeg)]) (rest := [.int r1]) C0 hO (kX8_beside l g _ (xs (i + 1).toNatClampNeg) (xs (i + 2).toNatClampNeg) σ _ hw) 2 rfl (xRecv C0 hO (j := 24) rfl rfl) gL_X8_beside rfl rfl rfl hdX8_beside ⟨Nat.le_of_ble_eq_true rfl, Nat.le_of_ble_eq_true rfl⟩ hl.1 rfl (Nat.le_of_ble_eq_true rfl) dL_law_639 ⟨(show _ ≤ 600000 by omega), (show _ ≤ 7302250 by omega)⟩) (fun r2 σ' H locs hw hO => ?_)
  obtain ⟨hσ, hw⟩ := hw
  subst hσ
  obtain ⟨hr, hG⟩ := hw
  refine lv_icmp_eq (tgt := 1375) hx hb dL_law_642 (by decide) (fun c9 => ?_) (fun c9 => absurd hr c9)
  exact kk _ _ _ _ (by omega) hG hO
set_option maxHeartbeats 4000000 in
set_option maxRecDepth 100000 in
theorem lc_13 {p : Program} {l : Launch} {e : Env} {s : State} {m : MethodId} {args : Array Value} {below : List Frame} {meth : Method} {c : Code} {g : XG} {A : Nat → Prop} {Q : State → Prop} {b L : Nat} {xs : Nat → Int32} (C0 : xC g A lw_tbl RL cL_law 4 ret p s m args meth c) (hX : va_X b L xs s s.heap) (hbl : b < s.heap.size) (hbA : ¬ A b) {i : Int32} (hin : ∀ c : Int32, vp_in c 6 → vp_in (i + c) L) (Gd : XS → Prop) {σ : XS} {H : Heap} {locs : List Loc} {ls : Array Slot} {cs : Nat} (hcs : cs + 1000 ≤ 600000) (hO : xO g A s σ H locs) (hl : lv_has ls 4 [(0, .ref b), (1, .ref (xa g 0)), (2, .ref (xa g 24)), (3, .int i)]) (hw : S13 Gd σ)
    (kk : ∀ (σ2 : XS) (H : Heap) (locs : List Loc) (c2 : Nat), c2 ≤ cs + 1000 → Gd σ2 → xO g A s σ2 H locs → W p l e room_1 s m args below meth c H locs c2 c2 Q (F0 m 1375 ls [])) : W p l e room_1 s m args below meth c H locs cs cs Q (F0 m 647 ls []) := by
  have hx := C0.1
  have hb := C0.2.1
  unfold S13 at hw
  refine lv_aload_n hx hb dL_law_647 rfl (lv_at hl 1 rfl) ?_
  refine lv_aload_n hx hb dL_law_648 rfl (lv_at hl 0 rfl) ?_
  refine lv_iload_n hx hb dL_law_649 rfl (lv_at hl 3 rfl) ?_
  refine lv_iconst (v := 1) hx hb dL_law_650 (by decide) ?_
  refine lv_iadd hx hb dL_law_651 ?_
  refine va_sld hx hb hX hbl hbA hO.2.2 (hin 1 (show ¬ ((1 : Int32) < 0 ∨ 6 ≤ (1 : Int32).toNatClampNeg) by decide)) dL_law_652 ?_
  refine lv_aload_n hx hb dL_law_653 rfl (lv_at hl 0 rfl) ?_
  refine lv_iload_n hx hb dL_law_654 rfl (lv_at hl 3 rfl) ?_
  refine lv_iconst (v := 2) hx hb dL_law_655 (by decide) ?_
  refine lv_iadd hx hb dL_law_656 ?_
  refine va_sld hx hb hX hbl hbA hO.2.2 (hin 2 (show ¬ ((2 : Int32) < 0 ∨ 6 ≤ (2 : Int32).toNatClampNeg) by decide)) dL_law_657 ?_
  replace hw := hw (xs (i + 1).toNatClampNeg) (xs (i + 2).toNatClampNeg)
  refine x_calli C0 hO (x_runV (As := [.int (xs (i + 1).toNatClampNeg), .int (xs (i + 2).toNatClampNeg)]) (rest := []) C0 hO (kX7_habit l g _ (xs (i + 1).toNatClampNeg) (xs (i + 2).toNatClampNeg) σ _ hw) 2 rfl (xRecv C0 hO (j := 0) rfl rfl) gL_X7_habit rfl rfl rfl hdX7_habit ⟨Nat.le_of_ble_eq_true rfl, Nat.le_of_ble_eq_true rfl⟩ hl.1 rfl (Nat.le_of_ble_eq_true rfl) dL_law_658 ⟨(show _ ≤ 600000 by omega), (show _ ≤ 7302250 by omega)⟩) (fun r1 σ' H locs hw hO => ?_)
  obtain ⟨hσ, hw⟩ := hw
  subst hσ
  refine lv_aload_n hx hb dL_law_661 rfl (lv_at hl 2 rfl) ?_
  refine lv_aload_n hx hb dL_law_662 rfl (lv_at hl 0 rfl) ?_
  refine lv_iload_n hx hb dL_law_663 rfl (lv_at hl 3 rfl) ?_
  refine lv_iconst (v := 1) hx hb dL_law_664 (by decide) ?_
  refine lv_iadd hx hb dL_law_665 ?_
  refine va_sld hx hb hX hbl hbA hO.2.2 (hin 1 (show ¬ ((1 : Int32) < 0 ∨ 6 ≤ (1 : Int32).toNatClampNeg) by decide)) dL_law_666 ?_
  refine lv_aload_n hx hb dL_law_667 rfl (lv_at hl 0 rfl) ?_
  refine lv_iload_n hx hb dL_law_668 rfl (lv_at hl 3 rfl) ?_
  refine lv_iconst (v := 2) hx hb dL_law_669 (by decide) ?_
  refine lv_iadd hx hb dL_law_670 ?_
  refine va_sld hx hb hX hbl hbA hO.2.2 (hin 2 (show ¬ ((2 : Int32) < 0 ∨ 6 ≤ (2 : Int32).toNatClampNeg) by decide)) dL_law_671 ?_
  refine x_calli C0 hO (x_runV (As := [.int (xs (i + 1).toNatClampNeg), .int (xs (i + 2).toNatClampNeg)]) (rest := [.int r1]) C0 hO (kX8_habit l g _ (xs (i + 1).toNatClampNeg) (xs (i + 2).toNatClampNeg) σ _ hw) 2 rfl (xRecv C0 hO (j := 24) rfl rfl) gL_X8_habit rfl rfl rfl hdX8_habit ⟨Nat.le_of_ble_eq_true rfl, Nat.le_of_ble_eq_true rfl⟩ hl.1 rfl (Nat.le_of_ble_eq_true rfl) dL_law_672 ⟨(show _ ≤ 600000 by omega), (show _ ≤ 7302250 by omega)⟩) (fun r2 σ' H locs hw hO => ?_)
  obtain ⟨hσ, hw⟩ := hw
  subst hσ
  obtain ⟨hr, hG⟩ := hw
  refine lv_icmp_eq (tgt := 1375) hx hb dL_law_675 (by decide) (fun c9 => ?_) (fun c9 => absurd hr c9)
  exact kk _ _ _ _ (by omega) hG hO
set_option maxHeartbeats 4000000 in
set_option maxRecDepth 100000 in
theorem lc_14 {p : Program} {l : Launch} {e : Env} {s : State} {m : MethodId} {args : Array Value} {below : List Frame} {meth : Method} {c : Code} {g : XG} {A : Nat → Prop} {Q : State → Prop} {b L : Nat} {xs : Nat → Int32} (C0 : xC g A lw_tbl RL cL_law 4 ret p s m args meth c) (hX : va_X b L xs s s.heap) (hbl : b < s.heap.size) (hbA : ¬ A b) {i : Int32} (hin : ∀ c : Int32, vp_in c 6 → vp_in (i + c) L) (Gd : XS → Prop) {σ : XS} {H : Heap} {locs : List Loc} {ls : Array Slot} {cs : Nat} (hcs : cs + 1000 ≤ 600000) (hO : xO g A s σ H locs) (hl : lv_has ls 4 [(0, .ref b), (1, .ref (xa g 0)), (2, .ref (xa g 24)), (3, .int i)]) (hw : S14 Gd σ)
    (kk : ∀ (σ2 : XS) (H : Heap) (locs : List Loc) (c2 : Nat), c2 ≤ cs + 1000 → Gd σ2 → xO g A s σ2 H locs → W p l e room_1 s m args below meth c H locs c2 c2 Q (F0 m 1375 ls [])) : W p l e room_1 s m args below meth c H locs cs cs Q (F0 m 680 ls []) := by
  have hx := C0.1
  have hb := C0.2.1
  unfold S14 at hw
  refine lv_aload_n hx hb dL_law_680 rfl (lv_at hl 1 rfl) ?_
  refine lv_aload_n hx hb dL_law_681 rfl (lv_at hl 0 rfl) ?_
  refine lv_iload_n hx hb dL_law_682 rfl (lv_at hl 3 rfl) ?_
  refine lv_iconst (v := 1) hx hb dL_law_683 (by decide) ?_
  refine lv_iadd hx hb dL_law_684 ?_
  refine va_sld hx hb hX hbl hbA hO.2.2 (hin 1 (show ¬ ((1 : Int32) < 0 ∨ 6 ≤ (1 : Int32).toNatClampNeg) by decide)) dL_law_685 ?_
  refine lv_aload_n hx hb dL_law_686 rfl (lv_at hl 0 rfl) ?_
  refine lv_iload_n hx hb dL_law_687 rfl (lv_at hl 3 rfl) ?_
  refine lv_iconst (v := 2) hx hb dL_law_688 (by decide) ?_
  refine lv_iadd hx hb dL_law_689 ?_
  refine va_sld hx hb hX hbl hbA hO.2.2 (hin 2 (show ¬ ((2 : Int32) < 0 ∨ 6 ≤ (2 : Int32).toNatClampNeg) by decide)) dL_law_690 ?_
  replace hw := hw (xs (i + 1).toNatClampNeg) (xs (i + 2).toNatClampNeg)
  refine x_calli C0 hO (x_runV (As := [.int (xs (i + 1).toNatClampNeg), .int (xs (i + 2).toNatClampNeg)]) (rest := []) C0 hO (kX7_makers l g _ (xs (i + 1).toNatClampNeg) (xs (i + 2).toNatClampNeg) σ _ hw) 2 rfl (xRecv C0 hO (j := 0) rfl rfl) gL_X7_makers rfl rfl rfl hdX7_makers ⟨Nat.le_of_ble_eq_true rfl, Nat.le_of_ble_eq_true rfl⟩ hl.1 rfl (Nat.le_of_ble_eq_true rfl) dL_law_691 ⟨(show _ ≤ 600000 by omega), (show _ ≤ 7302250 by omega)⟩) (fun r1 σ' H locs hw hO => ?_)
  obtain ⟨hσ, hw⟩ := hw
  subst hσ
  refine lv_aload_n hx hb dL_law_694 rfl (lv_at hl 2 rfl) ?_
  refine lv_aload_n hx hb dL_law_695 rfl (lv_at hl 0 rfl) ?_
  refine lv_iload_n hx hb dL_law_696 rfl (lv_at hl 3 rfl) ?_
  refine lv_iconst (v := 1) hx hb dL_law_697 (by decide) ?_
  refine lv_iadd hx hb dL_law_698 ?_
  refine va_sld hx hb hX hbl hbA hO.2.2 (hin 1 (show ¬ ((1 : Int32) < 0 ∨ 6 ≤ (1 : Int32).toNatClampNeg) by decide)) dL_law_699 ?_
  refine lv_aload_n hx hb dL_law_700 rfl (lv_at hl 0 rfl) ?_
  refine lv_iload_n hx hb dL_law_701 rfl (lv_at hl 3 rfl) ?_
  refine lv_iconst (v := 2) hx hb dL_law_702 (by decide) ?_
  refine lv_iadd hx hb dL_law_703 ?_
  refine va_sld hx hb hX hbl hbA hO.2.2 (hin 2 (show ¬ ((2 : Int32) < 0 ∨ 6 ≤ (2 : Int32).toNatClampNeg) by decide)) dL_law_704 ?_
  refine x_calli C0 hO (x_runV (As := [.int (xs (i + 1).toNatClampNeg), .int (xs (i + 2).toNatClampNeg)]) (rest := [.int r1]) C0 hO (kX8_makers l g _ (xs (i + 1).toNatClampNeg) (xs (i + 2).toNatClampNeg) σ _ hw) 2 rfl (xRecv C0 hO (j := 24) rfl rfl) gL_X8_makers rfl rfl rfl hdX8_makers ⟨Nat.le_of_ble_eq_true rfl, Nat.le_of_ble_eq_true rfl⟩ hl.1 rfl (Nat.le_of_ble_eq_true rfl) dL_law_705 ⟨(show _ ≤ 600000 by omega), (show _ ≤ 7302250 by omega)⟩) (fun r2 σ' H locs hw hO => ?_)
  obtain ⟨hσ, hw⟩ := hw
  subst hσ
  obtain ⟨hr, hG⟩ := hw
  refine lv_icmp_eq (tgt := 1375) hx hb dL_law_708 (by decide) (fun c9 => ?_) (fun c9 => absurd hr c9)
  exact kk _ _ _ _ (by omega) hG hO
set_option maxHeartbeats 4000000 in
set_option maxRecDepth 100000 in
theorem lc_15 {p : Program} {l : Launch} {e : Env} {s : State} {m : MethodId} {args : Array Value} {below : List Frame} {meth : Method} {c : Code} {g : XG} {A : Nat → Prop} {Q : State → Prop} {b L : Nat} {xs : Nat → Int32} (C0 : xC g A lw_tbl RL cL_law 4 ret p s m args meth c) (hX : va_X b L xs s s.heap) (hbl : b < s.heap.size) (hbA : ¬ A b) {i : Int32} (hin : ∀ c : Int32, vp_in c 6 → vp_in (i + c) L) (Gd : XS → Prop) {σ : XS} {H : Heap} {locs : List Loc} {ls : Array Slot} {cs : Nat} (hcs : cs + 1000 ≤ 600000) (hO : xO g A s σ H locs) (hl : lv_has ls 4 [(0, .ref b), (1, .ref (xa g 0)), (2, .ref (xa g 24)), (3, .int i)]) (hw : S15 Gd σ)
    (kk : ∀ (σ2 : XS) (H : Heap) (locs : List Loc) (c2 : Nat), c2 ≤ cs + 1000 → Gd σ2 → xO g A s σ2 H locs → W p l e room_1 s m args below meth c H locs c2 c2 Q (F0 m 1375 ls [])) : W p l e room_1 s m args below meth c H locs cs cs Q (F0 m 713 ls []) := by
  have hx := C0.1
  have hb := C0.2.1
  unfold S15 at hw
  refine lv_aload_n hx hb dL_law_713 rfl (lv_at hl 1 rfl) ?_
  refine lv_aload_n hx hb dL_law_714 rfl (lv_at hl 0 rfl) ?_
  refine lv_iload_n hx hb dL_law_715 rfl (lv_at hl 3 rfl) ?_
  refine lv_iconst (v := 1) hx hb dL_law_716 (by decide) ?_
  refine lv_iadd hx hb dL_law_717 ?_
  refine va_sld hx hb hX hbl hbA hO.2.2 (hin 1 (show ¬ ((1 : Int32) < 0 ∨ 6 ≤ (1 : Int32).toNatClampNeg) by decide)) dL_law_718 ?_
  refine lv_aload_n hx hb dL_law_719 rfl (lv_at hl 0 rfl) ?_
  refine lv_iload_n hx hb dL_law_720 rfl (lv_at hl 3 rfl) ?_
  refine lv_iconst (v := 2) hx hb dL_law_721 (by decide) ?_
  refine lv_iadd hx hb dL_law_722 ?_
  refine va_sld hx hb hX hbl hbA hO.2.2 (hin 2 (show ¬ ((2 : Int32) < 0 ∨ 6 ≤ (2 : Int32).toNatClampNeg) by decide)) dL_law_723 ?_
  refine lv_aload_n hx hb dL_law_724 rfl (lv_at hl 0 rfl) ?_
  refine lv_iload_n hx hb dL_law_725 rfl (lv_at hl 3 rfl) ?_
  refine lv_iconst (v := 3) hx hb dL_law_726 (by decide) ?_
  refine lv_iadd hx hb dL_law_727 ?_
  refine va_sld hx hb hX hbl hbA hO.2.2 (hin 3 (show ¬ ((3 : Int32) < 0 ∨ 6 ≤ (3 : Int32).toNatClampNeg) by decide)) dL_law_728 ?_
  refine lv_aload_n hx hb dL_law_729 rfl (lv_at hl 0 rfl) ?_
  refine lv_iload_n hx hb dL_law_730 rfl (lv_at hl 3 rfl) ?_
  refine lv_iconst (v := 4) hx hb dL_law_731 (by decide) ?_
  refine lv_iadd hx hb dL_law_732 ?_
  refine va_sld hx hb hX hbl hbA hO.2.2 (hin 4 (show ¬ ((4 : Int32) < 0 ∨ 6 ≤ (4 : Int32).toNatClampNeg) by decide)) dL_law_733 ?_
  replace hw := hw (xs (i + 1).toNatClampNeg) (xs (i + 2).toNatClampNeg) (xs (i + 3).toNatClampNeg) (xs (i + 4).toNatClampNeg)
  refine x_calli C0 hO (x_runV (As := [.int (xs (i + 1).toNatClampNeg), .int (xs (i + 2).toNatClampNeg), .int (xs (i + 3).toNatClampNeg), .int (xs (i + 4).toNatClampNeg)]) (rest := []) C0 hO (kX7_judge l g _ (xs (i + 1).toNatClampNeg) (xs (i + 2).toNatClampNeg) (xs (i + 3).toNatClampNeg) (xs (i + 4).toNatClampNeg) σ _ hw) 4 rfl (xRecv C0 hO (j := 0) rfl rfl) gL_X7_judge rfl rfl rfl hdX7_judge ⟨Nat.le_of_ble_eq_true rfl, Nat.le_of_ble_eq_true rfl⟩ hl.1 rfl (Nat.le_of_ble_eq_true rfl) dL_law_734 ⟨(show _ ≤ 600000 by omega), (show _ ≤ 7302250 by omega)⟩) (fun r1 σ1 H locs hw hO => ?_)
  refine lv_aload_n hx hb dL_law_737 rfl (lv_at hl 2 rfl) ?_
  refine lv_aload_n hx hb dL_law_738 rfl (lv_at hl 0 rfl) ?_
  refine lv_iload_n hx hb dL_law_739 rfl (lv_at hl 3 rfl) ?_
  refine lv_iconst (v := 1) hx hb dL_law_740 (by decide) ?_
  refine lv_iadd hx hb dL_law_741 ?_
  refine va_sld hx hb hX hbl hbA hO.2.2 (hin 1 (show ¬ ((1 : Int32) < 0 ∨ 6 ≤ (1 : Int32).toNatClampNeg) by decide)) dL_law_742 ?_
  refine lv_aload_n hx hb dL_law_743 rfl (lv_at hl 0 rfl) ?_
  refine lv_iload_n hx hb dL_law_744 rfl (lv_at hl 3 rfl) ?_
  refine lv_iconst (v := 2) hx hb dL_law_745 (by decide) ?_
  refine lv_iadd hx hb dL_law_746 ?_
  refine va_sld hx hb hX hbl hbA hO.2.2 (hin 2 (show ¬ ((2 : Int32) < 0 ∨ 6 ≤ (2 : Int32).toNatClampNeg) by decide)) dL_law_747 ?_
  refine lv_aload_n hx hb dL_law_748 rfl (lv_at hl 0 rfl) ?_
  refine lv_iload_n hx hb dL_law_749 rfl (lv_at hl 3 rfl) ?_
  refine lv_iconst (v := 3) hx hb dL_law_750 (by decide) ?_
  refine lv_iadd hx hb dL_law_751 ?_
  refine va_sld hx hb hX hbl hbA hO.2.2 (hin 3 (show ¬ ((3 : Int32) < 0 ∨ 6 ≤ (3 : Int32).toNatClampNeg) by decide)) dL_law_752 ?_
  refine lv_aload_n hx hb dL_law_753 rfl (lv_at hl 0 rfl) ?_
  refine lv_iload_n hx hb dL_law_754 rfl (lv_at hl 3 rfl) ?_
  refine lv_iconst (v := 4) hx hb dL_law_755 (by decide) ?_
  refine lv_iadd hx hb dL_law_756 ?_
  refine va_sld hx hb hX hbl hbA hO.2.2 (hin 4 (show ¬ ((4 : Int32) < 0 ∨ 6 ≤ (4 : Int32).toNatClampNeg) by decide)) dL_law_757 ?_
  refine x_calli C0 hO (x_runV (As := [.int (xs (i + 1).toNatClampNeg), .int (xs (i + 2).toNatClampNeg), .int (xs (i + 3).toNatClampNeg), .int (xs (i + 4).toNatClampNeg)]) (rest := [.int r1]) C0 hO (kX8_judge l g _ (xs (i + 1).toNatClampNeg) (xs (i + 2).toNatClampNeg) (xs (i + 3).toNatClampNeg) (xs (i + 4).toNatClampNeg) σ1 _ hw) 4 rfl (xRecv C0 hO (j := 24) rfl rfl) gL_X8_judge rfl rfl rfl hdX8_judge ⟨Nat.le_of_ble_eq_true rfl, Nat.le_of_ble_eq_true rfl⟩ hl.1 rfl (Nat.le_of_ble_eq_true rfl) dL_law_758 ⟨(show _ ≤ 600000 by omega), (show _ ≤ 7302250 by omega)⟩) (fun r2 σ2 H locs hw hO => ?_)
  obtain ⟨hr, hG⟩ := hw
  refine lv_icmp_eq (tgt := 1375) hx hb dL_law_761 (by decide) (fun c9 => ?_) (fun c9 => absurd hr c9)
  exact kk _ _ _ _ (by omega) hG hO
set_option maxHeartbeats 4000000 in
set_option maxRecDepth 100000 in
theorem lc_16 {p : Program} {l : Launch} {e : Env} {s : State} {m : MethodId} {args : Array Value} {below : List Frame} {meth : Method} {c : Code} {g : XG} {A : Nat → Prop} {Q : State → Prop} {b L : Nat} {xs : Nat → Int32} (C0 : xC g A lw_tbl RL cL_law 4 ret p s m args meth c) (hX : va_X b L xs s s.heap) (hbl : b < s.heap.size) (hbA : ¬ A b) {i : Int32} (hin : ∀ c : Int32, vp_in c 6 → vp_in (i + c) L) (Gd : XS → Prop) {σ : XS} {H : Heap} {locs : List Loc} {ls : Array Slot} {cs : Nat} (hcs : cs + 1000 ≤ 600000) (hO : xO g A s σ H locs) (hl : lv_has ls 4 [(0, .ref b), (1, .ref (xa g 0)), (2, .ref (xa g 24)), (3, .int i)]) (hw : S16 Gd σ)
    (kk : ∀ (σ2 : XS) (H : Heap) (locs : List Loc) (c2 : Nat), c2 ≤ cs + 1000 → Gd σ2 → xO g A s σ2 H locs → W p l e room_1 s m args below meth c H locs c2 c2 Q (F0 m 1375 ls [])) : W p l e room_1 s m args below meth c H locs cs cs Q (F0 m 766 ls []) := by
  have hx := C0.1
  have hb := C0.2.1
  unfold S16 at hw
  refine lv_aload_n hx hb dL_law_766 rfl (lv_at hl 1 rfl) ?_
  refine lv_aload_n hx hb dL_law_767 rfl (lv_at hl 0 rfl) ?_
  refine lv_iload_n hx hb dL_law_768 rfl (lv_at hl 3 rfl) ?_
  refine lv_iconst (v := 1) hx hb dL_law_769 (by decide) ?_
  refine lv_iadd hx hb dL_law_770 ?_
  refine va_sld hx hb hX hbl hbA hO.2.2 (hin 1 (show ¬ ((1 : Int32) < 0 ∨ 6 ≤ (1 : Int32).toNatClampNeg) by decide)) dL_law_771 ?_
  refine lv_aload_n hx hb dL_law_772 rfl (lv_at hl 0 rfl) ?_
  refine lv_iload_n hx hb dL_law_773 rfl (lv_at hl 3 rfl) ?_
  refine lv_iconst (v := 2) hx hb dL_law_774 (by decide) ?_
  refine lv_iadd hx hb dL_law_775 ?_
  refine va_sld hx hb hX hbl hbA hO.2.2 (hin 2 (show ¬ ((2 : Int32) < 0 ∨ 6 ≤ (2 : Int32).toNatClampNeg) by decide)) dL_law_776 ?_
  refine lv_aload_n hx hb dL_law_777 rfl (lv_at hl 0 rfl) ?_
  refine lv_iload_n hx hb dL_law_778 rfl (lv_at hl 3 rfl) ?_
  refine lv_iconst (v := 3) hx hb dL_law_779 (by decide) ?_
  refine lv_iadd hx hb dL_law_780 ?_
  refine va_sld hx hb hX hbl hbA hO.2.2 (hin 3 (show ¬ ((3 : Int32) < 0 ∨ 6 ≤ (3 : Int32).toNatClampNeg) by decide)) dL_law_781 ?_
  refine lv_aload_n hx hb dL_law_782 rfl (lv_at hl 0 rfl) ?_
  refine lv_iload_n hx hb dL_law_783 rfl (lv_at hl 3 rfl) ?_
  refine lv_iconst (v := 4) hx hb dL_law_784 (by decide) ?_
  refine lv_iadd hx hb dL_law_785 ?_
  refine va_sld hx hb hX hbl hbA hO.2.2 (hin 4 (show ¬ ((4 : Int32) < 0 ∨ 6 ≤ (4 : Int32).toNatClampNeg) by decide)) dL_law_786 ?_
  replace hw := hw (xs (i + 1).toNatClampNeg) (xs (i + 2).toNatClampNeg) (xs (i + 3).toNatClampNeg) (xs (i + 4).toNatClampNeg)
  refine x_calli C0 hO (x_runV (As := [.int (xs (i + 1).toNatClampNeg), .int (xs (i + 2).toNatClampNeg), .int (xs (i + 3).toNatClampNeg), .int (xs (i + 4).toNatClampNeg)]) (rest := []) C0 hO (kX7_reading l g _ (xs (i + 1).toNatClampNeg) (xs (i + 2).toNatClampNeg) (xs (i + 3).toNatClampNeg) (xs (i + 4).toNatClampNeg) σ _ hw) 4 rfl (xRecv C0 hO (j := 0) rfl rfl) gL_X7_reading rfl rfl rfl hdX7_reading ⟨Nat.le_of_ble_eq_true rfl, Nat.le_of_ble_eq_true rfl⟩ hl.1 rfl (Nat.le_of_ble_eq_true rfl) dL_law_787 ⟨(show _ ≤ 600000 by omega), (show _ ≤ 7302250 by omega)⟩) (fun r1 σ1 H locs hw hO => ?_)
  refine lv_aload_n hx hb dL_law_790 rfl (lv_at hl 2 rfl) ?_
  refine lv_aload_n hx hb dL_law_791 rfl (lv_at hl 0 rfl) ?_
  refine lv_iload_n hx hb dL_law_792 rfl (lv_at hl 3 rfl) ?_
  refine lv_iconst (v := 1) hx hb dL_law_793 (by decide) ?_
  refine lv_iadd hx hb dL_law_794 ?_
  refine va_sld hx hb hX hbl hbA hO.2.2 (hin 1 (show ¬ ((1 : Int32) < 0 ∨ 6 ≤ (1 : Int32).toNatClampNeg) by decide)) dL_law_795 ?_
  refine lv_aload_n hx hb dL_law_796 rfl (lv_at hl 0 rfl) ?_
  refine lv_iload_n hx hb dL_law_797 rfl (lv_at hl 3 rfl) ?_
  refine lv_iconst (v := 2) hx hb dL_law_798 (by decide) ?_
  refine lv_iadd hx hb dL_law_799 ?_
  refine va_sld hx hb hX hbl hbA hO.2.2 (hin 2 (show ¬ ((2 : Int32) < 0 ∨ 6 ≤ (2 : Int32).toNatClampNeg) by decide)) dL_law_800 ?_
  refine lv_aload_n hx hb dL_law_801 rfl (lv_at hl 0 rfl) ?_
  refine lv_iload_n hx hb dL_law_802 rfl (lv_at hl 3 rfl) ?_
  refine lv_iconst (v := 3) hx hb dL_law_803 (by decide) ?_
  refine lv_iadd hx hb dL_law_804 ?_
  refine va_sld hx hb hX hbl hbA hO.2.2 (hin 3 (show ¬ ((3 : Int32) < 0 ∨ 6 ≤ (3 : Int32).toNatClampNeg) by decide)) dL_law_805 ?_
  refine lv_aload_n hx hb dL_law_806 rfl (lv_at hl 0 rfl) ?_
  refine lv_iload_n hx hb dL_law_807 rfl (lv_at hl 3 rfl) ?_
  refine lv_iconst (v := 4) hx hb dL_law_808 (by decide) ?_
  refine lv_iadd hx hb dL_law_809 ?_
  refine va_sld hx hb hX hbl hbA hO.2.2 (hin 4 (show ¬ ((4 : Int32) < 0 ∨ 6 ≤ (4 : Int32).toNatClampNeg) by decide)) dL_law_810 ?_
  refine x_calli C0 hO (x_runV (As := [.int (xs (i + 1).toNatClampNeg), .int (xs (i + 2).toNatClampNeg), .int (xs (i + 3).toNatClampNeg), .int (xs (i + 4).toNatClampNeg)]) (rest := [.int r1]) C0 hO (kX8_reading l g _ (xs (i + 1).toNatClampNeg) (xs (i + 2).toNatClampNeg) (xs (i + 3).toNatClampNeg) (xs (i + 4).toNatClampNeg) σ1 _ hw) 4 rfl (xRecv C0 hO (j := 24) rfl rfl) gL_X8_reading rfl rfl rfl hdX8_reading ⟨Nat.le_of_ble_eq_true rfl, Nat.le_of_ble_eq_true rfl⟩ hl.1 rfl (Nat.le_of_ble_eq_true rfl) dL_law_811 ⟨(show _ ≤ 600000 by omega), (show _ ≤ 7302250 by omega)⟩) (fun r2 σ2 H locs hw hO => ?_)
  obtain ⟨hr, hG⟩ := hw
  refine lv_icmp_eq (tgt := 1375) hx hb dL_law_814 (by decide) (fun c9 => ?_) (fun c9 => absurd hr c9)
  exact kk _ _ _ _ (by omega) hG hO
set_option maxHeartbeats 4000000 in
set_option maxRecDepth 100000 in
theorem lc_17 {p : Program} {l : Launch} {e : Env} {s : State} {m : MethodId} {args : Array Value} {below : List Frame} {meth : Method} {c : Code} {g : XG} {A : Nat → Prop} {Q : State → Prop} {b L : Nat} {xs : Nat → Int32} (C0 : xC g A lw_tbl RL cL_law 4 ret p s m args meth c) (hX : va_X b L xs s s.heap) (hbl : b < s.heap.size) (hbA : ¬ A b) {i : Int32} (hin : ∀ c : Int32, vp_in c 6 → vp_in (i + c) L) (Gd : XS → Prop) {σ : XS} {H : Heap} {locs : List Loc} {ls : Array Slot} {cs : Nat} (hcs : cs + 1000 ≤ 600000) (hO : xO g A s σ H locs) (hl : lv_has ls 4 [(0, .ref b), (1, .ref (xa g 0)), (2, .ref (xa g 24)), (3, .int i)]) (hw : S17 Gd σ)
    (kk : ∀ (σ2 : XS) (H : Heap) (locs : List Loc) (c2 : Nat), c2 ≤ cs + 1000 → Gd σ2 → xO g A s σ2 H locs → W p l e room_1 s m args below meth c H locs c2 c2 Q (F0 m 1375 ls [])) : W p l e room_1 s m args below meth c H locs cs cs Q (F0 m 819 ls []) := by
  have hx := C0.1
  have hb := C0.2.1
  unfold S17 at hw
  refine lv_aload_n hx hb dL_law_819 rfl (lv_at hl 1 rfl) ?_
  refine lv_aload_n hx hb dL_law_820 rfl (lv_at hl 0 rfl) ?_
  refine lv_iload_n hx hb dL_law_821 rfl (lv_at hl 3 rfl) ?_
  refine lv_iconst (v := 1) hx hb dL_law_822 (by decide) ?_
  refine lv_iadd hx hb dL_law_823 ?_
  refine va_sld hx hb hX hbl hbA hO.2.2 (hin 1 (show ¬ ((1 : Int32) < 0 ∨ 6 ≤ (1 : Int32).toNatClampNeg) by decide)) dL_law_824 ?_
  replace hw := hw (xs (i + 1).toNatClampNeg)
  refine x_calli C0 hO (x_runV (As := [.int (xs (i + 1).toNatClampNeg)]) (rest := []) C0 hO (kX7_back l g _ (xs (i + 1).toNatClampNeg) σ _ hw) 1 rfl (xRecv C0 hO (j := 0) rfl rfl) gL_X7_back rfl rfl rfl hdX7_back ⟨Nat.le_of_ble_eq_true rfl, Nat.le_of_ble_eq_true rfl⟩ hl.1 rfl (Nat.le_of_ble_eq_true rfl) dL_law_825 ⟨(show _ ≤ 600000 by omega), (show _ ≤ 7302250 by omega)⟩) (fun r1 σ1 H locs hw hO => ?_)
  refine lv_aload_n hx hb dL_law_828 rfl (lv_at hl 2 rfl) ?_
  refine lv_aload_n hx hb dL_law_829 rfl (lv_at hl 0 rfl) ?_
  refine lv_iload_n hx hb dL_law_830 rfl (lv_at hl 3 rfl) ?_
  refine lv_iconst (v := 1) hx hb dL_law_831 (by decide) ?_
  refine lv_iadd hx hb dL_law_832 ?_
  refine va_sld hx hb hX hbl hbA hO.2.2 (hin 1 (show ¬ ((1 : Int32) < 0 ∨ 6 ≤ (1 : Int32).toNatClampNeg) by decide)) dL_law_833 ?_
  refine x_calli C0 hO (x_runV (As := [.int (xs (i + 1).toNatClampNeg)]) (rest := [.int r1]) C0 hO (kX8_back l g _ (xs (i + 1).toNatClampNeg) σ1 _ hw) 1 rfl (xRecv C0 hO (j := 24) rfl rfl) gL_X8_back rfl rfl rfl hdX8_back ⟨Nat.le_of_ble_eq_true rfl, Nat.le_of_ble_eq_true rfl⟩ hl.1 rfl (Nat.le_of_ble_eq_true rfl) dL_law_834 ⟨(show _ ≤ 600000 by omega), (show _ ≤ 7302250 by omega)⟩) (fun r2 σ2 H locs hw hO => ?_)
  obtain ⟨hr, hG⟩ := hw
  refine lv_icmp_eq (tgt := 1375) hx hb dL_law_837 (by decide) (fun c9 => ?_) (fun c9 => absurd hr c9)
  exact kk _ _ _ _ (by omega) hG hO
set_option maxHeartbeats 4000000 in
set_option maxRecDepth 100000 in
theorem lc_18 {p : Program} {l : Launch} {e : Env} {s : State} {m : MethodId} {args : Array Value} {below : List Frame} {meth : Method} {c : Code} {g : XG} {A : Nat → Prop} {Q : State → Prop} {b L : Nat} {xs : Nat → Int32} (C0 : xC g A lw_tbl RL cL_law 4 ret p s m args meth c) (hX : va_X b L xs s s.heap) (hbl : b < s.heap.size) (hbA : ¬ A b) {i : Int32} (hin : ∀ c : Int32, vp_in c 6 → vp_in (i + c) L) (Gd : XS → Prop) {σ : XS} {H : Heap} {locs : List Loc} {ls : Array Slot} {cs : Nat} (hcs : cs + 1000 ≤ 600000) (hO : xO g A s σ H locs) (hl : lv_has ls 4 [(0, .ref b), (1, .ref (xa g 0)), (2, .ref (xa g 24)), (3, .int i)]) (hw : S18 Gd σ)
    (kk : ∀ (σ2 : XS) (H : Heap) (locs : List Loc) (c2 : Nat), c2 ≤ cs + 1000 → Gd σ2 → xO g A s σ2 H locs → W p l e room_1 s m args below meth c H locs c2 c2 Q (F0 m 1375 ls [])) : W p l e room_1 s m args below meth c H locs cs cs Q (F0 m 842 ls []) := by
  have hx := C0.1
  have hb := C0.2.1
  unfold S18 at hw
  refine lv_aload_n hx hb dL_law_842 rfl (lv_at hl 1 rfl) ?_
  refine lv_aload_n hx hb dL_law_843 rfl (lv_at hl 0 rfl) ?_
  refine lv_iload_n hx hb dL_law_844 rfl (lv_at hl 3 rfl) ?_
  refine lv_iconst (v := 1) hx hb dL_law_845 (by decide) ?_
  refine lv_iadd hx hb dL_law_846 ?_
  refine va_sld hx hb hX hbl hbA hO.2.2 (hin 1 (show ¬ ((1 : Int32) < 0 ∨ 6 ≤ (1 : Int32).toNatClampNeg) by decide)) dL_law_847 ?_
  refine lv_aload_n hx hb dL_law_848 rfl (lv_at hl 0 rfl) ?_
  refine lv_iload_n hx hb dL_law_849 rfl (lv_at hl 3 rfl) ?_
  refine lv_iconst (v := 2) hx hb dL_law_850 (by decide) ?_
  refine lv_iadd hx hb dL_law_851 ?_
  refine va_sld hx hb hX hbl hbA hO.2.2 (hin 2 (show ¬ ((2 : Int32) < 0 ∨ 6 ≤ (2 : Int32).toNatClampNeg) by decide)) dL_law_852 ?_
  replace hw := hw (xs (i + 1).toNatClampNeg) (xs (i + 2).toNatClampNeg)
  refine x_calli C0 hO (x_runV (As := [.int (xs (i + 1).toNatClampNeg), .int (xs (i + 2).toNatClampNeg)]) (rest := []) C0 hO (kX7_sat l g _ (xs (i + 1).toNatClampNeg) (xs (i + 2).toNatClampNeg) σ _ hw) 2 rfl (xRecv C0 hO (j := 0) rfl rfl) gL_X7_sat rfl rfl rfl hdX7_sat ⟨Nat.le_of_ble_eq_true rfl, Nat.le_of_ble_eq_true rfl⟩ hl.1 rfl (Nat.le_of_ble_eq_true rfl) dL_law_853 ⟨(show _ ≤ 600000 by omega), (show _ ≤ 7302250 by omega)⟩) (fun r1 σ1 H locs hw hO => ?_)
  refine lv_aload_n hx hb dL_law_856 rfl (lv_at hl 2 rfl) ?_
  refine lv_aload_n hx hb dL_law_857 rfl (lv_at hl 0 rfl) ?_
  refine lv_iload_n hx hb dL_law_858 rfl (lv_at hl 3 rfl) ?_
  refine lv_iconst (v := 1) hx hb dL_law_859 (by decide) ?_
  refine lv_iadd hx hb dL_law_860 ?_
  refine va_sld hx hb hX hbl hbA hO.2.2 (hin 1 (show ¬ ((1 : Int32) < 0 ∨ 6 ≤ (1 : Int32).toNatClampNeg) by decide)) dL_law_861 ?_
  refine lv_aload_n hx hb dL_law_862 rfl (lv_at hl 0 rfl) ?_
  refine lv_iload_n hx hb dL_law_863 rfl (lv_at hl 3 rfl) ?_
  refine lv_iconst (v := 2) hx hb dL_law_864 (by decide) ?_
  refine lv_iadd hx hb dL_law_865 ?_
  refine va_sld hx hb hX hbl hbA hO.2.2 (hin 2 (show ¬ ((2 : Int32) < 0 ∨ 6 ≤ (2 : Int32).toNatClampNeg) by decide)) dL_law_866 ?_
  refine x_calli C0 hO (x_runV (As := [.int (xs (i + 1).toNatClampNeg), .int (xs (i + 2).toNatClampNeg)]) (rest := [.int r1]) C0 hO (kX8_sat l g _ (xs (i + 1).toNatClampNeg) (xs (i + 2).toNatClampNeg) σ1 _ hw) 2 rfl (xRecv C0 hO (j := 24) rfl rfl) gL_X8_sat rfl rfl rfl hdX8_sat ⟨Nat.le_of_ble_eq_true rfl, Nat.le_of_ble_eq_true rfl⟩ hl.1 rfl (Nat.le_of_ble_eq_true rfl) dL_law_867 ⟨(show _ ≤ 600000 by omega), (show _ ≤ 7302250 by omega)⟩) (fun r2 σ2 H locs hw hO => ?_)
  obtain ⟨hr, hG⟩ := hw
  refine lv_icmp_eq (tgt := 1375) hx hb dL_law_870 (by decide) (fun c9 => ?_) (fun c9 => absurd hr c9)
  exact kk _ _ _ _ (by omega) hG hO
set_option maxHeartbeats 4000000 in
set_option maxRecDepth 100000 in
theorem lc_19 {p : Program} {l : Launch} {e : Env} {s : State} {m : MethodId} {args : Array Value} {below : List Frame} {meth : Method} {c : Code} {g : XG} {A : Nat → Prop} {Q : State → Prop} {b L : Nat} {xs : Nat → Int32} (C0 : xC g A lw_tbl RL cL_law 4 ret p s m args meth c) (hX : va_X b L xs s s.heap) (hbl : b < s.heap.size) (hbA : ¬ A b) {i : Int32} (hin : ∀ c : Int32, vp_in c 6 → vp_in (i + c) L) (Gd : XS → Prop) {σ : XS} {H : Heap} {locs : List Loc} {ls : Array Slot} {cs : Nat} (hcs : cs + 1000 ≤ 600000) (hO : xO g A s σ H locs) (hl : lv_has ls 4 [(0, .ref b), (1, .ref (xa g 0)), (2, .ref (xa g 24)), (3, .int i)]) (hw : S19 Gd σ)
    (kk : ∀ (σ2 : XS) (H : Heap) (locs : List Loc) (c2 : Nat), c2 ≤ cs + 1000 → Gd σ2 → xO g A s σ2 H locs → W p l e room_1 s m args below meth c H locs c2 c2 Q (F0 m 1375 ls [])) : W p l e room_1 s m args below meth c H locs cs cs Q (F0 m 875 ls []) := by
  have hx := C0.1
  have hb := C0.2.1
  unfold S19 at hw
  refine lv_aload_n hx hb dL_law_875 rfl (lv_at hl 1 rfl) ?_
  refine lv_aload_n hx hb dL_law_876 rfl (lv_at hl 0 rfl) ?_
  refine lv_iload_n hx hb dL_law_877 rfl (lv_at hl 3 rfl) ?_
  refine lv_iconst (v := 1) hx hb dL_law_878 (by decide) ?_
  refine lv_iadd hx hb dL_law_879 ?_
  refine va_sld hx hb hX hbl hbA hO.2.2 (hin 1 (show ¬ ((1 : Int32) < 0 ∨ 6 ≤ (1 : Int32).toNatClampNeg) by decide)) dL_law_880 ?_
  replace hw := hw (xs (i + 1).toNatClampNeg)
  refine x_calli C0 hO (x_runV (As := [.int (xs (i + 1).toNatClampNeg)]) (rest := []) C0 hO (kX7_moved l g _ (xs (i + 1).toNatClampNeg) σ _ hw) 1 rfl (xRecv C0 hO (j := 0) rfl rfl) gL_X7_moved rfl rfl rfl hdX7_moved ⟨Nat.le_of_ble_eq_true rfl, Nat.le_of_ble_eq_true rfl⟩ hl.1 rfl (Nat.le_of_ble_eq_true rfl) dL_law_881 ⟨(show _ ≤ 600000 by omega), (show _ ≤ 7302250 by omega)⟩) (fun r1 σ1 H locs hw hO => ?_)
  refine lv_aload_n hx hb dL_law_884 rfl (lv_at hl 2 rfl) ?_
  refine lv_aload_n hx hb dL_law_885 rfl (lv_at hl 0 rfl) ?_
  refine lv_iload_n hx hb dL_law_886 rfl (lv_at hl 3 rfl) ?_
  refine lv_iconst (v := 1) hx hb dL_law_887 (by decide) ?_
  refine lv_iadd hx hb dL_law_888 ?_
  refine va_sld hx hb hX hbl hbA hO.2.2 (hin 1 (show ¬ ((1 : Int32) < 0 ∨ 6 ≤ (1 : Int32).toNatClampNeg) by decide)) dL_law_889 ?_
  refine x_calli C0 hO (x_runV (As := [.int (xs (i + 1).toNatClampNeg)]) (rest := [.int r1]) C0 hO (kX8_moved l g _ (xs (i + 1).toNatClampNeg) σ1 _ hw) 1 rfl (xRecv C0 hO (j := 24) rfl rfl) gL_X8_moved rfl rfl rfl hdX8_moved ⟨Nat.le_of_ble_eq_true rfl, Nat.le_of_ble_eq_true rfl⟩ hl.1 rfl (Nat.le_of_ble_eq_true rfl) dL_law_890 ⟨(show _ ≤ 600000 by omega), (show _ ≤ 7302250 by omega)⟩) (fun r2 σ2 H locs hw hO => ?_)
  obtain ⟨hr, hG⟩ := hw
  refine lv_icmp_eq (tgt := 1375) hx hb dL_law_893 (by decide) (fun c9 => ?_) (fun c9 => absurd hr c9)
  exact kk _ _ _ _ (by omega) hG hO
set_option maxHeartbeats 4000000 in
set_option maxRecDepth 100000 in
theorem lc_20 {p : Program} {l : Launch} {e : Env} {s : State} {m : MethodId} {args : Array Value} {below : List Frame} {meth : Method} {c : Code} {g : XG} {A : Nat → Prop} {Q : State → Prop} {b L : Nat} {xs : Nat → Int32} (C0 : xC g A lw_tbl RL cL_law 4 ret p s m args meth c) (hX : va_X b L xs s s.heap) (hbl : b < s.heap.size) (hbA : ¬ A b) {i : Int32} (hin : ∀ c : Int32, vp_in c 6 → vp_in (i + c) L) (Gd : XS → Prop) {σ : XS} {H : Heap} {locs : List Loc} {ls : Array Slot} {cs : Nat} (hcs : cs + 1000 ≤ 600000) (hO : xO g A s σ H locs) (hl : lv_has ls 4 [(0, .ref b), (1, .ref (xa g 0)), (2, .ref (xa g 24)), (3, .int i)]) (hw : S20 Gd σ)
    (kk : ∀ (σ2 : XS) (H : Heap) (locs : List Loc) (c2 : Nat), c2 ≤ cs + 1000 → Gd σ2 → xO g A s σ2 H locs → W p l e room_1 s m args below meth c H locs c2 c2 Q (F0 m 1375 ls [])) : W p l e room_1 s m args below meth c H locs cs cs Q (F0 m 898 ls []) := by
  have hx := C0.1
  have hb := C0.2.1
  unfold S20 at hw
  refine lv_aload_n hx hb dL_law_898 rfl (lv_at hl 1 rfl) ?_
  refine lv_aload_n hx hb dL_law_899 rfl (lv_at hl 0 rfl) ?_
  refine lv_iload_n hx hb dL_law_900 rfl (lv_at hl 3 rfl) ?_
  refine lv_iconst (v := 1) hx hb dL_law_901 (by decide) ?_
  refine lv_iadd hx hb dL_law_902 ?_
  refine va_sld hx hb hX hbl hbA hO.2.2 (hin 1 (show ¬ ((1 : Int32) < 0 ∨ 6 ≤ (1 : Int32).toNatClampNeg) by decide)) dL_law_903 ?_
  replace hw := hw (xs (i + 1).toNatClampNeg)
  refine x_calli C0 hO (x_runV (As := [.int (xs (i + 1).toNatClampNeg)]) (rest := []) C0 hO (kX7_scraped l g _ (xs (i + 1).toNatClampNeg) σ _ hw) 1 rfl (xRecv C0 hO (j := 0) rfl rfl) gL_X7_scraped rfl rfl rfl hdX7_scraped ⟨Nat.le_of_ble_eq_true rfl, Nat.le_of_ble_eq_true rfl⟩ hl.1 rfl (Nat.le_of_ble_eq_true rfl) dL_law_904 ⟨(show _ ≤ 600000 by omega), (show _ ≤ 7302250 by omega)⟩) (fun r1 σ1 H locs hw hO => ?_)
  refine lv_aload_n hx hb dL_law_907 rfl (lv_at hl 2 rfl) ?_
  refine lv_aload_n hx hb dL_law_908 rfl (lv_at hl 0 rfl) ?_
  refine lv_iload_n hx hb dL_law_909 rfl (lv_at hl 3 rfl) ?_
  refine lv_iconst (v := 1) hx hb dL_law_910 (by decide) ?_
  refine lv_iadd hx hb dL_law_911 ?_
  refine va_sld hx hb hX hbl hbA hO.2.2 (hin 1 (show ¬ ((1 : Int32) < 0 ∨ 6 ≤ (1 : Int32).toNatClampNeg) by decide)) dL_law_912 ?_
  refine x_calli C0 hO (x_runV (As := [.int (xs (i + 1).toNatClampNeg)]) (rest := [.int r1]) C0 hO (kX8_scraped l g _ (xs (i + 1).toNatClampNeg) σ1 _ hw) 1 rfl (xRecv C0 hO (j := 24) rfl rfl) gL_X8_scraped rfl rfl rfl hdX8_scraped ⟨Nat.le_of_ble_eq_true rfl, Nat.le_of_ble_eq_true rfl⟩ hl.1 rfl (Nat.le_of_ble_eq_true rfl) dL_law_913 ⟨(show _ ≤ 600000 by omega), (show _ ≤ 7302250 by omega)⟩) (fun r2 σ2 H locs hw hO => ?_)
  obtain ⟨hr, hG⟩ := hw
  refine lv_icmp_eq (tgt := 1375) hx hb dL_law_916 (by decide) (fun c9 => ?_) (fun c9 => absurd hr c9)
  exact kk _ _ _ _ (by omega) hG hO
set_option maxHeartbeats 4000000 in
set_option maxRecDepth 100000 in
theorem lc_21 {p : Program} {l : Launch} {e : Env} {s : State} {m : MethodId} {args : Array Value} {below : List Frame} {meth : Method} {c : Code} {g : XG} {A : Nat → Prop} {Q : State → Prop} {b L : Nat} {xs : Nat → Int32} (C0 : xC g A lw_tbl RL cL_law 4 ret p s m args meth c) (hX : va_X b L xs s s.heap) (hbl : b < s.heap.size) (hbA : ¬ A b) {i : Int32} (hin : ∀ c : Int32, vp_in c 6 → vp_in (i + c) L) (Gd : XS → Prop) {σ : XS} {H : Heap} {locs : List Loc} {ls : Array Slot} {cs : Nat} (hcs : cs + 1000 ≤ 600000) (hO : xO g A s σ H locs) (hl : lv_has ls 4 [(0, .ref b), (1, .ref (xa g 0)), (2, .ref (xa g 24)), (3, .int i)]) (hw : S21 Gd σ)
    (kk : ∀ (σ2 : XS) (H : Heap) (locs : List Loc) (c2 : Nat), c2 ≤ cs + 1000 → Gd σ2 → xO g A s σ2 H locs → W p l e room_1 s m args below meth c H locs c2 c2 Q (F0 m 1375 ls [])) : W p l e room_1 s m args below meth c H locs cs cs Q (F0 m 921 ls []) := by
  have hx := C0.1
  have hb := C0.2.1
  unfold S21 at hw
  refine lv_aload_n hx hb dL_law_921 rfl (lv_at hl 1 rfl) ?_
  refine x_calli C0 hO (x_runV (As := []) (rest := []) C0 hO (kX7_never l g _  σ _ hw) 0 rfl (xRecv C0 hO (j := 0) rfl rfl) gL_X7_never rfl rfl rfl hdX7_never ⟨Nat.le_of_ble_eq_true rfl, Nat.le_of_ble_eq_true rfl⟩ hl.1 rfl (Nat.le_of_ble_eq_true rfl) dL_law_922 ⟨(show _ ≤ 600000 by omega), (show _ ≤ 7302250 by omega)⟩) (fun r1 σ1 H locs hw hO => ?_)
  refine lv_aload_n hx hb dL_law_925 rfl (lv_at hl 2 rfl) ?_
  refine x_calli C0 hO (x_runV (As := []) (rest := [.int r1]) C0 hO (kX8_never l g _  σ1 _ hw) 0 rfl (xRecv C0 hO (j := 24) rfl rfl) gL_X8_never rfl rfl rfl hdX8_never ⟨Nat.le_of_ble_eq_true rfl, Nat.le_of_ble_eq_true rfl⟩ hl.1 rfl (Nat.le_of_ble_eq_true rfl) dL_law_926 ⟨(show _ ≤ 600000 by omega), (show _ ≤ 7302250 by omega)⟩) (fun r2 σ2 H locs hw hO => ?_)
  obtain ⟨hr, hG⟩ := hw
  refine lv_icmp_eq (tgt := 1375) hx hb dL_law_929 (by decide) (fun c9 => ?_) (fun c9 => absurd hr c9)
  exact kk _ _ _ _ (by omega) hG hO
set_option maxHeartbeats 4000000 in
set_option maxRecDepth 100000 in
theorem lc_22 {p : Program} {l : Launch} {e : Env} {s : State} {m : MethodId} {args : Array Value} {below : List Frame} {meth : Method} {c : Code} {g : XG} {A : Nat → Prop} {Q : State → Prop} {b L : Nat} {xs : Nat → Int32} (C0 : xC g A lw_tbl RL cL_law 4 ret p s m args meth c) (hX : va_X b L xs s s.heap) (hbl : b < s.heap.size) (hbA : ¬ A b) {i : Int32} (hin : ∀ c : Int32, vp_in c 6 → vp_in (i + c) L) (Gd : XS → Prop) {σ : XS} {H : Heap} {locs : List Loc} {ls : Array Slot} {cs : Nat} (hcs : cs + 1000 ≤ 600000) (hO : xO g A s σ H locs) (hl : lv_has ls 4 [(0, .ref b), (1, .ref (xa g 0)), (2, .ref (xa g 24)), (3, .int i)]) (hw : S22 Gd σ)
    (kk : ∀ (σ2 : XS) (H : Heap) (locs : List Loc) (c2 : Nat), c2 ≤ cs + 1000 → Gd σ2 → xO g A s σ2 H locs → W p l e room_1 s m args below meth c H locs c2 c2 Q (F0 m 1375 ls [])) : W p l e room_1 s m args below meth c H locs cs cs Q (F0 m 934 ls []) := by
  have hx := C0.1
  have hb := C0.2.1
  unfold S22 at hw
  refine lv_aload_n hx hb dL_law_934 rfl (lv_at hl 1 rfl) ?_
  refine lv_aload_n hx hb dL_law_935 rfl (lv_at hl 0 rfl) ?_
  refine lv_iload_n hx hb dL_law_936 rfl (lv_at hl 3 rfl) ?_
  refine lv_iconst (v := 1) hx hb dL_law_937 (by decide) ?_
  refine lv_iadd hx hb dL_law_938 ?_
  refine va_sld hx hb hX hbl hbA hO.2.2 (hin 1 (show ¬ ((1 : Int32) < 0 ∨ 6 ≤ (1 : Int32).toNatClampNeg) by decide)) dL_law_939 ?_
  refine lv_aload_n hx hb dL_law_940 rfl (lv_at hl 0 rfl) ?_
  refine lv_iload_n hx hb dL_law_941 rfl (lv_at hl 3 rfl) ?_
  refine lv_iconst (v := 2) hx hb dL_law_942 (by decide) ?_
  refine lv_iadd hx hb dL_law_943 ?_
  refine va_sld hx hb hX hbl hbA hO.2.2 (hin 2 (show ¬ ((2 : Int32) < 0 ∨ 6 ≤ (2 : Int32).toNatClampNeg) by decide)) dL_law_944 ?_
  refine lv_aload_n hx hb dL_law_945 rfl (lv_at hl 0 rfl) ?_
  refine lv_iload_n hx hb dL_law_946 rfl (lv_at hl 3 rfl) ?_
  refine lv_iconst (v := 3) hx hb dL_law_947 (by decide) ?_
  refine lv_iadd hx hb dL_law_948 ?_
  refine va_sld hx hb hX hbl hbA hO.2.2 (hin 3 (show ¬ ((3 : Int32) < 0 ∨ 6 ≤ (3 : Int32).toNatClampNeg) by decide)) dL_law_949 ?_
  replace hw := hw (xs (i + 1).toNatClampNeg) (xs (i + 2).toNatClampNeg) (xs (i + 3).toNatClampNeg)
  refine x_calli C0 hO (x_runV (As := [.int (xs (i + 1).toNatClampNeg), .int (xs (i + 2).toNatClampNeg), .int (xs (i + 3).toNatClampNeg)]) (rest := []) C0 hO (kX7_look l g _ (xs (i + 1).toNatClampNeg) (xs (i + 2).toNatClampNeg) (xs (i + 3).toNatClampNeg) σ _ hw) 3 rfl (xRecv C0 hO (j := 0) rfl rfl) gL_X7_look rfl rfl rfl hdX7_look ⟨Nat.le_of_ble_eq_true rfl, Nat.le_of_ble_eq_true rfl⟩ hl.1 rfl (Nat.le_of_ble_eq_true rfl) dL_law_950 ⟨(show _ ≤ 600000 by omega), (show _ ≤ 7302250 by omega)⟩) (fun r1 σ1 H locs hw hO => ?_)
  refine lv_aload_n hx hb dL_law_953 rfl (lv_at hl 2 rfl) ?_
  refine lv_aload_n hx hb dL_law_954 rfl (lv_at hl 0 rfl) ?_
  refine lv_iload_n hx hb dL_law_955 rfl (lv_at hl 3 rfl) ?_
  refine lv_iconst (v := 1) hx hb dL_law_956 (by decide) ?_
  refine lv_iadd hx hb dL_law_957 ?_
  refine va_sld hx hb hX hbl hbA hO.2.2 (hin 1 (show ¬ ((1 : Int32) < 0 ∨ 6 ≤ (1 : Int32).toNatClampNeg) by decide)) dL_law_958 ?_
  refine lv_aload_n hx hb dL_law_959 rfl (lv_at hl 0 rfl) ?_
  refine lv_iload_n hx hb dL_law_960 rfl (lv_at hl 3 rfl) ?_
  refine lv_iconst (v := 2) hx hb dL_law_961 (by decide) ?_
  refine lv_iadd hx hb dL_law_962 ?_
  refine va_sld hx hb hX hbl hbA hO.2.2 (hin 2 (show ¬ ((2 : Int32) < 0 ∨ 6 ≤ (2 : Int32).toNatClampNeg) by decide)) dL_law_963 ?_
  refine lv_aload_n hx hb dL_law_964 rfl (lv_at hl 0 rfl) ?_
  refine lv_iload_n hx hb dL_law_965 rfl (lv_at hl 3 rfl) ?_
  refine lv_iconst (v := 3) hx hb dL_law_966 (by decide) ?_
  refine lv_iadd hx hb dL_law_967 ?_
  refine va_sld hx hb hX hbl hbA hO.2.2 (hin 3 (show ¬ ((3 : Int32) < 0 ∨ 6 ≤ (3 : Int32).toNatClampNeg) by decide)) dL_law_968 ?_
  refine x_calli C0 hO (x_runV (As := [.int (xs (i + 1).toNatClampNeg), .int (xs (i + 2).toNatClampNeg), .int (xs (i + 3).toNatClampNeg)]) (rest := [.int r1]) C0 hO (kX8_look l g _ (xs (i + 1).toNatClampNeg) (xs (i + 2).toNatClampNeg) (xs (i + 3).toNatClampNeg) σ1 _ hw) 3 rfl (xRecv C0 hO (j := 24) rfl rfl) gL_X8_look rfl rfl rfl hdX8_look ⟨Nat.le_of_ble_eq_true rfl, Nat.le_of_ble_eq_true rfl⟩ hl.1 rfl (Nat.le_of_ble_eq_true rfl) dL_law_969 ⟨(show _ ≤ 600000 by omega), (show _ ≤ 7302250 by omega)⟩) (fun r2 σ2 H locs hw hO => ?_)
  obtain ⟨hr, hG⟩ := hw
  refine lv_icmp_eq (tgt := 1375) hx hb dL_law_972 (by decide) (fun c9 => ?_) (fun c9 => absurd hr c9)
  exact kk _ _ _ _ (by omega) hG hO
set_option maxHeartbeats 4000000 in
set_option maxRecDepth 100000 in
theorem lc_23 {p : Program} {l : Launch} {e : Env} {s : State} {m : MethodId} {args : Array Value} {below : List Frame} {meth : Method} {c : Code} {g : XG} {A : Nat → Prop} {Q : State → Prop} {b L : Nat} {xs : Nat → Int32} (C0 : xC g A lw_tbl RL cL_law 4 ret p s m args meth c) (hX : va_X b L xs s s.heap) (hbl : b < s.heap.size) (hbA : ¬ A b) {i : Int32} (hin : ∀ c : Int32, vp_in c 6 → vp_in (i + c) L) (Gd : XS → Prop) {σ : XS} {H : Heap} {locs : List Loc} {ls : Array Slot} {cs : Nat} (hcs : cs + 1000 ≤ 600000) (hO : xO g A s σ H locs) (hl : lv_has ls 4 [(0, .ref b), (1, .ref (xa g 0)), (2, .ref (xa g 24)), (3, .int i)]) (hw : S23 Gd σ)
    (kk : ∀ (σ2 : XS) (H : Heap) (locs : List Loc) (c2 : Nat), c2 ≤ cs + 1000 → Gd σ2 → xO g A s σ2 H locs → W p l e room_1 s m args below meth c H locs c2 c2 Q (F0 m 1375 ls [])) : W p l e room_1 s m args below meth c H locs cs cs Q (F0 m 977 ls []) := by
  have hx := C0.1
  have hb := C0.2.1
  unfold S23 at hw
  refine lv_aload_n hx hb dL_law_977 rfl (lv_at hl 1 rfl) ?_
  refine lv_aload_n hx hb dL_law_978 rfl (lv_at hl 0 rfl) ?_
  refine lv_iload_n hx hb dL_law_979 rfl (lv_at hl 3 rfl) ?_
  refine lv_iconst (v := 1) hx hb dL_law_980 (by decide) ?_
  refine lv_iadd hx hb dL_law_981 ?_
  refine va_sld hx hb hX hbl hbA hO.2.2 (hin 1 (show ¬ ((1 : Int32) < 0 ∨ 6 ≤ (1 : Int32).toNatClampNeg) by decide)) dL_law_982 ?_
  refine lv_aload_n hx hb dL_law_983 rfl (lv_at hl 0 rfl) ?_
  refine lv_iload_n hx hb dL_law_984 rfl (lv_at hl 3 rfl) ?_
  refine lv_iconst (v := 2) hx hb dL_law_985 (by decide) ?_
  refine lv_iadd hx hb dL_law_986 ?_
  refine va_sld hx hb hX hbl hbA hO.2.2 (hin 2 (show ¬ ((2 : Int32) < 0 ∨ 6 ≤ (2 : Int32).toNatClampNeg) by decide)) dL_law_987 ?_
  refine lv_aload_n hx hb dL_law_988 rfl (lv_at hl 0 rfl) ?_
  refine lv_iload_n hx hb dL_law_989 rfl (lv_at hl 3 rfl) ?_
  refine lv_iconst (v := 3) hx hb dL_law_990 (by decide) ?_
  refine lv_iadd hx hb dL_law_991 ?_
  refine va_sld hx hb hX hbl hbA hO.2.2 (hin 3 (show ¬ ((3 : Int32) < 0 ∨ 6 ≤ (3 : Int32).toNatClampNeg) by decide)) dL_law_992 ?_
  refine lv_aload_n hx hb dL_law_993 rfl (lv_at hl 0 rfl) ?_
  refine lv_iload_n hx hb dL_law_994 rfl (lv_at hl 3 rfl) ?_
  refine lv_iconst (v := 4) hx hb dL_law_995 (by decide) ?_
  refine lv_iadd hx hb dL_law_996 ?_
  refine va_sld hx hb hX hbl hbA hO.2.2 (hin 4 (show ¬ ((4 : Int32) < 0 ∨ 6 ≤ (4 : Int32).toNatClampNeg) by decide)) dL_law_997 ?_
  replace hw := hw (xs (i + 1).toNatClampNeg) (xs (i + 2).toNatClampNeg) (xs (i + 3).toNatClampNeg) (xs (i + 4).toNatClampNeg)
  refine x_calll C0 hO (x_runV (As := [.int (xs (i + 1).toNatClampNeg), .int (xs (i + 2).toNatClampNeg), .int (xs (i + 3).toNatClampNeg), .int (xs (i + 4).toNatClampNeg)]) (rest := []) C0 hO (kX7_odds l g _ (xs (i + 1).toNatClampNeg) (xs (i + 2).toNatClampNeg) (xs (i + 3).toNatClampNeg) (xs (i + 4).toNatClampNeg) σ _ hw) 4 rfl (xRecv C0 hO (j := 0) rfl rfl) gL_X7_odds rfl rfl rfl hdX7_odds ⟨Nat.le_of_ble_eq_true rfl, Nat.le_of_ble_eq_true rfl⟩ hl.1 rfl (Nat.le_of_ble_eq_true rfl) dL_law_998 ⟨(show _ ≤ 600000 by omega), (show _ ≤ 7302250 by omega)⟩) (fun r1 σ1 H locs hw hO => ?_)
  refine lv_aload_n hx hb dL_law_1001 rfl (lv_at hl 2 rfl) ?_
  refine lv_aload_n hx hb dL_law_1002 rfl (lv_at hl 0 rfl) ?_
  refine lv_iload_n hx hb dL_law_1003 rfl (lv_at hl 3 rfl) ?_
  refine lv_iconst (v := 1) hx hb dL_law_1004 (by decide) ?_
  refine lv_iadd hx hb dL_law_1005 ?_
  refine va_sld hx hb hX hbl hbA hO.2.2 (hin 1 (show ¬ ((1 : Int32) < 0 ∨ 6 ≤ (1 : Int32).toNatClampNeg) by decide)) dL_law_1006 ?_
  refine lv_aload_n hx hb dL_law_1007 rfl (lv_at hl 0 rfl) ?_
  refine lv_iload_n hx hb dL_law_1008 rfl (lv_at hl 3 rfl) ?_
  refine lv_iconst (v := 2) hx hb dL_law_1009 (by decide) ?_
  refine lv_iadd hx hb dL_law_1010 ?_
  refine va_sld hx hb hX hbl hbA hO.2.2 (hin 2 (show ¬ ((2 : Int32) < 0 ∨ 6 ≤ (2 : Int32).toNatClampNeg) by decide)) dL_law_1011 ?_
  refine lv_aload_n hx hb dL_law_1012 rfl (lv_at hl 0 rfl) ?_
  refine lv_iload_n hx hb dL_law_1013 rfl (lv_at hl 3 rfl) ?_
  refine lv_iconst (v := 3) hx hb dL_law_1014 (by decide) ?_
  refine lv_iadd hx hb dL_law_1015 ?_
  refine va_sld hx hb hX hbl hbA hO.2.2 (hin 3 (show ¬ ((3 : Int32) < 0 ∨ 6 ≤ (3 : Int32).toNatClampNeg) by decide)) dL_law_1016 ?_
  refine lv_aload_n hx hb dL_law_1017 rfl (lv_at hl 0 rfl) ?_
  refine lv_iload_n hx hb dL_law_1018 rfl (lv_at hl 3 rfl) ?_
  refine lv_iconst (v := 4) hx hb dL_law_1019 (by decide) ?_
  refine lv_iadd hx hb dL_law_1020 ?_
  refine va_sld hx hb hX hbl hbA hO.2.2 (hin 4 (show ¬ ((4 : Int32) < 0 ∨ 6 ≤ (4 : Int32).toNatClampNeg) by decide)) dL_law_1021 ?_
  refine x_calll C0 hO (x_runV (As := [.int (xs (i + 1).toNatClampNeg), .int (xs (i + 2).toNatClampNeg), .int (xs (i + 3).toNatClampNeg), .int (xs (i + 4).toNatClampNeg)]) (rest := [.long r1]) C0 hO (kX8_odds l g _ (xs (i + 1).toNatClampNeg) (xs (i + 2).toNatClampNeg) (xs (i + 3).toNatClampNeg) (xs (i + 4).toNatClampNeg) σ1 _ hw) 4 rfl (xRecv C0 hO (j := 24) rfl rfl) gL_X8_odds rfl rfl rfl hdX8_odds ⟨Nat.le_of_ble_eq_true rfl, Nat.le_of_ble_eq_true rfl⟩ hl.1 rfl (Nat.le_of_ble_eq_true rfl) dL_law_1022 ⟨(show _ ≤ 600000 by omega), (show _ ≤ 7302250 by omega)⟩) (fun r2 σ2 H locs hw hO => ?_)
  obtain ⟨hr, hG⟩ := hw
  subst hr
  refine W.lcmp hx hb dL_law_1025 ?_
  refine lv_if_eq (tgt := 1375) hx hb dL_law_1026 (by decide) (fun c9 => ?_) (fun c9 => absurd (lc_cmp _) c9)
  exact kk _ _ _ _ (by omega) hG hO
