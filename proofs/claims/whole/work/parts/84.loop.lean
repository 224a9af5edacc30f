theorem law_more {L k : Nat} {i : Int32} (hL : L ≤ 384) (h1 : 6 * k ≤ L) (hi : i = nI (6 * k)) (h : ¬ (Int32.ofNat L - 6) < i) : 6 * k + 6 ≤ L := by
  rw [Int32.lt_iff_toInt_lt, hi, nI_toInt (by omega)] at h
  have e : (Int32.ofNat L - 6).toInt = (L : Int) - 6 := by
    have := pk_sub_toInt (a := L) (b := 6) (by omega) (by omega)
    exact this
  rw [e] at h
  omega
theorem law_in {L k : Nat} {i : Int32} (hL : L ≤ 384) (hk : 6 * k + 6 ≤ L) (hi : i = nI (6 * k)) : ∀ c : Int32, vp_in c 6 → vp_in (i + c) L := by
  intro c hc
  obtain ⟨j, hj, rfl⟩ := vp_in_of hc (by omega)
  rw [hi, nI_add]
  exact vp_in_nI (by omega) (by omega)
theorem law_in0 {L k : Nat} {i : Int32} (hL : L ≤ 384) (hk : 6 * k + 6 ≤ L) (hi : i = nI (6 * k)) : vp_in i L := by
  rw [hi]
  exact vp_in_nI (by omega) (by omega)
theorem law_next (k : Nat) : nI (6 * k) + 6 = nI (6 * (k + 1)) := by
  have : (6 : Int32) = nI 6 := by decide
  rw [this, nI_add]
  congr 1
set_option maxHeartbeats 8000000 in
set_option maxRecDepth 100000 in
theorem law_loop {p : Program} {l : Launch} {e : Env} {s : State} {m : MethodId} {args : Array Value} {below : List Frame} {meth : Method} {c : Code} {g : XG} {A : Nat → Prop} {Q : State → Prop} {b L : Nat} {xs : Nat → Int32} (C0 : xC g A lw_tbl RL cL_law 4 ret p s m args meth c) (hX : va_X b L xs s s.heap) (hbl : b < s.heap.size) (hbA : ¬ A b) (hL : L ≤ 384) (Gd : XS → Prop) (HS : ∀ σ, Gd σ → SAll Gd σ)
    (kx : ∀ (H : Heap) (locs : List Loc) (ls : Array Slot) (cs : Nat), cs ≤ 600000 → va_S A s.heap H locs → W p l e room_1 s m args below meth c H locs cs cs Q (F0 m 1381 ls [])) :
    ∀ (n k : Nat) (i : Int32) (σ : XS) (H : Heap) (locs : List Loc) (ls : Array Slot) (cs : Nat), 6 * k ≤ L → L < 6 * (k + n) → i = nI (6 * k) → cs ≤ 2000 + 1000 * k → Gd σ → xO g A s σ H locs → lv_has ls 4 [(0, .ref b), (1, .ref (xa g 0)), (2, .ref (xa g 24)), (3, .int i)] → W p l e room_1 s m args below meth c H locs cs cs Q (F0 m 18 ls []) := by
  have hx := C0.1
  have hb := C0.2.1
  intro n
  induction n with
  | zero =>
    intro k i σ H locs ls cs h1 h2
    exact absurd h2 (by omega)
  | succ n ih =>
    intro k i σ H locs ls cs h1 h2 hi hcs hG hO hl
    refine lv_iload_n hx hb dL_law_18 rfl (lv_at hl 3 rfl) ?_
    refine lv_aload_n hx hb dL_law_19 rfl (lv_at hl 0 rfl) ?_
    refine va_slen hx hb hX hbl hbA hO.2.2 dL_law_20 ?_
    refine lv_bipush (v := 6) hx hb dL_law_21 (by decide) ?_
    refine lv_isub hx hb dL_law_23 ?_
    refine lv_icmp_gt (tgt := 1381) hx hb dL_law_24 (by decide) (fun c9 => ?_) (fun c9 => ?_)
    · exact kx _ _ _ _ (by omega) hO.2.2
    · have hk : 6 * k + 6 ≤ L := law_more hL h1 hi c9
      have hin : ∀ c : Int32, vp_in c 6 → vp_in (i + c) L := law_in hL hk hi
      have hS := HS σ hG
      unfold SAll at hS
      have kk : ∀ (σ2 : XS) (H : Heap) (locs : List Loc) (c2 : Nat), c2 ≤ cs + 1000 → Gd σ2 → xO g A s σ2 H locs → W p l e room_1 s m args below meth c H locs c2 c2 Q (F0 m 1375 ls []) := by
        intro σ2 H locs c2 hc2 hG2 hO2
        obtain ⟨i2, ei2⟩ : ∃ z : Int32, z = i + 6 := ⟨_, rfl⟩
        refine lv_iinc (v := i2) (lv' := [(3, .int i2), (0, .ref b), (1, .ref (xa g 0)), (2, .ref (xa g 24))]) hx hb dL_law_1375 hl (k := 3) rfl (by rw [ei2]; rfl) (by decide) rfl (fun ls hl => ?_)
        refine lv_goto (tgt := 18) hx hb dL_law_1378 (by decide) ?_
        exact ih (k + 1) i2 σ2 H locs ls c2 (by omega) (by omega) (by rw [ei2, hi]; exact law_next k) (by omega) hG2 hO2 (lv_sub hl [1, 2, 3, 0] rfl)
      refine lv_aload_n hx hb dL_law_27 rfl (lv_at hl 0 rfl) ?_
      refine lv_iload_n hx hb dL_law_28 rfl (lv_at hl 3 rfl) ?_
      refine va_sld hx hb hX hbl hbA hO.2.2 (law_in0 hL hk hi) dL_law_29 ?_
      refine lv_bipush (v := 63) hx hb dL_law_30 (by decide) ?_
      refine lv_iand hx hb dL_law_32 ?_
      refine lv_topi (fun x ex => ?_)
      rcases Decidable.em (x = 0) with h0 | h0
      · refine lv_tableIn (off := 155) (tgt := 188) hx hb dL_law_33 (by rw [h0]; decide) (by rw [h0]; decide) (by rw [h0]; rfl) (by decide) ?_
        exact lc_0 C0 hX hbl hbA hin Gd (by omega) hO hl (hS.1) kk
      rcases Decidable.em (x = 1) with h1 | h1
      · refine lv_tableIn (off := 208) (tgt := 241) hx hb dL_law_33 (by rw [h1]; decide) (by rw [h1]; decide) (by rw [h1]; rfl) (by decide) ?_
        exact lc_1 C0 hX hbl hbA hin Gd (by omega) hO hl (hS.2.1) kk
      rcases Decidable.em (x = 2) with h2 | h2
      · refine lv_tableIn (off := 241) (tgt := 274) hx hb dL_law_33 (by rw [h2]; decide) (by rw [h2]; decide) (by rw [h2]; rfl) (by decide) ?_
        exact lc_2 C0 hX hbl hbA hin Gd (by omega) hO hl (hS.2.2.1) kk
      rcases Decidable.em (x = 3) with h3 | h3
      · refine lv_tableIn (off := 274) (tgt := 307) hx hb dL_law_33 (by rw [h3]; decide) (by rw [h3]; decide) (by rw [h3]; rfl) (by decide) ?_
        exact lc_3 C0 hX hbl hbA hin Gd (by omega) hO hl (hS.2.2.2.1) kk
      rcases Decidable.em (x = 4) with h4 | h4
      · refine lv_tableIn (off := 317) (tgt := 350) hx hb dL_law_33 (by rw [h4]; decide) (by rw [h4]; decide) (by rw [h4]; rfl) (by decide) ?_
        exact lc_4 C0 hX hbl hbA hin Gd (by omega) hO hl (hS.2.2.2.2.1) kk
      rcases Decidable.em (x = 5) with h5 | h5
      · refine lv_tableIn (off := 340) (tgt := 373) hx hb dL_law_33 (by rw [h5]; decide) (by rw [h5]; decide) (by rw [h5]; rfl) (by decide) ?_
        exact lc_5 C0 hX hbl hbA hin Gd (by omega) hO hl (hS.2.2.2.2.2.1) kk
      rcases Decidable.em (x = 6) with h6 | h6
      · refine lv_tableIn (off := 383) (tgt := 416) hx hb dL_law_33 (by rw [h6]; decide) (by rw [h6]; decide) (by rw [h6]; rfl) (by decide) ?_
        exact lc_6 C0 hX hbl hbA hin Gd (by omega) hO hl (hS.2.2.2.2.2.2.1) kk
      rcases Decidable.em (x = 7) with h7 | h7
      · refine lv_tableIn (off := 406) (tgt := 439) hx hb dL_law_33 (by rw [h7]; decide) (by rw [h7]; decide) (by rw [h7]; rfl) (by decide) ?_
        exact lc_7 C0 hX hbl hbA hin Gd (by omega) hO hl (hS.2.2.2.2.2.2.2.1) kk
      rcases Decidable.em (x = 8) with h8 | h8
      · refine lv_tableIn (off := 439) (tgt := 472) hx hb dL_law_33 (by rw [h8]; decide) (by rw [h8]; decide) (by rw [h8]; rfl) (by decide) ?_
        exact lc_8 C0 hX hbl hbA hin Gd (by omega) hO hl (hS.2.2.2.2.2.2.2.2.1) kk
      rcases Decidable.em (x = 9) with h9 | h9
      · refine lv_tableIn (off := 462) (tgt := 495) hx hb dL_law_33 (by rw [h9]; decide) (by rw [h9]; decide) (by rw [h9]; rfl) (by decide) ?_
        exact lc_9 C0 hX hbl hbA hin Gd (by omega) hO hl (hS.2.2.2.2.2.2.2.2.2.1) kk
      rcases Decidable.em (x = 10) with h10 | h10
      · refine lv_tableIn (off := 495) (tgt := 528) hx hb dL_law_33 (by rw [h10]; decide) (by rw [h10]; decide) (by rw [h10]; rfl) (by decide) ?_
        exact lc_10 C0 hX hbl hbA hin Gd (by omega) hO hl (hS.2.2.2.2.2.2.2.2.2.2.1) kk
      rcases Decidable.em (x = 11) with h11 | h11
      · refine lv_tableIn (off := 548) (tgt := 581) hx hb dL_law_33 (by rw [h11]; decide) (by rw [h11]; decide) (by rw [h11]; rfl) (by decide) ?_
        exact lc_11 C0 hX hbl hbA hin Gd (by omega) hO hl (hS.2.2.2.2.2.2.2.2.2.2.2.1) kk
      rcases Decidable.em (x = 12) with h12 | h12
      · refine lv_tableIn (off := 581) (tgt := 614) hx hb dL_law_33 (by rw [h12]; decide) (by rw [h12]; decide) (by rw [h12]; rfl) (by decide) ?_
        exact lc_12 C0 hX hbl hbA hin Gd (by omega) hO hl (hS.2.2.2.2.2.2.2.2.2.2.2.2.1) kk
      rcases Decidable.em (x = 13) with h13 | h13
      · refine lv_tableIn (off := 614) (tgt := 647) hx hb dL_law_33 (by rw [h13]; decide) (by rw [h13]; decide) (by rw [h13]; rfl) (by decide) ?_
        exact lc_13 C0 hX hbl hbA hin Gd (by omega) hO hl (hS.2.2.2.2.2.2.2.2.2.2.2.2.2.1) kk
      rcases Decidable.em (x = 14) with h14 | h14
      · refine lv_tableIn (off := 647) (tgt := 680) hx hb dL_law_33 (by rw [h14]; decide) (by rw [h14]; decide) (by rw [h14]; rfl) (by decide) ?_
        exact lc_14 C0 hX hbl hbA hin Gd (by omega) hO hl (hS.2.2.2.2.2.2.2.2.2.2.2.2.2.2.1) kk
      rcases Decidable.em (x = 15) with h15 | h15
      · refine lv_tableIn (off := 680) (tgt := 713) hx hb dL_law_33 (by rw [h15]; decide) (by rw [h15]; decide) (by rw [h15]; rfl) (by decide) ?_
        exact lc_15 C0 hX hbl hbA hin Gd (by omega) hO hl (hS.2.2.2.2.2.2.2.2.2.2.2.2.2.2.2.1) kk
      rcases Decidable.em (x = 16) with h16 | h16
      · refine lv_tableIn (off := 733) (tgt := 766) hx hb dL_law_33 (by rw [h16]; decide) (by rw [h16]; decide) (by rw [h16]; rfl) (by decide) ?_
        exact lc_16 C0 hX hbl hbA hin Gd (by omega) hO hl (hS.2.2.2.2.2.2.2.2.2.2.2.2.2.2.2.2.1) kk
      rcases Decidable.em (x = 17) with h17 | h17
      · refine lv_tableIn (off := 786) (tgt := 819) hx hb dL_law_33 (by rw [h17]; decide) (by rw [h17]; decide) (by rw [h17]; rfl) (by decide) ?_
        exact lc_17 C0 hX hbl hbA hin Gd (by omega) hO hl (hS.2.2.2.2.2.2.2.2.2.2.2.2.2.2.2.2.2.1) kk
      rcases Decidable.em (x = 18) with h18 | h18
      · refine lv_tableIn (off := 809) (tgt := 842) hx hb dL_law_33 (by rw [h18]; decide) (by rw [h18]; decide) (by rw [h18]; rfl) (by decide) ?_
        exact lc_18 C0 hX hbl hbA hin Gd (by omega) hO hl (hS.2.2.2.2.2.2.2.2.2.2.2.2.2.2.2.2.2.2.1) kk
      rcases Decidable.em (x = 19) with h19 | h19
      · refine lv_tableIn (off := 842) (tgt := 875) hx hb dL_law_33 (by rw [h19]; decide) (by rw [h19]; decide) (by rw [h19]; rfl) (by decide) ?_
        exact lc_19 C0 hX hbl hbA hin Gd (by omega) hO hl (hS.2.2.2.2.2.2.2.2.2.2.2.2.2.2.2.2.2.2.2.1) kk
      rcases Decidable.em (x = 20) with h20 | h20
      · refine lv_tableIn (off := 865) (tgt := 898) hx hb dL_law_33 (by rw [h20]; decide) (by rw [h20]; decide) (by rw [h20]; rfl) (by decide) ?_
        exact lc_20 C0 hX hbl hbA hin Gd (by omega) hO hl (hS.2.2.2.2.2.2.2.2.2.2.2.2.2.2.2.2.2.2.2.2.1) kk
      rcases Decidable.em (x = 21) with h21 | h21
      · refine lv_tableIn (off := 888) (tgt := 921) hx hb dL_law_33 (by rw [h21]; decide) (by rw [h21]; decide) (by rw [h21]; rfl) (by decide) ?_
        exact lc_21 C0 hX hbl hbA hin Gd (by omega) hO hl (hS.2.2.2.2.2.2.2.2.2.2.2.2.2.2.2.2.2.2.2.2.2.1) kk
      rcases Decidable.em (x = 22) with h22 | h22
      · refine lv_tableIn (off := 901) (tgt := 934) hx hb dL_law_33 (by rw [h22]; decide) (by rw [h22]; decide) (by rw [h22]; rfl) (by decide) ?_
        exact lc_22 C0 hX hbl hbA hin Gd (by omega) hO hl (hS.2.2.2.2.2.2.2.2.2.2.2.2.2.2.2.2.2.2.2.2.2.2.1) kk
      rcases Decidable.em (x = 23) with h23 | h23
      · refine lv_tableIn (off := 944) (tgt := 977) hx hb dL_law_33 (by rw [h23]; decide) (by rw [h23]; decide) (by rw [h23]; rfl) (by decide) ?_
        exact lc_23 C0 hX hbl hbA hin Gd (by omega) hO hl (hS.2.2.2.2.2.2.2.2.2.2.2.2.2.2.2.2.2.2.2.2.2.2.2.1) kk
      rcases Decidable.em (x = 24) with h24 | h24
      · refine lv_tableIn (off := 998) (tgt := 1031) hx hb dL_law_33 (by rw [h24]; decide) (by rw [h24]; decide) (by rw [h24]; rfl) (by decide) ?_
        exact lc_24 C0 hX hbl hbA hin Gd (by omega) hO hl (hS.2.2.2.2.2.2.2.2.2.2.2.2.2.2.2.2.2.2.2.2.2.2.2.2.1) kk
      rcases Decidable.em (x = 25) with h25 | h25
      · refine lv_tableIn (off := 1041) (tgt := 1074) hx hb dL_law_33 (by rw [h25]; decide) (by rw [h25]; decide) (by rw [h25]; rfl) (by decide) ?_
        exact lc_25 C0 hX hbl hbA hin Gd (by omega) hO hl (hS.2.2.2.2.2.2.2.2.2.2.2.2.2.2.2.2.2.2.2.2.2.2.2.2.2.1) kk
      rcases Decidable.em (x = 26) with h26 | h26
      · refine lv_tableIn (off := 1064) (tgt := 1097) hx hb dL_law_33 (by rw [h26]; decide) (by rw [h26]; decide) (by rw [h26]; rfl) (by decide) ?_
        exact lc_26 C0 hX hbl hbA hin Gd (by omega) hO hl (hS.2.2.2.2.2.2.2.2.2.2.2.2.2.2.2.2.2.2.2.2.2.2.2.2.2.2.1) kk
      rcases Decidable.em (x = 27) with h27 | h27
      · refine lv_tableIn (off := 1107) (tgt := 1140) hx hb dL_law_33 (by rw [h27]; decide) (by rw [h27]; decide) (by rw [h27]; rfl) (by decide) ?_
        exact lc_27 C0 hX hbl hbA hin Gd (by omega) hO hl (hS.2.2.2.2.2.2.2.2.2.2.2.2.2.2.2.2.2.2.2.2.2.2.2.2.2.2.2.1) kk
      rcases Decidable.em (x = 28) with h28 | h28
      · refine lv_tableIn (off := 1151) (tgt := 1184) hx hb dL_law_33 (by rw [h28]; decide) (by rw [h28]; decide) (by rw [h28]; rfl) (by decide) ?_
        exact lc_28 C0 hX hbl hbA hin Gd (by omega) hO hl (hS.2.2.2.2.2.2.2.2.2.2.2.2.2.2.2.2.2.2.2.2.2.2.2.2.2.2.2.2.1) kk
      rcases Decidable.em (x = 29) with h29 | h29
      · refine lv_tableIn (off := 1214) (tgt := 1247) hx hb dL_law_33 (by rw [h29]; decide) (by rw [h29]; decide) (by rw [h29]; rfl) (by decide) ?_
        exact lc_29 C0 hX hbl hbA hin Gd (by omega) hO hl (hS.2.2.2.2.2.2.2.2.2.2.2.2.2.2.2.2.2.2.2.2.2.2.2.2.2.2.2.2.2.1) kk
      rcases Decidable.em (x = 30) with h30 | h30
      · refine lv_tableIn (off := 1237) (tgt := 1270) hx hb dL_law_33 (by rw [h30]; decide) (by rw [h30]; decide) (by rw [h30]; rfl) (by decide) ?_
        exact lc_30 C0 hX hbl hbA hin Gd (by omega) hO hl (hS.2.2.2.2.2.2.2.2.2.2.2.2.2.2.2.2.2.2.2.2.2.2.2.2.2.2.2.2.2.2.1) kk
      rcases Decidable.em (x = 31) with h31 | h31
      · refine lv_tableIn (off := 1260) (tgt := 1293) hx hb dL_law_33 (by rw [h31]; decide) (by rw [h31]; decide) (by rw [h31]; rfl) (by decide) ?_
        exact lc_31 C0 hX hbl hbA hin Gd (by omega) hO hl (hS.2.2.2.2.2.2.2.2.2.2.2.2.2.2.2.2.2.2.2.2.2.2.2.2.2.2.2.2.2.2.2.1) kk
      rcases Decidable.em (x = 32) with h32 | h32
      · refine lv_tableIn (off := 1293) (tgt := 1326) hx hb dL_law_33 (by rw [h32]; decide) (by rw [h32]; decide) (by rw [h32]; rfl) (by decide) ?_
        exact lc_32 C0 hX hbl hbA hin Gd (by omega) hO hl (hS.2.2.2.2.2.2.2.2.2.2.2.2.2.2.2.2.2.2.2.2.2.2.2.2.2.2.2.2.2.2.2.2.1) kk
      rcases Decidable.em (x = 33) with h33 | h33
      · refine lv_tableIn (off := 1306) (tgt := 1339) hx hb dL_law_33 (by rw [h33]; decide) (by rw [h33]; decide) (by rw [h33]; rfl) (by decide) ?_
        exact lc_33 C0 hX hbl hbA hin Gd (by omega) hO hl (hS.2.2.2.2.2.2.2.2.2.2.2.2.2.2.2.2.2.2.2.2.2.2.2.2.2.2.2.2.2.2.2.2.2.1) kk
      rcases Decidable.em (x = 34) with h34 | h34
      · refine lv_tableIn (off := 1319) (tgt := 1352) hx hb dL_law_33 (by rw [h34]; decide) (by rw [h34]; decide) (by rw [h34]; rfl) (by decide) ?_
        exact lc_34 C0 hX hbl hbA hin Gd (by omega) hO hl (hS.2.2.2.2.2.2.2.2.2.2.2.2.2.2.2.2.2.2.2.2.2.2.2.2.2.2.2.2.2.2.2.2.2.2) kk
      have n0 := lv_neT (a := 0) h0 (by decide)
      have n1 := lv_neT (a := 1) h1 (by decide)
      have n2 := lv_neT (a := 2) h2 (by decide)
      have n3 := lv_neT (a := 3) h3 (by decide)
      have n4 := lv_neT (a := 4) h4 (by decide)
      have n5 := lv_neT (a := 5) h5 (by decide)
      have n6 := lv_neT (a := 6) h6 (by decide)
      have n7 := lv_neT (a := 7) h7 (by decide)
      have n8 := lv_neT (a := 8) h8 (by decide)
      have n9 := lv_neT (a := 9) h9 (by decide)
      have n10 := lv_neT (a := 10) h10 (by decide)
      have n11 := lv_neT (a := 11) h11 (by decide)
      have n12 := lv_neT (a := 12) h12 (by decide)
      have n13 := lv_neT (a := 13) h13 (by decide)
      have n14 := lv_neT (a := 14) h14 (by decide)
      have n15 := lv_neT (a := 15) h15 (by decide)
      have n16 := lv_neT (a := 16) h16 (by decide)
      have n17 := lv_neT (a := 17) h17 (by decide)
      have n18 := lv_neT (a := 18) h18 (by decide)
      have n19 := lv_neT (a := 19) h19 (by decide)
      have n20 := lv_neT (a := 20) h20 (by decide)
      have n21 := lv_neT (a := 21) h21 (by decide)
      have n22 := lv_neT (a := 22) h22 (by decide)
      have n23 := lv_neT (a := 23) h23 (by decide)
      have n24 := lv_neT (a := 24) h24 (by decide)
      have n25 := lv_neT (a := 25) h25 (by decide)
      have n26 := lv_neT (a := 26) h26 (by decide)
      have n27 := lv_neT (a := 27) h27 (by decide)
      have n28 := lv_neT (a := 28) h28 (by decide)
      have n29 := lv_neT (a := 29) h29 (by decide)
      have n30 := lv_neT (a := 30) h30 (by decide)
      have n31 := lv_neT (a := 31) h31 (by decide)
      have n32 := lv_neT (a := 32) h32 (by decide)
      have n33 := lv_neT (a := 33) h33 (by decide)
      have n34 := lv_neT (a := 34) h34 (by decide)
      refine lv_tableOut (tgt := 1375) hx hb dL_law_33 (by omega) (by decide) ?_
      exact kk _ _ _ _ (by omega) hG hO
