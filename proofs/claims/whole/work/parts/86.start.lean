theorem cons_eq2 {α : Type} {a b : α} {x y : List α} (h : a = b) (h2 : x = y) : a :: x = b :: y := by rw [h, h2]
def xEl2 (g : XG) (σ : XS) (j : Nat) (e : XC) : Nat × va_E := (xa g j, match e with
  | .inr o => .inr (o.1, o.2.zipIdx.map (fun q => xFld (xa g) σ j q.2 q.1))
  | .inl (0, n) => .inl ((xk g).1, n, .inl (gI σ j))
  | .inl (1, n) => .inl ((xk g).2.1, n, .inr (.inl (gL σ j)))
  | .inl (2, n) => .inl ((xk g).2.2.1, n, .inr (.inr (.inr (.inr (xSh (xa g))))))
  | .inl (_, n) => .inl ((xk g).2.2.2, n, .inr (.inr (.inr (.inr (gP σ))))))
theorem xEl_2 (g : XG) (σ : XS) (j : Nat) (e : XC) : xEl g σ j e = xEl2 g σ j e := by
  rcases e with ⟨a, n⟩ | o
  · match a with
    | 0 => rfl
    | 1 => rfl
    | 2 => rfl
    | a + 3 => rfl
  · show (_, Sum.inr (_, _)) = (_, Sum.inr (_, _))
    rw [List.mapIdx_eq_zipIdx_map]
theorem xW_2 (g : XG) (σ : XS) : xW g σ = xTab.zipIdx.map (fun q => xEl2 g σ q.2 q.1) ++ va_pl (gA σ) (xPe σ) := by
  unfold xW xB
  rw [List.mapIdx_eq_zipIdx_map]
  have h : (fun q : XC × Nat => xEl g σ q.2 q.1) = (fun q => xEl2 g σ q.2 q.1) := by
    funext q
    exact xEl_2 g σ q.2 q.1
  first | rw [h] | (simp only [xEl_2])
/-- the first state -/
def sig0 : XS := (fun j => if j = 16 then (fun k => if k = 2 then -1 else 0) else if j = 18 then (fun k => if k = 2 then -1 else 0) else if j = 20 then (fun k => if k = 2 then -1 else 0) else if j = 22 then (fun k => if k = 2 then -1 else 0) else if j = 24 then (fun k => if k = 21 then -9 else if k = 22 then -9 else if k = 25 then -9 else 0) else if j = 46 then (upd (upd (upd (upd (fun _ => 0) (0 : Int32).toNatClampNeg (-1)) (1 : Int32).toNatClampNeg (-1)) (2 : Int32).toNatClampNeg (-1)) (3 : Int32).toNatClampNeg (-1)) else (fun _ => 0), fun _ _ => 0, fun _ => none, [], fun _ => 0, fun _ => 0)
theorem sh_row (ad : Nat → Nat) : (va_up (va_up (va_up (va_up (fun _ => none) (0 : Int32).toNatClampNeg (some (ad 16))) (1 : Int32).toNatClampNeg (some (ad 18))) (2 : Int32).toNatClampNeg (some (ad 20))) (3 : Int32).toNatClampNeg (some (ad 22))) = xSh ad := by
  have e0 : (0 : Int32).toNatClampNeg = 0 := by decide
  have e1 : (1 : Int32).toNatClampNeg = 1 := by decide
  have e2 : (2 : Int32).toNatClampNeg = 2 := by decide
  have e3 : (3 : Int32).toNatClampNeg = 3 := by decide
  rw [e0, e1, e2, e3]
  funext i
  unfold xSh va_up
  match i with
  | 0 => rfl
  | 1 => rfl
  | 2 => rfl
  | 3 => rfl
  | i + 4 => simp
set_option maxHeartbeats 1000000 in
set_option maxRecDepth 100000 in
theorem whole_open {p : Program} {e : Env} {s : State} {m : MethodId} {below : List Frame} {meth : Method} {c : Code} (l : Launch) {b L : Nat} {xs : Nat → Int32} (Gd : XS → Prop) (G0 : Gd sig0) (HS : ∀ σ, Gd σ → SAll Gd σ) (hL : L ≤ 384) (C0 : lw_At p s m meth c b L xs) : W p l e room_1 s m #[Value.ref b] below meth c s.heap [] 0 0 (lw_Z below #[Value.ref b] s) (entryFrame m ([Value.ref b] : List Value).toArray 4) := by
  obtain ⟨hx, hb, hr, hml, hown, hts, hX, hbl, hlocks, hgv⟩ := id C0
  have hA : ∀ q : Nat, s.heap.size ≤ q → (fun q : Nat => s.heap.size ≤ q) q := fun _ h => h
  have hbA : ¬ (fun q : Nat => s.heap.size ≤ q) b := Nat.not_le.mpr hbl
  have hnA : ∀ a : Nat, a < s.heap.size → ¬ (fun q : Nat => s.heap.size ≤ q) a := fun a h => Nat.not_le.mpr h
  have hs := flat_of_before _ hgv
  obtain ⟨aF, hvF, hTF⟩ := va_Tof (args := #[Value.ref b]) (s := s) (tm := (Term.static "GumHall$Story" "FIRST_SLOT" "[I")) (ty := .int) (N := 4) (f := fun j => .int (xFirst j)) (A := fun q : Nat => s.heap.size ≤ q) (by decide) (hs (Cond.arrayOf (Term.static "GumHall$Story" "FIRST_SLOT" "[I") .int) (by decide +kernel)) (va_eqt (hs (Cond.eq (.length (Term.static "GumHall$Story" "FIRST_SLOT" "[I")) (.int 4)) (by decide +kernel))) (fun j hj => by
    match j, hj with
    | 0, _ => exact va_eqt (hs (Cond.eq (.elem (Term.static "GumHall$Story" "FIRST_SLOT" "[I") (.int 0)) (.int 0)) (by decide +kernel))
    | 1, _ => exact va_eqt (hs (Cond.eq (.elem (Term.static "GumHall$Story" "FIRST_SLOT" "[I") (.int 1)) (.int 7)) (by decide +kernel))
    | 2, _ => exact va_eqt (hs (Cond.eq (.elem (Term.static "GumHall$Story" "FIRST_SLOT" "[I") (.int 2)) (.int 14)) (by decide +kernel))
    | 3, _ => exact va_eqt (hs (Cond.eq (.elem (Term.static "GumHall$Story" "FIRST_SLOT" "[I") (.int 3)) (.int 39)) (by decide +kernel))
    | j + 4, hj => exact absurd hj (by omega)) hnA
  have hZF := va_Zref (A := fun q : Nat => s.heap.size ≤ q) (hts (.laysStatic "GumHall$Story" "FIRST_SLOT" "[I") (inT_2 (List.mem_of_getElem? (i := 38) rfl))) (hts (.initialized "GumHall$Story") (inT_1 (List.mem_of_getElem? (i := 2) rfl))) hvF hnA
  obtain ⟨aM, hvM, hTM⟩ := va_Tof (args := #[Value.ref b]) (s := s) (tm := (Term.static "GumHall$Story" "MOST" "[I")) (ty := .int) (N := 4) (f := fun j => .int (xMost j)) (A := fun q : Nat => s.heap.size ≤ q) (by decide) (hs (Cond.arrayOf (Term.static "GumHall$Story" "MOST" "[I") .int) (by decide +kernel)) (va_eqt (hs (Cond.eq (.length (Term.static "GumHall$Story" "MOST" "[I")) (.int 4)) (by decide +kernel))) (fun j hj => by
    match j, hj with
    | 0, _ => exact va_eqt (hs (Cond.eq (.elem (Term.static "GumHall$Story" "MOST" "[I") (.int 0)) (.int 6)) (by decide +kernel))
    | 1, _ => exact va_eqt (hs (Cond.eq (.elem (Term.static "GumHall$Story" "MOST" "[I") (.int 1)) (.int 6)) (by decide +kernel))
    | 2, _ => exact va_eqt (hs (Cond.eq (.elem (Term.static "GumHall$Story" "MOST" "[I") (.int 2)) (.int 24)) (by decide +kernel))
    | 3, _ => exact va_eqt (hs (Cond.eq (.elem (Term.static "GumHall$Story" "MOST" "[I") (.int 3)) (.int 8)) (by decide +kernel))
    | j + 4, hj => exact absurd hj (by omega)) hnA
  have hZM := va_Zref (A := fun q : Nat => s.heap.size ≤ q) (hts (.laysStatic "GumHall$Story" "MOST" "[I") (inT_2 (List.mem_of_getElem? (i := 56) rfl))) (hts (.initialized "GumHall$Story") (inT_1 (List.mem_of_getElem? (i := 2) rfl))) hvM hnA
  have hc0 : va_Nw (.castable "GumHall$Biter" "GumHall$Sitter") s := va_Nw.of rfl (hts (.castable "GumHall$Biter" "GumHall$Sitter") (inT_5 (List.mem_of_getElem? (i := 62) rfl)))
  have hc2 : va_Nw (.castable "GumHall$Fickle" "GumHall$Sitter") s := va_Nw.of rfl (hts (.castable "GumHall$Fickle" "GumHall$Sitter") (inT_5 (List.mem_of_getElem? (i := 63) rfl)))
  have hao1 : va_AO "GumHall$Sheet" s := va_AO.of (hts (.arrayOver (.object "GumHall$Sheet")) (by decide +kernel))
  have hao2 : va_AO "GumHall$Sitter" s := va_AO.of (hts (.arrayOver (.object "GumHall$Sitter")) (by decide +kernel))
  obtain ⟨c0, iS0, hKn0⟩ := u_known (C := RX0) (T := TX0) (N := 1) (n := 1) hts inX0 (hts (.instantiable RX0 1) (inT_1 (List.mem_of_getElem? (i := 181) rfl)))
  obtain ⟨c1, iS1, hKn1⟩ := u_known (C := RX1) (T := TX1) (N := 3) (n := 3) hts inX1 (hts (.instantiable RX1 3) (inT_1 (List.mem_of_getElem? (i := 55) rfl)))
  obtain ⟨c2, iS2, hKn2⟩ := u_known (C := RX2) (T := TX2) (N := 1) (n := 1) hts inX2 (hts (.instantiable RX2 1) (inT_1 (List.mem_of_getElem? (i := 200) rfl)))
  obtain ⟨c3, iS3, hKn3⟩ := u_known (C := RX3) (T := TX3) (N := 3) (n := 3) hts inX3 (hts (.instantiable RX3 3) (inT_1 (List.mem_of_getElem? (i := 81) rfl)))
  obtain ⟨c4, iS4, hKn4⟩ := u_known (C := RX4) (T := TX4) (N := 1) (n := 1) hts inX4 (hts (.instantiable RX4 1) (inT_1 (List.mem_of_getElem? (i := 204) rfl)))
  obtain ⟨c5, iS5, hKn5⟩ := u_known (C := RX5) (T := TX5) (N := 7) (n := 7) hts inX5 (hts (.instantiable RX5 7) (inT_1 (List.mem_of_getElem? (i := 26) rfl)))
  obtain ⟨c6, iS6, hKn6⟩ := u_known (C := RX6) (T := TX6) (N := 1) (n := 1) hts inX6 (hts (.instantiable RX6 1) (inT_1 (List.mem_of_getElem? (i := 71) rfl)))
  obtain ⟨c7, iS7, hKn7⟩ := u_known (C := RX7) (T := TX7) (N := 9) (n := 9) hts inX7 (hts (.instantiable RX7 9) (inT_1 (List.mem_of_getElem? (i := 14) rfl)))
  obtain ⟨c8, iS8, hKn8⟩ := u_known (C := RX8) (T := TX8) (N := 42) (n := 42) hts inX8 (hts (.instantiable RX8 42) (inT_3 (List.mem_of_getElem? (i := 129) rfl)))
  obtain ⟨dC, dI, hKc⟩ : ∃ (dC : Nat → ClassId) (dI : Nat → Nat → Nat), ∀ (k : Nat) (q : vw_C), vwCl[k]? = some q → u_Kn s q.1 q.2.1 q.2.2 (dC k) (dI k) := by
    refine ⟨fun k => if k = 0 then c0 else if k = 1 then c1 else if k = 2 then c2 else if k = 3 then c3 else if k = 4 then c4 else if k = 5 then c5 else if k = 6 then c6 else if k = 7 then c7 else c8, fun k => if k = 0 then iS0 else if k = 1 then iS1 else if k = 2 then iS2 else if k = 3 then iS3 else if k = 4 then iS4 else if k = 5 then iS5 else if k = 6 then iS6 else if k = 7 then iS7 else iS8, ?_⟩
    intro k q hq
    match k, hq with
    | 0, hq => cases hq; exact hKn0
    | 1, hq => cases hq; exact hKn1
    | 2, hq => cases hq; exact hKn2
    | 3, hq => cases hq; exact hKn3
    | 4, hq => cases hq; exact hKn4
    | 5, hq => cases hq; exact hKn5
    | 6, hq => cases hq; exact hKn6
    | 7, hq => cases hq; exact hKn7
    | 8, hq => cases hq; exact hKn8
    | k + 9, hq => simp [vwCl] at hq
  have hS : va_S (fun q : Nat => s.heap.size ≤ q) s.heap s.heap [] := va_S.rf
  have hK : va_K (dC, dI) vwCl [] s := ⟨hKc, fun k q h => by simp at h⟩
  have hP : va_P (dC, dI) vwCl [] s.heap := fun k q h => by simp at h
  have hD : va_D (fun q : Nat => s.heap.size ≤ q) [] := ⟨fun i j p q h => by simp at h, fun k q h => by simp at h⟩
  refine x_entry (Nat.le_of_ble_eq_true rfl) (fun ls hl => ?_)
  have hl : lv_has ls 4 [(0, .ref b)] := hl
  refine va_new (ci := 7) (fs := [.null, .null, .null, .null, .null, .null, .int 0, .int 0, .int 0]) (C := RX7) (T := TX7) (N := 9) hx hb hts inX7 tyX7 tyX7_ok hown (hts _ (inT_1 (List.mem_of_getElem? (i := 13) rfl))) (hts _ (inT_1 (List.mem_of_getElem? (i := 14) rfl))) (hts _ (inT_1 (List.mem_of_getElem? (i := 1) rfl))) hK hP hD hS hA rfl (fun j hj => by rcases (show j = 0 ∨ j = 1 ∨ j = 2 ∨ j = 3 ∨ j = 4 ∨ j = 5 ∨ j = 6 ∨ j = 7 ∨ j = 8 by omega) with rfl | rfl | rfl | rfl | rfl | rfl | rfl | rfl | rfl <;> rfl) (Nat.le_of_ble_eq_true rfl) (Nat.le_of_ble_eq_true rfl) dL_law_0 (fun xq H hP hD hS => ?_)
  have hP : va_P (dC, dI) vwCl [(xq, .inr (7, [.null, .null, .null, .null, .null, .null, .int 0, .int 0, .int 0]))] H := hP
  have hD : va_D (fun q : Nat => s.heap.size ≤ q) [(xq, .inr (7, [.null, .null, .null, .null, .null, .null, .int 0, .int 0, .int 0]))] := hD
  refine W.widen (k := 1) (n := 9) (by omega) (by omega) ?_
  refine lv_dup hx hb dL_law_3 rfl ?_
  have hPc := hP.sub (ws' := [(xq, .inr (7, [.null, .null, .null, .null, .null, .null, .int 0, .int 0, .int 0]))]) [0] rfl
  have hDc := hD.sub (ws' := [(xq, .inr (7, [.null, .null, .null, .null, .null, .null, .int 0, .int 0, .int 0]))]) [0] (by decide) rfl
  have hKc := hK.sub (tys' := []) [] rfl
  have hFc := va_free (wc := [(xq, .inr (7, [.null, .null, .null, .null, .null, .null, .int 0, .int 0, .int 0]))]) hD hS hA [0] rfl
  refine va_callv (va_runI (As := []) (rest := [.ref xq]) ⟨hx, hb, hml, hown, hts⟩ (eX7_init l dC dI xq H.size) (cwI 0 hts gW_X7_init rfl rfl rfl (hts _ (inT_1 (List.mem_of_getElem? (i := 1) rfl))) (hts _ (inT_1 (List.mem_of_getElem? (i := 15) rfl))) (hts _ (inT_1 (List.mem_of_getElem? (i := 16) rfl))) rfl (by decide +kernel) ⟨Nat.le_of_ble_eq_true rfl, Nat.le_of_ble_eq_true rfl⟩) ⟨fun a U f mk q => by obtain ⟨q0, q1, qP, qK, qD, qa1, qa2⟩ := q; exact ⟨q0, q1, qP, va_K.moved (u := U) (U := U.calling f mk a) (Vm.Alike.refl U.vm) qK, qD, va_AO.moved (u := U) (U := U.calling f mk a) (Vm.Alike.refl U.vm) qa1, va_AO.moved (u := U) (U := U.calling f mk a) (Vm.Alike.refl U.vm) qa2⟩, fun U hU hW => ⟨rfl, by rw [hU], by rw [hU]; exact hPc, va_K.moved hW.alike hKc, hDc.weaken (fun _ _ _ _ => trivial), hao1.moved hW.alike, hao2.moved hW.alike⟩⟩ rfl rfl hl.1 rfl (lv_room (Nat.le_of_ble_eq_true rfl)) dL_law_4 ⟨Nat.le_of_ble_eq_true rfl, Nat.le_of_ble_eq_true rfl⟩) hS (fun q _ h => hFc q h) hFc (fun u t H1 locs ht hvm hw hB hz1 hk1 hS => ?_)
  obtain ⟨xq1, xcq2, xq3, xcq4, xq5, xcq6, xq7, xq8, xq10, xq11, xq12, xq13, xq14, xq15, xq16, xq18, xq19, xq20, xq21, xq22, xq24, xq25, xq27, xq28, xq30, xq31, hP1, hK1, hD1⟩ := hB
  rw [ht] at hP1
  have hK1 := va_K.moved hvm.symm hK1
  obtain ⟨hP, hD⟩ := va_join (wr := []) (w1 := [(xq, .inr (7, [.ref xq1, .ref xq3, .ref xq5, .ref xq7, .ref xq15, .ref xq20, .int (0), .int (0), .int (0)])), (xq1, .inl (xcq2, 4, .inr (.inr (.inr (.inr (va_up (va_up (va_up (va_up (fun _ => none) (0 : Int32).toNatClampNeg (some xq21)) (1 : Int32).toNatClampNeg (some xq24)) (2 : Int32).toNatClampNeg (some xq27)) (3 : Int32).toNatClampNeg (some xq30))))))), (xq3, .inl (xcq4, 5, .inr (.inr (.inr (.inr (fun _ => none)))))), (xq5, .inl (xcq6, 8, .inl (fun _ => 0))), (xq7, .inr (5, [.ref xq8, .ref xq10, .ref xq11, .ref xq12, .ref xq13, .ref xq14, .int (0)])), (xq8, .inl (xcq6, 4, .inl (fun _ => 0))), (xq10, .inl (xcq6, 48, .inl (fun _ => 0))), (xq11, .inl (xcq6, 48, .inl (fun _ => 0))), (xq12, .inl (xcq6, 48, .inl (fun _ => 0))), (xq13, .inl (xcq6, 48, .inl (fun _ => 0))), (xq14, .inl (xcq6, 48, .inl (fun _ => 0))), (xq15, .inr (1, [.ref xq16, .ref xq18, .ref xq19])), (xq16, .inl (xcq6, 6, .inl (fun _ => 0))), (xq18, .inl (xcq6, 6, .inl (fun _ => 0))), (xq19, .inl (xcq6, 150, .inl (fun _ => 0))), (xq20, .inr (6, [.int (0)])), (xq21, .inr (3, [.ref xq22, .int (0), .int (-1)])), (xq22, .inl (xcq6, 60, .inl (fun _ => 0))), (xq24, .inr (3, [.ref xq25, .int (0), .int (-1)])), (xq25, .inl (xcq6, 60, .inl (fun _ => 0))), (xq27, .inr (3, [.ref xq28, .int (0), .int (-1)])), (xq28, .inl (xcq6, 60, .inl (fun _ => 0))), (xq30, .inr (3, [.ref xq31, .int (0), .int (-1)])), (xq31, .inl (xcq6, 60, .inl (fun _ => 0)))]) hP hD [0] [] rfl rfl (by decide) (by decide) hk1 hFc hP1 hD1
  have hK := (hK.sub (tys' := []) [] rfl).app hK1
  generalize H1 = H at hP hS ⊢
  have hK : va_K (dC, dI) vwCl [(xcq2, .object "GumHall$Sheet"), (xcq4, .object "GumHall$Sitter"), (xcq6, .int)] s := hK
  have hP : va_P (dC, dI) vwCl [(xq, .inr (7, [.ref xq1, .ref xq3, .ref xq5, .ref xq7, .ref xq15, .ref xq20, .int (0), .int (0), .int (0)])), (xq1, .inl (xcq2, 4, .inr (.inr (.inr (.inr (va_up (va_up (va_up (va_up (fun _ => none) (0 : Int32).toNatClampNeg (some xq21)) (1 : Int32).toNatClampNeg (some xq24)) (2 : Int32).toNatClampNeg (some xq27)) (3 : Int32).toNatClampNeg (some xq30))))))), (xq3, .inl (xcq4, 5, .inr (.inr (.inr (.inr (fun _ => none)))))), (xq5, .inl (xcq6, 8, .inl (fun _ => 0))), (xq7, .inr (5, [.ref xq8, .ref xq10, .ref xq11, .ref xq12, .ref xq13, .ref xq14, .int (0)])), (xq8, .inl (xcq6, 4, .inl (fun _ => 0))), (xq10, .inl (xcq6, 48, .inl (fun _ => 0))), (xq11, .inl (xcq6, 48, .inl (fun _ => 0))), (xq12, .inl (xcq6, 48, .inl (fun _ => 0))), (xq13, .inl (xcq6, 48, .inl (fun _ => 0))), (xq14, .inl (xcq6, 48, .inl (fun _ => 0))), (xq15, .inr (1, [.ref xq16, .ref xq18, .ref xq19])), (xq16, .inl (xcq6, 6, .inl (fun _ => 0))), (xq18, .inl (xcq6, 6, .inl (fun _ => 0))), (xq19, .inl (xcq6, 150, .inl (fun _ => 0))), (xq20, .inr (6, [.int (0)])), (xq21, .inr (3, [.ref xq22, .int (0), .int (-1)])), (xq22, .inl (xcq6, 60, .inl (fun _ => 0))), (xq24, .inr (3, [.ref xq25, .int (0), .int (-1)])), (xq25, .inl (xcq6, 60, .inl (fun _ => 0))), (xq27, .inr (3, [.ref xq28, .int (0), .int (-1)])), (xq28, .inl (xcq6, 60, .inl (fun _ => 0))), (xq30, .inr (3, [.ref xq31, .int (0), .int (-1)])), (xq31, .inl (xcq6, 60, .inl (fun _ => 0)))] H := hP
  have hD : va_D (fun q : Nat => s.heap.size ≤ q) [(xq, .inr (7, [.ref xq1, .ref xq3, .ref xq5, .ref xq7, .ref xq15, .ref xq20, .int (0), .int (0), .int (0)])), (xq1, .inl (xcq2, 4, .inr (.inr (.inr (.inr (va_up (va_up (va_up (va_up (fun _ => none) (0 : Int32).toNatClampNeg (some xq21)) (1 : Int32).toNatClampNeg (some xq24)) (2 : Int32).toNatClampNeg (some xq27)) (3 : Int32).toNatClampNeg (some xq30))))))), (xq3, .inl (xcq4, 5, .inr (.inr (.inr (.inr (fun _ => none)))))), (xq5, .inl (xcq6, 8, .inl (fun _ => 0))), (xq7, .inr (5, [.ref xq8, .ref xq10, .ref xq11, .ref xq12, .ref xq13, .ref xq14, .int (0)])), (xq8, .inl (xcq6, 4, .inl (fun _ => 0))), (xq10, .inl (xcq6, 48, .inl (fun _ => 0))), (xq11, .inl (xcq6, 48, .inl (fun _ => 0))), (xq12, .inl (xcq6, 48, .inl (fun _ => 0))), (xq13, .inl (xcq6, 48, .inl (fun _ => 0))), (xq14, .inl (xcq6, 48, .inl (fun _ => 0))), (xq15, .inr (1, [.ref xq16, .ref xq18, .ref xq19])), (xq16, .inl (xcq6, 6, .inl (fun _ => 0))), (xq18, .inl (xcq6, 6, .inl (fun _ => 0))), (xq19, .inl (xcq6, 150, .inl (fun _ => 0))), (xq20, .inr (6, [.int (0)])), (xq21, .inr (3, [.ref xq22, .int (0), .int (-1)])), (xq22, .inl (xcq6, 60, .inl (fun _ => 0))), (xq24, .inr (3, [.ref xq25, .int (0), .int (-1)])), (xq25, .inl (xcq6, 60, .inl (fun _ => 0))), (xq27, .inr (3, [.ref xq28, .int (0), .int (-1)])), (xq28, .inl (xcq6, 60, .inl (fun _ => 0))), (xq30, .inr (3, [.ref xq31, .int (0), .int (-1)])), (xq31, .inl (xcq6, 60, .inl (fun _ => 0)))] := hD
  refine W.widen (k := 24) (n := 695) (by omega) (by omega) ?_
  refine lv_astore_n (lv' := [(1, .ref xq), (0, .ref b)]) hx hb dL_law_7 rfl hl (by decide) rfl (fun ls hl => ?_)
  refine va_new (ci := 8) (fs := [.int 0, .int 0, .int 0, .null, .null, .int 0, .int 0, .int 0, .null, .null, .int 0, .null, .null, .null, .int 0, .null, .null, .null, .int 0, .null, .null, .int 0, .int 0, .int 0, .int 0, .int 0, .int 0, .null, .null, .null, .int 0, .null, .null, .null, .null, .null, .null, .null, .null, .null, .null, .int 0]) (C := RX8) (T := TX8) (N := 42) hx hb hts inX8 tyX8 tyX8_ok hown (hts _ (inT_3 (List.mem_of_getElem? (i := 128) rfl))) (hts _ (inT_3 (List.mem_of_getElem? (i := 129) rfl))) (hts _ (inT_1 (List.mem_of_getElem? (i := 6) rfl))) hK hP hD hS hA rfl (fun j hj => by rcases (show j = 0 ∨ j = 1 ∨ j = 2 ∨ j = 3 ∨ j = 4 ∨ j = 5 ∨ j = 6 ∨ j = 7 ∨ j = 8 ∨ j = 9 ∨ j = 10 ∨ j = 11 ∨ j = 12 ∨ j = 13 ∨ j = 14 ∨ j = 15 ∨ j = 16 ∨ j = 17 ∨ j = 18 ∨ j = 19 ∨ j = 20 ∨ j = 21 ∨ j = 22 ∨ j = 23 ∨ j = 24 ∨ j = 25 ∨ j = 26 ∨ j = 27 ∨ j = 28 ∨ j = 29 ∨ j = 30 ∨ j = 31 ∨ j = 32 ∨ j = 33 ∨ j = 34 ∨ j = 35 ∨ j = 36 ∨ j = 37 ∨ j = 38 ∨ j = 39 ∨ j = 40 ∨ j = 41 by omega) with rfl | rfl | rfl | rfl | rfl | rfl | rfl | rfl | rfl | rfl | rfl | rfl | rfl | rfl | rfl | rfl | rfl | rfl | rfl | rfl | rfl | rfl | rfl | rfl | rfl | rfl | rfl | rfl | rfl | rfl | rfl | rfl | rfl | rfl | rfl | rfl | rfl | rfl | rfl | rfl | rfl | rfl <;> rfl) (Nat.le_of_ble_eq_true rfl) (Nat.le_of_ble_eq_true rfl) dL_law_8 (fun yq H hP hD hS => ?_)
  have hP : va_P (dC, dI) vwCl [(xq, .inr (7, [.ref xq1, .ref xq3, .ref xq5, .ref xq7, .ref xq15, .ref xq20, .int (0), .int (0), .int (0)])), (xq1, .inl (xcq2, 4, .inr (.inr (.inr (.inr (va_up (va_up (va_up (va_up (fun _ => none) (0 : Int32).toNatClampNeg (some xq21)) (1 : Int32).toNatClampNeg (some xq24)) (2 : Int32).toNatClampNeg (some xq27)) (3 : Int32).toNatClampNeg (some xq30))))))), (xq3, .inl (xcq4, 5, .inr (.inr (.inr (.inr (fun _ => none)))))), (xq5, .inl (xcq6, 8, .inl (fun _ => 0))), (xq7, .inr (5, [.ref xq8, .ref xq10, .ref xq11, .ref xq12, .ref xq13, .ref xq14, .int (0)])), (xq8, .inl (xcq6, 4, .inl (fun _ => 0))), (xq10, .inl (xcq6, 48, .inl (fun _ => 0))), (xq11, .inl (xcq6, 48, .inl (fun _ => 0))), (xq12, .inl (xcq6, 48, .inl (fun _ => 0))), (xq13, .inl (xcq6, 48, .inl (fun _ => 0))), (xq14, .inl (xcq6, 48, .inl (fun _ => 0))), (xq15, .inr (1, [.ref xq16, .ref xq18, .ref xq19])), (xq16, .inl (xcq6, 6, .inl (fun _ => 0))), (xq18, .inl (xcq6, 6, .inl (fun _ => 0))), (xq19, .inl (xcq6, 150, .inl (fun _ => 0))), (xq20, .inr (6, [.int (0)])), (xq21, .inr (3, [.ref xq22, .int (0), .int (-1)])), (xq22, .inl (xcq6, 60, .inl (fun _ => 0))), (xq24, .inr (3, [.ref xq25, .int (0), .int (-1)])), (xq25, .inl (xcq6, 60, .inl (fun _ => 0))), (xq27, .inr (3, [.ref xq28, .int (0), .int (-1)])), (xq28, .inl (xcq6, 60, .inl (fun _ => 0))), (xq30, .inr (3, [.ref xq31, .int (0), .int (-1)])), (xq31, .inl (xcq6, 60, .inl (fun _ => 0))), (yq, .inr (8, [.int 0, .int 0, .int 0, .null, .null, .int 0, .int 0, .int 0, .null, .null, .int 0, .null, .null, .null, .int 0, .null, .null, .null, .int 0, .null, .null, .int 0, .int 0, .int 0, .int 0, .int 0, .int 0, .null, .null, .null, .int 0, .null, .null, .null, .null, .null, .null, .null, .null, .null, .null, .int 0]))] H := hP
  have hD : va_D (fun q : Nat => s.heap.size ≤ q) [(xq, .inr (7, [.ref xq1, .ref xq3, .ref xq5, .ref xq7, .ref xq15, .ref xq20, .int (0), .int (0), .int (0)])), (xq1, .inl (xcq2, 4, .inr (.inr (.inr (.inr (va_up (va_up (va_up (va_up (fun _ => none) (0 : Int32).toNatClampNeg (some xq21)) (1 : Int32).toNatClampNeg (some xq24)) (2 : Int32).toNatClampNeg (some xq27)) (3 : Int32).toNatClampNeg (some xq30))))))), (xq3, .inl (xcq4, 5, .inr (.inr (.inr (.inr (fun _ => none)))))), (xq5, .inl (xcq6, 8, .inl (fun _ => 0))), (xq7, .inr (5, [.ref xq8, .ref xq10, .ref xq11, .ref xq12, .ref xq13, .ref xq14, .int (0)])), (xq8, .inl (xcq6, 4, .inl (fun _ => 0))), (xq10, .inl (xcq6, 48, .inl (fun _ => 0))), (xq11, .inl (xcq6, 48, .inl (fun _ => 0))), (xq12, .inl (xcq6, 48, .inl (fun _ => 0))), (xq13, .inl (xcq6, 48, .inl (fun _ => 0))), (xq14, .inl (xcq6, 48, .inl (fun _ => 0))), (xq15, .inr (1, [.ref xq16, .ref xq18, .ref xq19])), (xq16, .inl (xcq6, 6, .inl (fun _ => 0))), (xq18, .inl (xcq6, 6, .inl (fun _ => 0))), (xq19, .inl (xcq6, 150, .inl (fun _ => 0))), (xq20, .inr (6, [.int (0)])), (xq21, .inr (3, [.ref xq22, .int (0), .int (-1)])), (xq22, .inl (xcq6, 60, .inl (fun _ => 0))), (xq24, .inr (3, [.ref xq25, .int (0), .int (-1)])), (xq25, .inl (xcq6, 60, .inl (fun _ => 0))), (xq27, .inr (3, [.ref xq28, .int (0), .int (-1)])), (xq28, .inl (xcq6, 60, .inl (fun _ => 0))), (xq30, .inr (3, [.ref xq31, .int (0), .int (-1)])), (xq31, .inl (xcq6, 60, .inl (fun _ => 0))), (yq, .inr (8, [.int 0, .int 0, .int 0, .null, .null, .int 0, .int 0, .int 0, .null, .null, .int 0, .null, .null, .null, .int 0, .null, .null, .null, .int 0, .null, .null, .int 0, .int 0, .int 0, .int 0, .int 0, .int 0, .null, .null, .null, .int 0, .null, .null, .null, .null, .null, .null, .null, .null, .null, .null, .int 0]))] := hD
  refine W.widen (k := 25) (n := 737) (by omega) (by omega) ?_
  refine lv_dup hx hb dL_law_11 rfl ?_
  have hPc := hP.sub (ws' := [(yq, .inr (8, [.int 0, .int 0, .int 0, .null, .null, .int 0, .int 0, .int 0, .null, .null, .int 0, .null, .null, .null, .int 0, .null, .null, .null, .int 0, .null, .null, .int 0, .int 0, .int 0, .int 0, .int 0, .int 0, .null, .null, .null, .int 0, .null, .null, .null, .null, .null, .null, .null, .null, .null, .null, .int 0]))]) [24] rfl
  have hDc := hD.sub (ws' := [(yq, .inr (8, [.int 0, .int 0, .int 0, .null, .null, .int 0, .int 0, .int 0, .null, .null, .int 0, .null, .null, .null, .int 0, .null, .null, .null, .int 0, .null, .null, .int 0, .int 0, .int 0, .int 0, .int 0, .int 0, .null, .null, .null, .int 0, .null, .null, .null, .null, .null, .null, .null, .null, .null, .null, .int 0]))]) [24] (by decide) rfl
  have hKc := hK.sub (tys' := []) [] rfl
  have hFc := va_free (wc := [(yq, .inr (8, [.int 0, .int 0, .int 0, .null, .null, .int 0, .int 0, .int 0, .null, .null, .int 0, .null, .null, .null, .int 0, .null, .null, .null, .int 0, .null, .null, .int 0, .int 0, .int 0, .int 0, .int 0, .int 0, .null, .null, .null, .int 0, .null, .null, .null, .null, .null, .null, .null, .null, .null, .null, .int 0]))]) hD hS hA [24] rfl
  refine va_callv (va_runI (As := []) (rest := [.ref yq]) ⟨hx, hb, hml, hown, hts⟩ (eX8_init l dC dI yq H.size) (cwI 0 hts gW_X8_init rfl rfl rfl (hts _ (inT_1 (List.mem_of_getElem? (i := 6) rfl))) (hts _ (inT_3 (List.mem_of_getElem? (i := 130) rfl))) (hts _ (inT_3 (List.mem_of_getElem? (i := 131) rfl))) rfl (by decide +kernel) ⟨Nat.le_of_ble_eq_true rfl, Nat.le_of_ble_eq_true rfl⟩) ⟨fun a U f mk q => by obtain ⟨q0, q1, qP, qK, qD⟩ := q; exact ⟨q0, q1, qP, va_K.moved (u := U) (U := U.calling f mk a) (Vm.Alike.refl U.vm) qK, qD⟩, fun U hU hW => ⟨rfl, by rw [hU], by rw [hU]; exact hPc, va_K.moved hW.alike hKc, hDc.weaken (fun _ _ _ _ => trivial)⟩⟩ rfl rfl hl.1 rfl (lv_room (Nat.le_of_ble_eq_true rfl)) dL_law_12 ⟨Nat.le_of_ble_eq_true rfl, Nat.le_of_ble_eq_true rfl⟩) hS (fun q _ h => hFc q h) hFc (fun u t H1 locs ht hvm hw hB hz1 hk1 hS => ?_)
  obtain ⟨yq1, ycq2, yq3, yq5, yq7, yq9, yq11, yq13, yq15, yq17, yq19, yq21, yq23, yq25, yq27, yq29, yq31, yq33, yq35, yq37, yq39, ycq40, yq41, yq43, yq45, yq47, yq49, hP1, hK1, hD1⟩ := hB
  rw [ht] at hP1
  have hK1 := va_K.moved hvm.symm hK1
  obtain ⟨hP, hD⟩ := va_join (wr := [(xq, .inr (7, [.ref xq1, .ref xq3, .ref xq5, .ref xq7, .ref xq15, .ref xq20, .int (0), .int (0), .int (0)])), (xq1, .inl (xcq2, 4, .inr (.inr (.inr (.inr (va_up (va_up (va_up (va_up (fun _ => none) (0 : Int32).toNatClampNeg (some xq21)) (1 : Int32).toNatClampNeg (some xq24)) (2 : Int32).toNatClampNeg (some xq27)) (3 : Int32).toNatClampNeg (some xq30))))))), (xq3, .inl (xcq4, 5, .inr (.inr (.inr (.inr (fun _ => none)))))), (xq5, .inl (xcq6, 8, .inl (fun _ => 0))), (xq7, .inr (5, [.ref xq8, .ref xq10, .ref xq11, .ref xq12, .ref xq13, .ref xq14, .int (0)])), (xq8, .inl (xcq6, 4, .inl (fun _ => 0))), (xq10, .inl (xcq6, 48, .inl (fun _ => 0))), (xq11, .inl (xcq6, 48, .inl (fun _ => 0))), (xq12, .inl (xcq6, 48, .inl (fun _ => 0))), (xq13, .inl (xcq6, 48, .inl (fun _ => 0))), (xq14, .inl (xcq6, 48, .inl (fun _ => 0))), (xq15, .inr (1, [.ref xq16, .ref xq18, .ref xq19])), (xq16, .inl (xcq6, 6, .inl (fun _ => 0))), (xq18, .inl (xcq6, 6, .inl (fun _ => 0))), (xq19, .inl (xcq6, 150, .inl (fun _ => 0))), (xq20, .inr (6, [.int (0)])), (xq21, .inr (3, [.ref xq22, .int (0), .int (-1)])), (xq22, .inl (xcq6, 60, .inl (fun _ => 0))), (xq24, .inr (3, [.ref xq25, .int (0), .int (-1)])), (xq25, .inl (xcq6, 60, .inl (fun _ => 0))), (xq27, .inr (3, [.ref xq28, .int (0), .int (-1)])), (xq28, .inl (xcq6, 60, .inl (fun _ => 0))), (xq30, .inr (3, [.ref xq31, .int (0), .int (-1)])), (xq31, .inl (xcq6, 60, .inl (fun _ => 0)))]) (w1 := [(yq1, .inl (ycq2, 5, .inl (fun _ => 0))), (yq3, .inl (ycq2, 5, .inl (fun _ => 0))), (yq5, .inl (ycq2, 5, .inl (fun _ => 0))), (yq7, .inl (ycq2, 5, .inl (fun _ => 0))), (yq9, .inl (ycq2, 25, .inl (fun _ => 0))), (yq11, .inl (ycq2, 25, .inl (fun _ => 0))), (yq13, .inl (ycq2, 25, .inl (fun _ => 0))), (yq15, .inl (ycq2, 6, .inl (fun _ => 0))), (yq17, .inl (ycq2, 6, .inl (fun _ => 0))), (yq19, .inl (ycq2, 6, .inl (fun _ => 0))), (yq21, .inl (ycq2, 6, .inl (fun _ => 0))), (yq23, .inl (ycq2, 6, .inl (fun _ => 0))), (yq25, .inl (ycq2, 6, .inl (fun _ => 0))), (yq27, .inl (ycq2, 6, .inl (fun _ => 0))), (yq29, .inl (ycq2, 150, .inl (fun _ => 0))), (yq31, .inl (ycq2, 8, .inl (fun _ => 0))), (yq33, .inl (ycq2, 8, .inl (fun _ => 0))), (yq35, .inl (ycq2, 8, .inl (fun _ => 0))), (yq37, .inl (ycq2, 8, .inl (fun _ => 0))), (yq39, .inl (ycq40, 30, .inr (.inl (fun _ => 0)))), (yq41, .inl (ycq40, 30, .inr (.inl (fun _ => 0)))), (yq43, .inl (ycq2, 4, .inl (upd (upd (upd (upd (fun _ => 0) (0 : Int32).toNatClampNeg (-1)) (1 : Int32).toNatClampNeg (-1)) (2 : Int32).toNatClampNeg (-1)) (3 : Int32).toNatClampNeg (-1)))), (yq45, .inl (ycq2, 4, .inl (fun _ => 0))), (yq47, .inl (ycq2, 240, .inl (fun _ => 0))), (yq49, .inl (ycq2, 60, .inl (fun _ => 0))), (yq, .inr (8, [.int 0, .int 0, .int 0, .ref yq1, .ref yq3, .int 0, .int 0, .int 0, .ref yq5, .ref yq7, .int 0, .ref yq9, .ref yq11, .ref yq13, .int 0, .ref yq15, .ref yq17, .ref yq19, .int 0, .ref yq21, .ref yq23, .int (-9), .int (-9), .int 0, .int 0, .int (-9), .int 0, .ref yq25, .ref yq27, .ref yq29, .int 0, .ref yq31, .ref yq33, .ref yq35, .ref yq37, .ref yq39, .ref yq41, .ref yq43, .ref yq45, .ref yq47, .ref yq49, .int 0]))]) hP hD [24] [0, 1, 2, 3, 4, 5, 6, 7, 8, 9, 10, 11, 12, 13, 14, 15, 16, 17, 18, 19, 20, 21, 22, 23] rfl rfl (by decide) (by decide) hk1 hFc hP1 hD1
  have hK := (hK.sub (tys' := [(xcq2, .object "GumHall$Sheet"), (xcq4, .object "GumHall$Sitter"), (xcq6, .int)]) [0, 1, 2] rfl).app hK1
  generalize H1 = H at hP hS ⊢
  have hK : va_K (dC, dI) vwCl [(xcq2, .object "GumHall$Sheet"), (xcq4, .object "GumHall$Sitter"), (xcq6, .int), (ycq2, .int), (ycq40, .long)] s := hK
  obtain rfl : xcq6 = ycq2 := e_sameI (hK.2 2 _ rfl).2 (hK.2 3 _ rfl).2
  have hP : va_P (dC, dI) vwCl [(xq, .inr (7, [.ref xq1, .ref xq3, .ref xq5, .ref xq7, .ref xq15, .ref xq20, .int (0), .int (0), .int (0)])), (xq1, .inl (xcq2, 4, .inr (.inr (.inr (.inr (va_up (va_up (va_up (va_up (fun _ => none) (0 : Int32).toNatClampNeg (some xq21)) (1 : Int32).toNatClampNeg (some xq24)) (2 : Int32).toNatClampNeg (some xq27)) (3 : Int32).toNatClampNeg (some xq30))))))), (xq3, .inl (xcq4, 5, .inr (.inr (.inr (.inr (fun _ => none)))))), (xq5, .inl (xcq6, 8, .inl (fun _ => 0))), (xq7, .inr (5, [.ref xq8, .ref xq10, .ref xq11, .ref xq12, .ref xq13, .ref xq14, .int (0)])), (xq8, .inl (xcq6, 4, .inl (fun _ => 0))), (xq10, .inl (xcq6, 48, .inl (fun _ => 0))), (xq11, .inl (xcq6, 48, .inl (fun _ => 0))), (xq12, .inl (xcq6, 48, .inl (fun _ => 0))), (xq13, .inl (xcq6, 48, .inl (fun _ => 0))), (xq14, .inl (xcq6, 48, .inl (fun _ => 0))), (xq15, .inr (1, [.ref xq16, .ref xq18, .ref xq19])), (xq16, .inl (xcq6, 6, .inl (fun _ => 0))), (xq18, .inl (xcq6, 6, .inl (fun _ => 0))), (xq19, .inl (xcq6, 150, .inl (fun _ => 0))), (xq20, .inr (6, [.int (0)])), (xq21, .inr (3, [.ref xq22, .int (0), .int (-1)])), (xq22, .inl (xcq6, 60, .inl (fun _ => 0))), (xq24, .inr (3, [.ref xq25, .int (0), .int (-1)])), (xq25, .inl (xcq6, 60, .inl (fun _ => 0))), (xq27, .inr (3, [.ref xq28, .int (0), .int (-1)])), (xq28, .inl (xcq6, 60, .inl (fun _ => 0))), (xq30, .inr (3, [.ref xq31, .int (0), .int (-1)])), (xq31, .inl (xcq6, 60, .inl (fun _ => 0))), (yq1, .inl (xcq6, 5, .inl (fun _ => 0))), (yq3, .inl (xcq6, 5, .inl (fun _ => 0))), (yq5, .inl (xcq6, 5, .inl (fun _ => 0))), (yq7, .inl (xcq6, 5, .inl (fun _ => 0))), (yq9, .inl (xcq6, 25, .inl (fun _ => 0))), (yq11, .inl (xcq6, 25, .inl (fun _ => 0))), (yq13, .inl (xcq6, 25, .inl (fun _ => 0))), (yq15, .inl (xcq6, 6, .inl (fun _ => 0))), (yq17, .inl (xcq6, 6, .inl (fun _ => 0))), (yq19, .inl (xcq6, 6, .inl (fun _ => 0))), (yq21, .inl (xcq6, 6, .inl (fun _ => 0))), (yq23, .inl (xcq6, 6, .inl (fun _ => 0))), (yq25, .inl (xcq6, 6, .inl (fun _ => 0))), (yq27, .inl (xcq6, 6, .inl (fun _ => 0))), (yq29, .inl (xcq6, 150, .inl (fun _ => 0))), (yq31, .inl (xcq6, 8, .inl (fun _ => 0))), (yq33, .inl (xcq6, 8, .inl (fun _ => 0))), (yq35, .inl (xcq6, 8, .inl (fun _ => 0))), (yq37, .inl (xcq6, 8, .inl (fun _ => 0))), (yq39, .inl (ycq40, 30, .inr (.inl (fun _ => 0)))), (yq41, .inl (ycq40, 30, .inr (.inl (fun _ => 0)))), (yq43, .inl (xcq6, 4, .inl (upd (upd (upd (upd (fun _ => 0) (0 : Int32).toNatClampNeg (-1)) (1 : Int32).toNatClampNeg (-1)) (2 : Int32).toNatClampNeg (-1)) (3 : Int32).toNatClampNeg (-1)))), (yq45, .inl (xcq6, 4, .inl (fun _ => 0))), (yq47, .inl (xcq6, 240, .inl (fun _ => 0))), (yq49, .inl (xcq6, 60, .inl (fun _ => 0))), (yq, .inr (8, [.int 0, .int 0, .int 0, .ref yq1, .ref yq3, .int 0, .int 0, .int 0, .ref yq5, .ref yq7, .int 0, .ref yq9, .ref yq11, .ref yq13, .int 0, .ref yq15, .ref yq17, .ref yq19, .int 0, .ref yq21, .ref yq23, .int (-9), .int (-9), .int 0, .int 0, .int (-9), .int 0, .ref yq25, .ref yq27, .ref yq29, .int 0, .ref yq31, .ref yq33, .ref yq35, .ref yq37, .ref yq39, .ref yq41, .ref yq43, .ref yq45, .ref yq47, .ref yq49, .int 0]))] H := hP
  have hD : va_D (fun q : Nat => s.heap.size ≤ q) [(xq, .inr (7, [.ref xq1, .ref xq3, .ref xq5, .ref xq7, .ref xq15, .ref xq20, .int (0), .int (0), .int (0)])), (xq1, .inl (xcq2, 4, .inr (.inr (.inr (.inr (va_up (va_up (va_up (va_up (fun _ => none) (0 : Int32).toNatClampNeg (some xq21)) (1 : Int32).toNatClampNeg (some xq24)) (2 : Int32).toNatClampNeg (some xq27)) (3 : Int32).toNatClampNeg (some xq30))))))), (xq3, .inl (xcq4, 5, .inr (.inr (.inr (.inr (fun _ => none)))))), (xq5, .inl (xcq6, 8, .inl (fun _ => 0))), (xq7, .inr (5, [.ref xq8, .ref xq10, .ref xq11, .ref xq12, .ref xq13, .ref xq14, .int (0)])), (xq8, .inl (xcq6, 4, .inl (fun _ => 0))), (xq10, .inl (xcq6, 48, .inl (fun _ => 0))), (xq11, .inl (xcq6, 48, .inl (fun _ => 0))), (xq12, .inl (xcq6, 48, .inl (fun _ => 0))), (xq13, .inl (xcq6, 48, .inl (fun _ => 0))), (xq14, .inl (xcq6, 48, .inl (fun _ => 0))), (xq15, .inr (1, [.ref xq16, .ref xq18, .ref xq19])), (xq16, .inl (xcq6, 6, .inl (fun _ => 0))), (xq18, .inl (xcq6, 6, .inl (fun _ => 0))), (xq19, .inl (xcq6, 150, .inl (fun _ => 0))), (xq20, .inr (6, [.int (0)])), (xq21, .inr (3, [.ref xq22, .int (0), .int (-1)])), (xq22, .inl (xcq6, 60, .inl (fun _ => 0))), (xq24, .inr (3, [.ref xq25, .int (0), .int (-1)])), (xq25, .inl (xcq6, 60, .inl (fun _ => 0))), (xq27, .inr (3, [.ref xq28, .int (0), .int (-1)])), (xq28, .inl (xcq6, 60, .inl (fun _ => 0))), (xq30, .inr (3, [.ref xq31, .int (0), .int (-1)])), (xq31, .inl (xcq6, 60, .inl (fun _ => 0))), (yq1, .inl (xcq6, 5, .inl (fun _ => 0))), (yq3, .inl (xcq6, 5, .inl (fun _ => 0))), (yq5, .inl (xcq6, 5, .inl (fun _ => 0))), (yq7, .inl (xcq6, 5, .inl (fun _ => 0))), (yq9, .inl (xcq6, 25, .inl (fun _ => 0))), (yq11, .inl (xcq6, 25, .inl (fun _ => 0))), (yq13, .inl (xcq6, 25, .inl (fun _ => 0))), (yq15, .inl (xcq6, 6, .inl (fun _ => 0))), (yq17, .inl (xcq6, 6, .inl (fun _ => 0))), (yq19, .inl (xcq6, 6, .inl (fun _ => 0))), (yq21, .inl (xcq6, 6, .inl (fun _ => 0))), (yq23, .inl (xcq6, 6, .inl (fun _ => 0))), (yq25, .inl (xcq6, 6, .inl (fun _ => 0))), (yq27, .inl (xcq6, 6, .inl (fun _ => 0))), (yq29, .inl (xcq6, 150, .inl (fun _ => 0))), (yq31, .inl (xcq6, 8, .inl (fun _ => 0))), (yq33, .inl (xcq6, 8, .inl (fun _ => 0))), (yq35, .inl (xcq6, 8, .inl (fun _ => 0))), (yq37, .inl (xcq6, 8, .inl (fun _ => 0))), (yq39, .inl (ycq40, 30, .inr (.inl (fun _ => 0)))), (yq41, .inl (ycq40, 30, .inr (.inl (fun _ => 0)))), (yq43, .inl (xcq6, 4, .inl (upd (upd (upd (upd (fun _ => 0) (0 : Int32).toNatClampNeg (-1)) (1 : Int32).toNatClampNeg (-1)) (2 : Int32).toNatClampNeg (-1)) (3 : Int32).toNatClampNeg (-1)))), (yq45, .inl (xcq6, 4, .inl (fun _ => 0))), (yq47, .inl (xcq6, 240, .inl (fun _ => 0))), (yq49, .inl (xcq6, 60, .inl (fun _ => 0))), (yq, .inr (8, [.int 0, .int 0, .int 0, .ref yq1, .ref yq3, .int 0, .int 0, .int 0, .ref yq5, .ref yq7, .int 0, .ref yq9, .ref yq11, .ref yq13, .int 0, .ref yq15, .ref yq17, .ref yq19, .int 0, .ref yq21, .ref yq23, .int (-9), .int (-9), .int 0, .int 0, .int (-9), .int 0, .ref yq25, .ref yq27, .ref yq29, .int 0, .ref yq31, .ref yq33, .ref yq35, .ref yq37, .ref yq39, .ref yq41, .ref yq43, .ref yq45, .ref yq47, .ref yq49, .int 0]))] := hD
  have hP := hP.sub (ws' := [(xq, .inr (7, [.ref xq1, .ref xq3, .ref xq5, .ref xq7, .ref xq15, .ref xq20, .int (0), .int (0), .int (0)])), (xq1, .inl (xcq2, 4, .inr (.inr (.inr (.inr (va_up (va_up (va_up (va_up (fun _ => none) (0 : Int32).toNatClampNeg (some xq21)) (1 : Int32).toNatClampNeg (some xq24)) (2 : Int32).toNatClampNeg (some xq27)) (3 : Int32).toNatClampNeg (some xq30))))))), (xq3, .inl (xcq4, 5, .inr (.inr (.inr (.inr (fun _ => none)))))), (xq5, .inl (xcq6, 8, .inl (fun _ => 0))), (xq7, .inr (5, [.ref xq8, .ref xq10, .ref xq11, .ref xq12, .ref xq13, .ref xq14, .int (0)])), (xq8, .inl (xcq6, 4, .inl (fun _ => 0))), (xq10, .inl (xcq6, 48, .inl (fun _ => 0))), (xq11, .inl (xcq6, 48, .inl (fun _ => 0))), (xq12, .inl (xcq6, 48, .inl (fun _ => 0))), (xq13, .inl (xcq6, 48, .inl (fun _ => 0))), (xq14, .inl (xcq6, 48, .inl (fun _ => 0))), (xq15, .inr (1, [.ref xq16, .ref xq18, .ref xq19])), (xq16, .inl (xcq6, 6, .inl (fun _ => 0))), (xq18, .inl (xcq6, 6, .inl (fun _ => 0))), (xq19, .inl (xcq6, 150, .inl (fun _ => 0))), (xq20, .inr (6, [.int (0)])), (xq21, .inr (3, [.ref xq22, .int (0), .int (-1)])), (xq22, .inl (xcq6, 60, .inl (fun _ => 0))), (xq24, .inr (3, [.ref xq25, .int (0), .int (-1)])), (xq25, .inl (xcq6, 60, .inl (fun _ => 0))), (xq27, .inr (3, [.ref xq28, .int (0), .int (-1)])), (xq28, .inl (xcq6, 60, .inl (fun _ => 0))), (xq30, .inr (3, [.ref xq31, .int (0), .int (-1)])), (xq31, .inl (xcq6, 60, .inl (fun _ => 0))), (yq, .inr (8, [.int 0, .int 0, .int 0, .ref yq1, .ref yq3, .int 0, .int 0, .int 0, .ref yq5, .ref yq7, .int 0, .ref yq9, .ref yq11, .ref yq13, .int 0, .ref yq15, .ref yq17, .ref yq19, .int 0, .ref yq21, .ref yq23, .int (-9), .int (-9), .int 0, .int 0, .int (-9), .int 0, .ref yq25, .ref yq27, .ref yq29, .int 0, .ref yq31, .ref yq33, .ref yq35, .ref yq37, .ref yq39, .ref yq41, .ref yq43, .ref yq45, .ref yq47, .ref yq49, .int 0])), (yq1, .inl (xcq6, 5, .inl (fun _ => 0))), (yq3, .inl (xcq6, 5, .inl (fun _ => 0))), (yq5, .inl (xcq6, 5, .inl (fun _ => 0))), (yq7, .inl (xcq6, 5, .inl (fun _ => 0))), (yq9, .inl (xcq6, 25, .inl (fun _ => 0))), (yq11, .inl (xcq6, 25, .inl (fun _ => 0))), (yq13, .inl (xcq6, 25, .inl (fun _ => 0))), (yq15, .inl (xcq6, 6, .inl (fun _ => 0))), (yq17, .inl (xcq6, 6, .inl (fun _ => 0))), (yq19, .inl (xcq6, 6, .inl (fun _ => 0))), (yq21, .inl (xcq6, 6, .inl (fun _ => 0))), (yq23, .inl (xcq6, 6, .inl (fun _ => 0))), (yq25, .inl (xcq6, 6, .inl (fun _ => 0))), (yq27, .inl (xcq6, 6, .inl (fun _ => 0))), (yq29, .inl (xcq6, 150, .inl (fun _ => 0))), (yq31, .inl (xcq6, 8, .inl (fun _ => 0))), (yq33, .inl (xcq6, 8, .inl (fun _ => 0))), (yq35, .inl (xcq6, 8, .inl (fun _ => 0))), (yq37, .inl (xcq6, 8, .inl (fun _ => 0))), (yq39, .inl (ycq40, 30, .inr (.inl (fun _ => 0)))), (yq41, .inl (ycq40, 30, .inr (.inl (fun _ => 0)))), (yq43, .inl (xcq6, 4, .inl (upd (upd (upd (upd (fun _ => 0) (0 : Int32).toNatClampNeg (-1)) (1 : Int32).toNatClampNeg (-1)) (2 : Int32).toNatClampNeg (-1)) (3 : Int32).toNatClampNeg (-1)))), (yq45, .inl (xcq6, 4, .inl (fun _ => 0))), (yq47, .inl (xcq6, 240, .inl (fun _ => 0))), (yq49, .inl (xcq6, 60, .inl (fun _ => 0)))]) [0, 1, 2, 3, 4, 5, 6, 7, 8, 9, 10, 11, 12, 13, 14, 15, 16, 17, 18, 19, 20, 21, 22, 23, 49, 24, 25, 26, 27, 28, 29, 30, 31, 32, 33, 34, 35, 36, 37, 38, 39, 40, 41, 42, 43, 44, 45, 46, 47, 48] rfl
  have hD := hD.sub (ws' := [(xq, .inr (7, [.ref xq1, .ref xq3, .ref xq5, .ref xq7, .ref xq15, .ref xq20, .int (0), .int (0), .int (0)])), (xq1, .inl (xcq2, 4, .inr (.inr (.inr (.inr (va_up (va_up (va_up (va_up (fun _ => none) (0 : Int32).toNatClampNeg (some xq21)) (1 : Int32).toNatClampNeg (some xq24)) (2 : Int32).toNatClampNeg (some xq27)) (3 : Int32).toNatClampNeg (some xq30))))))), (xq3, .inl (xcq4, 5, .inr (.inr (.inr (.inr (fun _ => none)))))), (xq5, .inl (xcq6, 8, .inl (fun _ => 0))), (xq7, .inr (5, [.ref xq8, .ref xq10, .ref xq11, .ref xq12, .ref xq13, .ref xq14, .int (0)])), (xq8, .inl (xcq6, 4, .inl (fun _ => 0))), (xq10, .inl (xcq6, 48, .inl (fun _ => 0))), (xq11, .inl (xcq6, 48, .inl (fun _ => 0))), (xq12, .inl (xcq6, 48, .inl (fun _ => 0))), (xq13, .inl (xcq6, 48, .inl (fun _ => 0))), (xq14, .inl (xcq6, 48, .inl (fun _ => 0))), (xq15, .inr (1, [.ref xq16, .ref xq18, .ref xq19])), (xq16, .inl (xcq6, 6, .inl (fun _ => 0))), (xq18, .inl (xcq6, 6, .inl (fun _ => 0))), (xq19, .inl (xcq6, 150, .inl (fun _ => 0))), (xq20, .inr (6, [.int (0)])), (xq21, .inr (3, [.ref xq22, .int (0), .int (-1)])), (xq22, .inl (xcq6, 60, .inl (fun _ => 0))), (xq24, .inr (3, [.ref xq25, .int (0), .int (-1)])), (xq25, .inl (xcq6, 60, .inl (fun _ => 0))), (xq27, .inr (3, [.ref xq28, .int (0), .int (-1)])), (xq28, .inl (xcq6, 60, .inl (fun _ => 0))), (xq30, .inr (3, [.ref xq31, .int (0), .int (-1)])), (xq31, .inl (xcq6, 60, .inl (fun _ => 0))), (yq, .inr (8, [.int 0, .int 0, .int 0, .ref yq1, .ref yq3, .int 0, .int 0, .int 0, .ref yq5, .ref yq7, .int 0, .ref yq9, .ref yq11, .ref yq13, .int 0, .ref yq15, .ref yq17, .ref yq19, .int 0, .ref yq21, .ref yq23, .int (-9), .int (-9), .int 0, .int 0, .int (-9), .int 0, .ref yq25, .ref yq27, .ref yq29, .int 0, .ref yq31, .ref yq33, .ref yq35, .ref yq37, .ref yq39, .ref yq41, .ref yq43, .ref yq45, .ref yq47, .ref yq49, .int 0])), (yq1, .inl (xcq6, 5, .inl (fun _ => 0))), (yq3, .inl (xcq6, 5, .inl (fun _ => 0))), (yq5, .inl (xcq6, 5, .inl (fun _ => 0))), (yq7, .inl (xcq6, 5, .inl (fun _ => 0))), (yq9, .inl (xcq6, 25, .inl (fun _ => 0))), (yq11, .inl (xcq6, 25, .inl (fun _ => 0))), (yq13, .inl (xcq6, 25, .inl (fun _ => 0))), (yq15, .inl (xcq6, 6, .inl (fun _ => 0))), (yq17, .inl (xcq6, 6, .inl (fun _ => 0))), (yq19, .inl (xcq6, 6, .inl (fun _ => 0))), (yq21, .inl (xcq6, 6, .inl (fun _ => 0))), (yq23, .inl (xcq6, 6, .inl (fun _ => 0))), (yq25, .inl (xcq6, 6, .inl (fun _ => 0))), (yq27, .inl (xcq6, 6, .inl (fun _ => 0))), (yq29, .inl (xcq6, 150, .inl (fun _ => 0))), (yq31, .inl (xcq6, 8, .inl (fun _ => 0))), (yq33, .inl (xcq6, 8, .inl (fun _ => 0))), (yq35, .inl (xcq6, 8, .inl (fun _ => 0))), (yq37, .inl (xcq6, 8, .inl (fun _ => 0))), (yq39, .inl (ycq40, 30, .inr (.inl (fun _ => 0)))), (yq41, .inl (ycq40, 30, .inr (.inl (fun _ => 0)))), (yq43, .inl (xcq6, 4, .inl (upd (upd (upd (upd (fun _ => 0) (0 : Int32).toNatClampNeg (-1)) (1 : Int32).toNatClampNeg (-1)) (2 : Int32).toNatClampNeg (-1)) (3 : Int32).toNatClampNeg (-1)))), (yq45, .inl (xcq6, 4, .inl (fun _ => 0))), (yq47, .inl (xcq6, 240, .inl (fun _ => 0))), (yq49, .inl (xcq6, 60, .inl (fun _ => 0)))]) [0, 1, 2, 3, 4, 5, 6, 7, 8, 9, 10, 11, 12, 13, 14, 15, 16, 17, 18, 19, 20, 21, 22, 23, 49, 24, 25, 26, 27, 28, 29, 30, 31, 32, 33, 34, 35, 36, 37, 38, 39, 40, 41, 42, 43, 44, 45, 46, 47, 48] (by decide) rfl
  refine W.widen (k := 2000) (n := 2000) (by omega) (by omega) ?_
  obtain ⟨g, hg⟩ : ∃ g : XG, g = ((dC, dI), (xcq6, ycq40, xcq2, xcq4), (fun j => [xq, xq1, xq3, xq5, xq7, xq8, xq10, xq11, xq12, xq13, xq14, xq15, xq16, xq18, xq19, xq20, xq21, xq22, xq24, xq25, xq27, xq28, xq30, xq31, yq, yq1, yq3, yq5, yq7, yq9, yq11, yq13, yq15, yq17, yq19, yq21, yq23, yq25, yq27, yq29, yq31, yq33, yq35, yq37, yq39, yq41, yq43, yq45, yq47, yq49].getD j 0), aF, aM) := ⟨_, rfl⟩
  have hWd : [(xq, .inr (7, [.ref xq1, .ref xq3, .ref xq5, .ref xq7, .ref xq15, .ref xq20, .int (0), .int (0), .int (0)])), (xq1, .inl (xcq2, 4, .inr (.inr (.inr (.inr (va_up (va_up (va_up (va_up (fun _ => none) (0 : Int32).toNatClampNeg (some xq21)) (1 : Int32).toNatClampNeg (some xq24)) (2 : Int32).toNatClampNeg (some xq27)) (3 : Int32).toNatClampNeg (some xq30))))))), (xq3, .inl (xcq4, 5, .inr (.inr (.inr (.inr (fun _ => none)))))), (xq5, .inl (xcq6, 8, .inl (fun _ => 0))), (xq7, .inr (5, [.ref xq8, .ref xq10, .ref xq11, .ref xq12, .ref xq13, .ref xq14, .int (0)])), (xq8, .inl (xcq6, 4, .inl (fun _ => 0))), (xq10, .inl (xcq6, 48, .inl (fun _ => 0))), (xq11, .inl (xcq6, 48, .inl (fun _ => 0))), (xq12, .inl (xcq6, 48, .inl (fun _ => 0))), (xq13, .inl (xcq6, 48, .inl (fun _ => 0))), (xq14, .inl (xcq6, 48, .inl (fun _ => 0))), (xq15, .inr (1, [.ref xq16, .ref xq18, .ref xq19])), (xq16, .inl (xcq6, 6, .inl (fun _ => 0))), (xq18, .inl (xcq6, 6, .inl (fun _ => 0))), (xq19, .inl (xcq6, 150, .inl (fun _ => 0))), (xq20, .inr (6, [.int (0)])), (xq21, .inr (3, [.ref xq22, .int (0), .int (-1)])), (xq22, .inl (xcq6, 60, .inl (fun _ => 0))), (xq24, .inr (3, [.ref xq25, .int (0), .int (-1)])), (xq25, .inl (xcq6, 60, .inl (fun _ => 0))), (xq27, .inr (3, [.ref xq28, .int (0), .int (-1)])), (xq28, .inl (xcq6, 60, .inl (fun _ => 0))), (xq30, .inr (3, [.ref xq31, .int (0), .int (-1)])), (xq31, .inl (xcq6, 60, .inl (fun _ => 0))), (yq, .inr (8, [.int 0, .int 0, .int 0, .ref yq1, .ref yq3, .int 0, .int 0, .int 0, .ref yq5, .ref yq7, .int 0, .ref yq9, .ref yq11, .ref yq13, .int 0, .ref yq15, .ref yq17, .ref yq19, .int 0, .ref yq21, .ref yq23, .int (-9), .int (-9), .int 0, .int 0, .int (-9), .int 0, .ref yq25, .ref yq27, .ref yq29, .int 0, .ref yq31, .ref yq33, .ref yq35, .ref yq37, .ref yq39, .ref yq41, .ref yq43, .ref yq45, .ref yq47, .ref yq49, .int 0])), (yq1, .inl (xcq6, 5, .inl (fun _ => 0))), (yq3, .inl (xcq6, 5, .inl (fun _ => 0))), (yq5, .inl (xcq6, 5, .inl (fun _ => 0))), (yq7, .inl (xcq6, 5, .inl (fun _ => 0))), (yq9, .inl (xcq6, 25, .inl (fun _ => 0))), (yq11, .inl (xcq6, 25, .inl (fun _ => 0))), (yq13, .inl (xcq6, 25, .inl (fun _ => 0))), (yq15, .inl (xcq6, 6, .inl (fun _ => 0))), (yq17, .inl (xcq6, 6, .inl (fun _ => 0))), (yq19, .inl (xcq6, 6, .inl (fun _ => 0))), (yq21, .inl (xcq6, 6, .inl (fun _ => 0))), (yq23, .inl (xcq6, 6, .inl (fun _ => 0))), (yq25, .inl (xcq6, 6, .inl (fun _ => 0))), (yq27, .inl (xcq6, 6, .inl (fun _ => 0))), (yq29, .inl (xcq6, 150, .inl (fun _ => 0))), (yq31, .inl (xcq6, 8, .inl (fun _ => 0))), (yq33, .inl (xcq6, 8, .inl (fun _ => 0))), (yq35, .inl (xcq6, 8, .inl (fun _ => 0))), (yq37, .inl (xcq6, 8, .inl (fun _ => 0))), (yq39, .inl (ycq40, 30, .inr (.inl (fun _ => 0)))), (yq41, .inl (ycq40, 30, .inr (.inl (fun _ => 0)))), (yq43, .inl (xcq6, 4, .inl (upd (upd (upd (upd (fun _ => 0) (0 : Int32).toNatClampNeg (-1)) (1 : Int32).toNatClampNeg (-1)) (2 : Int32).toNatClampNeg (-1)) (3 : Int32).toNatClampNeg (-1)))), (yq45, .inl (xcq6, 4, .inl (fun _ => 0))), (yq47, .inl (xcq6, 240, .inl (fun _ => 0))), (yq49, .inl (xcq6, 60, .inl (fun _ => 0)))] = xW g sig0 := by
    rw [hg]
    have hsh := sh_row (fun j => [xq, xq1, xq3, xq5, xq7, xq8, xq10, xq11, xq12, xq13, xq14, xq15, xq16, xq18, xq19, xq20, xq21, xq22, xq24, xq25, xq27, xq28, xq30, xq31, yq, yq1, yq3, yq5, yq7, yq9, yq11, yq13, yq15, yq17, yq19, yq21, yq23, yq25, yq27, yq29, yq31, yq33, yq35, yq37, yq39, yq41, yq43, yq45, yq47, yq49].getD j 0)
    have hsh : (va_up (va_up (va_up (va_up (fun _ => none) (0 : Int32).toNatClampNeg (some xq21)) (1 : Int32).toNatClampNeg (some xq24)) (2 : Int32).toNatClampNeg (some xq27)) (3 : Int32).toNatClampNeg (some xq30)) = xSh (fun j => [xq, xq1, xq3, xq5, xq7, xq8, xq10, xq11, xq12, xq13, xq14, xq15, xq16, xq18, xq19, xq20, xq21, xq22, xq24, xq25, xq27, xq28, xq30, xq31, yq, yq1, yq3, yq5, yq7, yq9, yq11, yq13, yq15, yq17, yq19, yq21, yq23, yq25, yq27, yq29, yq31, yq33, yq35, yq37, yq39, yq41, yq43, yq45, yq47, yq49].getD j 0) := hsh
    rw [hsh, xW_2]
    simp only [xTab, List.zipIdx_cons, List.zipIdx_nil, List.map_cons, List.map_nil, List.cons_append, List.nil_append]
    refine cons_eq2 ?_ ?_
    · rfl
    refine cons_eq2 ?_ ?_
    · rfl
    refine cons_eq2 ?_ ?_
    · rfl
    refine cons_eq2 ?_ ?_
    · rfl
    refine cons_eq2 ?_ ?_
    · rfl
    refine cons_eq2 ?_ ?_
    · rfl
    refine cons_eq2 ?_ ?_
    · rfl
    refine cons_eq2 ?_ ?_
    · rfl
    refine cons_eq2 ?_ ?_
    · rfl
    refine cons_eq2 ?_ ?_
    · rfl
    refine cons_eq2 ?_ ?_
    · rfl
    refine cons_eq2 ?_ ?_
    · rfl
    refine cons_eq2 ?_ ?_
    · rfl
    refine cons_eq2 ?_ ?_
    · rfl
    refine cons_eq2 ?_ ?_
    · rfl
    refine cons_eq2 ?_ ?_
    · rfl
    refine cons_eq2 ?_ ?_
    · rfl
    refine cons_eq2 ?_ ?_
    · rfl
    refine cons_eq2 ?_ ?_
    · rfl
    refine cons_eq2 ?_ ?_
    · rfl
    refine cons_eq2 ?_ ?_
    · rfl
    refine cons_eq2 ?_ ?_
    · rfl
    refine cons_eq2 ?_ ?_
    · rfl
    refine cons_eq2 ?_ ?_
    · rfl
    refine cons_eq2 ?_ ?_
    · rfl
    refine cons_eq2 ?_ ?_
    · rfl
    refine cons_eq2 ?_ ?_
    · rfl
    refine cons_eq2 ?_ ?_
    · rfl
    refine cons_eq2 ?_ ?_
    · rfl
    refine cons_eq2 ?_ ?_
    · rfl
    refine cons_eq2 ?_ ?_
    · rfl
    refine cons_eq2 ?_ ?_
    · rfl
    refine cons_eq2 ?_ ?_
    · rfl
    refine cons_eq2 ?_ ?_
    · rfl
    refine cons_eq2 ?_ ?_
    · rfl
    refine cons_eq2 ?_ ?_
    · rfl
    refine cons_eq2 ?_ ?_
    · rfl
    refine cons_eq2 ?_ ?_
    · rfl
    refine cons_eq2 ?_ ?_
    · rfl
    refine cons_eq2 ?_ ?_
    · rfl
    refine cons_eq2 ?_ ?_
    · rfl
    refine cons_eq2 ?_ ?_
    · rfl
    refine cons_eq2 ?_ ?_
    · rfl
    refine cons_eq2 ?_ ?_
    · rfl
    refine cons_eq2 ?_ ?_
    · rfl
    refine cons_eq2 ?_ ?_
    · rfl
    refine cons_eq2 ?_ ?_
    · rfl
    refine cons_eq2 ?_ ?_
    · rfl
    refine cons_eq2 ?_ ?_
    · rfl
    refine cons_eq2 ?_ ?_
    · rfl
    rfl
  rw [hWd] at hP hD
  have hKg : va_K (xD g) vwCl (xTy g) s := by
    rw [hg]
    exact hK.sub [2, 4, 0, 1] rfl
  have hO : xO g (fun q : Nat => s.heap.size ≤ q) s sig0 H locs := by
    refine ⟨?_, hD, hS⟩
    have hD9 : xD g = (dC, dI) := by rw [hg]
    rw [hD9]
    exact hP
  have hSt : xSt g (fun q : Nat => s.heap.size ≤ q) s s.heap := by
    rw [hg]
    exact ⟨hZF, hTF, hZM, hTM, hc0, hc2⟩
  have hx0 : xa g 0 = xq := by rw [hg]; rfl
  have hy0 : xa g 24 = yq := by rw [hg]; rfl
  refine lv_astore_n (lv' := [(2, .ref yq), (1, .ref xq), (0, .ref b)]) hx hb dL_law_15 rfl hl (by decide) rfl (fun ls hl => ?_)
  refine lv_iconst (v := 0) hx hb dL_law_16 (by decide) ?_
  refine lv_istore_n (lv' := [(3, .int 0), (2, .ref yq), (1, .ref xq), (0, .ref b)]) hx hb dL_law_17 rfl hl (by decide) rfl (fun ls hl => ?_)
  have CC : xC g (fun q : Nat => s.heap.size ≤ q) lw_tbl RL cL_law 4 ret p s m #[Value.ref b] meth c := ⟨hx, hb, hr, hlocks, hml, hown, hts, hKg, hA, hSt⟩
  refine law_loop CC hX hbl hbA hL Gd HS (fun H locs ls cs hcs hS => ?_) (L + 1) 0 0 sig0 H locs ls 2000 (Nat.zero_le _) (by omega) (by decide) (by omega) G0 hO ?_
  · refine lv_iconst (v := 1) hx hb dL_law_1381 (by decide) ?_
    refine va_forget (fun q hq => hS.2.2 q hq) ?_
    refine W.widen (k := 600000) (n := 7302250) (by omega) (by omega) ?_
    exact lw_ret hx hb hr hlocks dL_law_1382
  · rw [hx0, hy0]
    exact lv_sub hl [3, 2, 1, 0] rfl
