/-! ===== sheets, copies, persons: rows over the world ===== -/
def isSh (q : Nat) : Prop := xTab[q]? = some (.inr (3, [some (q + 1), none, none])) ∧ xTab[q + 1]? = some (.inl (0, 60))
def isPe (σ : XS) (a : Nat) : Prop := a ∈ gA σ ∧ (gK σ a = 4 ∨ gK σ a = 2 ∨ gK σ a = 0)
theorem isSh_at : ∀ i : Nat, i < 4 → isSh (16 + 2 * i)
  | 0, _ => ⟨rfl, rfl⟩
  | 1, _ => ⟨rfl, rfl⟩
  | 2, _ => ⟨rfl, rfl⟩
  | 3, _ => ⟨rfl, rfl⟩
  | n + 4, h => absurd h (by omega)
section XP
variable {p : Program} {l : Launch} {e : Env} {R : Room} {s : State} {m : MethodId} {args : Array Value} {below : List Frame} {meth : Method} {c : Code} {H : Heap} {locs : List Loc} {cells slots : Nat} {Q : State → Prop}
variable {g : XG} {A : Nat → Prop} {ws : List Cond} {own : String} {cc : ByteArray} {nL : Nat} {rt : Option FieldType} {σ : XS} {pc : Nat} {ls : Array Slot} {rest : List Value}
theorem x_copy (C0 : xC g A ws own cc nL rt p s m args meth c) (hO : xO g A s σ H locs) (j0 j1 : Nat) {n0 n1 index : Nat} (ht0 : xTab[j0]? = some (.inl (0, n0))) (ht1 : xTab[j1]? = some (.inl (0, n1))) (hlink : (Cond.methodLink own index arraycopyName).before args s = true) (hnat : (Cond.native arraycopyName).before args s = true) (hstat : (Cond.static arraycopyName).before args s = true) (hini : (Cond.initialized "java/lang/System").before args s = true) (hl : ls.size = nL)
    {sp dp n : Int32} (h1 : ¬ sp < 0) (h2 : ¬ dp < 0) (h3 : ¬ n < 0) (h4 : sp.toNatClampNeg + n.toNatClampNeg ≤ n0) (h5 : dp.toNatClampNeg + n.toNatClampNeg ≤ n1) (hfr : 1 ≤ R.frames) (hlo : (rest.map fun v => v.category).sum + (nativeFrameWords "java/lang/System" "arraycopy" 5 + 11) ≤ R.locals) (hdg : decode cc pc = .ok (.invokestatic index, 3))
    (kk : ∀ (σ' : XS) (H1 : Heap) (locs1 : List Loc), σ' = sR σ j1 (va_cpy (gI σ j0) (gI σ j1) sp.toNatClampNeg dp.toNatClampNeg n.toNatClampNeg) → xO g A s σ' H1 locs1 → W p l e R s m args below meth c H1 locs1 cells slots Q (F0 m (pc + 3) ls rest)) : W p l e R s m args below meth c H locs cells slots Q (F0 m pc ls (.int n :: .int dp :: .ref (xa g j1) :: .int sp :: .ref (xa g j0) :: rest)) := by
  obtain ⟨hx, hb, -, -, hml, hown, hts, hK, -, -⟩ := C0
  refine va_copyi hx hb (hml.trans hl.symm) hown hlink hnat hstat hini hK hO.1 hO.2.1 hO.2.2 j0 j1 0 0 (xB_at g σ ht0) (xB_at g σ ht1) rfl rfl rfl h1 h2 h3 h4 h5 (fun _ _ => rfl) hfr hlo hdg (fun H1 locs1 hP hD hS => ?_)
  generalize hf : va_cpy (gI σ j0) (gI σ j1) sp.toNatClampNeg dp.toNatClampNeg n.toNatClampNeg = f at hP hD kk
  have hw : (xa g j1, (Sum.inl ((xk g).1, n1, Sum.inl f) : va_E)) = xEl g (sR σ j1 f) j1 (.inl (0, n1)) := by
    have h1 : gI (sR σ j1 f) j1 = f := by
      funext k
      rw [gI_sR, if_pos rfl]
    show _ = (xa g j1, (Sum.inl ((xk g).1, n1, Sum.inl (gI (sR σ j1 f) j1)) : va_E))
    rw [h1]
  rw [xB_set g σ (sR σ j1 f) ht1 hw (fun j' e' _ hne => xEl_sR hne) rfl (fun _ => rfl)] at hP hD
  exact kk _ H1 locs1 rfl ⟨hP, hD, hS⟩
/-- a person's flavour -/
theorem x_flav (C0 : xC g A ws own cc nL rt p s m args meth c) (hO : xO g A s σ H locs) {a : Nat} (hL : isPe σ a) (h0 : ∀ w ∈ wsX00, w ∈ ws) (h2 : ∀ w ∈ wsX20, w ∈ ws) (h4 : ∀ w ∈ wsX40, w ∈ ws) {index : Nat} {ref : String} (hlink : Cond.fieldLink own index ref "flavour" "I" ∈ ws) (hsame : ∀ x, s.fieldFound? "GumHall$Sitter" "flavour" "I" = some x → s.fieldFound? ref "flavour" "I" = some x) (hdg : decode cc pc = .ok (.getfield index, 3))
    (kk : W p l e R s m args below meth c H locs cells slots Q (F0 m (pc + 3) ls (.int (gV σ a) :: rest))) : W p l e R s m args below meth c H locs cells slots Q (F0 m pc ls (.ref a :: rest)) := by
  obtain ⟨hx, hb, -, -, -, hown, hts, hK, -, -⟩ := C0
  obtain ⟨k, hk⟩ := xPool (g := g) hL.1
  rcases hL.2 with h | h | h <;> rw [h] at hk
  · exact va_get hx hb hts h4 hown hK hO.1 k hk rfl 0 (by decide) (hts _ hlink) hsame rfl hdg kk
  · exact va_get hx hb hts h2 hown hK hO.1 k hk rfl 0 (by decide) (hts _ hlink) hsame rfl hdg kk
  · exact va_get hx hb hts h0 hown hK hO.1 k hk rfl 0 (by decide) (hts _ hlink) hsame rfl hdg kk
theorem xW_sV (hD : va_D A (xW g σ)) {a k ci : Nat} {x : Int32} (hL : a ∈ gA σ) (hc : gK σ a = ci) (hk : (xW g σ)[k]? = some (a, .inr (gK σ a, [.int (gV σ a)]))) : (xW g σ).set k (a, .inr (ci, [.int x])) = xW g (sV σ a x) := by
  have h1 := va_pl_set (X := xB g σ) (e := .inr (ci, [.int x])) hD hL hk
  show (xB g σ ++ va_pl (gA σ) (xPe σ)).set k _ = xB g (sV σ a x) ++ va_pl (gA (sV σ a x)) (xPe (sV σ a x))
  rw [h1]
  refine congrArg (fun z => xB g σ ++ z) ?_
  apply va_pl_congr
  intro b
  unfold va_up xPe
  rw [gK_sV, gV_sV]
  by_cases hb : b = a
  · subst hb
    simp [hc]
  · simp [hb]
theorem x_putV (C0 : xC g A ws own cc nL rt p s m args meth c) (hO : xO g A s σ H locs) (hin2 : meth.name = "<init>") (hown4 : own = "GumHall$Sitter") {a : Nat} (hL : isPe σ a) (h0 : ∀ w ∈ wsX00, w ∈ ws) (h2 : ∀ w ∈ wsX20, w ∈ ws) (h4 : ∀ w ∈ wsX40, w ∈ ws) {index : Nat} {x : Int32} (hlink : Cond.fieldLink own index "GumHall$Sitter" "flavour" "I" ∈ ws) (hdg : decode cc pc = .ok (.putfield index, 3))
    (kk : ∀ (σ' : XS) (H1 : Heap) (locs1 : List Loc), σ' = sV σ a x → xO g A s σ' H1 locs1 → W p l e R s m args below meth c H1 locs1 cells slots Q (F0 m (pc + 3) ls rest)) : W p l e R s m args below meth c H locs cells slots Q (F0 m pc ls (.int x :: .ref a :: rest)) := by
  obtain ⟨hx, hb, -, -, -, hown, hts, hK, -, -⟩ := C0
  obtain ⟨k, hk⟩ := xPool (g := g) hL.1
  have hk0 := hk
  rcases hL.2 with h | h | h <;> rw [h] at hk
  · refine va_putF hx hb hts h4 tyX4 tyX4_ok nmX4 hown hK hO.1 hO.2.1 hO.2.2 k hk rfl 0 (by decide) (hts _ hlink) (fun _ h => h) rfl hin2 hown4.symm (ty := .int) (by decide +kernel) rfl rfl (Nat.le_of_ble_eq_true rfl) hdg (fun H1 locs1 hP hD hS => ?_)
    rw [show (([Value.int (gV σ a)] : List Value).set 0 (.int x)) = [.int x] from rfl, xW_sV hO.2.1 hL.1 h hk0] at hP hD
    exact kk _ H1 locs1 rfl ⟨hP, hD, hS⟩
  · refine va_putF hx hb hts h2 tyX2 tyX2_ok nmX2 hown hK hO.1 hO.2.1 hO.2.2 k hk rfl 0 (by decide) (hts _ hlink) (fun _ h => h) rfl hin2 hown4.symm (ty := .int) (by decide +kernel) rfl rfl (Nat.le_of_ble_eq_true rfl) hdg (fun H1 locs1 hP hD hS => ?_)
    rw [show (([Value.int (gV σ a)] : List Value).set 0 (.int x)) = [.int x] from rfl, xW_sV hO.2.1 hL.1 h hk0] at hP hD
    exact kk _ H1 locs1 rfl ⟨hP, hD, hS⟩
  · refine va_putF hx hb hts h0 tyX0 tyX0_ok nmX0 hown hK hO.1 hO.2.1 hO.2.2 k hk rfl 0 (by decide) (hts _ hlink) (fun _ h => h) rfl hin2 hown4.symm (ty := .int) (by decide +kernel) rfl rfl (Nat.le_of_ble_eq_true rfl) hdg (fun H1 locs1 hP hD hS => ?_)
    rw [show (([Value.int (gV σ a)] : List Value).set 0 (.int x)) = [.int x] from rfl, xW_sV hO.2.1 hL.1 h hk0] at hP hD
    exact kk _ H1 locs1 rfl ⟨hP, hD, hS⟩
theorem xW_sN {q ci : Nat} (hq : q ∉ gA σ) : xW g σ ++ [(q, .inr (ci, [.int 0]))] = xW g (sN σ q ci) := by
  show (xB g σ ++ va_pl (gA σ) (xPe σ)) ++ _ = xB g (sN σ q ci) ++ va_pl (gA (sN σ q ci)) (xPe (sN σ q ci))
  rw [List.append_assoc, va_pl_push hq]
  refine congrArg (fun z => xB g σ ++ z) ?_
  show va_pl (gA σ ++ [q]) _ = va_pl (gA σ ++ [q]) _
  apply va_pl_congr
  intro b
  unfold va_up xPe
  rw [gK_sN, gV_sN]
  by_cases hb : b = q <;> simp [hb]
theorem x_newP (C0 : xC g A ws own cc nL rt p s m args meth c) (hO : xO g A s σ H locs) {ci index : Nat} {Cn : String} {T : u_T} (hc : vwCl[ci]? = some (Cn, T, 1)) (ty : Nat → FieldType) (hty : ∀ k, k < 1 → parseFieldDescriptor (T k).2.2.1 = some (ty k)) (hti : ty 0 = .int) (hin : ∀ w ∈ u_ws Cn T 1, w ∈ ws) (hcl : Cond.classLink own index Cn ∈ ws) (hinst : Cond.instantiable Cn 1 ∈ ws) (hini : Cond.initialized Cn ∈ ws) (hcells : cells + 1 ≤ R.cells) (hslots : slots + 1 ≤ R.slots) (hdg : decode cc pc = .ok (.new index, 3))
    (kk : ∀ (q : Nat) (σ' : XS) (H1 : Heap), q ∉ gA σ → σ' = sN σ q ci → xO g A s σ' H1 locs → W p l e R s m args below meth c H1 locs (cells + 1) (slots + 1) Q (F0 m (pc + 3) ls (.ref q :: rest))) : W p l e R s m args below meth c H locs cells slots Q (F0 m pc ls rest) := by
  obtain ⟨hx, hb, -, -, -, hown, hts, hK, hA, -⟩ := C0
  have hfs : ∀ j, j < 1 → defaultValue (ty j) = vp_V [.int 0] j := by
    intro j hj
    obtain rfl : j = 0 := by omega
    rw [hti]
    rfl
  refine va_new hx hb hts hin ty hty hown (hts _ hcl) (hts _ hinst) (hts _ hini) hK hO.1 hO.2.1 hO.2.2 hA hc (fs := [.int 0]) hfs hcells hslots hdg (fun q H1 hP hD hS => ?_)
  have hq : q ∉ gA σ := va_pl_fresh2 (X := xB g σ) hD
  rw [xW_sN hq] at hP hD
  exact kk q _ H1 hq rfl ⟨hP, hD, hS⟩
theorem x_astP (C0 : xC g A ws own cc nL rt p s m args meth c) (hO : xO g A s σ H locs) {i : Int32} {a : Nat} (hi : vp_in i 5) (hL : isPe σ a) (hdg : decode cc pc = .ok (.aastore, 1))
    (kk : ∀ (σ' : XS) (H1 : Heap) (locs1 : List Loc), σ' = sP σ i.toNatClampNeg (some a) → xO g A s σ' H1 locs1 → W p l e R s m args below meth c H1 locs1 cells slots Q (F0 m (pc + 1) ls rest)) : W p l e R s m args below meth c H locs cells slots Q (F0 m pc ls (.ref a :: .int i :: .ref (xa g 2) :: rest)) := by
  obtain ⟨hx, hb, -, -, -, hown, hts, hK, hA, hSt⟩ := C0
  obtain ⟨k, hk⟩ := xPool (g := g) hL.1
  have hset : (xW g σ).set 2 (xa g 2, (Sum.inl ((xk g).2.2.2, 5, .inr (.inr (.inr (.inr (va_up (gP σ) i.toNatClampNeg (some a)))))) : va_E)) = xW g (sP σ i.toNatClampNeg (some a)) := by
    refine xB_set g σ (sP σ i.toNatClampNeg (some a)) (j := 2) rfl ?_ ?_ rfl (fun _ => rfl)
    · rfl
    · intro j' e' he hne
      rcases e' with ⟨b, n⟩ | o
      · match b with
        | 0 => rfl
        | 1 => rfl
        | 2 => rfl
        | b + 3 =>
          exfalso
          revert he
          have : ∀ j : Nat, j < 50 → j ≠ 2 → ∀ b n : Nat, xTab[j]? ≠ some (.inl (b + 3, n)) := by
            intro j hj hj2 b n he
            have h9 : (List.range 50).all (fun j => j == 2 || match xTab[j]? with | some (.inl q) => decide (q.1 < 3) | _ => true) = true := by decide +kernel
            have h8 := List.all_eq_true.mp h9 j (List.mem_range.mpr hj)
            rw [he] at h8
            simp [hj2] at h8
            omega
          intro he
          exact this j' (by have := (List.getElem?_eq_some_iff.mp he).1; exact this) hne b n he
      · rfl
  have hasg : ∀ (ci : Nat) (r : vw_C), gK σ a = ci → vwCl[ci]? = some r → (∀ comp c0 : ClassId, s.vm.findClass "GumHall$Sitter" = some comp → s.vm.findClass r.1 = some c0 → s.vm.assignable c0 comp = true) → W p l e R s m args below meth c H locs cells slots Q (F0 m pc ls (.ref a :: .int i :: .ref (xa g 2) :: rest)) := by
    intro ci r hg hr has
    rw [hg] at hk
    refine va_astqM hx hb hK hO.1 hO.2.1 hO.2.2 2 3 (xB_at g σ (j := 2) rfl) rfl (va_rAny hK hO.1 hk hr has) hi hdg (fun H1 locs1 hP hD hS => ?_)
    have hP : va_P (xD g) vwCl ((xW g σ).set 2 (xa g 2, (Sum.inl ((xk g).2.2.2, 5, .inr (.inr (.inr (.inr (va_up (gP σ) i.toNatClampNeg (some a)))))) : va_E))) H1 := hP
    have hD : va_D A ((xW g σ).set 2 (xa g 2, (Sum.inl ((xk g).2.2.2, 5, .inr (.inr (.inr (.inr (va_up (gP σ) i.toNatClampNeg (some a)))))) : va_E))) := hD
    rw [hset] at hP hD
    exact kk _ H1 locs1 rfl ⟨hP, hD, hS⟩
  rcases hL.2 with h | h | h
  · refine hasg 4 _ h rfl (fun comp c0 h1 h2 => ?_)
    cases h1.symm.trans h2
    exact va_assign (hK.1 4 _ rfl).2 |> fun hz => by
      have hc : s.vm.findClass "GumHall$Sitter" = some ((xD g).1 4) := (hK.1 4 _ rfl).2.1
      cases h1.symm.trans hc
      exact hz
  · exact hasg 2 _ h rfl (fun comp c0 h1 h2 => vb_asgC hSt.2.2.2.2.2 comp c0 h1 h2)
  · exact hasg 0 _ h rfl (fun comp c0 h1 h2 => vb_asgC hSt.2.2.2.2.1 comp c0 h1 h2)
variable {st0 : List Value} {a : Array Value} {mc ms : Nat} {y xm : MethodName} {bytes : ByteArray} {maxL index : Nat} {ret : Option FieldType} {ws2 ws3 : List Cond} {rm : Room} {Cn owner : String} {b : Addr} {As : List Value} {Qc : Array Value → State → Outcome → State → Prop} {free : Addr → Prop}
/-- a run of a method that a class inherits -/
theorem x_runU (C0 : xC g A ws own cc nL rt p s m args meth c) (hO : xO g A s σ H locs) (hM : Met l y ws2 rm (xPc g H.size (.ref b :: As) σ) Qc mc ms free) (n : Nat) (hn : As.length = n) (hre : ∃ cell : Cell, H[b]? = some cell ∧ cell.vm.isStatics = false ∧ s.vm.findClass Cn = some cell.cls) (hG : GoodIn ws (va_wsU own index Cn owner xm y ws2)) (hw : ws2 = Cond.code y bytes maxL ret :: ws3) (hrc : rm.cells = mc) (hrs : rm.slots = ms) (hyx : y = ⟨owner, xm.name, xm.desc⟩)
    (hd : owner ≠ "java/lang/invoke/MethodHandle" ∧ owner ≠ "java/lang/invoke/VarHandle" ∧ (parseMethodDescriptor xm.desc).map (fun d => d.parameters.length) = some n) (hR : rm.frames + 1 ≤ R.frames ∧ 8 + (maxL + 11) + rm.locals ≤ R.locals)
    (hl : ls.size = nL) (hst : st0 = As.reverse ++ .ref b :: rest) (hr8 : (rest.map fun v => v.category).sum ≤ 8) (hdg : decode cc pc = .ok (.invokevirtual index, 3)) (hf : cells + mc ≤ R.cells ∧ slots + ms ≤ R.slots) :
    va_Run p l e R s m args below meth c H locs cells slots mc ms (F0 m pc ls st0) rest (Qc (Value.ref b :: As).toArray) free := by
  obtain ⟨hx, hb, -, -, hml, hown, hts, -, -, -⟩ := id C0
  exact va_runU ⟨hx, hb, hml, hown, hts⟩ hM (va_cwU n hts hG hw hrc hrs hyx hd hR) ⟨(xPre C0 hO _).1, hre, (xPre C0 hO _).2⟩ rfl hn hl hst (lv_room hr8) hdg hf
/-- a run of a method that overrides another -/
theorem x_runO (C0 : xC g A ws own cc nL rt p s m args meth c) (hO : xO g A s σ H locs) (hM : Met l y ws2 rm (xPc g H.size (.ref b :: As) σ) Qc mc ms free) (n : Nat) (hn : As.length = n) (hre : ∃ cell : Cell, H[b]? = some cell ∧ cell.vm.isStatics = false ∧ s.vm.findClass Cn = some cell.cls) (hG : GoodIn ws (va_wsO own index Cn owner xm y ws2)) (hw : ws2 = Cond.code y bytes maxL ret :: ws3) (hrc : rm.cells = mc) (hrs : rm.slots = ms) {b0 : ByteArray} {m0 : Nat} {r0 : Option FieldType} (h0 : Cond.code ⟨owner, xm.name, xm.desc⟩ b0 m0 r0 ∈ ws)
    (hd : owner ≠ "java/lang/invoke/MethodHandle" ∧ owner ≠ "java/lang/invoke/VarHandle" ∧ (parseMethodDescriptor xm.desc).map (fun d => d.parameters.length) = some n) (hR : rm.frames + 1 ≤ R.frames ∧ 8 + (maxL + 11) + rm.locals ≤ R.locals)
    (hl : ls.size = nL) (hst : st0 = As.reverse ++ .ref b :: rest) (hr8 : (rest.map fun v => v.category).sum ≤ 8) (hdg : decode cc pc = .ok (.invokevirtual index, 3)) (hf : cells + mc ≤ R.cells ∧ slots + ms ≤ R.slots) :
    va_Run p l e R s m args below meth c H locs cells slots mc ms (F0 m pc ls st0) rest (Qc (Value.ref b :: As).toArray) free := by
  obtain ⟨hx, hb, -, -, hml, hown, hts, -, -, -⟩ := id C0
  exact va_runU ⟨hx, hb, hml, hown, hts⟩ hM (va_cwO n hts hG hw hrc hrs h0 hd hR) ⟨(xPre C0 hO _).1, hre, (xPre C0 hO _).2⟩ rfl hn hl hst (lv_room hr8) hdg hf
/-- a run of the super class's method -/
theorem x_runSU (C0 : xC g A ws own cc nL rt p s m args meth c) (hO : xO g A s σ H locs) (hM : Met l y ws2 rm (xPc g H.size (.ref b :: As) σ) Qc mc ms free) (n : Nat) (hn : As.length = n) {ci : Nat} {T : u_T} {N : Nat} (hc : vwCl[ci]? = some (Cn, T, N)) (hre : ∃ cell : Cell, H[b]? = some cell ∧ cell.vm.isStatics = false ∧ s.vm.findClass Cn = some cell.cls) (hG : GoodIn ws (va_wsSU own index y ws2)) (hw : ws2 = Cond.code y bytes maxL ret :: ws3) (hrc : rm.cells = mc) (hrs : rm.slots = ms)
    (hd : y.name ≠ "<init>" ∧ (parseMethodDescriptor y.desc).map (fun d => d.parameters.length) = some n) (hR : rm.frames + 1 ≤ R.frames ∧ 8 + (maxL + 11) + rm.locals ≤ R.locals)
    (hl : ls.size = nL) (hst : st0 = As.reverse ++ .ref b :: rest) (hr8 : (rest.map fun v => v.category).sum ≤ 8) (hdg : decode cc pc = .ok (.invokespecial index, 3)) (hf : cells + mc ≤ R.cells ∧ slots + ms ≤ R.slots) :
    va_Run p l e R s m args below meth c H locs cells slots mc ms (F0 m pc ls st0) rest (Qc (Value.ref b :: As).toArray) free := by
  obtain ⟨hx, hb, -, -, hml, hown, hts, hK, -, -⟩ := id C0
  exact va_runSU (hK.1 ci _ hc).2 ⟨hx, hb, hml, hown, hts⟩ hM (va_cwSU n hts hG hw hrc hrs hd hR) ⟨(xPre C0 hO _).1, hre, (xPre C0 hO _).2⟩ rfl hn hl hst (lv_room hr8) hdg hf
/-- a run of a constructor -/
theorem x_runI (C0 : xC g A ws own cc nL rt p s m args meth c) (hO : xO g A s σ H locs) (hM : Met l y ws2 rm (xPc g H.size (.ref b :: As) σ) Qc mc ms free) (n : Nat) (hn : As.length = n) (hG : GoodIn ws ws2) (hw : ws2 = Cond.code y bytes maxL none :: ws3) (hrc : rm.cells = mc) (hrs : rm.slots = ms) (hini : Cond.initialized y.cls ∈ ws) (hlk : Cond.methodLink own index y ∈ ws) (hin : Cond.instanceMethod y ∈ ws) (hy1 : y.name = "<init>")
    (hd : y.cls ≠ "java/lang/invoke/MethodHandle" ∧ y.cls ≠ "java/lang/invoke/VarHandle" ∧ (parseMethodDescriptor y.desc).map (fun d => d.parameters.length) = some n) (hR : rm.frames + 1 ≤ R.frames ∧ 8 + (maxL + 11) + rm.locals ≤ R.locals)
    (hl : ls.size = nL) (hst : st0 = As.reverse ++ .ref b :: rest) (hr8 : (rest.map fun v => v.category).sum ≤ 8) (hdg : decode cc pc = .ok (.invokespecial index, 3)) (hf : cells + mc ≤ R.cells ∧ slots + ms ≤ R.slots) :
    va_Run p l e R s m args below meth c H locs cells slots mc ms (F0 m pc ls st0) rest (Qc (Value.ref b :: As).toArray) free := by
  obtain ⟨hx, hb, -, -, hml, hown, hts, -, -, -⟩ := id C0
  exact va_runI ⟨hx, hb, hml, hown, hts⟩ hM (cwI n hts hG hw hrc hrs (hts _ hini) (hts _ hlk) (hts _ hin) hy1 hd hR) (xPre C0 hO _) rfl hn hl hst (lv_room hr8) hdg hf
end XP
