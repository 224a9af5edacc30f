/-! ===== the state of both systems as pure data; the world that holds it ===== -/
abbrev XS : Type := (Nat → Nat → Int32) × (Nat → Nat → Int64) × (Nat → Option Nat) × List Nat × (Nat → Nat) × (Nat → Int32)
def gI (σ : XS) (j k : Nat) : Int32 := σ.1 j k
def gL (σ : XS) (j k : Nat) : Int64 := σ.2.1 j k
def gP (σ : XS) (k : Nat) : Option Nat := σ.2.2.1 k
def gA (σ : XS) : List Nat := σ.2.2.2.1
def gK (σ : XS) (a : Nat) : Nat := σ.2.2.2.2.1 a
def gV (σ : XS) (a : Nat) : Int32 := σ.2.2.2.2.2 a
def sR (σ : XS) (j : Nat) (f : Nat → Int32) : XS := (va_up σ.1 j f, σ.2)
def sI (σ : XS) (j k : Nat) (x : Int32) : XS := sR σ j (upd (gI σ j) k x)
def sL (σ : XS) (j k : Nat) (x : Int64) : XS := (σ.1, va_up σ.2.1 j (vp_updL (σ.2.1 j) k x), σ.2.2)
def sP (σ : XS) (k : Nat) (o : Option Nat) : XS := (σ.1, σ.2.1, va_up σ.2.2.1 k o, σ.2.2.2)
def sN (σ : XS) (a c : Nat) : XS := (σ.1, σ.2.1, σ.2.2.1, σ.2.2.2.1 ++ [a], va_up σ.2.2.2.2.1 a c, va_up σ.2.2.2.2.2 a 0)
def sV (σ : XS) (a : Nat) (x : Int32) : XS := (σ.1, σ.2.1, σ.2.2.1, σ.2.2.2.1, σ.2.2.2.2.1, va_up σ.2.2.2.2.2 a x)
/-- the fixed cells: an array (its sort, its length), or an object (its class, its fields: a number, or the cell that it points to) -/
abbrev XC : Type := (Nat × Nat) ⊕ (Nat × List (Option Nat))
def xTab : List XC := [
  .inr (7, [some 1, some 2, some 3, some 4, some 11, some 15, none, none, none]),
  .inl (2, 4), .inl (3, 5), .inl (0, 8),
  .inr (5, [some 5, some 6, some 7, some 8, some 9, some 10, none]),
  .inl (0, 4), .inl (0, 48), .inl (0, 48), .inl (0, 48), .inl (0, 48), .inl (0, 48),
  .inr (1, [some 12, some 13, some 14]),
  .inl (0, 6), .inl (0, 6), .inl (0, 150),
  .inr (6, [none]),
  .inr (3, [some 17, none, none]), .inl (0, 60), .inr (3, [some 19, none, none]), .inl (0, 60), .inr (3, [some 21, none, none]), .inl (0, 60), .inr (3, [some 23, none, none]), .inl (0, 60),
  .inr (8, [none, none, none, some 25, some 26, none, none, none, some 27, some 28, none, some 29, some 30, some 31, none, some 32, some 33, some 34, none, some 35, some 36, none, none, none, none, none, none, some 37, some 38, some 39, none, some 40, some 41, some 42, some 43, some 44, some 45, some 46, some 47, some 48, some 49, none]),
  .inl (0, 5), .inl (0, 5), .inl (0, 5), .inl (0, 5), .inl (0, 25), .inl (0, 25), .inl (0, 25), .inl (0, 6), .inl (0, 6), .inl (0, 6), .inl (0, 6), .inl (0, 6), .inl (0, 6), .inl (0, 6), .inl (0, 150), .inl (0, 8), .inl (0, 8), .inl (0, 8), .inl (0, 8), .inl (1, 30), .inl (1, 30), .inl (0, 4), .inl (0, 4), .inl (0, 240), .inl (0, 60)]
abbrev XK : Type := ClassId × ClassId × ClassId × ClassId
/-- what is fixed of a run: the classes' numbers, the arrays' classes, the cells' places, the two tables -/
abbrev XG : Type := va_G × XK × (Nat → Nat) × Nat × Nat
abbrev xD (g : XG) : va_G := g.1
abbrev xk (g : XG) : XK := g.2.1
abbrev xa (g : XG) : Nat → Nat := g.2.2.1
def xFld (a : Nat → Nat) (σ : XS) (j k : Nat) (q : Option Nat) : Value := match q with
  | none => .int (gI σ j k)
  | some r => .ref (a r)
def xSh (a : Nat → Nat) (i : Nat) : Option Nat := if i < 4 then some (a (16 + 2 * i)) else none
def xEl (g : XG) (σ : XS) (j : Nat) (e : XC) : Nat × va_E := (xa g j, match e with
  | .inr o => .inr (o.1, o.2.mapIdx (xFld (xa g) σ j))
  | .inl (0, n) => .inl ((xk g).1, n, .inl (gI σ j))
  | .inl (1, n) => .inl ((xk g).2.1, n, .inr (.inl (gL σ j)))
  | .inl (2, n) => .inl ((xk g).2.2.1, n, .inr (.inr (.inr (.inr (xSh (xa g))))))
  | .inl (_, n) => .inl ((xk g).2.2.2, n, .inr (.inr (.inr (.inr (gP σ))))))
def xB (g : XG) (σ : XS) : va_W := xTab.mapIdx (xEl g σ)
def xPe (σ : XS) (a : Nat) : va_E := .inr (gK σ a, [.int (gV σ a)])
def xW (g : XG) (σ : XS) : va_W := xB g σ ++ va_pl (gA σ) (xPe σ)
def xTy (g : XG) : List (ClassId × FieldType) := [((xk g).1, .int), ((xk g).2.1, .long), ((xk g).2.2.1, .object "GumHall$Sheet"), ((xk g).2.2.2, .object "GumHall$Sitter")]
def xFirst (j : Nat) : Int32 := match j with | 0 => 0 | 1 => 7 | 2 => 14 | _ => 39
def xMost (j : Nat) : Int32 := match j with | 0 => 6 | 1 => 6 | 2 => 24 | _ => 8
/-- the two static tables: nobody writes them -/
def xSt (g : XG) (A : Nat → Prop) (U : State) (H : Heap) : Prop :=
  va_Z "GumHall$Story" "FIRST_SLOT" "[I" (.ref g.2.2.2.1) A U H ∧ va_T .int g.2.2.2.1 4 (fun j => .int (xFirst j)) A U H ∧ va_Z "GumHall$Story" "MOST" "[I" (.ref g.2.2.2.2) A U H ∧ va_T .int g.2.2.2.2 4 (fun j => .int (xMost j)) A U H ∧ va_Nw (.castable "GumHall$Biter" "GumHall$Sitter") U ∧ va_Nw (.castable "GumHall$Fickle" "GumHall$Sitter") U
theorem xNwC {C T : String} {s U : State} (hvm : s.vm.Alike U.vm) (hZ : va_Nw (.castable C T) s) : va_Nw (.castable C T) U := va_tabs rfl (rfl : (s.setVm U.vm).vm = U.vm) (by rw [Cond.castable_setVm hvm]; exact hZ)
def xO (g : XG) (A : Nat → Prop) (s : State) (σ : XS) (H : Heap) (locs : List Loc) : Prop :=
  va_P (xD g) vwCl (xW g σ) H ∧ va_D A (xW g σ) ∧ va_S A s.heap H locs
/-- what is fixed while a method runs -/
def xC (g : XG) (A : Nat → Prop) (ws : List Cond) (own : String) (cc : ByteArray) (nL : Nat) (rt : Option FieldType) (p : Program) (s : State) (m : MethodId) (args : Array Value) (meth : Method) (c : Code) : Prop :=
  p.tables.exec = Jvm.exec ∧ c.code = cc ∧ meth.sig.returnType = rt ∧ meth.locks = false ∧ c.maxLocals = nL ∧ s.vm.findClass own = some m.cls ∧ (∀ w ∈ ws, w.before args s = true) ∧ va_K (xD g) vwCl (xTy g) s ∧ (∀ q, s.heap.size ≤ q → A q) ∧ xSt g A s s.heap
def xPc (g : XG) (sz : Nat) (av : List Value) (σ : XS) : Array Value → State → Prop := va_Pc av (fun U => U.heap.size = sz ∧ va_P (xD g) vwCl (xW g σ) U.heap ∧ va_K (xD g) vwCl (xTy g) U ∧ va_D (fun _ => True) (xW g σ) ∧ xSt g (va_A (xW g σ) sz) U U.heap)
def xAt (g : XG) (A : Nat → Prop) (u : XS) (t : State) : Prop := va_P (xD g) vwCl (xW g u) t.heap ∧ va_K (xD g) vwCl (xTy g) t ∧ va_D A (xW g u)
def xMi (l : Launch) (y : MethodName) (ws : List Cond) (rm : Room) (mc ms : Nat) (g : XG) (sz : Nat) (av : List Value) (σ : XS) (post : Int32 → XS → Prop) : Prop := Met l y ws rm (xPc g sz av σ) (va_Qi post (xAt g (va_A (xW g σ) sz)) (va_A (xW g σ) sz)) mc ms (va_A (xW g σ) sz)
def xMl (l : Launch) (y : MethodName) (ws : List Cond) (rm : Room) (mc ms : Nat) (g : XG) (sz : Nat) (av : List Value) (σ : XS) (post : Int64 → XS → Prop) : Prop := Met l y ws rm (xPc g sz av σ) (va_Ql post (xAt g (va_A (xW g σ) sz)) (va_A (xW g σ) sz)) mc ms (va_A (xW g σ) sz)
def xMv (l : Launch) (y : MethodName) (ws : List Cond) (rm : Room) (mc ms : Nat) (g : XG) (sz : Nat) (av : List Value) (σ : XS) (post : XS → Prop) : Prop := Met l y ws rm (xPc g sz av σ) (va_Qv post (xAt g (va_A (xW g σ) sz)) (va_A (xW g σ) sz)) mc ms (va_A (xW g σ) sz)
def xMq (l : Launch) (y : MethodName) (ws : List Cond) (rm : Room) (mc ms : Nat) (g : XG) (sz : Nat) (av : List Value) (σ : XS) (post : Option Nat → XS → Prop) : Prop := Met l y ws rm (xPc g sz av σ) (va_Qq post (xAt g (va_A (xW g σ) sz)) (va_A (xW g σ) sz)) mc ms (va_A (xW g σ) sz)
/-! reading the state -/
theorem gI_sI (σ : XS) (j k j' k' : Nat) (x : Int32) : gI (sI σ j k x) j' k' = if j' = j ∧ k' = k then x else gI σ j' k' := by
  unfold gI sI sR gI va_up upd
  by_cases h : j' = j
  · subst h
    by_cases h2 : k' = k <;> simp [h2]
  · simp [h]
theorem gI_sR (σ : XS) (j j' k' : Nat) (f : Nat → Int32) : gI (sR σ j f) j' k' = if j' = j then f k' else gI σ j' k' := by
  unfold gI sR va_up
  by_cases h : j' = j <;> simp [h]
theorem gI_sIe (σ : XS) (j k : Nat) (x : Int32) : gI (sI σ j k x) j k = x := by rw [gI_sI]; simp
theorem gI_sIj (σ : XS) {j k j' k' : Nat} (x : Int32) (h : j' ≠ j) : gI (sI σ j k x) j' k' = gI σ j' k' := by rw [gI_sI]; simp [h]
theorem gI_sIk (σ : XS) {j k j' k' : Nat} (x : Int32) (h : k' ≠ k) : gI (sI σ j k x) j' k' = gI σ j' k' := by rw [gI_sI]; simp [h]
theorem gI_sL (σ : XS) (j k j' k' : Nat) (x : Int64) : gI (sL σ j k x) j' k' = gI σ j' k' := rfl
theorem gI_sP (σ : XS) (k j' k' : Nat) (o : Option Nat) : gI (sP σ k o) j' k' = gI σ j' k' := rfl
theorem gI_sN (σ : XS) (a c j' k' : Nat) : gI (sN σ a c) j' k' = gI σ j' k' := rfl
theorem gI_sV (σ : XS) (a j' k' : Nat) (x : Int32) : gI (sV σ a x) j' k' = gI σ j' k' := rfl
theorem gL_sI (σ : XS) (j k j' k' : Nat) (x : Int32) : gL (sI σ j k x) j' k' = gL σ j' k' := rfl
theorem gL_sR (σ : XS) (j j' k' : Nat) (f : Nat → Int32) : gL (sR σ j f) j' k' = gL σ j' k' := rfl
theorem gL_sL (σ : XS) (j k j' k' : Nat) (x : Int64) : gL (sL σ j k x) j' k' = if j' = j ∧ k' = k then x else gL σ j' k' := by
  unfold gL sL va_up vp_updL
  by_cases h : j' = j
  · subst h
    by_cases h2 : k' = k <;> simp [h2]
  · simp [h]
theorem gP_sI (σ : XS) (j k k' : Nat) (x : Int32) : gP (sI σ j k x) k' = gP σ k' := rfl
theorem gP_sR (σ : XS) (j k' : Nat) (f : Nat → Int32) : gP (sR σ j f) k' = gP σ k' := rfl
theorem gP_sP (σ : XS) (k k' : Nat) (o : Option Nat) : gP (sP σ k o) k' = if k' = k then o else gP σ k' := by
  unfold gP sP va_up
  by_cases h : k' = k <;> simp [h]
theorem gP_sN (σ : XS) (a c k' : Nat) : gP (sN σ a c) k' = gP σ k' := rfl
theorem gP_sV (σ : XS) (a k' : Nat) (x : Int32) : gP (sV σ a x) k' = gP σ k' := rfl
theorem gA_sI (σ : XS) (j k : Nat) (x : Int32) : gA (sI σ j k x) = gA σ := rfl
theorem gA_sR (σ : XS) (j : Nat) (f : Nat → Int32) : gA (sR σ j f) = gA σ := rfl
theorem gA_sP (σ : XS) (k : Nat) (o : Option Nat) : gA (sP σ k o) = gA σ := rfl
theorem gA_sN (σ : XS) (a c : Nat) : gA (sN σ a c) = gA σ ++ [a] := rfl
theorem gA_sV (σ : XS) (a : Nat) (x : Int32) : gA (sV σ a x) = gA σ := rfl
theorem gK_sI (σ : XS) (j k a : Nat) (x : Int32) : gK (sI σ j k x) a = gK σ a := rfl
theorem gK_sR (σ : XS) (j a : Nat) (f : Nat → Int32) : gK (sR σ j f) a = gK σ a := rfl
theorem gK_sP (σ : XS) (k a : Nat) (o : Option Nat) : gK (sP σ k o) a = gK σ a := rfl
theorem gK_sN (σ : XS) (a c b : Nat) : gK (sN σ a c) b = if b = a then c else gK σ b := by
  unfold gK sN va_up
  by_cases h : b = a <;> simp [h]
theorem gK_sV (σ : XS) (a b : Nat) (x : Int32) : gK (sV σ a x) b = gK σ b := rfl
theorem gV_sI (σ : XS) (j k a : Nat) (x : Int32) : gV (sI σ j k x) a = gV σ a := rfl
theorem gV_sR (σ : XS) (j a : Nat) (f : Nat → Int32) : gV (sR σ j f) a = gV σ a := rfl
theorem gV_sP (σ : XS) (k a : Nat) (o : Option Nat) : gV (sP σ k o) a = gV σ a := rfl
theorem gV_sN (σ : XS) (a c b : Nat) : gV (sN σ a c) b = if b = a then 0 else gV σ b := by
  unfold gV sN va_up
  by_cases h : b = a <;> simp [h]
theorem gV_sV (σ : XS) (a b : Nat) (x : Int32) : gV (sV σ a x) b = if b = a then x else gV σ b := by
  unfold gV sV va_up
  by_cases h : b = a <;> simp [h]
/-! the world's places -/
theorem xT_set {F F' : Nat → XC → Nat × va_E} {tab : List XC} {j : Nat} {e : XC} {w : Nat × va_E} (h : tab[j]? = some e) (hw : w = F' j e) (ho : ∀ j' e', tab[j']? = some e' → j' ≠ j → F' j' e' = F j' e') : (tab.mapIdx F).set j w = tab.mapIdx F' := by
  have hl : j < tab.length := (List.getElem?_eq_some_iff.mp h).1
  apply List.ext_getElem?
  intro i
  rw [List.getElem?_set, List.getElem?_mapIdx, List.getElem?_mapIdx, List.length_mapIdx]
  by_cases hi : j = i
  · subst hi
    rw [if_pos rfl, if_pos hl, h, hw]
    rfl
  · rw [if_neg hi]
    cases he : tab[i]? with
    | none => rfl
    | some e' =>
      show some _ = some _
      rw [ho i e' he (fun q => hi q.symm)]
theorem xT_at {F : Nat → XC → Nat × va_E} {tab : List XC} {j : Nat} {e : XC} {Y : va_W} (h : tab[j]? = some e) : (tab.mapIdx F ++ Y)[j]? = some (F j e) := by
  have hl : j < tab.length := (List.getElem?_eq_some_iff.mp h).1
  rw [List.getElem?_append_left (by rw [List.length_mapIdx]; exact hl), List.getElem?_mapIdx, h]
  rfl
theorem xT_sa {F : Nat → XC → Nat × va_E} {tab : List XC} {j : Nat} {e : XC} {w : Nat × va_E} {Y : va_W} (h : tab[j]? = some e) : (tab.mapIdx F ++ Y).set j w = (tab.mapIdx F).set j w ++ Y := by
  have hl : j < tab.length := (List.getElem?_eq_some_iff.mp h).1
  exact List.set_append_left _ _ (by rw [List.length_mapIdx]; exact hl)
theorem xB_at (g : XG) (σ : XS) {j : Nat} {e : XC} (h : xTab[j]? = some e) : (xW g σ)[j]? = some (xEl g σ j e) := xT_at h
theorem xB_set (g : XG) (σ σ' : XS) {j : Nat} {e : XC} {w : Nat × va_E} (h : xTab[j]? = some e) (hw : w = xEl g σ' j e) (ho : ∀ j' e', xTab[j']? = some e' → j' ≠ j → xEl g σ' j' e' = xEl g σ j' e') (hA : gA σ' = gA σ) (hE : ∀ a, xPe σ' a = xPe σ a) : (xW g σ).set j w = xW g σ' :=
  (xT_sa h).trans ((congrArg (fun z => z ++ va_pl (gA σ) (xPe σ)) (xT_set h hw ho)).trans (congrArg (fun z => xB g σ' ++ z) (by rw [hA, va_pl_congr hE])))
theorem xEl_sR {g : XG} {σ : XS} {j j' : Nat} {f : Nat → Int32} {e : XC} (h : j' ≠ j) : xEl g (sR σ j f) j' e = xEl g σ j' e := by
  have h1 : gI (sR σ j f) j' = gI σ j' := by
    funext k
    rw [gI_sR, if_neg h]
  have h2 : xFld (xa g) (sR σ j f) j' = xFld (xa g) σ j' := by
    funext k q
    cases q with
    | none => show Value.int _ = Value.int _; rw [h1]
    | some r => rfl
  rcases e with ⟨a, n⟩ | o
  · match a with
    | 0 => show (_, Sum.inl (_, _, Sum.inl _)) = _; rw [h1]; rfl
    | 1 => rfl
    | 2 => rfl
    | a + 3 => rfl
  · show (_, Sum.inr (_, _)) = _
    rw [h2]; rfl
theorem xEl_sL {g : XG} {σ : XS} {j j' k : Nat} {x : Int64} {e : XC} (h : j' ≠ j) : xEl g (sL σ j k x) j' e = xEl g σ j' e := by
  have h1 : gL (sL σ j k x) j' = gL σ j' := by
    funext i
    rw [gL_sL, if_neg (fun q => h q.1)]
  rcases e with ⟨a, n⟩ | o
  · match a with
    | 0 => rfl
    | 1 => show (_, Sum.inl (_, _, Sum.inr (Sum.inl _))) = _; rw [h1]; rfl
    | 2 => rfl
    | a + 3 => rfl
  · rfl
theorem xPe_sR (σ : XS) (j : Nat) (f : Nat → Int32) : ∀ a, xPe (sR σ j f) a = xPe σ a := fun _ => rfl
theorem xPe_sL (σ : XS) (j k : Nat) (x : Int64) : ∀ a, xPe (sL σ j k x) a = xPe σ a := fun _ => rfl
theorem xSt.at {g : XG} {A B : Nat → Prop} {s U : State} {H : Heap} {locs : List Loc} (h : xSt g A s s.heap) (hvm : s.vm.Alike U.vm) (hS : va_S A s.heap H locs) (hAB : ∀ q, B q → A q) (hU : U.heap = H) : xSt g B U U.heap := by
  have hk : ∀ a : Nat, a < s.heap.size → ¬ A a → U.heap[a]? = s.heap[a]? := fun a h1 h2 => by rw [hU]; exact hS.2.1 a h1 h2
  obtain ⟨h1, h2, h3, h4, h5, h6⟩ := h
  exact ⟨((h1.kept hk).moved hvm).narrow hAB, ((h2.kept hk).moved hvm).narrow hAB, ((h3.kept hk).moved hvm).narrow hAB, ((h4.kept hk).moved hvm).narrow hAB, xNwC hvm h5, xNwC hvm h6⟩
theorem xSt.same {g : XG} {A : Nat → Prop} {s U : State} {H : Heap} (h : xSt g A s H) (hvm : s.vm.Alike U.vm) : xSt g A U H :=
  ⟨h.1.moved hvm, h.2.1.moved hvm, h.2.2.1.moved hvm, h.2.2.2.1.moved hvm, xNwC hvm h.2.2.2.2.1, xNwC hvm h.2.2.2.2.2⟩
theorem xFree {g : XG} {A : Nat → Prop} {s : State} {σ : XS} {H : Heap} {locs : List Loc} (hA : ∀ q, s.heap.size ≤ q → A q) (hO : xO g A s σ H locs) : ∀ q, va_A (xW g σ) H.size q → A q := by
  intro q h
  rcases h with ⟨k, e, h⟩ | h
  · exact hO.2.1.2 k (q, e) h
  · exact hA q (Nat.le_trans hO.2.2.1 h)
theorem xPre {g : XG} {A : Nat → Prop} {ws : List Cond} {own : String} {cc : ByteArray} {nL : Nat} {rt : Option FieldType} {p : Program} {s : State} {m : MethodId} {args : Array Value} {meth : Method} {c : Code} {σ : XS} {H : Heap} {locs : List Loc} (C0 : xC g A ws own cc nL rt p s m args meth c) (hO : xO g A s σ H locs) (av : List Value) :
    FrameBlind (xPc g H.size av σ) ∧ ∀ U : State, U.heap = H → s.WarmedH U.vm → xPc g H.size av σ av.toArray U := by
  obtain ⟨-, -, -, -, -, -, -, hK, hA, hSt⟩ := C0
  refine ⟨fun a U f mk q => ?_, fun U hU hW => ⟨rfl, by rw [hU], by rw [hU]; exact hO.1, va_K.moved hW.alike hK, hO.2.1.weaken (fun _ _ _ _ => trivial), hSt.at hW.alike hO.2.2 (xFree hA hO) hU⟩⟩
  obtain ⟨q0, q1, qP, qK, qD, qS⟩ := q
  exact ⟨q0, q1, qP, va_K.moved (u := U) (U := U.calling f mk a) (Vm.Alike.refl U.vm) qK, qD, xSt.same (U := U.calling f mk a) qS (Vm.Alike.refl U.vm)⟩
theorem xRecv {g : XG} {A : Nat → Prop} {ws : List Cond} {own : String} {cc : ByteArray} {nL : Nat} {rt : Option FieldType} {p : Program} {s : State} {m : MethodId} {args : Array Value} {meth : Method} {c : Code} {σ : XS} {H : Heap} {locs : List Loc} (C0 : xC g A ws own cc nL rt p s m args meth c) (hO : xO g A s σ H locs) {j : Nat} {ci : Nat} {fs : List (Option Nat)} (ht : xTab[j]? = some (.inr (ci, fs))) {q : vw_C} (hc : vwCl[ci]? = some q) :
    ∃ cell : Cell, H[xa g j]? = some cell ∧ cell.vm.isStatics = false ∧ s.vm.findClass q.1 = some cell.cls := by
  obtain ⟨-, -, -, -, -, -, -, hK, -, -⟩ := C0
  exact va_recv hK hO.1 hc (xB_at g σ ht)
theorem xPool {g : XG} {σ : XS} {a : Nat} (h : a ∈ gA σ) : ∃ k : Nat, (xW g σ)[k]? = some (a, .inr (gK σ a, [.int (gV σ a)])) := va_pl_get (X := xB g σ) (f := xPe σ) h
theorem xRecvP {g : XG} {A : Nat → Prop} {ws : List Cond} {own : String} {cc : ByteArray} {nL : Nat} {rt : Option FieldType} {p : Program} {s : State} {m : MethodId} {args : Array Value} {meth : Method} {c : Code} {σ : XS} {H : Heap} {locs : List Loc} (C0 : xC g A ws own cc nL rt p s m args meth c) (hO : xO g A s σ H locs) {a ci : Nat} (hL : a ∈ gA σ) (hk : gK σ a = ci) {q : vw_C} (hc : vwCl[ci]? = some q) :
    ∃ cell : Cell, H[a]? = some cell ∧ cell.vm.isStatics = false ∧ s.vm.findClass q.1 = some cell.cls := by
  obtain ⟨-, -, -, -, -, -, -, hK, -, -⟩ := C0
  obtain ⟨k, h⟩ := xPool (g := g) hL
  rw [hk] at h
  exact va_recv hK hO.1 hc h
