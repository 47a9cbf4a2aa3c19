theorem acl_int : Cond.arrayClass .int ∈ wU := mw (i := 137) (by decide +kernel) (by decide +kernel)
theorem acl_bool : Cond.arrayClass .boolean ∈ wU := mw (i := 903) (by decide +kernel) (by decide +kernel)
/-! the growing world: cells in order of allocation, for the constructors -/
abbrev Bt : Type := Nat × (Nat → va_E) × (Nat → Nat)
def wlB (b : Bt) : va_W := (List.range b.1).map (fun r => (b.2.2 r, b.2.1 r))
def Wb (D : va_G) (bs : Nat) (b : Bt) (H : Heap) : Prop := va_P D vwCl (wlB b) H ∧ va_D (fun q => bs ≤ q) (wlB b)
def bnew (b : Bt) (a : Nat) (e : va_E) : Bt := (b.1 + 1, fun r => if r = b.1 then e else b.2.1 r, fun r => if r = b.1 then a else b.2.2 r)
def bset (b : Bt) (r : Nat) (e : va_E) : Bt := (b.1, fun z => if z = r then e else b.2.1 z, b.2.2)
theorem wlB_get {b : Bt} {r : Nat} (h : r < b.1) : (wlB b)[r]? = some (b.2.2 r, b.2.1 r) := by simp [wlB, h]
theorem wlB_new (b : Bt) (a : Nat) (e : va_E) : wlB b ++ [(a, e)] = wlB (bnew b a e) := by
  show (List.range b.1).map _ ++ _ = (List.range (b.1 + 1)).map _
  rw [List.range_succ, List.map_append]
  have hA : (List.range b.1).map (fun r => (b.2.2 r, b.2.1 r)) = (List.range b.1).map (fun r => ((bnew b a e).2.2 r, (bnew b a e).2.1 r)) := by
    apply List.map_congr_left
    intro r hr
    have hr := List.mem_range.mp hr
    have h1 : (bnew b a e).2.2 r = b.2.2 r := if_neg (by omega)
    have h2 : (bnew b a e).2.1 r = b.2.1 r := if_neg (by omega)
    rw [h1, h2]
  have h1 : (bnew b a e).2.2 b.1 = a := if_pos rfl
  have h2 : (bnew b a e).2.1 b.1 = e := if_pos rfl
  rw [hA, List.map_singleton, h1, h2]
theorem wlB_set {b : Bt} {r : Nat} {e : va_E} (h : r < b.1) : (wlB b).set r (b.2.2 r, e) = wlB (bset b r e) := by
  apply List.ext_getElem?
  intro i
  by_cases hi : i < b.1
  · rw [wlB_get (b := bset b r e) hi]
    by_cases hir : i = r
    · subst hir
      rw [List.getElem?_set_self (by simp [wlB]; exact hi)]
      show _ = some (b.2.2 i, if i = i then e else _)
      rw [if_pos rfl]
    · rw [List.getElem?_set_ne (Ne.symm hir), wlB_get hi]
      show _ = some (b.2.2 i, if i = r then e else _)
      rw [if_neg hir]
  · rw [List.getElem?_eq_none (by simp [wlB]; omega), List.getElem?_eq_none (by simp [wlB, bset]; omega)]
def J (X : Cx) (k n pc : Nat) (ls : List (Option Value)) (st : List Value) (w : Bt) : Prop :=
  ∀ (H : Heap) (locs : List Loc) (arr : Array Slot), Wb (xD X) (xbs X) w H → va_S (fun q => xbs X ≤ q) (xs X).heap H locs → Lv arr ls → (k ≤ (xR X).cells ∧ n ≤ (xR X).slots) →
    W (xp X) (xl X) (xe X) (xR X) (xs X) (xm X) (xa X) (xb X) (xmt X) (xc X) H locs k n (xQ X) (F0 (xm X) pc arr st)
/-- what lies below is kept, but for the cell of q -/
def Kp (q : Nat) (b b' : Bt) : Prop := b.1 ≤ b'.1 ∧ (∀ r, r < b.1 → b'.2.2 r = b.2.2 r) ∧ ∀ r, r < b.1 → r ≠ q → b'.2.1 r = b.2.1 r
theorem Kp.rf {q : Nat} {b : Bt} : Kp q b b := ⟨Nat.le_refl _, fun _ _ => rfl, fun _ _ _ => rfl⟩
theorem Kp.tr {q : Nat} {b b' b'' : Bt} (h : Kp q b b') (h2 : Kp q b' b'') : Kp q b b'' := ⟨Nat.le_trans h.1 h2.1, fun r hr => (h2.2.1 r (Nat.lt_of_lt_of_le hr h.1)).trans (h.2.1 r hr), fun r hr hq => (h2.2.2 r (Nat.lt_of_lt_of_le hr h.1) hq).trans (h.2.2 r hr hq)⟩
theorem Kp.nw {b : Bt} {a : Nat} {e : va_E} (q : Nat) : Kp q b (bnew b a e) := ⟨Nat.le_succ _, fun r hr => if_neg (by omega), fun r hr _ => if_neg (by omega)⟩
theorem Kp.st {b : Bt} {r : Nat} {e : va_E} : Kp r b (bset b r e) := ⟨Nat.le_refl _, fun _ _ => rfl, fun _ _ h => if_neg h⟩
/-- a call's making of the object at role b.1 -/
theorem Kp.mkd {b b1 b2 : Bt} (h : ∀ q, Kp q b b1) (h2 : Kp b.1 b1 b2) (q : Nat) : Kp q b b2 := ⟨Nat.le_trans (h q).1 h2.1, fun r hr => (h2.2.1 r (Nat.lt_of_lt_of_le hr (h q).1)).trans ((h q).2.1 r hr), fun r hr _ => (h2.2.2 r (Nat.lt_of_lt_of_le hr (h q).1) (by omega)).trans ((h (r + 1)).2.2 r hr (by omega))⟩
def ini (r j : Nat) : Int32 := if (kd r = 1 ∧ j = 4) ∨ (kd r = 2 ∧ j = 5) ∨ (kd r = 7 ∧ j = 4) ∨ (kd r = 8 ∧ j = 1) then -1 else 0
def ceB (ac : Nat → ClassId) (lay : Nat → Nat) (r : Nat) : va_E :=
  if kd r = 12 then .inl (ac 2, 400, .inr (.inr (.inr (.inr (fun _ => none)))))
  else if kd r = 13 then .inl (ac 3, 6, .inr (.inr (.inr (.inr (fun j => if j < 6 then some (lay (r + 1 + 17 * j)) else none)))))
  else if kd r = 14 then .inl (ac 4, 12, .inr (.inr (.inr (.inr (fun j => if j < 12 then some (lay (r + 4 + j)) else none)))))
  else cellF ac lay (0, 0, fun _ => 0) (ini r) r
def Ag (b : Bt) (lay : Nat → Nat) : Prop := ∀ z, z < b.1 → lay z = b.2.2 z
theorem Ag.rf (b : Bt) : Ag b b.2.2 := fun _ _ => rfl
theorem Ag.kp {q : Nat} {b b' : Bt} {lay : Nat → Nat} (h : Kp q b b') (ha : Ag b' lay) : Ag b lay := fun z hz => (ha z (Nat.lt_of_lt_of_le hz h.1)).trans (h.2.1 z hz)
def Dn (ac : Nat → ClassId) (b : Bt) (r : Nat) : Prop := ∀ lay, Ag b lay → b.2.1 r = ceB ac lay r
/-- an object of role q in the making: F its cell, G the cell of its row of objects, of role x -/
def Pg (ac : Nat → ClassId) (q : Nat) (F : (Nat → Nat) → va_E) (x : Nat) (G : (Nat → Nat) → va_E) (b0 b : Bt) : Prop :=
  Kp q b0 b ∧ (q < b0.1 ∧ x < b.1) ∧ ∀ r, q ≤ r → r < b.1 → ∀ lay, Ag b lay → b.2.1 r = if r = q then F lay else if r = x then G lay else ceB ac lay r
theorem Pg.start {ac : Nat → ClassId} {q : Nat} {e : va_E} {b : Bt} (h1 : b.1 = q + 1) (hc : b.2.1 q = e) : Pg ac q (fun _ => e) q (fun _ => e) b b := by
  refine ⟨Kp.rf, ⟨by omega, by omega⟩, fun r h2 h3 lay _ => ?_⟩
  have : r = q := by omega
  subst this
  rw [if_pos rfl]
  exact hc
theorem Pg.lt {ac : Nat → ClassId} {q x : Nat} {F G : (Nat → Nat) → va_E} {b0 b : Bt} (h : Pg ac q F x G b0 b) : q < b.1 := Nat.lt_of_lt_of_le h.2.1.1 h.1.1
theorem Pg.la {ac : Nat → ClassId} {q x : Nat} {F G : (Nat → Nat) → va_E} {b0 b : Bt} (h : Pg ac q F x G b0 b) : b.2.2 q = b0.2.2 q := h.1.2.1 q h.2.1.1
theorem Pg.self {ac : Nat → ClassId} {q x : Nat} {F G : (Nat → Nat) → va_E} {b0 b : Bt} (h : Pg ac q F x G b0 b) : b.2.1 q = F b.2.2 := by
  have := h.2.2 q (Nat.le_refl _) h.lt b.2.2 (Ag.rf b)
  rwa [if_pos rfl] at this
theorem Pg.row {ac : Nat → ClassId} {q x : Nat} {F G : (Nat → Nat) → va_E} {b0 b : Bt} (h : Pg ac q F x G b0 b) (hx : q < x) : b.2.1 x = G b.2.2 := by
  have := h.2.2 x (by omega) h.2.1.2 b.2.2 (Ag.rf b)
  rwa [if_neg (by omega), if_pos rfl] at this
theorem Pg.put {ac : Nat → ClassId} {q x : Nat} {F G : (Nat → Nat) → va_E} {b0 b : Bt} {e : va_E} (F' : (Nat → Nat) → va_E) (h : Pg ac q F x G b0 b) (he : ∀ lay, Ag b lay → e = F' lay) : Pg ac q F' x G b0 (bset b q e) := by
  refine ⟨h.1.tr Kp.st, h.2.1, fun r h2 h3 lay ha => ?_⟩
  by_cases hr : r = q
  · subst hr
    rw [if_pos rfl]
    exact (if_pos rfl).trans (he lay ha)
  · have := h.2.2 r h2 h3 lay ha
    rw [if_neg hr] at this ⊢
    exact (if_neg hr).trans this
theorem Pg.ast {ac : Nat → ClassId} {q x : Nat} {F G : (Nat → Nat) → va_E} {b0 b : Bt} {e : va_E} (G' : (Nat → Nat) → va_E) (h : Pg ac q F x G b0 b) (hq0 : b0.1 = q + 1) (hx : q < x) (he : ∀ lay, Ag b lay → e = G' lay) : Pg ac q F x G' b0 (bset b x e) := by
  refine ⟨⟨h.1.1, h.1.2.1, fun r hr hq => ?_⟩, h.2.1, fun r h2 h3 lay ha => ?_⟩
  · exact (if_neg (by omega)).trans (h.1.2.2 r hr hq)
  · by_cases hr : r = q
    · have := h.2.2 r h2 h3 lay ha
      rw [if_pos hr] at this ⊢
      exact (if_neg (by omega)).trans this
    · by_cases hrx : r = x
      · subst hrx
        rw [if_neg hr, if_pos rfl]
        exact (if_pos rfl).trans (he lay ha)
      · have := h.2.2 r h2 h3 lay ha
        rw [if_neg hr, if_neg hrx] at this ⊢
        exact (if_neg hrx).trans this
theorem Pg.grow {ac : Nat → ClassId} {q x : Nat} {F G : (Nat → Nat) → va_E} {b0 b b2 : Bt} (h : Pg ac q F x G b0 b) (hk : ∀ q, Kp q b b2) (hd : ∀ r, b.1 ≤ r → r < b2.1 → Dn ac b2 r) : Pg ac q F x G b0 b2 := by
  have hl := h.lt
  refine ⟨h.1.tr (hk q), ⟨h.2.1.1, Nat.lt_of_lt_of_le h.2.1.2 (hk 0).1⟩, fun r h2 h3 lay ha => ?_⟩
  by_cases hr : r < b.1
  · rw [(hk (r + 1)).2.2 r hr (by omega)]
    exact h.2.2 r h2 hr lay (ha.kp (hk 0))
  · have hx := h.2.1.2
    rw [if_neg (by omega), if_neg (by omega)]
    exact hd r (by omega) h3 lay ha
theorem Pg.newx {ac : Nat → ClassId} {q : Nat} {F G : (Nat → Nat) → va_E} {b0 b b2 : Bt} (G' : (Nat → Nat) → va_E) (h : Pg ac q F q G b0 b) (hk : ∀ q, Kp q b b2) (h1 : b2.1 = b.1 + 1) (hc : ∀ lay, b2.2.1 b.1 = G' lay) : Pg ac q F b.1 G' b0 b2 := by
  have hl := h.lt
  refine ⟨h.1.tr (hk q), ⟨h.2.1.1, by omega⟩, fun r h2 h3 lay ha => ?_⟩
  by_cases hr : r < b.1
  · rw [(hk (r + 1)).2.2 r hr (by omega)]
    have := h.2.2 r h2 hr lay (ha.kp (hk 0))
    by_cases hq : r = q
    · rw [if_pos hq] at this ⊢
      exact this
    · rw [if_neg hq, if_neg hq] at this
      rw [if_neg hq, if_neg (by omega)]
      exact this
  · have : r = b.1 := by omega
    subst this
    rw [if_neg (by omega), if_pos rfl]
    exact hc lay
theorem Pg.done {ac : Nat → ClassId} {q x : Nat} {F G : (Nat → Nat) → va_E} {b0 b : Bt} (h : Pg ac q F x G b0 b) (hF : ∀ lay, F lay = ceB ac lay q) (hG : ∀ lay, x ≠ q → G lay = ceB ac lay x) : ∀ r, q ≤ r → r < b.1 → Dn ac b r := by
  intro r h2 h3 lay ha
  have := h.2.2 r h2 h3 lay ha
  by_cases hq : r = q
  · rw [if_pos hq] at this
    rw [this, hF, hq]
  · rw [if_neg hq] at this
    by_cases hx : r = x
    · rw [if_pos hx] at this
      rw [this, hG lay (fun z => hq (hx.trans z)), hx]
    · rw [if_neg hx] at this
      exact this
def AOs (U : State) : Prop := va_AO "TermReckoner$Entry" U ∧ va_AO "TermReckoner$File" U ∧ va_AO "TermReckoner$Place" U
theorem AOs.moved {u U : State} (hvm : u.vm.Alike U.vm) (h : AOs u) : AOs U := ⟨h.1.moved hvm, h.2.1.moved hvm, h.2.2.moved hvm⟩
def PcJ (D : va_G) (ac : Nat → ClassId) (bs : Nat) (av : List Value) (b : Bt) : Array Value → State → Prop := va_Pc av (fun U => Wb D bs b U.heap ∧ va_K D vwCl (tya ac) U ∧ NW U ∧ AOs U)
def QcJ (D : va_G) (bs : Nat) (Po : Bt → Prop) : Array Value → State → Outcome → State → Prop := fun _ st oc t => (∃ b' : Bt, oc = .returned none ∧ Po b' ∧ Wb D bs b' t.heap) ∧ va_F (fun q => bs ≤ q) st t
/-- A CONSTRUCTOR'S CONTRACT: with the new object at role q of kind K, the last, it makes all its sz cells as the first state has them -/
def CtJ (y : MethodName) (cc : ByteArray) (nL d mc ms K ci sz : Nat) (fs0 : List Value) : Prop :=
  ∀ (l : Launch) (D : va_G) (ac : Nat → ClassId) (bs : Nat) (b : Bt) (q : Nat) (Po : Bt → Prop), b.1 = q + 1 → kd q = K → b.2.1 q = .inr (ci, fs0) → (∀ b', Kp q b b' → b'.1 = q + sz → (∀ r, q ≤ r → r < q + sz → Dn ac b' r) → Po b') →
    Met l y (.code y cc nL none :: wU) { frames := d, cells := mc, slots := ms, locals := 40 * d } (PcJ D ac bs [.ref (b.2.2 q)] b) (QcJ D bs Po) mc ms (fun q => bs ≤ q)
def RxJ (X : Cx) (mc ms : Nat) (Po : Bt → Prop) : Prop := (xmt X).sig.returnType = none ∧ (xmt X).locks = false ∧ xQ X = MQ (xb X) (QcJ (xD X) (xbs X) Po) (xa X) (xs X) mc ms (fun q => xbs X ≤ q)
theorem blindJ {D : va_G} {ac : Nat → ClassId} {bs : Nat} {av : List Value} {b : Bt} : FrameBlind (PcJ D ac bs av b) := fun a U g mk q => ⟨q.1, q.2.1, va_K.moved (u := U) (U := U.calling g mk a) (Vm.Alike.refl U.vm) q.2.2.1, NW.vm (u := U) (U := U.calling g mk a) rfl q.2.2.2.1, AOs.moved (u := U) (U := U.calling g mk a) (Vm.Alike.refl U.vm) q.2.2.2.2⟩
theorem Wb.bs {D : va_G} {bs : Nat} {b : Bt} {H : Heap} (h : Wb D bs b H) {r : Nat} (hr : r < b.1) : bs ≤ H.size := by
  have e := wlB_get hr
  have h1 := (h.1 r _ e).lt
  have h2 : bs ≤ _ := h.2.2 r _ e
  exact Nat.le_of_lt (Nat.lt_of_le_of_lt h2 h1)
set_option maxHeartbeats 1000000 in
theorem CtJ.mk {y : MethodName} {cc : ByteArray} {nL d mc ms K ci sz : Nat} {fs0 : List Value} (hy : plainName y.cls = true) (hnL : 1 ≤ nL)
    (body : ∀ (X : Cx) (b : Bt) (q : Nat) (Po : Bt → Prop), Kx X cc y.cls nL d → RxJ X mc ms Po → Kz X y.name mc ms → AOs (xs X) → b.1 = q + 1 → kd q = K → b.2.1 q = .inr (ci, fs0) → (∀ b', Kp q b b' → b'.1 = q + sz → (∀ r, q ≤ r → r < q + sz → Dn (xac X) b' r) → Po b') → J X 0 0 0 (some (.ref (b.2.2 q)) :: List.replicate (nL - 1) none) [] b) : CtJ y cc nL d mc ms K ci sz fs0 := by
  intro l D ac bs b q Po hb1 hkd hcq hPo
  refine Met.ofW (cc := cc) (maxL := nL) (ret := none) hy rfl ?_
  intro p e s m args below meth c s₁ B hml hv
  obtain ⟨rfl, hP, hK, hN, hAO⟩ := hv
  have hts := atoms_spec (ws := .code y cc nL none :: wU) B.pre
  have hown : s.vm.findClass y.cls = some m.cls := findClass_of_methodNamed B.named
  let X : Cx := (p, l, e, (headSpec (.code y cc nL none :: wU) { frames := d, cells := mc, slots := ms, locals := 40 * d }).room, s, m, [Value.ref (b.2.2 q)].toArray, below, meth, c, D, ac, bs, fun _ => 0, MQ below (QcJ D bs Po) [Value.ref (b.2.2 q)].toArray s mc ms (fun q => bs ≤ q))
  have h2 := body X b q Po ⟨B.exec, B.bytes, hml, hown, fun w hw => hts w (List.mem_cons_of_mem _ hw), hK, hN, Nat.le_refl _, Nat.le_refl _⟩ ⟨B.returns, B.notSynchronized, rfl⟩ ⟨⟨Nat.le_refl _, Nat.le_refl _⟩, (name_of_methodNamed B.named B.method).1, hP.bs (r := q) (by omega)⟩ hAO hb1 hkd hcq hPo
  have hsl : lg_sl [Value.ref (b.2.2 q)] = [Slot.val (.ref (b.2.2 q))] := rfl
  have hl := lv_entry [Value.ref (b.2.2 q)] (n := nL) (by rw [hsl]; exact hnL)
  rw [lg_entry_eq]
  rw [hsl] at hl ⊢
  refine h2 s.heap [] _ hP va_S.rf ?_ ⟨Nat.zero_le _, Nat.zero_le _⟩
  have hL1 : (some (Value.ref (b.2.2 q)) :: List.replicate (nL - 1) none).length = nL := by
    rw [List.length_cons, List.length_replicate]; omega
  refine ⟨⟨by rw [hL1]; exact hl.1, hl.2.1, fun q hq => by cases hq⟩, fun j v hj => ?_⟩
  cases j with
  | zero =>
    cases hj
    exact ⟨rfl, rfl⟩
  | succ j =>
    rw [List.getElem?_cons_succ] at hj
    obtain ⟨_, h9⟩ := List.getElem?_eq_some_iff.mp hj
    rw [List.getElem_replicate] at h9
    cases h9
/-- what a store into a field rests on -/
def PutB (own : String) (idx ci j N : Nat) (C : String) (T : u_T) (ty : FieldType) : Prop :=
  vwCl[ci]? = some (C, T, N) ∧ (∀ q ∈ u_ws C T N, q ∈ wU) ∧ (∃ ty0 : Nat → FieldType, ∀ k, k < N → parseFieldDescriptor (T k).2.2.1 = some (ty0 k)) ∧ (∀ a, a < N → ∀ b, b < N → a ≠ b → (T a).2.1 ≠ (T b).2.1) ∧ j < N ∧ Cond.fieldLink own idx (T j).1 (T j).2.1 (T j).2.2.1 ∈ wU ∧ ((T j).2.2.2 = false ∨ ((T j).2.2.2 = true ∧ (T j).1 = own)) ∧ parseFieldDescriptor (T j).2.2.1 = some ty
section JROWS
variable {X : Cx} {cc : ByteArray} {own : String} {nL d k n pc : Nat} {ls ls' : List (Option Value)} {st : List Value} {w : Bt}
theorem j_iconst {c : Int} (v : Int32) (hX : Kx X cc own nL d) (hd : decode cc pc = .ok (.iconst c, 1)) (hv : Int32.ofInt c = v) (kk : J X k n (pc + 1) ls (.int v :: st) w) : J X k n pc ls st w := fun H locs arr hW hS hL hk => lv_iconst hX.1 hX.2.1 hd hv (kk H locs arr hW hS hL hk)
theorem j_bipush {c : Int} (v : Int32) (hX : Kx X cc own nL d) (hd : decode cc pc = .ok (.bipush c, 2)) (hv : (Int8.ofInt c).toInt32 = v) (kk : J X k n (pc + 2) ls (.int v :: st) w) : J X k n pc ls st w := fun H locs arr hW hS hL hk => lv_bipush hX.1 hX.2.1 hd hv (kk H locs arr hW hS hL hk)
theorem j_sipush {c : Int} (v : Int32) (hX : Kx X cc own nL d) (hd : decode cc pc = .ok (.sipush c, 3)) (hv : (Int16.ofInt c).toInt32 = v) (kk : J X k n (pc + 3) ls (.int v :: st) w) : J X k n pc ls st w := fun H locs arr hW hS hL hk => lv_sipush hX.1 hX.2.1 hd hv (kk H locs arr hW hS hL hk)
theorem j_ldc {i : Nat} {v : Int32} (hX : Kx X cc own nL d) (hd : decode cc pc = .ok (.ldc i, 2)) (hc : Cond.constant own i v ∈ wU) (kk : J X k n (pc + 2) ls (.int v :: st) w) : J X k n pc ls st w := fun H locs arr hW hS hL hk => lv_ldc hX.1 hX.2.1 hX.2.2.2.1 (hX.2.2.2.2.1 _ hc) hd (kk H locs arr hW hS hL hk)
theorem j_dup {v : Value} (hX : Kx X cc own nL d) (hd : decode cc pc = .ok (.dup, 1)) (hv : v.category = 1) (kk : J X k n (pc + 1) ls (v :: v :: st) w) : J X k n pc ls (v :: st) w := fun H locs arr hW hS hL hk => lv_dup hX.1 hX.2.1 hd hv (kk H locs arr hW hS hL hk)
theorem j_goto {off : Int} (tgt : Nat) (hX : Kx X cc own nL d) (hd : decode cc pc = .ok (.goto off, 3)) (ht : (pc : Int) + off = (tgt : Int)) (kk : J X k n tgt ls st w) : J X k n pc ls st w := fun H locs arr hW hS hL hk => lv_goto hX.1 hX.2.1 hd ht (kk H locs arr hW hS hL hk)
theorem j_icmp_ge {x y : Int32} {off : Int} (tgt : Nat) (hX : Kx X cc own nL d) (hd : decode cc pc = .ok (.if_icmp .ge off, 3)) (ht : (pc : Int) + off = (tgt : Int)) (kt : y ≤ x → J X k n tgt ls st w) (kf : ¬ y ≤ x → J X k n (pc + 3) ls st w) : J X k n pc ls (.int y :: .int x :: st) w := fun H locs arr hW hS hL hk => lv_icmp_ge hX.1 hX.2.1 hd ht (fun q => kt q H locs arr hW hS hL hk) (fun q => kf q H locs arr hW hS hL hk)
theorem j_iload_n {i : Fin 4} {v : Int32} (hX : Kx X cc own nL d) (hd : decode cc pc = .ok (.iload_n i, 1)) (hv : ls[(i : Nat)]? = some (some (.int v))) (kk : J X k n (pc + 1) ls (.int v :: st) w) : J X k n pc ls st w := fun H locs arr hW hS hL hk => lv_iload_n hX.1 hX.2.1 hd rfl (hL.2 _ _ hv).1 (kk H locs arr hW hS hL hk)
theorem j_aload_n {i : Fin 4} {v : Nat} (hX : Kx X cc own nL d) (hd : decode cc pc = .ok (.aload_n i, 1)) (hv : ls[(i : Nat)]? = some (some (.ref v))) (kk : J X k n (pc + 1) ls (.ref v :: st) w) : J X k n pc ls st w := fun H locs arr hW hS hL hk => lv_aload_n hX.1 hX.2.1 hd rfl (hL.2 _ _ hv).1 (kk H locs arr hW hS hL hk)
theorem j_istore_n {i : Fin 4} {v : Int32} (hX : Kx X cc own nL d) (hd : decode cc pc = .ok (.istore_n i, 1)) (hn : (i : Nat) < ls.length) (he : ls.set (i : Nat) (some (.int v)) = ls') (kk : J X k n (pc + 1) ls' st w) : J X k n pc ls (.int v :: st) w := by
  subst he
  exact fun H locs arr hW hS hL hk => lv_istore_n hX.1 hX.2.1 hd rfl hL.has hn rfl (fun arr' hL' => kk H locs arr' hW hS (hL.st rfl hL') hk)
theorem j_iinc {i : Nat} {c : Int} {x : Int32} (v : Int32) (hX : Kx X cc own nL d) (hd : decode cc pc = .ok (.iinc i c, 3)) (hx : ls[i]? = some (some (.int x))) (hv : x + Int32.ofInt c = v) (he : ls.set i (some (.int v)) = ls') (kk : J X k n (pc + 3) ls' st w) : J X k n pc ls st w := by
  subst he
  intro H locs arr hW hS hL hk
  obtain ⟨j, hj⟩ := List.getElem?_of_mem (knl_in (q := (i, .int x)).mpr hx)
  exact lv_iinc hX.1 hX.2.1 hd hL.has hj hv (List.getElem?_eq_some_iff.mp hx).1 rfl (fun arr' hL' => kk H locs arr' hW hS (hL.st rfl hL') hk)
theorem j_obj {a idx : Nat} (hX : Kx X cc own nL d) (hl : Cond.methodLink own idx Lib.objectInit ∈ wU) (hls : ls.length = nL) (hd0 : 1 ≤ d) (hsm : (st.map fun v => v.category).sum ≤ 8) (hd : decode cc pc = .ok (.invokespecial idx, 3)) (kk : J X k n (pc + 3) ls st w) : J X k n pc ls (.ref a :: st) w := by
  intro H locs arr hW hS hL hk
  have h1 := hX.2.2.2.2.2.2.2.1
  have h2 := hX.2.2.2.2.2.2.2.2
  refine W.objInit hX.1 hX.2.1 hX.2.2.2.1 (hX.2.2.2.2.1 _ hl) (hX.2.2.2.2.1 _ ob_i) (hX.2.2.2.2.1 _ ob_c) rfl ?_ rfl hd (by omega) ?_ (kk H locs arr hW hS hL hk)
  · rw [hX.2.2.1, ← hls]; exact hL.1.1
  · show 2 * 0 + _ + 12 ≤ _
    omega
theorem j_vret {mc ms : Nat} {Po : Bt → Prop} (hX : Kx X cc own nL d) (hR : RxJ X mc ms Po) (hd : decode cc pc = .ok (.return_, 1)) (hk1 : k ≤ mc ∧ n ≤ ms) (hPo : Po w) : J X k n pc ls [] w := by
  intro H locs arr hW hS hL hk
  obtain ⟨hr, hlk, hQ⟩ := hR
  rw [hQ]
  refine W.widen hk1.1 hk1.2 ?_
  exact W.vret hX.1 hX.2.1 hr (fun t ht hwm => ⟨⟨w, rfl, hPo, by rw [ht]; exact hW⟩, hS.F ht⟩) hS.2.2 hd hlk
theorem j_put {r ci j idx N : Nat} {C : String} {T : u_T} {ty : FieldType} {v : Value} {fs : List Value} (hp : PutB own idx ci j N C T ty) (hX : Kx X cc own nL d) (hnm0 : (xmt X).name = "<init>") (hr : r < w.1) (hc : w.2.1 r = .inr (ci, fs)) (hn : narrow ty v = v) (hfit : fits ty v = true) (hlen : j < fs.length) (hd : decode cc pc = .ok (.putfield idx, 3)) (kk : J X k n (pc + 3) ls st (bset w r (.inr (ci, fs.set j v)))) : J X k n pc ls (v :: .ref (w.2.2 r) :: st) w := by
  obtain ⟨hcl, hin, ⟨ty0, hty⟩, hnm, hj, hl, hfin, hI⟩ := hp
  intro H locs arr hW hS hL hk
  rcases hfin with hfin | ⟨hfin, hdecl⟩
  · refine va_put (ty := ty) (v := v) hX.1 hX.2.1 hX.2.2.2.2.1 hin ty0 hty hnm hX.2.2.2.1 hX.2.2.2.2.2.1 hW.1 hW.2 hS r ((wlB_get hr).trans (by rw [hc])) hcl j hj (hX.2.2.2.2.1 _ hl) (fun _ h9 => h9) hfin hI hn hfit hlen hd (fun H1 locs1 hP hD hS1 => ?_)
    rw [wlB_set hr] at hP hD
    exact kk H1 locs1 arr ⟨hP, hD⟩ hS1 hL hk
  · refine va_putF (ty := ty) (v := v) hX.1 hX.2.1 hX.2.2.2.2.1 hin ty0 hty hnm hX.2.2.2.1 hX.2.2.2.2.2.1 hW.1 hW.2 hS r ((wlB_get hr).trans (by rw [hc])) hcl j hj (hX.2.2.2.2.1 _ hl) (fun _ h9 => h9) hfin hnm0 hdecl hI hn hfit hlen hd (fun H1 locs1 hP hD hS1 => ?_)
    rw [wlB_set hr] at hP hD
    exact kk H1 locs1 arr ⟨hP, hD⟩ hS1 hL hk
theorem j_get {r ci j idx N : Nat} {C : String} {T : u_T} {ty : FieldType} {v : Value} {fs : List Value} (hp : PutB own idx ci j N C T ty) (hX : Kx X cc own nL d) (hr : r < w.1) (hc : w.2.1 r = .inr (ci, fs)) (hv : fs[j]? = some v) (hd : decode cc pc = .ok (.getfield idx, 3)) (kk : J X k n (pc + 3) ls (v :: st) w) : J X k n pc ls (.ref (w.2.2 r) :: st) w := by
  obtain ⟨hcl, hin, -, hnm, hj, hl, -, hI⟩ := hp
  intro H locs arr hW hS hL hk
  exact va_get hX.1 hX.2.1 hX.2.2.2.2.1 hin hX.2.2.2.1 hX.2.2.2.2.2.1 hW.1 r ((wlB_get hr).trans (by rw [hc])) hcl j hj (hX.2.2.2.2.1 _ hl) (fun _ h9 => h9) hv hd (kk H locs arr hW hS hL hk)
theorem j_new {idx ci N : Nat} {C : String} {T : u_T} {fs : List Value} (ty0 : Nat → FieldType) (hX : Kx X cc own nL d) (hB : xbs X ≤ (xs X).heap.size) (hcl0 : vwCl[ci]? = some (C, T, N)) (hin : ∀ q ∈ u_ws C T N, q ∈ wU) (hty : ∀ k, k < N → parseFieldDescriptor (T k).2.2.1 = some (ty0 k)) (hcl : Cond.classLink own idx C ∈ wU) (hinst : Cond.instantiable C N ∈ wU) (hini : Cond.initialized C ∈ wU) (hfs : ∀ j, j < N → defaultValue (ty0 j) = vp_V fs j) (hcs : k + 1 ≤ (xR X).cells ∧ n + N ≤ (xR X).slots) (hd : decode cc pc = .ok (.new idx, 3))
    (kk : ∀ b2 : Bt, (∀ q, Kp q w b2) → b2.1 = w.1 + 1 → b2.2.1 w.1 = .inr (ci, fs) → J X (k + 1) (n + N) (pc + 3) ls (.ref (b2.2.2 w.1) :: st) b2) : J X k n pc ls st w := by
  intro H locs arr hW hS hL hk
  refine va_new (ci := ci) (fs := fs) hX.1 hX.2.1 hX.2.2.2.2.1 hin ty0 hty hX.2.2.2.1 (hX.2.2.2.2.1 _ hcl) (hX.2.2.2.2.1 _ hinst) (hX.2.2.2.2.1 _ hini) hX.2.2.2.2.2.1 hW.1 hW.2 hS (fun q h => Nat.le_trans hB h) hcl0 hfs hcs.1 hcs.2 hd (fun q H1 hP hD hS1 => ?_)
  rw [wlB_new] at hP hD
  have h9 := kk (bnew w q (.inr (ci, fs))) (fun z => Kp.nw z) rfl (if_pos rfl)
  rw [show (bnew w q (.inr (ci, fs))).2.2 w.1 = q from if_pos rfl] at h9
  exact h9 H1 locs arr ⟨hP, hD⟩ hS1 hL hcs
theorem j_newi {i : Int32} {N : Nat} (hX : Kx X cc own nL d) (hB : xbs X ≤ (xs X).heap.size) (hi : i = nI N) (hN : N < 2 ^ 20) (hcs : k + 1 ≤ (xR X).cells ∧ n + N ≤ (xR X).slots) (hd : decode cc pc = .ok (.newarray .int, 2))
    (kk : ∀ b2 : Bt, (∀ q, Kp q w b2) → b2.1 = w.1 + 1 → b2.2.1 w.1 = .inl (xac X 0, N, .inl (fun _ => 0)) → J X (k + 1) (n + N) (pc + 2) ls (.ref (b2.2.2 w.1) :: st) b2) : J X k n pc ls (.int i :: st) w := by
  subst hi
  intro H locs arr hW hS hL hk
  refine va_newa (a0 := (N, .inl (fun _ => 0))) (N' := N) (atype := .int) (ty := .int) hX.1 hX.2.1 (hX.2.2.2.2.1 _ acl_int) rfl hX.2.2.2.2.2.1 hW.1 hW.2 hS (fun q h => Nat.le_trans hB h) (fun cA => rfl) (nI_pos (by omega)) (nI_clamp (by omega)) (by show N * 4 ≤ _; omega) hcs.1 hcs.2 hd (fun q cA H1 hK hP hD hS1 => ?_)
  have hcA : cA = xac X 0 := by
    have h1 : (xs X).vm.findClass _ = some cA := (hK.2 5 (cA, .int) rfl).2
    have h2 : (xs X).vm.findClass _ = some (xac X 0) := (hX.2.2.2.2.2.1.2 0 _ rfl).2
    exact Option.some.inj (h1.symm.trans h2)
  subst hcA
  rw [wlB_new] at hP hD
  have h9 := kk (bnew w q _) (fun z => Kp.nw z) rfl (if_pos rfl)
  rw [show (bnew w q (.inl (xac X 0, N, .inl (fun _ => 0)))).2.2 w.1 = q from if_pos rfl] at h9
  exact h9 H1 locs arr ⟨hP, hD⟩ hS1 hL hcs
theorem j_newz {i : Int32} {N : Nat} (hX : Kx X cc own nL d) (hB : xbs X ≤ (xs X).heap.size) (hi : i = nI N) (hN : N < 2 ^ 20) (hcs : k + 1 ≤ (xR X).cells ∧ n + N ≤ (xR X).slots) (hd : decode cc pc = .ok (.newarray .boolean, 2))
    (kk : ∀ b2 : Bt, (∀ q, Kp q w b2) → b2.1 = w.1 + 1 → b2.2.1 w.1 = .inl (xac X 1, N, .inl (fun _ => 0)) → J X (k + 1) (n + N) (pc + 2) ls (.ref (b2.2.2 w.1) :: st) b2) : J X k n pc ls (.int i :: st) w := by
  subst hi
  intro H locs arr hW hS hL hk
  refine va_newa (a0 := (N, .inl (fun _ => 0))) (N' := N) (atype := .boolean) (ty := .boolean) hX.1 hX.2.1 (hX.2.2.2.2.1 _ acl_bool) rfl hX.2.2.2.2.2.1 hW.1 hW.2 hS (fun q h => Nat.le_trans hB h) (fun cA => rfl) (nI_pos (by omega)) (nI_clamp (by omega)) (by show N * 1 ≤ _; omega) hcs.1 hcs.2 hd (fun q cA H1 hK hP hD hS1 => ?_)
  have hcA : cA = xac X 1 := by
    have h1 : (xs X).vm.findClass _ = some cA := (hK.2 5 (cA, .boolean) rfl).2
    have h2 : (xs X).vm.findClass _ = some (xac X 1) := (hX.2.2.2.2.2.1.2 1 _ rfl).2
    exact Option.some.inj (h1.symm.trans h2)
  subst hcA
  rw [wlB_new] at hP hD
  have h9 := kk (bnew w q _) (fun z => Kp.nw z) rfl (if_pos rfl)
  rw [show (bnew w q (.inl (xac X 1, N, .inl (fun _ => 0)))).2.2 w.1 = q from if_pos rfl] at h9
  exact h9 H1 locs arr ⟨hP, hD⟩ hS1 hL hcs
theorem j_newq {i : Int32} {N t idx : Nat} {C : String} (hX : Kx X cc own nL d) (hB : xbs X ≤ (xs X).heap.size) (ht : (tya (xac X))[t]? = some (xac X t, .object C)) (hcl : Cond.classLink own idx C ∈ wU) (hao : va_AO C (xs X)) (hi : i = nI N) (hN : N < 2 ^ 20) (hcs : k + 1 ≤ (xR X).cells ∧ n + N ≤ (xR X).slots) (hd : decode cc pc = .ok (.anewarray idx, 3))
    (kk : ∀ b2 : Bt, (∀ q, Kp q w b2) → b2.1 = w.1 + 1 → b2.2.1 w.1 = .inl (xac X t, N, .inr (.inr (.inr (.inr (fun _ => none))))) → J X (k + 1) (n + N) (pc + 3) ls (.ref (b2.2.2 w.1) :: st) b2) : J X k n pc ls (.int i :: st) w := by
  subst hi
  intro H locs arr hW hS hL hk
  refine va_newq (N' := N) (C := C) hX.1 hX.2.1 hX.2.2.2.1 (hX.2.2.2.2.1 _ hcl) hao hX.2.2.2.2.2.1 hW.1 hW.2 hS (fun q h => Nat.le_trans hB h) (nI_pos (by omega)) (nI_clamp (by omega)) (by omega) hcs.1 hcs.2 hd (fun q cA H1 hK hP hD hS1 => ?_)
  have hcA : cA = xac X t := by
    obtain ⟨_, _, _, _, _, h1⟩ := (hK.2 5 (cA, .object C) rfl).2
    obtain ⟨_, _, _, _, _, h2⟩ := (hX.2.2.2.2.2.1.2 t _ ht).2
    exact Option.some.inj (h1.symm.trans h2)
  subst hcA
  rw [wlB_new] at hP hD
  have h9 := kk (bnew w q _) (fun z => Kp.nw z) rfl (if_pos rfl)
  rw [show (bnew w q (.inl (xac X t, N, .inr (.inr (.inr (.inr (fun _ => none))))))).2.2 w.1 = q from if_pos rfl] at h9
  exact h9 H1 locs arr ⟨hP, hD⟩ hS1 hL hcs
theorem j_ast {x z t ci N : Nat} {i : Int32} (j : Nat) {C : String} {T : u_T} {M : Nat} {vs : List Value} {f : Nat → Option Nat} (hX : Kx X cc own nL d) (ht : (tya (xac X))[t]? = some (xac X t, .object C)) (hcl : vwCl[ci]? = some (C, T, M)) (hx : x < w.1) (hz : z < w.1) (hcx : w.2.1 x = .inl (xac X t, N, .inr (.inr (.inr (.inr f))))) (hcz : w.2.1 z = .inr (ci, vs)) (hi : i = nI j) (hj : j < N) (hN : N < 2 ^ 20) (hd : decode cc pc = .ok (.aastore, 1))
    (kk : J X k n (pc + 1) ls st (bset w x (.inl (xac X t, N, .inr (.inr (.inr (.inr (va_up f j (some (w.2.2 z)))))))))) : J X k n pc ls (.ref (w.2.2 z) :: .int i :: .ref (w.2.2 x) :: st) w := by
  subst hi
  intro H locs arr hW hS hL hk
  refine va_astq hX.1 hX.2.1 hX.2.2.2.2.2.1 hW.1 hW.2 hS x t z ci (r := (C, T, M)) ((wlB_get hx).trans (by rw [hcx])) ht ((wlB_get hz).trans (by rw [hcz])) hcl (vp_in_nI hj (by omega)) hd (fun H1 locs1 hP hD hS1 => ?_)
  rw [nI_clamp (by omega), wlB_set hx] at hP hD
  exact kk H1 locs1 arr ⟨hP, hD⟩ hS1 hL hk
theorem j_cont {mc ms : Nat} {st0 : List Value} {H : Heap} {locs : List Loc} {arr : Array Slot} {av : Array Value} {Po : Bt → Prop}
    (hr : va_Run (xp X) (xl X) (xe X) (xR X) (xs X) (xm X) (xa X) (xb X) (xmt X) (xc X) H locs k n mc ms (F0 (xm X) pc arr st0) st (QcJ (xD X) (xbs X) Po av) (fun q => xbs X ≤ q)) (hS : va_S (fun q => xbs X ≤ q) (xs X).heap H locs) (hL : Lv arr ls) (hk : k + mc ≤ (xR X).cells ∧ n + ms ≤ (xR X).slots)
    (kk : ∀ (w' : Bt), Po w' → J X (k + mc) (n + ms) (pc + 3) ls st w') : W (xp X) (xl X) (xe X) (xR X) (xs X) (xm X) (xa X) (xb X) (xmt X) (xc X) H locs k n (xQ X) (F0 (xm X) pc arr st0) := by
  intro T hT Y
  obtain ⟨v, st₀, t, T', L, h0, Y', hL', e1, e2, ⟨⟨w', hv, hPo, hWd⟩, hz, hkeep⟩, stp⟩ := hr T hT Y
  cases hv
  rw [h0] at hz hkeep
  have hS' : va_S (fun q => xbs X ≤ q) (xs X).heap T'.heap (locs ++ L) := by
    refine ⟨Nat.le_trans hS.1 (by rw [e1]; exact hz), fun q h1 h2 => by rw [e1, hkeep q (Nat.lt_of_lt_of_le h1 hS.1) h2]; exact hS.2.1 q h1 h2, fun q hq => ?_⟩
    rcases List.mem_append.mp hq with h | h
    · exact hS.2.2 q h
    · exact hL' q h
  obtain ⟨t2, a1, b1⟩ := kk _ hPo T'.heap (locs ++ L) arr (by rw [e1]; exact hWd) hS' hL hk T' rfl Y'
  exact ⟨t2, stp t2 a1, b1⟩
theorem j_preS {H : Heap} {av : List Value} (hX : Kx X cc own nL d) (hAO : AOs (xs X)) (hW : Wb (xD X) (xbs X) w H) : PreS (xs X) H (PcJ (xD X) (xac X) (xbs X) av w) av :=
  ⟨blindJ, fun U hU hWm => ⟨rfl, by rw [hU]; exact hW, va_K.moved hWm.alike hX.2.2.2.2.2.1, NW.warm hWm hX.2.2.2.2.2.2.1, hAO.moved hWm.alike⟩⟩
theorem j_callI {y : MethodName} {bytes : ByteArray} {maxL d' mc ms idx q K ci sz : Nat} {fs0 : List Value} (hX : Kx X cc own nL d) (hAO : AOs (xs X)) (hct : CtJ y bytes maxL d' mc ms K ci sz fs0) (mi : MI y bytes maxL none 0) (hin : Cond.instanceMethod y ∈ wU) (hyn : y.name = "<init>") (hl : Cond.methodLink own idx y ∈ wU) (hdd : d' < d) (hls : ls.length = nL) (hsm : (st.map fun v => v.category).sum ≤ 8) (hcs : k + mc ≤ (xR X).cells ∧ n + ms ≤ (xR X).slots) (hd : decode cc pc = .ok (.invokespecial idx, 3)) (hb : w.1 = q + 1) (hkd : kd q = K) (hc : w.2.1 q = .inr (ci, fs0))
    (kk : ∀ b', Kp q w b' → b'.1 = q + sz → (∀ r, q ≤ r → r < q + sz → Dn (xac X) b' r) → J X (k + mc) (n + ms) (pc + 3) ls st b') : J X k n pc ls (.ref (w.2.2 q) :: st) w := by
  intro H locs arr hW hS hL hk
  have hM := hct (xl X) (xD X) (xac X) (xbs X) w q (fun b' => J X (k + mc) (n + ms) (pc + 3) ls st b') hb hkd hc kk
  exact j_cont (va_runI (As := []) ⟨hX.1, hX.2.1, hX.2.2.1, hX.2.2.2.1, hX.2.2.2.2.1⟩ hM ⟨a_callB hX mi hl hdd, hyn, hX.2.2.2.2.1 _ hin⟩ (j_preS hX hAO hW) rfl rfl (by rw [← hls]; exact hL.1.1) rfl (lv_room hsm) hd hcs) hS hL hcs (fun w' h => h)
theorem j_callIN {y : MethodName} {bytes : ByteArray} {maxL d' mc ms idx q K ci sz : Nat} {host : String} {fs0 : List Value} (hX : Kx X cc own nL d) (hAO : AOs (xs X)) (hct : CtJ y bytes maxL d' mc ms K ci sz fs0) (mi : MI y bytes maxL none 0) (hin : Cond.instanceMethod y ∈ wU) (hyn : y.name = "<init>") (hl : Cond.methodLinkNest own idx y host ∈ nwl) (hdd : d' < d) (hls : ls.length = nL) (hsm : (st.map fun v => v.category).sum ≤ 8) (hcs : k + mc ≤ (xR X).cells ∧ n + ms ≤ (xR X).slots) (hd : decode cc pc = .ok (.invokespecial idx, 3)) (hb : w.1 = q + 1) (hkd : kd q = K) (hc : w.2.1 q = .inr (ci, fs0))
    (kk : ∀ b', Kp q w b' → b'.1 = q + sz → (∀ r, q ≤ r → r < q + sz → Dn (xac X) b' r) → J X (k + mc) (n + ms) (pc + 3) ls st b') : J X k n pc ls (.ref (w.2.2 q) :: st) w := by
  intro H locs arr hW hS hL hk
  have hM := hct (xl X) (xD X) (xac X) (xbs X) w q (fun b' => J X (k + mc) (n + ms) (pc + 3) ls st b') hb hkd hc kk
  exact j_cont (va_runIN (As := []) ⟨hX.1, hX.2.1, hX.2.2.1, hX.2.2.2.1, hX.2.2.2.2.1⟩ hM ⟨a_callN hX mi hl hdd, hyn, hX.2.2.2.2.1 _ hin⟩ (j_preS hX hAO hW) rfl rfl (by rw [← hls]; exact hL.1.1) rfl (lv_room hsm) hd hcs) hS hL hcs (fun w' h => h)
end JROWS
