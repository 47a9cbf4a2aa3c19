/-! The system's world as roles: r < 248 the class's and the reference's cells, 248 + i the i-th entry -/
abbrev St : Type := (Nat → Nat → Int32) × Nat × Nat × (Nat → Nat)
abbrev Cx : Type := Program × Launch × Env × Room × State × MethodId × Array Value × List Frame × Method × Code × va_G × (Nat → ClassId) × Nat × (Nat → Nat) × (State → Prop)
def xp (X : Cx) : Program := X.1
def xl (X : Cx) : Launch := X.2.1
def xe (X : Cx) : Env := X.2.2.1
def xR (X : Cx) : Room := X.2.2.2.1
def xs (X : Cx) : State := X.2.2.2.2.1
def xm (X : Cx) : MethodId := X.2.2.2.2.2.1
def xa (X : Cx) : Array Value := X.2.2.2.2.2.2.1
def xb (X : Cx) : List Frame := X.2.2.2.2.2.2.2.1
def xmt (X : Cx) : Method := X.2.2.2.2.2.2.2.2.1
def xc (X : Cx) : Code := X.2.2.2.2.2.2.2.2.2.1
def xD (X : Cx) : va_G := X.2.2.2.2.2.2.2.2.2.2.1
def xac (X : Cx) : Nat → ClassId := X.2.2.2.2.2.2.2.2.2.2.2.1
def xbs (X : Cx) : Nat := X.2.2.2.2.2.2.2.2.2.2.2.2.1
def xlay (X : Cx) : Nat → Nat := X.2.2.2.2.2.2.2.2.2.2.2.2.2.1
def xQ (X : Cx) : State → Prop := X.2.2.2.2.2.2.2.2.2.2.2.2.2.2
/-- the kind of a role: 0 to 8 an object of that class of vwCl, 10 int row, 11 boolean row, 12 log, 13 files, 14 places -/
def kd (r : Nat) : Nat :=
  if r = 0 then 7 else if r = 1 then 12
  else if r < 210 then (if (r - 2) % 104 = 0 then 4 else if (r - 2) % 104 = 1 then 13 else if ((r - 2) % 104 - 2) % 17 = 0 then 1 else if ((r - 2) % 104 - 2) % 17 = 1 then 14 else if ((r - 2) % 104 - 2) % 17 < 5 then 10 else 2)
  else if r = 210 then 3 else if r < 216 then 10 else if r = 216 then 6 else if r = 217 then 5 else if r < 221 then 10
  else if r = 221 then 8 else if r = 234 then 11 else if r = 237 then 11 else if r = 240 then 11 else if r < 248 then 10 else 0
/-- how long a row is -/
def ln (r : Nat) : Nat :=
  if r < 210 then 120 else if r < 213 then 12 else if r = 213 then 1440 else if r < 216 then 120 else if r < 220 then 12 else if r = 220 then 13
  else if r = 222 then 3200 else if r = 223 then 400 else if r < 233 then 12 else if r < 236 then 720 else if r = 236 then 21600
  else if r < 240 then 12 else if r < 243 then 43200 else 12
def modelFs (f : Nat → Int32) (lay : Nat → Nat) : List Value :=
  [.int (f 0), .int (f 1), .int (f 2), .ref (lay 222), .ref (lay 223), .int (f 5), .ref (lay 224), .ref (lay 225), .ref (lay 226), .ref (lay 227), .ref (lay 228), .ref (lay 229), .ref (lay 230), .ref (lay 231), .ref (lay 232), .int (f 15), .ref (lay 233), .ref (lay 234), .ref (lay 235), .ref (lay 236), .ref (lay 237), .ref (lay 238), .ref (lay 239), .ref (lay 240), .ref (lay 241), .ref (lay 242), .ref (lay 243), .ref (lay 244), .ref (lay 245), .ref (lay 246), .int (f 30), .ref (lay 247), .int (f 32)]
/-- the cell of a role that holds the numbers f -/
def cellF (ac : Nat → ClassId) (lay : Nat → Nat) (z : Nat × Nat × (Nat → Nat)) (f : Nat → Int32) (r : Nat) : va_E :=
  if kd r = 0 then .inr (0, [.int (f 0), .int (f 1), .int (f 2), .int (f 3), .int (f 4), .int (f 5), .int (f 6), .int (f 7), .int (f 8)])
  else if kd r = 1 then .inr (1, [.ref (lay (r + 1)), .ref (lay (r + 2)), .ref (lay (r + 3)), .ref (lay (r + 4)), .int (f 4)])
  else if kd r = 2 then .inr (2, [.int (f 0), .int (f 1), .int (f 2), .int (f 3), .int (f 4), .int (f 5), .int (f 6), .int (f 7), .int (f 8)])
  else if kd r = 3 then .inr (3, [.ref (lay (r + 1)), .ref (lay (r + 2)), .ref (lay (r + 3)), .ref (lay (r + 4)), .ref (lay (r + 5)), .ref (lay (r + 6)), .int (f 6)])
  else if kd r = 4 then .inr (4, [.ref (lay (r + 1)), .int (f 1)])
  else if kd r = 5 then .inr (5, [.ref (lay (r + 1)), .int (f 1), .ref (lay (r + 2)), .ref (lay (r + 3))])
  else if kd r = 6 then .inr (6, [.int (f 0), .int (f 1), .int (f 2), .int (f 3), .int (f 4), .int (f 5)])
  else if kd r = 7 then .inr (7, [.ref (lay 1), .int (f 1), .int (f 2), .int (f 3), .int (f 4), .ref (lay 2), .ref (lay 106), .ref (lay 210), .ref (lay 217)])
  else if kd r = 8 then .inr (8, modelFs f lay)
  else if kd r = 10 then .inl (ac 0, ln r, .inl f)
  else if kd r = 11 then .inl (ac 1, ln r, .inl f)
  else if kd r = 12 then .inl (ac 2, 400, .inr (.inr (.inr (.inr (fun j => if j < z.1 then some (z.2.2 j) else none)))))
  else if kd r = 13 then .inl (ac 3, 6, .inr (.inr (.inr (.inr (fun j => some (lay (r + 1 + 17 * j)))))))
  else .inl (ac 4, 12, .inr (.inr (.inr (.inr (fun j => some (lay (r + 4 + j)))))))
def cell (ac : Nat → ClassId) (lay : Nat → Nat) (w : St) (r : Nat) : va_E := cellF ac lay w.2 (w.1 r) r
def adr (lay : Nat → Nat) (w : St) (r : Nat) : Nat := if r < 248 then lay r else w.2.2.2 (r - 248)
def wl (ac : Nat → ClassId) (lay : Nat → Nat) (w : St) : va_W := (List.range (248 + w.2.2.1)).map (fun r => (adr lay w r, cell ac lay w r))
def tya (ac : Nat → ClassId) : List (ClassId × FieldType) := [(ac 0, .int), (ac 1, .boolean), (ac 2, .object "TermReckoner$Entry"), (ac 3, .object "TermReckoner$File"), (ac 4, .object "TermReckoner$Place")]
/-- the world -/
def Wd (D : va_G) (ac : Nat → ClassId) (bs : Nat) (lay : Nat → Nat) (w : St) (H : Heap) : Prop := va_P D vwCl (wl ac lay w) H ∧ va_D (fun q => bs ≤ q) (wl ac lay w)
/-- the tables' words that calls hand on -/
def wU : List Cond := lw_tbl.filter goodWord
def nestW : Cond → Bool
  | .methodLinkNest _ _ _ _ => true
  | _ => false
def nwl : List Cond := lw_tbl.filter nestW
def NW (U : State) : Prop := ∀ w ∈ nwl, va_Nw w U
theorem NW.vm {u U : State} (h : u.vm = U.vm) (hN : NW u) : NW U := by
  intro w hw
  have h1 := (List.mem_filter.mp hw).2
  have h2 := hN w hw
  cases w <;> first | (exact va_Nw.same rfl h h2) | (cases h1)
theorem NW.warm {s U : State} (hW : s.WarmedH U.vm) (hN : NW s) : NW U := by
  intro w hw
  have h1 := (List.mem_filter.mp hw).2
  have h2 := hN w hw
  cases w <;> first | (exact va_Nw.warmM hW h2) | (cases h1)
theorem mw {i : Nat} {w : Cond} (h : lw_tbl[i]? = some w) (g : goodWord w = true) : w ∈ wU := List.mem_filter.mpr ⟨List.mem_of_getElem? h, g⟩
theorem mn {i : Nat} {w : Cond} (h : lw_tbl[i]? = some w) (g : nestW w = true) : w ∈ nwl := List.mem_filter.mpr ⟨List.mem_of_getElem? h, g⟩
theorem goodU {big ws : List Cond} (hb : ∀ w ∈ wU, w ∈ big) (h : ∀ w ∈ ws, w ∈ wU) : GoodIn big ws := fun w hw => ⟨hb w (h w hw), good_of_word (List.mem_filter.mp (h w hw)).2⟩
/-- what is known of the locals -/
def Lv (arr : Array Slot) (ls : List (Option Value)) : Prop := lv_has arr ls.length [] ∧ ∀ (k : Nat) (v : Value), ls[k]? = some (some v) → arr[k]? = some (.val v) ∧ v.category = 1
def knl (ls : List (Option Value)) : List (Nat × Value) := (List.range ls.length).filterMap (fun j => match ls[j]? with | some (some v) => some (j, v) | _ => none)
theorem knl_in {ls : List (Option Value)} {q : Nat × Value} : q ∈ knl ls ↔ ls[q.1]? = some (some q.2) := by
  constructor
  · intro h
    obtain ⟨j, -, h2⟩ := List.mem_filterMap.mp h
    split at h2
    · next v hv => cases h2; exact hv
    · cases h2
  · intro h
    refine List.mem_filterMap.mpr ⟨q.1, List.mem_range.mpr (List.getElem?_eq_some_iff.mp h).1, ?_⟩
    rw [h]
theorem Lv.has {arr : Array Slot} {ls : List (Option Value)} (h : Lv arr ls) : lv_has arr ls.length (knl ls) := ⟨h.1.1, h.1.2.1, fun q hq => (h.2 q.1 q.2 (knl_in.mp hq)).1⟩
theorem Lv.st {arr arr' : Array Slot} {ls : List (Option Value)} {i : Nat} {v : Value} (h : Lv arr ls) (hv : v.category = 1) (h2 : lv_has arr' ls.length ((i, v) :: (knl ls).filter (fun q => !(q.1 == i) && !(q.1 + 1 == i && q.2.category == 2)))) : Lv arr' (ls.set i (some v)) := by
  refine ⟨⟨by rw [List.length_set]; exact h2.1, h2.2.1, fun q hq => by cases hq⟩, fun k u hk => ?_⟩
  by_cases hki : k = i
  · subst hki
    have hlt : k < ls.length := by
      have := (List.getElem?_eq_some_iff.mp hk).1
      rwa [List.length_set] at this
    rw [List.getElem?_set_self hlt] at hk
    cases hk
    exact ⟨h2.2.2 (k, v) List.mem_cons_self, hv⟩
  · rw [List.getElem?_set_ne (Ne.symm hki)] at hk
    have hc := (h.2 k u hk).2
    refine ⟨h2.2.2 (k, u) (List.mem_cons_of_mem _ (List.mem_filter.mpr ⟨knl_in.mpr hk, ?_⟩)), hc⟩
    simp [hki, hc]
/-- THE JUDGEMENT: from here the method comes to its end -/
def A (X : Cx) (k n pc : Nat) (ls : List (Option Value)) (st : List Value) (w : St) : Prop :=
  ∀ (H : Heap) (locs : List Loc) (arr : Array Slot), Wd (xD X) (xac X) (xbs X) (xlay X) w H → va_S (fun q => xbs X ≤ q) (xs X).heap H locs → Lv arr ls → (k ≤ (xR X).cells ∧ n ≤ (xR X).slots) →
    W (xp X) (xl X) (xe X) (xR X) (xs X) (xm X) (xa X) (xb X) (xmt X) (xc X) H locs k n (xQ X) (F0 (xm X) pc arr st)
/-- what holds in a method's body -/
def Kx (X : Cx) (cc : ByteArray) (own : String) (nL d : Nat) : Prop := (xp X).tables.exec = Jvm.exec ∧ (xc X).code = cc ∧ (xc X).maxLocals = nL ∧ (xs X).vm.findClass own = some (xm X).cls ∧ (∀ w ∈ wU, w.before (xa X) (xs X) = true) ∧ va_K (xD X) vwCl (tya (xac X)) (xs X) ∧ NW (xs X) ∧ d ≤ (xR X).frames ∧ 40 * d ≤ (xR X).locals
def PcA (D : va_G) (ac : Nat → ClassId) (bs : Nat) (lay : Nat → Nat) (av : List Value) (w : St) : Array Value → State → Prop := va_Pc av (fun U => Wd D ac bs lay w U.heap ∧ va_K D vwCl (tya ac) U ∧ NW U)
def QcA (D : va_G) (ac : Nat → ClassId) (bs : Nat) (lay : Nat → Nat) (Po : Option Value → St → Prop) : Array Value → State → Outcome → State → Prop := fun _ st oc t => (∃ (r : Option Value) (w' : St), oc = .returned r ∧ Po r w' ∧ Wd D ac bs lay w' t.heap) ∧ va_F (fun q => bs ≤ q) st t
abbrev Tr : Type := (Nat → Nat) → List Value → St → (Option Value → St → Prop) → Prop
/-- A CONTRACT: T lay av w Po: called at w with av it returns, and Po holds of the answer and the state behind -/
def Ct (y : MethodName) (cc : ByteArray) (nL : Nat) (ret : Option FieldType) (d mc ms : Nat) (T : Tr) : Prop :=
  ∀ (l : Launch) (D : va_G) (ac : Nat → ClassId) (bs : Nat) (lay : Nat → Nat) (av : List Value) (w : St) (Po : Option Value → St → Prop), T lay av w Po →
    Met l y (.code y cc nL ret :: wU) { frames := d, cells := mc, slots := ms, locals := 40 * d } (PcA D ac bs lay av w) (QcA D ac bs lay Po) mc ms (fun q => bs ≤ q)
/-- at a method's return -/
def Rx (X : Cx) (ret : Option FieldType) (mc ms : Nat) (Po : Option Value → St → Prop) : Prop := (xmt X).sig.returnType = ret ∧ (xmt X).locks = false ∧ xQ X = MQ (xb X) (QcA (xD X) (xac X) (xbs X) (xlay X) Po) (xa X) (xs X) mc ms (fun q => xbs X ≤ q)
theorem blindA {D : va_G} {ac : Nat → ClassId} {bs : Nat} {lay : Nat → Nat} {av : List Value} {w : St} : FrameBlind (PcA D ac bs lay av w) := fun a U g mk q => ⟨q.1, q.2.1, va_K.moved (u := U) (U := U.calling g mk a) (Vm.Alike.refl U.vm) q.2.2.1, NW.vm (u := U) (U := U.calling g mk a) rfl q.2.2.2⟩
set_option maxHeartbeats 1000000 in
theorem Ct.mk {y : MethodName} {cc : ByteArray} {nL d mc ms : Nat} {ret : Option FieldType} {T : Tr} (hy : plainName y.cls = true)
    (body : ∀ (X : Cx) (av : List Value) (w : St) (Po : Option Value → St → Prop), Kx X cc y.cls nL d → Rx X ret mc ms Po → T (xlay X) av w Po → (av.all (fun v => v.category == 1) && decide (av.length ≤ nL)) = true ∧ A X 0 0 0 (av.map some ++ List.replicate (nL - av.length) none) [] w) : Ct y cc nL ret d mc ms T := by
  intro l D ac bs lay av w Po hT
  refine Met.ofW (cc := cc) (maxL := nL) (ret := ret) hy rfl ?_
  intro p e s m args below meth c s₁ B hml hv
  obtain ⟨rfl, hP, hK, hN⟩ := hv
  have hts := atoms_spec (ws := .code y cc nL ret :: wU) B.pre
  have hown : s.vm.findClass y.cls = some m.cls := findClass_of_methodNamed B.named
  let X : Cx := (p, l, e, (headSpec (.code y cc nL ret :: wU) { frames := d, cells := mc, slots := ms, locals := 40 * d }).room, s, m, av.toArray, below, meth, c, D, ac, bs, lay, MQ below (QcA D ac bs lay Po) av.toArray s mc ms (fun q => bs ≤ q))
  obtain ⟨h1, h2⟩ := body X av w Po ⟨B.exec, B.bytes, hml, hown, fun w hw => hts w (List.mem_cons_of_mem _ hw), hK, hN, Nat.le_refl _, Nat.le_refl _⟩ ⟨B.returns, B.notSynchronized, rfl⟩ hT
  rw [Bool.and_eq_true, List.all_eq_true, decide_eq_true_eq] at h1
  have hc1 : ∀ v ∈ av, v.category = 1 := fun v hv => by simpa using h1.1 v hv
  have hsl : lg_sl av = av.map Slot.val := by
    have : ∀ (u : List Value), (∀ v ∈ u, v.category = 1) → lg_sl u = u.map Slot.val := by
      intro u
      induction u with
      | nil => intro _; rfl
      | cons a u ih =>
        intro h
        have ha : ¬ a.category = 2 := by rw [h a List.mem_cons_self]; decide
        have hu := ih (fun v hv => h v (List.mem_cons_of_mem _ hv))
        unfold lg_sl at hu ⊢
        rw [List.flatMap_cons, if_neg ha, hu]; rfl
    exact this av hc1
  have hlen : (lg_sl av).length = av.length := by rw [hsl, List.length_map]
  have hl := lv_entry av (n := nL) (by rw [hlen]; exact h1.2)
  rw [lg_entry_eq]
  rw [hlen] at hl ⊢
  refine h2 s.heap [] _ hP va_S.rf ?_ ⟨Nat.zero_le _, Nat.zero_le _⟩
  have hL1 : (av.map some ++ List.replicate (nL - av.length) none).length = nL := by
    rw [List.length_append, List.length_map, List.length_replicate]; omega
  refine ⟨⟨by rw [hL1]; exact hl.1, hl.2.1, fun q hq => by cases hq⟩, fun j v hj => ?_⟩
  by_cases hja : j < av.length
  · rw [List.getElem?_append_left (by rw [List.length_map]; exact hja), List.getElem?_map] at hj
    cases hq : av[j]? with
    | none => rw [hq] at hj; cases hj
    | some u =>
      rw [hq] at hj
      cases hj
      refine ⟨?_, hc1 _ (List.mem_of_getElem? hq)⟩
      rw [hsl, List.getElem?_toArray, List.getElem?_append_left (by rw [List.length_map]; exact hja), List.getElem?_map, hq]; rfl
  · rw [List.getElem?_append_right (by rw [List.length_map]; omega)] at hj
    have := List.getElem?_eq_some_iff.mp hj
    obtain ⟨_, h9⟩ := this
    rw [List.getElem_replicate] at h9
    cases h9
section ROWS
variable {X : Cx} {cc : ByteArray} {own : String} {nL d k n pc : Nat} {ls ls' : List (Option Value)} {st : List Value} {w : St}
theorem a_iadd {x y : Int32} (hX : Kx X cc own nL d) (hd : decode cc pc = .ok (.iadd, 1)) (kk : A X k n (pc + 1) ls (.int (x + y) :: st) w) : A X k n pc ls (.int y :: .int x :: st) w := fun H locs arr hW hS hL hk => lv_iadd hX.1 hX.2.1 hd (kk H locs arr hW hS hL hk)
theorem a_isub {x y : Int32} (hX : Kx X cc own nL d) (hd : decode cc pc = .ok (.isub, 1)) (kk : A X k n (pc + 1) ls (.int (x - y) :: st) w) : A X k n pc ls (.int y :: .int x :: st) w := fun H locs arr hW hS hL hk => lv_isub hX.1 hX.2.1 hd (kk H locs arr hW hS hL hk)
theorem a_imul {x y : Int32} (hX : Kx X cc own nL d) (hd : decode cc pc = .ok (.imul, 1)) (kk : A X k n (pc + 1) ls (.int (x * y) :: st) w) : A X k n pc ls (.int y :: .int x :: st) w := fun H locs arr hW hS hL hk => lv_imul hX.1 hX.2.1 hd (kk H locs arr hW hS hL hk)
theorem a_iand {x y : Int32} (hX : Kx X cc own nL d) (hd : decode cc pc = .ok (.iand, 1)) (kk : A X k n (pc + 1) ls (.int (x &&& y) :: st) w) : A X k n pc ls (.int y :: .int x :: st) w := fun H locs arr hW hS hL hk => lv_iand hX.1 hX.2.1 hd (kk H locs arr hW hS hL hk)
theorem a_ior {x y : Int32} (hX : Kx X cc own nL d) (hd : decode cc pc = .ok (.ior, 1)) (kk : A X k n (pc + 1) ls (.int (x ||| y) :: st) w) : A X k n pc ls (.int y :: .int x :: st) w := fun H locs arr hW hS hL hk => lv_ior hX.1 hX.2.1 hd (kk H locs arr hW hS hL hk)
theorem a_ixor {x y : Int32} (hX : Kx X cc own nL d) (hd : decode cc pc = .ok (.ixor, 1)) (kk : A X k n (pc + 1) ls (.int (x ^^^ y) :: st) w) : A X k n pc ls (.int y :: .int x :: st) w := fun H locs arr hW hS hL hk => lv_ixor hX.1 hX.2.1 hd (kk H locs arr hW hS hL hk)
theorem a_ishl {x y : Int32} (hX : Kx X cc own nL d) (hd : decode cc pc = .ok (.ishl, 1)) (kk : A X k n (pc + 1) ls (.int (x <<< (y &&& 31)) :: st) w) : A X k n pc ls (.int y :: .int x :: st) w := fun H locs arr hW hS hL hk => lv_ishl hX.1 hX.2.1 hd (kk H locs arr hW hS hL hk)
theorem a_ishr {x y : Int32} (hX : Kx X cc own nL d) (hd : decode cc pc = .ok (.ishr, 1)) (kk : A X k n (pc + 1) ls (.int (x >>> (y &&& 31)) :: st) w) : A X k n pc ls (.int y :: .int x :: st) w := fun H locs arr hW hS hL hk => lv_ishr hX.1 hX.2.1 hd (kk H locs arr hW hS hL hk)
theorem a_idiv {x y : Int32} (hX : Kx X cc own nL d) (hd : decode cc pc = .ok (.idiv, 1)) (hy : ¬ y = 0) (kk : A X k n (pc + 1) ls (.int (x / y) :: st) w) : A X k n pc ls (.int y :: .int x :: st) w := fun H locs arr hW hS hL hk => lv_idiv hX.1 hX.2.1 hd hy (kk H locs arr hW hS hL hk)
theorem a_irem {x y : Int32} (hX : Kx X cc own nL d) (hd : decode cc pc = .ok (.irem, 1)) (hy : ¬ y = 0) (kk : A X k n (pc + 1) ls (.int (x - x / y * y) :: st) w) : A X k n pc ls (.int y :: .int x :: st) w := fun H locs arr hW hS hL hk => lv_irem hX.1 hX.2.1 hd hy (kk H locs arr hW hS hL hk)
theorem a_ineg {x : Int32} (hX : Kx X cc own nL d) (hd : decode cc pc = .ok (.ineg, 1)) (kk : A X k n (pc + 1) ls (.int (-x) :: st) w) : A X k n pc ls (.int x :: st) w := fun H locs arr hW hS hL hk => lv_ineg hX.1 hX.2.1 hd (kk H locs arr hW hS hL hk)
theorem a_iushr {x y : Int32} (hX : Kx X cc own nL d) (hd : decode cc pc = .ok (.iushr, 1)) (kk : A X k n (pc + 1) ls (.int ((x.toUInt32 >>> (y.toUInt32 &&& Int32.toUInt32 31)).toInt32) :: st) w) : A X k n pc ls (.int y :: .int x :: st) w := fun H locs arr hW hS hL hk => lv_iushr hX.1 hX.2.1 hd rfl (kk H locs arr hW hS hL hk)
theorem a_iconst {c : Int} (v : Int32) (hX : Kx X cc own nL d) (hd : decode cc pc = .ok (.iconst c, 1)) (hv : Int32.ofInt c = v) (kk : A X k n (pc + 1) ls (.int v :: st) w) : A X k n pc ls st w := fun H locs arr hW hS hL hk => lv_iconst hX.1 hX.2.1 hd hv (kk H locs arr hW hS hL hk)
theorem a_bipush {c : Int} (v : Int32) (hX : Kx X cc own nL d) (hd : decode cc pc = .ok (.bipush c, 2)) (hv : (Int8.ofInt c).toInt32 = v) (kk : A X k n (pc + 2) ls (.int v :: st) w) : A X k n pc ls st w := fun H locs arr hW hS hL hk => lv_bipush hX.1 hX.2.1 hd hv (kk H locs arr hW hS hL hk)
theorem a_sipush {c : Int} (v : Int32) (hX : Kx X cc own nL d) (hd : decode cc pc = .ok (.sipush c, 3)) (hv : (Int16.ofInt c).toInt32 = v) (kk : A X k n (pc + 3) ls (.int v :: st) w) : A X k n pc ls st w := fun H locs arr hW hS hL hk => lv_sipush hX.1 hX.2.1 hd hv (kk H locs arr hW hS hL hk)
theorem a_ldc {i : Nat} {v : Int32} (hX : Kx X cc own nL d) (hd : decode cc pc = .ok (.ldc i, 2)) (hc : Cond.constant own i v ∈ wU) (kk : A X k n (pc + 2) ls (.int v :: st) w) : A X k n pc ls st w := fun H locs arr hW hS hL hk => lv_ldc hX.1 hX.2.1 hX.2.2.2.1 (hX.2.2.2.2.1 _ hc) hd (kk H locs arr hW hS hL hk)
theorem a_ldcw {i : Nat} {v : Int32} (hX : Kx X cc own nL d) (hd : decode cc pc = .ok (.ldc_w i, 3)) (hc : Cond.constant own i v ∈ wU) (kk : A X k n (pc + 3) ls (.int v :: st) w) : A X k n pc ls st w := fun H locs arr hW hS hL hk => lv_ldcw hX.1 hX.2.1 hX.2.2.2.1 (hX.2.2.2.2.1 _ hc) hd (kk H locs arr hW hS hL hk)
theorem a_null (hX : Kx X cc own nL d) (hd : decode cc pc = .ok (.aconst_null, 1)) (kk : A X k n (pc + 1) ls (.null :: st) w) : A X k n pc ls st w := fun H locs arr hW hS hL hk => lv_null hX.1 hX.2.1 hd (kk H locs arr hW hS hL hk)
theorem a_dup {v : Value} (hX : Kx X cc own nL d) (hd : decode cc pc = .ok (.dup, 1)) (hv : v.category = 1) (kk : A X k n (pc + 1) ls (v :: v :: st) w) : A X k n pc ls (v :: st) w := fun H locs arr hW hS hL hk => lv_dup hX.1 hX.2.1 hd hv (kk H locs arr hW hS hL hk)
theorem a_dup2 {u v : Value} (hX : Kx X cc own nL d) (hd : decode cc pc = .ok (.dup2, 1)) (hu : u.category = 1) (hv : v.category = 1) (kk : A X k n (pc + 1) ls (u :: v :: u :: v :: st) w) : A X k n pc ls (u :: v :: st) w := fun H locs arr hW hS hL hk => lv_dup2_11 hX.1 hX.2.1 hd hu hv (kk H locs arr hW hS hL hk)
theorem a_pop {v : Value} (hX : Kx X cc own nL d) (hd : decode cc pc = .ok (.pop, 1)) (hv : v.category = 1) (kk : A X k n (pc + 1) ls st w) : A X k n pc ls (v :: st) w := fun H locs arr hW hS hL hk => lv_pop hX.1 hX.2.1 hd hv (kk H locs arr hW hS hL hk)
theorem a_goto {off : Int} (tgt : Nat) (hX : Kx X cc own nL d) (hd : decode cc pc = .ok (.goto off, 3)) (ht : (pc : Int) + off = (tgt : Int)) (kk : A X k n tgt ls st w) : A X k n pc ls st w := fun H locs arr hW hS hL hk => lv_goto hX.1 hX.2.1 hd ht (kk H locs arr hW hS hL hk)
theorem a_ifnonnull {a : Nat} {off : Int} (tgt : Nat) (hX : Kx X cc own nL d) (hd : decode cc pc = .ok (.ifnonnull off, 3)) (ht : (pc : Int) + off = (tgt : Int)) (kk : A X k n tgt ls st w) : A X k n pc ls (.ref a :: st) w := fun H locs arr hW hS hL hk => lv_ifnonnull hX.1 hX.2.1 hd ht (kk H locs arr hW hS hL hk)
theorem a_ifnonnullN {off : Int} (hX : Kx X cc own nL d) (hd : decode cc pc = .ok (.ifnonnull off, 3)) (kk : A X k n (pc + 3) ls st w) : A X k n pc ls (.null :: st) w := fun H locs arr hW hS hL hk => lv_ifnonnullN hX.1 hX.2.1 hd (kk H locs arr hW hS hL hk)
theorem a_ifnull {a : Nat} {off : Int} (hX : Kx X cc own nL d) (hd : decode cc pc = .ok (.ifnull off, 3)) (kk : A X k n (pc + 3) ls st w) : A X k n pc ls (.ref a :: st) w := fun H locs arr hW hS hL hk => lv_ifnull hX.1 hX.2.1 hd (kk H locs arr hW hS hL hk)
theorem a_ifnullN {off : Int} (tgt : Nat) (hX : Kx X cc own nL d) (hd : decode cc pc = .ok (.ifnull off, 3)) (ht : (pc : Int) + off = (tgt : Int)) (kk : A X k n tgt ls st w) : A X k n pc ls (.null :: st) w := fun H locs arr hW hS hL hk => lv_ifnullN hX.1 hX.2.1 hd ht (kk H locs arr hW hS hL hk)
theorem a_if_eq {x : Int32} {off : Int} (tgt : Nat) (hX : Kx X cc own nL d) (hd : decode cc pc = .ok (.ifCond .eq off, 3)) (ht : (pc : Int) + off = (tgt : Int)) (kt : x = 0 → A X k n tgt ls st w) (kf : ¬ x = 0 → A X k n (pc + 3) ls st w) : A X k n pc ls (.int x :: st) w := fun H locs arr hW hS hL hk => lv_if_eq hX.1 hX.2.1 hd ht (fun q => kt q H locs arr hW hS hL hk) (fun q => kf q H locs arr hW hS hL hk)
theorem a_icmp_eq {x y : Int32} {off : Int} (tgt : Nat) (hX : Kx X cc own nL d) (hd : decode cc pc = .ok (.if_icmp .eq off, 3)) (ht : (pc : Int) + off = (tgt : Int)) (kt : x = y → A X k n tgt ls st w) (kf : ¬ x = y → A X k n (pc + 3) ls st w) : A X k n pc ls (.int y :: .int x :: st) w := fun H locs arr hW hS hL hk => lv_icmp_eq hX.1 hX.2.1 hd ht (fun q => kt q H locs arr hW hS hL hk) (fun q => kf q H locs arr hW hS hL hk)
theorem a_if_ne {x : Int32} {off : Int} (tgt : Nat) (hX : Kx X cc own nL d) (hd : decode cc pc = .ok (.ifCond .ne off, 3)) (ht : (pc : Int) + off = (tgt : Int)) (kt : ¬ x = 0 → A X k n tgt ls st w) (kf : x = 0 → A X k n (pc + 3) ls st w) : A X k n pc ls (.int x :: st) w := fun H locs arr hW hS hL hk => lv_if_ne hX.1 hX.2.1 hd ht (fun q => kt q H locs arr hW hS hL hk) (fun q => kf q H locs arr hW hS hL hk)
theorem a_icmp_ne {x y : Int32} {off : Int} (tgt : Nat) (hX : Kx X cc own nL d) (hd : decode cc pc = .ok (.if_icmp .ne off, 3)) (ht : (pc : Int) + off = (tgt : Int)) (kt : ¬ x = y → A X k n tgt ls st w) (kf : x = y → A X k n (pc + 3) ls st w) : A X k n pc ls (.int y :: .int x :: st) w := fun H locs arr hW hS hL hk => lv_icmp_ne hX.1 hX.2.1 hd ht (fun q => kt q H locs arr hW hS hL hk) (fun q => kf q H locs arr hW hS hL hk)
theorem a_if_lt {x : Int32} {off : Int} (tgt : Nat) (hX : Kx X cc own nL d) (hd : decode cc pc = .ok (.ifCond .lt off, 3)) (ht : (pc : Int) + off = (tgt : Int)) (kt : x < 0 → A X k n tgt ls st w) (kf : ¬ x < 0 → A X k n (pc + 3) ls st w) : A X k n pc ls (.int x :: st) w := fun H locs arr hW hS hL hk => lv_if_lt hX.1 hX.2.1 hd ht (fun q => kt q H locs arr hW hS hL hk) (fun q => kf q H locs arr hW hS hL hk)
theorem a_icmp_lt {x y : Int32} {off : Int} (tgt : Nat) (hX : Kx X cc own nL d) (hd : decode cc pc = .ok (.if_icmp .lt off, 3)) (ht : (pc : Int) + off = (tgt : Int)) (kt : x < y → A X k n tgt ls st w) (kf : ¬ x < y → A X k n (pc + 3) ls st w) : A X k n pc ls (.int y :: .int x :: st) w := fun H locs arr hW hS hL hk => lv_icmp_lt hX.1 hX.2.1 hd ht (fun q => kt q H locs arr hW hS hL hk) (fun q => kf q H locs arr hW hS hL hk)
theorem a_if_ge {x : Int32} {off : Int} (tgt : Nat) (hX : Kx X cc own nL d) (hd : decode cc pc = .ok (.ifCond .ge off, 3)) (ht : (pc : Int) + off = (tgt : Int)) (kt : 0 ≤ x → A X k n tgt ls st w) (kf : ¬ 0 ≤ x → A X k n (pc + 3) ls st w) : A X k n pc ls (.int x :: st) w := fun H locs arr hW hS hL hk => lv_if_ge hX.1 hX.2.1 hd ht (fun q => kt q H locs arr hW hS hL hk) (fun q => kf q H locs arr hW hS hL hk)
theorem a_icmp_ge {x y : Int32} {off : Int} (tgt : Nat) (hX : Kx X cc own nL d) (hd : decode cc pc = .ok (.if_icmp .ge off, 3)) (ht : (pc : Int) + off = (tgt : Int)) (kt : y ≤ x → A X k n tgt ls st w) (kf : ¬ y ≤ x → A X k n (pc + 3) ls st w) : A X k n pc ls (.int y :: .int x :: st) w := fun H locs arr hW hS hL hk => lv_icmp_ge hX.1 hX.2.1 hd ht (fun q => kt q H locs arr hW hS hL hk) (fun q => kf q H locs arr hW hS hL hk)
theorem a_if_gt {x : Int32} {off : Int} (tgt : Nat) (hX : Kx X cc own nL d) (hd : decode cc pc = .ok (.ifCond .gt off, 3)) (ht : (pc : Int) + off = (tgt : Int)) (kt : 0 < x → A X k n tgt ls st w) (kf : ¬ 0 < x → A X k n (pc + 3) ls st w) : A X k n pc ls (.int x :: st) w := fun H locs arr hW hS hL hk => lv_if_gt hX.1 hX.2.1 hd ht (fun q => kt q H locs arr hW hS hL hk) (fun q => kf q H locs arr hW hS hL hk)
theorem a_icmp_gt {x y : Int32} {off : Int} (tgt : Nat) (hX : Kx X cc own nL d) (hd : decode cc pc = .ok (.if_icmp .gt off, 3)) (ht : (pc : Int) + off = (tgt : Int)) (kt : y < x → A X k n tgt ls st w) (kf : ¬ y < x → A X k n (pc + 3) ls st w) : A X k n pc ls (.int y :: .int x :: st) w := fun H locs arr hW hS hL hk => lv_icmp_gt hX.1 hX.2.1 hd ht (fun q => kt q H locs arr hW hS hL hk) (fun q => kf q H locs arr hW hS hL hk)
theorem a_if_le {x : Int32} {off : Int} (tgt : Nat) (hX : Kx X cc own nL d) (hd : decode cc pc = .ok (.ifCond .le off, 3)) (ht : (pc : Int) + off = (tgt : Int)) (kt : x ≤ 0 → A X k n tgt ls st w) (kf : ¬ x ≤ 0 → A X k n (pc + 3) ls st w) : A X k n pc ls (.int x :: st) w := fun H locs arr hW hS hL hk => lv_if_le hX.1 hX.2.1 hd ht (fun q => kt q H locs arr hW hS hL hk) (fun q => kf q H locs arr hW hS hL hk)
theorem a_icmp_le {x y : Int32} {off : Int} (tgt : Nat) (hX : Kx X cc own nL d) (hd : decode cc pc = .ok (.if_icmp .le off, 3)) (ht : (pc : Int) + off = (tgt : Int)) (kt : x ≤ y → A X k n tgt ls st w) (kf : ¬ x ≤ y → A X k n (pc + 3) ls st w) : A X k n pc ls (.int y :: .int x :: st) w := fun H locs arr hW hS hL hk => lv_icmp_le hX.1 hX.2.1 hd ht (fun q => kt q H locs arr hW hS hL hk) (fun q => kf q H locs arr hW hS hL hk)
theorem a_iload_n {i : Fin 4} {v : Int32} (hX : Kx X cc own nL d) (hd : decode cc pc = .ok (.iload_n i, 1)) (hv : ls[(i : Nat)]? = some (some (.int v))) (kk : A X k n (pc + 1) ls (.int v :: st) w) : A X k n pc ls st w := fun H locs arr hW hS hL hk => lv_iload_n hX.1 hX.2.1 hd rfl (hL.2 _ _ hv).1 (kk H locs arr hW hS hL hk)
theorem a_iload {i : Nat} {v : Int32} (hX : Kx X cc own nL d) (hd : decode cc pc = .ok (.iload i, 2)) (hv : ls[i]? = some (some (.int v))) (kk : A X k n (pc + 2) ls (.int v :: st) w) : A X k n pc ls st w := fun H locs arr hW hS hL hk => lv_iload hX.1 hX.2.1 hd (hL.2 _ _ hv).1 (kk H locs arr hW hS hL hk)
theorem a_aload_n {i : Fin 4} {v : Nat} (hX : Kx X cc own nL d) (hd : decode cc pc = .ok (.aload_n i, 1)) (hv : ls[(i : Nat)]? = some (some (.ref v))) (kk : A X k n (pc + 1) ls (.ref v :: st) w) : A X k n pc ls st w := fun H locs arr hW hS hL hk => lv_aload_n hX.1 hX.2.1 hd rfl (hL.2 _ _ hv).1 (kk H locs arr hW hS hL hk)
theorem a_aload {i : Nat} {v : Nat} (hX : Kx X cc own nL d) (hd : decode cc pc = .ok (.aload i, 2)) (hv : ls[i]? = some (some (.ref v))) (kk : A X k n (pc + 2) ls (.ref v :: st) w) : A X k n pc ls st w := fun H locs arr hW hS hL hk => lv_aload hX.1 hX.2.1 hd (hL.2 _ _ hv).1 (kk H locs arr hW hS hL hk)
theorem a_aload_nN {i : Fin 4} (hX : Kx X cc own nL d) (hd : decode cc pc = .ok (.aload_n i, 1)) (hv : ls[(i : Nat)]? = some (some .null)) (kk : A X k n (pc + 1) ls (.null :: st) w) : A X k n pc ls st w := fun H locs arr hW hS hL hk => lv_aload_nN hX.1 hX.2.1 hd rfl (hL.2 _ _ hv).1 (kk H locs arr hW hS hL hk)
theorem a_aloadN {i : Nat} (hX : Kx X cc own nL d) (hd : decode cc pc = .ok (.aload i, 2)) (hv : ls[i]? = some (some .null)) (kk : A X k n (pc + 2) ls (.null :: st) w) : A X k n pc ls st w := fun H locs arr hW hS hL hk => lv_aloadN hX.1 hX.2.1 hd (hL.2 _ _ hv).1 (kk H locs arr hW hS hL hk)
theorem a_istore_n {i : Fin 4} {v : Int32} (hX : Kx X cc own nL d) (hd : decode cc pc = .ok (.istore_n i, 1)) (hn : (i : Nat) < ls.length) (he : ls.set (i : Nat) (some (.int v)) = ls') (kk : A X k n (pc + 1) ls' st w) : A X k n pc ls (.int v :: st) w := by
  subst he
  exact fun H locs arr hW hS hL hk => lv_istore_n hX.1 hX.2.1 hd rfl hL.has hn rfl (fun arr' hL' => kk H locs arr' hW hS (hL.st rfl hL') hk)
theorem a_istore {i : Nat} {v : Int32} (hX : Kx X cc own nL d) (hd : decode cc pc = .ok (.istore i, 2)) (hn : i < ls.length) (he : ls.set i (some (.int v)) = ls') (kk : A X k n (pc + 2) ls' st w) : A X k n pc ls (.int v :: st) w := by
  subst he
  exact fun H locs arr hW hS hL hk => lv_istore hX.1 hX.2.1 hd hL.has hn rfl (fun arr' hL' => kk H locs arr' hW hS (hL.st rfl hL') hk)
theorem a_astore_n {i : Fin 4} {v : Nat} (hX : Kx X cc own nL d) (hd : decode cc pc = .ok (.astore_n i, 1)) (hn : (i : Nat) < ls.length) (he : ls.set (i : Nat) (some (.ref v)) = ls') (kk : A X k n (pc + 1) ls' st w) : A X k n pc ls (.ref v :: st) w := by
  subst he
  exact fun H locs arr hW hS hL hk => lv_astore_n hX.1 hX.2.1 hd rfl hL.has hn rfl (fun arr' hL' => kk H locs arr' hW hS (hL.st rfl hL') hk)
theorem a_astore {i : Nat} {v : Nat} (hX : Kx X cc own nL d) (hd : decode cc pc = .ok (.astore i, 2)) (hn : i < ls.length) (he : ls.set i (some (.ref v)) = ls') (kk : A X k n (pc + 2) ls' st w) : A X k n pc ls (.ref v :: st) w := by
  subst he
  exact fun H locs arr hW hS hL hk => lv_astore hX.1 hX.2.1 hd hL.has hn rfl (fun arr' hL' => kk H locs arr' hW hS (hL.st rfl hL') hk)
theorem a_astore_nN {i : Fin 4} (hX : Kx X cc own nL d) (hd : decode cc pc = .ok (.astore_n i, 1)) (hn : (i : Nat) < ls.length) (he : ls.set (i : Nat) (some (.null)) = ls') (kk : A X k n (pc + 1) ls' st w) : A X k n pc ls (.null :: st) w := by
  subst he
  exact fun H locs arr hW hS hL hk => lv_astore_nN hX.1 hX.2.1 hd rfl hL.has hn rfl (fun arr' hL' => kk H locs arr' hW hS (hL.st rfl hL') hk)
theorem a_astoreN {i : Nat} (hX : Kx X cc own nL d) (hd : decode cc pc = .ok (.astore i, 2)) (hn : i < ls.length) (he : ls.set i (some (.null)) = ls') (kk : A X k n (pc + 2) ls' st w) : A X k n pc ls (.null :: st) w := by
  subst he
  exact fun H locs arr hW hS hL hk => lv_astoreN hX.1 hX.2.1 hd hL.has hn rfl (fun arr' hL' => kk H locs arr' hW hS (hL.st rfl hL') hk)
theorem a_iinc {i : Nat} {c : Int} {x : Int32} (v : Int32) (hX : Kx X cc own nL d) (hd : decode cc pc = .ok (.iinc i c, 3)) (hx : ls[i]? = some (some (.int x))) (hv : x + Int32.ofInt c = v) (he : ls.set i (some (.int v)) = ls') (kk : A X k n (pc + 3) ls' st w) : A X k n pc ls st w := by
  subst he
  intro H locs arr hW hS hL hk
  obtain ⟨j, hj⟩ := List.getElem?_of_mem (knl_in (q := (i, .int x)).mpr hx)
  exact lv_iinc hX.1 hX.2.1 hd hL.has hj hv (List.getElem?_eq_some_iff.mp hx).1 rfl (fun arr' hL' => kk H locs arr' hW hS (hL.st rfl hL') hk)
theorem a_tableIn {dflt lo hi : Int} {offs : Array Int} {len : Nat} {x : Int32} {off : Int} (tgt : Nat) (hX : Kx X cc own nL d) (hd : decode cc pc = .ok (.tableswitch dflt lo hi offs, len)) (h1 : ¬ x.toInt < lo) (h2 : ¬ hi < x.toInt) (ho : offs[(x.toInt - lo).toNat]? = some off) (ht : (pc : Int) + off = (tgt : Int)) (kk : A X k n tgt ls st w) : A X k n pc ls (.int x :: st) w := fun H locs arr hW hS hL hk => lv_tableIn hX.1 hX.2.1 hd h1 h2 ho ht (kk H locs arr hW hS hL hk)
theorem a_tableOut {dflt lo hi : Int} {offs : Array Int} {len : Nat} {x : Int32} (tgt : Nat) (hX : Kx X cc own nL d) (hd : decode cc pc = .ok (.tableswitch dflt lo hi offs, len)) (h : x.toInt < lo ∨ hi < x.toInt) (ht : (pc : Int) + dflt = (tgt : Int)) (kk : A X k n tgt ls st w) : A X k n pc ls (.int x :: st) w := fun H locs arr hW hS hL hk => lv_tableOut hX.1 hX.2.1 hd h ht (kk H locs arr hW hS hL hk)
theorem a_lookup {dflt : Int} {ps : Array (Int × Int)} {len : Nat} {x : Int32} {off : Int} (tgt : Nat) (hX : Kx X cc own nL d) (hd : decode cc pc = .ok (.lookupswitch dflt ps, len)) (hp : (ps.toList.zip (ps.toList.drop 1)).all (fun (a, next) => a.1 < next.1) = true) (ho : Op.lookupswitch.offset ps.toList dflt x.toInt = off) (ht : (pc : Int) + off = (tgt : Int)) (kk : A X k n tgt ls st w) : A X k n pc ls (.int x :: st) w := fun H locs arr hW hS hL hk => lv_lookup hX.1 hX.2.1 hd hp ho ht (kk H locs arr hW hS hL hk)
/-- the ends -/
theorem a_iret {v : Int32} {mc ms : Nat} {ty : FieldType} {Po : Option Value → St → Prop} (hX : Kx X cc own nL d) (hR : Rx X (some ty) mc ms Po) (hd : decode cc pc = .ok (.ireturn, 1)) (hk1 : k ≤ mc ∧ n ≤ ms) (hn : narrow ty (.int v) = .int v) (hPo : Po (some (.int v)) w) : A X k n pc ls [.int v] w := by
  intro H locs arr hW hS hL hk
  obtain ⟨hr, hlk, hQ⟩ := hR
  rw [hQ]
  refine W.widen hk1.1 hk1.2 ?_
  exact W.zret hX.1 hX.2.1 hr hn (fun t ht hwm => ⟨⟨_, w, rfl, hPo, by rw [ht]; exact hW⟩, hS.F ht⟩) hS.2.2 hd hlk
theorem a_vret {mc ms : Nat} {Po : Option Value → St → Prop} (hX : Kx X cc own nL d) (hR : Rx X none mc ms Po) (hd : decode cc pc = .ok (.return_, 1)) (hk1 : k ≤ mc ∧ n ≤ ms) (hPo : Po none w) : A X k n pc ls [] w := by
  intro H locs arr hW hS hL hk
  obtain ⟨hr, hlk, hQ⟩ := hR
  rw [hQ]
  refine W.widen hk1.1 hk1.2 ?_
  exact W.vret hX.1 hX.2.1 hr (fun t ht hwm => ⟨⟨_, w, rfl, hPo, by rw [ht]; exact hW⟩, hS.F ht⟩) hS.2.2 hd hlk
theorem a_aret {v : Value} {mc ms : Nat} {cn : String} {Po : Option Value → St → Prop} (hX : Kx X cc own nL d) (hR : Rx X (some (.object cn)) mc ms Po) (hd : decode cc pc = .ok (.areturn, 1)) (hk1 : k ≤ mc ∧ n ≤ ms) (hv : v = .null ∨ ∃ a, v = .ref a) (hPo : Po (some v) w) : A X k n pc ls [v] w := by
  intro H locs arr hW hS hL hk
  obtain ⟨hr, hlk, hQ⟩ := hR
  rw [hQ]
  refine W.widen hk1.1 hk1.2 ?_
  exact W.aret hX.1 hX.2.1 hr (Or.inl ⟨_, rfl⟩) hv (fun t ht hwm => ⟨⟨_, w, rfl, hPo, by rw [ht]; exact hW⟩, hS.F ht⟩) hS.2.2 hd hlk
end ROWS
