/-! THE CLAIM OUT OF ONE WALK OF THE LAW'S BODY. Your part is whole_start (and what it stands on); all else here is the same for every law, but numbers. -/
def R_law : String := "TermReckonerLaw"
def lw_P (b : Addr) (xs : List Int32) (args : Array Value) (s : State) : Prop := args = #[.ref b] ∧ s.IntsAt b xs ∧ xs.length ≤ 4608 ∧ (Jvm.Cond.and given_1 narrow_1).before args s = true
def lw_Q (_ : Array Value) (s : State) (o : Outcome) (t : State) : Prop := o = .returned (some (.int 1)) ∧ Framed s o t [] 600000 7302250
def lw_Z (below : List Frame) (a : Array Value) (s : State) : State → Prop := fun t => ∃ o, t.status = .running ∧ Ended t below o ∧ lw_Q a s o t
/-- the law's own end, with 1 on the stack, nothing written that was there before, its room as the claim has it -/
theorem lw_ret {p : Program} {l : Launch} {e : Env} {s : State} {m : MethodId} {below : List Frame} {meth : Method} {c : Code} {b : Nat} (hx : p.tables.exec = Jvm.exec) (hb : c.code = code) (hr : meth.sig.returnType = ret) (hlocks : meth.locks = false) {pc : Nat} {H : Heap} {ls : Array Slot} (hdg : decode code pc = .ok (.ireturn, 1)) : W p l e room_1 s m #[Value.ref b] below meth c H [] 600000 7302250 (lw_Z below #[Value.ref b] s) (F0 m pc ls [.int 1]) := by
  intro T hT X
  obtain ⟨fs, hret, hrun, hended, hW, hframe⟩ := X.leave (v := some (.int 1)) (hlocks := hlocks) (fun h => by rw [hr] at h; cases h)
  have hmeth' : T.vm.method? m = some meth := X.method'
  refine ⟨T.setFrames fs, ?_, .returned (some (.int 1)), hrun, hended, rfl, ⟨_, rfl⟩, hW, hframe⟩
  jvm_step X.here [X.here.top, hx, hb, hdg, hmeth', hr, ret, narrow_b1]
  (try refine ⟨rfl, ?_⟩); (try refine ⟨rfl, ?_⟩)
  first | (intro acts; rw [hret _ acts rfl rfl rfl]) | rw [hret _ _ rfl rfl rfl]
  exact Steps.refl _
/-- what holds at the law's entry: the machine, the code, the tables' words (any of lw_tbl by 'hts w (by decide +kernel)'), the script of L ints xs at the cell b, what the Statement gives of the start (any of its parts by flat_of_before) -/
def lw_At (p : Program) (s : State) (m : MethodId) (meth : Method) (c : Code) (b L : Nat) (xs : Nat → Int32) : Prop :=
  p.tables.exec = Jvm.exec ∧ c.code = code ∧ meth.sig.returnType = ret ∧ c.maxLocals = 4 ∧ s.vm.findClass R_law = some m.cls ∧ (∀ w ∈ lw_tbl, w.before #[Value.ref b] s = true) ∧ va_X b L xs s s.heap ∧ b < s.heap.size ∧ meth.locks = false ∧ (Jvm.Cond.and given_1 narrow_1).before #[Value.ref b] s = true
-- ===== YOUR PART BEGINS =====
section JA
variable {X : Cx} {cc : ByteArray} {own : String} {nL d k n pc : Nat} {ls ls' : List (Option Value)} {st : List Value} {w : Bt}
theorem j_astore_n {i : Fin 4} {v : Nat} (hX : Kx X cc own nL d) (hd : decode cc pc = .ok (.astore_n i, 1)) (hn : (i : Nat) < ls.length) (he : ls.set (i : Nat) (some (.ref v)) = ls') (kk : J X k n (pc + 1) ls' st w) : J X k n pc ls (.ref v :: st) w := by
  subst he
  exact fun H locs arr hW hS hL hk => lv_astore_n hX.1 hX.2.1 hd rfl hL.has hn rfl (fun arr' hL' => kk H locs arr' hW hS (hL.st rfl hL') hk)
end JA
/-- the law's context -/
abbrev XLaw (p : Program) (l : Launch) (e : Env) (s : State) (m : MethodId) (b : Nat) (below : List Frame) (meth : Method) (c : Code) (D : va_G) (ac : Nat → ClassId) (Q : State → Prop) (lay : Nat → Nat) : Cx := (p, l, e, room_1, s, m, #[Value.ref b], below, meth, c, D, ac, s.heap.size, lay, Q)
section LJ
variable {p : Program} {l : Launch} {e : Env} {s : State} {m : MethodId} {below : List Frame} {meth : Method} {c : Code} {D : va_G} {ac : Nat → ClassId} {Q : State → Prop} {b L : Nat} {sv : Nat → Int32}
theorem fs7_ok : ∀ j, j < 9 → defaultValue (tyX7 j) = vp_V [.null, .int 0, .int 0, .int 0, .int 0, .null, .null, .null, .null] j := by decide +kernel
theorem fs8_ok : ∀ j, j < 33 → defaultValue (tyX8 j) = vp_V [.int 0, .int 0, .int 0, .null, .null, .int 0, .null, .null, .null, .null, .null, .null, .null, .null, .null, .int 0, .null, .null, .null, .null, .null, .null, .null, .null, .null, .null, .null, .null, .null, .null, .int 0, .null, .int 0] j := by decide +kernel
theorem law_J1 {X : Cx} (hX0 : Kx X cL_law RL 4 10) (hAO : AOs (xs X)) (hB : 600000 ≤ (xR X).cells ∧ 7302250 ≤ (xR X).slots) (hbs : xbs X = (xs X).heap.size)
    (kk : ∀ w1 w2 : Bt, w2.1 = 221 → w2.2.2 0 = w1.2.2 0 → (∀ r, r < 221 → Dn (xac X) w2 r) → J X 221 8003 8 [some (.ref b), some (.ref (w1.2.2 0)), none, none] [] w2) : J X 0 0 0 [some (.ref b), none, none, none] [] (0, fun _ => .inr (0, []), fun _ => 0) := by
  refine j_new (ci := 7) (C := RX7) (T := TX7) (fs := [.null, .int 0, .int 0, .int 0, .int 0, .null, .null, .null, .null]) tyX7 hX0 (Nat.le_of_eq hbs) rfl inU_X7 tyX7_ok (mw (i := 57) (by decide +kernel) (by decide +kernel)) ins_X7 ini_X7 fs7_ok ⟨by omega, by omega⟩ dL_law_0 ?_
  intro w1 hk1 h1 hc1
  have N1 : w1.1 = 0 + 1 := h1
  refine j_dup hX0 dL_law_3 rfl ?_
  refine j_callI (q := 0) hX0 hAO c_X7_init mi_X7_init mv_X7_init rfl li_L_9 (by decide) rfl (Nat.le_of_ble_eq_true rfl) ⟨by omega, by omega⟩ dL_law_4 N1 rfl hc1 ?_
  intro w2 hk2 h2 hd2
  refine j_astore_n hX0 dL_law_7 (Nat.le_of_ble_eq_true rfl) rfl ?_
  exact kk w1 w2 (by omega) (hk2.2.1 0 (by omega)) (fun r hr => hd2 r (Nat.zero_le _) (by omega))
theorem law_J2 {X : Cx} {w1 w2 : Bt} (hX0 : Kx X cL_law RL 4 10) (hAO : AOs (xs X)) (hB : 600000 ≤ (xR X).cells ∧ 7302250 ≤ (xR X).slots) (hbs : xbs X = (xs X).heap.size) (N2 : w2.1 = 221) (e0 : w2.2.2 0 = w1.2.2 0) (hd2 : ∀ r, r < 221 → Dn (xac X) w2 r)
    (kk : ∀ w4 : Bt, w4.1 = 248 → (∀ r, r < 248 → Dn (xac X) w4 r) → J X 248 165200 18 [some (.ref b), some (.ref (w4.2.2 0)), some (.ref (w4.2.2 221)), some (.int (nI (9 * 0)))] [] w4) : J X 221 8003 8 [some (.ref b), some (.ref (w1.2.2 0)), none, none] [] w2 := by
  refine j_new (ci := 8) (C := RX8) (T := TX8) (fs := [.int 0, .int 0, .int 0, .null, .null, .int 0, .null, .null, .null, .null, .null, .null, .null, .null, .null, .int 0, .null, .null, .null, .null, .null, .null, .null, .null, .null, .null, .null, .null, .null, .null, .int 0, .null, .int 0]) tyX8 hX0 (Nat.le_of_eq hbs) rfl inU_X8 tyX8_ok (mw (i := 796) (by decide +kernel) (by decide +kernel)) ins_X8 ini_X8 fs8_ok ⟨by omega, by omega⟩ dL_law_8 ?_
  intro w3 hk3 h3 hc3
  rw [N2] at hc3
  rw [N2]
  have N3 : w3.1 = 221 + 1 := by omega
  refine j_dup hX0 dL_law_11 rfl ?_
  refine j_callI (q := 221) hX0 hAO c_X8_init mi_X8_init mv_X8_init rfl li_L_12 (by decide) rfl (Nat.le_of_ble_eq_true rfl) ⟨by omega, by omega⟩ dL_law_12 N3 rfl hc3 ?_
  intro w4 hk4 h4 hd4
  have N4 : w4.1 = 248 := by omega
  refine j_astore_n hX0 dL_law_15 (Nat.le_of_ble_eq_true rfl) rfl ?_
  refine j_iconst 0 hX0 dL_law_16 (by decide) ?_
  refine j_istore_n hX0 dL_law_17 (Nat.le_of_ble_eq_true rfl) rfl ?_
  have hkk := Kp.mkd hk3 (by rw [N2]; exact hk4)
  have e1 : w4.2.2 0 = w1.2.2 0 := ((hkk 0).2.1 0 (by omega)).trans e0
  have e2 : w4.2.2 221 = w3.2.2 221 := hk4.2.1 221 (by omega)
  have hdn : ∀ r, r < 248 → Dn (xac X) w4 r := by
    intro r hr
    by_cases h : r < 221
    · exact (hd2 r h).kp hkk (by omega)
    · exact hd4 r (by omega) (by omega)
  have h9 := kk w4 N4 hdn
  have h0 : nI (9 * 0) = 0 := by decide
  rw [e1, e2, h0] at h9
  exact h9
theorem law_J3a (lay : Nat → Nat) (hL : L ≤ 4608) (hX : Kx (XLaw p l e s m b below meth c D ac Q lay) cL_law RL 4 10) (hB : 600000 ≤ (xR (XLaw p l e s m b below meth c D ac Q lay)).cells ∧ 7302250 ≤ (xR (XLaw p l e s m b below meth c D ac Q lay)).slots) (hXs : va_X b L sv s s.heap) (hbl : b < s.heap.size)
    (hend : ∀ (w : St) (k n t : Nat), A (XLaw p l e s m b below meth c D ac Q lay) k n 1655 (LSw (XLaw p l e s m b below meth c D ac Q lay) b t) [.int 1] w) {k n : Nat} (hk : k ≤ 248) (hn : n ≤ 165200) : A (XLaw p l e s m b below meth c D ac Q lay) k n 18 (LSw (XLaw p l e s m b below meth c D ac Q lay) b 0) [] w00 :=
  law_loop (X := XLaw p l e s m b below meth c D ac Q lay) hX ⟨hXs, hbl, rfl, hL⟩ hB hend 513 0 g0 w00 k n (by omega) CI_g0 MD_g0 okS_g0 (by omega) (by omega)
theorem law_J3u {lay : Nat → Nat} {k n pc : Nat} {ls : List (Option Value)} {st : List Value} {w : St} (hA : A (XLaw p l e s m b below meth c D ac Q lay) k n pc ls st w) : ∀ (H : Heap) (locs : List Loc) (arr : Array Slot), Wd D ac s.heap.size lay w H → va_S (fun q => s.heap.size ≤ q) s.heap H locs → Lv arr ls → (k ≤ room_1.cells ∧ n ≤ room_1.slots) → W p l e room_1 s m #[Value.ref b] below meth c H locs k n Q (F0 m pc arr st) := hA
theorem law_J3v {lay : Nat → Nat} {k n pc : Nat} {ls : List (Option Value)} {st : List Value} {w : Bt} (h : ∀ (H : Heap) (locs : List Loc) (arr : Array Slot), Wb D s.heap.size w H → va_S (fun q => s.heap.size ≤ q) s.heap H locs → Lv arr ls → (k ≤ room_1.cells ∧ n ≤ room_1.slots) → W p l e room_1 s m #[Value.ref b] below meth c H locs k n Q (F0 m pc arr st)) : J (XLaw p l e s m b below meth c D ac Q lay) k n pc ls st w := h
theorem law_J3w {w4 : Bt} : LSw (XLaw p l e s m b below meth c D ac Q w4.2.2) b 0 = [some (.ref b), some (.ref (w4.2.2 0)), some (.ref (w4.2.2 221)), some (.int (nI (9 * 0)))] := rfl
theorem law_J3b {w4 : Bt} {k n : Nat} (hA : A (XLaw p l e s m b below meth c D ac Q w4.2.2) k n 18 (LSw (XLaw p l e s m b below meth c D ac Q w4.2.2) b 0) [] w00) (N4 : w4.1 = 248) (hdn : ∀ r, r < 248 → Dn ac w4 r) : J (XLaw p l e s m b below meth c D ac Q (fun _ => 0)) k n 18 [some (.ref b), some (.ref (w4.2.2 0)), some (.ref (w4.2.2 221)), some (.int (nI (9 * 0)))] [] w4 := by
  rw [law_J3w] at hA
  have h := law_J3u hA
  refine law_J3v (fun H locs arr hW hS hLv hk => ?_)
  exact h H locs arr (Wb.done hW N4 hdn) hS hLv hk
theorem law_J3 {w4 : Bt} (hL : L ≤ 4608) (hX : ∀ lay, Kx (XLaw p l e s m b below meth c D ac Q lay) cL_law RL 4 10) (hB : ∀ lay, 600000 ≤ (xR (XLaw p l e s m b below meth c D ac Q lay)).cells ∧ 7302250 ≤ (xR (XLaw p l e s m b below meth c D ac Q lay)).slots) (hXs : va_X b L sv s s.heap) (hbl : b < s.heap.size) (N4 : w4.1 = 248) (hdn : ∀ r, r < 248 → Dn ac w4 r)
    (hend : ∀ (lay : Nat → Nat) (w : St) (k n t : Nat), A (XLaw p l e s m b below meth c D ac Q lay) k n 1655 (LSw (XLaw p l e s m b below meth c D ac Q lay) b t) [.int 1] w) : J (XLaw p l e s m b below meth c D ac Q (fun _ => 0)) 248 165200 18 [some (.ref b), some (.ref (w4.2.2 0)), some (.ref (w4.2.2 221)), some (.int (nI (9 * 0)))] [] w4 :=
  law_J3b (law_J3a w4.2.2 hL (hX _) (hB _) hXs hbl (hend _) (Nat.le_refl _) (Nat.le_refl _)) N4 hdn
theorem law_J (hL : L ≤ 4608) (hX : ∀ lay, Kx (XLaw p l e s m b below meth c D ac Q lay) cL_law RL 4 10) (hB : ∀ lay, 600000 ≤ (xR (XLaw p l e s m b below meth c D ac Q lay)).cells ∧ 7302250 ≤ (xR (XLaw p l e s m b below meth c D ac Q lay)).slots) (hAO : AOs s) (hXs : va_X b L sv s s.heap) (hbl : b < s.heap.size)
    (hend : ∀ (lay : Nat → Nat) (w : St) (k n t : Nat), A (XLaw p l e s m b below meth c D ac Q lay) k n 1655 (LSw (XLaw p l e s m b below meth c D ac Q lay) b t) [.int 1] w) : J (XLaw p l e s m b below meth c D ac Q (fun _ => 0)) 0 0 0 [some (.ref b), none, none, none] [] (0, fun _ => .inr (0, []), fun _ => 0) :=
  law_J1 (hX _) hAO (hB _) rfl (fun w1 w2 N2 e0 hd2 => law_J2 (hX _) hAO (hB _) rfl N2 e0 hd2 (fun w4 N4 hdn => law_J3 hL hX hB hXs hbl N4 hdn hend))
end LJ
/-- YOUR PART: from the entry, for every script of at most 4608 ints, the law comes to its end with true ('hflags': the launch's flags, for a law that throws: no stack traces) -/
theorem whole_start {p : Program} {e : Env} {s : State} {m : MethodId} {below : List Frame} {meth : Method} {c : Code} (l : Launch) (hflags : l.flags = flags0) {b L : Nat} {xs : Nat → Int32} (hL : L ≤ 4608) (C0 : lw_At p s m meth c b L xs) : W p l e room_1 s m #[Value.ref b] below meth c s.heap [] 0 0 (lw_Z below #[Value.ref b] s) (entryFrame m ([Value.ref b] : List Value).toArray 4) := by
  obtain ⟨hx, hb, hr, hml, hown, hts, hXs, hbl, hlk, hgv⟩ := C0
  obtain ⟨D, ac, hK⟩ := lw_K hts
  have hX : ∀ lay, Kx (XLaw p l e s m b below meth c D ac (lw_Z below #[Value.ref b] s) lay) cL_law RL 4 10 := fun lay => ⟨hx, hb, hml, hown, lw_wU hts, hK, lw_NW hts, (by show 10 ≤ 10; omega), (by show 40 * 10 ≤ 406; omega)⟩
  have hB : ∀ lay, 600000 ≤ (xR (XLaw p l e s m b below meth c D ac (lw_Z below #[Value.ref b] s) lay)).cells ∧ 7302250 ≤ (xR (XLaw p l e s m b below meth c D ac (lw_Z below #[Value.ref b] s) lay)).slots := fun lay => ⟨(by show 600000 ≤ 600000; omega), (by show 7302250 ≤ 7302250; omega)⟩
  have key := law_J hL hX hB (lw_AO hts) hXs hbl (fun lay w k n t H locs arr hW hS hLv hk => va_forget hS.2.2 (W.widen hk.1 hk.2 (lw_ret hx hb hr hlk dL_law_1655)))
  have hsl : lg_sl [Value.ref b] = [Slot.val (.ref b)] := rfl
  have hl := lv_entry [Value.ref b] (n := 4) (by rw [hsl]; exact Nat.le_of_ble_eq_true rfl)
  rw [lg_entry_eq]
  rw [hsl] at hl ⊢
  have hnil : ∀ (k : Nat) (q : Nat × va_E), (wlB (0, fun _ => .inr (0, []), fun _ => 0))[k]? = some q → False := fun k q h => by
    have := (List.getElem?_eq_some_iff.mp h).1
    simp [wlB] at this
  refine key s.heap [] _ ⟨fun k q h => (hnil k q h).elim, fun i j p q h => (hnil i p h).elim, fun k q h => (hnil k q h).elim⟩ va_S.rf ?_ ⟨Nat.zero_le _, Nat.zero_le _⟩
  refine ⟨⟨hl.1, hl.2.1, fun q hq => by cases hq⟩, fun j v hj => ?_⟩
  match j, hj with
  | 0, hj => (cases hj; exact ⟨rfl, rfl⟩)
  | 1, hj => cases hj
  | 2, hj => cases hj
  | 3, hj => cases hj
  | j + 4, hj => cases hj
-- ===== YOUR PART ENDS =====
set_option maxHeartbeats 4000000 in
theorem lw_walk (l : Launch) (hflags : l.flags = flags0) (b : Addr) (xs : List Int32) : MetFree l x (headSpec (Jvm.Cond.code x code maxLocals ret :: tables_1) room_1) (lw_P b xs) (fun _ _ _ _ _ => True) lw_Q := by
  refine MetFree.of_bodyS (code := code) (maxLocals := maxLocals) (ret := ret) (by decide) ?_ ?_
  · intro args s m h hn
    obtain ⟨meth, c, h1, h2, h3, h4, h5, h6, -, -⟩ := Cond.code_spec hn (atoms_spec (ws := Jvm.Cond.code x code maxLocals ret :: tables_1) h _ List.mem_cons_self)
    exact ⟨meth, c, h1, h2, h3, h4, h5, h6⟩
  · intro p e s m args below meth c s₁ B hml0 hP _
    obtain ⟨rfl, hx, hbd, hgv⟩ := hP
    obtain ⟨scr, harrAt, hlist, hof, hsmall⟩ := hx
    obtain ⟨hcb, hkn, -, -⟩ := State.arrayAt?_spec harrAt
    have hown : s.vm.findClass R_law = some m.cls := findClass_of_methodNamed B.named
    have hts0 : ∀ c ∈ (Jvm.Cond.code x code maxLocals ret :: tables_1), c.before #[Value.ref b] s = true := atoms_spec (ws := Jvm.Cond.code x code maxLocals ret :: tables_1) B.pre
    have hts : ∀ w ∈ lw_tbl, w.before #[Value.ref b] s = true := k2_hts_sels lw_privs (fun w hw => hts0 w (List.mem_cons_of_mem _ hw)) lw_privs_ok
    have hml : c.maxLocals = 4 := B.maxLocals_eq (hts0 _ List.mem_cons_self)
    have X₀ : Stand p l e room_1 s m #[Value.ref b] below meth c s₁ [] 0 0 := Stand.of_body B
    have hh0 : s₁.heap = s.heap := by rw [B.state]; rfl
    have hsz : scr.slots.size = xs.length := by rw [← Array.length_toList, hlist, List.length_map]
    have hval : ∀ j : Nat, j < xs.length → scr.slots[j]? = some (.int (xs.getD j 0)) := fun j hj => by
      rw [← Array.getElem?_toList, hlist]
      simp [hj]
    have hbl : b < s.heap.size := (Array.getElem?_eq_some_iff.mp hcb).1
    have hX : va_X b xs.length (fun j => xs.getD j 0) s s.heap := ⟨scr, hcb, hof, hkn, hsz, hval⟩
    have K : W p l e room_1 s m #[Value.ref b] below meth c s₁.heap [] 0 0 (lw_Z below #[Value.ref b] s) (entryFrame m ([Value.ref b] : List Value).toArray 4) := by
      rw [hh0]
      exact whole_start l hflags hbd ⟨B.exec, B.bytes, B.returns, hml, hown, hts, hX, hbl, B.notSynchronized, hgv⟩
    obtain ⟨t, a1, o, b1, b2, b3⟩ := K s₁ rfl X₀
    exact ⟨t, o, a1, b1, b2, b3⟩
theorem lw_pre_spec {args : Array Value} {s : State} (h : (Jvm.Cond.and given_1 narrow_1).before args s = true) (hr : rest_1_c.before args s = true) : ∃ (b : Addr) (xs : List Int32), lw_P b xs args s := by
  have hs := flat_of_before _ h
  have hq := flat_of_before _ hr
  have hc : (Cond.count 1).before args s = true := hs _ (by decide +kernel)
  have harr : (Cond.arrayOf (.arg 0) .int).before args s = true := hs _ (by decide +kernel)
  have hle : (Cond.le (.length (.arg 0)) (.int 4608)).before args s = true := hs _ (by decide +kernel)
  have hlen : (Cond.isInt (.length (.arg 0))).before args s = true := hq _ (by decide +kernel)
  have hall : (Cond.all (.arg 0) (.isInt (.elem (.arg 0) (.index 0)))).before args s = true := hq _ (by decide +kernel)
  obtain ⟨b, xs, hb, hx⟩ := State.ints_of_pre rfl harr hlen hall
  have hsm : xs.length < 2 ^ 31 := hx.choose_spec.2.2.2
  have hev : (Term.length (.arg 0)).eval args s none [] s = some (.int xs.length.toInt32) := hx.length_eval hb
  have hv := Cond.le_ints hev (show (Term.int 4608).eval args s none [] s = some (.int 4608) from rfl)
  have hd : xs.length.toInt32 ≤ 4608 := by
    simpa [Cond.before, Cond.holds, hv] using hle
  have hN : xs.length ≤ 4608 := (Int32.ofNat_le_ofNat hsm (by decide)).mp (show Int32.ofNat xs.length ≤ Int32.ofNat 4608 from hd)
  exact ⟨b, xs, Cond.one_arg hc (show args[0]? = some (.ref b) from hb), hx, hN, h⟩
theorem lw_comes (l : Launch) (hflags : l.flags = flags0) : Comes l x (Jvm.Cond.code x code maxLocals ret :: tables_1) room_1 (fun tb e args s => Calls_1 tb e args s ∧ rest_1 tb e args s ∧ Pre_1 tb e args s)
    (fun _ _ args s o t => lw_Q args s o t) := by
  intro p e ha hc hk s m args below hf hfit hheap happ hpre
  obtain ⟨b, xs, hP⟩ := lw_pre_spec hpre.2.2 hpre.2.1
  obtain ⟨k, o, h1, h2, h3, hQ⟩ := lw_walk l hflags b xs p e ha hc hk s m args below hf ((Spec.applies_iff_loose hf).mp happ).1 hP trivial
  exact ⟨k, o, h1, h2, h3, hQ⟩
theorem lw_frame {s t : State} {o : Outcome} {args : Array Value} (h : Framed s o t [] 600000 7302250) :
    Framed s o t (fieldLocs frame_1_writes args s ++ arrayLocs frame_1_arrays args s ++ staticLocs frame_1_statics s) 600000 7302250 := h
theorem lw_limb (L : Cond) (hL : ∀ (args : Array Value) (s t : State), L.after args s (.returned (some (.int 1))) t = true) :
    ArmFor flags0 classFile x code maxLocals ret World_1 tables_1 room_1 Calls_1 rest_1 Pre_1
      (fun tb e a s o t => postC L tb e a s o t ∧ Framed s o t (fieldLocs frame_1_writes a s ++ arrayLocs frame_1_arrays a s ++ staticLocs frame_1_statics s) 600000 7302250) := by
  intro l hflags _ _ p e ha hc hk s m args below hf hfit hheap happ hpre
  obtain ⟨k, o, h1, h2, h3, rfl, hF⟩ := lw_comes l hflags p e ha hc hk s m args below hf hfit hheap happ hpre
  exact ⟨k, _, h1, h2, h3, hL args s _, lw_frame hF⟩
theorem i_vc : Claimed_1_1 ∧ Claimed_1_2 := ⟨lw_limb limb_1_1 (fun args s t => by simp [limb_1_1, Cond.after, Cond.holds, Cond.value]), lw_limb limb_1_2 (fun args s t => Cond.after_iff.mpr (by
  first | (rw [show limb_1_2 = Cond.eq .result (.int 1) from rfl, Cond.eq_ints (x := 1) (y := 1) rfl rfl]; simp; done) | (simp [limb_1_2, Cond.value, Term.eval]; done)))⟩
