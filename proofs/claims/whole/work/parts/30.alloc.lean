/-! a new entry: its making, the log's store, calls of constructors -/
def wnew (w : St) (a : Nat) : St := (fun r => if r = 248 + w.2.2.1 then (fun _ => 0) else w.1 r, w.2.1, w.2.2.1 + 1, fun i => if i = w.2.2.1 then a else w.2.2.2 i)
theorem wnew_ent (w : St) (a : Nat) : (wnew w a).2.2.2 w.2.2.1 = a := by
  show (if w.2.2.1 = w.2.2.1 then a else _) = _
  rw [if_pos rfl]
theorem wnew_ne (w : St) (a : Nat) {i : Nat} (h : i ≠ w.2.2.1) : (wnew w a).2.2.2 i = w.2.2.2 i := if_neg h
theorem wnew_row (w : St) (a : Nat) : (wnew w a).1 (248 + w.2.2.1) = fun _ => 0 := if_pos rfl
theorem wnew_rne (w : St) (a : Nat) {r : Nat} (h : r ≠ 248 + w.2.2.1) : (wnew w a).1 r = w.1 r := if_neg h
/-- w1 has one entry more, all else is as it was -/
def New (w w1 : St) : Prop := w1.2.1 = w.2.1 ∧ w1.2.2.1 = w.2.2.1 + 1 ∧ (∀ r, r ≠ 248 + w.2.2.1 → w1.1 r = w.1 r) ∧ (∀ i, i ≠ w.2.2.1 → w1.2.2.2 i = w.2.2.2 i)
theorem New.mk (w : St) (a : Nat) : New w (wnew w a) := ⟨rfl, rfl, fun r hr => if_neg hr, fun i hi => if_neg hi⟩
def wlog (w : St) : St := (w.1, w.2.1 + 1, w.2.2.1, w.2.2.2)
theorem cellF_z {ac : Nat → ClassId} {lay : Nat → Nat} {z z' : Nat × Nat × (Nat → Nat)} {f : Nat → Int32} {r : Nat} (h1 : z'.1 = z.1) (h2 : ∀ j, j < z.1 → z'.2.2 j = z.2.2 j) : cellF ac lay z' f r = cellF ac lay z f r := by
  have h3 : (fun j => if j < z'.1 then some (z'.2.2 j) else none) = (fun j => if j < z.1 then some (z.2.2 j) else none) := by
    funext j
    rw [h1]
    by_cases hj : j < z.1
    · rw [if_pos hj, if_pos hj, h2 j hj]
    · rw [if_neg hj, if_neg hj]
  unfold cellF
  rw [h3]
theorem wl_new {ac : Nat → ClassId} {lay : Nat → Nat} {w : St} {a : Nat} (h : w.2.1 ≤ w.2.2.1) : wl ac lay w ++ [(a, .inr (0, [.int 0, .int 0, .int 0, .int 0, .int 0, .int 0, .int 0, .int 0, .int 0]))] = wl ac lay (wnew w a) := by
  show (List.range (248 + w.2.2.1)).map _ ++ _ = (List.range (248 + w.2.2.1 + 1)).map _
  rw [List.range_succ, List.map_append]
  have hA : (List.range (248 + w.2.2.1)).map (fun r => (adr lay w r, cell ac lay w r)) = (List.range (248 + w.2.2.1)).map (fun r => (adr lay (wnew w a) r, cell ac lay (wnew w a) r)) := by
    apply List.map_congr_left
    intro r hr
    have hr := List.mem_range.mp hr
    have e1 : adr lay (wnew w a) r = adr lay w r := by
      unfold adr
      by_cases h8 : r < 248
      · rw [if_pos h8, if_pos h8]
      · rw [if_neg h8, if_neg h8]
        exact wnew_ne w a (by omega)
    have e2 : cell ac lay (wnew w a) r = cell ac lay w r := by
      unfold cell
      have e3 : (wnew w a).1 r = w.1 r := wnew_rne w a (by omega)
      rw [e3]
      exact cellF_z rfl (fun j hj => wnew_ne w a (by omega))
    rw [e1, e2]
  have hB : [((a : Nat), (.inr (0, [.int 0, .int 0, .int 0, .int 0, .int 0, .int 0, .int 0, .int 0, .int 0]) : va_E))] = [248 + w.2.2.1].map (fun r => (adr lay (wnew w a) r, cell ac lay (wnew w a) r)) := by
    show _ = [(adr lay (wnew w a) (248 + w.2.2.1), cell ac lay (wnew w a) (248 + w.2.2.1))]
    rw [adr_ge, cell_0 (kd_ge _)]
    rw [wnew_row, wnew_ent]
  rw [hA, hB]
theorem wl_log {ac : Nat → ClassId} {lay : Nat → Nat} {w : St} (h : w.2.1 < 400) : (wl ac lay w).set 1 (lay 1, .inl (ac 2, 400, .inr (.inr (.inr (.inr (va_up (fun j => if j < w.2.1 then some (w.2.2.2 j) else none) (nI w.2.1).toNatClampNeg (some (w.2.2.2 w.2.1)))))))) = wl ac lay (wlog w) := by
  apply List.ext_getElem?
  intro i
  by_cases hi : i < 248 + w.2.2.1
  · rw [wl_get (w := wlog w) (show i < 248 + (wlog w).2.2.1 from hi)]
    by_cases hi1 : i = 1
    · subst hi1
      rw [List.getElem?_set_self (by simp [wl]; omega), adr_lt (by decide), cell_12 rfl, nI_clamp (by omega)]
      have e : va_up (fun j => if j < w.2.1 then some (w.2.2.2 j) else none) w.2.1 (some (w.2.2.2 w.2.1)) = fun j => if j < (wlog w).2.1 then some ((wlog w).2.2.2 j) else none := by
        funext j
        show va_up _ _ _ j = if j < w.2.1 + 1 then some (w.2.2.2 j) else none
        unfold va_up
        by_cases hj : j = w.2.1
        · subst hj; simp
        · by_cases hj2 : j < w.2.1
          · simp [hj, hj2, Nat.lt_succ_of_lt hj2]
          · simp [hj, hj2, show ¬ j < w.2.1 + 1 by omega]
      rw [e]
    · rw [List.getElem?_set_ne (Ne.symm hi1), wl_get hi]
      have e1 : adr lay (wlog w) i = adr lay w i := rfl
      have e2 : cell ac lay (wlog w) i = cell ac lay w i := by
        unfold cell
        by_cases hk : kd i = 12
        · exact absurd hk (by
            intro hk
            have := (by decide +kernel : ∀ r, r < 248 → kd r = 12 → r = 1) i (kd_lt hk (by decide)) hk
            exact hi1 this)
        · unfold cellF
          rw [if_neg hk, if_neg hk]
          rfl
      rw [e1, e2]
  · rw [List.getElem?_eq_none (by simp [wl]; omega), List.getElem?_eq_none (by simp [wl, wlog]; omega)]
/-- what a method that makes things knows besides -/
def Kz (X : Cx) (nm : String) (mc ms : Nat) : Prop := (mc ≤ (xR X).cells ∧ ms ≤ (xR X).slots) ∧ (xmt X).name = nm ∧ xbs X ≤ (xs X).heap.size
theorem Wd.bs {D : va_G} {ac : Nat → ClassId} {bs : Nat} {lay : Nat → Nat} {w : St} {H : Heap} (h : Wd D ac bs lay w H) : bs ≤ H.size := by
  have e := wl_get (ac := ac) (lay := lay) (w := w) (r := 0) (by omega)
  have h1 := (h.1 0 _ e).lt
  have h2 : bs ≤ _ := h.2.2 0 _ e
  exact Nat.le_of_lt (Nat.lt_of_le_of_lt h2 h1)
set_option maxHeartbeats 1000000 in
theorem Ct.mk2 {y : MethodName} {cc : ByteArray} {nL d mc ms : Nat} {ret : Option FieldType} {T : Tr} (hy : plainName y.cls = true)
    (body : ∀ (X : Cx) (av : List Value) (w : St) (Po : Option Value → St → Prop), Kx X cc y.cls nL d → Rx X ret mc ms Po → Kz X y.name mc ms → T (xlay X) av w Po → (av.all (fun v => v.category == 1) && decide (av.length ≤ nL)) = true ∧ A X 0 0 0 (av.map some ++ List.replicate (nL - av.length) none) [] w) : Ct y cc nL ret d mc ms T := by
  intro l D ac bs lay av w Po hT
  refine Met.ofW (cc := cc) (maxL := nL) (ret := ret) hy rfl ?_
  intro p e s m args below meth c s₁ B hml hv
  obtain ⟨rfl, hP, hK, hN⟩ := hv
  have hts := atoms_spec (ws := .code y cc nL ret :: wU) B.pre
  have hown : s.vm.findClass y.cls = some m.cls := findClass_of_methodNamed B.named
  let X : Cx := (p, l, e, (headSpec (.code y cc nL ret :: wU) { frames := d, cells := mc, slots := ms, locals := 40 * d }).room, s, m, av.toArray, below, meth, c, D, ac, bs, lay, MQ below (QcA D ac bs lay Po) av.toArray s mc ms (fun q => bs ≤ q))
  obtain ⟨h1, h2⟩ := body X av w Po ⟨B.exec, B.bytes, hml, hown, fun w hw => hts w (List.mem_cons_of_mem _ hw), hK, hN, Nat.le_refl _, Nat.le_refl _⟩ ⟨B.returns, B.notSynchronized, rfl⟩ ⟨⟨Nat.le_refl _, Nat.le_refl _⟩, (name_of_methodNamed B.named B.method).1, hP.bs⟩ hT
  rw [Bool.and_eq_true, List.all_eq_true, decide_eq_true_eq] at h1
  have hc1 : ∀ v ∈ av, v.category = 1 := fun v hv => by simpa using h1.1 v hv
  have hsl : lg_sl av = av.map Slot.val := by
    have : ∀ (u : List Value), (∀ v ∈ u, v.category = 1) → lg_sl u = u.map Slot.val := by
      intro u
      induction u with
      | nil => intro _; rfl
      | cons a u ih =>
        intro h
        have ha : ¬ a.category = 2 := by rw [h a List.mem_cons_self]; decide
        have hu := ih (fun v hv => h v (List.mem_cons_of_mem _ hv))
        unfold lg_sl at hu ⊢
        rw [List.flatMap_cons, if_neg ha, hu]; rfl
    exact this av hc1
  have hlen : (lg_sl av).length = av.length := by rw [hsl, List.length_map]
  have hl := lv_entry av (n := nL) (by rw [hlen]; exact h1.2)
  rw [lg_entry_eq]
  rw [hlen] at hl ⊢
  refine h2 s.heap [] _ hP va_S.rf ?_ ⟨Nat.zero_le _, Nat.zero_le _⟩
  have hL1 : (av.map some ++ List.replicate (nL - av.length) none).length = nL := by
    rw [List.length_append, List.length_map, List.length_replicate]; omega
  refine ⟨⟨by rw [hL1]; exact hl.1, hl.2.1, fun q hq => by cases hq⟩, fun j v hj => ?_⟩
  by_cases hja : j < av.length
  · rw [List.getElem?_append_left (by rw [List.length_map]; exact hja), List.getElem?_map] at hj
    cases hq : av[j]? with
    | none => rw [hq] at hj; cases hj
    | some u =>
      rw [hq] at hj
      cases hj
      refine ⟨?_, hc1 _ (List.mem_of_getElem? hq)⟩
      rw [hsl, List.getElem?_toArray, List.getElem?_append_left (by rw [List.length_map]; exact hja), List.getElem?_map, hq]; rfl
  · rw [List.getElem?_append_right (by rw [List.length_map]; omega)] at hj
    have := List.getElem?_eq_some_iff.mp hj
    obtain ⟨_, h9⟩ := this
    rw [List.getElem_replicate] at h9
    cases h9
section ALLOC
variable {X : Cx} {cc : ByteArray} {own : String} {nL d k n pc : Nat} {ls ls' : List (Option Value)} {st : List Value} {w : St}
theorem ob_l : ∀ (own : String) (i : Nat), Cond.methodLink own i Lib.objectInit ∈ wU → Cond.methodLink own i Lib.objectInit ∈ wU := fun _ _ h => h
theorem ob_i : Cond.instanceMethod Lib.objectInit ∈ wU := mw (i := 63) (by decide +kernel) (by decide +kernel)
theorem ob_c : Cond.code Lib.objectInit ⟨#[0xb1]⟩ 1 none ∈ wU := mw (i := 64) (by decide +kernel) (by decide +kernel)
theorem ol_X7_3 : Cond.methodLink RX7 3 Lib.objectInit ∈ wU := mw (i := 62) (by decide +kernel) (by decide +kernel)
theorem cl_X7_9 : Cond.classLink RX7 9 RX0 ∈ wU := mw (i := 65) (by decide +kernel) (by decide +kernel)
theorem ol_X4_3 : Cond.methodLink RX4 3 Lib.objectInit ∈ wU := mw (i := 72) (by decide +kernel) (by decide +kernel)
theorem ol_X1_3 : Cond.methodLink RX1 3 Lib.objectInit ∈ wU := mw (i := 79) (by decide +kernel) (by decide +kernel)
theorem ol_X2_3 : Cond.methodLink RX2 3 Lib.objectInit ∈ wU := mw (i := 86) (by decide +kernel) (by decide +kernel)
theorem ol_X3_3 : Cond.methodLink RX3 3 Lib.objectInit ∈ wU := mw (i := 168) (by decide +kernel) (by decide +kernel)
theorem ol_X6_3 : Cond.methodLink RX6 3 Lib.objectInit ∈ wU := mw (i := 174) (by decide +kernel) (by decide +kernel)
theorem ol_X5_3 : Cond.methodLink RX5 3 Lib.objectInit ∈ wU := mw (i := 221) (by decide +kernel) (by decide +kernel)
theorem inst_X0 : Cond.instantiable RX0 9 ∈ wU := mw (i := 309) (by decide +kernel) (by decide +kernel)
theorem ol_X0_3 : Cond.methodLink RX0 3 Lib.objectInit ∈ wU := mw (i := 313) (by decide +kernel) (by decide +kernel)
theorem ol_X8_1 : Cond.methodLink RX8 1 Lib.objectInit ∈ wU := mw (i := 801) (by decide +kernel) (by decide +kernel)
theorem a_obj {a idx : Nat} (hX : Kx X cc own nL d) (hl : Cond.methodLink own idx Lib.objectInit ∈ wU) (hls : ls.length = nL) (hd0 : 1 ≤ d) (hsm : (st.map fun v => v.category).sum ≤ 8) (hd : decode cc pc = .ok (.invokespecial idx, 3)) (kk : A X k n (pc + 3) ls st w) : A X k n pc ls (.ref a :: st) w := by
  intro H locs arr hW hS hL hk
  have h1 := hX.2.2.2.2.2.2.2.1
  have h2 := hX.2.2.2.2.2.2.2.2
  refine W.objInit hX.1 hX.2.1 hX.2.2.2.1 (hX.2.2.2.2.1 _ hl) (hX.2.2.2.2.1 _ ob_i) (hX.2.2.2.2.1 _ ob_c) rfl ?_ rfl hd (by omega) ?_ (kk H locs arr hW hS hL hk)
  · rw [hX.2.2.1, ← hls]; exact hL.1.1
  · show 2 * 0 + _ + 12 ≤ _
    omega
theorem a_new {idx : Nat} (hX : Kx X cc own nL d) (hB : xbs X ≤ (xs X).heap.size) (hnn : w.2.1 ≤ w.2.2.1) (hcl : Cond.classLink own idx RX0 ∈ wU) (hcs : k + 1 ≤ (xR X).cells ∧ n + 9 ≤ (xR X).slots) (hd : decode cc pc = .ok (.new idx, 3)) (kk : ∀ w1 : St, New w w1 → A X (k + 1) (n + 9) (pc + 3) ls (.ref (w1.2.2.2 w.2.2.1) :: st) w1) : A X k n pc ls st w := by
  intro H locs arr hW hS hL hk
  refine va_new (ci := 0) (fs := [.int 0, .int 0, .int 0, .int 0, .int 0, .int 0, .int 0, .int 0, .int 0]) hX.1 hX.2.1 hX.2.2.2.2.1 inU_X0 tyX0 tyX0_ok hX.2.2.2.1 (hX.2.2.2.2.1 _ hcl) (hX.2.2.2.2.1 _ inst_X0) (hX.2.2.2.2.1 _ ini_X0) hX.2.2.2.2.2.1 hW.1 hW.2 hS (fun q h => Nat.le_trans hB h) rfl (fun j hj => (by decide +kernel : ∀ j, j < 9 → defaultValue (tyX0 j) = vp_V [.int 0, .int 0, .int 0, .int 0, .int 0, .int 0, .int 0, .int 0, .int 0] j) j hj) hcs.1 hcs.2 hd (fun q H1 hP hD hS1 => ?_)
  rw [wl_new hnn] at hP hD
  have h9 := kk (wnew w q) (New.mk w q)
  rw [wnew_ent] at h9
  exact h9 H1 locs arr ⟨hP, hD⟩ hS1 hL hcs
theorem a_ast_log {i : Int32} (hX : Kx X cc own nL d) (hi : i = nI w.2.1) (hj : w.2.1 < 400) (hn : w.2.1 < w.2.2.1) (hd : decode cc pc = .ok (.aastore, 1)) (kk : A X k n (pc + 1) ls st (wlog w)) : A X k n pc ls (.ref (w.2.2.2 w.2.1) :: .int i :: .ref (xlay X 1) :: st) w := by
  subst hi
  intro H locs arr hW hS hL hk
  have hr : 1 < 248 + w.2.2.1 := by omega
  have e := wl_get (ac := xac X) (lay := xlay X) hr
  rw [adr_lt (by decide), cell_12 rfl] at e
  have e2 := wl_get (ac := xac X) (lay := xlay X) (w := w) (r := 248 + w.2.1) (by omega)
  rw [adr_ge, cell_0 (kd_ge _)] at e2
  refine va_astq hX.1 hX.2.1 hX.2.2.2.2.2.1 hW.1 hW.2 hS 1 2 (248 + w.2.1) 0 (r := (RX0, TX0, 9)) e rfl e2 rfl (vp_in_nI hj (by decide)) hd (fun H1 locs1 hP hD hS1 => ?_)
  rw [wl_log hj] at hP hD
  exact kk H1 locs1 arr ⟨hP, hD⟩ hS1 hL hk
theorem a_putF {r a ci j idx N : Nat} {v : Int32} {ref C : String} {fs : List Value} {T : u_T} (ty0 : Nat → FieldType) (hX : Kx X cc own nL d) (hnm0 : (xmt X).name = "<init>") (hr : r < 248 + w.2.2.1) (ha : adr (xlay X) w r = a) (hc : cell (xac X) (xlay X) w r = .inr (ci, fs)) (hcl : vwCl[ci]? = some (C, T, N)) (hin : ∀ q ∈ u_ws C T N, q ∈ wU) (hty : ∀ k, k < N → parseFieldDescriptor (T k).2.2.1 = some (ty0 k)) (hnm : ∀ a, a < N → ∀ b, b < N → a ≠ b → (T a).2.1 ≠ (T b).2.1) (hj : j < N) (hl : Cond.fieldLink own idx ref (T j).2.1 (T j).2.2.1 ∈ wU) (hs : ref = (T j).1) (hfin : (T j).2.2.2 = true) (hdecl : (T j).1 = own) (hI : parseFieldDescriptor (T j).2.2.1 = some .int) (hlen : j < fs.length) (he : (.inr (ci, fs.set j (.int v)) : va_E) = cellF (xac X) (xlay X) w.2 (upd (w.1 r) j v) r) (hd : decode cc pc = .ok (.putfield idx, 3)) (kk : A X k n (pc + 3) ls st (wset w r j v)) : A X k n pc ls (.int v :: .ref a :: st) w := by
  subst ha; subst hs
  intro H locs arr hW hS hL hk
  refine va_putF (ty := .int) (v := .int v) hX.1 hX.2.1 hX.2.2.2.2.1 hin ty0 hty hnm hX.2.2.2.1 hX.2.2.2.2.2.1 hW.1 hW.2 hS r ((wl_get hr).trans (by rw [hc])) hcl j hj (hX.2.2.2.2.1 _ hl) (fun _ h9 => h9) hfin hnm0 hdecl hI rfl rfl hlen hd (fun H1 locs1 hP hD hS1 => ?_)
  rw [wl_set (v := v) (j := j) he] at hP hD
  exact kk H1 locs1 arr ⟨hP, hD⟩ hS1 hL hk
theorem a_callI {T : Tr} {y : MethodName} {bytes : ByteArray} {maxL d' mc ms np idx b : Nat} (As : List Value) (hX : Kx X cc own nL d) (hct : Ct y bytes maxL none d' mc ms T) (mi : MI y bytes maxL none np) (hin : Cond.instanceMethod y ∈ wU) (hyn : y.name = "<init>") (hl : Cond.methodLink own idx y ∈ wU) (hdd : d' < d) (hnp : As.length = np) (hls : ls.length = nL) (hsm : (st.map fun v => v.category).sum ≤ 8) (hcs : k ≤ (xR X).cells ∧ n ≤ (xR X).slots → k + mc ≤ (xR X).cells ∧ n + ms ≤ (xR X).slots) (hd : decode cc pc = .ok (.invokespecial idx, 3))
    (hT : T (xlay X) (.ref b :: As) w (fun r w' => A X (k + mc) (n + ms) (pc + 3) ls (r.toList ++ st) w')) : A X k n pc ls (As.reverse ++ .ref b :: st) w := by
  intro H locs arr hW hS hL hk
  have hM := hct (xl X) (xD X) (xac X) (xbs X) (xlay X) (.ref b :: As) w _ hT
  exact a_cont (va_runI ⟨hX.1, hX.2.1, hX.2.2.1, hX.2.2.2.1, hX.2.2.2.2.1⟩ hM ⟨a_callB hX mi hl hdd, hyn, hX.2.2.2.2.1 _ hin⟩ (a_preS hX hW) rfl hnp (by rw [← hls]; exact hL.1.1) rfl (lv_room hsm) hd (hcs hk)) hS hL (hcs hk) (fun r w' h => h)
end ALLOC
abbrev T_X0_init : Tr := fun lay av w Po => ∃ (i : Nat) (a b c e : Int32), av = [.ref (w.2.2.2 i), .int a, .int b, .int c, .int e] ∧ (i < w.2.2.1) ∧ ∀ w' : St, Fr w w' (fun z => z = 248 + i) ∧ (∀ j, j < 9 → w'.1 (248 + i) j = en9 a b c e 0 0 0 0 0 j) → Po none w'
section FINAL
variable {X : Cx} {cc : ByteArray} {nL d k n pc : Nat} {ls : List (Option Value)} {st : List Value} {w : St}
theorem pff_X0_27 {v : Int32} {i : Nat} (hi : i < w.2.2.1) (hX : Kx X cc RX0 nL d) (hnm0 : (xmt X).name = "<init>") (hd : decode cc pc = .ok (.putfield 27, 3)) (kk : A X k n (pc + 3) ls st (wset w (248 + i) 0 v)) : A X k n pc ls (.int v :: .ref (w.2.2.2 i) :: st) w := a_putF tyX0 hX hnm0 (Nat.add_lt_add_left hi 248) adr_ge (cell_0 (kd_ge i)) rfl inU_X0 tyX0_ok nmX0 (j := 0) (by decide) fl_X0_27 rfl rfl rfl rfl (Nat.le_of_ble_eq_true rfl) (by simp [cellF, kd_ge, upd]) hd kk
theorem pff_X0_30 {v : Int32} {i : Nat} (hi : i < w.2.2.1) (hX : Kx X cc RX0 nL d) (hnm0 : (xmt X).name = "<init>") (hd : decode cc pc = .ok (.putfield 30, 3)) (kk : A X k n (pc + 3) ls st (wset w (248 + i) 1 v)) : A X k n pc ls (.int v :: .ref (w.2.2.2 i) :: st) w := a_putF tyX0 hX hnm0 (Nat.add_lt_add_left hi 248) adr_ge (cell_0 (kd_ge i)) rfl inU_X0 tyX0_ok nmX0 (j := 1) (by decide) fl_X0_30 rfl rfl rfl rfl (Nat.le_of_ble_eq_true rfl) (by simp [cellF, kd_ge, upd]) hd kk
theorem pff_X0_33 {v : Int32} {i : Nat} (hi : i < w.2.2.1) (hX : Kx X cc RX0 nL d) (hnm0 : (xmt X).name = "<init>") (hd : decode cc pc = .ok (.putfield 33, 3)) (kk : A X k n (pc + 3) ls st (wset w (248 + i) 2 v)) : A X k n pc ls (.int v :: .ref (w.2.2.2 i) :: st) w := a_putF tyX0 hX hnm0 (Nat.add_lt_add_left hi 248) adr_ge (cell_0 (kd_ge i)) rfl inU_X0 tyX0_ok nmX0 (j := 2) (by decide) fl_X0_33 rfl rfl rfl rfl (Nat.le_of_ble_eq_true rfl) (by simp [cellF, kd_ge, upd]) hd kk
theorem pff_X0_36 {v : Int32} {i : Nat} (hi : i < w.2.2.1) (hX : Kx X cc RX0 nL d) (hnm0 : (xmt X).name = "<init>") (hd : decode cc pc = .ok (.putfield 36, 3)) (kk : A X k n (pc + 3) ls st (wset w (248 + i) 3 v)) : A X k n pc ls (.int v :: .ref (w.2.2.2 i) :: st) w := a_putF tyX0 hX hnm0 (Nat.add_lt_add_left hi 248) adr_ge (cell_0 (kd_ge i)) rfl inU_X0 tyX0_ok nmX0 (j := 3) (by decide) fl_X0_36 rfl rfl rfl rfl (Nat.le_of_ble_eq_true rfl) (by simp [cellF, kd_ge, upd]) hd kk
end FINAL
theorem c_X0_init : Ct yX0_init cX0_init 5 none 1 0 0 T_X0_init := by
  refine Ct.mk2 (by decide +kernel) ?_
  intro X av w Po hX hR hZ hT
  obtain ⟨i, a, b, c, e, rfl, hi, h⟩ := hT
  refine ⟨rfl, ?_⟩
  show A X 0 0 0 [some (.ref (w.2.2.2 i)), some (.int a), some (.int b), some (.int c), some (.int e)] [] w
  refine a_aload_n hX dX0_init_0 rfl ?_
  refine a_obj hX ol_X0_3 rfl (by decide) (by decide) dX0_init_1 ?_
  refine a_aload_n hX dX0_init_4 rfl ?_
  refine a_iconst (0) hX dX0_init_5 (by decide) ?_
  refine pf_X0_9 hi hX dX0_init_6 ?_
  refine a_aload_n hX dX0_init_9 rfl ?_
  refine a_iconst (0) hX dX0_init_10 (by decide) ?_
  refine pf_X0_15 hi hX dX0_init_11 ?_
  refine a_aload_n hX dX0_init_14 rfl ?_
  refine a_iconst (0) hX dX0_init_15 (by decide) ?_
  refine pf_X0_18 hi hX dX0_init_16 ?_
  refine a_aload_n hX dX0_init_19 rfl ?_
  refine a_iconst (0) hX dX0_init_20 (by decide) ?_
  refine pf_X0_21 hi hX dX0_init_21 ?_
  refine a_aload_n hX dX0_init_24 rfl ?_
  refine a_iconst (0) hX dX0_init_25 (by decide) ?_
  refine pf_X0_24 hi hX dX0_init_26 ?_
  refine a_aload_n hX dX0_init_29 rfl ?_
  refine a_iload_n hX dX0_init_30 rfl ?_
  refine pff_X0_27 hi hX hZ.2.1 dX0_init_31 ?_
  refine a_aload_n hX dX0_init_34 rfl ?_
  refine a_iload_n hX dX0_init_35 rfl ?_
  refine pff_X0_30 hi hX hZ.2.1 dX0_init_36 ?_
  refine a_aload_n hX dX0_init_39 rfl ?_
  refine a_iload_n hX dX0_init_40 rfl ?_
  refine pff_X0_33 hi hX hZ.2.1 dX0_init_41 ?_
  refine a_aload_n hX dX0_init_44 rfl ?_
  refine a_iload hX dX0_init_45 rfl ?_
  refine pff_X0_36 hi hX hZ.2.1 dX0_init_47 ?_
  refine a_vret hX hR dX0_init_50 ⟨Nat.le_refl _, Nat.le_refl _⟩ ?_
  refine h _ ⟨?_, ?_⟩
  · repeat (refine Fr.set ?_ rfl)
    exact Fr.rf
  · intro j hj
    simp only [wset_1]
    rcases (show j = 0 ∨ j = 1 ∨ j = 2 ∨ j = 3 ∨ j = 4 ∨ j = 5 ∨ j = 6 ∨ j = 7 ∨ j = 8 by omega) with rfl | rfl | rfl | rfl | rfl | rfl | rfl | rfl | rfl <;> simp [en9]
