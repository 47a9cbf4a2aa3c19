/-! the law's cases -/
def Sx (X : Cx) (sc L : Nat) (sv : Nat → Int32) : Prop := va_X sc L sv (xs X) (xs X).heap ∧ sc < (xs X).heap.size ∧ xbs X = (xs X).heap.size ∧ L ≤ 4608
def zb (x : Int32) : Int32 := if x = 0 then 0 else 1
theorem nI_ad (a b : Nat) : nI a + nI b = nI (a + b) := by
  unfold nI
  rw [Int32.ofNat_add]
theorem and31 (x : Int32) : ∃ m, m < 32 ∧ x &&& 31 = nI m := by
  refine ⟨(x &&& 31).toBitVec.toNat, ?_, ?_⟩
  · rw [Int32.toBitVec_and, BitVec.toNat_and]
    have h : x.toBitVec.toNat &&& (31 : Int32).toBitVec.toNat ≤ (31 : Int32).toBitVec.toNat := Nat.and_le_right
    have h2 : (31 : Int32).toBitVec.toNat = 31 := by decide
    omega
  · apply Int32.toBitVec_inj.mp
    apply BitVec.eq_of_toNat_eq
    unfold nI
    rw [Int32.toBitVec_ofNat', BitVec.toNat_ofNat, Nat.mod_eq_of_lt (BitVec.isLt _)]
theorem MD.frM {g : Sg} {w w' : St} (h : MD g w) (hf : FrM w w') : MD g w' := by
  unfold MD at h ⊢
  rw [hf 221 (by decide) (by decide), hf 222 (by decide) (by decide), hf 223 (by decide) (by decide), hf 247 (by decide) (by decide)]
  exact h
theorem CI.frC {g : Sg} {w w' : St} (h : CI g w) (hf : FrC w w') : CI g w' := h.fr (T := fun z => 221 ≤ z ∧ z < 248) ⟨hf.1, fun r hr => hf.2 r (by omega)⟩ (fun z hz => by omega)
section LROWS
variable {X : Cx} {cc : ByteArray} {own : String} {nL d k n pc : Nat} {ls ls' : List (Option Value)} {st : List Value} {w : St}
theorem a_sld {sc L : Nat} {sv : Nat → Int32} {i : Int32} (j : Nat) (hX : Kx X cc own nL d) (hSx : Sx X sc L sv) (hi : i = nI j) (hj : j < L) (hd : decode cc pc = .ok (.iaload, 1)) (kk : A X k n (pc + 1) ls (.int (sv j) :: st) w) : A X k n pc ls (.int i :: .ref sc :: st) w := by
  subst hi
  intro H locs arr hW hS hL hk
  obtain ⟨h1, h2, h3, h4⟩ := hSx
  refine va_sld hX.1 hX.2.1 h1 h2 (fun z => by have z : xbs X ≤ sc := z; rw [h3] at z; omega) hS (vp_in_nI hj (by omega)) hd ?_
  rw [nI_clamp (by omega)]
  exact kk H locs arr hW hS hL hk
theorem a_slen {sc L : Nat} {sv : Nat → Int32} (hX : Kx X cc own nL d) (hSx : Sx X sc L sv) (hd : decode cc pc = .ok (.arraylength, 1)) (kk : A X k n (pc + 1) ls (.int (nI L) :: st) w) : A X k n pc ls (.ref sc :: st) w := by
  intro H locs arr hW hS hL hk
  obtain ⟨h1, h2, h3, h4⟩ := hSx
  exact va_slen hX.1 hX.2.1 h1 h2 (fun z => by have z : xbs X ≤ sc := z; rw [h3] at z; omega) hS hd (kk H locs arr hW hS hL hk)
theorem a_nz {x : Int32} {o1 o2 : Int} (p1 jn : Nat) (hX : Kx X cc own nL d) (d1 : decode cc pc = .ok (.ifCond .eq o1, 3)) (t1 : (pc : Int) + o1 = (p1 : Int)) (d2 : decode cc (pc + 3) = .ok (.iconst 1, 1)) (d3 : decode cc (pc + 3 + 1) = .ok (.goto o2, 3)) (t2 : ((pc + 3 + 1 : Nat) : Int) + o2 = (jn : Int)) (d4 : decode cc p1 = .ok (.iconst 0, 1)) (hp : p1 + 1 = jn) (kk : A X k n jn ls (.int (zb x) :: st) w) : A X k n pc ls (.int x :: st) w := by
  refine a_if_eq p1 hX d1 t1 (fun q => ?_) (fun q => ?_)
  · refine a_iconst 0 hX d4 (by decide) ?_
    rw [hp]
    have : zb x = 0 := if_pos q
    rw [this] at kk
    exact kk
  · refine a_iconst 1 hX d2 (by decide) ?_
    refine a_goto jn hX d3 t2 ?_
    have : zb x = 1 := if_neg q
    rw [this] at kk
    exact kk
end LROWS
abbrev LSw (X : Cx) (sc t : Nat) : List (Option Value) := [some (.ref sc), some (.ref (xlay X 0)), some (.ref (xlay X 221)), some (.int (nI (9 * t)))]
/-- behind a call of both sides -/
abbrev LKw (X : Cx) (sc t : Nat) : Prop := ∀ (g : Sg) (w : St) (k n : Nat), CI g w → MD g w → okS g → k ≤ 248 + (t + 1) → n ≤ 165200 + 9 * (t + 1) → A X k n 1648 (LSw X sc t) [] w
section CASES
variable {X : Cx} {sc L k n t : Nat} {sv : Nat → Int32} {g : Sg} {w : St}
theorem lc_person (hX : Kx X cL_law RL 4 10) (hS : Sx X sc L sv) (hB : 600000 ≤ (xR X).cells ∧ 7302250 ≤ (xR X).slots) (hC : CI g w) (hM : MD g w) (ho : okS g) (ht : 9 * t + 9 ≤ L) (hk : k ≤ 248 + t) (hn : n ≤ 165200 + 9 * t) (kk : LKw X sc t) : A X k n 176 (LSw X sc t) [] w := by
  have hL := hS.2.2.2
  refine a_aload_n hX dL_law_176 rfl ?_
  refine a_callV [] hX c_X7_person mi_X7_person mv_X7_person se_X7_person (klt rfl (by decide)) (adr_lt (kd_lt rfl (by decide))) (cell_7 rfl) rfl li_L_13 (by decide) rfl rfl (Nat.le_of_ble_eq_true rfl) (fun _ => ⟨by omega, by omega⟩) dL_law_177 ⟨g, rfl, hC, ho, ?_⟩
  intro w1 hC1 hm1
  refine a_aload_n hX dL_law_180 rfl ?_
  refine a_callV [] hX c_X8_person mi_X8_person mv_X8_person se_X8_person (klt rfl (by decide)) (adr_lt (kd_lt rfl (by decide))) (cell_8 rfl) rfl li_L_17 (by decide) rfl rfl (Nat.le_of_ble_eq_true rfl) (fun _ => ⟨by omega, by omega⟩) dL_law_181 ⟨g, rfl, hM.frM hm1, ho, ?_⟩
  intro w2 hM2 hf2
  refine a_icmp_eq 1648 hX dL_law_184 (by decide) (fun _ => ?_) (fun z => absurd rfl z)
  exact kk _ w2 _ _ (hC1.frC hf2) hM2 (kp_person ho) (by omega) (by omega)
theorem lc_today (hX : Kx X cL_law RL 4 10) (hS : Sx X sc L sv) (hB : 600000 ≤ (xR X).cells ∧ 7302250 ≤ (xR X).slots) (hC : CI g w) (hM : MD g w) (ho : okS g) (ht : 9 * t + 9 ≤ L) (hk : k ≤ 248 + t) (hn : n ≤ 165200 + 9 * t) (kk : LKw X sc t) : A X k n 189 (LSw X sc t) [] w := by
  have hL := hS.2.2.2
  refine a_aload_n hX dL_law_189 rfl ?_
  refine a_aload_n hX dL_law_190 rfl ?_
  refine a_iload_n hX dL_law_191 rfl ?_
  refine a_iconst (nI 1) hX dL_law_192 (by decide) ?_
  refine a_iadd hX dL_law_193 ?_
  refine a_sld (9 * t + 1) hX hS (nI_ad _ _) (by omega) dL_law_194 ?_
  refine a_callV [_] hX c_X7_today mi_X7_today mv_X7_today se_X7_today (klt rfl (by decide)) (adr_lt (kd_lt rfl (by decide))) (cell_7 rfl) rfl li_L_18 (by decide) rfl rfl (Nat.le_of_ble_eq_true rfl) (fun _ => ⟨by omega, by omega⟩) dL_law_195 ⟨g, _, rfl, hC, ho, ?_⟩
  intro w1 hC1 hm1
  refine a_aload_n hX dL_law_198 rfl ?_
  refine a_aload_n hX dL_law_199 rfl ?_
  refine a_iload_n hX dL_law_200 rfl ?_
  refine a_iconst (nI 1) hX dL_law_201 (by decide) ?_
  refine a_iadd hX dL_law_202 ?_
  refine a_sld (9 * t + 1) hX hS (nI_ad _ _) (by omega) dL_law_203 ?_
  refine a_callV [_] hX c_X8_today mi_X8_today mv_X8_today se_X8_today (klt rfl (by decide)) (adr_lt (kd_lt rfl (by decide))) (cell_8 rfl) rfl li_L_22 (by decide) rfl rfl (Nat.le_of_ble_eq_true rfl) (fun _ => ⟨by omega, by omega⟩) dL_law_204 ⟨g, _, rfl, hM.frM hm1, ho, ?_⟩
  intro w2 hM2 hf2
  refine a_icmp_eq 1648 hX dL_law_207 (by decide) (fun _ => ?_) (fun z => absurd rfl z)
  exact kk _ w2 _ _ (hC1.frC hf2) hM2 (kp_today ho) (by omega) (by omega)
theorem lc_as (hX : Kx X cL_law RL 4 10) (hS : Sx X sc L sv) (hB : 600000 ≤ (xR X).cells ∧ 7302250 ≤ (xR X).slots) (hC : CI g w) (hM : MD g w) (ho : okS g) (ht : 9 * t + 9 ≤ L) (hk : k ≤ 248 + t) (hn : n ≤ 165200 + 9 * t) (kk : LKw X sc t) : A X k n 212 (LSw X sc t) [] w := by
  have hL := hS.2.2.2
  refine a_aload_n hX dL_law_212 rfl ?_
  refine a_aload_n hX dL_law_213 rfl ?_
  refine a_iload_n hX dL_law_214 rfl ?_
  refine a_iconst (nI 1) hX dL_law_215 (by decide) ?_
  refine a_iadd hX dL_law_216 ?_
  refine a_sld (9 * t + 1) hX hS (nI_ad _ _) (by omega) dL_law_217 ?_
  refine a_callV [_] hX c_X7_as mi_X7_as mv_X7_as se_X7_as (klt rfl (by decide)) (adr_lt (kd_lt rfl (by decide))) (cell_7 rfl) rfl li_L_23 (by decide) rfl rfl (Nat.le_of_ble_eq_true rfl) (fun _ => ⟨by omega, by omega⟩) dL_law_218 ⟨g, _, rfl, hC, ho, ?_⟩
  intro w1 hC1 hm1
  refine a_aload_n hX dL_law_221 rfl ?_
  refine a_aload_n hX dL_law_222 rfl ?_
  refine a_iload_n hX dL_law_223 rfl ?_
  refine a_iconst (nI 1) hX dL_law_224 (by decide) ?_
  refine a_iadd hX dL_law_225 ?_
  refine a_sld (9 * t + 1) hX hS (nI_ad _ _) (by omega) dL_law_226 ?_
  refine a_callV [_] hX c_X8_as mi_X8_as mv_X8_as se_X8_as (klt rfl (by decide)) (adr_lt (kd_lt rfl (by decide))) (cell_8 rfl) rfl li_L_27 (by decide) rfl rfl (Nat.le_of_ble_eq_true rfl) (fun _ => ⟨by omega, by omega⟩) dL_law_227 ⟨g, _, rfl, hM.frM hm1, ho, ?_⟩
  intro w2 hM2 hf2
  refine a_icmp_eq 1648 hX dL_law_230 (by decide) (fun _ => ?_) (fun z => absurd rfl z)
  exact kk _ w2 _ _ (hC1.frC hf2) hM2 (kp_as ho) (by omega) (by omega)
theorem lc_letter (hX : Kx X cL_law RL 4 10) (hS : Sx X sc L sv) (hB : 600000 ≤ (xR X).cells ∧ 7302250 ≤ (xR X).slots) (hC : CI g w) (hM : MD g w) (ho : okS g) (ht : 9 * t + 9 ≤ L) (hk : k ≤ 248 + t) (hn : n ≤ 165200 + 9 * t) (kk : LKw X sc t) : A X k n 235 (LSw X sc t) [] w := by
  have hL := hS.2.2.2
  refine a_aload_n hX dL_law_235 rfl ?_
  refine a_aload_n hX dL_law_236 rfl ?_
  refine a_iload_n hX dL_law_237 rfl ?_
  refine a_iconst (nI 1) hX dL_law_238 (by decide) ?_
  refine a_iadd hX dL_law_239 ?_
  refine a_sld (9 * t + 1) hX hS (nI_ad _ _) (by omega) dL_law_240 ?_
  refine a_aload_n hX dL_law_241 rfl ?_
  refine a_iload_n hX dL_law_242 rfl ?_
  refine a_iconst (nI 2) hX dL_law_243 (by decide) ?_
  refine a_iadd hX dL_law_244 ?_
  refine a_sld (9 * t + 2) hX hS (nI_ad _ _) (by omega) dL_law_245 ?_
  refine a_callV [_, _] hX c_X7_letter mi_X7_letter mv_X7_letter se_X7_letter (klt rfl (by decide)) (adr_lt (kd_lt rfl (by decide))) (cell_7 rfl) rfl li_L_28 (by decide) rfl rfl (Nat.le_of_ble_eq_true rfl) (fun _ => ⟨by omega, by omega⟩) dL_law_246 ⟨g, _, _, rfl, hC, ho, ?_⟩
  intro w1 hC1 hm1
  refine a_aload_n hX dL_law_249 rfl ?_
  refine a_aload_n hX dL_law_250 rfl ?_
  refine a_iload_n hX dL_law_251 rfl ?_
  refine a_iconst (nI 1) hX dL_law_252 (by decide) ?_
  refine a_iadd hX dL_law_253 ?_
  refine a_sld (9 * t + 1) hX hS (nI_ad _ _) (by omega) dL_law_254 ?_
  refine a_aload_n hX dL_law_255 rfl ?_
  refine a_iload_n hX dL_law_256 rfl ?_
  refine a_iconst (nI 2) hX dL_law_257 (by decide) ?_
  refine a_iadd hX dL_law_258 ?_
  refine a_sld (9 * t + 2) hX hS (nI_ad _ _) (by omega) dL_law_259 ?_
  refine a_callV [_, _] hX c_X8_letter mi_X8_letter mv_X8_letter se_X8_letter (klt rfl (by decide)) (adr_lt (kd_lt rfl (by decide))) (cell_8 rfl) rfl li_L_32 (by decide) rfl rfl (Nat.le_of_ble_eq_true rfl) (fun _ => ⟨by omega, by omega⟩) dL_law_260 ⟨g, _, _, rfl, hM.frM hm1, ho, ?_⟩
  intro w2 hM2 hf2
  refine a_icmp_eq 1648 hX dL_law_263 (by decide) (fun _ => ?_) (fun z => absurd rfl z)
  exact kk _ w2 _ _ (hC1.frC hf2) hM2 (kp_letter ho) (by omega) (by omega)
theorem lc_term (hX : Kx X cL_law RL 4 10) (hS : Sx X sc L sv) (hB : 600000 ≤ (xR X).cells ∧ 7302250 ≤ (xR X).slots) (hC : CI g w) (hM : MD g w) (ho : okS g) (ht : 9 * t + 9 ≤ L) (hk : k ≤ 248 + t) (hn : n ≤ 165200 + 9 * t) (kk : LKw X sc t) : A X k n 268 (LSw X sc t) [] w := by
  have hL := hS.2.2.2
  refine a_aload_n hX dL_law_268 rfl ?_
  refine a_aload_n hX dL_law_269 rfl ?_
  refine a_iload_n hX dL_law_270 rfl ?_
  refine a_iconst (nI 1) hX dL_law_271 (by decide) ?_
  refine a_iadd hX dL_law_272 ?_
  refine a_sld (9 * t + 1) hX hS (nI_ad _ _) (by omega) dL_law_273 ?_
  refine a_aload_n hX dL_law_274 rfl ?_
  refine a_iload_n hX dL_law_275 rfl ?_
  refine a_iconst (nI 2) hX dL_law_276 (by decide) ?_
  refine a_iadd hX dL_law_277 ?_
  refine a_sld (9 * t + 2) hX hS (nI_ad _ _) (by omega) dL_law_278 ?_
  refine a_aload_n hX dL_law_279 rfl ?_
  refine a_iload_n hX dL_law_280 rfl ?_
  refine a_iconst (nI 3) hX dL_law_281 (by decide) ?_
  refine a_iadd hX dL_law_282 ?_
  refine a_sld (9 * t + 3) hX hS (nI_ad _ _) (by omega) dL_law_283 ?_
  refine a_aload_n hX dL_law_284 rfl ?_
  refine a_iload_n hX dL_law_285 rfl ?_
  refine a_iconst (nI 4) hX dL_law_286 (by decide) ?_
  refine a_iadd hX dL_law_287 ?_
  refine a_sld (9 * t + 4) hX hS (nI_ad _ _) (by omega) dL_law_288 ?_
  refine a_callV [_, _, _, _] hX c_X7_term mi_X7_term mv_X7_term se_X7_term (klt rfl (by decide)) (adr_lt (kd_lt rfl (by decide))) (cell_7 rfl) rfl li_L_33 (by decide) rfl rfl (Nat.le_of_ble_eq_true rfl) (fun _ => ⟨by omega, by omega⟩) dL_law_289 ⟨g, _, _, _, _, rfl, hC, ho, ?_⟩
  intro w1 hC1 hm1
  refine a_aload_n hX dL_law_292 rfl ?_
  refine a_aload_n hX dL_law_293 rfl ?_
  refine a_iload_n hX dL_law_294 rfl ?_
  refine a_iconst (nI 1) hX dL_law_295 (by decide) ?_
  refine a_iadd hX dL_law_296 ?_
  refine a_sld (9 * t + 1) hX hS (nI_ad _ _) (by omega) dL_law_297 ?_
  refine a_aload_n hX dL_law_298 rfl ?_
  refine a_iload_n hX dL_law_299 rfl ?_
  refine a_iconst (nI 2) hX dL_law_300 (by decide) ?_
  refine a_iadd hX dL_law_301 ?_
  refine a_sld (9 * t + 2) hX hS (nI_ad _ _) (by omega) dL_law_302 ?_
  refine a_aload_n hX dL_law_303 rfl ?_
  refine a_iload_n hX dL_law_304 rfl ?_
  refine a_iconst (nI 3) hX dL_law_305 (by decide) ?_
  refine a_iadd hX dL_law_306 ?_
  refine a_sld (9 * t + 3) hX hS (nI_ad _ _) (by omega) dL_law_307 ?_
  refine a_aload_n hX dL_law_308 rfl ?_
  refine a_iload_n hX dL_law_309 rfl ?_
  refine a_iconst (nI 4) hX dL_law_310 (by decide) ?_
  refine a_iadd hX dL_law_311 ?_
  refine a_sld (9 * t + 4) hX hS (nI_ad _ _) (by omega) dL_law_312 ?_
  refine a_callV [_, _, _, _] hX c_X8_term mi_X8_term mv_X8_term se_X8_term (klt rfl (by decide)) (adr_lt (kd_lt rfl (by decide))) (cell_8 rfl) rfl li_L_37 (by decide) rfl rfl (Nat.le_of_ble_eq_true rfl) (fun _ => ⟨by omega, by omega⟩) dL_law_313 ⟨g, _, _, _, _, rfl, hM.frM hm1, ho, ?_⟩
  intro w2 hM2 hf2
  refine a_icmp_eq 1648 hX dL_law_316 (by decide) (fun _ => ?_) (fun z => absurd rfl z)
  exact kk _ w2 _ _ (hC1.frC hf2) hM2 (kp_term ho) (by omega) (by omega)
theorem lc_waits (hX : Kx X cL_law RL 4 10) (hS : Sx X sc L sv) (hB : 600000 ≤ (xR X).cells ∧ 7302250 ≤ (xR X).slots) (hC : CI g w) (hM : MD g w) (ho : okS g) (ht : 9 * t + 9 ≤ L) (hk : k ≤ 248 + t) (hn : n ≤ 165200 + 9 * t) (kk : LKw X sc t) : A X k n 321 (LSw X sc t) [] w := by
  have hL := hS.2.2.2
  refine a_aload_n hX dL_law_321 rfl ?_
  refine a_aload_n hX dL_law_322 rfl ?_
  refine a_iload_n hX dL_law_323 rfl ?_
  refine a_iconst (nI 1) hX dL_law_324 (by decide) ?_
  refine a_iadd hX dL_law_325 ?_
  refine a_sld (9 * t + 1) hX hS (nI_ad _ _) (by omega) dL_law_326 ?_
  refine a_aload_n hX dL_law_327 rfl ?_
  refine a_iload_n hX dL_law_328 rfl ?_
  refine a_iconst (nI 2) hX dL_law_329 (by decide) ?_
  refine a_iadd hX dL_law_330 ?_
  refine a_sld (9 * t + 2) hX hS (nI_ad _ _) (by omega) dL_law_331 ?_
  refine a_aload_n hX dL_law_332 rfl ?_
  refine a_iload_n hX dL_law_333 rfl ?_
  refine a_iconst (nI 3) hX dL_law_334 (by decide) ?_
  refine a_iadd hX dL_law_335 ?_
  refine a_sld (9 * t + 3) hX hS (nI_ad _ _) (by omega) dL_law_336 ?_
  refine a_aload_n hX dL_law_337 rfl ?_
  refine a_iload_n hX dL_law_338 rfl ?_
  refine a_iconst (nI 4) hX dL_law_339 (by decide) ?_
  refine a_iadd hX dL_law_340 ?_
  refine a_sld (9 * t + 4) hX hS (nI_ad _ _) (by omega) dL_law_341 ?_
  refine a_aload_n hX dL_law_342 rfl ?_
  refine a_iload_n hX dL_law_343 rfl ?_
  refine a_iconst (nI 5) hX dL_law_344 (by decide) ?_
  refine a_iadd hX dL_law_345 ?_
  refine a_sld (9 * t + 5) hX hS (nI_ad _ _) (by omega) dL_law_346 ?_
  refine a_aload_n hX dL_law_347 rfl ?_
  refine a_iload_n hX dL_law_348 rfl ?_
  refine a_bipush (nI 6) hX dL_law_349 (by decide) ?_
  refine a_iadd hX dL_law_351 ?_
  refine a_sld (9 * t + 6) hX hS (nI_ad _ _) (by omega) dL_law_352 ?_
  refine a_callV [_, _, _, _, _, _] hX c_X7_waits mi_X7_waits mv_X7_waits se_X7_waits (klt rfl (by decide)) (adr_lt (kd_lt rfl (by decide))) (cell_7 rfl) rfl li_L_38 (by decide) rfl rfl (Nat.le_of_ble_eq_true rfl) (fun _ => ⟨by omega, by omega⟩) dL_law_353 ⟨g, _, _, _, _, _, _, rfl, hC, ho, ?_⟩
  intro w1 hC1 hm1
  refine a_aload_n hX dL_law_356 rfl ?_
  refine a_aload_n hX dL_law_357 rfl ?_
  refine a_iload_n hX dL_law_358 rfl ?_
  refine a_iconst (nI 1) hX dL_law_359 (by decide) ?_
  refine a_iadd hX dL_law_360 ?_
  refine a_sld (9 * t + 1) hX hS (nI_ad _ _) (by omega) dL_law_361 ?_
  refine a_aload_n hX dL_law_362 rfl ?_
  refine a_iload_n hX dL_law_363 rfl ?_
  refine a_iconst (nI 2) hX dL_law_364 (by decide) ?_
  refine a_iadd hX dL_law_365 ?_
  refine a_sld (9 * t + 2) hX hS (nI_ad _ _) (by omega) dL_law_366 ?_
  refine a_aload_n hX dL_law_367 rfl ?_
  refine a_iload_n hX dL_law_368 rfl ?_
  refine a_iconst (nI 3) hX dL_law_369 (by decide) ?_
  refine a_iadd hX dL_law_370 ?_
  refine a_sld (9 * t + 3) hX hS (nI_ad _ _) (by omega) dL_law_371 ?_
  refine a_aload_n hX dL_law_372 rfl ?_
  refine a_iload_n hX dL_law_373 rfl ?_
  refine a_iconst (nI 4) hX dL_law_374 (by decide) ?_
  refine a_iadd hX dL_law_375 ?_
  refine a_sld (9 * t + 4) hX hS (nI_ad _ _) (by omega) dL_law_376 ?_
  refine a_aload_n hX dL_law_377 rfl ?_
  refine a_iload_n hX dL_law_378 rfl ?_
  refine a_iconst (nI 5) hX dL_law_379 (by decide) ?_
  refine a_iadd hX dL_law_380 ?_
  refine a_sld (9 * t + 5) hX hS (nI_ad _ _) (by omega) dL_law_381 ?_
  refine a_aload_n hX dL_law_382 rfl ?_
  refine a_iload_n hX dL_law_383 rfl ?_
  refine a_bipush (nI 6) hX dL_law_384 (by decide) ?_
  refine a_iadd hX dL_law_386 ?_
  refine a_sld (9 * t + 6) hX hS (nI_ad _ _) (by omega) dL_law_387 ?_
  refine a_callV [_, _, _, _, _, _] hX c_X8_waits mi_X8_waits mv_X8_waits se_X8_waits (klt rfl (by decide)) (adr_lt (kd_lt rfl (by decide))) (cell_8 rfl) rfl li_L_42 (by decide) rfl rfl (Nat.le_of_ble_eq_true rfl) (fun _ => ⟨by omega, by omega⟩) dL_law_388 ⟨g, _, _, _, _, _, _, rfl, hM.frM hm1, ho, ?_⟩
  intro w2 hM2 hf2
  refine a_icmp_eq 1648 hX dL_law_391 (by decide) (fun _ => ?_) (fun z => absurd rfl z)
  exact kk _ w2 _ _ (hC1.frC hf2) hM2 (kp_waits ho) (by omega) (by omega)
theorem lc_stay (hX : Kx X cL_law RL 4 10) (hS : Sx X sc L sv) (hB : 600000 ≤ (xR X).cells ∧ 7302250 ≤ (xR X).slots) (hC : CI g w) (hM : MD g w) (ho : okS g) (ht : 9 * t + 9 ≤ L) (hk : k ≤ 248 + t) (hn : n ≤ 165200 + 9 * t) (kk : LKw X sc t) : A X k n 396 (LSw X sc t) [] w := by
  have hL := hS.2.2.2
  refine a_aload_n hX dL_law_396 rfl ?_
  refine a_aload_n hX dL_law_397 rfl ?_
  refine a_iload_n hX dL_law_398 rfl ?_
  refine a_iconst (nI 1) hX dL_law_399 (by decide) ?_
  refine a_iadd hX dL_law_400 ?_
  refine a_sld (9 * t + 1) hX hS (nI_ad _ _) (by omega) dL_law_401 ?_
  refine a_aload_n hX dL_law_402 rfl ?_
  refine a_iload_n hX dL_law_403 rfl ?_
  refine a_iconst (nI 2) hX dL_law_404 (by decide) ?_
  refine a_iadd hX dL_law_405 ?_
  refine a_sld (9 * t + 2) hX hS (nI_ad _ _) (by omega) dL_law_406 ?_
  refine a_aload_n hX dL_law_407 rfl ?_
  refine a_iload_n hX dL_law_408 rfl ?_
  refine a_iconst (nI 3) hX dL_law_409 (by decide) ?_
  refine a_iadd hX dL_law_410 ?_
  refine a_sld (9 * t + 3) hX hS (nI_ad _ _) (by omega) dL_law_411 ?_
  refine a_aload_n hX dL_law_412 rfl ?_
  refine a_iload_n hX dL_law_413 rfl ?_
  refine a_iconst (nI 4) hX dL_law_414 (by decide) ?_
  refine a_iadd hX dL_law_415 ?_
  refine a_sld (9 * t + 4) hX hS (nI_ad _ _) (by omega) dL_law_416 ?_
  refine a_aload_n hX dL_law_417 rfl ?_
  refine a_iload_n hX dL_law_418 rfl ?_
  refine a_iconst (nI 5) hX dL_law_419 (by decide) ?_
  refine a_iadd hX dL_law_420 ?_
  refine a_sld (9 * t + 5) hX hS (nI_ad _ _) (by omega) dL_law_421 ?_
  refine a_aload_n hX dL_law_422 rfl ?_
  refine a_iload_n hX dL_law_423 rfl ?_
  refine a_bipush (nI 6) hX dL_law_424 (by decide) ?_
  refine a_iadd hX dL_law_426 ?_
  refine a_sld (9 * t + 6) hX hS (nI_ad _ _) (by omega) dL_law_427 ?_
  refine a_callV [_, _, _, _, _, _] hX c_X7_stay mi_X7_stay mv_X7_stay se_X7_stay (klt rfl (by decide)) (adr_lt (kd_lt rfl (by decide))) (cell_7 rfl) rfl li_L_43 (by decide) rfl rfl (Nat.le_of_ble_eq_true rfl) (fun _ => ⟨by omega, by omega⟩) dL_law_428 ⟨g, _, _, _, _, _, _, rfl, hC, ho, ?_⟩
  intro w1 hC1 hm1
  refine a_aload_n hX dL_law_431 rfl ?_
  refine a_aload_n hX dL_law_432 rfl ?_
  refine a_iload_n hX dL_law_433 rfl ?_
  refine a_iconst (nI 1) hX dL_law_434 (by decide) ?_
  refine a_iadd hX dL_law_435 ?_
  refine a_sld (9 * t + 1) hX hS (nI_ad _ _) (by omega) dL_law_436 ?_
  refine a_aload_n hX dL_law_437 rfl ?_
  refine a_iload_n hX dL_law_438 rfl ?_
  refine a_iconst (nI 2) hX dL_law_439 (by decide) ?_
  refine a_iadd hX dL_law_440 ?_
  refine a_sld (9 * t + 2) hX hS (nI_ad _ _) (by omega) dL_law_441 ?_
  refine a_aload_n hX dL_law_442 rfl ?_
  refine a_iload_n hX dL_law_443 rfl ?_
  refine a_iconst (nI 3) hX dL_law_444 (by decide) ?_
  refine a_iadd hX dL_law_445 ?_
  refine a_sld (9 * t + 3) hX hS (nI_ad _ _) (by omega) dL_law_446 ?_
  refine a_aload_n hX dL_law_447 rfl ?_
  refine a_iload_n hX dL_law_448 rfl ?_
  refine a_iconst (nI 4) hX dL_law_449 (by decide) ?_
  refine a_iadd hX dL_law_450 ?_
  refine a_sld (9 * t + 4) hX hS (nI_ad _ _) (by omega) dL_law_451 ?_
  refine a_aload_n hX dL_law_452 rfl ?_
  refine a_iload_n hX dL_law_453 rfl ?_
  refine a_iconst (nI 5) hX dL_law_454 (by decide) ?_
  refine a_iadd hX dL_law_455 ?_
  refine a_sld (9 * t + 5) hX hS (nI_ad _ _) (by omega) dL_law_456 ?_
  refine a_aload_n hX dL_law_457 rfl ?_
  refine a_iload_n hX dL_law_458 rfl ?_
  refine a_bipush (nI 6) hX dL_law_459 (by decide) ?_
  refine a_iadd hX dL_law_461 ?_
  refine a_sld (9 * t + 6) hX hS (nI_ad _ _) (by omega) dL_law_462 ?_
  refine a_callV [_, _, _, _, _, _] hX c_X8_stay mi_X8_stay mv_X8_stay se_X8_stay (klt rfl (by decide)) (adr_lt (kd_lt rfl (by decide))) (cell_8 rfl) rfl li_L_46 (by decide) rfl rfl (Nat.le_of_ble_eq_true rfl) (fun _ => ⟨by omega, by omega⟩) dL_law_463 ⟨g, _, _, _, _, _, _, rfl, hM.frM hm1, ho, ?_⟩
  intro w2 hM2 hf2
  refine a_icmp_eq 1648 hX dL_law_466 (by decide) (fun _ => ?_) (fun z => absurd rfl z)
  exact kk _ w2 _ _ (hC1.frC hf2) hM2 (kp_stay ho) (by omega) (by omega)
theorem lc_quash (hX : Kx X cL_law RL 4 10) (hS : Sx X sc L sv) (hB : 600000 ≤ (xR X).cells ∧ 7302250 ≤ (xR X).slots) (hC : CI g w) (hM : MD g w) (ho : okS g) (ht : 9 * t + 9 ≤ L) (hk : k ≤ 248 + t) (hn : n ≤ 165200 + 9 * t) (kk : LKw X sc t) : A X k n 471 (LSw X sc t) [] w := by
  have hL := hS.2.2.2
  refine a_aload_n hX dL_law_471 rfl ?_
  refine a_aload_n hX dL_law_472 rfl ?_
  refine a_iload_n hX dL_law_473 rfl ?_
  refine a_iconst (nI 1) hX dL_law_474 (by decide) ?_
  refine a_iadd hX dL_law_475 ?_
  refine a_sld (9 * t + 1) hX hS (nI_ad _ _) (by omega) dL_law_476 ?_
  refine a_aload_n hX dL_law_477 rfl ?_
  refine a_iload_n hX dL_law_478 rfl ?_
  refine a_iconst (nI 2) hX dL_law_479 (by decide) ?_
  refine a_iadd hX dL_law_480 ?_
  refine a_sld (9 * t + 2) hX hS (nI_ad _ _) (by omega) dL_law_481 ?_
  refine a_aload_n hX dL_law_482 rfl ?_
  refine a_iload_n hX dL_law_483 rfl ?_
  refine a_iconst (nI 3) hX dL_law_484 (by decide) ?_
  refine a_iadd hX dL_law_485 ?_
  refine a_sld (9 * t + 3) hX hS (nI_ad _ _) (by omega) dL_law_486 ?_
  refine a_callV [_, _, _] hX c_X7_quash mi_X7_quash mv_X7_quash se_X7_quash (klt rfl (by decide)) (adr_lt (kd_lt rfl (by decide))) (cell_7 rfl) rfl li_L_47 (by decide) rfl rfl (Nat.le_of_ble_eq_true rfl) (fun _ => ⟨by omega, by omega⟩) dL_law_487 ⟨g, _, _, _, rfl, hC, ho, ?_⟩
  intro w1 hC1 hm1
  refine a_aload_n hX dL_law_490 rfl ?_
  refine a_aload_n hX dL_law_491 rfl ?_
  refine a_iload_n hX dL_law_492 rfl ?_
  refine a_iconst (nI 1) hX dL_law_493 (by decide) ?_
  refine a_iadd hX dL_law_494 ?_
  refine a_sld (9 * t + 1) hX hS (nI_ad _ _) (by omega) dL_law_495 ?_
  refine a_aload_n hX dL_law_496 rfl ?_
  refine a_iload_n hX dL_law_497 rfl ?_
  refine a_iconst (nI 2) hX dL_law_498 (by decide) ?_
  refine a_iadd hX dL_law_499 ?_
  refine a_sld (9 * t + 2) hX hS (nI_ad _ _) (by omega) dL_law_500 ?_
  refine a_aload_n hX dL_law_501 rfl ?_
  refine a_iload_n hX dL_law_502 rfl ?_
  refine a_iconst (nI 3) hX dL_law_503 (by decide) ?_
  refine a_iadd hX dL_law_504 ?_
  refine a_sld (9 * t + 3) hX hS (nI_ad _ _) (by omega) dL_law_505 ?_
  refine a_callV [_, _, _] hX c_X8_quash mi_X8_quash mv_X8_quash se_X8_quash (klt rfl (by decide)) (adr_lt (kd_lt rfl (by decide))) (cell_8 rfl) rfl li_L_51 (by decide) rfl rfl (Nat.le_of_ble_eq_true rfl) (fun _ => ⟨by omega, by omega⟩) dL_law_506 ⟨g, _, _, _, rfl, hM.frM hm1, ho, ?_⟩
  intro w2 hM2 hf2
  refine a_icmp_eq 1648 hX dL_law_509 (by decide) (fun _ => ?_) (fun z => absurd rfl z)
  exact kk _ w2 _ _ (hC1.frC hf2) hM2 (kp_quash ho) (by omega) (by omega)
theorem lc_month (hX : Kx X cL_law RL 4 10) (hS : Sx X sc L sv) (hB : 600000 ≤ (xR X).cells ∧ 7302250 ≤ (xR X).slots) (hC : CI g w) (hM : MD g w) (ho : okS g) (ht : 9 * t + 9 ≤ L) (hk : k ≤ 248 + t) (hn : n ≤ 165200 + 9 * t) (kk : LKw X sc t) : A X k n 514 (LSw X sc t) [] w := by
  have hL := hS.2.2.2
  refine a_aload_n hX dL_law_514 rfl ?_
  refine a_aload_n hX dL_law_515 rfl ?_
  refine a_iload_n hX dL_law_516 rfl ?_
  refine a_iconst (nI 1) hX dL_law_517 (by decide) ?_
  refine a_iadd hX dL_law_518 ?_
  refine a_sld (9 * t + 1) hX hS (nI_ad _ _) (by omega) dL_law_519 ?_
  refine a_aload_n hX dL_law_520 rfl ?_
  refine a_iload_n hX dL_law_521 rfl ?_
  refine a_iconst (nI 2) hX dL_law_522 (by decide) ?_
  refine a_iadd hX dL_law_523 ?_
  refine a_sld (9 * t + 2) hX hS (nI_ad _ _) (by omega) dL_law_524 ?_
  refine a_aload_n hX dL_law_525 rfl ?_
  refine a_iload_n hX dL_law_526 rfl ?_
  refine a_iconst (nI 3) hX dL_law_527 (by decide) ?_
  refine a_iadd hX dL_law_528 ?_
  refine a_sld (9 * t + 3) hX hS (nI_ad _ _) (by omega) dL_law_529 ?_
  refine a_nz 537 538 hX dL_law_530 (by decide) dL_law_533 dL_law_534 (by decide) dL_law_537 rfl ?_
  refine a_aload_n hX dL_law_538 rfl ?_
  refine a_iload_n hX dL_law_539 rfl ?_
  refine a_iconst (nI 4) hX dL_law_540 (by decide) ?_
  refine a_iadd hX dL_law_541 ?_
  refine a_sld (9 * t + 4) hX hS (nI_ad _ _) (by omega) dL_law_542 ?_
  refine a_callV [_, _, _, _] hX c_X7_month mi_X7_month mv_X7_month se_X7_month (klt rfl (by decide)) (adr_lt (kd_lt rfl (by decide))) (cell_7 rfl) rfl li_L_52 (by decide) rfl rfl (Nat.le_of_ble_eq_true rfl) (fun _ => ⟨by omega, by omega⟩) dL_law_543 ⟨g, _, _, _, _, rfl, hC, ho, ?_⟩
  intro w1 hC1 hm1
  refine a_aload_n hX dL_law_546 rfl ?_
  refine a_aload_n hX dL_law_547 rfl ?_
  refine a_iload_n hX dL_law_548 rfl ?_
  refine a_iconst (nI 1) hX dL_law_549 (by decide) ?_
  refine a_iadd hX dL_law_550 ?_
  refine a_sld (9 * t + 1) hX hS (nI_ad _ _) (by omega) dL_law_551 ?_
  refine a_aload_n hX dL_law_552 rfl ?_
  refine a_iload_n hX dL_law_553 rfl ?_
  refine a_iconst (nI 2) hX dL_law_554 (by decide) ?_
  refine a_iadd hX dL_law_555 ?_
  refine a_sld (9 * t + 2) hX hS (nI_ad _ _) (by omega) dL_law_556 ?_
  refine a_aload_n hX dL_law_557 rfl ?_
  refine a_iload_n hX dL_law_558 rfl ?_
  refine a_iconst (nI 3) hX dL_law_559 (by decide) ?_
  refine a_iadd hX dL_law_560 ?_
  refine a_sld (9 * t + 3) hX hS (nI_ad _ _) (by omega) dL_law_561 ?_
  refine a_nz 569 570 hX dL_law_562 (by decide) dL_law_565 dL_law_566 (by decide) dL_law_569 rfl ?_
  refine a_aload_n hX dL_law_570 rfl ?_
  refine a_iload_n hX dL_law_571 rfl ?_
  refine a_iconst (nI 4) hX dL_law_572 (by decide) ?_
  refine a_iadd hX dL_law_573 ?_
  refine a_sld (9 * t + 4) hX hS (nI_ad _ _) (by omega) dL_law_574 ?_
  refine a_callV [_, _, _, _] hX c_X8_month mi_X8_month mv_X8_month se_X8_month (klt rfl (by decide)) (adr_lt (kd_lt rfl (by decide))) (cell_8 rfl) rfl li_L_56 (by decide) rfl rfl (Nat.le_of_ble_eq_true rfl) (fun _ => ⟨by omega, by omega⟩) dL_law_575 ⟨g, _, _, _, _, rfl, hM.frM hm1, ho, ?_⟩
  intro w2 hM2 hf2
  refine a_icmp_eq 1648 hX dL_law_578 (by decide) (fun _ => ?_) (fun z => absurd rfl z)
  exact kk _ w2 _ _ (hC1.frC hf2) hM2 (kp_month ho) (by omega) (by omega)
theorem lc_held (hX : Kx X cL_law RL 4 10) (hS : Sx X sc L sv) (hB : 600000 ≤ (xR X).cells ∧ 7302250 ≤ (xR X).slots) (hC : CI g w) (hM : MD g w) (ho : okS g) (ht : 9 * t + 9 ≤ L) (hk : k ≤ 248 + t) (hn : n ≤ 165200 + 9 * t) (kk : LKw X sc t) : A X k n 583 (LSw X sc t) [] w := by
  have hL := hS.2.2.2
  refine a_aload_n hX dL_law_583 rfl ?_
  refine a_aload_n hX dL_law_584 rfl ?_
  refine a_iload_n hX dL_law_585 rfl ?_
  refine a_iconst (nI 1) hX dL_law_586 (by decide) ?_
  refine a_iadd hX dL_law_587 ?_
  refine a_sld (9 * t + 1) hX hS (nI_ad _ _) (by omega) dL_law_588 ?_
  refine a_aload_n hX dL_law_589 rfl ?_
  refine a_iload_n hX dL_law_590 rfl ?_
  refine a_iconst (nI 2) hX dL_law_591 (by decide) ?_
  refine a_iadd hX dL_law_592 ?_
  refine a_sld (9 * t + 2) hX hS (nI_ad _ _) (by omega) dL_law_593 ?_
  refine a_aload_n hX dL_law_594 rfl ?_
  refine a_iload_n hX dL_law_595 rfl ?_
  refine a_iconst (nI 3) hX dL_law_596 (by decide) ?_
  refine a_iadd hX dL_law_597 ?_
  refine a_sld (9 * t + 3) hX hS (nI_ad _ _) (by omega) dL_law_598 ?_
  refine a_aload_n hX dL_law_599 rfl ?_
  refine a_iload_n hX dL_law_600 rfl ?_
  refine a_iconst (nI 4) hX dL_law_601 (by decide) ?_
  refine a_iadd hX dL_law_602 ?_
  refine a_sld (9 * t + 4) hX hS (nI_ad _ _) (by omega) dL_law_603 ?_
  refine a_callV [_, _, _, _] hX c_X7_held mi_X7_held mv_X7_held se_X7_held (klt rfl (by decide)) (adr_lt (kd_lt rfl (by decide))) (cell_7 rfl) rfl li_L_57 (by decide) rfl rfl (Nat.le_of_ble_eq_true rfl) (fun _ => ⟨by omega, by omega⟩) dL_law_604 ⟨g, _, _, _, _, rfl, hC, ho, ?_⟩
  intro w1 hC1 hm1
  refine a_aload_n hX dL_law_607 rfl ?_
  refine a_aload_n hX dL_law_608 rfl ?_
  refine a_iload_n hX dL_law_609 rfl ?_
  refine a_iconst (nI 1) hX dL_law_610 (by decide) ?_
  refine a_iadd hX dL_law_611 ?_
  refine a_sld (9 * t + 1) hX hS (nI_ad _ _) (by omega) dL_law_612 ?_
  refine a_aload_n hX dL_law_613 rfl ?_
  refine a_iload_n hX dL_law_614 rfl ?_
  refine a_iconst (nI 2) hX dL_law_615 (by decide) ?_
  refine a_iadd hX dL_law_616 ?_
  refine a_sld (9 * t + 2) hX hS (nI_ad _ _) (by omega) dL_law_617 ?_
  refine a_aload_n hX dL_law_618 rfl ?_
  refine a_iload_n hX dL_law_619 rfl ?_
  refine a_iconst (nI 3) hX dL_law_620 (by decide) ?_
  refine a_iadd hX dL_law_621 ?_
  refine a_sld (9 * t + 3) hX hS (nI_ad _ _) (by omega) dL_law_622 ?_
  refine a_aload_n hX dL_law_623 rfl ?_
  refine a_iload_n hX dL_law_624 rfl ?_
  refine a_iconst (nI 4) hX dL_law_625 (by decide) ?_
  refine a_iadd hX dL_law_626 ?_
  refine a_sld (9 * t + 4) hX hS (nI_ad _ _) (by omega) dL_law_627 ?_
  refine a_callV [_, _, _, _] hX c_X8_held mi_X8_held mv_X8_held se_X8_held (klt rfl (by decide)) (adr_lt (kd_lt rfl (by decide))) (cell_8 rfl) rfl li_L_60 (by decide) rfl rfl (Nat.le_of_ble_eq_true rfl) (fun _ => ⟨by omega, by omega⟩) dL_law_628 ⟨g, _, _, _, _, rfl, hM.frM hm1, ho, ?_⟩
  intro w2 hM2 hf2
  refine a_icmp_eq 1648 hX dL_law_631 (by decide) (fun _ => ?_) (fun z => absurd rfl z)
  exact kk _ w2 _ _ (hC1.frC hf2) hM2 (kp_held ho) (by omega) (by omega)
theorem lc_tear (hX : Kx X cL_law RL 4 10) (hS : Sx X sc L sv) (hB : 600000 ≤ (xR X).cells ∧ 7302250 ≤ (xR X).slots) (hC : CI g w) (hM : MD g w) (ho : okS g) (ht : 9 * t + 9 ≤ L) (hk : k ≤ 248 + t) (hn : n ≤ 165200 + 9 * t) (kk : LKw X sc t) : A X k n 636 (LSw X sc t) [] w := by
  have hL := hS.2.2.2
  refine a_aload_n hX dL_law_636 rfl ?_
  refine a_aload_n hX dL_law_637 rfl ?_
  refine a_iload_n hX dL_law_638 rfl ?_
  refine a_iconst (nI 1) hX dL_law_639 (by decide) ?_
  refine a_iadd hX dL_law_640 ?_
  refine a_sld (9 * t + 1) hX hS (nI_ad _ _) (by omega) dL_law_641 ?_
  refine a_aload_n hX dL_law_642 rfl ?_
  refine a_iload_n hX dL_law_643 rfl ?_
  refine a_iconst (nI 2) hX dL_law_644 (by decide) ?_
  refine a_iadd hX dL_law_645 ?_
  refine a_sld (9 * t + 2) hX hS (nI_ad _ _) (by omega) dL_law_646 ?_
  refine a_callV [_, _] hX c_X7_tear mi_X7_tear mv_X7_tear se_X7_tear (klt rfl (by decide)) (adr_lt (kd_lt rfl (by decide))) (cell_7 rfl) rfl li_L_61 (by decide) rfl rfl (Nat.le_of_ble_eq_true rfl) (fun _ => ⟨by omega, by omega⟩) dL_law_647 ⟨g, _, _, rfl, hC, ho, ?_⟩
  intro w1 hC1 hm1
  refine a_aload_n hX dL_law_650 rfl ?_
  refine a_aload_n hX dL_law_651 rfl ?_
  refine a_iload_n hX dL_law_652 rfl ?_
  refine a_iconst (nI 1) hX dL_law_653 (by decide) ?_
  refine a_iadd hX dL_law_654 ?_
  refine a_sld (9 * t + 1) hX hS (nI_ad _ _) (by omega) dL_law_655 ?_
  refine a_aload_n hX dL_law_656 rfl ?_
  refine a_iload_n hX dL_law_657 rfl ?_
  refine a_iconst (nI 2) hX dL_law_658 (by decide) ?_
  refine a_iadd hX dL_law_659 ?_
  refine a_sld (9 * t + 2) hX hS (nI_ad _ _) (by omega) dL_law_660 ?_
  refine a_callV [_, _] hX c_X8_tear mi_X8_tear mv_X8_tear se_X8_tear (klt rfl (by decide)) (adr_lt (kd_lt rfl (by decide))) (cell_8 rfl) rfl li_L_64 (by decide) rfl rfl (Nat.le_of_ble_eq_true rfl) (fun _ => ⟨by omega, by omega⟩) dL_law_661 ⟨g, _, _, rfl, hM.frM hm1, ho, ?_⟩
  intro w2 hM2 hf2
  refine a_icmp_eq 1648 hX dL_law_664 (by decide) (fun _ => ?_) (fun z => absurd rfl z)
  exact kk _ w2 _ _ (hC1.frC hf2) hM2 (kp_tear ho) (by omega) (by omega)
theorem lc_copy (hX : Kx X cL_law RL 4 10) (hS : Sx X sc L sv) (hB : 600000 ≤ (xR X).cells ∧ 7302250 ≤ (xR X).slots) (hC : CI g w) (hM : MD g w) (ho : okS g) (ht : 9 * t + 9 ≤ L) (hk : k ≤ 248 + t) (hn : n ≤ 165200 + 9 * t) (kk : LKw X sc t) : A X k n 669 (LSw X sc t) [] w := by
  have hL := hS.2.2.2
  refine a_aload_n hX dL_law_669 rfl ?_
  refine a_aload_n hX dL_law_670 rfl ?_
  refine a_iload_n hX dL_law_671 rfl ?_
  refine a_iconst (nI 1) hX dL_law_672 (by decide) ?_
  refine a_iadd hX dL_law_673 ?_
  refine a_sld (9 * t + 1) hX hS (nI_ad _ _) (by omega) dL_law_674 ?_
  refine a_aload_n hX dL_law_675 rfl ?_
  refine a_iload_n hX dL_law_676 rfl ?_
  refine a_iconst (nI 2) hX dL_law_677 (by decide) ?_
  refine a_iadd hX dL_law_678 ?_
  refine a_sld (9 * t + 2) hX hS (nI_ad _ _) (by omega) dL_law_679 ?_
  refine a_aload_n hX dL_law_680 rfl ?_
  refine a_iload_n hX dL_law_681 rfl ?_
  refine a_iconst (nI 3) hX dL_law_682 (by decide) ?_
  refine a_iadd hX dL_law_683 ?_
  refine a_sld (9 * t + 3) hX hS (nI_ad _ _) (by omega) dL_law_684 ?_
  refine a_aload_n hX dL_law_685 rfl ?_
  refine a_iload_n hX dL_law_686 rfl ?_
  refine a_iconst (nI 4) hX dL_law_687 (by decide) ?_
  refine a_iadd hX dL_law_688 ?_
  refine a_sld (9 * t + 4) hX hS (nI_ad _ _) (by omega) dL_law_689 ?_
  refine a_callV [_, _, _, _] hX c_X7_copy mi_X7_copy mv_X7_copy se_X7_copy (klt rfl (by decide)) (adr_lt (kd_lt rfl (by decide))) (cell_7 rfl) rfl li_L_65 (by decide) rfl rfl (Nat.le_of_ble_eq_true rfl) (fun _ => ⟨by omega, by omega⟩) dL_law_690 ⟨g, _, _, _, _, rfl, hC, ho, ?_⟩
  intro w1 hC1 hm1
  refine a_aload_n hX dL_law_693 rfl ?_
  refine a_aload_n hX dL_law_694 rfl ?_
  refine a_iload_n hX dL_law_695 rfl ?_
  refine a_iconst (nI 1) hX dL_law_696 (by decide) ?_
  refine a_iadd hX dL_law_697 ?_
  refine a_sld (9 * t + 1) hX hS (nI_ad _ _) (by omega) dL_law_698 ?_
  refine a_aload_n hX dL_law_699 rfl ?_
  refine a_iload_n hX dL_law_700 rfl ?_
  refine a_iconst (nI 2) hX dL_law_701 (by decide) ?_
  refine a_iadd hX dL_law_702 ?_
  refine a_sld (9 * t + 2) hX hS (nI_ad _ _) (by omega) dL_law_703 ?_
  refine a_aload_n hX dL_law_704 rfl ?_
  refine a_iload_n hX dL_law_705 rfl ?_
  refine a_iconst (nI 3) hX dL_law_706 (by decide) ?_
  refine a_iadd hX dL_law_707 ?_
  refine a_sld (9 * t + 3) hX hS (nI_ad _ _) (by omega) dL_law_708 ?_
  refine a_aload_n hX dL_law_709 rfl ?_
  refine a_iload_n hX dL_law_710 rfl ?_
  refine a_iconst (nI 4) hX dL_law_711 (by decide) ?_
  refine a_iadd hX dL_law_712 ?_
  refine a_sld (9 * t + 4) hX hS (nI_ad _ _) (by omega) dL_law_713 ?_
  refine a_callV [_, _, _, _] hX c_X8_copy mi_X8_copy mv_X8_copy se_X8_copy (klt rfl (by decide)) (adr_lt (kd_lt rfl (by decide))) (cell_8 rfl) rfl li_L_68 (by decide) rfl rfl (Nat.le_of_ble_eq_true rfl) (fun _ => ⟨by omega, by omega⟩) dL_law_714 ⟨g, _, _, _, _, rfl, hM.frM hm1, ho, ?_⟩
  intro w2 hM2 hf2
  refine a_icmp_eq 1648 hX dL_law_717 (by decide) (fun _ => ?_) (fun z => absurd rfl z)
  exact kk _ w2 _ _ (hC1.frC hf2) hM2 (kp_copy ho) (by omega) (by omega)
theorem lc_off (hX : Kx X cL_law RL 4 10) (hS : Sx X sc L sv) (hB : 600000 ≤ (xR X).cells ∧ 7302250 ≤ (xR X).slots) (hC : CI g w) (hM : MD g w) (ho : okS g) (ht : 9 * t + 9 ≤ L) (hk : k ≤ 248 + t) (hn : n ≤ 165200 + 9 * t) (kk : LKw X sc t) : A X k n 722 (LSw X sc t) [] w := by
  have hL := hS.2.2.2
  refine a_aload_n hX dL_law_722 rfl ?_
  refine a_aload_n hX dL_law_723 rfl ?_
  refine a_iload_n hX dL_law_724 rfl ?_
  refine a_iconst (nI 1) hX dL_law_725 (by decide) ?_
  refine a_iadd hX dL_law_726 ?_
  refine a_sld (9 * t + 1) hX hS (nI_ad _ _) (by omega) dL_law_727 ?_
  refine a_aload_n hX dL_law_728 rfl ?_
  refine a_iload_n hX dL_law_729 rfl ?_
  refine a_iconst (nI 2) hX dL_law_730 (by decide) ?_
  refine a_iadd hX dL_law_731 ?_
  refine a_sld (9 * t + 2) hX hS (nI_ad _ _) (by omega) dL_law_732 ?_
  refine a_aload_n hX dL_law_733 rfl ?_
  refine a_iload_n hX dL_law_734 rfl ?_
  refine a_iconst (nI 3) hX dL_law_735 (by decide) ?_
  refine a_iadd hX dL_law_736 ?_
  refine a_sld (9 * t + 3) hX hS (nI_ad _ _) (by omega) dL_law_737 ?_
  refine a_aload_n hX dL_law_738 rfl ?_
  refine a_iload_n hX dL_law_739 rfl ?_
  refine a_iconst (nI 4) hX dL_law_740 (by decide) ?_
  refine a_iadd hX dL_law_741 ?_
  refine a_sld (9 * t + 4) hX hS (nI_ad _ _) (by omega) dL_law_742 ?_
  refine a_callV [_, _, _, _] hX c_X7_off mi_X7_off mv_X7_off se_X7_off (klt rfl (by decide)) (adr_lt (kd_lt rfl (by decide))) (cell_7 rfl) rfl li_L_69 (by decide) rfl rfl (Nat.le_of_ble_eq_true rfl) (fun _ => ⟨by omega, by omega⟩) dL_law_743 ⟨g, _, _, _, _, rfl, hC, ho, ?_⟩
  intro w1 hC1 hm1
  refine a_aload_n hX dL_law_746 rfl ?_
  refine a_aload_n hX dL_law_747 rfl ?_
  refine a_iload_n hX dL_law_748 rfl ?_
  refine a_iconst (nI 1) hX dL_law_749 (by decide) ?_
  refine a_iadd hX dL_law_750 ?_
  refine a_sld (9 * t + 1) hX hS (nI_ad _ _) (by omega) dL_law_751 ?_
  refine a_aload_n hX dL_law_752 rfl ?_
  refine a_iload_n hX dL_law_753 rfl ?_
  refine a_iconst (nI 2) hX dL_law_754 (by decide) ?_
  refine a_iadd hX dL_law_755 ?_
  refine a_sld (9 * t + 2) hX hS (nI_ad _ _) (by omega) dL_law_756 ?_
  refine a_aload_n hX dL_law_757 rfl ?_
  refine a_iload_n hX dL_law_758 rfl ?_
  refine a_iconst (nI 3) hX dL_law_759 (by decide) ?_
  refine a_iadd hX dL_law_760 ?_
  refine a_sld (9 * t + 3) hX hS (nI_ad _ _) (by omega) dL_law_761 ?_
  refine a_aload_n hX dL_law_762 rfl ?_
  refine a_iload_n hX dL_law_763 rfl ?_
  refine a_iconst (nI 4) hX dL_law_764 (by decide) ?_
  refine a_iadd hX dL_law_765 ?_
  refine a_sld (9 * t + 4) hX hS (nI_ad _ _) (by omega) dL_law_766 ?_
  refine a_callV [_, _, _, _] hX c_X8_off mi_X8_off mv_X8_off se_X8_off (klt rfl (by decide)) (adr_lt (kd_lt rfl (by decide))) (cell_8 rfl) rfl li_L_72 (by decide) rfl rfl (Nat.le_of_ble_eq_true rfl) (fun _ => ⟨by omega, by omega⟩) dL_law_767 ⟨g, _, _, _, _, rfl, hM.frM hm1, ho, ?_⟩
  intro w2 hM2 hf2
  refine a_icmp_eq 1648 hX dL_law_770 (by decide) (fun _ => ?_) (fun z => absurd rfl z)
  exact kk _ w2 _ _ (hC1.frC hf2) hM2 (kp_off ho) (by omega) (by omega)
theorem lc_back (hX : Kx X cL_law RL 4 10) (hS : Sx X sc L sv) (hB : 600000 ≤ (xR X).cells ∧ 7302250 ≤ (xR X).slots) (hC : CI g w) (hM : MD g w) (ho : okS g) (ht : 9 * t + 9 ≤ L) (hk : k ≤ 248 + t) (hn : n ≤ 165200 + 9 * t) (kk : LKw X sc t) : A X k n 775 (LSw X sc t) [] w := by
  have hL := hS.2.2.2
  refine a_aload_n hX dL_law_775 rfl ?_
  refine a_aload_n hX dL_law_776 rfl ?_
  refine a_iload_n hX dL_law_777 rfl ?_
  refine a_iconst (nI 1) hX dL_law_778 (by decide) ?_
  refine a_iadd hX dL_law_779 ?_
  refine a_sld (9 * t + 1) hX hS (nI_ad _ _) (by omega) dL_law_780 ?_
  refine a_aload_n hX dL_law_781 rfl ?_
  refine a_iload_n hX dL_law_782 rfl ?_
  refine a_iconst (nI 2) hX dL_law_783 (by decide) ?_
  refine a_iadd hX dL_law_784 ?_
  refine a_sld (9 * t + 2) hX hS (nI_ad _ _) (by omega) dL_law_785 ?_
  refine a_aload_n hX dL_law_786 rfl ?_
  refine a_iload_n hX dL_law_787 rfl ?_
  refine a_iconst (nI 3) hX dL_law_788 (by decide) ?_
  refine a_iadd hX dL_law_789 ?_
  refine a_sld (9 * t + 3) hX hS (nI_ad _ _) (by omega) dL_law_790 ?_
  refine a_callV [_, _, _] hX c_X7_back mi_X7_back mv_X7_back se_X7_back (klt rfl (by decide)) (adr_lt (kd_lt rfl (by decide))) (cell_7 rfl) rfl li_L_73 (by decide) rfl rfl (Nat.le_of_ble_eq_true rfl) (fun _ => ⟨by omega, by omega⟩) dL_law_791 ⟨g, _, _, _, rfl, hC, ho, ?_⟩
  intro w1 hC1 hm1
  refine a_aload_n hX dL_law_794 rfl ?_
  refine a_aload_n hX dL_law_795 rfl ?_
  refine a_iload_n hX dL_law_796 rfl ?_
  refine a_iconst (nI 1) hX dL_law_797 (by decide) ?_
  refine a_iadd hX dL_law_798 ?_
  refine a_sld (9 * t + 1) hX hS (nI_ad _ _) (by omega) dL_law_799 ?_
  refine a_aload_n hX dL_law_800 rfl ?_
  refine a_iload_n hX dL_law_801 rfl ?_
  refine a_iconst (nI 2) hX dL_law_802 (by decide) ?_
  refine a_iadd hX dL_law_803 ?_
  refine a_sld (9 * t + 2) hX hS (nI_ad _ _) (by omega) dL_law_804 ?_
  refine a_aload_n hX dL_law_805 rfl ?_
  refine a_iload_n hX dL_law_806 rfl ?_
  refine a_iconst (nI 3) hX dL_law_807 (by decide) ?_
  refine a_iadd hX dL_law_808 ?_
  refine a_sld (9 * t + 3) hX hS (nI_ad _ _) (by omega) dL_law_809 ?_
  refine a_callV [_, _, _] hX c_X8_back mi_X8_back mv_X8_back se_X8_back (klt rfl (by decide)) (adr_lt (kd_lt rfl (by decide))) (cell_8 rfl) rfl li_L_76 (by decide) rfl rfl (Nat.le_of_ble_eq_true rfl) (fun _ => ⟨by omega, by omega⟩) dL_law_810 ⟨g, _, _, _, rfl, hM.frM hm1, ho, ?_⟩
  intro w2 hM2 hf2
  refine a_icmp_eq 1648 hX dL_law_813 (by decide) (fun _ => ?_) (fun z => absurd rfl z)
  exact kk _ w2 _ _ (hC1.frC hf2) hM2 (kp_back ho) (by omega) (by omega)
theorem lc_grant (hX : Kx X cL_law RL 4 10) (hS : Sx X sc L sv) (hB : 600000 ≤ (xR X).cells ∧ 7302250 ≤ (xR X).slots) (hC : CI g w) (hM : MD g w) (ho : okS g) (ht : 9 * t + 9 ≤ L) (hk : k ≤ 248 + t) (hn : n ≤ 165200 + 9 * t) (kk : LKw X sc t) : A X k n 818 (LSw X sc t) [] w := by
  have hL := hS.2.2.2
  refine a_aload_n hX dL_law_818 rfl ?_
  refine a_aload_n hX dL_law_819 rfl ?_
  refine a_iload_n hX dL_law_820 rfl ?_
  refine a_iconst (nI 1) hX dL_law_821 (by decide) ?_
  refine a_iadd hX dL_law_822 ?_
  refine a_sld (9 * t + 1) hX hS (nI_ad _ _) (by omega) dL_law_823 ?_
  refine a_aload_n hX dL_law_824 rfl ?_
  refine a_iload_n hX dL_law_825 rfl ?_
  refine a_iconst (nI 2) hX dL_law_826 (by decide) ?_
  refine a_iadd hX dL_law_827 ?_
  refine a_sld (9 * t + 2) hX hS (nI_ad _ _) (by omega) dL_law_828 ?_
  refine a_callV [_, _] hX c_X7_grant mi_X7_grant mv_X7_grant se_X7_grant (klt rfl (by decide)) (adr_lt (kd_lt rfl (by decide))) (cell_7 rfl) rfl li_L_77 (by decide) rfl rfl (Nat.le_of_ble_eq_true rfl) (fun _ => ⟨by omega, by omega⟩) dL_law_829 ⟨g, _, _, rfl, hC, ho, ?_⟩
  intro w1 hC1 hm1
  refine a_aload_n hX dL_law_832 rfl ?_
  refine a_aload_n hX dL_law_833 rfl ?_
  refine a_iload_n hX dL_law_834 rfl ?_
  refine a_iconst (nI 1) hX dL_law_835 (by decide) ?_
  refine a_iadd hX dL_law_836 ?_
  refine a_sld (9 * t + 1) hX hS (nI_ad _ _) (by omega) dL_law_837 ?_
  refine a_aload_n hX dL_law_838 rfl ?_
  refine a_iload_n hX dL_law_839 rfl ?_
  refine a_iconst (nI 2) hX dL_law_840 (by decide) ?_
  refine a_iadd hX dL_law_841 ?_
  refine a_sld (9 * t + 2) hX hS (nI_ad _ _) (by omega) dL_law_842 ?_
  refine a_callV [_, _] hX c_X8_grant mi_X8_grant mv_X8_grant se_X8_grant (klt rfl (by decide)) (adr_lt (kd_lt rfl (by decide))) (cell_8 rfl) rfl li_L_80 (by decide) rfl rfl (Nat.le_of_ble_eq_true rfl) (fun _ => ⟨by omega, by omega⟩) dL_law_843 ⟨g, _, _, rfl, hM.frM hm1, ho, ?_⟩
  intro w2 hM2 hf2
  refine a_icmp_eq 1648 hX dL_law_846 (by decide) (fun _ => ?_) (fun z => absurd rfl z)
  exact kk _ w2 _ _ (hC1.frC hf2) hM2 (kp_grant ho) (by omega) (by omega)
theorem lc_recall (hX : Kx X cL_law RL 4 10) (hS : Sx X sc L sv) (hB : 600000 ≤ (xR X).cells ∧ 7302250 ≤ (xR X).slots) (hC : CI g w) (hM : MD g w) (ho : okS g) (ht : 9 * t + 9 ≤ L) (hk : k ≤ 248 + t) (hn : n ≤ 165200 + 9 * t) (kk : LKw X sc t) : A X k n 851 (LSw X sc t) [] w := by
  have hL := hS.2.2.2
  refine a_aload_n hX dL_law_851 rfl ?_
  refine a_aload_n hX dL_law_852 rfl ?_
  refine a_iload_n hX dL_law_853 rfl ?_
  refine a_iconst (nI 1) hX dL_law_854 (by decide) ?_
  refine a_iadd hX dL_law_855 ?_
  refine a_sld (9 * t + 1) hX hS (nI_ad _ _) (by omega) dL_law_856 ?_
  refine a_aload_n hX dL_law_857 rfl ?_
  refine a_iload_n hX dL_law_858 rfl ?_
  refine a_iconst (nI 2) hX dL_law_859 (by decide) ?_
  refine a_iadd hX dL_law_860 ?_
  refine a_sld (9 * t + 2) hX hS (nI_ad _ _) (by omega) dL_law_861 ?_
  refine a_aload_n hX dL_law_862 rfl ?_
  refine a_iload_n hX dL_law_863 rfl ?_
  refine a_iconst (nI 3) hX dL_law_864 (by decide) ?_
  refine a_iadd hX dL_law_865 ?_
  refine a_sld (9 * t + 3) hX hS (nI_ad _ _) (by omega) dL_law_866 ?_
  refine a_aload_n hX dL_law_867 rfl ?_
  refine a_iload_n hX dL_law_868 rfl ?_
  refine a_iconst (nI 4) hX dL_law_869 (by decide) ?_
  refine a_iadd hX dL_law_870 ?_
  refine a_sld (9 * t + 4) hX hS (nI_ad _ _) (by omega) dL_law_871 ?_
  refine a_callV [_, _, _, _] hX c_X7_recall mi_X7_recall mv_X7_recall se_X7_recall (klt rfl (by decide)) (adr_lt (kd_lt rfl (by decide))) (cell_7 rfl) rfl li_L_81 (by decide) rfl rfl (Nat.le_of_ble_eq_true rfl) (fun _ => ⟨by omega, by omega⟩) dL_law_872 ⟨g, _, _, _, _, rfl, hC, ho, ?_⟩
  intro w1 hC1 hm1
  refine a_aload_n hX dL_law_875 rfl ?_
  refine a_aload_n hX dL_law_876 rfl ?_
  refine a_iload_n hX dL_law_877 rfl ?_
  refine a_iconst (nI 1) hX dL_law_878 (by decide) ?_
  refine a_iadd hX dL_law_879 ?_
  refine a_sld (9 * t + 1) hX hS (nI_ad _ _) (by omega) dL_law_880 ?_
  refine a_aload_n hX dL_law_881 rfl ?_
  refine a_iload_n hX dL_law_882 rfl ?_
  refine a_iconst (nI 2) hX dL_law_883 (by decide) ?_
  refine a_iadd hX dL_law_884 ?_
  refine a_sld (9 * t + 2) hX hS (nI_ad _ _) (by omega) dL_law_885 ?_
  refine a_aload_n hX dL_law_886 rfl ?_
  refine a_iload_n hX dL_law_887 rfl ?_
  refine a_iconst (nI 3) hX dL_law_888 (by decide) ?_
  refine a_iadd hX dL_law_889 ?_
  refine a_sld (9 * t + 3) hX hS (nI_ad _ _) (by omega) dL_law_890 ?_
  refine a_aload_n hX dL_law_891 rfl ?_
  refine a_iload_n hX dL_law_892 rfl ?_
  refine a_iconst (nI 4) hX dL_law_893 (by decide) ?_
  refine a_iadd hX dL_law_894 ?_
  refine a_sld (9 * t + 4) hX hS (nI_ad _ _) (by omega) dL_law_895 ?_
  refine a_callV [_, _, _, _] hX c_X8_recall mi_X8_recall mv_X8_recall se_X8_recall (klt rfl (by decide)) (adr_lt (kd_lt rfl (by decide))) (cell_8 rfl) rfl li_L_84 (by decide) rfl rfl (Nat.le_of_ble_eq_true rfl) (fun _ => ⟨by omega, by omega⟩) dL_law_896 ⟨g, _, _, _, _, rfl, hM.frM hm1, ho, ?_⟩
  intro w2 hM2 hf2
  refine a_icmp_eq 1648 hX dL_law_899 (by decide) (fun _ => ?_) (fun z => absurd rfl z)
  exact kk _ w2 _ _ (hC1.frC hf2) hM2 (kp_recall ho) (by omega) (by omega)
theorem lc_kind (hX : Kx X cL_law RL 4 10) (hS : Sx X sc L sv) (hB : 600000 ≤ (xR X).cells ∧ 7302250 ≤ (xR X).slots) (hC : CI g w) (hM : MD g w) (ho : okS g) (ht : 9 * t + 9 ≤ L) (hk : k ≤ 248 + t) (hn : n ≤ 165200 + 9 * t) (kk : LKw X sc t) : A X k n 904 (LSw X sc t) [] w := by
  have hL := hS.2.2.2
  refine a_aload_n hX dL_law_904 rfl ?_
  refine a_aload_n hX dL_law_905 rfl ?_
  refine a_iload_n hX dL_law_906 rfl ?_
  refine a_iconst (nI 1) hX dL_law_907 (by decide) ?_
  refine a_iadd hX dL_law_908 ?_
  refine a_sld (9 * t + 1) hX hS (nI_ad _ _) (by omega) dL_law_909 ?_
  refine a_aload_n hX dL_law_910 rfl ?_
  refine a_iload_n hX dL_law_911 rfl ?_
  refine a_iconst (nI 2) hX dL_law_912 (by decide) ?_
  refine a_iadd hX dL_law_913 ?_
  refine a_sld (9 * t + 2) hX hS (nI_ad _ _) (by omega) dL_law_914 ?_
  refine a_callV [_, _] hX c_X7_kind mi_X7_kind mv_X7_kind se_X7_kind (klt rfl (by decide)) (adr_lt (kd_lt rfl (by decide))) (cell_7 rfl) rfl li_L_85 (by decide) rfl rfl (Nat.le_of_ble_eq_true rfl) (fun _ => ⟨by omega, by omega⟩) dL_law_915 ⟨g, _, _, rfl, hC, ho, ?_⟩
  intro w1 hC1 hm1
  refine a_aload_n hX dL_law_918 rfl ?_
  refine a_aload_n hX dL_law_919 rfl ?_
  refine a_iload_n hX dL_law_920 rfl ?_
  refine a_iconst (nI 1) hX dL_law_921 (by decide) ?_
  refine a_iadd hX dL_law_922 ?_
  refine a_sld (9 * t + 1) hX hS (nI_ad _ _) (by omega) dL_law_923 ?_
  refine a_aload_n hX dL_law_924 rfl ?_
  refine a_iload_n hX dL_law_925 rfl ?_
  refine a_iconst (nI 2) hX dL_law_926 (by decide) ?_
  refine a_iadd hX dL_law_927 ?_
  refine a_sld (9 * t + 2) hX hS (nI_ad _ _) (by omega) dL_law_928 ?_
  refine a_callV [_, _] hX c_X8_kind mi_X8_kind mv_X8_kind se_X8_kind (klt rfl (by decide)) (adr_lt (kd_lt rfl (by decide))) (cell_8 rfl) rfl li_L_88 (by decide) rfl rfl (Nat.le_of_ble_eq_true rfl) (fun _ => ⟨by omega, by omega⟩) dL_law_929 ⟨g, _, _, rfl, hM.frM hm1, ho, ?_⟩
  intro w2 hM2 hf2
  refine a_icmp_eq 1648 hX dL_law_932 (by decide) (fun _ => ?_) (fun z => absurd rfl z)
  exact kk _ w2 _ _ (hC1.frC hf2) hM2 ho (by omega) (by omega)
theorem lc_begins (hX : Kx X cL_law RL 4 10) (hS : Sx X sc L sv) (hB : 600000 ≤ (xR X).cells ∧ 7302250 ≤ (xR X).slots) (hC : CI g w) (hM : MD g w) (ho : okS g) (ht : 9 * t + 9 ≤ L) (hk : k ≤ 248 + t) (hn : n ≤ 165200 + 9 * t) (kk : LKw X sc t) : A X k n 937 (LSw X sc t) [] w := by
  have hL := hS.2.2.2
  refine a_aload_n hX dL_law_937 rfl ?_
  refine a_aload_n hX dL_law_938 rfl ?_
  refine a_iload_n hX dL_law_939 rfl ?_
  refine a_iconst (nI 1) hX dL_law_940 (by decide) ?_
  refine a_iadd hX dL_law_941 ?_
  refine a_sld (9 * t + 1) hX hS (nI_ad _ _) (by omega) dL_law_942 ?_
  refine a_aload_n hX dL_law_943 rfl ?_
  refine a_iload_n hX dL_law_944 rfl ?_
  refine a_iconst (nI 2) hX dL_law_945 (by decide) ?_
  refine a_iadd hX dL_law_946 ?_
  refine a_sld (9 * t + 2) hX hS (nI_ad _ _) (by omega) dL_law_947 ?_
  refine a_aload_n hX dL_law_948 rfl ?_
  refine a_iload_n hX dL_law_949 rfl ?_
  refine a_iconst (nI 3) hX dL_law_950 (by decide) ?_
  refine a_iadd hX dL_law_951 ?_
  refine a_sld (9 * t + 3) hX hS (nI_ad _ _) (by omega) dL_law_952 ?_
  refine a_nz 960 961 hX dL_law_953 (by decide) dL_law_956 dL_law_957 (by decide) dL_law_960 rfl ?_
  refine a_callV [_, _, _] hX c_X7_begins mi_X7_begins mv_X7_begins se_X7_begins (klt rfl (by decide)) (adr_lt (kd_lt rfl (by decide))) (cell_7 rfl) rfl li_L_89 (by decide) rfl rfl (Nat.le_of_ble_eq_true rfl) (fun _ => ⟨by omega, by omega⟩) dL_law_961 ⟨g, _, _, _, rfl, hC, ho, ?_⟩
  intro w1 hC1 hm1
  refine a_aload_n hX dL_law_964 rfl ?_
  refine a_aload_n hX dL_law_965 rfl ?_
  refine a_iload_n hX dL_law_966 rfl ?_
  refine a_iconst (nI 1) hX dL_law_967 (by decide) ?_
  refine a_iadd hX dL_law_968 ?_
  refine a_sld (9 * t + 1) hX hS (nI_ad _ _) (by omega) dL_law_969 ?_
  refine a_aload_n hX dL_law_970 rfl ?_
  refine a_iload_n hX dL_law_971 rfl ?_
  refine a_iconst (nI 2) hX dL_law_972 (by decide) ?_
  refine a_iadd hX dL_law_973 ?_
  refine a_sld (9 * t + 2) hX hS (nI_ad _ _) (by omega) dL_law_974 ?_
  refine a_aload_n hX dL_law_975 rfl ?_
  refine a_iload_n hX dL_law_976 rfl ?_
  refine a_iconst (nI 3) hX dL_law_977 (by decide) ?_
  refine a_iadd hX dL_law_978 ?_
  refine a_sld (9 * t + 3) hX hS (nI_ad _ _) (by omega) dL_law_979 ?_
  refine a_nz 987 988 hX dL_law_980 (by decide) dL_law_983 dL_law_984 (by decide) dL_law_987 rfl ?_
  refine a_callV [_, _, _] hX c_X8_begins mi_X8_begins mv_X8_begins se_X8_begins (klt rfl (by decide)) (adr_lt (kd_lt rfl (by decide))) (cell_8 rfl) rfl li_L_93 (by decide) rfl rfl (Nat.le_of_ble_eq_true rfl) (fun _ => ⟨by omega, by omega⟩) dL_law_988 ⟨g, _, _, _, rfl, hM.frM hm1, ho, ?_⟩
  intro w2 hM2 hf2
  refine a_icmp_eq 1648 hX dL_law_991 (by decide) (fun _ => ?_) (fun z => absurd rfl z)
  exact kk _ w2 _ _ (hC1.frC hf2) hM2 ho (by omega) (by omega)
theorem lc_ends (hX : Kx X cL_law RL 4 10) (hS : Sx X sc L sv) (hB : 600000 ≤ (xR X).cells ∧ 7302250 ≤ (xR X).slots) (hC : CI g w) (hM : MD g w) (ho : okS g) (ht : 9 * t + 9 ≤ L) (hk : k ≤ 248 + t) (hn : n ≤ 165200 + 9 * t) (kk : LKw X sc t) : A X k n 996 (LSw X sc t) [] w := by
  have hL := hS.2.2.2
  refine a_aload_n hX dL_law_996 rfl ?_
  refine a_aload_n hX dL_law_997 rfl ?_
  refine a_iload_n hX dL_law_998 rfl ?_
  refine a_iconst (nI 1) hX dL_law_999 (by decide) ?_
  refine a_iadd hX dL_law_1000 ?_
  refine a_sld (9 * t + 1) hX hS (nI_ad _ _) (by omega) dL_law_1001 ?_
  refine a_aload_n hX dL_law_1002 rfl ?_
  refine a_iload_n hX dL_law_1003 rfl ?_
  refine a_iconst (nI 2) hX dL_law_1004 (by decide) ?_
  refine a_iadd hX dL_law_1005 ?_
  refine a_sld (9 * t + 2) hX hS (nI_ad _ _) (by omega) dL_law_1006 ?_
  refine a_aload_n hX dL_law_1007 rfl ?_
  refine a_iload_n hX dL_law_1008 rfl ?_
  refine a_iconst (nI 3) hX dL_law_1009 (by decide) ?_
  refine a_iadd hX dL_law_1010 ?_
  refine a_sld (9 * t + 3) hX hS (nI_ad _ _) (by omega) dL_law_1011 ?_
  refine a_nz 1019 1020 hX dL_law_1012 (by decide) dL_law_1015 dL_law_1016 (by decide) dL_law_1019 rfl ?_
  refine a_callV [_, _, _] hX c_X7_ends mi_X7_ends mv_X7_ends se_X7_ends (klt rfl (by decide)) (adr_lt (kd_lt rfl (by decide))) (cell_7 rfl) rfl li_L_94 (by decide) rfl rfl (Nat.le_of_ble_eq_true rfl) (fun _ => ⟨by omega, by omega⟩) dL_law_1020 ⟨g, _, _, _, rfl, hC, ho, ?_⟩
  intro w1 hC1 hm1
  refine a_aload_n hX dL_law_1023 rfl ?_
  refine a_aload_n hX dL_law_1024 rfl ?_
  refine a_iload_n hX dL_law_1025 rfl ?_
  refine a_iconst (nI 1) hX dL_law_1026 (by decide) ?_
  refine a_iadd hX dL_law_1027 ?_
  refine a_sld (9 * t + 1) hX hS (nI_ad _ _) (by omega) dL_law_1028 ?_
  refine a_aload_n hX dL_law_1029 rfl ?_
  refine a_iload_n hX dL_law_1030 rfl ?_
  refine a_iconst (nI 2) hX dL_law_1031 (by decide) ?_
  refine a_iadd hX dL_law_1032 ?_
  refine a_sld (9 * t + 2) hX hS (nI_ad _ _) (by omega) dL_law_1033 ?_
  refine a_aload_n hX dL_law_1034 rfl ?_
  refine a_iload_n hX dL_law_1035 rfl ?_
  refine a_iconst (nI 3) hX dL_law_1036 (by decide) ?_
  refine a_iadd hX dL_law_1037 ?_
  refine a_sld (9 * t + 3) hX hS (nI_ad _ _) (by omega) dL_law_1038 ?_
  refine a_nz 1046 1047 hX dL_law_1039 (by decide) dL_law_1042 dL_law_1043 (by decide) dL_law_1046 rfl ?_
  refine a_callV [_, _, _] hX c_X8_ends mi_X8_ends mv_X8_ends se_X8_ends (klt rfl (by decide)) (adr_lt (kd_lt rfl (by decide))) (cell_8 rfl) rfl li_L_97 (by decide) rfl rfl (Nat.le_of_ble_eq_true rfl) (fun _ => ⟨by omega, by omega⟩) dL_law_1047 ⟨g, _, _, _, rfl, hM.frM hm1, ho, ?_⟩
  intro w2 hM2 hf2
  refine a_icmp_eq 1648 hX dL_law_1050 (by decide) (fun _ => ?_) (fun z => absurd rfl z)
  exact kk _ w2 _ _ (hC1.frC hf2) hM2 ho (by omega) (by omega)
theorem lc_counted (hX : Kx X cL_law RL 4 10) (hS : Sx X sc L sv) (hB : 600000 ≤ (xR X).cells ∧ 7302250 ≤ (xR X).slots) (hC : CI g w) (hM : MD g w) (ho : okS g) (ht : 9 * t + 9 ≤ L) (hk : k ≤ 248 + t) (hn : n ≤ 165200 + 9 * t) (kk : LKw X sc t) : A X k n 1055 (LSw X sc t) [] w := by
  have hL := hS.2.2.2
  refine a_aload_n hX dL_law_1055 rfl ?_
  refine a_aload_n hX dL_law_1056 rfl ?_
  refine a_iload_n hX dL_law_1057 rfl ?_
  refine a_iconst (nI 1) hX dL_law_1058 (by decide) ?_
  refine a_iadd hX dL_law_1059 ?_
  refine a_sld (9 * t + 1) hX hS (nI_ad _ _) (by omega) dL_law_1060 ?_
  refine a_aload_n hX dL_law_1061 rfl ?_
  refine a_iload_n hX dL_law_1062 rfl ?_
  refine a_iconst (nI 2) hX dL_law_1063 (by decide) ?_
  refine a_iadd hX dL_law_1064 ?_
  refine a_sld (9 * t + 2) hX hS (nI_ad _ _) (by omega) dL_law_1065 ?_
  refine a_aload_n hX dL_law_1066 rfl ?_
  refine a_iload_n hX dL_law_1067 rfl ?_
  refine a_iconst (nI 3) hX dL_law_1068 (by decide) ?_
  refine a_iadd hX dL_law_1069 ?_
  refine a_sld (9 * t + 3) hX hS (nI_ad _ _) (by omega) dL_law_1070 ?_
  refine a_aload_n hX dL_law_1071 rfl ?_
  refine a_iload_n hX dL_law_1072 rfl ?_
  refine a_iconst (nI 4) hX dL_law_1073 (by decide) ?_
  refine a_iadd hX dL_law_1074 ?_
  refine a_sld (9 * t + 4) hX hS (nI_ad _ _) (by omega) dL_law_1075 ?_
  refine a_nz 1083 1084 hX dL_law_1076 (by decide) dL_law_1079 dL_law_1080 (by decide) dL_law_1083 rfl ?_
  refine a_callV [_, _, _, _] hX c_X7_counted mi_X7_counted mv_X7_counted se_X7_counted (klt rfl (by decide)) (adr_lt (kd_lt rfl (by decide))) (cell_7 rfl) rfl li_L_98 (by decide) rfl rfl (Nat.le_of_ble_eq_true rfl) (fun _ => ⟨by omega, by omega⟩) dL_law_1084 ⟨g, _, _, _, _, rfl, hC, ho, ?_⟩
  intro w1 hC1 hm1
  refine a_aload_n hX dL_law_1087 rfl ?_
  refine a_aload_n hX dL_law_1088 rfl ?_
  refine a_iload_n hX dL_law_1089 rfl ?_
  refine a_iconst (nI 1) hX dL_law_1090 (by decide) ?_
  refine a_iadd hX dL_law_1091 ?_
  refine a_sld (9 * t + 1) hX hS (nI_ad _ _) (by omega) dL_law_1092 ?_
  refine a_aload_n hX dL_law_1093 rfl ?_
  refine a_iload_n hX dL_law_1094 rfl ?_
  refine a_iconst (nI 2) hX dL_law_1095 (by decide) ?_
  refine a_iadd hX dL_law_1096 ?_
  refine a_sld (9 * t + 2) hX hS (nI_ad _ _) (by omega) dL_law_1097 ?_
  refine a_aload_n hX dL_law_1098 rfl ?_
  refine a_iload_n hX dL_law_1099 rfl ?_
  refine a_iconst (nI 3) hX dL_law_1100 (by decide) ?_
  refine a_iadd hX dL_law_1101 ?_
  refine a_sld (9 * t + 3) hX hS (nI_ad _ _) (by omega) dL_law_1102 ?_
  refine a_aload_n hX dL_law_1103 rfl ?_
  refine a_iload_n hX dL_law_1104 rfl ?_
  refine a_iconst (nI 4) hX dL_law_1105 (by decide) ?_
  refine a_iadd hX dL_law_1106 ?_
  refine a_sld (9 * t + 4) hX hS (nI_ad _ _) (by omega) dL_law_1107 ?_
  refine a_nz 1115 1116 hX dL_law_1108 (by decide) dL_law_1111 dL_law_1112 (by decide) dL_law_1115 rfl ?_
  refine a_callV [_, _, _, _] hX c_X8_counted mi_X8_counted mv_X8_counted se_X8_counted (klt rfl (by decide)) (adr_lt (kd_lt rfl (by decide))) (cell_8 rfl) rfl li_L_102 (by decide) rfl rfl (Nat.le_of_ble_eq_true rfl) (fun _ => ⟨by omega, by omega⟩) dL_law_1116 ⟨g, _, _, _, _, rfl, hM.frM hm1, ho, ?_⟩
  intro w2 hM2 hf2
  refine a_icmp_eq 1648 hX dL_law_1119 (by decide) (fun _ => ?_) (fun z => absurd rfl z)
  exact kk _ w2 _ _ (hC1.frC hf2) hM2 ho (by omega) (by omega)
theorem lc_taken (hX : Kx X cL_law RL 4 10) (hS : Sx X sc L sv) (hB : 600000 ≤ (xR X).cells ∧ 7302250 ≤ (xR X).slots) (hC : CI g w) (hM : MD g w) (ho : okS g) (ht : 9 * t + 9 ≤ L) (hk : k ≤ 248 + t) (hn : n ≤ 165200 + 9 * t) (kk : LKw X sc t) : A X k n 1124 (LSw X sc t) [] w := by
  have hL := hS.2.2.2
  refine a_aload_n hX dL_law_1124 rfl ?_
  refine a_aload_n hX dL_law_1125 rfl ?_
  refine a_iload_n hX dL_law_1126 rfl ?_
  refine a_iconst (nI 1) hX dL_law_1127 (by decide) ?_
  refine a_iadd hX dL_law_1128 ?_
  refine a_sld (9 * t + 1) hX hS (nI_ad _ _) (by omega) dL_law_1129 ?_
  refine a_aload_n hX dL_law_1130 rfl ?_
  refine a_iload_n hX dL_law_1131 rfl ?_
  refine a_iconst (nI 2) hX dL_law_1132 (by decide) ?_
  refine a_iadd hX dL_law_1133 ?_
  refine a_sld (9 * t + 2) hX hS (nI_ad _ _) (by omega) dL_law_1134 ?_
  refine a_aload_n hX dL_law_1135 rfl ?_
  refine a_iload_n hX dL_law_1136 rfl ?_
  refine a_iconst (nI 3) hX dL_law_1137 (by decide) ?_
  refine a_iadd hX dL_law_1138 ?_
  refine a_sld (9 * t + 3) hX hS (nI_ad _ _) (by omega) dL_law_1139 ?_
  refine a_callV [_, _, _] hX c_X7_taken mi_X7_taken mv_X7_taken se_X7_taken (klt rfl (by decide)) (adr_lt (kd_lt rfl (by decide))) (cell_7 rfl) rfl li_L_103 (by decide) rfl rfl (Nat.le_of_ble_eq_true rfl) (fun _ => ⟨by omega, by omega⟩) dL_law_1140 ⟨g, _, _, _, rfl, hC, ho, ?_⟩
  intro w1 hC1 hm1
  refine a_aload_n hX dL_law_1143 rfl ?_
  refine a_aload_n hX dL_law_1144 rfl ?_
  refine a_iload_n hX dL_law_1145 rfl ?_
  refine a_iconst (nI 1) hX dL_law_1146 (by decide) ?_
  refine a_iadd hX dL_law_1147 ?_
  refine a_sld (9 * t + 1) hX hS (nI_ad _ _) (by omega) dL_law_1148 ?_
  refine a_aload_n hX dL_law_1149 rfl ?_
  refine a_iload_n hX dL_law_1150 rfl ?_
  refine a_iconst (nI 2) hX dL_law_1151 (by decide) ?_
  refine a_iadd hX dL_law_1152 ?_
  refine a_sld (9 * t + 2) hX hS (nI_ad _ _) (by omega) dL_law_1153 ?_
  refine a_aload_n hX dL_law_1154 rfl ?_
  refine a_iload_n hX dL_law_1155 rfl ?_
  refine a_iconst (nI 3) hX dL_law_1156 (by decide) ?_
  refine a_iadd hX dL_law_1157 ?_
  refine a_sld (9 * t + 3) hX hS (nI_ad _ _) (by omega) dL_law_1158 ?_
  refine a_callV [_, _, _] hX c_X8_taken mi_X8_taken mv_X8_taken se_X8_taken (klt rfl (by decide)) (adr_lt (kd_lt rfl (by decide))) (cell_8 rfl) rfl li_L_106 (by decide) rfl rfl (Nat.le_of_ble_eq_true rfl) (fun _ => ⟨by omega, by omega⟩) dL_law_1159 ⟨g, _, _, _, rfl, hM.frM hm1, ho, ?_⟩
  intro w2 hM2 hf2
  refine a_icmp_eq 1648 hX dL_law_1162 (by decide) (fun _ => ?_) (fun z => absurd rfl z)
  exact kk _ w2 _ _ (hC1.frC hf2) hM2 ho (by omega) (by omega)
theorem lc_why (hX : Kx X cL_law RL 4 10) (hS : Sx X sc L sv) (hB : 600000 ≤ (xR X).cells ∧ 7302250 ≤ (xR X).slots) (hC : CI g w) (hM : MD g w) (ho : okS g) (ht : 9 * t + 9 ≤ L) (hk : k ≤ 248 + t) (hn : n ≤ 165200 + 9 * t) (kk : LKw X sc t) : A X k n 1167 (LSw X sc t) [] w := by
  have hL := hS.2.2.2
  refine a_aload_n hX dL_law_1167 rfl ?_
  refine a_aload_n hX dL_law_1168 rfl ?_
  refine a_iload_n hX dL_law_1169 rfl ?_
  refine a_iconst (nI 1) hX dL_law_1170 (by decide) ?_
  refine a_iadd hX dL_law_1171 ?_
  refine a_sld (9 * t + 1) hX hS (nI_ad _ _) (by omega) dL_law_1172 ?_
  refine a_aload_n hX dL_law_1173 rfl ?_
  refine a_iload_n hX dL_law_1174 rfl ?_
  refine a_iconst (nI 2) hX dL_law_1175 (by decide) ?_
  refine a_iadd hX dL_law_1176 ?_
  refine a_sld (9 * t + 2) hX hS (nI_ad _ _) (by omega) dL_law_1177 ?_
  refine a_aload_n hX dL_law_1178 rfl ?_
  refine a_iload_n hX dL_law_1179 rfl ?_
  refine a_iconst (nI 3) hX dL_law_1180 (by decide) ?_
  refine a_iadd hX dL_law_1181 ?_
  refine a_sld (9 * t + 3) hX hS (nI_ad _ _) (by omega) dL_law_1182 ?_
  refine a_callV [_, _, _] hX c_X7_why mi_X7_why mv_X7_why se_X7_why (klt rfl (by decide)) (adr_lt (kd_lt rfl (by decide))) (cell_7 rfl) rfl li_L_107 (by decide) rfl rfl (Nat.le_of_ble_eq_true rfl) (fun _ => ⟨by omega, by omega⟩) dL_law_1183 ⟨g, _, _, _, rfl, hC, ho, ?_⟩
  intro w1 hC1 hm1
  refine a_aload_n hX dL_law_1186 rfl ?_
  refine a_aload_n hX dL_law_1187 rfl ?_
  refine a_iload_n hX dL_law_1188 rfl ?_
  refine a_iconst (nI 1) hX dL_law_1189 (by decide) ?_
  refine a_iadd hX dL_law_1190 ?_
  refine a_sld (9 * t + 1) hX hS (nI_ad _ _) (by omega) dL_law_1191 ?_
  refine a_aload_n hX dL_law_1192 rfl ?_
  refine a_iload_n hX dL_law_1193 rfl ?_
  refine a_iconst (nI 2) hX dL_law_1194 (by decide) ?_
  refine a_iadd hX dL_law_1195 ?_
  refine a_sld (9 * t + 2) hX hS (nI_ad _ _) (by omega) dL_law_1196 ?_
  refine a_aload_n hX dL_law_1197 rfl ?_
  refine a_iload_n hX dL_law_1198 rfl ?_
  refine a_iconst (nI 3) hX dL_law_1199 (by decide) ?_
  refine a_iadd hX dL_law_1200 ?_
  refine a_sld (9 * t + 3) hX hS (nI_ad _ _) (by omega) dL_law_1201 ?_
  refine a_callV [_, _, _] hX c_X8_why mi_X8_why mv_X8_why se_X8_why (klt rfl (by decide)) (adr_lt (kd_lt rfl (by decide))) (cell_8 rfl) rfl li_L_110 (by decide) rfl rfl (Nat.le_of_ble_eq_true rfl) (fun _ => ⟨by omega, by omega⟩) dL_law_1202 ⟨g, _, _, _, rfl, hM.frM hm1, ho, ?_⟩
  intro w2 hM2 hf2 _
  refine a_icmp_eq 1648 hX dL_law_1205 (by decide) (fun _ => ?_) (fun z => absurd rfl z)
  exact kk _ w2 _ _ (hC1.frC hf2) hM2 ho (by omega) (by omega)
theorem lc_by (hX : Kx X cL_law RL 4 10) (hS : Sx X sc L sv) (hB : 600000 ≤ (xR X).cells ∧ 7302250 ≤ (xR X).slots) (hC : CI g w) (hM : MD g w) (ho : okS g) (ht : 9 * t + 9 ≤ L) (hk : k ≤ 248 + t) (hn : n ≤ 165200 + 9 * t) (kk : LKw X sc t) : A X k n 1210 (LSw X sc t) [] w := by
  have hL := hS.2.2.2
  refine a_aload_n hX dL_law_1210 rfl ?_
  refine a_aload_n hX dL_law_1211 rfl ?_
  refine a_iload_n hX dL_law_1212 rfl ?_
  refine a_iconst (nI 1) hX dL_law_1213 (by decide) ?_
  refine a_iadd hX dL_law_1214 ?_
  refine a_sld (9 * t + 1) hX hS (nI_ad _ _) (by omega) dL_law_1215 ?_
  refine a_aload_n hX dL_law_1216 rfl ?_
  refine a_iload_n hX dL_law_1217 rfl ?_
  refine a_iconst (nI 2) hX dL_law_1218 (by decide) ?_
  refine a_iadd hX dL_law_1219 ?_
  refine a_sld (9 * t + 2) hX hS (nI_ad _ _) (by omega) dL_law_1220 ?_
  refine a_aload_n hX dL_law_1221 rfl ?_
  refine a_iload_n hX dL_law_1222 rfl ?_
  refine a_iconst (nI 3) hX dL_law_1223 (by decide) ?_
  refine a_iadd hX dL_law_1224 ?_
  refine a_sld (9 * t + 3) hX hS (nI_ad _ _) (by omega) dL_law_1225 ?_
  refine a_callV [_, _, _] hX c_X7_by mi_X7_by mv_X7_by se_X7_by (klt rfl (by decide)) (adr_lt (kd_lt rfl (by decide))) (cell_7 rfl) rfl li_L_111 (by decide) rfl rfl (Nat.le_of_ble_eq_true rfl) (fun _ => ⟨by omega, by omega⟩) dL_law_1226 ⟨g, _, _, _, rfl, hC, ho, ?_⟩
  intro w1 hC1 hm1
  refine a_aload_n hX dL_law_1229 rfl ?_
  refine a_aload_n hX dL_law_1230 rfl ?_
  refine a_iload_n hX dL_law_1231 rfl ?_
  refine a_iconst (nI 1) hX dL_law_1232 (by decide) ?_
  refine a_iadd hX dL_law_1233 ?_
  refine a_sld (9 * t + 1) hX hS (nI_ad _ _) (by omega) dL_law_1234 ?_
  refine a_aload_n hX dL_law_1235 rfl ?_
  refine a_iload_n hX dL_law_1236 rfl ?_
  refine a_iconst (nI 2) hX dL_law_1237 (by decide) ?_
  refine a_iadd hX dL_law_1238 ?_
  refine a_sld (9 * t + 2) hX hS (nI_ad _ _) (by omega) dL_law_1239 ?_
  refine a_aload_n hX dL_law_1240 rfl ?_
  refine a_iload_n hX dL_law_1241 rfl ?_
  refine a_iconst (nI 3) hX dL_law_1242 (by decide) ?_
  refine a_iadd hX dL_law_1243 ?_
  refine a_sld (9 * t + 3) hX hS (nI_ad _ _) (by omega) dL_law_1244 ?_
  refine a_callV [_, _, _] hX c_X8_by mi_X8_by mv_X8_by se_X8_by (klt rfl (by decide)) (adr_lt (kd_lt rfl (by decide))) (cell_8 rfl) rfl li_L_114 (by decide) rfl rfl (Nat.le_of_ble_eq_true rfl) (fun _ => ⟨by omega, by omega⟩) dL_law_1245 ⟨g, _, _, _, rfl, hM.frM hm1, ho, ?_⟩
  intro w2 hM2 hf2
  refine a_icmp_eq 1648 hX dL_law_1248 (by decide) (fun _ => ?_) (fun z => absurd rfl z)
  exact kk _ w2 _ _ (hC1.frC hf2) hM2 ho (by omega) (by omega)
theorem lc_full (hX : Kx X cL_law RL 4 10) (hS : Sx X sc L sv) (hB : 600000 ≤ (xR X).cells ∧ 7302250 ≤ (xR X).slots) (hC : CI g w) (hM : MD g w) (ho : okS g) (ht : 9 * t + 9 ≤ L) (hk : k ≤ 248 + t) (hn : n ≤ 165200 + 9 * t) (kk : LKw X sc t) : A X k n 1253 (LSw X sc t) [] w := by
  have hL := hS.2.2.2
  refine a_aload_n hX dL_law_1253 rfl ?_
  refine a_aload_n hX dL_law_1254 rfl ?_
  refine a_iload_n hX dL_law_1255 rfl ?_
  refine a_iconst (nI 1) hX dL_law_1256 (by decide) ?_
  refine a_iadd hX dL_law_1257 ?_
  refine a_sld (9 * t + 1) hX hS (nI_ad _ _) (by omega) dL_law_1258 ?_
  refine a_aload_n hX dL_law_1259 rfl ?_
  refine a_iload_n hX dL_law_1260 rfl ?_
  refine a_iconst (nI 2) hX dL_law_1261 (by decide) ?_
  refine a_iadd hX dL_law_1262 ?_
  refine a_sld (9 * t + 2) hX hS (nI_ad _ _) (by omega) dL_law_1263 ?_
  refine a_nz 1271 1272 hX dL_law_1264 (by decide) dL_law_1267 dL_law_1268 (by decide) dL_law_1271 rfl ?_
  refine a_callV [_, _] hX c_X7_full mi_X7_full mv_X7_full se_X7_full (klt rfl (by decide)) (adr_lt (kd_lt rfl (by decide))) (cell_7 rfl) rfl li_L_115 (by decide) rfl rfl (Nat.le_of_ble_eq_true rfl) (fun _ => ⟨by omega, by omega⟩) dL_law_1272 ⟨g, _, _, rfl, hC, ho, ?_⟩
  intro w1 hC1 hm1
  refine a_aload_n hX dL_law_1275 rfl ?_
  refine a_aload_n hX dL_law_1276 rfl ?_
  refine a_iload_n hX dL_law_1277 rfl ?_
  refine a_iconst (nI 1) hX dL_law_1278 (by decide) ?_
  refine a_iadd hX dL_law_1279 ?_
  refine a_sld (9 * t + 1) hX hS (nI_ad _ _) (by omega) dL_law_1280 ?_
  refine a_aload_n hX dL_law_1281 rfl ?_
  refine a_iload_n hX dL_law_1282 rfl ?_
  refine a_iconst (nI 2) hX dL_law_1283 (by decide) ?_
  refine a_iadd hX dL_law_1284 ?_
  refine a_sld (9 * t + 2) hX hS (nI_ad _ _) (by omega) dL_law_1285 ?_
  refine a_nz 1293 1294 hX dL_law_1286 (by decide) dL_law_1289 dL_law_1290 (by decide) dL_law_1293 rfl ?_
  refine a_callV [_, _] hX c_X8_full mi_X8_full mv_X8_full se_X8_full (klt rfl (by decide)) (adr_lt (kd_lt rfl (by decide))) (cell_8 rfl) rfl li_L_119 (by decide) rfl rfl (Nat.le_of_ble_eq_true rfl) (fun _ => ⟨by omega, by omega⟩) dL_law_1294 ⟨g, _, _, rfl, hM.frM hm1, ho, ?_⟩
  intro w2 hM2 hf2
  refine a_icmp_eq 1648 hX dL_law_1297 (by decide) (fun _ => ?_) (fun z => absurd rfl z)
  exact kk _ w2 _ _ (hC1.frC hf2) hM2 ho (by omega) (by omega)
theorem lc_watched (hX : Kx X cL_law RL 4 10) (hS : Sx X sc L sv) (hB : 600000 ≤ (xR X).cells ∧ 7302250 ≤ (xR X).slots) (hC : CI g w) (hM : MD g w) (ho : okS g) (ht : 9 * t + 9 ≤ L) (hk : k ≤ 248 + t) (hn : n ≤ 165200 + 9 * t) (kk : LKw X sc t) : A X k n 1302 (LSw X sc t) [] w := by
  have hL := hS.2.2.2
  refine a_aload_n hX dL_law_1302 rfl ?_
  refine a_aload_n hX dL_law_1303 rfl ?_
  refine a_iload_n hX dL_law_1304 rfl ?_
  refine a_iconst (nI 1) hX dL_law_1305 (by decide) ?_
  refine a_iadd hX dL_law_1306 ?_
  refine a_sld (9 * t + 1) hX hS (nI_ad _ _) (by omega) dL_law_1307 ?_
  refine a_aload_n hX dL_law_1308 rfl ?_
  refine a_iload_n hX dL_law_1309 rfl ?_
  refine a_iconst (nI 2) hX dL_law_1310 (by decide) ?_
  refine a_iadd hX dL_law_1311 ?_
  refine a_sld (9 * t + 2) hX hS (nI_ad _ _) (by omega) dL_law_1312 ?_
  refine a_aload_n hX dL_law_1313 rfl ?_
  refine a_iload_n hX dL_law_1314 rfl ?_
  refine a_iconst (nI 3) hX dL_law_1315 (by decide) ?_
  refine a_iadd hX dL_law_1316 ?_
  refine a_sld (9 * t + 3) hX hS (nI_ad _ _) (by omega) dL_law_1317 ?_
  refine a_nz 1325 1326 hX dL_law_1318 (by decide) dL_law_1321 dL_law_1322 (by decide) dL_law_1325 rfl ?_
  refine a_callV [_, _, _] hX c_X7_watched mi_X7_watched mv_X7_watched se_X7_watched (klt rfl (by decide)) (adr_lt (kd_lt rfl (by decide))) (cell_7 rfl) rfl li_L_120 (by decide) rfl rfl (Nat.le_of_ble_eq_true rfl) (fun _ => ⟨by omega, by omega⟩) dL_law_1326 ⟨g, _, _, _, rfl, hC, ho, ?_⟩
  intro w1 hC1 hm1
  refine a_aload_n hX dL_law_1329 rfl ?_
  refine a_aload_n hX dL_law_1330 rfl ?_
  refine a_iload_n hX dL_law_1331 rfl ?_
  refine a_iconst (nI 1) hX dL_law_1332 (by decide) ?_
  refine a_iadd hX dL_law_1333 ?_
  refine a_sld (9 * t + 1) hX hS (nI_ad _ _) (by omega) dL_law_1334 ?_
  refine a_aload_n hX dL_law_1335 rfl ?_
  refine a_iload_n hX dL_law_1336 rfl ?_
  refine a_iconst (nI 2) hX dL_law_1337 (by decide) ?_
  refine a_iadd hX dL_law_1338 ?_
  refine a_sld (9 * t + 2) hX hS (nI_ad _ _) (by omega) dL_law_1339 ?_
  refine a_aload_n hX dL_law_1340 rfl ?_
  refine a_iload_n hX dL_law_1341 rfl ?_
  refine a_iconst (nI 3) hX dL_law_1342 (by decide) ?_
  refine a_iadd hX dL_law_1343 ?_
  refine a_sld (9 * t + 3) hX hS (nI_ad _ _) (by omega) dL_law_1344 ?_
  refine a_nz 1352 1353 hX dL_law_1345 (by decide) dL_law_1348 dL_law_1349 (by decide) dL_law_1352 rfl ?_
  refine a_callV [_, _, _] hX c_X8_watched mi_X8_watched mv_X8_watched se_X8_watched (klt rfl (by decide)) (adr_lt (kd_lt rfl (by decide))) (cell_8 rfl) rfl li_L_123 (by decide) rfl rfl (Nat.le_of_ble_eq_true rfl) (fun _ => ⟨by omega, by omega⟩) dL_law_1353 ⟨g, _, _, _, rfl, hM.frM hm1, ho, ?_⟩
  intro w2 hM2 hf2
  refine a_icmp_eq 1648 hX dL_law_1356 (by decide) (fun _ => ?_) (fun z => absurd rfl z)
  exact kk _ w2 _ _ (hC1.frC hf2) hM2 ho (by omega) (by omega)
theorem lc_open (hX : Kx X cL_law RL 4 10) (hS : Sx X sc L sv) (hB : 600000 ≤ (xR X).cells ∧ 7302250 ≤ (xR X).slots) (hC : CI g w) (hM : MD g w) (ho : okS g) (ht : 9 * t + 9 ≤ L) (hk : k ≤ 248 + t) (hn : n ≤ 165200 + 9 * t) (kk : LKw X sc t) : A X k n 1361 (LSw X sc t) [] w := by
  have hL := hS.2.2.2
  refine a_aload_n hX dL_law_1361 rfl ?_
  refine a_aload_n hX dL_law_1362 rfl ?_
  refine a_iload_n hX dL_law_1363 rfl ?_
  refine a_iconst (nI 1) hX dL_law_1364 (by decide) ?_
  refine a_iadd hX dL_law_1365 ?_
  refine a_sld (9 * t + 1) hX hS (nI_ad _ _) (by omega) dL_law_1366 ?_
  refine a_aload_n hX dL_law_1367 rfl ?_
  refine a_iload_n hX dL_law_1368 rfl ?_
  refine a_iconst (nI 2) hX dL_law_1369 (by decide) ?_
  refine a_iadd hX dL_law_1370 ?_
  refine a_sld (9 * t + 2) hX hS (nI_ad _ _) (by omega) dL_law_1371 ?_
  refine a_callV [_, _] hX c_X7_open mi_X7_open mv_X7_open se_X7_open (klt rfl (by decide)) (adr_lt (kd_lt rfl (by decide))) (cell_7 rfl) rfl li_L_124 (by decide) rfl rfl (Nat.le_of_ble_eq_true rfl) (fun _ => ⟨by omega, by omega⟩) dL_law_1372 ⟨g, _, _, rfl, hC, ho, ?_⟩
  intro w1 hC1 hm1
  refine a_aload_n hX dL_law_1375 rfl ?_
  refine a_aload_n hX dL_law_1376 rfl ?_
  refine a_iload_n hX dL_law_1377 rfl ?_
  refine a_iconst (nI 1) hX dL_law_1378 (by decide) ?_
  refine a_iadd hX dL_law_1379 ?_
  refine a_sld (9 * t + 1) hX hS (nI_ad _ _) (by omega) dL_law_1380 ?_
  refine a_aload_n hX dL_law_1381 rfl ?_
  refine a_iload_n hX dL_law_1382 rfl ?_
  refine a_iconst (nI 2) hX dL_law_1383 (by decide) ?_
  refine a_iadd hX dL_law_1384 ?_
  refine a_sld (9 * t + 2) hX hS (nI_ad _ _) (by omega) dL_law_1385 ?_
  refine a_callV [_, _] hX c_X8_open mi_X8_open mv_X8_open se_X8_open (klt rfl (by decide)) (adr_lt (kd_lt rfl (by decide))) (cell_8 rfl) rfl li_L_127 (by decide) rfl rfl (Nat.le_of_ble_eq_true rfl) (fun _ => ⟨by omega, by omega⟩) dL_law_1386 ⟨g, _, _, rfl, hM.frM hm1, ho, ?_⟩
  intro w2 hM2 hf2
  refine a_icmp_eq 1648 hX dL_law_1389 (by decide) (fun _ => ?_) (fun z => absurd rfl z)
  exact kk _ w2 _ _ (hC1.frC hf2) hM2 ho (by omega) (by omega)
theorem lc_over (hX : Kx X cL_law RL 4 10) (hS : Sx X sc L sv) (hB : 600000 ≤ (xR X).cells ∧ 7302250 ≤ (xR X).slots) (hC : CI g w) (hM : MD g w) (ho : okS g) (ht : 9 * t + 9 ≤ L) (hk : k ≤ 248 + t) (hn : n ≤ 165200 + 9 * t) (kk : LKw X sc t) : A X k n 1394 (LSw X sc t) [] w := by
  have hL := hS.2.2.2
  refine a_aload_n hX dL_law_1394 rfl ?_
  refine a_aload_n hX dL_law_1395 rfl ?_
  refine a_iload_n hX dL_law_1396 rfl ?_
  refine a_iconst (nI 1) hX dL_law_1397 (by decide) ?_
  refine a_iadd hX dL_law_1398 ?_
  refine a_sld (9 * t + 1) hX hS (nI_ad _ _) (by omega) dL_law_1399 ?_
  refine a_callV [_] hX c_X7_over mi_X7_over mv_X7_over se_X7_over (klt rfl (by decide)) (adr_lt (kd_lt rfl (by decide))) (cell_7 rfl) rfl li_L_128 (by decide) rfl rfl (Nat.le_of_ble_eq_true rfl) (fun _ => ⟨by omega, by omega⟩) dL_law_1400 ⟨g, _, rfl, hC, ho, ?_⟩
  intro w1 hC1 hm1
  refine a_aload_n hX dL_law_1403 rfl ?_
  refine a_aload_n hX dL_law_1404 rfl ?_
  refine a_iload_n hX dL_law_1405 rfl ?_
  refine a_iconst (nI 1) hX dL_law_1406 (by decide) ?_
  refine a_iadd hX dL_law_1407 ?_
  refine a_sld (9 * t + 1) hX hS (nI_ad _ _) (by omega) dL_law_1408 ?_
  refine a_callV [_] hX c_X8_over mi_X8_over mv_X8_over se_X8_over (klt rfl (by decide)) (adr_lt (kd_lt rfl (by decide))) (cell_8 rfl) rfl li_L_131 (by decide) rfl rfl (Nat.le_of_ble_eq_true rfl) (fun _ => ⟨by omega, by omega⟩) dL_law_1409 ⟨g, _, rfl, hM.frM hm1, ho, ?_⟩
  intro w2 hM2 hf2
  refine a_icmp_eq 1648 hX dL_law_1412 (by decide) (fun _ => ?_) (fun z => absurd rfl z)
  exact kk _ w2 _ _ (hC1.frC hf2) hM2 ho (by omega) (by omega)
theorem lc_ring (hX : Kx X cL_law RL 4 10) (hS : Sx X sc L sv) (hB : 600000 ≤ (xR X).cells ∧ 7302250 ≤ (xR X).slots) (hC : CI g w) (hM : MD g w) (ho : okS g) (ht : 9 * t + 9 ≤ L) (hk : k ≤ 248 + t) (hn : n ≤ 165200 + 9 * t) (kk : LKw X sc t) : A X k n 1417 (LSw X sc t) [] w := by
  have hL := hS.2.2.2
  refine a_aload_n hX dL_law_1417 rfl ?_
  refine a_aload_n hX dL_law_1418 rfl ?_
  refine a_iload_n hX dL_law_1419 rfl ?_
  refine a_iconst (nI 1) hX dL_law_1420 (by decide) ?_
  refine a_iadd hX dL_law_1421 ?_
  refine a_sld (9 * t + 1) hX hS (nI_ad _ _) (by omega) dL_law_1422 ?_
  refine a_callV [_] hX c_X7_ring mi_X7_ring mv_X7_ring se_X7_ring (klt rfl (by decide)) (adr_lt (kd_lt rfl (by decide))) (cell_7 rfl) rfl li_L_132 (by decide) rfl rfl (Nat.le_of_ble_eq_true rfl) (fun _ => ⟨by omega, by omega⟩) dL_law_1423 ⟨g, _, rfl, hC, ho, ?_⟩
  intro w1 hC1 hm1
  refine a_aload_n hX dL_law_1426 rfl ?_
  refine a_aload_n hX dL_law_1427 rfl ?_
  refine a_iload_n hX dL_law_1428 rfl ?_
  refine a_iconst (nI 1) hX dL_law_1429 (by decide) ?_
  refine a_iadd hX dL_law_1430 ?_
  refine a_sld (9 * t + 1) hX hS (nI_ad _ _) (by omega) dL_law_1431 ?_
  refine a_callV [_] hX c_X8_ring mi_X8_ring mv_X8_ring se_X8_ring (klt rfl (by decide)) (adr_lt (kd_lt rfl (by decide))) (cell_8 rfl) rfl li_L_135 (by decide) rfl rfl (Nat.le_of_ble_eq_true rfl) (fun _ => ⟨by omega, by omega⟩) dL_law_1432 ⟨g, _, rfl, hM.frM hm1, ho, ?_⟩
  intro w2 hM2 hf2
  refine a_icmp_eq 1648 hX dL_law_1435 (by decide) (fun _ => ?_) (fun z => absurd rfl z)
  exact kk _ w2 _ _ (hC1.frC hf2) hM2 ho (by omega) (by omega)
theorem lc_check (hX : Kx X cL_law RL 4 10) (hS : Sx X sc L sv) (hB : 600000 ≤ (xR X).cells ∧ 7302250 ≤ (xR X).slots) (hC : CI g w) (hM : MD g w) (ho : okS g) (ht : 9 * t + 9 ≤ L) (hk : k ≤ 248 + t) (hn : n ≤ 165200 + 9 * t) (kk : LKw X sc t) : A X k n 1440 (LSw X sc t) [] w := by
  have hL := hS.2.2.2
  refine a_aload_n hX dL_law_1440 rfl ?_
  refine a_aload_n hX dL_law_1441 rfl ?_
  refine a_iload_n hX dL_law_1442 rfl ?_
  refine a_iconst (nI 1) hX dL_law_1443 (by decide) ?_
  refine a_iadd hX dL_law_1444 ?_
  refine a_sld (9 * t + 1) hX hS (nI_ad _ _) (by omega) dL_law_1445 ?_
  refine a_aload_n hX dL_law_1446 rfl ?_
  refine a_iload_n hX dL_law_1447 rfl ?_
  refine a_iconst (nI 2) hX dL_law_1448 (by decide) ?_
  refine a_iadd hX dL_law_1449 ?_
  refine a_sld (9 * t + 2) hX hS (nI_ad _ _) (by omega) dL_law_1450 ?_
  refine a_aload_n hX dL_law_1451 rfl ?_
  refine a_iload_n hX dL_law_1452 rfl ?_
  refine a_iconst (nI 3) hX dL_law_1453 (by decide) ?_
  refine a_iadd hX dL_law_1454 ?_
  refine a_sld (9 * t + 3) hX hS (nI_ad _ _) (by omega) dL_law_1455 ?_
  refine a_aload_n hX dL_law_1456 rfl ?_
  refine a_iload_n hX dL_law_1457 rfl ?_
  refine a_iconst (nI 4) hX dL_law_1458 (by decide) ?_
  refine a_iadd hX dL_law_1459 ?_
  refine a_sld (9 * t + 4) hX hS (nI_ad _ _) (by omega) dL_law_1460 ?_
  refine a_callV [_, _, _, _] hX c_X7_check mi_X7_check mv_X7_check se_X7_check (klt rfl (by decide)) (adr_lt (kd_lt rfl (by decide))) (cell_7 rfl) rfl li_L_136 (by decide) rfl rfl (Nat.le_of_ble_eq_true rfl) (fun _ => ⟨by omega, by omega⟩) dL_law_1461 ⟨g, _, _, _, _, rfl, hC, ho, ?_⟩
  intro w1 hC1 hm1
  refine a_aload_n hX dL_law_1464 rfl ?_
  refine a_aload_n hX dL_law_1465 rfl ?_
  refine a_iload_n hX dL_law_1466 rfl ?_
  refine a_iconst (nI 1) hX dL_law_1467 (by decide) ?_
  refine a_iadd hX dL_law_1468 ?_
  refine a_sld (9 * t + 1) hX hS (nI_ad _ _) (by omega) dL_law_1469 ?_
  refine a_aload_n hX dL_law_1470 rfl ?_
  refine a_iload_n hX dL_law_1471 rfl ?_
  refine a_iconst (nI 2) hX dL_law_1472 (by decide) ?_
  refine a_iadd hX dL_law_1473 ?_
  refine a_sld (9 * t + 2) hX hS (nI_ad _ _) (by omega) dL_law_1474 ?_
  refine a_aload_n hX dL_law_1475 rfl ?_
  refine a_iload_n hX dL_law_1476 rfl ?_
  refine a_iconst (nI 3) hX dL_law_1477 (by decide) ?_
  refine a_iadd hX dL_law_1478 ?_
  refine a_sld (9 * t + 3) hX hS (nI_ad _ _) (by omega) dL_law_1479 ?_
  refine a_aload_n hX dL_law_1480 rfl ?_
  refine a_iload_n hX dL_law_1481 rfl ?_
  refine a_iconst (nI 4) hX dL_law_1482 (by decide) ?_
  refine a_iadd hX dL_law_1483 ?_
  refine a_sld (9 * t + 4) hX hS (nI_ad _ _) (by omega) dL_law_1484 ?_
  refine a_callV [_, _, _, _] hX c_X8_check mi_X8_check mv_X8_check se_X8_check (klt rfl (by decide)) (adr_lt (kd_lt rfl (by decide))) (cell_8 rfl) rfl li_L_139 (by decide) rfl rfl (Nat.le_of_ble_eq_true rfl) (fun _ => ⟨by omega, by omega⟩) dL_law_1485 ⟨g, _, _, _, _, rfl, hM.frM hm1, ho, ?_⟩
  intro w2 hM2 hf2
  refine a_icmp_eq 1648 hX dL_law_1488 (by decide) (fun _ => ?_) (fun z => absurd rfl z)
  exact kk _ w2 _ _ (hC1.frC hf2) hM2 ho (by omega) (by omega)
theorem lc_image (hX : Kx X cL_law RL 4 10) (hS : Sx X sc L sv) (hB : 600000 ≤ (xR X).cells ∧ 7302250 ≤ (xR X).slots) (hC : CI g w) (hM : MD g w) (ho : okS g) (ht : 9 * t + 9 ≤ L) (hk : k ≤ 248 + t) (hn : n ≤ 165200 + 9 * t) (kk : LKw X sc t) : A X k n 1493 (LSw X sc t) [] w := by
  have hL := hS.2.2.2
  refine a_aload_n hX dL_law_1493 rfl ?_
  refine a_aload_n hX dL_law_1494 rfl ?_
  refine a_iload_n hX dL_law_1495 rfl ?_
  refine a_iconst (nI 1) hX dL_law_1496 (by decide) ?_
  refine a_iadd hX dL_law_1497 ?_
  refine a_sld (9 * t + 1) hX hS (nI_ad _ _) (by omega) dL_law_1498 ?_
  refine a_aload_n hX dL_law_1499 rfl ?_
  refine a_iload_n hX dL_law_1500 rfl ?_
  refine a_iconst (nI 2) hX dL_law_1501 (by decide) ?_
  refine a_iadd hX dL_law_1502 ?_
  refine a_sld (9 * t + 2) hX hS (nI_ad _ _) (by omega) dL_law_1503 ?_
  refine a_callV [_, _] hX c_X7_image mi_X7_image mv_X7_image se_X7_image (klt rfl (by decide)) (adr_lt (kd_lt rfl (by decide))) (cell_7 rfl) rfl li_L_140 (by decide) rfl rfl (Nat.le_of_ble_eq_true rfl) (fun _ => ⟨by omega, by omega⟩) dL_law_1504 ⟨g, _, _, rfl, hC, ho, ?_⟩
  intro w1 hC1 hm1
  refine a_aload_n hX dL_law_1507 rfl ?_
  refine a_aload_n hX dL_law_1508 rfl ?_
  refine a_iload_n hX dL_law_1509 rfl ?_
  refine a_iconst (nI 1) hX dL_law_1510 (by decide) ?_
  refine a_iadd hX dL_law_1511 ?_
  refine a_sld (9 * t + 1) hX hS (nI_ad _ _) (by omega) dL_law_1512 ?_
  refine a_aload_n hX dL_law_1513 rfl ?_
  refine a_iload_n hX dL_law_1514 rfl ?_
  refine a_iconst (nI 2) hX dL_law_1515 (by decide) ?_
  refine a_iadd hX dL_law_1516 ?_
  refine a_sld (9 * t + 2) hX hS (nI_ad _ _) (by omega) dL_law_1517 ?_
  refine a_callV [_, _] hX c_X8_image mi_X8_image mv_X8_image se_X8_image (klt rfl (by decide)) (adr_lt (kd_lt rfl (by decide))) (cell_8 rfl) rfl li_L_143 (by decide) rfl rfl (Nat.le_of_ble_eq_true rfl) (fun _ => ⟨by omega, by omega⟩) dL_law_1518 ⟨g, _, _, rfl, hM.frM hm1, ho, ?_⟩
  intro w2 hM2 hf2
  refine a_icmp_eq 1648 hX dL_law_1521 (by decide) (fun _ => ?_) (fun z => absurd rfl z)
  exact kk _ w2 _ _ (hC1.frC hf2) hM2 ho (by omega) (by omega)
theorem lc_take (hX : Kx X cL_law RL 4 10) (hS : Sx X sc L sv) (hB : 600000 ≤ (xR X).cells ∧ 7302250 ≤ (xR X).slots) (hC : CI g w) (hM : MD g w) (ho : okS g) (ht : 9 * t + 9 ≤ L) (hk : k ≤ 248 + t) (hn : n ≤ 165200 + 9 * t) (kk : LKw X sc t) : A X k n 1526 (LSw X sc t) [] w := by
  have hL := hS.2.2.2
  refine a_aload_n hX dL_law_1526 rfl ?_
  refine a_aload_n hX dL_law_1527 rfl ?_
  refine a_iload_n hX dL_law_1528 rfl ?_
  refine a_iconst (nI 1) hX dL_law_1529 (by decide) ?_
  refine a_iadd hX dL_law_1530 ?_
  refine a_sld (9 * t + 1) hX hS (nI_ad _ _) (by omega) dL_law_1531 ?_
  refine a_aload_n hX dL_law_1532 rfl ?_
  refine a_iload_n hX dL_law_1533 rfl ?_
  refine a_iconst (nI 2) hX dL_law_1534 (by decide) ?_
  refine a_iadd hX dL_law_1535 ?_
  refine a_sld (9 * t + 2) hX hS (nI_ad _ _) (by omega) dL_law_1536 ?_
  refine a_aload_n hX dL_law_1537 rfl ?_
  refine a_iload_n hX dL_law_1538 rfl ?_
  refine a_iconst (nI 3) hX dL_law_1539 (by decide) ?_
  refine a_iadd hX dL_law_1540 ?_
  refine a_sld (9 * t + 3) hX hS (nI_ad _ _) (by omega) dL_law_1541 ?_
  refine a_aload_n hX dL_law_1542 rfl ?_
  refine a_iload_n hX dL_law_1543 rfl ?_
  refine a_iconst (nI 4) hX dL_law_1544 (by decide) ?_
  refine a_iadd hX dL_law_1545 ?_
  refine a_sld (9 * t + 4) hX hS (nI_ad _ _) (by omega) dL_law_1546 ?_
  refine a_aload_n hX dL_law_1547 rfl ?_
  refine a_iload_n hX dL_law_1548 rfl ?_
  refine a_iconst (nI 5) hX dL_law_1549 (by decide) ?_
  refine a_iadd hX dL_law_1550 ?_
  refine a_sld (9 * t + 5) hX hS (nI_ad _ _) (by omega) dL_law_1551 ?_
  refine a_aload_n hX dL_law_1552 rfl ?_
  refine a_iload_n hX dL_law_1553 rfl ?_
  refine a_bipush (nI 6) hX dL_law_1554 (by decide) ?_
  refine a_iadd hX dL_law_1556 ?_
  refine a_sld (9 * t + 6) hX hS (nI_ad _ _) (by omega) dL_law_1557 ?_
  refine a_aload_n hX dL_law_1558 rfl ?_
  refine a_iload_n hX dL_law_1559 rfl ?_
  refine a_bipush (nI 7) hX dL_law_1560 (by decide) ?_
  refine a_iadd hX dL_law_1562 ?_
  refine a_sld (9 * t + 7) hX hS (nI_ad _ _) (by omega) dL_law_1563 ?_
  refine a_aload_n hX dL_law_1564 rfl ?_
  refine a_iload_n hX dL_law_1565 rfl ?_
  refine a_bipush (nI 8) hX dL_law_1566 (by decide) ?_
  refine a_iadd hX dL_law_1568 ?_
  refine a_sld (9 * t + 8) hX hS (nI_ad _ _) (by omega) dL_law_1569 ?_
  refine a_callV [_, _, _, _, _, _, _, _] hX c_X7_take mi_X7_take mv_X7_take se_X7_take (klt rfl (by decide)) (adr_lt (kd_lt rfl (by decide))) (cell_7 rfl) rfl li_L_144 (by decide) rfl rfl (Nat.le_of_ble_eq_true rfl) (fun _ => ⟨by omega, by omega⟩) dL_law_1570 ⟨g, _, _, _, _, _, _, _, _, rfl, hC, ho, ?_⟩
  intro w1 hC1 hm1
  refine a_aload_n hX dL_law_1573 rfl ?_
  refine a_aload_n hX dL_law_1574 rfl ?_
  refine a_iload_n hX dL_law_1575 rfl ?_
  refine a_iconst (nI 1) hX dL_law_1576 (by decide) ?_
  refine a_iadd hX dL_law_1577 ?_
  refine a_sld (9 * t + 1) hX hS (nI_ad _ _) (by omega) dL_law_1578 ?_
  refine a_aload_n hX dL_law_1579 rfl ?_
  refine a_iload_n hX dL_law_1580 rfl ?_
  refine a_iconst (nI 2) hX dL_law_1581 (by decide) ?_
  refine a_iadd hX dL_law_1582 ?_
  refine a_sld (9 * t + 2) hX hS (nI_ad _ _) (by omega) dL_law_1583 ?_
  refine a_aload_n hX dL_law_1584 rfl ?_
  refine a_iload_n hX dL_law_1585 rfl ?_
  refine a_iconst (nI 3) hX dL_law_1586 (by decide) ?_
  refine a_iadd hX dL_law_1587 ?_
  refine a_sld (9 * t + 3) hX hS (nI_ad _ _) (by omega) dL_law_1588 ?_
  refine a_aload_n hX dL_law_1589 rfl ?_
  refine a_iload_n hX dL_law_1590 rfl ?_
  refine a_iconst (nI 4) hX dL_law_1591 (by decide) ?_
  refine a_iadd hX dL_law_1592 ?_
  refine a_sld (9 * t + 4) hX hS (nI_ad _ _) (by omega) dL_law_1593 ?_
  refine a_aload_n hX dL_law_1594 rfl ?_
  refine a_iload_n hX dL_law_1595 rfl ?_
  refine a_iconst (nI 5) hX dL_law_1596 (by decide) ?_
  refine a_iadd hX dL_law_1597 ?_
  refine a_sld (9 * t + 5) hX hS (nI_ad _ _) (by omega) dL_law_1598 ?_
  refine a_aload_n hX dL_law_1599 rfl ?_
  refine a_iload_n hX dL_law_1600 rfl ?_
  refine a_bipush (nI 6) hX dL_law_1601 (by decide) ?_
  refine a_iadd hX dL_law_1603 ?_
  refine a_sld (9 * t + 6) hX hS (nI_ad _ _) (by omega) dL_law_1604 ?_
  refine a_aload_n hX dL_law_1605 rfl ?_
  refine a_iload_n hX dL_law_1606 rfl ?_
  refine a_bipush (nI 7) hX dL_law_1607 (by decide) ?_
  refine a_iadd hX dL_law_1609 ?_
  refine a_sld (9 * t + 7) hX hS (nI_ad _ _) (by omega) dL_law_1610 ?_
  refine a_aload_n hX dL_law_1611 rfl ?_
  refine a_iload_n hX dL_law_1612 rfl ?_
  refine a_bipush (nI 8) hX dL_law_1613 (by decide) ?_
  refine a_iadd hX dL_law_1615 ?_
  refine a_sld (9 * t + 8) hX hS (nI_ad _ _) (by omega) dL_law_1616 ?_
  refine a_callV [_, _, _, _, _, _, _, _] hX c_X8_take mi_X8_take mv_X8_take se_X8_take (klt rfl (by decide)) (adr_lt (kd_lt rfl (by decide))) (cell_8 rfl) rfl li_L_148 (by decide) rfl rfl (Nat.le_of_ble_eq_true rfl) (fun _ => ⟨by omega, by omega⟩) dL_law_1617 ⟨g, _, _, _, _, _, _, _, _, rfl, hM.frM hm1, ho, ?_⟩
  intro w2 hM2 hf2
  refine a_icmp_eq 1648 hX dL_law_1620 (by decide) (fun _ => ?_) (fun z => absurd rfl z)
  exact kk _ w2 _ _ (hC1.frC hf2) hM2 (kp_take ho) (by omega) (by omega)
theorem lc_count (hX : Kx X cL_law RL 4 10) (hS : Sx X sc L sv) (hB : 600000 ≤ (xR X).cells ∧ 7302250 ≤ (xR X).slots) (hC : CI g w) (hM : MD g w) (ho : okS g) (ht : 9 * t + 9 ≤ L) (hk : k ≤ 248 + t) (hn : n ≤ 165200 + 9 * t) (kk : LKw X sc t) : A X k n 1625 (LSw X sc t) [] w := by
  have hL := hS.2.2.2
  refine a_aload_n hX dL_law_1625 rfl ?_
  refine a_aload_n hX dL_law_1626 rfl ?_
  refine a_iload_n hX dL_law_1627 rfl ?_
  refine a_iconst (nI 1) hX dL_law_1628 (by decide) ?_
  refine a_iadd hX dL_law_1629 ?_
  refine a_sld (9 * t + 1) hX hS (nI_ad _ _) (by omega) dL_law_1630 ?_
  refine a_callV [_] hX c_X7_count mi_X7_count mv_X7_count se_X7_count (klt rfl (by decide)) (adr_lt (kd_lt rfl (by decide))) (cell_7 rfl) rfl li_L_149 (by decide) rfl rfl (Nat.le_of_ble_eq_true rfl) (fun _ => ⟨by omega, by omega⟩) dL_law_1631 ⟨g, _, rfl, hC, ho, ?_⟩
  intro w1 hC1 hm1
  refine a_aload_n hX dL_law_1634 rfl ?_
  refine a_aload_n hX dL_law_1635 rfl ?_
  refine a_iload_n hX dL_law_1636 rfl ?_
  refine a_iconst (nI 1) hX dL_law_1637 (by decide) ?_
  refine a_iadd hX dL_law_1638 ?_
  refine a_sld (9 * t + 1) hX hS (nI_ad _ _) (by omega) dL_law_1639 ?_
  refine a_callV [_] hX c_X8_count mi_X8_count mv_X8_count se_X8_count (klt rfl (by decide)) (adr_lt (kd_lt rfl (by decide))) (cell_8 rfl) rfl li_L_152 (by decide) rfl rfl (Nat.le_of_ble_eq_true rfl) (fun _ => ⟨by omega, by omega⟩) dL_law_1640 ⟨g, _, rfl, hM.frM hm1, ho, ?_⟩
  intro w2 hM2 hf2
  refine a_icmp_eq 1648 hX dL_law_1643 (by decide) (fun _ => ?_) (fun z => absurd rfl z)
  exact kk _ w2 _ _ (hC1.frC hf2) hM2 ho (by omega) (by omega)
end CASES
theorem law_loop {X : Cx} {sc L : Nat} {sv : Nat → Int32} (hX : Kx X cL_law RL 4 10) (hS : Sx X sc L sv) (hB : 600000 ≤ (xR X).cells ∧ 7302250 ≤ (xR X).slots) (hend : ∀ (w : St) (k n t : Nat), A X k n 1655 (LSw X sc t) [.int 1] w) : ∀ (m t : Nat) (g : Sg) (w : St) (k n : Nat), t + m = 513 → CI g w → MD g w → okS g → k ≤ 248 + t → n ≤ 165200 + 9 * t → A X k n 18 (LSw X sc t) [] w := by
  intro m
  have hL := hS.2.2.2
  induction m with
  | zero =>
    intro t g w k n htm hC hM ho hk hn
    refine a_iload_n hX dL_law_18 rfl ?_
    refine a_aload_n hX dL_law_19 rfl ?_
    refine a_slen hX hS dL_law_20 ?_
    refine a_bipush 9 hX dL_law_21 (by decide) ?_
    refine a_isub hX dL_law_23 ?_
    refine a_icmp_gt 1654 hX dL_law_24 (by decide) (fun _ => ?_) (fun hc => ?_)
    · refine a_iconst 1 hX dL_law_1654 (by decide) ?_
      exact hend w k n t
    have ht : 9 * t + 9 ≤ L := by
      have h1 := Int32.not_lt.mp hc
      have h9 : (9 : Int32).toInt = 9 := by decide
      have hb := nI_toInt (n := L) (by omega)
      have hb2 := nI_toInt (n := 9 * t) (by omega)
      rw [Int32.le_iff_toInt_le, i_sub (by omega) (by omega), hb, hb2, h9] at h1
      omega
    exact absurd ht (by omega)
  | succ m ih =>
    intro t g w k n htm hC hM ho hk hn
    refine a_iload_n hX dL_law_18 rfl ?_
    refine a_aload_n hX dL_law_19 rfl ?_
    refine a_slen hX hS dL_law_20 ?_
    refine a_bipush 9 hX dL_law_21 (by decide) ?_
    refine a_isub hX dL_law_23 ?_
    refine a_icmp_gt 1654 hX dL_law_24 (by decide) (fun _ => ?_) (fun hc => ?_)
    · refine a_iconst 1 hX dL_law_1654 (by decide) ?_
      exact hend w k n t
    have ht : 9 * t + 9 ≤ L := by
      have h1 := Int32.not_lt.mp hc
      have h9 : (9 : Int32).toInt = 9 := by decide
      have hb := nI_toInt (n := L) (by omega)
      have hb2 := nI_toInt (n := 9 * t) (by omega)
      rw [Int32.le_iff_toInt_le, i_sub (by omega) (by omega), hb, hb2, h9] at h1
      omega
    have kk : LKw X sc t := by
      intro g2 w2 k2 n2 hC2 hM2 ho2 hk2 hn2
      refine a_iinc (nI (9 * (t + 1))) hX dL_law_1648 rfl (show nI (9 * t) + nI 9 = _ by rw [nI_ad]; rfl) rfl ?_
      refine a_goto 18 hX dL_law_1651 (by decide) ?_
      exact ih (t + 1) g2 w2 k2 n2 (by omega) hC2 hM2 ho2 hk2 hn2
    refine a_aload_n hX dL_law_27 rfl ?_
    refine a_iload_n hX dL_law_28 rfl ?_
    refine a_sld (9 * t) hX hS rfl (by omega) dL_law_29 ?_
    refine a_bipush 31 hX dL_law_30 (by decide) ?_
    refine a_iand hX dL_law_32 ?_
    obtain ⟨c, hc32, hce⟩ := and31 (sv (9 * t))
    rw [hce]
    match c, hc32 with
    | 0, _ => exact a_tableIn 176 hX dL_law_33 (by decide) (by decide) rfl (by decide) (lc_person hX hS hB hC hM ho ht hk hn kk)
    | 1, _ => exact a_tableIn 189 hX dL_law_33 (by decide) (by decide) rfl (by decide) (lc_today hX hS hB hC hM ho ht hk hn kk)
    | 2, _ => exact a_tableIn 212 hX dL_law_33 (by decide) (by decide) rfl (by decide) (lc_as hX hS hB hC hM ho ht hk hn kk)
    | 3, _ => exact a_tableIn 235 hX dL_law_33 (by decide) (by decide) rfl (by decide) (lc_letter hX hS hB hC hM ho ht hk hn kk)
    | 4, _ => exact a_tableIn 268 hX dL_law_33 (by decide) (by decide) rfl (by decide) (lc_term hX hS hB hC hM ho ht hk hn kk)
    | 5, _ => exact a_tableIn 321 hX dL_law_33 (by decide) (by decide) rfl (by decide) (lc_waits hX hS hB hC hM ho ht hk hn kk)
    | 6, _ => exact a_tableIn 396 hX dL_law_33 (by decide) (by decide) rfl (by decide) (lc_stay hX hS hB hC hM ho ht hk hn kk)
    | 7, _ => exact a_tableIn 471 hX dL_law_33 (by decide) (by decide) rfl (by decide) (lc_quash hX hS hB hC hM ho ht hk hn kk)
    | 8, _ => exact a_tableIn 514 hX dL_law_33 (by decide) (by decide) rfl (by decide) (lc_month hX hS hB hC hM ho ht hk hn kk)
    | 9, _ => exact a_tableIn 583 hX dL_law_33 (by decide) (by decide) rfl (by decide) (lc_held hX hS hB hC hM ho ht hk hn kk)
    | 10, _ => exact a_tableIn 636 hX dL_law_33 (by decide) (by decide) rfl (by decide) (lc_tear hX hS hB hC hM ho ht hk hn kk)
    | 11, _ => exact a_tableIn 669 hX dL_law_33 (by decide) (by decide) rfl (by decide) (lc_copy hX hS hB hC hM ho ht hk hn kk)
    | 12, _ => exact a_tableIn 722 hX dL_law_33 (by decide) (by decide) rfl (by decide) (lc_off hX hS hB hC hM ho ht hk hn kk)
    | 13, _ => exact a_tableIn 775 hX dL_law_33 (by decide) (by decide) rfl (by decide) (lc_back hX hS hB hC hM ho ht hk hn kk)
    | 14, _ => exact a_tableIn 818 hX dL_law_33 (by decide) (by decide) rfl (by decide) (lc_grant hX hS hB hC hM ho ht hk hn kk)
    | 15, _ => exact a_tableIn 851 hX dL_law_33 (by decide) (by decide) rfl (by decide) (lc_recall hX hS hB hC hM ho ht hk hn kk)
    | 16, _ => exact a_tableIn 904 hX dL_law_33 (by decide) (by decide) rfl (by decide) (lc_kind hX hS hB hC hM ho ht hk hn kk)
    | 17, _ => exact a_tableIn 937 hX dL_law_33 (by decide) (by decide) rfl (by decide) (lc_begins hX hS hB hC hM ho ht hk hn kk)
    | 18, _ => exact a_tableIn 996 hX dL_law_33 (by decide) (by decide) rfl (by decide) (lc_ends hX hS hB hC hM ho ht hk hn kk)
    | 19, _ => exact a_tableIn 1055 hX dL_law_33 (by decide) (by decide) rfl (by decide) (lc_counted hX hS hB hC hM ho ht hk hn kk)
    | 20, _ => exact a_tableIn 1124 hX dL_law_33 (by decide) (by decide) rfl (by decide) (lc_taken hX hS hB hC hM ho ht hk hn kk)
    | 21, _ => exact a_tableIn 1167 hX dL_law_33 (by decide) (by decide) rfl (by decide) (lc_why hX hS hB hC hM ho ht hk hn kk)
    | 22, _ => exact a_tableIn 1210 hX dL_law_33 (by decide) (by decide) rfl (by decide) (lc_by hX hS hB hC hM ho ht hk hn kk)
    | 23, _ => exact a_tableIn 1253 hX dL_law_33 (by decide) (by decide) rfl (by decide) (lc_full hX hS hB hC hM ho ht hk hn kk)
    | 24, _ => exact a_tableIn 1302 hX dL_law_33 (by decide) (by decide) rfl (by decide) (lc_watched hX hS hB hC hM ho ht hk hn kk)
    | 25, _ => exact a_tableIn 1361 hX dL_law_33 (by decide) (by decide) rfl (by decide) (lc_open hX hS hB hC hM ho ht hk hn kk)
    | 26, _ => exact a_tableIn 1394 hX dL_law_33 (by decide) (by decide) rfl (by decide) (lc_over hX hS hB hC hM ho ht hk hn kk)
    | 27, _ => exact a_tableIn 1417 hX dL_law_33 (by decide) (by decide) rfl (by decide) (lc_ring hX hS hB hC hM ho ht hk hn kk)
    | 28, _ => exact a_tableIn 1440 hX dL_law_33 (by decide) (by decide) rfl (by decide) (lc_check hX hS hB hC hM ho ht hk hn kk)
    | 29, _ => exact a_tableIn 1493 hX dL_law_33 (by decide) (by decide) rfl (by decide) (lc_image hX hS hB hC hM ho ht hk hn kk)
    | 30, _ => exact a_tableIn 1526 hX dL_law_33 (by decide) (by decide) rfl (by decide) (lc_take hX hS hB hC hM ho ht hk hn kk)
    | 31, _ => exact a_tableIn 1625 hX dL_law_33 (by decide) (by decide) rfl (by decide) (lc_count hX hS hB hC hM ho ht hk hn kk)
    | c + 32, h => exact absurd h (by omega)
