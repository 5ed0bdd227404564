/-! the law's operations: the class and the model give the same, and stay alike -/
theorem LST.kept {D : va_G} {cA : Nat → ClassId} {U : Nat → Nat} {rg : Nat → Option Nat} {x : Nat → Int32} {f : Nat → Nat → Int32} {H H1 : Heap} {A1 : Nat → Prop} (h : LST D cA U rg x f H) (hA : aInj 189 U) (hk : ∀ q : Nat, q < H.size → ¬ A1 q → H1[q]? = H[q]?) (hn : ∀ q, aS 189 U q → ¬ A1 q) : LST D cA U rg x f H1 := by
  obtain ⟨c, z, rz, hd, ct, rs, dt, mf, mn, tc, tl, to, kd, fi, se, ta, nu, lc, ln, sv, er, R, hP⟩ := h
  exact LST_of (vP_fr (A := A1) hP hk (uw_n (A := A1) hA hn)) R
theorem mw_n {cA : Nat → ClassId} {A : Nat → Nat} {x : Nat → Int32} {f : Nat → Nat → Int32} {A1 : Nat → Prop} (hM : mInj A) (h : ∀ q, MA A q → ¬ A1 q) : ∀ q ∈ mw cA A x f, ¬ A1 q.1 := fun q hm => by
  obtain ⟨k, hk⟩ := List.mem_iff_getElem?.mp hm
  exact h q.1 ((mD (cA := cA) (x := x) (f := f) hM).2 k q hk)
theorem gWSL {w0 : Cond} {own : String} {idx : Nat} {y : MethodName} {b : ByteArray} {n : Nat} {r : Option FieldType} {hh : List (Nat × Nat × Nat × Nat)} (h1 : Cond.methodLink own idx y ∈ gG) (h2 : Cond.static y ∈ gG) (h3 : Cond.initialized y.cls ∈ gG) (h5 : Cond.codeWith y b n r hh ∈ gG) : GoodIn (w0 :: gG) (va_wsS own idx y (gwL y b n r hh)) := by
  intro w hw
  have k : ∀ {w : Cond}, w ∈ gG → w ∈ w0 :: gG ∧ ((w.onTables && w.keeps) = true ∨ ∃ ty, w = .arrayClass ty) := fun h => ⟨List.mem_cons_of_mem _ h, gw_good h⟩
  rcases List.mem_append.mp hw with h | h
  · rcases List.mem_cons.mp h with rfl | h
    · exact k h1
    rcases List.mem_cons.mp h with rfl | h
    · exact k h2
    rcases List.mem_cons.mp h with rfl | h
    · exact k h3
    exact absurd h List.not_mem_nil
  · rcases List.mem_cons.mp h with rfl | h
    · exact k h5
    · exact k h
theorem lp_in {i L : Nat} (h : i < L) (hL : L ≤ 1536) : vp_in (nI i) L := by
  rw [vp_in_iff, nI_toInt (by omega)]
  omega
def lpB (a : Int32) : Bool := decide (¬ a = 0)
theorem RR_lc {c z : CS} {rz : Nat → CS} {hd ct : Nat} {rs dt : Int32} {tc : Nat → Nat} {tl : Nat} {lc : Nat → Int32} {ln : Nat} {sv : Bool} {er : Int32} {x : Nat → Int32} {f : Nat → Nat → Int32} (R : RR c z rz hd ct rs dt tc tl lc ln sv er x f) {k : Nat} (hk : k < ln) : (lc k).toNatClampNeg < 65536 ∧ lc k = nI (lc k).toNatClampNeg := by
  obtain ⟨_, w, hw, e⟩ := R.L.2.2 k hk
  rw [e, nI_clamp (show w < 2 ^ 31 by omega)]
  exact ⟨hw, rfl⟩
theorem RR_ch {c z : CS} {rz : Nat → CS} {hd ct : Nat} {rs dt : Int32} {tc : Nat → Nat} {tl : Nat} {lc : Nat → Int32} {ln : Nat} {sv : Bool} {er : Int32} {x : Nat → Int32} {f : Nat → Nat → Int32} (R : RR c z rz hd ct rs dt tc tl lc ln sv er x f) : ∀ j, j < ln → ∃ w, w < 65536 ∧ f 5 j = nI w := fun j hj => by
  obtain ⟨e, w, hw, e2⟩ := R.L.2.2 j hj
  exact ⟨w, hw, by rw [← e, e2]⟩
theorem RR_ml {c z : CS} {rz : Nat → CS} {hd ct : Nat} {rs dt : Int32} {tc : Nat → Nat} {tl : Nat} {lc : Nat → Int32} {ln : Nat} {sv : Bool} {er : Int32} {x : Nat → Int32} {f : Nat → Nat → Int32} (R : RR c z rz hd ct rs dt tc tl lc ln sv er x f) {q : Nat} (hq : q < zcn c) : ∃ mer ter : Nat, mer ≤ 100 ∧ ter ≤ 99 ∧ zK c 0 q = nI mer ∧ zK c 1 q = nI ter ∧ (zK c 3 q ≤ 0 → zK c 3 q = 0) := by
  obtain ⟨⟨a, ha, ea⟩, ⟨b, hb, eb⟩, _, h3, _⟩ := R.I.c hq
  refine ⟨a, b, ha, hb, ea, eb, fun h => ?_⟩
  rcases h3 with ⟨e, _⟩ | ⟨_, e | e, _⟩
  · rw [e]; exact nI_0
  · rw [e] at h; exact absurd h (by decide +kernel)
  · rw [e] at h; exact absurd h (by decide +kernel)
theorem RR_ln {c z : CS} {rz : Nat → CS} {hd ct : Nat} {rs dt : Int32} {tc : Nat → Nat} {tl : Nat} {lc : Nat → Int32} {ln : Nat} {sv : Bool} {er : Int32} {x : Nat → Int32} {f : Nat → Nat → Int32} (R : RR c z rz hd ct rs dt tc tl lc ln sv er x f) : ∀ q, q < zcn c → ∃ a b : Nat, a ≤ 100 ∧ b ≤ 99 ∧ gof (f 0) q 0 = nI a ∧ gof (f 0) q 1 = nI b := fun q hq => by
  obtain ⟨⟨a, ha, ea⟩, ⟨b, hb, eb⟩, _⟩ := R.I.c hq
  exact ⟨a, b, ha, hb, by rw [R.G.of hq (by decide)]; exact ea, by rw [R.G.of hq (by decide)]; exact eb⟩
theorem RR_low {c z : CS} {rz : Nat → CS} {hd ct : Nat} {rs dt : Int32} {tc : Nat → Nat} {tl : Nat} {lc : Nat → Int32} {ln : Nat} {sv : Bool} {er : Int32} {x : Nat → Int32} {f : Nat → Nat → Int32} (R : RR c z rz hd ct rs dt tc tl lc ln sv er x f) : ∀ q, q < zcn c → ¬ gof (f 0) q 2 = 0 → ∃ j, fnd (hs (gof (f 0) q 2)) 9 = some j := fun q hq h => by
  rw [R.G.of hq (by decide)] at h ⊢
  obtain ⟨j, e⟩ := (low_is R.I hq (show hpF (zK c) q = true by unfold hpF; simp [h])).2
  exact ⟨j, fnd_mo e 9 R.I.jn⟩
theorem RR_rk {c z : CS} {rz : Nat → CS} {hd ct : Nat} {rs dt : Int32} {tc : Nat → Nat} {tl : Nat} {lc : Nat → Int32} {ln : Nat} {sv : Bool} {er : Int32} {x : Nat → Int32} {f : Nat → Nat → Int32} (R : RR c z rz hd ct rs dt tc tl lc ln sv er x f) : ∀ k : Nat, k < fb_ct (rlM (f 0)) (zcn c) → ∃ b, raM (f 0) (zcn c) (nI k) = some b := fun k hk => by
  rw [R.G.hc R.I] at hk
  have h10 := R.I.ok.2.2.1
  exact ⟨_, by rw [R.G.ra R.I, if_pos (isIx_t hk (by omega))]⟩
theorem lp_bool {p : Program} {l : Launch} {e : Env} {R : Room} {s : State} {m : MethodId} {args : Array Value} {below : List Frame} {meth : Method} {c : Code} {H : Heap} {locs : List Loc} {cells slots : Nat} {Q : State → Prop} {cc : ByteArray} {pc : Nat} {ls : Array Slot} {rest : List Value} {a : Int32} (hx : p.tables.exec = Jvm.exec) (hb : c.code = cc) (h0 : decode cc pc = .ok (.ifCond .eq 7, 3)) (h3 : decode cc (pc + 3) = .ok (.iconst 1, 1)) (h4 : decode cc (pc + 4) = .ok (.goto 4, 3)) (h7 : decode cc (pc + 7) = .ok (.iconst 0, 1))
    (kk : W p l e R s m args below meth c H locs cells slots Q (F0 m (pc + 8) ls (.int (b2i (lpB a)) :: rest))) : W p l e R s m args below meth c H locs cells slots Q (F0 m pc ls (.int a :: rest)) := by
  refine lv_if_eq (tgt := pc + 7) hx hb h0 (by omega) (fun q => ?_) (fun q => ?_)
  · have h : lpB a = false := by unfold lpB; rw [decide_eq_false_iff_not]; exact fun h => h q
    refine lv_iconst (v := nI 0) hx hb h7 gc_0 ?_
    rw [h] at kk
    exact kk
  · have h : lpB a = true := decide_eq_true q
    refine lv_iconst (v := nI 1) hx hb h3 gc_1 ?_
    rw [h] at kk
    exact lv_goto (tgt := pc + 8) hx hb h4 (by omega) kk
theorem dc_self {a : UInt64} (h : FP.Core.dIsNaN a = false) : Op.cmpValue (FP.dcmp a a) .l = 0 := by
  rw [show FP.dcmp a a = some .eq from FP.Core.dcmp_self ((FP.Core.notNaN_iff a).mp h)]
  rfl
section GK10
variable {p : Program} {l : Launch} {e : Env} {R : Room} {s : State} {m : MethodId} {args : Array Value} {below : List Frame} {meth : Method} {c : Code} {H : Heap} {locs : List Loc} {cells slots : Nat} {Q : State → Prop}
variable {pc : Nat} {ls : Array Slot} {rest st0 : List Value} {a : Array Value} {A0 A1 : Nat → Prop} {H0 : Heap} {mc ms : Nat} {free : Addr → Prop}
theorem wr_calld {post : UInt64 → Heap → Prop} (hr : va_Run p l e R s m args below meth c H locs cells slots mc ms (F0 m pc ls st0) rest (wrD post A1 a) free) (hS : va_S A0 H0 H locs) (hA : ∀ q, q < H.size → A1 q → A0 q) (hf : ∀ q, free q → A0 q)
    (kk : ∀ (r : UInt64) (H1 : Heap) (locs1 : List Loc), post r H1 → H.size ≤ H1.size → (∀ q : Nat, q < H.size → ¬ A1 q → H1[q]? = H[q]?) → va_S A0 H0 H1 locs1 → W p l e R s m args below meth c H1 locs1 (cells + mc) (slots + ms) Q (F0 m (pc + 3) ls (.double r :: rest))) : W p l e R s m args below meth c H locs cells slots Q (F0 m pc ls st0) := by
  intro T hT X
  obtain ⟨v, st₀, t, T', L, h0, X', hL, e1, e2, ⟨⟨r, hv, hp⟩, hz, hk⟩, st⟩ := hr T hT X
  cases hv
  rw [h0] at hz hk
  obtain ⟨t2, a1, b1⟩ := kk r T'.heap (locs ++ L) (by rw [e1]; exact hp) (by rw [e1]; exact hz) (fun q h1 h2 => by rw [e1]; exact hk q h1 h2)
    ⟨Nat.le_trans hS.1 (by rw [e1]; exact hz), fun q h1 h2 => by rw [e1, hk q (Nat.lt_of_lt_of_le h1 hS.1) (fun z => h2 (hA q (Nat.lt_of_lt_of_le h1 hS.1) z))]; exact hS.2.1 q h1 h2, fun q hq => by
      rcases List.mem_append.mp hq with h | h
      · exact hS.2.2 q h
      · exact hf _ (hL q h)⟩ T' rfl X'
  exact ⟨t2, st t2 a1, b1⟩
theorem wr_callf {post : UInt32 → Heap → Prop} (hr : va_Run p l e R s m args below meth c H locs cells slots mc ms (F0 m pc ls st0) rest (wrF post A1 a) free) (hS : va_S A0 H0 H locs) (hA : ∀ q, q < H.size → A1 q → A0 q) (hf : ∀ q, free q → A0 q)
    (kk : ∀ (r : UInt32) (H1 : Heap) (locs1 : List Loc), post r H1 → H.size ≤ H1.size → (∀ q : Nat, q < H.size → ¬ A1 q → H1[q]? = H[q]?) → va_S A0 H0 H1 locs1 → W p l e R s m args below meth c H1 locs1 (cells + mc) (slots + ms) Q (F0 m (pc + 3) ls (.float r :: rest))) : W p l e R s m args below meth c H locs cells slots Q (F0 m pc ls st0) := by
  intro T hT X
  obtain ⟨v, st₀, t, T', L, h0, X', hL, e1, e2, ⟨⟨r, hv, hp⟩, hz, hk⟩, st⟩ := hr T hT X
  cases hv
  rw [h0] at hz hk
  obtain ⟨t2, a1, b1⟩ := kk r T'.heap (locs ++ L) (by rw [e1]; exact hp) (by rw [e1]; exact hz) (fun q h1 h2 => by rw [e1]; exact hk q h1 h2)
    ⟨Nat.le_trans hS.1 (by rw [e1]; exact hz), fun q h1 h2 => by rw [e1, hk q (Nat.lt_of_lt_of_le h1 hS.1) (fun z => h2 (hA q (Nat.lt_of_lt_of_le h1 hS.1) z))]; exact hS.2.1 q h1 h2, fun q hq => by
      rcases List.mem_append.mp hq with h | h
      · exact hS.2.2 q h
      · exact hf _ (hL q h)⟩ T' rfl X'
  exact ⟨t2, st t2 a1, b1⟩
end GK10
theorem thM_f {x : Nat → Int32} {f : Nat → Nat → Int32} {jn cn : Nat} {v : Int32} : (thM x f jn cn v).2.2 = f := by
  unfold thM
  split <;> (try split) <;> rfl
theorem lg_same {x y : Int64} (h : x = y) : lg_cmp x y = 0 := by
  subst h
  unfold lg_cmp
  rw [if_neg (by simp only [gt_iff_lt, Int64.lt_iff_toInt_lt]; omega), if_pos rfl]
set_option maxHeartbeats 1000000 in
set_option maxRecDepth 100000 in
theorem c_X8_runT (l : Launch) (D : va_G) (cA : Nat → ClassId) (AE : Nat → Prop) (adK adV sa : Nat → Nat) (A : Nat → Nat) (x : Nat → Int32) (f : Nat → Nat → Int32) (ln : Nat) (hA : mInj A) (hl7 : x 7 = nI ln) (hl60 : ln ≤ 60) (hok : (itR (f 4) ln (f 8)).1 = true → ∀ k, k ≤ (itR (f 4) ln (f 8)).2.2.1 → (crY (rn0 x f ln) k).2.1 4 = 0 → mOk (crY (rn0 x f ln) k).2) (hpar : (itR (f 4) ln (f 8)).1 = true → ∀ k, k < (itR (f 4) ln (f 8)).2.2.1 → (crY (rn0 x f ln) k).2.1 4 = 0 → ∃ w : Nat, w ≤ 7 ∧ (crY (rn0 x f ln) k).2.2 8 (3 * k) = nI w) (htm : (itR (f 4) ln (f 8)).1 = true → ∀ k, k ≤ (itR (f 4) ln (f 8)).2.2.1 → (crY (rn0 x f ln) k).2.1 11 = nI (itR (f 4) ln (f 8)).2.2.1) (hcd : (itR (f 4) ln (f 8)).1 = true → ∀ k, k ≤ (itR (f 4) ln (f 8)).2.2.1 → (crY (rn0 x f ln) k).2.1 4 ≤ 0 → (crY (rn0 x f ln) k).2.1 4 = 0) (hFA : ∀ q, (MA A) q → AE q) : Met l yX8_run (gw yX8_run cX8_run 4 (some .int)) ({ frames := 7, cells := 0, slots := 0, locals := 184 } : Room) (gPx [.ref (A 0)] (fun H => va_P D vwCl (mw cA A x f) H) D cA AE adK adV sa) (wrI (fun r H => r = (rnM x f ln).1 ∧ va_P D vwCl (mw cA A ((rnM x f ln).2.1) ((rnM x f ln).2.2)) H) (MA A)) 0 0 (MA A) := by
  refine gOfx (by decide) (Nat.le_of_ble_eq_true rfl) ?_
  intro p e s m below meth c ls hx hb hml hr hlk hown hts hnm hP hK hE hl
  have hl : lv_has ls 4 [(0, .ref (A 0))] := hl
  have hD : va_D (MA A) (mw cA A x f) := mD hA
  have hS : va_S (MA A) s.heap s.heap [] := va_S.rf
  refine lv_aload_n hx hb dX8_run_0 rfl (lv_at hl 0 rfl) ?_
  refine wr_calli (va_runV (As := []) (rest := []) ⟨hx, hb, hml, hown, hts⟩ (c_X8_isText l D cA AE adK adV sa A (x) (f) (ln) hA hl7 hl60 hFA) (cwV 0 hts (gWV gm_45_19 gm_45_20 gm_45_21 gm_1_5 gm_45_22) rfl rfl rfl (by decide +kernel) ⟨Nat.le_of_ble_eq_true rfl, Nat.le_of_ble_eq_true rfl⟩) (gPreVx hK hE hS hFA (g_rf hK hP (ci := 10) (q0 := 0) rfl rfl) hP) rfl rfl hl.1 rfl (lv_room (Nat.le_of_ble_eq_true rfl)) dX8_run_1 ⟨by omega, by omega⟩) hS (fun q _ h => h) (fun q h => h) (fun r H locs hw9 hz9 hk9 hS => ?_)
  obtain ⟨rfl, hP⟩ := hw9
  have hP : va_P D vwCl (mw cA A (upd (upd (x) 10 (nI ((itR (f 4) ln (f 8)).2.1))) 11 (nI ((itR (f 4) ln (f 8)).2.2.1))) (va_up (f) 8 ((itR (f 4) ln (f 8)).2.2.2))) H := hP
  have hD : va_D (MA A) (mw cA A (upd (upd (x) 10 (nI ((itR (f 4) ln (f 8)).2.1))) 11 (nI ((itR (f 4) ln (f 8)).2.2.1))) (va_up (f) 8 ((itR (f 4) ln (f 8)).2.2.2))) := mD hA
  have htl9 := itR_le (inp := f 4) (ln := ln) (td0 := f 8)
  refine lv_istore_n (lv' := [(1, .int (b2i ((itR (f 4) ln (f 8)).1))), (0, .ref (A 0))]) hx hb dX8_run_4 rfl hl (by decide) rfl (fun ls hl => ?_)
  refine lv_aload_n hx hb dX8_run_5 rfl (lv_at hl 1 rfl) ?_
  refine lv_iload_n hx hb dX8_run_6 rfl (lv_at hl 0 rfl) ?_
  refine g_if_eq (P := (itR (f 4) ln (f 8)).1 = false) (tgt := 14) hx hb dX8_run_7 (by decide) b2i_0 (fun c_1 => ?_) (fun c_1 => ?_)
  · rw [c_1] at hl
    have hl : lv_has ls 4 [(1, .int (b2i (false))), (0, .ref (A 0))] := hl
    refine lv_aload_n hx hb dX8_run_14 rfl (lv_at hl 1 rfl) ?_
    refine g_get (v := .int (nI ((itR (f 4) ln (f 8)).2.1))) hx hb hts hown hK hP 0 rfl rfl gu_wsX80 18 (by decide) gm_45_17 rfl dX8_run_15 ?_
    refine g_put (ws' := mw cA A (upd (upd (upd (x) 8 (nI ((itR (f 4) ln (f 8)).2.1))) 10 (nI ((itR (f 4) ln (f 8)).2.1))) 11 (nI ((itR (f 4) ln (f 8)).2.2.1))) (va_up (f) 8 ((itR (f 4) ln (f 8)).2.2.2))) hx hb hts hown hK hP hD hS 0 rfl rfl gu_wsX80 tyX8_ok nmX8 13 (by decide) gm_5_19 rfl rfl rfl (Nat.le_of_ble_eq_true rfl) rfl dX8_run_18 (fun H locs hP hD hS => ?_)
    refine lv_aload_n hx hb dX8_run_21 rfl (lv_at hl 1 rfl) ?_
    refine lv_iconst (v := nI (0)) hx hb dX8_run_22 gc_0 ?_
    refine g_put (ws' := mw cA A (upd (upd (upd (upd (x) 7 (nI (0))) 8 (nI ((itR (f 4) ln (f 8)).2.1))) 10 (nI ((itR (f 4) ln (f 8)).2.1))) 11 (nI ((itR (f 4) ln (f 8)).2.2.1))) (va_up (f) 8 ((itR (f 4) ln (f 8)).2.2.2))) hx hb hts hown hK hP hD hS 0 rfl rfl gu_wsX80 tyX8_ok nmX8 12 (by decide) gm_39_10 rfl rfl rfl (Nat.le_of_ble_eq_true rfl) rfl dX8_run_23 (fun H locs hP hD hS => ?_)
    refine lv_aload_n hx hb dX8_run_26 rfl (lv_at hl 1 rfl) ?_
    refine lv_iload_n hx hb dX8_run_27 rfl (lv_at hl 0 rfl) ?_
    refine g_if_eq (P := false = false) (tgt := 35) hx hb dX8_run_28 (by decide) b2i_0 (fun c_2 => ?_) (fun c_2 => ?_)
    · refine lv_iconst (v := nI (1)) hx hb dX8_run_35 gc_1 ?_
      refine wr_calli (va_runV (As := [.int (nI (1))]) (rest := []) ⟨hx, hb, hml, hown, hts⟩ (c_X8_fails l D cA A (upd (upd (upd (upd (x) 7 (nI (0))) 8 (nI ((itR (f 4) ln (f 8)).2.1))) 10 (nI ((itR (f 4) ln (f 8)).2.1))) 11 (nI ((itR (f 4) ln (f 8)).2.2.1))) (va_up (f) 8 ((itR (f 4) ln (f 8)).2.2.2)) (1)  hA (by decide)) (cwV 1 hts (gWV gm_8_23 gm_9_0 gm_9_1 gm_1_5 gm_9_2) rfl rfl rfl (by decide +kernel) ⟨Nat.le_of_ble_eq_true rfl, Nat.le_of_ble_eq_true rfl⟩) (gPreV hK (g_rf hK hP (ci := 10) (q0 := 0) rfl rfl) hP) rfl rfl hl.1 rfl (lv_room (Nat.le_of_ble_eq_true rfl)) dX8_run_36 ⟨by omega, by omega⟩) hS (fun q _ h => h) (fun q h => h) (fun r H locs hw9 hz9 hk9 hS => ?_)
      obtain ⟨rfl, hP⟩ := hw9
      have hP : va_P D vwCl (mw cA A (upd (upd (upd (upd (upd (upd (x) 3 (nI (0))) 4 (nI (1))) 7 (nI (0))) 8 (nI ((itR (f 4) ln (f 8)).2.1))) 10 (nI ((itR (f 4) ln (f 8)).2.1))) 11 (nI ((itR (f 4) ln (f 8)).2.2.1))) (va_up (f) 8 ((itR (f 4) ln (f 8)).2.2.2))) H := hP
      have hD : va_D (MA A) (mw cA A (upd (upd (upd (upd (upd (upd (x) 3 (nI (0))) 4 (nI (1))) 7 (nI (0))) 8 (nI ((itR (f 4) ln (f 8)).2.1))) 10 (nI ((itR (f 4) ln (f 8)).2.1))) 11 (nI ((itR (f 4) ln (f 8)).2.2.1))) (va_up (f) 8 ((itR (f 4) ln (f 8)).2.2.2))) := mD hA
      refine g_if_eq (P := true = false) (tgt := 44) hx hb dX8_run_39 (by decide) b2i_0 (fun c_3 => ?_) (fun c_3 => ?_)
      · exact absurd c_3 (by decide)
      · have c_3 : true = true := eq_true_of_ne_false c_3
        refine lv_iconst (v := nI (0)) hx hb dX8_run_42 gc_0 ?_
        exact g_iretW (v := nI (0)) hx hb hr hlk hS dX8_run_43 (by rw [rnM, if_neg (bnt c_1)]; exact ⟨rfl, hP⟩)
    · exact absurd c_2 (by decide)
  · have c_1 : (itR (f 4) ln (f 8)).1 = true := eq_true_of_ne_false c_1
    have hok := hok c_1
    have hpar := hpar c_1
    have htm := htm c_1
    have hcd := hcd c_1
    rw [c_1] at hl
    have hl : lv_has ls 4 [(1, .int (b2i (true))), (0, .ref (A 0))] := hl
    refine lv_iconst (v := -1) hx hb dX8_run_10 gc_m1 ?_
    refine lv_goto (tgt := 18) hx hb dX8_run_11 (by decide) ?_
    refine g_put (ws' := mw cA A (upd (upd (upd (x) 8 (-1)) 10 (nI ((itR (f 4) ln (f 8)).2.1))) 11 (nI ((itR (f 4) ln (f 8)).2.2.1))) (va_up (f) 8 ((itR (f 4) ln (f 8)).2.2.2))) hx hb hts hown hK hP hD hS 0 rfl rfl gu_wsX80 tyX8_ok nmX8 13 (by decide) gm_5_19 rfl rfl rfl (Nat.le_of_ble_eq_true rfl) rfl dX8_run_18 (fun H locs hP hD hS => ?_)
    refine lv_aload_n hx hb dX8_run_21 rfl (lv_at hl 1 rfl) ?_
    refine lv_iconst (v := nI (0)) hx hb dX8_run_22 gc_0 ?_
    refine g_put (ws' := mw cA A (upd (upd (upd (upd (x) 7 (nI (0))) 8 (-1)) 10 (nI ((itR (f 4) ln (f 8)).2.1))) 11 (nI ((itR (f 4) ln (f 8)).2.2.1))) (va_up (f) 8 ((itR (f 4) ln (f 8)).2.2.2))) hx hb hts hown hK hP hD hS 0 rfl rfl gu_wsX80 tyX8_ok nmX8 12 (by decide) gm_39_10 rfl rfl rfl (Nat.le_of_ble_eq_true rfl) rfl dX8_run_23 (fun H locs hP hD hS => ?_)
    refine lv_aload_n hx hb dX8_run_26 rfl (lv_at hl 1 rfl) ?_
    refine lv_iload_n hx hb dX8_run_27 rfl (lv_at hl 0 rfl) ?_
    refine g_if_eq (P := true = false) (tgt := 35) hx hb dX8_run_28 (by decide) b2i_0 (fun c_4 => ?_) (fun c_4 => ?_)
    · exact absurd c_4 (by decide)
    · have c_4 : true = true := eq_true_of_ne_false c_4
      refine lv_iconst (v := nI (0)) hx hb dX8_run_31 gc_0 ?_
      refine lv_goto (tgt := 36) hx hb dX8_run_32 (by decide) ?_
      refine wr_calli (va_runV (As := [.int (nI (0))]) (rest := []) ⟨hx, hb, hml, hown, hts⟩ (c_X8_fails l D cA A (upd (upd (upd (upd (x) 7 (nI (0))) 8 (-1)) 10 (nI ((itR (f 4) ln (f 8)).2.1))) 11 (nI ((itR (f 4) ln (f 8)).2.2.1))) (va_up (f) 8 ((itR (f 4) ln (f 8)).2.2.2)) (0)  hA (by decide)) (cwV 1 hts (gWV gm_8_23 gm_9_0 gm_9_1 gm_1_5 gm_9_2) rfl rfl rfl (by decide +kernel) ⟨Nat.le_of_ble_eq_true rfl, Nat.le_of_ble_eq_true rfl⟩) (gPreV hK (g_rf hK hP (ci := 10) (q0 := 0) rfl rfl) hP) rfl rfl hl.1 rfl (lv_room (Nat.le_of_ble_eq_true rfl)) dX8_run_36 ⟨by omega, by omega⟩) hS (fun q _ h => h) (fun q h => h) (fun r H locs hw9 hz9 hk9 hS => ?_)
      obtain ⟨rfl, hP⟩ := hw9
      have hP : va_P D vwCl (mw cA A (upd (upd (upd (upd (upd (upd (x) 3 (nI (0))) 4 (nI (0))) 7 (nI (0))) 8 (-1)) 10 (nI ((itR (f 4) ln (f 8)).2.1))) 11 (nI ((itR (f 4) ln (f 8)).2.2.1))) (va_up (f) 8 ((itR (f 4) ln (f 8)).2.2.2))) H := hP
      have hD : va_D (MA A) (mw cA A (upd (upd (upd (upd (upd (upd (x) 3 (nI (0))) 4 (nI (0))) 7 (nI (0))) 8 (-1)) 10 (nI ((itR (f 4) ln (f 8)).2.1))) 11 (nI ((itR (f 4) ln (f 8)).2.2.1))) (va_up (f) 8 ((itR (f 4) ln (f 8)).2.2.2))) := mD hA
      refine g_if_eq (P := false = false) (tgt := 44) hx hb dX8_run_39 (by decide) b2i_0 (fun c_5 => ?_) (fun c_5 => ?_)
      · refine lv_aload_n hx hb dX8_run_44 rfl (lv_at hl 1 rfl) ?_
        refine g_get (v := .ref (A 1)) hx hb hts hown hK hP 0 rfl rfl gu_wsX80 0 (by decide) gm_5_14 rfl dX8_run_45 ?_
        refine lv_iconst (v := nI (0)) hx hb dX8_run_48 gc_0 ?_
        refine lv_aload_n hx hb dX8_run_49 rfl (lv_at hl 1 rfl) ?_
        refine g_get (v := .ref (A 4)) hx hb hts hown hK hP 0 rfl rfl gu_wsX80 3 (by decide) gm_5_17 rfl dX8_run_50 ?_
        refine lv_iconst (v := nI (0)) hx hb dX8_run_53 gc_0 ?_
        refine wr_callv (va_runS (As := [.ref (A 1), .int (nI (0)), .ref (A 4), .int (nI (0))]) (rest := []) ⟨hx, hb, hml, hown, hts⟩ (c_X8_copies_03 l D cA A (upd (upd (upd (upd (upd (upd (x) 3 (nI (0))) 4 (nI (0))) 7 (nI (0))) 8 (-1)) 10 (nI ((itR (f 4) ln (f 8)).2.1))) 11 (nI ((itR (f 4) ln (f 8)).2.2.1))) (va_up (f) 8 ((itR (f 4) ln (f 8)).2.2.2)) (0) (0) hA (by omega) (by omega)) (cwS 4 hts (gWS gm_9_17 gm_9_18 gm_1_5 gm_9_19) rfl rfl rfl (by decide +kernel) ⟨Nat.le_of_ble_eq_true rfl, Nat.le_of_ble_eq_true rfl⟩) (gPreS hK hP) rfl rfl hl.1 rfl (lv_room (Nat.le_of_ble_eq_true rfl)) dX8_run_54 ⟨by omega, by omega⟩) hS (fun q _ h => h) (fun q h => h) (fun H locs hP hz9 hk9 hS => ?_)
        have hP : va_P D vwCl (mw cA A (upd (upd (upd (upd (upd (upd (x) 3 (nI (0))) 4 (nI (0))) 7 (nI (0))) 8 (-1)) 10 (nI ((itR (f 4) ln (f 8)).2.1))) 11 (nI ((itR (f 4) ln (f 8)).2.2.1))) (va_up (va_up (f) 3 (fb_put (f 3) (fun k => f 0 ((0) + k)) (0) 124)) 8 ((itR (f 4) ln (f 8)).2.2.2))) H := hP
        have hD : va_D (MA A) (mw cA A (upd (upd (upd (upd (upd (upd (x) 3 (nI (0))) 4 (nI (0))) 7 (nI (0))) 8 (-1)) 10 (nI ((itR (f 4) ln (f 8)).2.1))) 11 (nI ((itR (f 4) ln (f 8)).2.2.1))) (va_up (va_up (f) 3 (fb_put (f 3) (fun k => f 0 ((0) + k)) (0) 124)) 8 ((itR (f 4) ln (f 8)).2.2.2))) := mD hA
        refine lv_aload_n hx hb dX8_run_57 rfl (lv_at hl 1 rfl) ?_
        refine lv_iconst (v := nI (1)) hx hb dX8_run_58 gc_1 ?_
        refine g_put (ws' := mw cA A (upd (upd (upd (upd (upd (upd (upd (x) 2 (nI (1))) 3 (nI (0))) 4 (nI (0))) 7 (nI (0))) 8 (-1)) 10 (nI ((itR (f 4) ln (f 8)).2.1))) 11 (nI ((itR (f 4) ln (f 8)).2.2.1))) (va_up (va_up (f) 3 (fb_put (f 3) (fun k => f 0 ((0) + k)) (0) 124)) 8 ((itR (f 4) ln (f 8)).2.2.2))) hx hb hts hown hK hP hD hS 0 rfl rfl gu_wsX80 tyX8_ok nmX8 6 (by decide) gm_9_15 rfl rfl rfl (Nat.le_of_ble_eq_true rfl) rfl dX8_run_59 (fun H locs hP hD hS => ?_)
        refine lv_iconst (v := nI (0)) hx hb dX8_run_62 gc_0 ?_
        refine lv_istore_n (lv' := [(2, .int (nI (0))), (1, .int (b2i (true))), (0, .ref (A 0))]) hx hb dX8_run_63 rfl hl (by decide) rfl (fun ls hl => ?_)
        refine lv_iconst (v := nI (0)) hx hb dX8_run_64 gc_0 ?_
        refine lv_istore_n (lv' := [(3, .int (nI (0))), (2, .int (nI (0))), (1, .int (b2i (true))), (0, .ref (A 0))]) hx hb dX8_run_65 rfl hl (by decide) rfl (fun ls hl => ?_)
        have hP : va_P D vwCl (mw cA A ((rn0 x f ln).1) ((rn0 x f ln).2)) H := hP
        have LP : ∀ (n9 k9 : Nat) (H : Heap) (locs : List Loc), k9 ≤ (itR (f 4) ln (f 8)).2.2.1 → (itR (f 4) ln (f 8)).2.2.1 + 1 ≤ k9 + n9 → (crY (rn0 x f ln) k9).2.1 4 = 0 → va_P D vwCl (mw cA A ((crY (rn0 x f ln) k9).2.1) ((crY (rn0 x f ln) k9).2.2)) H → va_S (MA A) s.heap H locs → ∀ (ls : Array Slot), lv_has ls 4 [(3, .int (crY (rn0 x f ln) k9).1), (2, .int (nI k9)), (0, .ref (A 0))] → W p l e ({ frames := 7, cells := 0, slots := 0, locals := 184 } : Room) s m ([.ref (A 0)] : List Value).toArray below meth c H locs 0 0 (MQ below (wrI (fun r H => r = (rnM x f ln).1 ∧ va_P D vwCl (mw cA A ((rnM x f ln).2.1) ((rnM x f ln).2.2)) H) (MA A)) ([.ref (A 0)] : List Value).toArray s 0 0 (MA A)) (F0 m 66 ls []) := by
          intro n9
          induction n9 with
          | zero => intro k9 H locs h1 h2; exact absurd h2 (by omega)
          | succ n9 ih =>
            intro k9 H locs hk1 hk2 hv hP hS ls hl
            have hD : va_D (MA A) (mw cA A ((crY (rn0 x f ln) k9).2.1) ((crY (rn0 x f ln) k9).2.2)) := mD hA
            obtain ⟨hj, hjn, hc, hcn, hclk, hc4, hton, ht99, hw, hch, hc8, hlow⟩ := hok k9 hk1 hv
            refine lv_iload_n hx hb dX8_run_66 rfl (lv_at hl 1 rfl) ?_
            refine lv_aload_n hx hb dX8_run_67 rfl (lv_at hl 2 rfl) ?_
            refine g_get (v := .int (((crY (rn0 x f ln) k9).2.1) 11)) hx hb hts hown hK hP 0 rfl rfl gu_wsX80 20 (by decide) gm_45_18 rfl dX8_run_68 ?_
            refine g_top (htm k9 (by omega)) ?_
            refine g_icmp_ge (P := (itR (f 4) ln (f 8)).2.2.1 ≤ k9) (tgt := 102) hx hb dX8_run_71 (by decide) (nI_leI (by omega) (by omega)) (fun c_6 => ?_) (fun c_6 => ?_)
            · have d_6 : ¬ k9 < (itR (f 4) ln (f 8)).2.2.1 := Nat.not_lt.mpr c_6
              have hkt : k9 = (itR (f 4) ln (f 8)).2.2.1 := by omega
              refine lv_aload_n hx hb dX8_run_102 rfl (lv_at hl 2 rfl) ?_
              refine lv_iconst (v := nI (0)) hx hb dX8_run_103 gc_0 ?_
              refine g_put (ws' := mw cA A (upd ((crY (rn0 x f ln) k9).2.1) 2 (nI (0))) ((crY (rn0 x f ln) k9).2.2)) hx hb hts hown hK hP hD hS 0 rfl rfl gu_wsX80 tyX8_ok nmX8 6 (by decide) gm_9_15 rfl rfl rfl (Nat.le_of_ble_eq_true rfl) rfl dX8_run_104 (fun H locs hP hD hS => ?_)
              refine lv_aload_n hx hb dX8_run_107 rfl (lv_at hl 2 rfl) ?_
              refine g_get (v := .int (((crY (rn0 x f ln) k9).2.1) 4)) hx hb hts hown hK hP 0 rfl rfl gu_wsX80 8 (by decide) gm_9_3 rfl dX8_run_108 ?_
              refine g_if_le (P := ((crY (rn0 x f ln) k9).2.1) 4 ≤ 0) (tgt := 153) hx hb dX8_run_111 (by decide) Iff.rfl (fun c_7 => ?_) (fun c_7 => ?_)
              · have d_7 : ¬ 0 < ((crY (rn0 x f ln) k9).2.1) 4 := Int32.not_lt.mpr c_7
                refine lv_aload_n hx hb dX8_run_153 rfl (lv_at hl 2 rfl) ?_
                refine lv_aload_n hx hb dX8_run_154 rfl (lv_at hl 2 rfl) ?_
                refine g_get (v := .ref (A 4)) hx hb hts hown hK hP 0 rfl rfl gu_wsX80 3 (by decide) gm_5_17 rfl dX8_run_155 ?_
                refine wr_callv (va_runV (As := [.ref (A 4)]) (rest := []) ⟨hx, hb, hml, hown, hts⟩ (c_X8_keeps_3 l D cA A (upd ((crY (rn0 x f ln) k9).2.1) 2 (nI (0))) ((crY (rn0 x f ln) k9).2.2) false (mh9 (crY (rn0 x f ln) k9).2) hA ((pk_us).trans (by decide +kernel)) ((pk_un (by decide)).trans hch) hc8) (cwV 1 hts (gWV gm_9_11 gm_9_12 gm_9_13 gm_1_5 gm_9_14) rfl rfl rfl (by decide +kernel) ⟨Nat.le_of_ble_eq_true rfl, Nat.le_of_ble_eq_true rfl⟩) (gPreV hK (g_rf hK hP (ci := 10) (q0 := 0) rfl rfl) hP) rfl rfl hl.1 rfl (lv_room (Nat.le_of_ble_eq_true rfl)) dX8_run_158 ⟨by omega, by omega⟩) hS (fun q _ h => h) (fun q h => h) (fun H locs hP hz9 hk9 hS => ?_)
                have hP : va_P D vwCl (mw cA A (upd (upd (upd ((crY (rn0 x f ln) k9).2.1) 1 (nI (kpC false (mh9 (crY (rn0 x f ln) k9).2)))) 2 (nI (0))) 4 (nI (0))) (va_up ((crY (rn0 x f ln) k9).2.2) 1 (kpK false (((crY (rn0 x f ln) k9).2.2) 3) (((crY (rn0 x f ln) k9).2.2) 1) (mh9 (crY (rn0 x f ln) k9).2)))) H := hP
                have hD : va_D (MA A) (mw cA A (upd (upd (upd ((crY (rn0 x f ln) k9).2.1) 1 (nI (kpC false (mh9 (crY (rn0 x f ln) k9).2)))) 2 (nI (0))) 4 (nI (0))) (va_up ((crY (rn0 x f ln) k9).2.2) 1 (kpK false (((crY (rn0 x f ln) k9).2.2) 3) (((crY (rn0 x f ln) k9).2.2) 1) (mh9 (crY (rn0 x f ln) k9).2)))) := mD hA
                refine lv_aload_n hx hb dX8_run_161 rfl (lv_at hl 2 rfl) ?_
                refine g_get (v := .int (((crY (rn0 x f ln) k9).2.1) 11)) hx hb hts hown hK hP 0 rfl rfl gu_wsX80 20 (by decide) gm_45_18 rfl dX8_run_162 ?_
                refine g_top (htm k9 (by omega)) ?_
                exact g_iretW (v := nI ((itR (f 4) ln (f 8)).2.2.1)) hx hb hr hlk hS dX8_run_165 (by have e9 : crY (rn0 x f ln) (itR (f 4) ln (f 8)).2.2.1 = (crY (rn0 x f ln) k9) := (by rw [hkt]); rw [rnM, if_pos c_1, e9, rnE, if_pos hv]; exact ⟨rfl, hP⟩)
              · have d_7 : 0 < ((crY (rn0 x f ln) k9).2.1) 4 := Int32.not_le.mp c_7
                exact absurd (Int32.le_of_eq hv) c_7
            · have d_6 : k9 < (itR (f 4) ln (f 8)).2.2.1 := Nat.not_le.mp c_6
              refine lv_aload_n hx hb dX8_run_74 rfl (lv_at hl 2 rfl) ?_
              refine g_get (v := .int (((crY (rn0 x f ln) k9).2.1) 4)) hx hb hts hown hK hP 0 rfl rfl gu_wsX80 8 (by decide) gm_9_3 rfl dX8_run_75 ?_
              refine g_if_ne (P := ((crY (rn0 x f ln) k9).2.1) 4 = 0) (tgt := 102) hx hb dX8_run_78 (by decide) Iff.rfl (fun c_8 => ?_) (fun c_8 => ?_)
              · exact absurd hv c_8
              · obtain ⟨w9, hw9, hwe⟩ := hpar k9 (by omega) hv
                refine lv_aload_n hx hb dX8_run_81 rfl (lv_at hl 2 rfl) ?_
                refine lv_iconst (v := nI (3)) hx hb dX8_run_82 gc_3 ?_
                refine lv_iload_n hx hb dX8_run_83 rfl (lv_at hl 1 rfl) ?_
                refine g_imul hx hb dX8_run_84 ?_
                refine wr_calli (va_runV (As := [.int (nI (3 * k9))]) (rest := []) ⟨hx, hb, hml, hown, hts⟩ (c_X8_carries l D cA A (crY (rn0 x f ln) k9).2.1 (crY (rn0 x f ln) k9).2.2 (mj (crY (rn0 x f ln) k9).2) (mc9 (crY (rn0 x f ln) k9).2) (mk9 (crY (rn0 x f ln) k9).2) (mt9 (crY (rn0 x f ln) k9).2) true (mh9 (crY (rn0 x f ln) k9).2) (3 * k9) w9 hA hj hjn hc hcn hclk hc4 hton ht99 hw hch hc8 hlow (by omega) hwe hw9) (cwV 1 hts (gWV gm_47_5 gm_47_6 gm_47_7 gm_1_5 gm_47_8) rfl rfl rfl (by decide +kernel) ⟨Nat.le_of_ble_eq_true rfl, Nat.le_of_ble_eq_true rfl⟩) (gPreV hK (g_rf hK hP (ci := 10) (q0 := 0) rfl rfl) hP) rfl rfl hl.1 rfl (lv_room (Nat.le_of_ble_eq_true rfl)) dX8_run_85 ⟨by omega, by omega⟩) hS (fun q _ h => h) (fun q h => h) (fun r H locs hw8 hz9 hk9 hS => ?_)
                obtain ⟨rfl, hP⟩ := hw8
                have e9 : crM (crY (rn0 x f ln) k9).2.1 (crY (rn0 x f ln) k9).2.2 (mj (crY (rn0 x f ln) k9).2) (mc9 (crY (rn0 x f ln) k9).2) (mk9 (crY (rn0 x f ln) k9).2) (mt9 (crY (rn0 x f ln) k9).2) true (mh9 (crY (rn0 x f ln) k9).2) (3 * k9) w9 = (crY (rn0 x f ln) (k9 + 1)) := (crY_1 hv hwe hw9).symm
                rw [e9] at hP ⊢
                have hP : va_P D vwCl (mw cA A ((crY (rn0 x f ln) (k9 + 1)).2.1) ((crY (rn0 x f ln) (k9 + 1)).2.2)) H := hP
                have hD : va_D (MA A) (mw cA A ((crY (rn0 x f ln) (k9 + 1)).2.1) ((crY (rn0 x f ln) (k9 + 1)).2.2)) := mD hA
                refine lv_istore_n (lv' := [(3, .int ((crY (rn0 x f ln) (k9 + 1)).1)), (2, .int (nI (k9))), (0, .ref (A 0))]) hx hb dX8_run_88 rfl hl (by decide) rfl (fun ls hl => ?_)
                refine lv_aload_n hx hb dX8_run_89 rfl (lv_at hl 2 rfl) ?_
                refine g_get (v := .int (((crY (rn0 x f ln) (k9 + 1)).2.1) 4)) hx hb hts hown hK hP 0 rfl rfl gu_wsX80 8 (by decide) gm_9_3 rfl dX8_run_90 ?_
                refine g_if_ne (P := ((crY (rn0 x f ln) (k9 + 1)).2.1) 4 = 0) (tgt := 66) hx hb dX8_run_93 (by decide) Iff.rfl (fun c_9 => ?_) (fun c_9 => ?_)
                · refine lv_iload_n hx hb dX8_run_66 rfl (lv_at hl 1 rfl) ?_
                  refine lv_aload_n hx hb dX8_run_67 rfl (lv_at hl 2 rfl) ?_
                  refine g_get (v := .int (((crY (rn0 x f ln) (k9 + 1)).2.1) 11)) hx hb hts hown hK hP 0 rfl rfl gu_wsX80 20 (by decide) gm_45_18 rfl dX8_run_68 ?_
                  refine g_top (htm (k9 + 1) (by omega)) ?_
                  refine g_icmp_ge (P := (itR (f 4) ln (f 8)).2.2.1 ≤ k9) (tgt := 102) hx hb dX8_run_71 (by decide) (nI_leI (by omega) (by omega)) (fun c_10 => ?_) (fun c_10 => ?_)
                  · have d_10 : ¬ k9 < (itR (f 4) ln (f 8)).2.2.1 := Nat.not_lt.mpr c_10
                    exact absurd c_10 (by omega)
                  · have d_10 : k9 < (itR (f 4) ln (f 8)).2.2.1 := Nat.not_le.mp c_10
                    refine lv_aload_n hx hb dX8_run_74 rfl (lv_at hl 2 rfl) ?_
                    refine g_get (v := .int (((crY (rn0 x f ln) (k9 + 1)).2.1) 4)) hx hb hts hown hK hP 0 rfl rfl gu_wsX80 8 (by decide) gm_9_3 rfl dX8_run_75 ?_
                    refine g_if_ne (P := ((crY (rn0 x f ln) (k9 + 1)).2.1) 4 = 0) (tgt := 102) hx hb dX8_run_78 (by decide) Iff.rfl (fun c_11 => ?_) (fun c_11 => ?_)
                    · refine lv_aload_n hx hb dX8_run_102 rfl (lv_at hl 2 rfl) ?_
                      refine lv_iconst (v := nI (0)) hx hb dX8_run_103 gc_0 ?_
                      refine g_put (ws' := mw cA A (upd ((crY (rn0 x f ln) (k9 + 1)).2.1) 2 (nI (0))) ((crY (rn0 x f ln) (k9 + 1)).2.2)) hx hb hts hown hK hP hD hS 0 rfl rfl gu_wsX80 tyX8_ok nmX8 6 (by decide) gm_9_15 rfl rfl rfl (Nat.le_of_ble_eq_true rfl) rfl dX8_run_104 (fun H locs hP hD hS => ?_)
                      refine lv_aload_n hx hb dX8_run_107 rfl (lv_at hl 2 rfl) ?_
                      refine g_get (v := .int (((crY (rn0 x f ln) (k9 + 1)).2.1) 4)) hx hb hts hown hK hP 0 rfl rfl gu_wsX80 8 (by decide) gm_9_3 rfl dX8_run_108 ?_
                      refine g_if_le (P := ((crY (rn0 x f ln) (k9 + 1)).2.1) 4 ≤ 0) (tgt := 153) hx hb dX8_run_111 (by decide) Iff.rfl (fun c_12 => ?_) (fun c_12 => ?_)
                      · have d_12 : ¬ 0 < ((crY (rn0 x f ln) (k9 + 1)).2.1) 4 := Int32.not_lt.mpr c_12
                        exact absurd (hcd (k9 + 1) (by omega) c_12) c_9
                      · have d_12 : 0 < ((crY (rn0 x f ln) (k9 + 1)).2.1) 4 := Int32.not_le.mp c_12
                        refine lv_aload_n hx hb dX8_run_114 rfl (lv_at hl 2 rfl) ?_
                        refine g_get (v := .ref (A 4)) hx hb hts hown hK hP 0 rfl rfl gu_wsX80 3 (by decide) gm_5_17 rfl dX8_run_115 ?_
                        refine lv_iconst (v := nI (0)) hx hb dX8_run_118 gc_0 ?_
                        refine lv_aload_n hx hb dX8_run_119 rfl (lv_at hl 2 rfl) ?_
                        refine g_get (v := .ref (A 1)) hx hb hts hown hK hP 0 rfl rfl gu_wsX80 0 (by decide) gm_5_14 rfl dX8_run_120 ?_
                        refine lv_iconst (v := nI (0)) hx hb dX8_run_123 gc_0 ?_
                        refine wr_callv (va_runS (As := [.ref (A 4), .int (nI (0)), .ref (A 1), .int (nI (0))]) (rest := []) ⟨hx, hb, hml, hown, hts⟩ (c_X8_copies_30 l D cA A (upd ((crY (rn0 x f ln) (k9 + 1)).2.1) 2 (nI (0))) ((crY (rn0 x f ln) (k9 + 1)).2.2) (0) (0) hA (by omega) (by omega)) (cwS 4 hts (gWS gm_9_17 gm_9_18 gm_1_5 gm_9_19) rfl rfl rfl (by decide +kernel) ⟨Nat.le_of_ble_eq_true rfl, Nat.le_of_ble_eq_true rfl⟩) (gPreS hK hP) rfl rfl hl.1 rfl (lv_room (Nat.le_of_ble_eq_true rfl)) dX8_run_124 ⟨by omega, by omega⟩) hS (fun q _ h => h) (fun q h => h) (fun H locs hP hz9 hk9 hS => ?_)
                        have hP : va_P D vwCl (mw cA A (upd ((crY (rn0 x f ln) (k9 + 1)).2.1) 2 (nI (0))) (va_up ((crY (rn0 x f ln) (k9 + 1)).2.2) 0 (fb_put (((crY (rn0 x f ln) (k9 + 1)).2.2) 0) (fun k => ((crY (rn0 x f ln) (k9 + 1)).2.2) 3 ((0) + k)) (0) 124))) H := hP
                        have hD : va_D (MA A) (mw cA A (upd ((crY (rn0 x f ln) (k9 + 1)).2.1) 2 (nI (0))) (va_up ((crY (rn0 x f ln) (k9 + 1)).2.2) 0 (fb_put (((crY (rn0 x f ln) (k9 + 1)).2.2) 0) (fun k => ((crY (rn0 x f ln) (k9 + 1)).2.2) 3 ((0) + k)) (0) 124))) := mD hA
                        refine lv_aload_n hx hb dX8_run_127 rfl (lv_at hl 2 rfl) ?_
                        refine lv_aload_n hx hb dX8_run_128 rfl (lv_at hl 2 rfl) ?_
                        refine g_get (v := .int (((crY (rn0 x f ln) (k9 + 1)).2.1) 3)) hx hb hts hown hK hP 0 rfl rfl gu_wsX80 7 (by decide) gm_9_4 rfl dX8_run_129 ?_
                        refine g_if_eq (P := ((crY (rn0 x f ln) (k9 + 1)).2.1) 3 = 0) (tgt := 139) hx hb dX8_run_132 (by decide) Iff.rfl (fun c_13 => ?_) (fun c_13 => ?_)
                        · refine lv_iconst (v := nI (1)) hx hb dX8_run_139 gc_1 ?_
                          refine g_put (ws' := mw cA A (upd (upd ((crY (rn0 x f ln) (k9 + 1)).2.1) 2 (nI (0))) 4 (nI (1))) (va_up ((crY (rn0 x f ln) (k9 + 1)).2.2) 0 (fb_put (((crY (rn0 x f ln) (k9 + 1)).2.2) 0) (fun k => ((crY (rn0 x f ln) (k9 + 1)).2.2) 3 ((0) + k)) (0) 124))) hx hb hts hown hK hP hD hS 0 rfl rfl gu_wsX80 tyX8_ok nmX8 8 (by decide) gm_9_3 rfl rfl rfl (Nat.le_of_ble_eq_true rfl) rfl dX8_run_140 (fun H locs hP hD hS => ?_)
                          refine lv_iload_n hx hb dX8_run_143 rfl (lv_at hl 0 rfl) ?_
                          refine g_if_le (P := (crY (rn0 x f ln) (k9 + 1)).1 ≤ 0) (tgt := 151) hx hb dX8_run_144 (by decide) Iff.rfl (fun c_14 => ?_) (fun c_14 => ?_)
                          · have d_14 : ¬ 0 < (crY (rn0 x f ln) (k9 + 1)).1 := Int32.not_lt.mpr c_14
                            refine lv_iload_n hx hb dX8_run_151 rfl (lv_at hl 0 rfl) ?_
                            exact g_iretW (v := (crY (rn0 x f ln) (k9 + 1)).1) hx hb hr hlk hS dX8_run_152 (by have e9 : crY (rn0 x f ln) (itR (f 4) ln (f 8)).2.2.1 = (crY (rn0 x f ln) (k9 + 1)) := crY_stop c_9 _ (by omega); rw [rnM, if_pos c_1, e9, rnE, if_neg c_9, if_pos c_14, if_pos c_13]; exact ⟨rfl, hP⟩)
                          · have d_14 : 0 < (crY (rn0 x f ln) (k9 + 1)).1 := Int32.not_le.mp c_14
                            refine lv_iconst (v := nI (0)) hx hb dX8_run_147 gc_0 ?_
                            refine lv_goto (tgt := 152) hx hb dX8_run_148 (by decide) ?_
                            exact g_iretW (v := nI (0)) hx hb hr hlk hS dX8_run_152 (by have e9 : crY (rn0 x f ln) (itR (f 4) ln (f 8)).2.2.1 = (crY (rn0 x f ln) (k9 + 1)) := crY_stop c_9 _ (by omega); rw [rnM, if_pos c_1, e9, rnE, if_neg c_9, if_neg c_14, if_pos c_13]; exact ⟨rfl, hP⟩)
                        · refine lv_iconst (v := nI (2)) hx hb dX8_run_135 gc_2 ?_
                          refine lv_goto (tgt := 140) hx hb dX8_run_136 (by decide) ?_
                          refine g_put (ws' := mw cA A (upd (upd ((crY (rn0 x f ln) (k9 + 1)).2.1) 2 (nI (0))) 4 (nI (2))) (va_up ((crY (rn0 x f ln) (k9 + 1)).2.2) 0 (fb_put (((crY (rn0 x f ln) (k9 + 1)).2.2) 0) (fun k => ((crY (rn0 x f ln) (k9 + 1)).2.2) 3 ((0) + k)) (0) 124))) hx hb hts hown hK hP hD hS 0 rfl rfl gu_wsX80 tyX8_ok nmX8 8 (by decide) gm_9_3 rfl rfl rfl (Nat.le_of_ble_eq_true rfl) rfl dX8_run_140 (fun H locs hP hD hS => ?_)
                          refine lv_iload_n hx hb dX8_run_143 rfl (lv_at hl 0 rfl) ?_
                          refine g_if_le (P := (crY (rn0 x f ln) (k9 + 1)).1 ≤ 0) (tgt := 151) hx hb dX8_run_144 (by decide) Iff.rfl (fun c_15 => ?_) (fun c_15 => ?_)
                          · have d_15 : ¬ 0 < (crY (rn0 x f ln) (k9 + 1)).1 := Int32.not_lt.mpr c_15
                            refine lv_iload_n hx hb dX8_run_151 rfl (lv_at hl 0 rfl) ?_
                            exact g_iretW (v := (crY (rn0 x f ln) (k9 + 1)).1) hx hb hr hlk hS dX8_run_152 (by have e9 : crY (rn0 x f ln) (itR (f 4) ln (f 8)).2.2.1 = (crY (rn0 x f ln) (k9 + 1)) := crY_stop c_9 _ (by omega); rw [rnM, if_pos c_1, e9, rnE, if_neg c_9, if_pos c_15, if_neg c_13]; exact ⟨rfl, hP⟩)
                          · have d_15 : 0 < (crY (rn0 x f ln) (k9 + 1)).1 := Int32.not_le.mp c_15
                            refine lv_iconst (v := nI (0)) hx hb dX8_run_147 gc_0 ?_
                            refine lv_goto (tgt := 152) hx hb dX8_run_148 (by decide) ?_
                            exact g_iretW (v := nI (0)) hx hb hr hlk hS dX8_run_152 (by have e9 : crY (rn0 x f ln) (itR (f 4) ln (f 8)).2.2.1 = (crY (rn0 x f ln) (k9 + 1)) := crY_stop c_9 _ (by omega); rw [rnM, if_pos c_1, e9, rnE, if_neg c_9, if_neg c_15, if_neg c_13]; exact ⟨rfl, hP⟩)
                    · exact absurd c_11 c_9
                · refine lv_iinc (v := nI (k9 + 1)) (lv' := [(2, .int (nI (k9 + 1))), (3, .int ((crY (rn0 x f ln) (k9 + 1)).1)), (0, .ref (A 0))]) hx hb dX8_run_96 hl (k := 1) rfl (inc_1 _) (by decide) rfl (fun ls hl => ?_)
                  refine lv_goto (tgt := 66) hx hb dX8_run_99 (by decide) ?_
                  exact ih (k9 + 1) H locs (by omega) (by omega) c_9 hP hS ls (lv_sub hl [1, 0, 2] rfl)
        exact LP ((itR (f 4) ln (f 8)).2.2.1 + 1) 0 H locs (by omega) (by omega) (by rw [crY_0]; rfl) (by rw [crY_0]; exact hP) hS ls (by rw [crY_0]; exact lv_sub hl [0, 1, 3] rfl)
      · exact absurd c_5 (by decide)
set_option maxHeartbeats 1000000 in
set_option maxRecDepth 100000 in
theorem lc_juror (l : Launch) (hlt : l.stackTraces = false) {p : Program} {e : Env} {s : State} {m : MethodId} {args : Array Value} {below : List Frame} {meth : Method} {c0 : Code} {Q : State → Prop} {H : Heap} {locs : List Loc} {ls : Array Slot} {ce sl i : Nat} {D : va_G} {cA : Nat → ClassId} {AE : Nat → Prop} {adK adV sa : Nat → Nat} {U : Nat → Nat} {rg : Nat → Option Nat} {A : Nat → Nat} {o od b L : Nat} {xs : Nat → Int32} {x : Nat → Int32} {f : Nat → Nat → Int32} {g : Nat → Int64} {gd : Nat → UInt64} (hx : p.tables.exec = Jvm.exec) (hb : c0.code = cL_law) (hml : c0.maxLocals = 9) (hown : s.vm.findClass RL = some m.cls) (hts : ∀ w ∈ Cond.initialized RL :: gG, w.before args s = true) (hK : gK D cA s) (hE : gE AE adK adV sa s s.heap) (hN : gNc s) (hX : va_X b L xs s s.heap) (hbl : b < s.heap.size) (hL : L ≤ 1536) (hi : i + 3 ≤ L) (hA : aInj 189 U) (hM : mInj A) (hrg : uRg U rg) (hAE : ∀ q, s.heap.size ≤ q → AE q) (hUf : ∀ q, aS 189 U q → s.heap.size ≤ q ∧ ¬ MA A q ∧ q ≠ o ∧ q ≠ od) (hMf : ∀ q, MA A q → s.heap.size ≤ q ∧ q ≠ o ∧ q ≠ od) (hof : s.heap.size ≤ o ∧ s.heap.size ≤ od ∧ o ≠ od) (hce : ce + 9 ≤ room_1.cells) (hsl : sl + 60 ≤ room_1.slots) (hS : va_S (fun q => s.heap.size ≤ q) s.heap H locs) (hl : lv_has ls 9 [(5, .int (nI i)), (4, .ref (od)), (3, .ref (o)), (2, .ref (A 0)), (1, .ref (U 0)), (0, .ref (b))]) (hLS : LST D cA U rg x f H) (hP : va_P D vwCl (mw cA A x f) H) (hO : va_P D vwCl (oL cA o g) H) (hD : va_P D vwCl (oD cA od gd) H)  (KK : ∀ (x1 : Nat → Int32) (f1 : Nat → Nat → Int32) (g1 : Nat → Int64) (gd1 : Nat → UInt64) (H1 : Heap) (locs1 : List Loc) (ls1 : Array Slot), LST D cA U rg x1 f1 H1 → va_P D vwCl (mw cA A x1 f1) H1 → va_P D vwCl (oL cA o g1) H1 → va_P D vwCl (oD cA od gd1) H1 → va_S (fun q => s.heap.size ≤ q) s.heap H1 locs1 → lv_has ls1 9 [(5, .int (nI i)), (4, .ref (od)), (3, .ref (o)), (2, .ref (A 0)), (1, .ref (U 0)), (0, .ref (b))] → W p l e room_1 s m args below meth c0 H1 locs1 (ce + 1) (sl + 6) Q (F0 m 2162 ls1 [])) : W p l e room_1 s m args below meth c0 H locs ce sl Q (F0 m 208 ls []) := by
  obtain ⟨c, z, rz, hd, ct, rs, dt, mf, mn, tc, tl, to, kd, fi, se, ta, nu, lc, ln, sv, er, R, hU⟩ := hLS
  have hFA : ∀ q, aS 189 U q → AE q := fun q h => hAE q (hUf q h).1
  have hUO : ∀ q, uO U o q → s.heap.size ≤ q := fun q h => h.elim (fun h => (hUf q h).1) (fun h => h ▸ hof.1)
  have hoU : ¬ aS 189 U o := fun h => (hUf o h).2.2.1 rfl
  have hbA : ¬ (fun q => s.heap.size ≤ q) b := fun h => absurd hbl (Nat.not_lt.mpr h)
  refine lv_aload_n hx hb dL_law_208 rfl (lv_at hl 4 rfl) ?_
  refine lv_aload_n hx hb dL_law_209 rfl (lv_at hl 5 rfl) ?_
  refine lv_iload hx hb dL_law_210 (lv_at hl 0 rfl) ?_
  refine lv_iconst (v := nI 1) hx hb dL_law_212 gc_1 ?_
  refine lv_iadd hx hb dL_law_213 ?_
  rw [nI_add]
  refine va_sld (A := (fun q => s.heap.size ≤ q)) hx hb hX hbl hbA hS (lp_in (by omega) hL) dL_law_214 ?_
  refine lv_aload_n hx hb dL_law_215 rfl (lv_at hl 5 rfl) ?_
  refine lv_iload hx hb dL_law_216 (lv_at hl 0 rfl) ?_
  refine lv_iconst (v := nI 2) hx hb dL_law_218 gc_2 ?_
  refine lv_iadd hx hb dL_law_219 ?_
  rw [nI_add]
  refine va_sld (A := (fun q => s.heap.size ≤ q)) hx hb hX hbl hbA hS (lp_in (by omega) hL) dL_law_220 ?_
  refine lv_aload_n hx hb dL_law_221 rfl (lv_at hl 2 rfl) ?_
  refine wr_calli (vx_runSW (As := [.ref (U 0), .int (xs (nI (i + 1)).toNatClampNeg), .int (xs (nI (i + 2)).toNatClampNeg), .ref (o)]) (rest := []) ⟨hx, hb, hml, hown, hts⟩ (c_L_juror l hlt D cA AE adK adV sa U rg c z rz hd ct rs dt mf mn tc tl to kd fi se ta nu lc ln sv er (xs (nI (i + 1)).toNatClampNeg) (xs (nI (i + 2)).toNatClampNeg) o g hA hFA hoU (fun q h => hAE q (hUO q h)) R.I.ok hrg R.H.1 R.H.2.1) (vx_cwSW 4 hts (gWSL gm_6_0 gm_6_1 gm_6_2 gm_6_3) rfl rfl rfl (by decide +kernel) ⟨Nat.le_of_ble_eq_true rfl, Nat.le_of_ble_eq_true rfl⟩) (gPreSy hK hE hN hS hAE ⟨hU, hO⟩) rfl rfl hl.1 rfl (lv_room (Nat.le_of_ble_eq_true rfl)) dL_law_222 ⟨by omega, by omega⟩) hS (fun q _ h => hUO q h) (fun q h => hUO q h) (fun r H1 locs1 hw9 hz9 hk9 hS => ?_)
  obtain ⟨k9, rr, g9, rfl, hk2, hg9, hO, C⟩ := hw9
  obtain ⟨e4, e1, hLS⟩ := op_juror R C
  have hP := vP_fr hP hk9 (mw_n (A1 := uO U o) hM (fun q h h2 => h2.elim (fun h2 => (hUf q h2).2.1 h) (fun h2 => (hMf q h).2.1 h2)))
  have hD := vP_fr hD hk9 (oD_n (A := uO U o) (fun h => h.elim (fun h => (hUf od h).2.2.2 rfl) (fun h => hof.2.2 h.symm)))
  refine lv_istore (lv' := [(6, .int (nI k9)), (5, .int (nI i)), (4, .ref (od)), (3, .ref (o)), (2, .ref (A 0)), (1, .ref (U 0)), (0, .ref (b))]) hx hb dL_law_225 hl (by decide) rfl (fun ls hl => ?_)
  refine lv_aload_n hx hb dL_law_227 rfl (lv_at hl 4 rfl) ?_
  refine lv_aload_n hx hb dL_law_228 rfl (lv_at hl 6 rfl) ?_
  refine lv_iload hx hb dL_law_229 (lv_at hl 1 rfl) ?_
  refine lv_iconst (v := nI 1) hx hb dL_law_231 gc_1 ?_
  refine lv_iadd hx hb dL_law_232 ?_
  rw [nI_add]
  refine va_sld (A := (fun q => s.heap.size ≤ q)) hx hb hX hbl hbA hS (lp_in (by omega) hL) dL_law_233 ?_
  refine lv_aload_n hx hb dL_law_234 rfl (lv_at hl 6 rfl) ?_
  refine lv_iload hx hb dL_law_235 (lv_at hl 1 rfl) ?_
  refine lv_iconst (v := nI 2) hx hb dL_law_237 gc_2 ?_
  refine lv_iadd hx hb dL_law_238 ?_
  rw [nI_add]
  refine va_sld (A := (fun q => s.heap.size ≤ q)) hx hb hX hbl hbA hS (lp_in (by omega) hL) dL_law_239 ?_
  refine wr_calli (va_runV (As := [.int (xs (nI (i + 1)).toNatClampNeg), .int (xs (nI (i + 2)).toNatClampNeg)]) (rest := []) ⟨hx, hb, hml, hown, hts⟩ (c_X8_juror l D cA A x f (xs (nI (i + 1)).toNatClampNeg) (xs (nI (i + 2)).toNatClampNeg) (zjn c) false ct hM R.G.g0 R.I.jn R.x2 R.x1 R.H.2.1) (cwV 2 hts (gWVL gm_8_16 gm_8_17 gm_8_18 gm_1_5 gm_8_19) rfl rfl rfl (by decide +kernel) ⟨Nat.le_of_ble_eq_true rfl, Nat.le_of_ble_eq_true rfl⟩) (gPreV hK (g_rf hK hP (ci := 10) (q0 := 0) rfl rfl) hP) rfl rfl hl.1 rfl (lv_room (Nat.le_of_ble_eq_true rfl)) dL_law_240 ⟨by omega, by omega⟩) hS (fun q _ h => (hMf q h).1) (fun q h => (hMf q h).1) (fun r8 H2 locs2 hw8 hz8 hk8 hS => ?_)
  obtain ⟨h8, hP⟩ := hw8
  have hLS := hLS.kept hA hk8 (fun q h => (hUf q h).2.1)
  have hO := vP_fr hO hk8 (oL_n (fun h => (hMf o h).2.1 rfl))
  have hD := vP_fr hD hk8 (oD_n (fun h => (hMf od h).2.2 rfl))
  refine lv_istore (lv' := [(7, .int (r8)), (6, .int (nI k9)), (5, .int (nI i)), (4, .ref (od)), (3, .ref (o)), (2, .ref (A 0)), (1, .ref (U 0)), (0, .ref (b))]) hx hb dL_law_243 hl (by decide) rfl (fun ls hl => ?_)
  refine lv_aload_n hx hb dL_law_245 rfl (lv_at hl 5 rfl) ?_
  refine rd_calle (va_runV (As := []) (rest := []) ⟨hx, hb, hml, hown, hts⟩ (c_X8_thrown l D cA A _ _ k9 e4) (cwV 0 hts (gWVL gm_9_20 gm_9_21 gm_9_22 gm_1_5 gm_9_23) rfl rfl rfl (by decide +kernel) ⟨Nat.le_of_ble_eq_true rfl, Nat.le_of_ble_eq_true rfl⟩) (gPreV hK (g_rf hK hP (ci := 10) (q0 := 0) rfl rfl) hP) rfl rfl hl.1 rfl (lv_room (Nat.le_of_ble_eq_true rfl)) dL_law_246 ⟨by omega, by omega⟩) ?_
  refine lv_iload hx hb dL_law_249 (lv_at hl 1 rfl) ?_
  refine lv_icmp_eq (tgt := 256) hx hb dL_law_251 (by decide) (fun _ => ?_) (fun q => absurd rfl q)
  refine lv_iload hx hb dL_law_256 (lv_at hl 1 rfl) ?_
  refine g_if_ne (P := k9 = 0) (tgt := 273) hx hb dL_law_258 (by decide) (nI_z (by omega)) (fun _ => ?_) (fun hz => ?_)
  · exact lv_goto (tgt := 2162) hx hb dL_law_273 (by decide) (KK _ _ _ _ _ _ _ hLS hP hO hD hS (lv_sub hl [2, 3, 4, 5, 6, 7] rfl))
  · refine lv_aload_n hx hb dL_law_261 rfl (lv_at hl 4 rfl) ?_
    refine lv_iconst (v := nI 0) hx hb dL_law_262 gc_0 ?_
    refine va_lald hx hb hK.1 hO 0 3 rfl rfl (vp_in_iff.mpr (by decide +kernel)) dL_law_263 ?_
    refine lv_iload hx hb dL_law_264 (lv_at hl 0 rfl) ?_
    refine lv_i2l (v := r8.toInt64) hx hb dL_law_266 rfl ?_
    refine W.lcmp hx hb dL_law_267 ?_
    have h99 : g9 (nI 0).toNatClampNeg = r8.toInt64 := by rw [h8, e1 hz, show (nI 0).toNatClampNeg = 0 from nI_clamp (by decide)]; exact hg9 hz
    exact lv_if_eq (tgt := 273) hx hb dL_law_268 (by decide) (fun _ => lv_goto (tgt := 2162) hx hb dL_law_273 (by decide) (KK _ _ _ _ _ _ _ hLS hP hO hD hS (lv_sub hl [2, 3, 4, 5, 6, 7] rfl))) (fun q => absurd (lg_same h99) q)

set_option maxHeartbeats 1000000 in
set_option maxRecDepth 100000 in
theorem lc_bring (l : Launch) (hlt : l.stackTraces = false) {p : Program} {e : Env} {s : State} {m : MethodId} {args : Array Value} {below : List Frame} {meth : Method} {c0 : Code} {Q : State → Prop} {H : Heap} {locs : List Loc} {ls : Array Slot} {ce sl i : Nat} {D : va_G} {cA : Nat → ClassId} {AE : Nat → Prop} {adK adV sa : Nat → Nat} {U : Nat → Nat} {rg : Nat → Option Nat} {A : Nat → Nat} {o od b L : Nat} {xs : Nat → Int32} {x : Nat → Int32} {f : Nat → Nat → Int32} {g : Nat → Int64} {gd : Nat → UInt64} (hx : p.tables.exec = Jvm.exec) (hb : c0.code = cL_law) (hml : c0.maxLocals = 9) (hown : s.vm.findClass RL = some m.cls) (hts : ∀ w ∈ Cond.initialized RL :: gG, w.before args s = true) (hK : gK D cA s) (hE : gE AE adK adV sa s s.heap) (hN : gNc s) (hX : va_X b L xs s s.heap) (hbl : b < s.heap.size) (hL : L ≤ 1536) (hi : i + 3 ≤ L) (hA : aInj 189 U) (hM : mInj A) (hrg : uRg U rg) (hAE : ∀ q, s.heap.size ≤ q → AE q) (hUf : ∀ q, aS 189 U q → s.heap.size ≤ q ∧ ¬ MA A q ∧ q ≠ o ∧ q ≠ od) (hMf : ∀ q, MA A q → s.heap.size ≤ q ∧ q ≠ o ∧ q ≠ od) (hof : s.heap.size ≤ o ∧ s.heap.size ≤ od ∧ o ≠ od) (hce : ce + 9 ≤ room_1.cells) (hsl : sl + 60 ≤ room_1.slots) (hS : va_S (fun q => s.heap.size ≤ q) s.heap H locs) (hl : lv_has ls 9 [(5, .int (nI i)), (4, .ref (od)), (3, .ref (o)), (2, .ref (A 0)), (1, .ref (U 0)), (0, .ref (b))]) (hLS : LST D cA U rg x f H) (hP : va_P D vwCl (mw cA A x f) H) (hO : va_P D vwCl (oL cA o g) H) (hD : va_P D vwCl (oD cA od gd) H)  (KK : ∀ (x1 : Nat → Int32) (f1 : Nat → Nat → Int32) (g1 : Nat → Int64) (gd1 : Nat → UInt64) (H1 : Heap) (locs1 : List Loc) (ls1 : Array Slot), LST D cA U rg x1 f1 H1 → va_P D vwCl (mw cA A x1 f1) H1 → va_P D vwCl (oL cA o g1) H1 → va_P D vwCl (oD cA od gd1) H1 → va_S (fun q => s.heap.size ≤ q) s.heap H1 locs1 → lv_has ls1 9 [(5, .int (nI i)), (4, .ref (od)), (3, .ref (o)), (2, .ref (A 0)), (1, .ref (U 0)), (0, .ref (b))] → W p l e room_1 s m args below meth c0 H1 locs1 (ce + 1) (sl + 6) Q (F0 m 2162 ls1 [])) : W p l e room_1 s m args below meth c0 H locs ce sl Q (F0 m 276 ls []) := by
  obtain ⟨c, z, rz, hd, ct, rs, dt, mf, mn, tc, tl, to, kd, fi, se, ta, nu, lc, ln, sv, er, R, hU⟩ := hLS
  have hFA : ∀ q, aS 189 U q → AE q := fun q h => hAE q (hUf q h).1
  have hUO : ∀ q, uO U o q → s.heap.size ≤ q := fun q h => h.elim (fun h => (hUf q h).1) (fun h => h ▸ hof.1)
  have hoU : ¬ aS 189 U o := fun h => (hUf o h).2.2.1 rfl
  have hbA : ¬ (fun q => s.heap.size ≤ q) b := fun h => absurd hbl (Nat.not_lt.mpr h)
  refine lv_aload_n hx hb dL_law_276 rfl (lv_at hl 4 rfl) ?_
  refine lv_aload_n hx hb dL_law_277 rfl (lv_at hl 5 rfl) ?_
  refine lv_iload hx hb dL_law_278 (lv_at hl 0 rfl) ?_
  refine lv_iconst (v := nI 1) hx hb dL_law_280 gc_1 ?_
  refine lv_iadd hx hb dL_law_281 ?_
  rw [nI_add]
  refine va_sld (A := (fun q => s.heap.size ≤ q)) hx hb hX hbl hbA hS (lp_in (by omega) hL) dL_law_282 ?_
  refine lv_aload_n hx hb dL_law_283 rfl (lv_at hl 5 rfl) ?_
  refine lv_iload hx hb dL_law_284 (lv_at hl 0 rfl) ?_
  refine lv_iconst (v := nI 2) hx hb dL_law_286 gc_2 ?_
  refine lv_iadd hx hb dL_law_287 ?_
  rw [nI_add]
  refine va_sld (A := (fun q => s.heap.size ≤ q)) hx hb hX hbl hbA hS (lp_in (by omega) hL) dL_law_288 ?_
  refine lv_aload_n hx hb dL_law_289 rfl (lv_at hl 2 rfl) ?_
  refine wr_calli (vx_runSW (As := [.ref (U 0), .int (xs (nI (i + 1)).toNatClampNeg), .int (xs (nI (i + 2)).toNatClampNeg), .ref (o)]) (rest := []) ⟨hx, hb, hml, hown, hts⟩ (c_L_bring l hlt D cA AE adK adV sa U rg c z rz hd ct rs dt mf mn tc tl to kd fi se ta nu lc ln sv er (xs (nI (i + 1)).toNatClampNeg) (xs (nI (i + 2)).toNatClampNeg) o g hA hFA hoU (fun q h => hAE q (hUO q h)) R.I.ok hrg R.H.1 R.H.2.1) (vx_cwSW 4 hts (gWSL gm_10_0 gm_10_1 gm_6_2 gm_10_2) rfl rfl rfl (by decide +kernel) ⟨Nat.le_of_ble_eq_true rfl, Nat.le_of_ble_eq_true rfl⟩) (gPreSy hK hE hN hS hAE ⟨hU, hO⟩) rfl rfl hl.1 rfl (lv_room (Nat.le_of_ble_eq_true rfl)) dL_law_290 ⟨by omega, by omega⟩) hS (fun q _ h => hUO q h) (fun q h => hUO q h) (fun r H1 locs1 hw9 hz9 hk9 hS => ?_)
  obtain ⟨k9, rr, g9, rfl, hk2, hg9, hO, C⟩ := hw9
  obtain ⟨e4, e1, hLS⟩ := op_bring R C
  have hP := vP_fr hP hk9 (mw_n (A1 := uO U o) hM (fun q h h2 => h2.elim (fun h2 => (hUf q h2).2.1 h) (fun h2 => (hMf q h).2.1 h2)))
  have hD := vP_fr hD hk9 (oD_n (A := uO U o) (fun h => h.elim (fun h => (hUf od h).2.2.2 rfl) (fun h => hof.2.2 h.symm)))
  refine lv_istore (lv' := [(6, .int (nI k9)), (5, .int (nI i)), (4, .ref (od)), (3, .ref (o)), (2, .ref (A 0)), (1, .ref (U 0)), (0, .ref (b))]) hx hb dL_law_293 hl (by decide) rfl (fun ls hl => ?_)
  refine lv_aload_n hx hb dL_law_295 rfl (lv_at hl 4 rfl) ?_
  refine lv_aload_n hx hb dL_law_296 rfl (lv_at hl 6 rfl) ?_
  refine lv_iload hx hb dL_law_297 (lv_at hl 1 rfl) ?_
  refine lv_iconst (v := nI 1) hx hb dL_law_299 gc_1 ?_
  refine lv_iadd hx hb dL_law_300 ?_
  rw [nI_add]
  refine va_sld (A := (fun q => s.heap.size ≤ q)) hx hb hX hbl hbA hS (lp_in (by omega) hL) dL_law_301 ?_
  refine lv_aload_n hx hb dL_law_302 rfl (lv_at hl 6 rfl) ?_
  refine lv_iload hx hb dL_law_303 (lv_at hl 1 rfl) ?_
  refine lv_iconst (v := nI 2) hx hb dL_law_305 gc_2 ?_
  refine lv_iadd hx hb dL_law_306 ?_
  rw [nI_add]
  refine va_sld (A := (fun q => s.heap.size ≤ q)) hx hb hX hbl hbA hS (lp_in (by omega) hL) dL_law_307 ?_
  refine wr_calli (va_runV (As := [.int (xs (nI (i + 1)).toNatClampNeg), .int (xs (nI (i + 2)).toNatClampNeg)]) (rest := []) ⟨hx, hb, hml, hown, hts⟩ (c_X8_bring l D cA A x f (xs (nI (i + 1)).toNatClampNeg) (xs (nI (i + 2)).toNatClampNeg) (zcn c) false ct hM R.G.g1 R.I.cn R.x2 R.x1 R.H.2.1) (cwV 2 hts (gWVL gm_10_21 gm_10_22 gm_10_23 gm_1_5 gm_11_0) rfl rfl rfl (by decide +kernel) ⟨Nat.le_of_ble_eq_true rfl, Nat.le_of_ble_eq_true rfl⟩) (gPreV hK (g_rf hK hP (ci := 10) (q0 := 0) rfl rfl) hP) rfl rfl hl.1 rfl (lv_room (Nat.le_of_ble_eq_true rfl)) dL_law_308 ⟨by omega, by omega⟩) hS (fun q _ h => (hMf q h).1) (fun q h => (hMf q h).1) (fun r8 H2 locs2 hw8 hz8 hk8 hS => ?_)
  obtain ⟨h8, hP⟩ := hw8
  have hLS := hLS.kept hA hk8 (fun q h => (hUf q h).2.1)
  have hO := vP_fr hO hk8 (oL_n (fun h => (hMf o h).2.1 rfl))
  have hD := vP_fr hD hk8 (oD_n (fun h => (hMf od h).2.2 rfl))
  refine lv_istore (lv' := [(7, .int (r8)), (6, .int (nI k9)), (5, .int (nI i)), (4, .ref (od)), (3, .ref (o)), (2, .ref (A 0)), (1, .ref (U 0)), (0, .ref (b))]) hx hb dL_law_311 hl (by decide) rfl (fun ls hl => ?_)
  refine lv_aload_n hx hb dL_law_313 rfl (lv_at hl 5 rfl) ?_
  refine rd_calle (va_runV (As := []) (rest := []) ⟨hx, hb, hml, hown, hts⟩ (c_X8_thrown l D cA A _ _ k9 e4) (cwV 0 hts (gWVL gm_9_20 gm_9_21 gm_9_22 gm_1_5 gm_9_23) rfl rfl rfl (by decide +kernel) ⟨Nat.le_of_ble_eq_true rfl, Nat.le_of_ble_eq_true rfl⟩) (gPreV hK (g_rf hK hP (ci := 10) (q0 := 0) rfl rfl) hP) rfl rfl hl.1 rfl (lv_room (Nat.le_of_ble_eq_true rfl)) dL_law_314 ⟨by omega, by omega⟩) ?_
  refine lv_iload hx hb dL_law_317 (lv_at hl 1 rfl) ?_
  refine lv_icmp_eq (tgt := 324) hx hb dL_law_319 (by decide) (fun _ => ?_) (fun q => absurd rfl q)
  refine lv_iload hx hb dL_law_324 (lv_at hl 1 rfl) ?_
  refine g_if_ne (P := k9 = 0) (tgt := 341) hx hb dL_law_326 (by decide) (nI_z (by omega)) (fun _ => ?_) (fun hz => ?_)
  · exact lv_goto (tgt := 2162) hx hb dL_law_341 (by decide) (KK _ _ _ _ _ _ _ hLS hP hO hD hS (lv_sub hl [2, 3, 4, 5, 6, 7] rfl))
  · refine lv_aload_n hx hb dL_law_329 rfl (lv_at hl 4 rfl) ?_
    refine lv_iconst (v := nI 0) hx hb dL_law_330 gc_0 ?_
    refine va_lald hx hb hK.1 hO 0 3 rfl rfl (vp_in_iff.mpr (by decide +kernel)) dL_law_331 ?_
    refine lv_iload hx hb dL_law_332 (lv_at hl 0 rfl) ?_
    refine lv_i2l (v := r8.toInt64) hx hb dL_law_334 rfl ?_
    refine W.lcmp hx hb dL_law_335 ?_
    have h99 : g9 (nI 0).toNatClampNeg = r8.toInt64 := by rw [h8, e1 hz, show (nI 0).toNatClampNeg = 0 from nI_clamp (by decide)]; exact hg9 hz
    exact lv_if_eq (tgt := 341) hx hb dL_law_336 (by decide) (fun _ => lv_goto (tgt := 2162) hx hb dL_law_341 (by decide) (KK _ _ _ _ _ _ _ hLS hP hO hD hS (lv_sub hl [2, 3, 4, 5, 6, 7] rfl))) (fun q => absurd (lg_same h99) q)

set_option maxHeartbeats 1000000 in
set_option maxRecDepth 100000 in
theorem lc_call (l : Launch) (hlt : l.stackTraces = false) {p : Program} {e : Env} {s : State} {m : MethodId} {args : Array Value} {below : List Frame} {meth : Method} {c0 : Code} {Q : State → Prop} {H : Heap} {locs : List Loc} {ls : Array Slot} {ce sl i : Nat} {D : va_G} {cA : Nat → ClassId} {AE : Nat → Prop} {adK adV sa : Nat → Nat} {U : Nat → Nat} {rg : Nat → Option Nat} {A : Nat → Nat} {o od b L : Nat} {xs : Nat → Int32} {x : Nat → Int32} {f : Nat → Nat → Int32} {g : Nat → Int64} {gd : Nat → UInt64} (hx : p.tables.exec = Jvm.exec) (hb : c0.code = cL_law) (hml : c0.maxLocals = 9) (hown : s.vm.findClass RL = some m.cls) (hts : ∀ w ∈ Cond.initialized RL :: gG, w.before args s = true) (hK : gK D cA s) (hE : gE AE adK adV sa s s.heap) (hN : gNc s) (hX : va_X b L xs s s.heap) (hbl : b < s.heap.size) (hL : L ≤ 1536) (hi : i + 3 ≤ L) (hA : aInj 189 U) (hM : mInj A) (hrg : uRg U rg) (hAE : ∀ q, s.heap.size ≤ q → AE q) (hUf : ∀ q, aS 189 U q → s.heap.size ≤ q ∧ ¬ MA A q ∧ q ≠ o ∧ q ≠ od) (hMf : ∀ q, MA A q → s.heap.size ≤ q ∧ q ≠ o ∧ q ≠ od) (hof : s.heap.size ≤ o ∧ s.heap.size ≤ od ∧ o ≠ od) (hce : ce + 9 ≤ room_1.cells) (hsl : sl + 60 ≤ room_1.slots) (hS : va_S (fun q => s.heap.size ≤ q) s.heap H locs) (hl : lv_has ls 9 [(5, .int (nI i)), (4, .ref (od)), (3, .ref (o)), (2, .ref (A 0)), (1, .ref (U 0)), (0, .ref (b))]) (hLS : LST D cA U rg x f H) (hP : va_P D vwCl (mw cA A x f) H) (hO : va_P D vwCl (oL cA o g) H) (hD : va_P D vwCl (oD cA od gd) H)  (KK : ∀ (x1 : Nat → Int32) (f1 : Nat → Nat → Int32) (g1 : Nat → Int64) (gd1 : Nat → UInt64) (H1 : Heap) (locs1 : List Loc) (ls1 : Array Slot), LST D cA U rg x1 f1 H1 → va_P D vwCl (mw cA A x1 f1) H1 → va_P D vwCl (oL cA o g1) H1 → va_P D vwCl (oD cA od gd1) H1 → va_S (fun q => s.heap.size ≤ q) s.heap H1 locs1 → lv_has ls1 9 [(5, .int (nI i)), (4, .ref (od)), (3, .ref (o)), (2, .ref (A 0)), (1, .ref (U 0)), (0, .ref (b))] → W p l e room_1 s m args below meth c0 H1 locs1 (ce + 1) (sl + 6) Q (F0 m 2162 ls1 [])) : W p l e room_1 s m args below meth c0 H locs ce sl Q (F0 m 344 ls []) := by
  obtain ⟨c, z, rz, hd, ct, rs, dt, mf, mn, tc, tl, to, kd, fi, se, ta, nu, lc, ln, sv, er, R, hU⟩ := hLS
  have hFA : ∀ q, aS 189 U q → AE q := fun q h => hAE q (hUf q h).1
  have hUO : ∀ q, uO U o q → s.heap.size ≤ q := fun q h => h.elim (fun h => (hUf q h).1) (fun h => h ▸ hof.1)
  have hoU : ¬ aS 189 U o := fun h => (hUf o h).2.2.1 rfl
  have hbA : ¬ (fun q => s.heap.size ≤ q) b := fun h => absurd hbl (Nat.not_lt.mpr h)
  refine lv_aload_n hx hb dL_law_344 rfl (lv_at hl 4 rfl) ?_
  refine lv_aload_n hx hb dL_law_345 rfl (lv_at hl 5 rfl) ?_
  refine lv_iload hx hb dL_law_346 (lv_at hl 0 rfl) ?_
  refine lv_iconst (v := nI 1) hx hb dL_law_348 gc_1 ?_
  refine lv_iadd hx hb dL_law_349 ?_
  rw [nI_add]
  refine va_sld (A := (fun q => s.heap.size ≤ q)) hx hb hX hbl hbA hS (lp_in (by omega) hL) dL_law_350 ?_
  refine lv_aload_n hx hb dL_law_351 rfl (lv_at hl 2 rfl) ?_
  refine wr_calli (vx_runSW (As := [.ref (U 0), .int (xs (nI (i + 1)).toNatClampNeg), .ref (o)]) (rest := []) ⟨hx, hb, hml, hown, hts⟩ (c_L_call l hlt D cA AE adK adV sa U rg c z rz hd ct rs dt mf mn tc tl to kd fi se ta nu lc ln sv er (xs (nI (i + 1)).toNatClampNeg) o g hA hFA hoU (fun q h => hAE q (hUO q h)) R.I.ok hrg R.H.1 R.H.2.1 (fun q h1 h2 => pan_ok R.I h1 h2) (fun q h1 h2 => call_ok R.I h1 h2)) (vx_cwSW 3 hts (gWSL gm_11_5 gm_11_6 gm_6_2 gm_11_7) rfl rfl rfl (by decide +kernel) ⟨Nat.le_of_ble_eq_true rfl, Nat.le_of_ble_eq_true rfl⟩) (gPreSy hK hE hN hS hAE ⟨hU, hO⟩) rfl rfl hl.1 rfl (lv_room (Nat.le_of_ble_eq_true rfl)) dL_law_352 ⟨by omega, by omega⟩) hS (fun q _ h => hUO q h) (fun q h => hUO q h) (fun r H1 locs1 hw9 hz9 hk9 hS => ?_)
  obtain ⟨k9, rr, g9, rfl, hk2, hg9, hO, C⟩ := hw9
  obtain ⟨e4, e1, hLS⟩ := op_call R C
  have hP := vP_fr hP hk9 (mw_n (A1 := uO U o) hM (fun q h h2 => h2.elim (fun h2 => (hUf q h2).2.1 h) (fun h2 => (hMf q h).2.1 h2)))
  have hD := vP_fr hD hk9 (oD_n (A := uO U o) (fun h => h.elim (fun h => (hUf od h).2.2.2 rfl) (fun h => hof.2.2 h.symm)))
  refine lv_istore (lv' := [(6, .int (nI k9)), (5, .int (nI i)), (4, .ref (od)), (3, .ref (o)), (2, .ref (A 0)), (1, .ref (U 0)), (0, .ref (b))]) hx hb dL_law_355 hl (by decide) rfl (fun ls hl => ?_)
  refine lv_aload_n hx hb dL_law_357 rfl (lv_at hl 4 rfl) ?_
  refine lv_aload_n hx hb dL_law_358 rfl (lv_at hl 6 rfl) ?_
  refine lv_iload hx hb dL_law_359 (lv_at hl 1 rfl) ?_
  refine lv_iconst (v := nI 1) hx hb dL_law_361 gc_1 ?_
  refine lv_iadd hx hb dL_law_362 ?_
  rw [nI_add]
  refine va_sld (A := (fun q => s.heap.size ≤ q)) hx hb hX hbl hbA hS (lp_in (by omega) hL) dL_law_363 ?_
  refine wr_calli (va_runV (As := [.int (xs (nI (i + 1)).toNatClampNeg)]) (rest := []) ⟨hx, hb, hml, hown, hts⟩ (c_X8_call l D cA A x f (xs (nI (i + 1)).toNatClampNeg) (zjn c) (zcn c) false ct hM R.G.g0 R.I.jn R.G.g1 R.I.cn R.x2 R.x1 R.H.2.1 (RR_low R)) (cwV 1 hts (gWVL gm_13_19 gm_13_20 gm_13_21 gm_1_5 gm_13_22) rfl rfl rfl (by decide +kernel) ⟨Nat.le_of_ble_eq_true rfl, Nat.le_of_ble_eq_true rfl⟩) (gPreV hK (g_rf hK hP (ci := 10) (q0 := 0) rfl rfl) hP) rfl rfl hl.1 rfl (lv_room (Nat.le_of_ble_eq_true rfl)) dL_law_364 ⟨by omega, by omega⟩) hS (fun q _ h => (hMf q h).1) (fun q h => (hMf q h).1) (fun r8 H2 locs2 hw8 hz8 hk8 hS => ?_)
  obtain ⟨h8, hP⟩ := hw8
  have hLS := hLS.kept hA hk8 (fun q h => (hUf q h).2.1)
  have hO := vP_fr hO hk8 (oL_n (fun h => (hMf o h).2.1 rfl))
  have hD := vP_fr hD hk8 (oD_n (fun h => (hMf od h).2.2 rfl))
  refine lv_istore (lv' := [(7, .int (r8)), (6, .int (nI k9)), (5, .int (nI i)), (4, .ref (od)), (3, .ref (o)), (2, .ref (A 0)), (1, .ref (U 0)), (0, .ref (b))]) hx hb dL_law_367 hl (by decide) rfl (fun ls hl => ?_)
  refine lv_aload_n hx hb dL_law_369 rfl (lv_at hl 5 rfl) ?_
  refine rd_calle (va_runV (As := []) (rest := []) ⟨hx, hb, hml, hown, hts⟩ (c_X8_thrown l D cA A _ _ k9 e4) (cwV 0 hts (gWVL gm_9_20 gm_9_21 gm_9_22 gm_1_5 gm_9_23) rfl rfl rfl (by decide +kernel) ⟨Nat.le_of_ble_eq_true rfl, Nat.le_of_ble_eq_true rfl⟩) (gPreV hK (g_rf hK hP (ci := 10) (q0 := 0) rfl rfl) hP) rfl rfl hl.1 rfl (lv_room (Nat.le_of_ble_eq_true rfl)) dL_law_370 ⟨by omega, by omega⟩) ?_
  refine lv_iload hx hb dL_law_373 (lv_at hl 1 rfl) ?_
  refine lv_icmp_eq (tgt := 380) hx hb dL_law_375 (by decide) (fun _ => ?_) (fun q => absurd rfl q)
  refine lv_iload hx hb dL_law_380 (lv_at hl 1 rfl) ?_
  refine g_if_ne (P := k9 = 0) (tgt := 397) hx hb dL_law_382 (by decide) (nI_z (by omega)) (fun _ => ?_) (fun hz => ?_)
  · exact lv_goto (tgt := 2162) hx hb dL_law_397 (by decide) (KK _ _ _ _ _ _ _ hLS hP hO hD hS (lv_sub hl [2, 3, 4, 5, 6, 7] rfl))
  · refine lv_aload_n hx hb dL_law_385 rfl (lv_at hl 4 rfl) ?_
    refine lv_iconst (v := nI 0) hx hb dL_law_386 gc_0 ?_
    refine va_lald hx hb hK.1 hO 0 3 rfl rfl (vp_in_iff.mpr (by decide +kernel)) dL_law_387 ?_
    refine lv_iload hx hb dL_law_388 (lv_at hl 0 rfl) ?_
    refine lv_i2l (v := r8.toInt64) hx hb dL_law_390 rfl ?_
    refine W.lcmp hx hb dL_law_391 ?_
    have h99 : g9 (nI 0).toNatClampNeg = r8.toInt64 := by rw [h8, e1 hz, show (nI 0).toNatClampNeg = 0 from nI_clamp (by decide)]; exact hg9 hz
    exact lv_if_eq (tgt := 397) hx hb dL_law_392 (by decide) (fun _ => lv_goto (tgt := 2162) hx hb dL_law_397 (by decide) (KK _ _ _ _ _ _ _ hLS hP hO hD hS (lv_sub hl [2, 3, 4, 5, 6, 7] rfl))) (fun q => absurd (lg_same h99) q)

set_option maxHeartbeats 1000000 in
set_option maxRecDepth 100000 in
theorem lc_vote (l : Launch) (hlt : l.stackTraces = false) {p : Program} {e : Env} {s : State} {m : MethodId} {args : Array Value} {below : List Frame} {meth : Method} {c0 : Code} {Q : State → Prop} {H : Heap} {locs : List Loc} {ls : Array Slot} {ce sl i : Nat} {D : va_G} {cA : Nat → ClassId} {AE : Nat → Prop} {adK adV sa : Nat → Nat} {U : Nat → Nat} {rg : Nat → Option Nat} {A : Nat → Nat} {o od b L : Nat} {xs : Nat → Int32} {x : Nat → Int32} {f : Nat → Nat → Int32} {g : Nat → Int64} {gd : Nat → UInt64} (hx : p.tables.exec = Jvm.exec) (hb : c0.code = cL_law) (hml : c0.maxLocals = 9) (hown : s.vm.findClass RL = some m.cls) (hts : ∀ w ∈ Cond.initialized RL :: gG, w.before args s = true) (hK : gK D cA s) (hE : gE AE adK adV sa s s.heap) (hN : gNc s) (hX : va_X b L xs s s.heap) (hbl : b < s.heap.size) (hL : L ≤ 1536) (hi : i + 3 ≤ L) (hA : aInj 189 U) (hM : mInj A) (hrg : uRg U rg) (hAE : ∀ q, s.heap.size ≤ q → AE q) (hUf : ∀ q, aS 189 U q → s.heap.size ≤ q ∧ ¬ MA A q ∧ q ≠ o ∧ q ≠ od) (hMf : ∀ q, MA A q → s.heap.size ≤ q ∧ q ≠ o ∧ q ≠ od) (hof : s.heap.size ≤ o ∧ s.heap.size ≤ od ∧ o ≠ od) (hce : ce + 9 ≤ room_1.cells) (hsl : sl + 60 ≤ room_1.slots) (hS : va_S (fun q => s.heap.size ≤ q) s.heap H locs) (hl : lv_has ls 9 [(5, .int (nI i)), (4, .ref (od)), (3, .ref (o)), (2, .ref (A 0)), (1, .ref (U 0)), (0, .ref (b))]) (hLS : LST D cA U rg x f H) (hP : va_P D vwCl (mw cA A x f) H) (hO : va_P D vwCl (oL cA o g) H) (hD : va_P D vwCl (oD cA od gd) H)  (KK : ∀ (x1 : Nat → Int32) (f1 : Nat → Nat → Int32) (g1 : Nat → Int64) (gd1 : Nat → UInt64) (H1 : Heap) (locs1 : List Loc) (ls1 : Array Slot), LST D cA U rg x1 f1 H1 → va_P D vwCl (mw cA A x1 f1) H1 → va_P D vwCl (oL cA o g1) H1 → va_P D vwCl (oD cA od gd1) H1 → va_S (fun q => s.heap.size ≤ q) s.heap H1 locs1 → lv_has ls1 9 [(5, .int (nI i)), (4, .ref (od)), (3, .ref (o)), (2, .ref (A 0)), (1, .ref (U 0)), (0, .ref (b))] → W p l e room_1 s m args below meth c0 H1 locs1 (ce + 1) (sl + 6) Q (F0 m 2162 ls1 [])) : W p l e room_1 s m args below meth c0 H locs ce sl Q (F0 m 400 ls []) := by
  obtain ⟨c, z, rz, hd, ct, rs, dt, mf, mn, tc, tl, to, kd, fi, se, ta, nu, lc, ln, sv, er, R, hU⟩ := hLS
  have hFA : ∀ q, aS 189 U q → AE q := fun q h => hAE q (hUf q h).1
  have hUO : ∀ q, uO U o q → s.heap.size ≤ q := fun q h => h.elim (fun h => (hUf q h).1) (fun h => h ▸ hof.1)
  have hoU : ¬ aS 189 U o := fun h => (hUf o h).2.2.1 rfl
  have hbA : ¬ (fun q => s.heap.size ≤ q) b := fun h => absurd hbl (Nat.not_lt.mpr h)
  refine lv_aload_n hx hb dL_law_400 rfl (lv_at hl 4 rfl) ?_
  refine lv_aload_n hx hb dL_law_401 rfl (lv_at hl 5 rfl) ?_
  refine lv_iload hx hb dL_law_402 (lv_at hl 0 rfl) ?_
  refine lv_iconst (v := nI 1) hx hb dL_law_404 gc_1 ?_
  refine lv_iadd hx hb dL_law_405 ?_
  rw [nI_add]
  refine va_sld (A := (fun q => s.heap.size ≤ q)) hx hb hX hbl hbA hS (lp_in (by omega) hL) dL_law_406 ?_
  refine lv_aload_n hx hb dL_law_407 rfl (lv_at hl 2 rfl) ?_
  refine wr_calli (vx_runSW (As := [.ref (U 0), .int (xs (nI (i + 1)).toNatClampNeg), .ref (o)]) (rest := []) ⟨hx, hb, hml, hown, hts⟩ (c_L_vote l hlt D cA AE adK adV sa U rg c z rz hd ct rs dt mf mn tc tl to kd fi se ta nu lc ln sv er (xs (nI (i + 1)).toNatClampNeg) o g hA hFA hoU (fun q h => hAE q (hUO q h)) R.I.ok hrg R.H.1 R.H.2.1) (vx_cwSW 3 hts (gWSL gm_15_13 gm_15_14 gm_6_2 gm_15_15) rfl rfl rfl (by decide +kernel) ⟨Nat.le_of_ble_eq_true rfl, Nat.le_of_ble_eq_true rfl⟩) (gPreSy hK hE hN hS hAE ⟨hU, hO⟩) rfl rfl hl.1 rfl (lv_room (Nat.le_of_ble_eq_true rfl)) dL_law_408 ⟨by omega, by omega⟩) hS (fun q _ h => hUO q h) (fun q h => hUO q h) (fun r H1 locs1 hw9 hz9 hk9 hS => ?_)
  obtain ⟨k9, rr, g9, rfl, hk2, hg9, hO, C⟩ := hw9
  obtain ⟨e4, e1, hLS⟩ := op_vote R C
  have hP := vP_fr hP hk9 (mw_n (A1 := uO U o) hM (fun q h h2 => h2.elim (fun h2 => (hUf q h2).2.1 h) (fun h2 => (hMf q h).2.1 h2)))
  have hD := vP_fr hD hk9 (oD_n (A := uO U o) (fun h => h.elim (fun h => (hUf od h).2.2.2 rfl) (fun h => hof.2.2 h.symm)))
  refine lv_istore (lv' := [(6, .int (nI k9)), (5, .int (nI i)), (4, .ref (od)), (3, .ref (o)), (2, .ref (A 0)), (1, .ref (U 0)), (0, .ref (b))]) hx hb dL_law_411 hl (by decide) rfl (fun ls hl => ?_)
  refine lv_aload_n hx hb dL_law_413 rfl (lv_at hl 4 rfl) ?_
  refine lv_aload_n hx hb dL_law_414 rfl (lv_at hl 6 rfl) ?_
  refine lv_iload hx hb dL_law_415 (lv_at hl 1 rfl) ?_
  refine lv_iconst (v := nI 1) hx hb dL_law_417 gc_1 ?_
  refine lv_iadd hx hb dL_law_418 ?_
  rw [nI_add]
  refine va_sld (A := (fun q => s.heap.size ≤ q)) hx hb hX hbl hbA hS (lp_in (by omega) hL) dL_law_419 ?_
  refine wr_calli (va_runV (As := [.int (xs (nI (i + 1)).toNatClampNeg)]) (rest := []) ⟨hx, hb, hml, hown, hts⟩ (c_X8_vote l D cA A x f (xs (nI (i + 1)).toNatClampNeg) (zjn c) (zcn c) false ct hM R.G.g0 R.I.jn R.G.g1 R.I.cn R.x2 R.x1 R.H.2.1) (cwV 1 hts (gWVL gm_17_15 gm_17_16 gm_17_17 gm_1_5 gm_17_18) rfl rfl rfl (by decide +kernel) ⟨Nat.le_of_ble_eq_true rfl, Nat.le_of_ble_eq_true rfl⟩) (gPreV hK (g_rf hK hP (ci := 10) (q0 := 0) rfl rfl) hP) rfl rfl hl.1 rfl (lv_room (Nat.le_of_ble_eq_true rfl)) dL_law_420 ⟨by omega, by omega⟩) hS (fun q _ h => (hMf q h).1) (fun q h => (hMf q h).1) (fun r8 H2 locs2 hw8 hz8 hk8 hS => ?_)
  obtain ⟨h8, hP⟩ := hw8
  have hLS := hLS.kept hA hk8 (fun q h => (hUf q h).2.1)
  have hO := vP_fr hO hk8 (oL_n (fun h => (hMf o h).2.1 rfl))
  have hD := vP_fr hD hk8 (oD_n (fun h => (hMf od h).2.2 rfl))
  refine lv_istore (lv' := [(7, .int (r8)), (6, .int (nI k9)), (5, .int (nI i)), (4, .ref (od)), (3, .ref (o)), (2, .ref (A 0)), (1, .ref (U 0)), (0, .ref (b))]) hx hb dL_law_423 hl (by decide) rfl (fun ls hl => ?_)
  refine lv_aload_n hx hb dL_law_425 rfl (lv_at hl 5 rfl) ?_
  refine rd_calle (va_runV (As := []) (rest := []) ⟨hx, hb, hml, hown, hts⟩ (c_X8_thrown l D cA A _ _ k9 e4) (cwV 0 hts (gWVL gm_9_20 gm_9_21 gm_9_22 gm_1_5 gm_9_23) rfl rfl rfl (by decide +kernel) ⟨Nat.le_of_ble_eq_true rfl, Nat.le_of_ble_eq_true rfl⟩) (gPreV hK (g_rf hK hP (ci := 10) (q0 := 0) rfl rfl) hP) rfl rfl hl.1 rfl (lv_room (Nat.le_of_ble_eq_true rfl)) dL_law_426 ⟨by omega, by omega⟩) ?_
  refine lv_iload hx hb dL_law_429 (lv_at hl 1 rfl) ?_
  refine lv_icmp_eq (tgt := 436) hx hb dL_law_431 (by decide) (fun _ => ?_) (fun q => absurd rfl q)
  refine lv_iload hx hb dL_law_436 (lv_at hl 1 rfl) ?_
  refine g_if_ne (P := k9 = 0) (tgt := 453) hx hb dL_law_438 (by decide) (nI_z (by omega)) (fun _ => ?_) (fun hz => ?_)
  · exact lv_goto (tgt := 2162) hx hb dL_law_453 (by decide) (KK _ _ _ _ _ _ _ hLS hP hO hD hS (lv_sub hl [2, 3, 4, 5, 6, 7] rfl))
  · refine lv_aload_n hx hb dL_law_441 rfl (lv_at hl 4 rfl) ?_
    refine lv_iconst (v := nI 0) hx hb dL_law_442 gc_0 ?_
    refine va_lald hx hb hK.1 hO 0 3 rfl rfl (vp_in_iff.mpr (by decide +kernel)) dL_law_443 ?_
    refine lv_iload hx hb dL_law_444 (lv_at hl 0 rfl) ?_
    refine lv_i2l (v := r8.toInt64) hx hb dL_law_446 rfl ?_
    refine W.lcmp hx hb dL_law_447 ?_
    have h99 : g9 (nI 0).toNatClampNeg = r8.toInt64 := by rw [h8, e1 hz, show (nI 0).toNatClampNeg = 0 from nI_clamp (by decide)]; exact hg9 hz
    exact lv_if_eq (tgt := 453) hx hb dL_law_448 (by decide) (fun _ => lv_goto (tgt := 2162) hx hb dL_law_453 (by decide) (KK _ _ _ _ _ _ _ hLS hP hO hD hS (lv_sub hl [2, 3, 4, 5, 6, 7] rfl))) (fun q => absurd (lg_same h99) q)

set_option maxHeartbeats 1000000 in
set_option maxRecDepth 100000 in
theorem lc_unsay (l : Launch) (hlt : l.stackTraces = false) {p : Program} {e : Env} {s : State} {m : MethodId} {args : Array Value} {below : List Frame} {meth : Method} {c0 : Code} {Q : State → Prop} {H : Heap} {locs : List Loc} {ls : Array Slot} {ce sl i : Nat} {D : va_G} {cA : Nat → ClassId} {AE : Nat → Prop} {adK adV sa : Nat → Nat} {U : Nat → Nat} {rg : Nat → Option Nat} {A : Nat → Nat} {o od b L : Nat} {xs : Nat → Int32} {x : Nat → Int32} {f : Nat → Nat → Int32} {g : Nat → Int64} {gd : Nat → UInt64} (hx : p.tables.exec = Jvm.exec) (hb : c0.code = cL_law) (hml : c0.maxLocals = 9) (hown : s.vm.findClass RL = some m.cls) (hts : ∀ w ∈ Cond.initialized RL :: gG, w.before args s = true) (hK : gK D cA s) (hE : gE AE adK adV sa s s.heap) (hN : gNc s) (hX : va_X b L xs s s.heap) (hbl : b < s.heap.size) (hL : L ≤ 1536) (hi : i + 3 ≤ L) (hA : aInj 189 U) (hM : mInj A) (hrg : uRg U rg) (hAE : ∀ q, s.heap.size ≤ q → AE q) (hUf : ∀ q, aS 189 U q → s.heap.size ≤ q ∧ ¬ MA A q ∧ q ≠ o ∧ q ≠ od) (hMf : ∀ q, MA A q → s.heap.size ≤ q ∧ q ≠ o ∧ q ≠ od) (hof : s.heap.size ≤ o ∧ s.heap.size ≤ od ∧ o ≠ od) (hce : ce + 9 ≤ room_1.cells) (hsl : sl + 60 ≤ room_1.slots) (hS : va_S (fun q => s.heap.size ≤ q) s.heap H locs) (hl : lv_has ls 9 [(5, .int (nI i)), (4, .ref (od)), (3, .ref (o)), (2, .ref (A 0)), (1, .ref (U 0)), (0, .ref (b))]) (hLS : LST D cA U rg x f H) (hP : va_P D vwCl (mw cA A x f) H) (hO : va_P D vwCl (oL cA o g) H) (hD : va_P D vwCl (oD cA od gd) H)  (KK : ∀ (x1 : Nat → Int32) (f1 : Nat → Nat → Int32) (g1 : Nat → Int64) (gd1 : Nat → UInt64) (H1 : Heap) (locs1 : List Loc) (ls1 : Array Slot), LST D cA U rg x1 f1 H1 → va_P D vwCl (mw cA A x1 f1) H1 → va_P D vwCl (oL cA o g1) H1 → va_P D vwCl (oD cA od gd1) H1 → va_S (fun q => s.heap.size ≤ q) s.heap H1 locs1 → lv_has ls1 9 [(5, .int (nI i)), (4, .ref (od)), (3, .ref (o)), (2, .ref (A 0)), (1, .ref (U 0)), (0, .ref (b))] → W p l e room_1 s m args below meth c0 H1 locs1 (ce + 1) (sl + 6) Q (F0 m 2162 ls1 [])) : W p l e room_1 s m args below meth c0 H locs ce sl Q (F0 m 456 ls []) := by
  obtain ⟨c, z, rz, hd, ct, rs, dt, mf, mn, tc, tl, to, kd, fi, se, ta, nu, lc, ln, sv, er, R, hU⟩ := hLS
  have hFA : ∀ q, aS 189 U q → AE q := fun q h => hAE q (hUf q h).1
  have hUO : ∀ q, uO U o q → s.heap.size ≤ q := fun q h => h.elim (fun h => (hUf q h).1) (fun h => h ▸ hof.1)
  have hoU : ¬ aS 189 U o := fun h => (hUf o h).2.2.1 rfl
  have hbA : ¬ (fun q => s.heap.size ≤ q) b := fun h => absurd hbl (Nat.not_lt.mpr h)
  refine lv_aload_n hx hb dL_law_456 rfl (lv_at hl 4 rfl) ?_
  refine lv_aload_n hx hb dL_law_457 rfl (lv_at hl 5 rfl) ?_
  refine lv_iload hx hb dL_law_458 (lv_at hl 0 rfl) ?_
  refine lv_iconst (v := nI 1) hx hb dL_law_460 gc_1 ?_
  refine lv_iadd hx hb dL_law_461 ?_
  rw [nI_add]
  refine va_sld (A := (fun q => s.heap.size ≤ q)) hx hb hX hbl hbA hS (lp_in (by omega) hL) dL_law_462 ?_
  refine lv_aload_n hx hb dL_law_463 rfl (lv_at hl 2 rfl) ?_
  refine wr_calli (vx_runSW (As := [.ref (U 0), .int (xs (nI (i + 1)).toNatClampNeg), .ref (o)]) (rest := []) ⟨hx, hb, hml, hown, hts⟩ (c_L_unsay l hlt D cA AE adK adV sa U rg c z rz hd ct rs dt mf mn tc tl to kd fi se ta nu lc ln sv er (xs (nI (i + 1)).toNatClampNeg) o g hA hFA hoU (fun q h => hAE q (hUO q h)) R.I.ok hrg R.H.1 R.H.2.1 (fun q h1 h2 => uns_ok R.I h1 h2)) (vx_cwSW 3 hts (gWSL gm_18_22 gm_18_23 gm_6_2 gm_19_0) rfl rfl rfl (by decide +kernel) ⟨Nat.le_of_ble_eq_true rfl, Nat.le_of_ble_eq_true rfl⟩) (gPreSy hK hE hN hS hAE ⟨hU, hO⟩) rfl rfl hl.1 rfl (lv_room (Nat.le_of_ble_eq_true rfl)) dL_law_464 ⟨by omega, by omega⟩) hS (fun q _ h => hUO q h) (fun q h => hUO q h) (fun r H1 locs1 hw9 hz9 hk9 hS => ?_)
  obtain ⟨k9, rr, g9, rfl, hk2, hg9, hO, C⟩ := hw9
  obtain ⟨e4, e1, hLS⟩ := op_unsay R C
  have hP := vP_fr hP hk9 (mw_n (A1 := uO U o) hM (fun q h h2 => h2.elim (fun h2 => (hUf q h2).2.1 h) (fun h2 => (hMf q h).2.1 h2)))
  have hD := vP_fr hD hk9 (oD_n (A := uO U o) (fun h => h.elim (fun h => (hUf od h).2.2.2 rfl) (fun h => hof.2.2 h.symm)))
  refine lv_istore (lv' := [(6, .int (nI k9)), (5, .int (nI i)), (4, .ref (od)), (3, .ref (o)), (2, .ref (A 0)), (1, .ref (U 0)), (0, .ref (b))]) hx hb dL_law_467 hl (by decide) rfl (fun ls hl => ?_)
  refine lv_aload_n hx hb dL_law_469 rfl (lv_at hl 4 rfl) ?_
  refine lv_aload_n hx hb dL_law_470 rfl (lv_at hl 6 rfl) ?_
  refine lv_iload hx hb dL_law_471 (lv_at hl 1 rfl) ?_
  refine lv_iconst (v := nI 1) hx hb dL_law_473 gc_1 ?_
  refine lv_iadd hx hb dL_law_474 ?_
  rw [nI_add]
  refine va_sld (A := (fun q => s.heap.size ≤ q)) hx hb hX hbl hbA hS (lp_in (by omega) hL) dL_law_475 ?_
  refine wr_calli (va_runV (As := [.int (xs (nI (i + 1)).toNatClampNeg)]) (rest := []) ⟨hx, hb, hml, hown, hts⟩ (c_X8_unsay l D cA A x f (xs (nI (i + 1)).toNatClampNeg) (zjn c) (zcn c) false ct hM R.G.g0 R.I.jn R.G.g1 R.I.cn R.x2 R.x1 R.H.2.1) (cwV 1 hts (gWVL gm_19_19 gm_19_20 gm_19_21 gm_1_5 gm_19_22) rfl rfl rfl (by decide +kernel) ⟨Nat.le_of_ble_eq_true rfl, Nat.le_of_ble_eq_true rfl⟩) (gPreV hK (g_rf hK hP (ci := 10) (q0 := 0) rfl rfl) hP) rfl rfl hl.1 rfl (lv_room (Nat.le_of_ble_eq_true rfl)) dL_law_476 ⟨by omega, by omega⟩) hS (fun q _ h => (hMf q h).1) (fun q h => (hMf q h).1) (fun r8 H2 locs2 hw8 hz8 hk8 hS => ?_)
  obtain ⟨h8, hP⟩ := hw8
  have hLS := hLS.kept hA hk8 (fun q h => (hUf q h).2.1)
  have hO := vP_fr hO hk8 (oL_n (fun h => (hMf o h).2.1 rfl))
  have hD := vP_fr hD hk8 (oD_n (fun h => (hMf od h).2.2 rfl))
  refine lv_istore (lv' := [(7, .int (r8)), (6, .int (nI k9)), (5, .int (nI i)), (4, .ref (od)), (3, .ref (o)), (2, .ref (A 0)), (1, .ref (U 0)), (0, .ref (b))]) hx hb dL_law_479 hl (by decide) rfl (fun ls hl => ?_)
  refine lv_aload_n hx hb dL_law_481 rfl (lv_at hl 5 rfl) ?_
  refine rd_calle (va_runV (As := []) (rest := []) ⟨hx, hb, hml, hown, hts⟩ (c_X8_thrown l D cA A _ _ k9 e4) (cwV 0 hts (gWVL gm_9_20 gm_9_21 gm_9_22 gm_1_5 gm_9_23) rfl rfl rfl (by decide +kernel) ⟨Nat.le_of_ble_eq_true rfl, Nat.le_of_ble_eq_true rfl⟩) (gPreV hK (g_rf hK hP (ci := 10) (q0 := 0) rfl rfl) hP) rfl rfl hl.1 rfl (lv_room (Nat.le_of_ble_eq_true rfl)) dL_law_482 ⟨by omega, by omega⟩) ?_
  refine lv_iload hx hb dL_law_485 (lv_at hl 1 rfl) ?_
  refine lv_icmp_eq (tgt := 492) hx hb dL_law_487 (by decide) (fun _ => ?_) (fun q => absurd rfl q)
  refine lv_iload hx hb dL_law_492 (lv_at hl 1 rfl) ?_
  refine g_if_ne (P := k9 = 0) (tgt := 509) hx hb dL_law_494 (by decide) (nI_z (by omega)) (fun _ => ?_) (fun hz => ?_)
  · exact lv_goto (tgt := 2162) hx hb dL_law_509 (by decide) (KK _ _ _ _ _ _ _ hLS hP hO hD hS (lv_sub hl [2, 3, 4, 5, 6, 7] rfl))
  · refine lv_aload_n hx hb dL_law_497 rfl (lv_at hl 4 rfl) ?_
    refine lv_iconst (v := nI 0) hx hb dL_law_498 gc_0 ?_
    refine va_lald hx hb hK.1 hO 0 3 rfl rfl (vp_in_iff.mpr (by decide +kernel)) dL_law_499 ?_
    refine lv_iload hx hb dL_law_500 (lv_at hl 0 rfl) ?_
    refine lv_i2l (v := r8.toInt64) hx hb dL_law_502 rfl ?_
    refine W.lcmp hx hb dL_law_503 ?_
    have h99 : g9 (nI 0).toNatClampNeg = r8.toInt64 := by rw [h8, e1 hz, show (nI 0).toNatClampNeg = 0 from nI_clamp (by decide)]; exact hg9 hz
    exact lv_if_eq (tgt := 509) hx hb dL_law_504 (by decide) (fun _ => lv_goto (tgt := 2162) hx hb dL_law_509 (by decide) (KK _ _ _ _ _ _ _ hLS hP hO hD hS (lv_sub hl [2, 3, 4, 5, 6, 7] rfl))) (fun q => absurd (lg_same h99) q)

set_option maxHeartbeats 1000000 in
set_option maxRecDepth 100000 in
theorem lc_appeal (l : Launch) (hlt : l.stackTraces = false) {p : Program} {e : Env} {s : State} {m : MethodId} {args : Array Value} {below : List Frame} {meth : Method} {c0 : Code} {Q : State → Prop} {H : Heap} {locs : List Loc} {ls : Array Slot} {ce sl i : Nat} {D : va_G} {cA : Nat → ClassId} {AE : Nat → Prop} {adK adV sa : Nat → Nat} {U : Nat → Nat} {rg : Nat → Option Nat} {A : Nat → Nat} {o od b L : Nat} {xs : Nat → Int32} {x : Nat → Int32} {f : Nat → Nat → Int32} {g : Nat → Int64} {gd : Nat → UInt64} (hx : p.tables.exec = Jvm.exec) (hb : c0.code = cL_law) (hml : c0.maxLocals = 9) (hown : s.vm.findClass RL = some m.cls) (hts : ∀ w ∈ Cond.initialized RL :: gG, w.before args s = true) (hK : gK D cA s) (hE : gE AE adK adV sa s s.heap) (hN : gNc s) (hX : va_X b L xs s s.heap) (hbl : b < s.heap.size) (hL : L ≤ 1536) (hi : i + 3 ≤ L) (hA : aInj 189 U) (hM : mInj A) (hrg : uRg U rg) (hAE : ∀ q, s.heap.size ≤ q → AE q) (hUf : ∀ q, aS 189 U q → s.heap.size ≤ q ∧ ¬ MA A q ∧ q ≠ o ∧ q ≠ od) (hMf : ∀ q, MA A q → s.heap.size ≤ q ∧ q ≠ o ∧ q ≠ od) (hof : s.heap.size ≤ o ∧ s.heap.size ≤ od ∧ o ≠ od) (hce : ce + 9 ≤ room_1.cells) (hsl : sl + 60 ≤ room_1.slots) (hS : va_S (fun q => s.heap.size ≤ q) s.heap H locs) (hl : lv_has ls 9 [(5, .int (nI i)), (4, .ref (od)), (3, .ref (o)), (2, .ref (A 0)), (1, .ref (U 0)), (0, .ref (b))]) (hLS : LST D cA U rg x f H) (hP : va_P D vwCl (mw cA A x f) H) (hO : va_P D vwCl (oL cA o g) H) (hD : va_P D vwCl (oD cA od gd) H)  (KK : ∀ (x1 : Nat → Int32) (f1 : Nat → Nat → Int32) (g1 : Nat → Int64) (gd1 : Nat → UInt64) (H1 : Heap) (locs1 : List Loc) (ls1 : Array Slot), LST D cA U rg x1 f1 H1 → va_P D vwCl (mw cA A x1 f1) H1 → va_P D vwCl (oL cA o g1) H1 → va_P D vwCl (oD cA od gd1) H1 → va_S (fun q => s.heap.size ≤ q) s.heap H1 locs1 → lv_has ls1 9 [(5, .int (nI i)), (4, .ref (od)), (3, .ref (o)), (2, .ref (A 0)), (1, .ref (U 0)), (0, .ref (b))] → W p l e room_1 s m args below meth c0 H1 locs1 (ce + 1) (sl + 6) Q (F0 m 2162 ls1 [])) : W p l e room_1 s m args below meth c0 H locs ce sl Q (F0 m 512 ls []) := by
  obtain ⟨c, z, rz, hd, ct, rs, dt, mf, mn, tc, tl, to, kd, fi, se, ta, nu, lc, ln, sv, er, R, hU⟩ := hLS
  have hFA : ∀ q, aS 189 U q → AE q := fun q h => hAE q (hUf q h).1
  have hUO : ∀ q, uO U o q → s.heap.size ≤ q := fun q h => h.elim (fun h => (hUf q h).1) (fun h => h ▸ hof.1)
  have hoU : ¬ aS 189 U o := fun h => (hUf o h).2.2.1 rfl
  have hbA : ¬ (fun q => s.heap.size ≤ q) b := fun h => absurd hbl (Nat.not_lt.mpr h)
  refine lv_aload_n hx hb dL_law_512 rfl (lv_at hl 4 rfl) ?_
  refine lv_aload_n hx hb dL_law_513 rfl (lv_at hl 5 rfl) ?_
  refine lv_iload hx hb dL_law_514 (lv_at hl 0 rfl) ?_
  refine lv_iconst (v := nI 1) hx hb dL_law_516 gc_1 ?_
  refine lv_iadd hx hb dL_law_517 ?_
  rw [nI_add]
  refine va_sld (A := (fun q => s.heap.size ≤ q)) hx hb hX hbl hbA hS (lp_in (by omega) hL) dL_law_518 ?_
  refine lv_aload_n hx hb dL_law_519 rfl (lv_at hl 2 rfl) ?_
  refine wr_calli (vx_runSW (As := [.ref (U 0), .int (xs (nI (i + 1)).toNatClampNeg), .ref (o)]) (rest := []) ⟨hx, hb, hml, hown, hts⟩ (c_L_appeal l hlt D cA AE adK adV sa U rg c z rz hd ct rs dt mf mn tc tl to kd fi se ta nu lc ln sv er (xs (nI (i + 1)).toNatClampNeg) o g hA hFA hoU (fun q h => hAE q (hUO q h)) R.I.ok hrg R.H.1 R.H.2.1 (fun q h1 h2 => app_ok R.I h1 h2)) (vx_cwSW 3 hts (gWSL gm_20_3 gm_20_4 gm_6_2 gm_20_5) rfl rfl rfl (by decide +kernel) ⟨Nat.le_of_ble_eq_true rfl, Nat.le_of_ble_eq_true rfl⟩) (gPreSy hK hE hN hS hAE ⟨hU, hO⟩) rfl rfl hl.1 rfl (lv_room (Nat.le_of_ble_eq_true rfl)) dL_law_520 ⟨by omega, by omega⟩) hS (fun q _ h => hUO q h) (fun q h => hUO q h) (fun r H1 locs1 hw9 hz9 hk9 hS => ?_)
  obtain ⟨k9, rr, g9, rfl, hk2, hg9, hO, C⟩ := hw9
  obtain ⟨e4, e1, hLS⟩ := op_appeal R C
  have hP := vP_fr hP hk9 (mw_n (A1 := uO U o) hM (fun q h h2 => h2.elim (fun h2 => (hUf q h2).2.1 h) (fun h2 => (hMf q h).2.1 h2)))
  have hD := vP_fr hD hk9 (oD_n (A := uO U o) (fun h => h.elim (fun h => (hUf od h).2.2.2 rfl) (fun h => hof.2.2 h.symm)))
  refine lv_istore (lv' := [(6, .int (nI k9)), (5, .int (nI i)), (4, .ref (od)), (3, .ref (o)), (2, .ref (A 0)), (1, .ref (U 0)), (0, .ref (b))]) hx hb dL_law_523 hl (by decide) rfl (fun ls hl => ?_)
  refine lv_aload_n hx hb dL_law_525 rfl (lv_at hl 4 rfl) ?_
  refine lv_aload_n hx hb dL_law_526 rfl (lv_at hl 6 rfl) ?_
  refine lv_iload hx hb dL_law_527 (lv_at hl 1 rfl) ?_
  refine lv_iconst (v := nI 1) hx hb dL_law_529 gc_1 ?_
  refine lv_iadd hx hb dL_law_530 ?_
  rw [nI_add]
  refine va_sld (A := (fun q => s.heap.size ≤ q)) hx hb hX hbl hbA hS (lp_in (by omega) hL) dL_law_531 ?_
  refine wr_calli (va_runV (As := [.int (xs (nI (i + 1)).toNatClampNeg)]) (rest := []) ⟨hx, hb, hml, hown, hts⟩ (c_X8_appeal l D cA A x f (xs (nI (i + 1)).toNatClampNeg) (zjn c) (zcn c) false ct hM R.G.g0 R.I.jn R.G.g1 R.I.cn R.x2 R.x1 R.H.2.1) (cwV 1 hts (gWVL gm_21_4 gm_21_5 gm_21_6 gm_1_5 gm_21_7) rfl rfl rfl (by decide +kernel) ⟨Nat.le_of_ble_eq_true rfl, Nat.le_of_ble_eq_true rfl⟩) (gPreV hK (g_rf hK hP (ci := 10) (q0 := 0) rfl rfl) hP) rfl rfl hl.1 rfl (lv_room (Nat.le_of_ble_eq_true rfl)) dL_law_532 ⟨by omega, by omega⟩) hS (fun q _ h => (hMf q h).1) (fun q h => (hMf q h).1) (fun r8 H2 locs2 hw8 hz8 hk8 hS => ?_)
  obtain ⟨h8, hP⟩ := hw8
  have hLS := hLS.kept hA hk8 (fun q h => (hUf q h).2.1)
  have hO := vP_fr hO hk8 (oL_n (fun h => (hMf o h).2.1 rfl))
  have hD := vP_fr hD hk8 (oD_n (fun h => (hMf od h).2.2 rfl))
  refine lv_istore (lv' := [(7, .int (r8)), (6, .int (nI k9)), (5, .int (nI i)), (4, .ref (od)), (3, .ref (o)), (2, .ref (A 0)), (1, .ref (U 0)), (0, .ref (b))]) hx hb dL_law_535 hl (by decide) rfl (fun ls hl => ?_)
  refine lv_aload_n hx hb dL_law_537 rfl (lv_at hl 5 rfl) ?_
  refine rd_calle (va_runV (As := []) (rest := []) ⟨hx, hb, hml, hown, hts⟩ (c_X8_thrown l D cA A _ _ k9 e4) (cwV 0 hts (gWVL gm_9_20 gm_9_21 gm_9_22 gm_1_5 gm_9_23) rfl rfl rfl (by decide +kernel) ⟨Nat.le_of_ble_eq_true rfl, Nat.le_of_ble_eq_true rfl⟩) (gPreV hK (g_rf hK hP (ci := 10) (q0 := 0) rfl rfl) hP) rfl rfl hl.1 rfl (lv_room (Nat.le_of_ble_eq_true rfl)) dL_law_538 ⟨by omega, by omega⟩) ?_
  refine lv_iload hx hb dL_law_541 (lv_at hl 1 rfl) ?_
  refine lv_icmp_eq (tgt := 548) hx hb dL_law_543 (by decide) (fun _ => ?_) (fun q => absurd rfl q)
  refine lv_iload hx hb dL_law_548 (lv_at hl 1 rfl) ?_
  refine g_if_ne (P := k9 = 0) (tgt := 565) hx hb dL_law_550 (by decide) (nI_z (by omega)) (fun _ => ?_) (fun hz => ?_)
  · exact lv_goto (tgt := 2162) hx hb dL_law_565 (by decide) (KK _ _ _ _ _ _ _ hLS hP hO hD hS (lv_sub hl [2, 3, 4, 5, 6, 7] rfl))
  · refine lv_aload_n hx hb dL_law_553 rfl (lv_at hl 4 rfl) ?_
    refine lv_iconst (v := nI 0) hx hb dL_law_554 gc_0 ?_
    refine va_lald hx hb hK.1 hO 0 3 rfl rfl (vp_in_iff.mpr (by decide +kernel)) dL_law_555 ?_
    refine lv_iload hx hb dL_law_556 (lv_at hl 0 rfl) ?_
    refine lv_i2l (v := r8.toInt64) hx hb dL_law_558 rfl ?_
    refine W.lcmp hx hb dL_law_559 ?_
    have h99 : g9 (nI 0).toNatClampNeg = r8.toInt64 := by rw [h8, e1 hz, show (nI 0).toNatClampNeg = 0 from nI_clamp (by decide)]; exact hg9 hz
    exact lv_if_eq (tgt := 565) hx hb dL_law_560 (by decide) (fun _ => lv_goto (tgt := 2162) hx hb dL_law_565 (by decide) (KK _ _ _ _ _ _ _ hLS hP hO hD hS (lv_sub hl [2, 3, 4, 5, 6, 7] rfl))) (fun q => absurd (lg_same h99) q)

set_option maxHeartbeats 1000000 in
set_option maxRecDepth 100000 in
theorem lc_clerk (l : Launch) (hlt : l.stackTraces = false) {p : Program} {e : Env} {s : State} {m : MethodId} {args : Array Value} {below : List Frame} {meth : Method} {c0 : Code} {Q : State → Prop} {H : Heap} {locs : List Loc} {ls : Array Slot} {ce sl i : Nat} {D : va_G} {cA : Nat → ClassId} {AE : Nat → Prop} {adK adV sa : Nat → Nat} {U : Nat → Nat} {rg : Nat → Option Nat} {A : Nat → Nat} {o od b L : Nat} {xs : Nat → Int32} {x : Nat → Int32} {f : Nat → Nat → Int32} {g : Nat → Int64} {gd : Nat → UInt64} (hx : p.tables.exec = Jvm.exec) (hb : c0.code = cL_law) (hml : c0.maxLocals = 9) (hown : s.vm.findClass RL = some m.cls) (hts : ∀ w ∈ Cond.initialized RL :: gG, w.before args s = true) (hK : gK D cA s) (hE : gE AE adK adV sa s s.heap) (hN : gNc s) (hX : va_X b L xs s s.heap) (hbl : b < s.heap.size) (hL : L ≤ 1536) (hi : i + 3 ≤ L) (hA : aInj 189 U) (hM : mInj A) (hrg : uRg U rg) (hAE : ∀ q, s.heap.size ≤ q → AE q) (hUf : ∀ q, aS 189 U q → s.heap.size ≤ q ∧ ¬ MA A q ∧ q ≠ o ∧ q ≠ od) (hMf : ∀ q, MA A q → s.heap.size ≤ q ∧ q ≠ o ∧ q ≠ od) (hof : s.heap.size ≤ o ∧ s.heap.size ≤ od ∧ o ≠ od) (hce : ce + 9 ≤ room_1.cells) (hsl : sl + 60 ≤ room_1.slots) (hS : va_S (fun q => s.heap.size ≤ q) s.heap H locs) (hl : lv_has ls 9 [(5, .int (nI i)), (4, .ref (od)), (3, .ref (o)), (2, .ref (A 0)), (1, .ref (U 0)), (0, .ref (b))]) (hLS : LST D cA U rg x f H) (hP : va_P D vwCl (mw cA A x f) H) (hO : va_P D vwCl (oL cA o g) H) (hD : va_P D vwCl (oD cA od gd) H)  (KK : ∀ (x1 : Nat → Int32) (f1 : Nat → Nat → Int32) (g1 : Nat → Int64) (gd1 : Nat → UInt64) (H1 : Heap) (locs1 : List Loc) (ls1 : Array Slot), LST D cA U rg x1 f1 H1 → va_P D vwCl (mw cA A x1 f1) H1 → va_P D vwCl (oL cA o g1) H1 → va_P D vwCl (oD cA od gd1) H1 → va_S (fun q => s.heap.size ≤ q) s.heap H1 locs1 → lv_has ls1 9 [(5, .int (nI i)), (4, .ref (od)), (3, .ref (o)), (2, .ref (A 0)), (1, .ref (U 0)), (0, .ref (b))] → W p l e room_1 s m args below meth c0 H1 locs1 (ce + 1) (sl + 6) Q (F0 m 2162 ls1 [])) : W p l e room_1 s m args below meth c0 H locs ce sl Q (F0 m 568 ls []) := by
  obtain ⟨c, z, rz, hd, ct, rs, dt, mf, mn, tc, tl, to, kd, fi, se, ta, nu, lc, ln, sv, er, R, hU⟩ := hLS
  have hFA : ∀ q, aS 189 U q → AE q := fun q h => hAE q (hUf q h).1
  have hUO : ∀ q, uO U o q → s.heap.size ≤ q := fun q h => h.elim (fun h => (hUf q h).1) (fun h => h ▸ hof.1)
  have hoU : ¬ aS 189 U o := fun h => (hUf o h).2.2.1 rfl
  have hbA : ¬ (fun q => s.heap.size ≤ q) b := fun h => absurd hbl (Nat.not_lt.mpr h)
  refine lv_aload_n hx hb dL_law_568 rfl (lv_at hl 4 rfl) ?_
  refine lv_aload_n hx hb dL_law_569 rfl (lv_at hl 2 rfl) ?_
  refine wr_calli (vx_runSW (As := [.ref (U 0), .ref (o)]) (rest := []) ⟨hx, hb, hml, hown, hts⟩ (c_L_clerk l hlt D cA AE adK adV sa U rg c z rz hd ct rs dt mf mn tc tl to kd fi se ta nu lc ln sv er  o g hA hFA hoU (fun q h => hAE q (hUO q h)) R.I.ok hrg R.H.1 R.H.2.1) (vx_cwSW 2 hts (gWSL gm_21_12 gm_21_13 gm_6_2 gm_21_14) rfl rfl rfl (by decide +kernel) ⟨Nat.le_of_ble_eq_true rfl, Nat.le_of_ble_eq_true rfl⟩) (gPreSy hK hE hN hS hAE ⟨hU, hO⟩) rfl rfl hl.1 rfl (lv_room (Nat.le_of_ble_eq_true rfl)) dL_law_570 ⟨by omega, by omega⟩) hS (fun q _ h => hUO q h) (fun q h => hUO q h) (fun r H1 locs1 hw9 hz9 hk9 hS => ?_)
  obtain ⟨k9, rr, g9, rfl, hk2, hg9, hO, C⟩ := hw9
  obtain ⟨e4, e1, hLS⟩ := op_clerk R C
  have hP := vP_fr hP hk9 (mw_n (A1 := uO U o) hM (fun q h h2 => h2.elim (fun h2 => (hUf q h2).2.1 h) (fun h2 => (hMf q h).2.1 h2)))
  have hD := vP_fr hD hk9 (oD_n (A := uO U o) (fun h => h.elim (fun h => (hUf od h).2.2.2 rfl) (fun h => hof.2.2 h.symm)))
  refine lv_istore (lv' := [(6, .int (nI k9)), (5, .int (nI i)), (4, .ref (od)), (3, .ref (o)), (2, .ref (A 0)), (1, .ref (U 0)), (0, .ref (b))]) hx hb dL_law_573 hl (by decide) rfl (fun ls hl => ?_)
  refine lv_aload_n hx hb dL_law_575 rfl (lv_at hl 4 rfl) ?_
  refine wr_calli (va_runV (As := []) (rest := []) ⟨hx, hb, hml, hown, hts⟩ (c_X8_clerk l D cA A x f (zck c) false ct hM R.G.g2 R.I.ck.2 R.x2 R.x1 R.H.2.1) (cwV 0 hts (gWVL gm_22_5 gm_22_6 gm_22_7 gm_1_5 gm_22_8) rfl rfl rfl (by decide +kernel) ⟨Nat.le_of_ble_eq_true rfl, Nat.le_of_ble_eq_true rfl⟩) (gPreV hK (g_rf hK hP (ci := 10) (q0 := 0) rfl rfl) hP) rfl rfl hl.1 rfl (lv_room (Nat.le_of_ble_eq_true rfl)) dL_law_576 ⟨by omega, by omega⟩) hS (fun q _ h => (hMf q h).1) (fun q h => (hMf q h).1) (fun r8 H2 locs2 hw8 hz8 hk8 hS => ?_)
  obtain ⟨h8, hP⟩ := hw8
  have hLS := hLS.kept hA hk8 (fun q h => (hUf q h).2.1)
  have hO := vP_fr hO hk8 (oL_n (fun h => (hMf o h).2.1 rfl))
  have hD := vP_fr hD hk8 (oD_n (fun h => (hMf od h).2.2 rfl))
  refine lv_istore (lv' := [(7, .int (r8)), (6, .int (nI k9)), (5, .int (nI i)), (4, .ref (od)), (3, .ref (o)), (2, .ref (A 0)), (1, .ref (U 0)), (0, .ref (b))]) hx hb dL_law_579 hl (by decide) rfl (fun ls hl => ?_)
  refine lv_aload_n hx hb dL_law_581 rfl (lv_at hl 5 rfl) ?_
  refine rd_calle (va_runV (As := []) (rest := []) ⟨hx, hb, hml, hown, hts⟩ (c_X8_thrown l D cA A _ _ k9 e4) (cwV 0 hts (gWVL gm_9_20 gm_9_21 gm_9_22 gm_1_5 gm_9_23) rfl rfl rfl (by decide +kernel) ⟨Nat.le_of_ble_eq_true rfl, Nat.le_of_ble_eq_true rfl⟩) (gPreV hK (g_rf hK hP (ci := 10) (q0 := 0) rfl rfl) hP) rfl rfl hl.1 rfl (lv_room (Nat.le_of_ble_eq_true rfl)) dL_law_582 ⟨by omega, by omega⟩) ?_
  refine lv_iload hx hb dL_law_585 (lv_at hl 1 rfl) ?_
  refine lv_icmp_eq (tgt := 592) hx hb dL_law_587 (by decide) (fun _ => ?_) (fun q => absurd rfl q)
  refine lv_iload hx hb dL_law_592 (lv_at hl 1 rfl) ?_
  refine g_if_ne (P := k9 = 0) (tgt := 609) hx hb dL_law_594 (by decide) (nI_z (by omega)) (fun _ => ?_) (fun hz => ?_)
  · exact lv_goto (tgt := 2162) hx hb dL_law_609 (by decide) (KK _ _ _ _ _ _ _ hLS hP hO hD hS (lv_sub hl [2, 3, 4, 5, 6, 7] rfl))
  · refine lv_aload_n hx hb dL_law_597 rfl (lv_at hl 4 rfl) ?_
    refine lv_iconst (v := nI 0) hx hb dL_law_598 gc_0 ?_
    refine va_lald hx hb hK.1 hO 0 3 rfl rfl (vp_in_iff.mpr (by decide +kernel)) dL_law_599 ?_
    refine lv_iload hx hb dL_law_600 (lv_at hl 0 rfl) ?_
    refine lv_i2l (v := r8.toInt64) hx hb dL_law_602 rfl ?_
    refine W.lcmp hx hb dL_law_603 ?_
    have h99 : g9 (nI 0).toNatClampNeg = r8.toInt64 := by rw [h8, e1 hz, show (nI 0).toNatClampNeg = 0 from nI_clamp (by decide)]; exact hg9 hz
    exact lv_if_eq (tgt := 609) hx hb dL_law_604 (by decide) (fun _ => lv_goto (tgt := 2162) hx hb dL_law_609 (by decide) (KK _ _ _ _ _ _ _ hLS hP hO hD hS (lv_sub hl [2, 3, 4, 5, 6, 7] rfl))) (fun q => absurd (lg_same h99) q)

set_option maxHeartbeats 1000000 in
set_option maxRecDepth 100000 in
theorem lc_night (l : Launch) (hlt : l.stackTraces = false) {p : Program} {e : Env} {s : State} {m : MethodId} {args : Array Value} {below : List Frame} {meth : Method} {c0 : Code} {Q : State → Prop} {H : Heap} {locs : List Loc} {ls : Array Slot} {ce sl i : Nat} {D : va_G} {cA : Nat → ClassId} {AE : Nat → Prop} {adK adV sa : Nat → Nat} {U : Nat → Nat} {rg : Nat → Option Nat} {A : Nat → Nat} {o od b L : Nat} {xs : Nat → Int32} {x : Nat → Int32} {f : Nat → Nat → Int32} {g : Nat → Int64} {gd : Nat → UInt64} (hx : p.tables.exec = Jvm.exec) (hb : c0.code = cL_law) (hml : c0.maxLocals = 9) (hown : s.vm.findClass RL = some m.cls) (hts : ∀ w ∈ Cond.initialized RL :: gG, w.before args s = true) (hK : gK D cA s) (hE : gE AE adK adV sa s s.heap) (hN : gNc s) (hX : va_X b L xs s s.heap) (hbl : b < s.heap.size) (hL : L ≤ 1536) (hi : i + 3 ≤ L) (hA : aInj 189 U) (hM : mInj A) (hrg : uRg U rg) (hAE : ∀ q, s.heap.size ≤ q → AE q) (hUf : ∀ q, aS 189 U q → s.heap.size ≤ q ∧ ¬ MA A q ∧ q ≠ o ∧ q ≠ od) (hMf : ∀ q, MA A q → s.heap.size ≤ q ∧ q ≠ o ∧ q ≠ od) (hof : s.heap.size ≤ o ∧ s.heap.size ≤ od ∧ o ≠ od) (hce : ce + 9 ≤ room_1.cells) (hsl : sl + 60 ≤ room_1.slots) (hS : va_S (fun q => s.heap.size ≤ q) s.heap H locs) (hl : lv_has ls 9 [(5, .int (nI i)), (4, .ref (od)), (3, .ref (o)), (2, .ref (A 0)), (1, .ref (U 0)), (0, .ref (b))]) (hLS : LST D cA U rg x f H) (hP : va_P D vwCl (mw cA A x f) H) (hO : va_P D vwCl (oL cA o g) H) (hD : va_P D vwCl (oD cA od gd) H)  (KK : ∀ (x1 : Nat → Int32) (f1 : Nat → Nat → Int32) (g1 : Nat → Int64) (gd1 : Nat → UInt64) (H1 : Heap) (locs1 : List Loc) (ls1 : Array Slot), LST D cA U rg x1 f1 H1 → va_P D vwCl (mw cA A x1 f1) H1 → va_P D vwCl (oL cA o g1) H1 → va_P D vwCl (oD cA od gd1) H1 → va_S (fun q => s.heap.size ≤ q) s.heap H1 locs1 → lv_has ls1 9 [(5, .int (nI i)), (4, .ref (od)), (3, .ref (o)), (2, .ref (A 0)), (1, .ref (U 0)), (0, .ref (b))] → W p l e room_1 s m args below meth c0 H1 locs1 (ce + 1) (sl + 6) Q (F0 m 2162 ls1 [])) : W p l e room_1 s m args below meth c0 H locs ce sl Q (F0 m 612 ls []) := by
  obtain ⟨c, z, rz, hd, ct, rs, dt, mf, mn, tc, tl, to, kd, fi, se, ta, nu, lc, ln, sv, er, R, hU⟩ := hLS
  have hFA : ∀ q, aS 189 U q → AE q := fun q h => hAE q (hUf q h).1
  have hUO : ∀ q, uO U o q → s.heap.size ≤ q := fun q h => h.elim (fun h => (hUf q h).1) (fun h => h ▸ hof.1)
  have hoU : ¬ aS 189 U o := fun h => (hUf o h).2.2.1 rfl
  have hbA : ¬ (fun q => s.heap.size ≤ q) b := fun h => absurd hbl (Nat.not_lt.mpr h)
  refine lv_aload_n hx hb dL_law_612 rfl (lv_at hl 4 rfl) ?_
  refine lv_aload_n hx hb dL_law_613 rfl (lv_at hl 2 rfl) ?_
  refine wr_calli (vx_runSW (As := [.ref (U 0), .ref (o)]) (rest := []) ⟨hx, hb, hml, hown, hts⟩ (c_L_night l hlt D cA AE adK adV sa U rg c z rz hd ct rs dt mf mn tc tl to kd fi se ta nu lc ln sv er  o g hA hFA hoU (fun q h => hAE q (hUO q h)) R.I.ok hrg R.H.1 R.H.2.1) (vx_cwSW 2 hts (gWSL gm_22_9 gm_22_10 gm_6_2 gm_22_11) rfl rfl rfl (by decide +kernel) ⟨Nat.le_of_ble_eq_true rfl, Nat.le_of_ble_eq_true rfl⟩) (gPreSy hK hE hN hS hAE ⟨hU, hO⟩) rfl rfl hl.1 rfl (lv_room (Nat.le_of_ble_eq_true rfl)) dL_law_614 ⟨by omega, by omega⟩) hS (fun q _ h => hUO q h) (fun q h => hUO q h) (fun r H1 locs1 hw9 hz9 hk9 hS => ?_)
  obtain ⟨k9, rr, g9, rfl, hk2, hg9, hO, C⟩ := hw9
  obtain ⟨e4, e1, hLS⟩ := op_night R C
  have hP := vP_fr hP hk9 (mw_n (A1 := uO U o) hM (fun q h h2 => h2.elim (fun h2 => (hUf q h2).2.1 h) (fun h2 => (hMf q h).2.1 h2)))
  have hD := vP_fr hD hk9 (oD_n (A := uO U o) (fun h => h.elim (fun h => (hUf od h).2.2.2 rfl) (fun h => hof.2.2 h.symm)))
  refine lv_istore (lv' := [(6, .int (nI k9)), (5, .int (nI i)), (4, .ref (od)), (3, .ref (o)), (2, .ref (A 0)), (1, .ref (U 0)), (0, .ref (b))]) hx hb dL_law_617 hl (by decide) rfl (fun ls hl => ?_)
  refine lv_aload_n hx hb dL_law_619 rfl (lv_at hl 4 rfl) ?_
  refine wr_calli (va_runV (As := []) (rest := []) ⟨hx, hb, hml, hown, hts⟩ (c_X8_night l D cA A x f (zjn c) (zcn c) (zck c) (ztn c) false ct hM R.G.g0 R.I.jn R.G.g1 R.I.cn R.G.g2 R.I.ck.2 R.G.g3 R.I.tn R.x2 R.x1 R.H.2.1) (cwV 0 hts (gWVL gm_23_14 gm_23_15 gm_23_16 gm_1_5 gm_23_17) rfl rfl rfl (by decide +kernel) ⟨Nat.le_of_ble_eq_true rfl, Nat.le_of_ble_eq_true rfl⟩) (gPreV hK (g_rf hK hP (ci := 10) (q0 := 0) rfl rfl) hP) rfl rfl hl.1 rfl (lv_room (Nat.le_of_ble_eq_true rfl)) dL_law_620 ⟨by omega, by omega⟩) hS (fun q _ h => (hMf q h).1) (fun q h => (hMf q h).1) (fun r8 H2 locs2 hw8 hz8 hk8 hS => ?_)
  obtain ⟨h8, hP⟩ := hw8
  have hLS := hLS.kept hA hk8 (fun q h => (hUf q h).2.1)
  have hO := vP_fr hO hk8 (oL_n (fun h => (hMf o h).2.1 rfl))
  have hD := vP_fr hD hk8 (oD_n (fun h => (hMf od h).2.2 rfl))
  refine lv_istore (lv' := [(7, .int (r8)), (6, .int (nI k9)), (5, .int (nI i)), (4, .ref (od)), (3, .ref (o)), (2, .ref (A 0)), (1, .ref (U 0)), (0, .ref (b))]) hx hb dL_law_623 hl (by decide) rfl (fun ls hl => ?_)
  refine lv_aload_n hx hb dL_law_625 rfl (lv_at hl 5 rfl) ?_
  refine rd_calle (va_runV (As := []) (rest := []) ⟨hx, hb, hml, hown, hts⟩ (c_X8_thrown l D cA A _ _ k9 e4) (cwV 0 hts (gWVL gm_9_20 gm_9_21 gm_9_22 gm_1_5 gm_9_23) rfl rfl rfl (by decide +kernel) ⟨Nat.le_of_ble_eq_true rfl, Nat.le_of_ble_eq_true rfl⟩) (gPreV hK (g_rf hK hP (ci := 10) (q0 := 0) rfl rfl) hP) rfl rfl hl.1 rfl (lv_room (Nat.le_of_ble_eq_true rfl)) dL_law_626 ⟨by omega, by omega⟩) ?_
  refine lv_iload hx hb dL_law_629 (lv_at hl 1 rfl) ?_
  refine lv_icmp_eq (tgt := 636) hx hb dL_law_631 (by decide) (fun _ => ?_) (fun q => absurd rfl q)
  refine lv_iload hx hb dL_law_636 (lv_at hl 1 rfl) ?_
  refine g_if_ne (P := k9 = 0) (tgt := 653) hx hb dL_law_638 (by decide) (nI_z (by omega)) (fun _ => ?_) (fun hz => ?_)
  · exact lv_goto (tgt := 2162) hx hb dL_law_653 (by decide) (KK _ _ _ _ _ _ _ hLS hP hO hD hS (lv_sub hl [2, 3, 4, 5, 6, 7] rfl))
  · refine lv_aload_n hx hb dL_law_641 rfl (lv_at hl 4 rfl) ?_
    refine lv_iconst (v := nI 0) hx hb dL_law_642 gc_0 ?_
    refine va_lald hx hb hK.1 hO 0 3 rfl rfl (vp_in_iff.mpr (by decide +kernel)) dL_law_643 ?_
    refine lv_iload hx hb dL_law_644 (lv_at hl 0 rfl) ?_
    refine lv_i2l (v := r8.toInt64) hx hb dL_law_646 rfl ?_
    refine W.lcmp hx hb dL_law_647 ?_
    have h99 : g9 (nI 0).toNatClampNeg = r8.toInt64 := by rw [h8, e1 hz, show (nI 0).toNatClampNeg = 0 from nI_clamp (by decide)]; exact hg9 hz
    exact lv_if_eq (tgt := 653) hx hb dL_law_648 (by decide) (fun _ => lv_goto (tgt := 2162) hx hb dL_law_653 (by decide) (KK _ _ _ _ _ _ _ hLS hP hO hD hS (lv_sub hl [2, 3, 4, 5, 6, 7] rfl))) (fun q => absurd (lg_same h99) q)

set_option maxHeartbeats 1000000 in
set_option maxRecDepth 100000 in
theorem lc_jurorOf (l : Launch) (hlt : l.stackTraces = false) {p : Program} {e : Env} {s : State} {m : MethodId} {args : Array Value} {below : List Frame} {meth : Method} {c0 : Code} {Q : State → Prop} {H : Heap} {locs : List Loc} {ls : Array Slot} {ce sl i : Nat} {D : va_G} {cA : Nat → ClassId} {AE : Nat → Prop} {adK adV sa : Nat → Nat} {U : Nat → Nat} {rg : Nat → Option Nat} {A : Nat → Nat} {o od b L : Nat} {xs : Nat → Int32} {x : Nat → Int32} {f : Nat → Nat → Int32} {g : Nat → Int64} {gd : Nat → UInt64} (hx : p.tables.exec = Jvm.exec) (hb : c0.code = cL_law) (hml : c0.maxLocals = 9) (hown : s.vm.findClass RL = some m.cls) (hts : ∀ w ∈ Cond.initialized RL :: gG, w.before args s = true) (hK : gK D cA s) (hE : gE AE adK adV sa s s.heap) (hN : gNc s) (hX : va_X b L xs s s.heap) (hbl : b < s.heap.size) (hL : L ≤ 1536) (hi : i + 3 ≤ L) (hA : aInj 189 U) (hM : mInj A) (hrg : uRg U rg) (hAE : ∀ q, s.heap.size ≤ q → AE q) (hUf : ∀ q, aS 189 U q → s.heap.size ≤ q ∧ ¬ MA A q ∧ q ≠ o ∧ q ≠ od) (hMf : ∀ q, MA A q → s.heap.size ≤ q ∧ q ≠ o ∧ q ≠ od) (hof : s.heap.size ≤ o ∧ s.heap.size ≤ od ∧ o ≠ od) (hce : ce + 9 ≤ room_1.cells) (hsl : sl + 60 ≤ room_1.slots) (hS : va_S (fun q => s.heap.size ≤ q) s.heap H locs) (hl : lv_has ls 9 [(5, .int (nI i)), (4, .ref (od)), (3, .ref (o)), (2, .ref (A 0)), (1, .ref (U 0)), (0, .ref (b))]) (hLS : LST D cA U rg x f H) (hP : va_P D vwCl (mw cA A x f) H) (hO : va_P D vwCl (oL cA o g) H) (hD : va_P D vwCl (oD cA od gd) H)  (KK : ∀ (x1 : Nat → Int32) (f1 : Nat → Nat → Int32) (g1 : Nat → Int64) (gd1 : Nat → UInt64) (H1 : Heap) (locs1 : List Loc) (ls1 : Array Slot), LST D cA U rg x1 f1 H1 → va_P D vwCl (mw cA A x1 f1) H1 → va_P D vwCl (oL cA o g1) H1 → va_P D vwCl (oD cA od gd1) H1 → va_S (fun q => s.heap.size ≤ q) s.heap H1 locs1 → lv_has ls1 9 [(5, .int (nI i)), (4, .ref (od)), (3, .ref (o)), (2, .ref (A 0)), (1, .ref (U 0)), (0, .ref (b))] → W p l e room_1 s m args below meth c0 H1 locs1 (ce + 1) (sl + 6) Q (F0 m 2162 ls1 [])) : W p l e room_1 s m args below meth c0 H locs ce sl Q (F0 m 656 ls []) := by
  obtain ⟨c, z, rz, hd, ct, rs, dt, mf, mn, tc, tl, to, kd, fi, se, ta, nu, lc, ln, sv, er, R, hU⟩ := hLS
  have hFA : ∀ q, aS 189 U q → AE q := fun q h => hAE q (hUf q h).1
  have hUO : ∀ q, uO U o q → s.heap.size ≤ q := fun q h => h.elim (fun h => (hUf q h).1) (fun h => h ▸ hof.1)
  have hoU : ¬ aS 189 U o := fun h => (hUf o h).2.2.1 rfl
  have hbA : ¬ (fun q => s.heap.size ≤ q) b := fun h => absurd hbl (Nat.not_lt.mpr h)
  refine lv_aload_n hx hb dL_law_656 rfl (lv_at hl 4 rfl) ?_
  refine lv_aload_n hx hb dL_law_657 rfl (lv_at hl 5 rfl) ?_
  refine lv_iload hx hb dL_law_658 (lv_at hl 0 rfl) ?_
  refine lv_iconst (v := nI 1) hx hb dL_law_660 gc_1 ?_
  refine lv_iadd hx hb dL_law_661 ?_
  rw [nI_add]
  refine va_sld (A := (fun q => s.heap.size ≤ q)) hx hb hX hbl hbA hS (lp_in (by omega) hL) dL_law_662 ?_
  refine lv_aload_n hx hb dL_law_663 rfl (lv_at hl 5 rfl) ?_
  refine lv_iload hx hb dL_law_664 (lv_at hl 0 rfl) ?_
  refine lv_iconst (v := nI 2) hx hb dL_law_666 gc_2 ?_
  refine lv_iadd hx hb dL_law_667 ?_
  rw [nI_add]
  refine va_sld (A := (fun q => s.heap.size ≤ q)) hx hb hX hbl hbA hS (lp_in (by omega) hL) dL_law_668 ?_
  refine lv_aload_n hx hb dL_law_669 rfl (lv_at hl 2 rfl) ?_
  refine wr_calli (vx_runSW (As := [.ref (U 0), .int (xs (nI (i + 1)).toNatClampNeg), .int (xs (nI (i + 2)).toNatClampNeg), .ref (o)]) (rest := []) ⟨hx, hb, hml, hown, hts⟩ (c_L_jurorOf l hlt D cA AE adK adV sa U rg c z rz hd ct rs dt mf mn tc tl to kd fi se ta nu lc ln sv er (xs (nI (i + 1)).toNatClampNeg) (xs (nI (i + 2)).toNatClampNeg) o g hA hFA hoU (fun q h => hAE q (hUO q h)) R.I.ok) (vx_cwSW 4 hts (gWSL gm_24_14 gm_24_15 gm_6_2 gm_24_16) rfl rfl rfl (by decide +kernel) ⟨Nat.le_of_ble_eq_true rfl, Nat.le_of_ble_eq_true rfl⟩) (gPreSy hK hE hN hS hAE ⟨hU, hO⟩) rfl rfl hl.1 rfl (lv_room (Nat.le_of_ble_eq_true rfl)) dL_law_670 ⟨by omega, by omega⟩) hS (fun q _ h => hUO q h) (fun q h => hUO q h) (fun r H1 locs1 hw9 hz9 hk9 hS => ?_)
  obtain ⟨k9, rr, g9, rfl, hk2, hg9, hO, C⟩ := hw9
  obtain ⟨e4, e1, hLS⟩ := op_jurorOf R C
  have hP := vP_fr hP hk9 (mw_n (A1 := uO U o) hM (fun q h h2 => h2.elim (fun h2 => (hUf q h2).2.1 h) (fun h2 => (hMf q h).2.1 h2)))
  have hD := vP_fr hD hk9 (oD_n (A := uO U o) (fun h => h.elim (fun h => (hUf od h).2.2.2 rfl) (fun h => hof.2.2 h.symm)))
  refine lv_istore (lv' := [(6, .int (nI k9)), (5, .int (nI i)), (4, .ref (od)), (3, .ref (o)), (2, .ref (A 0)), (1, .ref (U 0)), (0, .ref (b))]) hx hb dL_law_673 hl (by decide) rfl (fun ls hl => ?_)
  refine lv_aload_n hx hb dL_law_675 rfl (lv_at hl 4 rfl) ?_
  refine lv_aload_n hx hb dL_law_676 rfl (lv_at hl 6 rfl) ?_
  refine lv_iload hx hb dL_law_677 (lv_at hl 1 rfl) ?_
  refine lv_iconst (v := nI 1) hx hb dL_law_679 gc_1 ?_
  refine lv_iadd hx hb dL_law_680 ?_
  rw [nI_add]
  refine va_sld (A := (fun q => s.heap.size ≤ q)) hx hb hX hbl hbA hS (lp_in (by omega) hL) dL_law_681 ?_
  refine lv_aload_n hx hb dL_law_682 rfl (lv_at hl 6 rfl) ?_
  refine lv_iload hx hb dL_law_683 (lv_at hl 1 rfl) ?_
  refine lv_iconst (v := nI 2) hx hb dL_law_685 gc_2 ?_
  refine lv_iadd hx hb dL_law_686 ?_
  rw [nI_add]
  refine va_sld (A := (fun q => s.heap.size ≤ q)) hx hb hX hbl hbA hS (lp_in (by omega) hL) dL_law_687 ?_
  refine wr_calli (va_runV (As := [.int (xs (nI (i + 1)).toNatClampNeg), .int (xs (nI (i + 2)).toNatClampNeg)]) (rest := []) ⟨hx, hb, hml, hown, hts⟩ (c_X8_jurorOf l D cA A x f (xs (nI (i + 1)).toNatClampNeg) (xs (nI (i + 2)).toNatClampNeg) (zjn c) (zcn c) hM R.G.g0 R.I.jn R.G.g1 R.I.cn) (cwV 2 hts (gWVL gm_25_6 gm_25_7 gm_25_8 gm_1_5 gm_25_9) rfl rfl rfl (by decide +kernel) ⟨Nat.le_of_ble_eq_true rfl, Nat.le_of_ble_eq_true rfl⟩) (gPreV hK (g_rf hK hP (ci := 10) (q0 := 0) rfl rfl) hP) rfl rfl hl.1 rfl (lv_room (Nat.le_of_ble_eq_true rfl)) dL_law_688 ⟨by omega, by omega⟩) hS (fun q _ h => (hMf q h).1) (fun q h => (hMf q h).1) (fun r8 H2 locs2 hw8 hz8 hk8 hS => ?_)
  obtain ⟨h8, hP⟩ := hw8
  have hLS := hLS.kept hA hk8 (fun q h => (hUf q h).2.1)
  have hO := vP_fr hO hk8 (oL_n (fun h => (hMf o h).2.1 rfl))
  have hD := vP_fr hD hk8 (oD_n (fun h => (hMf od h).2.2 rfl))
  refine lv_istore (lv' := [(7, .int (r8)), (6, .int (nI k9)), (5, .int (nI i)), (4, .ref (od)), (3, .ref (o)), (2, .ref (A 0)), (1, .ref (U 0)), (0, .ref (b))]) hx hb dL_law_691 hl (by decide) rfl (fun ls hl => ?_)
  refine lv_aload_n hx hb dL_law_693 rfl (lv_at hl 5 rfl) ?_
  refine rd_calle (va_runV (As := []) (rest := []) ⟨hx, hb, hml, hown, hts⟩ (c_X8_thrown l D cA A _ _ k9 e4) (cwV 0 hts (gWVL gm_9_20 gm_9_21 gm_9_22 gm_1_5 gm_9_23) rfl rfl rfl (by decide +kernel) ⟨Nat.le_of_ble_eq_true rfl, Nat.le_of_ble_eq_true rfl⟩) (gPreV hK (g_rf hK hP (ci := 10) (q0 := 0) rfl rfl) hP) rfl rfl hl.1 rfl (lv_room (Nat.le_of_ble_eq_true rfl)) dL_law_694 ⟨by omega, by omega⟩) ?_
  refine lv_iload hx hb dL_law_697 (lv_at hl 1 rfl) ?_
  refine lv_icmp_eq (tgt := 704) hx hb dL_law_699 (by decide) (fun _ => ?_) (fun q => absurd rfl q)
  refine lv_iload hx hb dL_law_704 (lv_at hl 1 rfl) ?_
  refine g_if_ne (P := k9 = 0) (tgt := 721) hx hb dL_law_706 (by decide) (nI_z (by omega)) (fun _ => ?_) (fun hz => ?_)
  · exact lv_goto (tgt := 2162) hx hb dL_law_721 (by decide) (KK _ _ _ _ _ _ _ hLS hP hO hD hS (lv_sub hl [2, 3, 4, 5, 6, 7] rfl))
  · refine lv_aload_n hx hb dL_law_709 rfl (lv_at hl 4 rfl) ?_
    refine lv_iconst (v := nI 0) hx hb dL_law_710 gc_0 ?_
    refine va_lald hx hb hK.1 hO 0 3 rfl rfl (vp_in_iff.mpr (by decide +kernel)) dL_law_711 ?_
    refine lv_iload hx hb dL_law_712 (lv_at hl 0 rfl) ?_
    refine lv_i2l (v := r8.toInt64) hx hb dL_law_714 rfl ?_
    refine W.lcmp hx hb dL_law_715 ?_
    have h99 : g9 (nI 0).toNatClampNeg = r8.toInt64 := by rw [h8, e1 hz, show (nI 0).toNatClampNeg = 0 from nI_clamp (by decide)]; exact hg9 hz
    exact lv_if_eq (tgt := 721) hx hb dL_law_716 (by decide) (fun _ => lv_goto (tgt := 2162) hx hb dL_law_721 (by decide) (KK _ _ _ _ _ _ _ hLS hP hO hD hS (lv_sub hl [2, 3, 4, 5, 6, 7] rfl))) (fun q => absurd (lg_same h99) q)

set_option maxHeartbeats 1000000 in
set_option maxRecDepth 100000 in
theorem lc_caseOf (l : Launch) (hlt : l.stackTraces = false) {p : Program} {e : Env} {s : State} {m : MethodId} {args : Array Value} {below : List Frame} {meth : Method} {c0 : Code} {Q : State → Prop} {H : Heap} {locs : List Loc} {ls : Array Slot} {ce sl i : Nat} {D : va_G} {cA : Nat → ClassId} {AE : Nat → Prop} {adK adV sa : Nat → Nat} {U : Nat → Nat} {rg : Nat → Option Nat} {A : Nat → Nat} {o od b L : Nat} {xs : Nat → Int32} {x : Nat → Int32} {f : Nat → Nat → Int32} {g : Nat → Int64} {gd : Nat → UInt64} (hx : p.tables.exec = Jvm.exec) (hb : c0.code = cL_law) (hml : c0.maxLocals = 9) (hown : s.vm.findClass RL = some m.cls) (hts : ∀ w ∈ Cond.initialized RL :: gG, w.before args s = true) (hK : gK D cA s) (hE : gE AE adK adV sa s s.heap) (hN : gNc s) (hX : va_X b L xs s s.heap) (hbl : b < s.heap.size) (hL : L ≤ 1536) (hi : i + 3 ≤ L) (hA : aInj 189 U) (hM : mInj A) (hrg : uRg U rg) (hAE : ∀ q, s.heap.size ≤ q → AE q) (hUf : ∀ q, aS 189 U q → s.heap.size ≤ q ∧ ¬ MA A q ∧ q ≠ o ∧ q ≠ od) (hMf : ∀ q, MA A q → s.heap.size ≤ q ∧ q ≠ o ∧ q ≠ od) (hof : s.heap.size ≤ o ∧ s.heap.size ≤ od ∧ o ≠ od) (hce : ce + 9 ≤ room_1.cells) (hsl : sl + 60 ≤ room_1.slots) (hS : va_S (fun q => s.heap.size ≤ q) s.heap H locs) (hl : lv_has ls 9 [(5, .int (nI i)), (4, .ref (od)), (3, .ref (o)), (2, .ref (A 0)), (1, .ref (U 0)), (0, .ref (b))]) (hLS : LST D cA U rg x f H) (hP : va_P D vwCl (mw cA A x f) H) (hO : va_P D vwCl (oL cA o g) H) (hD : va_P D vwCl (oD cA od gd) H)  (KK : ∀ (x1 : Nat → Int32) (f1 : Nat → Nat → Int32) (g1 : Nat → Int64) (gd1 : Nat → UInt64) (H1 : Heap) (locs1 : List Loc) (ls1 : Array Slot), LST D cA U rg x1 f1 H1 → va_P D vwCl (mw cA A x1 f1) H1 → va_P D vwCl (oL cA o g1) H1 → va_P D vwCl (oD cA od gd1) H1 → va_S (fun q => s.heap.size ≤ q) s.heap H1 locs1 → lv_has ls1 9 [(5, .int (nI i)), (4, .ref (od)), (3, .ref (o)), (2, .ref (A 0)), (1, .ref (U 0)), (0, .ref (b))] → W p l e room_1 s m args below meth c0 H1 locs1 (ce + 1) (sl + 6) Q (F0 m 2162 ls1 [])) : W p l e room_1 s m args below meth c0 H locs ce sl Q (F0 m 724 ls []) := by
  obtain ⟨c, z, rz, hd, ct, rs, dt, mf, mn, tc, tl, to, kd, fi, se, ta, nu, lc, ln, sv, er, R, hU⟩ := hLS
  have hFA : ∀ q, aS 189 U q → AE q := fun q h => hAE q (hUf q h).1
  have hUO : ∀ q, uO U o q → s.heap.size ≤ q := fun q h => h.elim (fun h => (hUf q h).1) (fun h => h ▸ hof.1)
  have hoU : ¬ aS 189 U o := fun h => (hUf o h).2.2.1 rfl
  have hbA : ¬ (fun q => s.heap.size ≤ q) b := fun h => absurd hbl (Nat.not_lt.mpr h)
  refine lv_aload_n hx hb dL_law_724 rfl (lv_at hl 4 rfl) ?_
  refine lv_aload_n hx hb dL_law_725 rfl (lv_at hl 5 rfl) ?_
  refine lv_iload hx hb dL_law_726 (lv_at hl 0 rfl) ?_
  refine lv_iconst (v := nI 1) hx hb dL_law_728 gc_1 ?_
  refine lv_iadd hx hb dL_law_729 ?_
  rw [nI_add]
  refine va_sld (A := (fun q => s.heap.size ≤ q)) hx hb hX hbl hbA hS (lp_in (by omega) hL) dL_law_730 ?_
  refine lv_aload_n hx hb dL_law_731 rfl (lv_at hl 5 rfl) ?_
  refine lv_iload hx hb dL_law_732 (lv_at hl 0 rfl) ?_
  refine lv_iconst (v := nI 2) hx hb dL_law_734 gc_2 ?_
  refine lv_iadd hx hb dL_law_735 ?_
  rw [nI_add]
  refine va_sld (A := (fun q => s.heap.size ≤ q)) hx hb hX hbl hbA hS (lp_in (by omega) hL) dL_law_736 ?_
  refine lv_aload_n hx hb dL_law_737 rfl (lv_at hl 2 rfl) ?_
  refine wr_calli (vx_runSW (As := [.ref (U 0), .int (xs (nI (i + 1)).toNatClampNeg), .int (xs (nI (i + 2)).toNatClampNeg), .ref (o)]) (rest := []) ⟨hx, hb, hml, hown, hts⟩ (c_L_caseOf l hlt D cA AE adK adV sa U rg c z rz hd ct rs dt mf mn tc tl to kd fi se ta nu lc ln sv er (xs (nI (i + 1)).toNatClampNeg) (xs (nI (i + 2)).toNatClampNeg) o g hA hFA hoU (fun q h => hAE q (hUO q h)) R.I.ok) (vx_cwSW 4 hts (gWSL gm_25_14 gm_25_15 gm_6_2 gm_25_16) rfl rfl rfl (by decide +kernel) ⟨Nat.le_of_ble_eq_true rfl, Nat.le_of_ble_eq_true rfl⟩) (gPreSy hK hE hN hS hAE ⟨hU, hO⟩) rfl rfl hl.1 rfl (lv_room (Nat.le_of_ble_eq_true rfl)) dL_law_738 ⟨by omega, by omega⟩) hS (fun q _ h => hUO q h) (fun q h => hUO q h) (fun r H1 locs1 hw9 hz9 hk9 hS => ?_)
  obtain ⟨k9, rr, g9, rfl, hk2, hg9, hO, C⟩ := hw9
  obtain ⟨e4, e1, hLS⟩ := op_caseOf R C
  have hP := vP_fr hP hk9 (mw_n (A1 := uO U o) hM (fun q h h2 => h2.elim (fun h2 => (hUf q h2).2.1 h) (fun h2 => (hMf q h).2.1 h2)))
  have hD := vP_fr hD hk9 (oD_n (A := uO U o) (fun h => h.elim (fun h => (hUf od h).2.2.2 rfl) (fun h => hof.2.2 h.symm)))
  refine lv_istore (lv' := [(6, .int (nI k9)), (5, .int (nI i)), (4, .ref (od)), (3, .ref (o)), (2, .ref (A 0)), (1, .ref (U 0)), (0, .ref (b))]) hx hb dL_law_741 hl (by decide) rfl (fun ls hl => ?_)
  refine lv_aload_n hx hb dL_law_743 rfl (lv_at hl 4 rfl) ?_
  refine lv_aload_n hx hb dL_law_744 rfl (lv_at hl 6 rfl) ?_
  refine lv_iload hx hb dL_law_745 (lv_at hl 1 rfl) ?_
  refine lv_iconst (v := nI 1) hx hb dL_law_747 gc_1 ?_
  refine lv_iadd hx hb dL_law_748 ?_
  rw [nI_add]
  refine va_sld (A := (fun q => s.heap.size ≤ q)) hx hb hX hbl hbA hS (lp_in (by omega) hL) dL_law_749 ?_
  refine lv_aload_n hx hb dL_law_750 rfl (lv_at hl 6 rfl) ?_
  refine lv_iload hx hb dL_law_751 (lv_at hl 1 rfl) ?_
  refine lv_iconst (v := nI 2) hx hb dL_law_753 gc_2 ?_
  refine lv_iadd hx hb dL_law_754 ?_
  rw [nI_add]
  refine va_sld (A := (fun q => s.heap.size ≤ q)) hx hb hX hbl hbA hS (lp_in (by omega) hL) dL_law_755 ?_
  refine wr_calli (va_runV (As := [.int (xs (nI (i + 1)).toNatClampNeg), .int (xs (nI (i + 2)).toNatClampNeg)]) (rest := []) ⟨hx, hb, hml, hown, hts⟩ (c_X8_caseOf l D cA A x f (xs (nI (i + 1)).toNatClampNeg) (xs (nI (i + 2)).toNatClampNeg) (zcn c) hM R.G.g1 R.I.cn) (cwV 2 hts (gWVL gm_26_5 gm_26_6 gm_26_7 gm_1_5 gm_26_8) rfl rfl rfl (by decide +kernel) ⟨Nat.le_of_ble_eq_true rfl, Nat.le_of_ble_eq_true rfl⟩) (gPreV hK (g_rf hK hP (ci := 10) (q0 := 0) rfl rfl) hP) rfl rfl hl.1 rfl (lv_room (Nat.le_of_ble_eq_true rfl)) dL_law_756 ⟨by omega, by omega⟩) hS (fun q _ h => (hMf q h).1) (fun q h => (hMf q h).1) (fun r8 H2 locs2 hw8 hz8 hk8 hS => ?_)
  obtain ⟨h8, hP⟩ := hw8
  have hLS := hLS.kept hA hk8 (fun q h => (hUf q h).2.1)
  have hO := vP_fr hO hk8 (oL_n (fun h => (hMf o h).2.1 rfl))
  have hD := vP_fr hD hk8 (oD_n (fun h => (hMf od h).2.2 rfl))
  refine lv_istore (lv' := [(7, .int (r8)), (6, .int (nI k9)), (5, .int (nI i)), (4, .ref (od)), (3, .ref (o)), (2, .ref (A 0)), (1, .ref (U 0)), (0, .ref (b))]) hx hb dL_law_759 hl (by decide) rfl (fun ls hl => ?_)
  refine lv_aload_n hx hb dL_law_761 rfl (lv_at hl 5 rfl) ?_
  refine rd_calle (va_runV (As := []) (rest := []) ⟨hx, hb, hml, hown, hts⟩ (c_X8_thrown l D cA A _ _ k9 e4) (cwV 0 hts (gWVL gm_9_20 gm_9_21 gm_9_22 gm_1_5 gm_9_23) rfl rfl rfl (by decide +kernel) ⟨Nat.le_of_ble_eq_true rfl, Nat.le_of_ble_eq_true rfl⟩) (gPreV hK (g_rf hK hP (ci := 10) (q0 := 0) rfl rfl) hP) rfl rfl hl.1 rfl (lv_room (Nat.le_of_ble_eq_true rfl)) dL_law_762 ⟨by omega, by omega⟩) ?_
  refine lv_iload hx hb dL_law_765 (lv_at hl 1 rfl) ?_
  refine lv_icmp_eq (tgt := 772) hx hb dL_law_767 (by decide) (fun _ => ?_) (fun q => absurd rfl q)
  refine lv_iload hx hb dL_law_772 (lv_at hl 1 rfl) ?_
  refine g_if_ne (P := k9 = 0) (tgt := 789) hx hb dL_law_774 (by decide) (nI_z (by omega)) (fun _ => ?_) (fun hz => ?_)
  · exact lv_goto (tgt := 2162) hx hb dL_law_789 (by decide) (KK _ _ _ _ _ _ _ hLS hP hO hD hS (lv_sub hl [2, 3, 4, 5, 6, 7] rfl))
  · refine lv_aload_n hx hb dL_law_777 rfl (lv_at hl 4 rfl) ?_
    refine lv_iconst (v := nI 0) hx hb dL_law_778 gc_0 ?_
    refine va_lald hx hb hK.1 hO 0 3 rfl rfl (vp_in_iff.mpr (by decide +kernel)) dL_law_779 ?_
    refine lv_iload hx hb dL_law_780 (lv_at hl 0 rfl) ?_
    refine lv_i2l (v := r8.toInt64) hx hb dL_law_782 rfl ?_
    refine W.lcmp hx hb dL_law_783 ?_
    have h99 : g9 (nI 0).toNatClampNeg = r8.toInt64 := by rw [h8, e1 hz, show (nI 0).toNatClampNeg = 0 from nI_clamp (by decide)]; exact hg9 hz
    exact lv_if_eq (tgt := 789) hx hb dL_law_784 (by decide) (fun _ => lv_goto (tgt := 2162) hx hb dL_law_789 (by decide) (KK _ _ _ _ _ _ _ hLS hP hO hD hS (lv_sub hl [2, 3, 4, 5, 6, 7] rfl))) (fun q => absurd (lg_same h99) q)

set_option maxHeartbeats 1000000 in
set_option maxRecDepth 100000 in
theorem lc_voteOf (l : Launch) (hlt : l.stackTraces = false) {p : Program} {e : Env} {s : State} {m : MethodId} {args : Array Value} {below : List Frame} {meth : Method} {c0 : Code} {Q : State → Prop} {H : Heap} {locs : List Loc} {ls : Array Slot} {ce sl i : Nat} {D : va_G} {cA : Nat → ClassId} {AE : Nat → Prop} {adK adV sa : Nat → Nat} {U : Nat → Nat} {rg : Nat → Option Nat} {A : Nat → Nat} {o od b L : Nat} {xs : Nat → Int32} {x : Nat → Int32} {f : Nat → Nat → Int32} {g : Nat → Int64} {gd : Nat → UInt64} (hx : p.tables.exec = Jvm.exec) (hb : c0.code = cL_law) (hml : c0.maxLocals = 9) (hown : s.vm.findClass RL = some m.cls) (hts : ∀ w ∈ Cond.initialized RL :: gG, w.before args s = true) (hK : gK D cA s) (hE : gE AE adK adV sa s s.heap) (hN : gNc s) (hX : va_X b L xs s s.heap) (hbl : b < s.heap.size) (hL : L ≤ 1536) (hi : i + 3 ≤ L) (hA : aInj 189 U) (hM : mInj A) (hrg : uRg U rg) (hAE : ∀ q, s.heap.size ≤ q → AE q) (hUf : ∀ q, aS 189 U q → s.heap.size ≤ q ∧ ¬ MA A q ∧ q ≠ o ∧ q ≠ od) (hMf : ∀ q, MA A q → s.heap.size ≤ q ∧ q ≠ o ∧ q ≠ od) (hof : s.heap.size ≤ o ∧ s.heap.size ≤ od ∧ o ≠ od) (hce : ce + 9 ≤ room_1.cells) (hsl : sl + 60 ≤ room_1.slots) (hS : va_S (fun q => s.heap.size ≤ q) s.heap H locs) (hl : lv_has ls 9 [(5, .int (nI i)), (4, .ref (od)), (3, .ref (o)), (2, .ref (A 0)), (1, .ref (U 0)), (0, .ref (b))]) (hLS : LST D cA U rg x f H) (hP : va_P D vwCl (mw cA A x f) H) (hO : va_P D vwCl (oL cA o g) H) (hD : va_P D vwCl (oD cA od gd) H)  (KK : ∀ (x1 : Nat → Int32) (f1 : Nat → Nat → Int32) (g1 : Nat → Int64) (gd1 : Nat → UInt64) (H1 : Heap) (locs1 : List Loc) (ls1 : Array Slot), LST D cA U rg x1 f1 H1 → va_P D vwCl (mw cA A x1 f1) H1 → va_P D vwCl (oL cA o g1) H1 → va_P D vwCl (oD cA od gd1) H1 → va_S (fun q => s.heap.size ≤ q) s.heap H1 locs1 → lv_has ls1 9 [(5, .int (nI i)), (4, .ref (od)), (3, .ref (o)), (2, .ref (A 0)), (1, .ref (U 0)), (0, .ref (b))] → W p l e room_1 s m args below meth c0 H1 locs1 (ce + 1) (sl + 6) Q (F0 m 2162 ls1 [])) : W p l e room_1 s m args below meth c0 H locs ce sl Q (F0 m 792 ls []) := by
  obtain ⟨c, z, rz, hd, ct, rs, dt, mf, mn, tc, tl, to, kd, fi, se, ta, nu, lc, ln, sv, er, R, hU⟩ := hLS
  have hFA : ∀ q, aS 189 U q → AE q := fun q h => hAE q (hUf q h).1
  have hUO : ∀ q, uO U o q → s.heap.size ≤ q := fun q h => h.elim (fun h => (hUf q h).1) (fun h => h ▸ hof.1)
  have hoU : ¬ aS 189 U o := fun h => (hUf o h).2.2.1 rfl
  have hbA : ¬ (fun q => s.heap.size ≤ q) b := fun h => absurd hbl (Nat.not_lt.mpr h)
  refine lv_aload_n hx hb dL_law_792 rfl (lv_at hl 4 rfl) ?_
  refine lv_aload_n hx hb dL_law_793 rfl (lv_at hl 5 rfl) ?_
  refine lv_iload hx hb dL_law_794 (lv_at hl 0 rfl) ?_
  refine lv_iconst (v := nI 1) hx hb dL_law_796 gc_1 ?_
  refine lv_iadd hx hb dL_law_797 ?_
  rw [nI_add]
  refine va_sld (A := (fun q => s.heap.size ≤ q)) hx hb hX hbl hbA hS (lp_in (by omega) hL) dL_law_798 ?_
  refine lv_aload_n hx hb dL_law_799 rfl (lv_at hl 5 rfl) ?_
  refine lv_iload hx hb dL_law_800 (lv_at hl 0 rfl) ?_
  refine lv_iconst (v := nI 2) hx hb dL_law_802 gc_2 ?_
  refine lv_iadd hx hb dL_law_803 ?_
  rw [nI_add]
  refine va_sld (A := (fun q => s.heap.size ≤ q)) hx hb hX hbl hbA hS (lp_in (by omega) hL) dL_law_804 ?_
  refine lv_aload_n hx hb dL_law_805 rfl (lv_at hl 2 rfl) ?_
  refine wr_calli (vx_runSW (As := [.ref (U 0), .int (xs (nI (i + 1)).toNatClampNeg), .int (xs (nI (i + 2)).toNatClampNeg), .ref (o)]) (rest := []) ⟨hx, hb, hml, hown, hts⟩ (c_L_voteOf l hlt D cA AE adK adV sa U rg c z rz hd ct rs dt mf mn tc tl to kd fi se ta nu lc ln sv er (xs (nI (i + 1)).toNatClampNeg) (xs (nI (i + 2)).toNatClampNeg) o g hA hFA hoU (fun q h => hAE q (hUO q h)) R.I.ok) (vx_cwSW 4 hts (gWSL gm_26_9 gm_26_10 gm_6_2 gm_26_11) rfl rfl rfl (by decide +kernel) ⟨Nat.le_of_ble_eq_true rfl, Nat.le_of_ble_eq_true rfl⟩) (gPreSy hK hE hN hS hAE ⟨hU, hO⟩) rfl rfl hl.1 rfl (lv_room (Nat.le_of_ble_eq_true rfl)) dL_law_806 ⟨by omega, by omega⟩) hS (fun q _ h => hUO q h) (fun q h => hUO q h) (fun r H1 locs1 hw9 hz9 hk9 hS => ?_)
  obtain ⟨k9, rr, g9, rfl, hk2, hg9, hO, C⟩ := hw9
  obtain ⟨e4, e1, hLS⟩ := op_voteOf R C
  have hP := vP_fr hP hk9 (mw_n (A1 := uO U o) hM (fun q h h2 => h2.elim (fun h2 => (hUf q h2).2.1 h) (fun h2 => (hMf q h).2.1 h2)))
  have hD := vP_fr hD hk9 (oD_n (A := uO U o) (fun h => h.elim (fun h => (hUf od h).2.2.2 rfl) (fun h => hof.2.2 h.symm)))
  refine lv_istore (lv' := [(6, .int (nI k9)), (5, .int (nI i)), (4, .ref (od)), (3, .ref (o)), (2, .ref (A 0)), (1, .ref (U 0)), (0, .ref (b))]) hx hb dL_law_809 hl (by decide) rfl (fun ls hl => ?_)
  refine lv_aload_n hx hb dL_law_811 rfl (lv_at hl 4 rfl) ?_
  refine lv_aload_n hx hb dL_law_812 rfl (lv_at hl 6 rfl) ?_
  refine lv_iload hx hb dL_law_813 (lv_at hl 1 rfl) ?_
  refine lv_iconst (v := nI 1) hx hb dL_law_815 gc_1 ?_
  refine lv_iadd hx hb dL_law_816 ?_
  rw [nI_add]
  refine va_sld (A := (fun q => s.heap.size ≤ q)) hx hb hX hbl hbA hS (lp_in (by omega) hL) dL_law_817 ?_
  refine lv_aload_n hx hb dL_law_818 rfl (lv_at hl 6 rfl) ?_
  refine lv_iload hx hb dL_law_819 (lv_at hl 1 rfl) ?_
  refine lv_iconst (v := nI 2) hx hb dL_law_821 gc_2 ?_
  refine lv_iadd hx hb dL_law_822 ?_
  rw [nI_add]
  refine va_sld (A := (fun q => s.heap.size ≤ q)) hx hb hX hbl hbA hS (lp_in (by omega) hL) dL_law_823 ?_
  refine wr_calli (va_runV (As := [.int (xs (nI (i + 1)).toNatClampNeg), .int (xs (nI (i + 2)).toNatClampNeg)]) (rest := []) ⟨hx, hb, hml, hown, hts⟩ (c_X8_voteOf l D cA A x f (xs (nI (i + 1)).toNatClampNeg) (xs (nI (i + 2)).toNatClampNeg) (zjn c) (zcn c) hM R.G.g0 R.I.jn R.G.g1 R.I.cn) (cwV 2 hts (gWVL gm_26_17 gm_26_18 gm_26_19 gm_1_5 gm_26_20) rfl rfl rfl (by decide +kernel) ⟨Nat.le_of_ble_eq_true rfl, Nat.le_of_ble_eq_true rfl⟩) (gPreV hK (g_rf hK hP (ci := 10) (q0 := 0) rfl rfl) hP) rfl rfl hl.1 rfl (lv_room (Nat.le_of_ble_eq_true rfl)) dL_law_824 ⟨by omega, by omega⟩) hS (fun q _ h => (hMf q h).1) (fun q h => (hMf q h).1) (fun r8 H2 locs2 hw8 hz8 hk8 hS => ?_)
  obtain ⟨h8, hP⟩ := hw8
  have hLS := hLS.kept hA hk8 (fun q h => (hUf q h).2.1)
  have hO := vP_fr hO hk8 (oL_n (fun h => (hMf o h).2.1 rfl))
  have hD := vP_fr hD hk8 (oD_n (fun h => (hMf od h).2.2 rfl))
  refine lv_istore (lv' := [(7, .int (r8)), (6, .int (nI k9)), (5, .int (nI i)), (4, .ref (od)), (3, .ref (o)), (2, .ref (A 0)), (1, .ref (U 0)), (0, .ref (b))]) hx hb dL_law_827 hl (by decide) rfl (fun ls hl => ?_)
  refine lv_aload_n hx hb dL_law_829 rfl (lv_at hl 5 rfl) ?_
  refine rd_calle (va_runV (As := []) (rest := []) ⟨hx, hb, hml, hown, hts⟩ (c_X8_thrown l D cA A _ _ k9 e4) (cwV 0 hts (gWVL gm_9_20 gm_9_21 gm_9_22 gm_1_5 gm_9_23) rfl rfl rfl (by decide +kernel) ⟨Nat.le_of_ble_eq_true rfl, Nat.le_of_ble_eq_true rfl⟩) (gPreV hK (g_rf hK hP (ci := 10) (q0 := 0) rfl rfl) hP) rfl rfl hl.1 rfl (lv_room (Nat.le_of_ble_eq_true rfl)) dL_law_830 ⟨by omega, by omega⟩) ?_
  refine lv_iload hx hb dL_law_833 (lv_at hl 1 rfl) ?_
  refine lv_icmp_eq (tgt := 840) hx hb dL_law_835 (by decide) (fun _ => ?_) (fun q => absurd rfl q)
  refine lv_iload hx hb dL_law_840 (lv_at hl 1 rfl) ?_
  refine g_if_ne (P := k9 = 0) (tgt := 857) hx hb dL_law_842 (by decide) (nI_z (by omega)) (fun _ => ?_) (fun hz => ?_)
  · exact lv_goto (tgt := 2162) hx hb dL_law_857 (by decide) (KK _ _ _ _ _ _ _ hLS hP hO hD hS (lv_sub hl [2, 3, 4, 5, 6, 7] rfl))
  · refine lv_aload_n hx hb dL_law_845 rfl (lv_at hl 4 rfl) ?_
    refine lv_iconst (v := nI 0) hx hb dL_law_846 gc_0 ?_
    refine va_lald hx hb hK.1 hO 0 3 rfl rfl (vp_in_iff.mpr (by decide +kernel)) dL_law_847 ?_
    refine lv_iload hx hb dL_law_848 (lv_at hl 0 rfl) ?_
    refine lv_i2l (v := r8.toInt64) hx hb dL_law_850 rfl ?_
    refine W.lcmp hx hb dL_law_851 ?_
    have h99 : g9 (nI 0).toNatClampNeg = r8.toInt64 := by rw [h8, e1 hz, show (nI 0).toNatClampNeg = 0 from nI_clamp (by decide)]; exact hg9 hz
    exact lv_if_eq (tgt := 857) hx hb dL_law_852 (by decide) (fun _ => lv_goto (tgt := 2162) hx hb dL_law_857 (by decide) (KK _ _ _ _ _ _ _ hLS hP hO hD hS (lv_sub hl [2, 3, 4, 5, 6, 7] rfl))) (fun q => absurd (lg_same h99) q)

set_option maxHeartbeats 1000000 in
set_option maxRecDepth 100000 in
theorem lc_wouldBe (l : Launch) (hlt : l.stackTraces = false) {p : Program} {e : Env} {s : State} {m : MethodId} {args : Array Value} {below : List Frame} {meth : Method} {c0 : Code} {Q : State → Prop} {H : Heap} {locs : List Loc} {ls : Array Slot} {ce sl i : Nat} {D : va_G} {cA : Nat → ClassId} {AE : Nat → Prop} {adK adV sa : Nat → Nat} {U : Nat → Nat} {rg : Nat → Option Nat} {A : Nat → Nat} {o od b L : Nat} {xs : Nat → Int32} {x : Nat → Int32} {f : Nat → Nat → Int32} {g : Nat → Int64} {gd : Nat → UInt64} (hx : p.tables.exec = Jvm.exec) (hb : c0.code = cL_law) (hml : c0.maxLocals = 9) (hown : s.vm.findClass RL = some m.cls) (hts : ∀ w ∈ Cond.initialized RL :: gG, w.before args s = true) (hK : gK D cA s) (hE : gE AE adK adV sa s s.heap) (hN : gNc s) (hX : va_X b L xs s s.heap) (hbl : b < s.heap.size) (hL : L ≤ 1536) (hi : i + 3 ≤ L) (hA : aInj 189 U) (hM : mInj A) (hrg : uRg U rg) (hAE : ∀ q, s.heap.size ≤ q → AE q) (hUf : ∀ q, aS 189 U q → s.heap.size ≤ q ∧ ¬ MA A q ∧ q ≠ o ∧ q ≠ od) (hMf : ∀ q, MA A q → s.heap.size ≤ q ∧ q ≠ o ∧ q ≠ od) (hof : s.heap.size ≤ o ∧ s.heap.size ≤ od ∧ o ≠ od) (hce : ce + 9 ≤ room_1.cells) (hsl : sl + 60 ≤ room_1.slots) (hS : va_S (fun q => s.heap.size ≤ q) s.heap H locs) (hl : lv_has ls 9 [(5, .int (nI i)), (4, .ref (od)), (3, .ref (o)), (2, .ref (A 0)), (1, .ref (U 0)), (0, .ref (b))]) (hLS : LST D cA U rg x f H) (hP : va_P D vwCl (mw cA A x f) H) (hO : va_P D vwCl (oL cA o g) H) (hD : va_P D vwCl (oD cA od gd) H)  (KK : ∀ (x1 : Nat → Int32) (f1 : Nat → Nat → Int32) (g1 : Nat → Int64) (gd1 : Nat → UInt64) (H1 : Heap) (locs1 : List Loc) (ls1 : Array Slot), LST D cA U rg x1 f1 H1 → va_P D vwCl (mw cA A x1 f1) H1 → va_P D vwCl (oL cA o g1) H1 → va_P D vwCl (oD cA od gd1) H1 → va_S (fun q => s.heap.size ≤ q) s.heap H1 locs1 → lv_has ls1 9 [(5, .int (nI i)), (4, .ref (od)), (3, .ref (o)), (2, .ref (A 0)), (1, .ref (U 0)), (0, .ref (b))] → W p l e room_1 s m args below meth c0 H1 locs1 (ce + 1) (sl + 6) Q (F0 m 2162 ls1 [])) : W p l e room_1 s m args below meth c0 H locs ce sl Q (F0 m 860 ls []) := by
  obtain ⟨c, z, rz, hd, ct, rs, dt, mf, mn, tc, tl, to, kd, fi, se, ta, nu, lc, ln, sv, er, R, hU⟩ := hLS
  have hFA : ∀ q, aS 189 U q → AE q := fun q h => hAE q (hUf q h).1
  have hUO : ∀ q, uO U o q → s.heap.size ≤ q := fun q h => h.elim (fun h => (hUf q h).1) (fun h => h ▸ hof.1)
  have hoU : ¬ aS 189 U o := fun h => (hUf o h).2.2.1 rfl
  have hbA : ¬ (fun q => s.heap.size ≤ q) b := fun h => absurd hbl (Nat.not_lt.mpr h)
  refine lv_aload_n hx hb dL_law_860 rfl (lv_at hl 4 rfl) ?_
  refine lv_aload_n hx hb dL_law_861 rfl (lv_at hl 5 rfl) ?_
  refine lv_iload hx hb dL_law_862 (lv_at hl 0 rfl) ?_
  refine lv_iconst (v := nI 1) hx hb dL_law_864 gc_1 ?_
  refine lv_iadd hx hb dL_law_865 ?_
  rw [nI_add]
  refine va_sld (A := (fun q => s.heap.size ≤ q)) hx hb hX hbl hbA hS (lp_in (by omega) hL) dL_law_866 ?_
  refine lv_aload_n hx hb dL_law_867 rfl (lv_at hl 5 rfl) ?_
  refine lv_iload hx hb dL_law_868 (lv_at hl 0 rfl) ?_
  refine lv_iconst (v := nI 2) hx hb dL_law_870 gc_2 ?_
  refine lv_iadd hx hb dL_law_871 ?_
  rw [nI_add]
  refine va_sld (A := (fun q => s.heap.size ≤ q)) hx hb hX hbl hbA hS (lp_in (by omega) hL) dL_law_872 ?_
  refine lp_bool hx hb dL_law_873 dL_law_876 dL_law_877 dL_law_880 ?_
  refine lv_aload_n hx hb dL_law_881 rfl (lv_at hl 2 rfl) ?_
  refine wr_calli (vx_runSW (As := [.ref (U 0), .int (xs (nI (i + 1)).toNatClampNeg), .int (b2i (lpB (xs (nI (i + 2)).toNatClampNeg))), .ref (o)]) (rest := []) ⟨hx, hb, hml, hown, hts⟩ (c_L_wouldBe l hlt D cA AE adK adV sa U rg c z rz hd ct rs dt mf mn tc tl to kd fi se ta nu lc ln sv er (xs (nI (i + 1)).toNatClampNeg) ((lpB (xs (nI (i + 2)).toNatClampNeg))) o g hA hFA hoU (fun q h => hAE q (hUO q h)) R.I.ok) (vx_cwSW 4 hts (gWSL gm_26_21 gm_26_22 gm_6_2 gm_26_23) rfl rfl rfl (by decide +kernel) ⟨Nat.le_of_ble_eq_true rfl, Nat.le_of_ble_eq_true rfl⟩) (gPreSy hK hE hN hS hAE ⟨hU, hO⟩) rfl rfl hl.1 rfl (lv_room (Nat.le_of_ble_eq_true rfl)) dL_law_882 ⟨by omega, by omega⟩) hS (fun q _ h => hUO q h) (fun q h => hUO q h) (fun r H1 locs1 hw9 hz9 hk9 hS => ?_)
  obtain ⟨k9, rr, g9, rfl, hk2, hg9, hO, C⟩ := hw9
  obtain ⟨e4, e1, hLS⟩ := op_wouldBe R C
  have hP := vP_fr hP hk9 (mw_n (A1 := uO U o) hM (fun q h h2 => h2.elim (fun h2 => (hUf q h2).2.1 h) (fun h2 => (hMf q h).2.1 h2)))
  have hD := vP_fr hD hk9 (oD_n (A := uO U o) (fun h => h.elim (fun h => (hUf od h).2.2.2 rfl) (fun h => hof.2.2 h.symm)))
  refine lv_istore (lv' := [(6, .int (nI k9)), (5, .int (nI i)), (4, .ref (od)), (3, .ref (o)), (2, .ref (A 0)), (1, .ref (U 0)), (0, .ref (b))]) hx hb dL_law_885 hl (by decide) rfl (fun ls hl => ?_)
  refine lv_aload_n hx hb dL_law_887 rfl (lv_at hl 4 rfl) ?_
  refine lv_aload_n hx hb dL_law_888 rfl (lv_at hl 6 rfl) ?_
  refine lv_iload hx hb dL_law_889 (lv_at hl 1 rfl) ?_
  refine lv_iconst (v := nI 1) hx hb dL_law_891 gc_1 ?_
  refine lv_iadd hx hb dL_law_892 ?_
  rw [nI_add]
  refine va_sld (A := (fun q => s.heap.size ≤ q)) hx hb hX hbl hbA hS (lp_in (by omega) hL) dL_law_893 ?_
  refine lv_aload_n hx hb dL_law_894 rfl (lv_at hl 6 rfl) ?_
  refine lv_iload hx hb dL_law_895 (lv_at hl 1 rfl) ?_
  refine lv_iconst (v := nI 2) hx hb dL_law_897 gc_2 ?_
  refine lv_iadd hx hb dL_law_898 ?_
  rw [nI_add]
  refine va_sld (A := (fun q => s.heap.size ≤ q)) hx hb hX hbl hbA hS (lp_in (by omega) hL) dL_law_899 ?_
  refine lp_bool hx hb dL_law_900 dL_law_903 dL_law_904 dL_law_907 ?_
  refine wr_calli (va_runV (As := [.int (xs (nI (i + 1)).toNatClampNeg), .int (b2i (lpB (xs (nI (i + 2)).toNatClampNeg)))]) (rest := []) ⟨hx, hb, hml, hown, hts⟩ (c_X8_wouldBe l D cA A x f (xs (nI (i + 1)).toNatClampNeg) ((lpB (xs (nI (i + 2)).toNatClampNeg))) (zjn c) (zcn c) hM R.G.g0 R.I.jn R.G.g1 R.I.cn) (cwV 2 hts (gWVL gm_27_14 gm_27_15 gm_27_16 gm_1_5 gm_27_17) rfl rfl rfl (by decide +kernel) ⟨Nat.le_of_ble_eq_true rfl, Nat.le_of_ble_eq_true rfl⟩) (gPreV hK (g_rf hK hP (ci := 10) (q0 := 0) rfl rfl) hP) rfl rfl hl.1 rfl (lv_room (Nat.le_of_ble_eq_true rfl)) dL_law_908 ⟨by omega, by omega⟩) hS (fun q _ h => (hMf q h).1) (fun q h => (hMf q h).1) (fun r8 H2 locs2 hw8 hz8 hk8 hS => ?_)
  obtain ⟨h8, hP⟩ := hw8
  have hLS := hLS.kept hA hk8 (fun q h => (hUf q h).2.1)
  have hO := vP_fr hO hk8 (oL_n (fun h => (hMf o h).2.1 rfl))
  have hD := vP_fr hD hk8 (oD_n (fun h => (hMf od h).2.2 rfl))
  refine lv_istore (lv' := [(7, .int (r8)), (6, .int (nI k9)), (5, .int (nI i)), (4, .ref (od)), (3, .ref (o)), (2, .ref (A 0)), (1, .ref (U 0)), (0, .ref (b))]) hx hb dL_law_911 hl (by decide) rfl (fun ls hl => ?_)
  refine lv_aload_n hx hb dL_law_913 rfl (lv_at hl 5 rfl) ?_
  refine rd_calle (va_runV (As := []) (rest := []) ⟨hx, hb, hml, hown, hts⟩ (c_X8_thrown l D cA A _ _ k9 e4) (cwV 0 hts (gWVL gm_9_20 gm_9_21 gm_9_22 gm_1_5 gm_9_23) rfl rfl rfl (by decide +kernel) ⟨Nat.le_of_ble_eq_true rfl, Nat.le_of_ble_eq_true rfl⟩) (gPreV hK (g_rf hK hP (ci := 10) (q0 := 0) rfl rfl) hP) rfl rfl hl.1 rfl (lv_room (Nat.le_of_ble_eq_true rfl)) dL_law_914 ⟨by omega, by omega⟩) ?_
  refine lv_iload hx hb dL_law_917 (lv_at hl 1 rfl) ?_
  refine lv_icmp_eq (tgt := 924) hx hb dL_law_919 (by decide) (fun _ => ?_) (fun q => absurd rfl q)
  refine lv_iload hx hb dL_law_924 (lv_at hl 1 rfl) ?_
  refine g_if_ne (P := k9 = 0) (tgt := 941) hx hb dL_law_926 (by decide) (nI_z (by omega)) (fun _ => ?_) (fun hz => ?_)
  · exact lv_goto (tgt := 2162) hx hb dL_law_941 (by decide) (KK _ _ _ _ _ _ _ hLS hP hO hD hS (lv_sub hl [2, 3, 4, 5, 6, 7] rfl))
  · refine lv_aload_n hx hb dL_law_929 rfl (lv_at hl 4 rfl) ?_
    refine lv_iconst (v := nI 0) hx hb dL_law_930 gc_0 ?_
    refine va_lald hx hb hK.1 hO 0 3 rfl rfl (vp_in_iff.mpr (by decide +kernel)) dL_law_931 ?_
    refine lv_iload hx hb dL_law_932 (lv_at hl 0 rfl) ?_
    refine lv_i2l (v := r8.toInt64) hx hb dL_law_934 rfl ?_
    refine W.lcmp hx hb dL_law_935 ?_
    have h99 : g9 (nI 0).toNatClampNeg = r8.toInt64 := by rw [h8, e1 hz, show (nI 0).toNatClampNeg = 0 from nI_clamp (by decide)]; exact hg9 hz
    exact lv_if_eq (tgt := 941) hx hb dL_law_936 (by decide) (fun _ => lv_goto (tgt := 2162) hx hb dL_law_941 (by decide) (KK _ _ _ _ _ _ _ hLS hP hO hD hS (lv_sub hl [2, 3, 4, 5, 6, 7] rfl))) (fun q => absurd (lg_same h99) q)

set_option maxHeartbeats 1000000 in
set_option maxRecDepth 100000 in
theorem lc_load (l : Launch) (hlt : l.stackTraces = false) {p : Program} {e : Env} {s : State} {m : MethodId} {args : Array Value} {below : List Frame} {meth : Method} {c0 : Code} {Q : State → Prop} {H : Heap} {locs : List Loc} {ls : Array Slot} {ce sl i : Nat} {D : va_G} {cA : Nat → ClassId} {AE : Nat → Prop} {adK adV sa : Nat → Nat} {U : Nat → Nat} {rg : Nat → Option Nat} {A : Nat → Nat} {o od b L : Nat} {xs : Nat → Int32} {x : Nat → Int32} {f : Nat → Nat → Int32} {g : Nat → Int64} {gd : Nat → UInt64} (hx : p.tables.exec = Jvm.exec) (hb : c0.code = cL_law) (hml : c0.maxLocals = 9) (hown : s.vm.findClass RL = some m.cls) (hts : ∀ w ∈ Cond.initialized RL :: gG, w.before args s = true) (hK : gK D cA s) (hE : gE AE adK adV sa s s.heap) (hN : gNc s) (hX : va_X b L xs s s.heap) (hbl : b < s.heap.size) (hL : L ≤ 1536) (hi : i + 3 ≤ L) (hA : aInj 189 U) (hM : mInj A) (hrg : uRg U rg) (hAE : ∀ q, s.heap.size ≤ q → AE q) (hUf : ∀ q, aS 189 U q → s.heap.size ≤ q ∧ ¬ MA A q ∧ q ≠ o ∧ q ≠ od) (hMf : ∀ q, MA A q → s.heap.size ≤ q ∧ q ≠ o ∧ q ≠ od) (hof : s.heap.size ≤ o ∧ s.heap.size ≤ od ∧ o ≠ od) (hce : ce + 9 ≤ room_1.cells) (hsl : sl + 60 ≤ room_1.slots) (hS : va_S (fun q => s.heap.size ≤ q) s.heap H locs) (hl : lv_has ls 9 [(5, .int (nI i)), (4, .ref (od)), (3, .ref (o)), (2, .ref (A 0)), (1, .ref (U 0)), (0, .ref (b))]) (hLS : LST D cA U rg x f H) (hP : va_P D vwCl (mw cA A x f) H) (hO : va_P D vwCl (oL cA o g) H) (hD : va_P D vwCl (oD cA od gd) H)  (KK : ∀ (x1 : Nat → Int32) (f1 : Nat → Nat → Int32) (g1 : Nat → Int64) (gd1 : Nat → UInt64) (H1 : Heap) (locs1 : List Loc) (ls1 : Array Slot), LST D cA U rg x1 f1 H1 → va_P D vwCl (mw cA A x1 f1) H1 → va_P D vwCl (oL cA o g1) H1 → va_P D vwCl (oD cA od gd1) H1 → va_S (fun q => s.heap.size ≤ q) s.heap H1 locs1 → lv_has ls1 9 [(5, .int (nI i)), (4, .ref (od)), (3, .ref (o)), (2, .ref (A 0)), (1, .ref (U 0)), (0, .ref (b))] → W p l e room_1 s m args below meth c0 H1 locs1 (ce + 1) (sl + 6) Q (F0 m 2162 ls1 [])) : W p l e room_1 s m args below meth c0 H locs ce sl Q (F0 m 944 ls []) := by
  obtain ⟨c, z, rz, hd, ct, rs, dt, mf, mn, tc, tl, to, kd, fi, se, ta, nu, lc, ln, sv, er, R, hU⟩ := hLS
  have hFA : ∀ q, aS 189 U q → AE q := fun q h => hAE q (hUf q h).1
  have hUO : ∀ q, uO U o q → s.heap.size ≤ q := fun q h => h.elim (fun h => (hUf q h).1) (fun h => h ▸ hof.1)
  have hoU : ¬ aS 189 U o := fun h => (hUf o h).2.2.1 rfl
  have hbA : ¬ (fun q => s.heap.size ≤ q) b := fun h => absurd hbl (Nat.not_lt.mpr h)
  refine lv_aload_n hx hb dL_law_944 rfl (lv_at hl 4 rfl) ?_
  refine lv_aload_n hx hb dL_law_945 rfl (lv_at hl 5 rfl) ?_
  refine lv_iload hx hb dL_law_946 (lv_at hl 0 rfl) ?_
  refine lv_iconst (v := nI 1) hx hb dL_law_948 gc_1 ?_
  refine lv_iadd hx hb dL_law_949 ?_
  rw [nI_add]
  refine va_sld (A := (fun q => s.heap.size ≤ q)) hx hb hX hbl hbA hS (lp_in (by omega) hL) dL_law_950 ?_
  refine lv_aload_n hx hb dL_law_951 rfl (lv_at hl 5 rfl) ?_
  refine lv_iload hx hb dL_law_952 (lv_at hl 0 rfl) ?_
  refine lv_iconst (v := nI 2) hx hb dL_law_954 gc_2 ?_
  refine lv_iadd hx hb dL_law_955 ?_
  rw [nI_add]
  refine va_sld (A := (fun q => s.heap.size ≤ q)) hx hb hX hbl hbA hS (lp_in (by omega) hL) dL_law_956 ?_
  refine lp_bool hx hb dL_law_957 dL_law_960 dL_law_961 dL_law_964 ?_
  refine lv_aload_n hx hb dL_law_965 rfl (lv_at hl 2 rfl) ?_
  refine wr_calli (vx_runSW (As := [.ref (U 0), .int (xs (nI (i + 1)).toNatClampNeg), .int (b2i (lpB (xs (nI (i + 2)).toNatClampNeg))), .ref (o)]) (rest := []) ⟨hx, hb, hml, hown, hts⟩ (c_L_load l hlt D cA AE adK adV sa U rg c z rz hd ct rs dt mf mn tc tl to kd fi se ta nu lc ln sv er (xs (nI (i + 1)).toNatClampNeg) ((lpB (xs (nI (i + 2)).toNatClampNeg))) o g hA hFA hoU (fun q h => hAE q (hUO q h)) R.I.ok) (vx_cwSW 4 hts (gWSL gm_27_22 gm_27_23 gm_6_2 gm_28_0) rfl rfl rfl (by decide +kernel) ⟨Nat.le_of_ble_eq_true rfl, Nat.le_of_ble_eq_true rfl⟩) (gPreSy hK hE hN hS hAE ⟨hU, hO⟩) rfl rfl hl.1 rfl (lv_room (Nat.le_of_ble_eq_true rfl)) dL_law_966 ⟨by omega, by omega⟩) hS (fun q _ h => hUO q h) (fun q h => hUO q h) (fun r H1 locs1 hw9 hz9 hk9 hS => ?_)
  obtain ⟨k9, rr, g9, rfl, hk2, hg9, hO, C⟩ := hw9
  obtain ⟨e4, e1, hLS⟩ := op_load R C
  have hP := vP_fr hP hk9 (mw_n (A1 := uO U o) hM (fun q h h2 => h2.elim (fun h2 => (hUf q h2).2.1 h) (fun h2 => (hMf q h).2.1 h2)))
  have hD := vP_fr hD hk9 (oD_n (A := uO U o) (fun h => h.elim (fun h => (hUf od h).2.2.2 rfl) (fun h => hof.2.2 h.symm)))
  refine lv_istore (lv' := [(6, .int (nI k9)), (5, .int (nI i)), (4, .ref (od)), (3, .ref (o)), (2, .ref (A 0)), (1, .ref (U 0)), (0, .ref (b))]) hx hb dL_law_969 hl (by decide) rfl (fun ls hl => ?_)
  refine lv_aload_n hx hb dL_law_971 rfl (lv_at hl 4 rfl) ?_
  refine lv_aload_n hx hb dL_law_972 rfl (lv_at hl 6 rfl) ?_
  refine lv_iload hx hb dL_law_973 (lv_at hl 1 rfl) ?_
  refine lv_iconst (v := nI 1) hx hb dL_law_975 gc_1 ?_
  refine lv_iadd hx hb dL_law_976 ?_
  rw [nI_add]
  refine va_sld (A := (fun q => s.heap.size ≤ q)) hx hb hX hbl hbA hS (lp_in (by omega) hL) dL_law_977 ?_
  refine lv_aload_n hx hb dL_law_978 rfl (lv_at hl 6 rfl) ?_
  refine lv_iload hx hb dL_law_979 (lv_at hl 1 rfl) ?_
  refine lv_iconst (v := nI 2) hx hb dL_law_981 gc_2 ?_
  refine lv_iadd hx hb dL_law_982 ?_
  rw [nI_add]
  refine va_sld (A := (fun q => s.heap.size ≤ q)) hx hb hX hbl hbA hS (lp_in (by omega) hL) dL_law_983 ?_
  refine lp_bool hx hb dL_law_984 dL_law_987 dL_law_988 dL_law_991 ?_
  refine wr_calli (va_runV (As := [.int (xs (nI (i + 1)).toNatClampNeg), .int (b2i (lpB (xs (nI (i + 2)).toNatClampNeg)))]) (rest := []) ⟨hx, hb, hml, hown, hts⟩ (c_X8_load l D cA A x f (xs (nI (i + 1)).toNatClampNeg) ((lpB (xs (nI (i + 2)).toNatClampNeg))) (zjn c) (zcn c) hM R.G.g0 R.I.jn R.G.g1 R.I.cn) (cwV 2 hts (gWVL gm_28_10 gm_28_11 gm_28_12 gm_1_5 gm_28_13) rfl rfl rfl (by decide +kernel) ⟨Nat.le_of_ble_eq_true rfl, Nat.le_of_ble_eq_true rfl⟩) (gPreV hK (g_rf hK hP (ci := 10) (q0 := 0) rfl rfl) hP) rfl rfl hl.1 rfl (lv_room (Nat.le_of_ble_eq_true rfl)) dL_law_992 ⟨by omega, by omega⟩) hS (fun q _ h => (hMf q h).1) (fun q h => (hMf q h).1) (fun r8 H2 locs2 hw8 hz8 hk8 hS => ?_)
  obtain ⟨h8, hP⟩ := hw8
  have hLS := hLS.kept hA hk8 (fun q h => (hUf q h).2.1)
  have hO := vP_fr hO hk8 (oL_n (fun h => (hMf o h).2.1 rfl))
  have hD := vP_fr hD hk8 (oD_n (fun h => (hMf od h).2.2 rfl))
  refine lv_istore (lv' := [(7, .int (r8)), (6, .int (nI k9)), (5, .int (nI i)), (4, .ref (od)), (3, .ref (o)), (2, .ref (A 0)), (1, .ref (U 0)), (0, .ref (b))]) hx hb dL_law_995 hl (by decide) rfl (fun ls hl => ?_)
  refine lv_aload_n hx hb dL_law_997 rfl (lv_at hl 5 rfl) ?_
  refine rd_calle (va_runV (As := []) (rest := []) ⟨hx, hb, hml, hown, hts⟩ (c_X8_thrown l D cA A _ _ k9 e4) (cwV 0 hts (gWVL gm_9_20 gm_9_21 gm_9_22 gm_1_5 gm_9_23) rfl rfl rfl (by decide +kernel) ⟨Nat.le_of_ble_eq_true rfl, Nat.le_of_ble_eq_true rfl⟩) (gPreV hK (g_rf hK hP (ci := 10) (q0 := 0) rfl rfl) hP) rfl rfl hl.1 rfl (lv_room (Nat.le_of_ble_eq_true rfl)) dL_law_998 ⟨by omega, by omega⟩) ?_
  refine lv_iload hx hb dL_law_1001 (lv_at hl 1 rfl) ?_
  refine lv_icmp_eq (tgt := 1008) hx hb dL_law_1003 (by decide) (fun _ => ?_) (fun q => absurd rfl q)
  refine lv_iload hx hb dL_law_1008 (lv_at hl 1 rfl) ?_
  refine g_if_ne (P := k9 = 0) (tgt := 1025) hx hb dL_law_1010 (by decide) (nI_z (by omega)) (fun _ => ?_) (fun hz => ?_)
  · exact lv_goto (tgt := 2162) hx hb dL_law_1025 (by decide) (KK _ _ _ _ _ _ _ hLS hP hO hD hS (lv_sub hl [2, 3, 4, 5, 6, 7] rfl))
  · refine lv_aload_n hx hb dL_law_1013 rfl (lv_at hl 4 rfl) ?_
    refine lv_iconst (v := nI 0) hx hb dL_law_1014 gc_0 ?_
    refine va_lald hx hb hK.1 hO 0 3 rfl rfl (vp_in_iff.mpr (by decide +kernel)) dL_law_1015 ?_
    refine lv_iload hx hb dL_law_1016 (lv_at hl 0 rfl) ?_
    refine lv_i2l (v := r8.toInt64) hx hb dL_law_1018 rfl ?_
    refine W.lcmp hx hb dL_law_1019 ?_
    have h99 : g9 (nI 0).toNatClampNeg = r8.toInt64 := by rw [h8, e1 hz, show (nI 0).toNatClampNeg = 0 from nI_clamp (by decide)]; exact hg9 hz
    exact lv_if_eq (tgt := 1025) hx hb dL_law_1020 (by decide) (fun _ => lv_goto (tgt := 2162) hx hb dL_law_1025 (by decide) (KK _ _ _ _ _ _ _ hLS hP hO hD hS (lv_sub hl [2, 3, 4, 5, 6, 7] rfl))) (fun q => absurd (lg_same h99) q)

set_option maxHeartbeats 1000000 in
set_option maxRecDepth 100000 in
theorem lc_callable (l : Launch) (hlt : l.stackTraces = false) {p : Program} {e : Env} {s : State} {m : MethodId} {args : Array Value} {below : List Frame} {meth : Method} {c0 : Code} {Q : State → Prop} {H : Heap} {locs : List Loc} {ls : Array Slot} {ce sl i : Nat} {D : va_G} {cA : Nat → ClassId} {AE : Nat → Prop} {adK adV sa : Nat → Nat} {U : Nat → Nat} {rg : Nat → Option Nat} {A : Nat → Nat} {o od b L : Nat} {xs : Nat → Int32} {x : Nat → Int32} {f : Nat → Nat → Int32} {g : Nat → Int64} {gd : Nat → UInt64} (hx : p.tables.exec = Jvm.exec) (hb : c0.code = cL_law) (hml : c0.maxLocals = 9) (hown : s.vm.findClass RL = some m.cls) (hts : ∀ w ∈ Cond.initialized RL :: gG, w.before args s = true) (hK : gK D cA s) (hE : gE AE adK adV sa s s.heap) (hN : gNc s) (hX : va_X b L xs s s.heap) (hbl : b < s.heap.size) (hL : L ≤ 1536) (hi : i + 3 ≤ L) (hA : aInj 189 U) (hM : mInj A) (hrg : uRg U rg) (hAE : ∀ q, s.heap.size ≤ q → AE q) (hUf : ∀ q, aS 189 U q → s.heap.size ≤ q ∧ ¬ MA A q ∧ q ≠ o ∧ q ≠ od) (hMf : ∀ q, MA A q → s.heap.size ≤ q ∧ q ≠ o ∧ q ≠ od) (hof : s.heap.size ≤ o ∧ s.heap.size ≤ od ∧ o ≠ od) (hce : ce + 9 ≤ room_1.cells) (hsl : sl + 60 ≤ room_1.slots) (hS : va_S (fun q => s.heap.size ≤ q) s.heap H locs) (hl : lv_has ls 9 [(5, .int (nI i)), (4, .ref (od)), (3, .ref (o)), (2, .ref (A 0)), (1, .ref (U 0)), (0, .ref (b))]) (hLS : LST D cA U rg x f H) (hP : va_P D vwCl (mw cA A x f) H) (hO : va_P D vwCl (oL cA o g) H) (hD : va_P D vwCl (oD cA od gd) H)  (KK : ∀ (x1 : Nat → Int32) (f1 : Nat → Nat → Int32) (g1 : Nat → Int64) (gd1 : Nat → UInt64) (H1 : Heap) (locs1 : List Loc) (ls1 : Array Slot), LST D cA U rg x1 f1 H1 → va_P D vwCl (mw cA A x1 f1) H1 → va_P D vwCl (oL cA o g1) H1 → va_P D vwCl (oD cA od gd1) H1 → va_S (fun q => s.heap.size ≤ q) s.heap H1 locs1 → lv_has ls1 9 [(5, .int (nI i)), (4, .ref (od)), (3, .ref (o)), (2, .ref (A 0)), (1, .ref (U 0)), (0, .ref (b))] → W p l e room_1 s m args below meth c0 H1 locs1 (ce + 1) (sl + 6) Q (F0 m 2162 ls1 [])) : W p l e room_1 s m args below meth c0 H locs ce sl Q (F0 m 1028 ls []) := by
  obtain ⟨c, z, rz, hd, ct, rs, dt, mf, mn, tc, tl, to, kd, fi, se, ta, nu, lc, ln, sv, er, R, hU⟩ := hLS
  have hFA : ∀ q, aS 189 U q → AE q := fun q h => hAE q (hUf q h).1
  have hUO : ∀ q, uO U o q → s.heap.size ≤ q := fun q h => h.elim (fun h => (hUf q h).1) (fun h => h ▸ hof.1)
  have hoU : ¬ aS 189 U o := fun h => (hUf o h).2.2.1 rfl
  have hbA : ¬ (fun q => s.heap.size ≤ q) b := fun h => absurd hbl (Nat.not_lt.mpr h)
  refine lv_aload_n hx hb dL_law_1028 rfl (lv_at hl 4 rfl) ?_
  refine lv_aload_n hx hb dL_law_1029 rfl (lv_at hl 5 rfl) ?_
  refine lv_iload hx hb dL_law_1030 (lv_at hl 0 rfl) ?_
  refine lv_iconst (v := nI 1) hx hb dL_law_1032 gc_1 ?_
  refine lv_iadd hx hb dL_law_1033 ?_
  rw [nI_add]
  refine va_sld (A := (fun q => s.heap.size ≤ q)) hx hb hX hbl hbA hS (lp_in (by omega) hL) dL_law_1034 ?_
  refine lv_aload_n hx hb dL_law_1035 rfl (lv_at hl 2 rfl) ?_
  refine wr_calli (vx_runSW (As := [.ref (U 0), .int (xs (nI (i + 1)).toNatClampNeg), .ref (o)]) (rest := []) ⟨hx, hb, hml, hown, hts⟩ (c_L_callable l hlt D cA AE adK adV sa U rg c z rz hd ct rs dt mf mn tc tl to kd fi se ta nu lc ln sv er (xs (nI (i + 1)).toNatClampNeg) o g hA hFA hoU (fun q h => hAE q (hUO q h)) R.I.ok) (vx_cwSW 3 hts (gWSL gm_28_14 gm_28_15 gm_6_2 gm_28_16) rfl rfl rfl (by decide +kernel) ⟨Nat.le_of_ble_eq_true rfl, Nat.le_of_ble_eq_true rfl⟩) (gPreSy hK hE hN hS hAE ⟨hU, hO⟩) rfl rfl hl.1 rfl (lv_room (Nat.le_of_ble_eq_true rfl)) dL_law_1036 ⟨by omega, by omega⟩) hS (fun q _ h => hUO q h) (fun q h => hUO q h) (fun r H1 locs1 hw9 hz9 hk9 hS => ?_)
  obtain ⟨k9, rr, g9, rfl, hk2, hg9, hO, C⟩ := hw9
  obtain ⟨e4, e1, hLS⟩ := op_callable R C
  have hP := vP_fr hP hk9 (mw_n (A1 := uO U o) hM (fun q h h2 => h2.elim (fun h2 => (hUf q h2).2.1 h) (fun h2 => (hMf q h).2.1 h2)))
  have hD := vP_fr hD hk9 (oD_n (A := uO U o) (fun h => h.elim (fun h => (hUf od h).2.2.2 rfl) (fun h => hof.2.2 h.symm)))
  refine lv_istore (lv' := [(6, .int (nI k9)), (5, .int (nI i)), (4, .ref (od)), (3, .ref (o)), (2, .ref (A 0)), (1, .ref (U 0)), (0, .ref (b))]) hx hb dL_law_1039 hl (by decide) rfl (fun ls hl => ?_)
  refine lv_aload_n hx hb dL_law_1041 rfl (lv_at hl 4 rfl) ?_
  refine lv_aload_n hx hb dL_law_1042 rfl (lv_at hl 6 rfl) ?_
  refine lv_iload hx hb dL_law_1043 (lv_at hl 1 rfl) ?_
  refine lv_iconst (v := nI 1) hx hb dL_law_1045 gc_1 ?_
  refine lv_iadd hx hb dL_law_1046 ?_
  rw [nI_add]
  refine va_sld (A := (fun q => s.heap.size ≤ q)) hx hb hX hbl hbA hS (lp_in (by omega) hL) dL_law_1047 ?_
  refine wr_calli (va_runV (As := [.int (xs (nI (i + 1)).toNatClampNeg)]) (rest := []) ⟨hx, hb, hml, hown, hts⟩ (c_X8_callable l D cA A x f (xs (nI (i + 1)).toNatClampNeg) (zjn c) (zcn c) hM R.G.g0 R.I.jn R.G.g1 R.I.cn) (cwV 1 hts (gWVL gm_29_3 gm_29_4 gm_29_5 gm_1_5 gm_29_6) rfl rfl rfl (by decide +kernel) ⟨Nat.le_of_ble_eq_true rfl, Nat.le_of_ble_eq_true rfl⟩) (gPreV hK (g_rf hK hP (ci := 10) (q0 := 0) rfl rfl) hP) rfl rfl hl.1 rfl (lv_room (Nat.le_of_ble_eq_true rfl)) dL_law_1048 ⟨by omega, by omega⟩) hS (fun q _ h => (hMf q h).1) (fun q h => (hMf q h).1) (fun r8 H2 locs2 hw8 hz8 hk8 hS => ?_)
  obtain ⟨h8, hP⟩ := hw8
  have hLS := hLS.kept hA hk8 (fun q h => (hUf q h).2.1)
  have hO := vP_fr hO hk8 (oL_n (fun h => (hMf o h).2.1 rfl))
  have hD := vP_fr hD hk8 (oD_n (fun h => (hMf od h).2.2 rfl))
  refine lv_istore (lv' := [(7, .int (r8)), (6, .int (nI k9)), (5, .int (nI i)), (4, .ref (od)), (3, .ref (o)), (2, .ref (A 0)), (1, .ref (U 0)), (0, .ref (b))]) hx hb dL_law_1051 hl (by decide) rfl (fun ls hl => ?_)
  refine lv_aload_n hx hb dL_law_1053 rfl (lv_at hl 5 rfl) ?_
  refine rd_calle (va_runV (As := []) (rest := []) ⟨hx, hb, hml, hown, hts⟩ (c_X8_thrown l D cA A _ _ k9 e4) (cwV 0 hts (gWVL gm_9_20 gm_9_21 gm_9_22 gm_1_5 gm_9_23) rfl rfl rfl (by decide +kernel) ⟨Nat.le_of_ble_eq_true rfl, Nat.le_of_ble_eq_true rfl⟩) (gPreV hK (g_rf hK hP (ci := 10) (q0 := 0) rfl rfl) hP) rfl rfl hl.1 rfl (lv_room (Nat.le_of_ble_eq_true rfl)) dL_law_1054 ⟨by omega, by omega⟩) ?_
  refine lv_iload hx hb dL_law_1057 (lv_at hl 1 rfl) ?_
  refine lv_icmp_eq (tgt := 1064) hx hb dL_law_1059 (by decide) (fun _ => ?_) (fun q => absurd rfl q)
  refine lv_iload hx hb dL_law_1064 (lv_at hl 1 rfl) ?_
  refine g_if_ne (P := k9 = 0) (tgt := 1081) hx hb dL_law_1066 (by decide) (nI_z (by omega)) (fun _ => ?_) (fun hz => ?_)
  · exact lv_goto (tgt := 2162) hx hb dL_law_1081 (by decide) (KK _ _ _ _ _ _ _ hLS hP hO hD hS (lv_sub hl [2, 3, 4, 5, 6, 7] rfl))
  · refine lv_aload_n hx hb dL_law_1069 rfl (lv_at hl 4 rfl) ?_
    refine lv_iconst (v := nI 0) hx hb dL_law_1070 gc_0 ?_
    refine va_lald hx hb hK.1 hO 0 3 rfl rfl (vp_in_iff.mpr (by decide +kernel)) dL_law_1071 ?_
    refine lv_iload hx hb dL_law_1072 (lv_at hl 0 rfl) ?_
    refine lv_i2l (v := r8.toInt64) hx hb dL_law_1074 rfl ?_
    refine W.lcmp hx hb dL_law_1075 ?_
    have h99 : g9 (nI 0).toNatClampNeg = r8.toInt64 := by rw [h8, e1 hz, show (nI 0).toNatClampNeg = 0 from nI_clamp (by decide)]; exact hg9 hz
    exact lv_if_eq (tgt := 1081) hx hb dL_law_1076 (by decide) (fun _ => lv_goto (tgt := 2162) hx hb dL_law_1081 (by decide) (KK _ _ _ _ _ _ _ hLS hP hO hD hS (lv_sub hl [2, 3, 4, 5, 6, 7] rfl))) (fun q => absurd (lg_same h99) q)

set_option maxHeartbeats 1000000 in
set_option maxRecDepth 100000 in
theorem lc_thoughts (l : Launch) (hlt : l.stackTraces = false) {p : Program} {e : Env} {s : State} {m : MethodId} {args : Array Value} {below : List Frame} {meth : Method} {c0 : Code} {Q : State → Prop} {H : Heap} {locs : List Loc} {ls : Array Slot} {ce sl i : Nat} {D : va_G} {cA : Nat → ClassId} {AE : Nat → Prop} {adK adV sa : Nat → Nat} {U : Nat → Nat} {rg : Nat → Option Nat} {A : Nat → Nat} {o od b L : Nat} {xs : Nat → Int32} {x : Nat → Int32} {f : Nat → Nat → Int32} {g : Nat → Int64} {gd : Nat → UInt64} (hx : p.tables.exec = Jvm.exec) (hb : c0.code = cL_law) (hml : c0.maxLocals = 9) (hown : s.vm.findClass RL = some m.cls) (hts : ∀ w ∈ Cond.initialized RL :: gG, w.before args s = true) (hK : gK D cA s) (hE : gE AE adK adV sa s s.heap) (hN : gNc s) (hX : va_X b L xs s s.heap) (hbl : b < s.heap.size) (hL : L ≤ 1536) (hi : i + 3 ≤ L) (hA : aInj 189 U) (hM : mInj A) (hrg : uRg U rg) (hAE : ∀ q, s.heap.size ≤ q → AE q) (hUf : ∀ q, aS 189 U q → s.heap.size ≤ q ∧ ¬ MA A q ∧ q ≠ o ∧ q ≠ od) (hMf : ∀ q, MA A q → s.heap.size ≤ q ∧ q ≠ o ∧ q ≠ od) (hof : s.heap.size ≤ o ∧ s.heap.size ≤ od ∧ o ≠ od) (hce : ce + 9 ≤ room_1.cells) (hsl : sl + 60 ≤ room_1.slots) (hS : va_S (fun q => s.heap.size ≤ q) s.heap H locs) (hl : lv_has ls 9 [(5, .int (nI i)), (4, .ref (od)), (3, .ref (o)), (2, .ref (A 0)), (1, .ref (U 0)), (0, .ref (b))]) (hLS : LST D cA U rg x f H) (hP : va_P D vwCl (mw cA A x f) H) (hO : va_P D vwCl (oL cA o g) H) (hD : va_P D vwCl (oD cA od gd) H)  (KK : ∀ (x1 : Nat → Int32) (f1 : Nat → Nat → Int32) (g1 : Nat → Int64) (gd1 : Nat → UInt64) (H1 : Heap) (locs1 : List Loc) (ls1 : Array Slot), LST D cA U rg x1 f1 H1 → va_P D vwCl (mw cA A x1 f1) H1 → va_P D vwCl (oL cA o g1) H1 → va_P D vwCl (oD cA od gd1) H1 → va_S (fun q => s.heap.size ≤ q) s.heap H1 locs1 → lv_has ls1 9 [(5, .int (nI i)), (4, .ref (od)), (3, .ref (o)), (2, .ref (A 0)), (1, .ref (U 0)), (0, .ref (b))] → W p l e room_1 s m args below meth c0 H1 locs1 (ce + 1) (sl + 6) Q (F0 m 2162 ls1 [])) : W p l e room_1 s m args below meth c0 H locs ce sl Q (F0 m 1084 ls []) := by
  obtain ⟨c, z, rz, hd, ct, rs, dt, mf, mn, tc, tl, to, kd, fi, se, ta, nu, lc, ln, sv, er, R, hU⟩ := hLS
  have hFA : ∀ q, aS 189 U q → AE q := fun q h => hAE q (hUf q h).1
  have hUO : ∀ q, uO U o q → s.heap.size ≤ q := fun q h => h.elim (fun h => (hUf q h).1) (fun h => h ▸ hof.1)
  have hoU : ¬ aS 189 U o := fun h => (hUf o h).2.2.1 rfl
  have hbA : ¬ (fun q => s.heap.size ≤ q) b := fun h => absurd hbl (Nat.not_lt.mpr h)
  refine lv_aload_n hx hb dL_law_1084 rfl (lv_at hl 4 rfl) ?_
  refine lv_aload_n hx hb dL_law_1085 rfl (lv_at hl 5 rfl) ?_
  refine lv_iload hx hb dL_law_1086 (lv_at hl 0 rfl) ?_
  refine lv_iconst (v := nI 1) hx hb dL_law_1088 gc_1 ?_
  refine lv_iadd hx hb dL_law_1089 ?_
  rw [nI_add]
  refine va_sld (A := (fun q => s.heap.size ≤ q)) hx hb hX hbl hbA hS (lp_in (by omega) hL) dL_law_1090 ?_
  refine lv_aload_n hx hb dL_law_1091 rfl (lv_at hl 2 rfl) ?_
  refine wr_calli (vx_runSW (As := [.ref (U 0), .int (xs (nI (i + 1)).toNatClampNeg), .ref (o)]) (rest := []) ⟨hx, hb, hml, hown, hts⟩ (c_L_thoughts l hlt D cA AE adK adV sa U rg c z rz hd ct rs dt mf mn tc tl to kd fi se ta nu lc ln sv er (xs (nI (i + 1)).toNatClampNeg) o g hA hFA hoU (fun q h => hAE q (hUO q h)) R.I.ok) (vx_cwSW 3 hts (gWSL gm_29_7 gm_29_8 gm_6_2 gm_29_9) rfl rfl rfl (by decide +kernel) ⟨Nat.le_of_ble_eq_true rfl, Nat.le_of_ble_eq_true rfl⟩) (gPreSy hK hE hN hS hAE ⟨hU, hO⟩) rfl rfl hl.1 rfl (lv_room (Nat.le_of_ble_eq_true rfl)) dL_law_1092 ⟨by omega, by omega⟩) hS (fun q _ h => hUO q h) (fun q h => hUO q h) (fun r H1 locs1 hw9 hz9 hk9 hS => ?_)
  obtain ⟨k9, rr, g9, rfl, hk2, hg9, hO, C⟩ := hw9
  obtain ⟨e4, e1, hLS⟩ := op_thoughts R C
  have hP := vP_fr hP hk9 (mw_n (A1 := uO U o) hM (fun q h h2 => h2.elim (fun h2 => (hUf q h2).2.1 h) (fun h2 => (hMf q h).2.1 h2)))
  have hD := vP_fr hD hk9 (oD_n (A := uO U o) (fun h => h.elim (fun h => (hUf od h).2.2.2 rfl) (fun h => hof.2.2 h.symm)))
  refine lv_istore (lv' := [(6, .int (nI k9)), (5, .int (nI i)), (4, .ref (od)), (3, .ref (o)), (2, .ref (A 0)), (1, .ref (U 0)), (0, .ref (b))]) hx hb dL_law_1095 hl (by decide) rfl (fun ls hl => ?_)
  refine lv_aload_n hx hb dL_law_1097 rfl (lv_at hl 4 rfl) ?_
  refine lv_aload_n hx hb dL_law_1098 rfl (lv_at hl 6 rfl) ?_
  refine lv_iload hx hb dL_law_1099 (lv_at hl 1 rfl) ?_
  refine lv_iconst (v := nI 1) hx hb dL_law_1101 gc_1 ?_
  refine lv_iadd hx hb dL_law_1102 ?_
  rw [nI_add]
  refine va_sld (A := (fun q => s.heap.size ≤ q)) hx hb hX hbl hbA hS (lp_in (by omega) hL) dL_law_1103 ?_
  refine wr_calli (va_runV (As := [.int (xs (nI (i + 1)).toNatClampNeg)]) (rest := []) ⟨hx, hb, hml, hown, hts⟩ (c_X8_thoughts l D cA A x f (xs (nI (i + 1)).toNatClampNeg) (zjn c) (zcn c) hM R.G.g0 R.I.jn R.G.g1 R.I.cn) (cwV 1 hts (gWVL gm_29_22 gm_29_23 gm_30_0 gm_1_5 gm_30_1) rfl rfl rfl (by decide +kernel) ⟨Nat.le_of_ble_eq_true rfl, Nat.le_of_ble_eq_true rfl⟩) (gPreV hK (g_rf hK hP (ci := 10) (q0 := 0) rfl rfl) hP) rfl rfl hl.1 rfl (lv_room (Nat.le_of_ble_eq_true rfl)) dL_law_1104 ⟨by omega, by omega⟩) hS (fun q _ h => (hMf q h).1) (fun q h => (hMf q h).1) (fun r8 H2 locs2 hw8 hz8 hk8 hS => ?_)
  rw [thM_f] at hLS
  obtain ⟨h8, l9, d9, hP⟩ := hw8
  have hLS := (hLS.kept hA hk8 (fun q h => (hUf q h).2.1)).m67 (l9 := l9) (d9 := d9)
  have hO := vP_fr hO hk8 (oL_n (fun h => (hMf o h).2.1 rfl))
  have hD := vP_fr hD hk8 (oD_n (fun h => (hMf od h).2.2 rfl))
  refine lv_istore (lv' := [(7, .int (r8)), (6, .int (nI k9)), (5, .int (nI i)), (4, .ref (od)), (3, .ref (o)), (2, .ref (A 0)), (1, .ref (U 0)), (0, .ref (b))]) hx hb dL_law_1107 hl (by decide) rfl (fun ls hl => ?_)
  refine lv_aload_n hx hb dL_law_1109 rfl (lv_at hl 5 rfl) ?_
  refine rd_calle (va_runV (As := []) (rest := []) ⟨hx, hb, hml, hown, hts⟩ (c_X8_thrown l D cA A _ _ k9 e4) (cwV 0 hts (gWVL gm_9_20 gm_9_21 gm_9_22 gm_1_5 gm_9_23) rfl rfl rfl (by decide +kernel) ⟨Nat.le_of_ble_eq_true rfl, Nat.le_of_ble_eq_true rfl⟩) (gPreV hK (g_rf hK hP (ci := 10) (q0 := 0) rfl rfl) hP) rfl rfl hl.1 rfl (lv_room (Nat.le_of_ble_eq_true rfl)) dL_law_1110 ⟨by omega, by omega⟩) ?_
  refine lv_iload hx hb dL_law_1113 (lv_at hl 1 rfl) ?_
  refine lv_icmp_eq (tgt := 1120) hx hb dL_law_1115 (by decide) (fun _ => ?_) (fun q => absurd rfl q)
  refine lv_iload hx hb dL_law_1120 (lv_at hl 1 rfl) ?_
  refine g_if_ne (P := k9 = 0) (tgt := 1137) hx hb dL_law_1122 (by decide) (nI_z (by omega)) (fun _ => ?_) (fun hz => ?_)
  · exact lv_goto (tgt := 2162) hx hb dL_law_1137 (by decide) (KK _ _ _ _ _ _ _ hLS hP hO hD hS (lv_sub hl [2, 3, 4, 5, 6, 7] rfl))
  · refine lv_aload_n hx hb dL_law_1125 rfl (lv_at hl 4 rfl) ?_
    refine lv_iconst (v := nI 0) hx hb dL_law_1126 gc_0 ?_
    refine va_lald hx hb hK.1 hO 0 3 rfl rfl (vp_in_iff.mpr (by decide +kernel)) dL_law_1127 ?_
    refine lv_iload hx hb dL_law_1128 (lv_at hl 0 rfl) ?_
    refine lv_i2l (v := r8.toInt64) hx hb dL_law_1130 rfl ?_
    refine W.lcmp hx hb dL_law_1131 ?_
    have h99 : g9 (nI 0).toNatClampNeg = r8.toInt64 := by rw [h8, e1 hz, show (nI 0).toNatClampNeg = 0 from nI_clamp (by decide)]; exact hg9 hz
    exact lv_if_eq (tgt := 1137) hx hb dL_law_1132 (by decide) (fun _ => lv_goto (tgt := 2162) hx hb dL_law_1137 (by decide) (KK _ _ _ _ _ _ _ hLS hP hO hD hS (lv_sub hl [2, 3, 4, 5, 6, 7] rfl))) (fun q => absurd (lg_same h99) q)

set_option maxHeartbeats 1000000 in
set_option maxRecDepth 100000 in
theorem lc_isOn (l : Launch) (hlt : l.stackTraces = false) {p : Program} {e : Env} {s : State} {m : MethodId} {args : Array Value} {below : List Frame} {meth : Method} {c0 : Code} {Q : State → Prop} {H : Heap} {locs : List Loc} {ls : Array Slot} {ce sl i : Nat} {D : va_G} {cA : Nat → ClassId} {AE : Nat → Prop} {adK adV sa : Nat → Nat} {U : Nat → Nat} {rg : Nat → Option Nat} {A : Nat → Nat} {o od b L : Nat} {xs : Nat → Int32} {x : Nat → Int32} {f : Nat → Nat → Int32} {g : Nat → Int64} {gd : Nat → UInt64} (hx : p.tables.exec = Jvm.exec) (hb : c0.code = cL_law) (hml : c0.maxLocals = 9) (hown : s.vm.findClass RL = some m.cls) (hts : ∀ w ∈ Cond.initialized RL :: gG, w.before args s = true) (hK : gK D cA s) (hE : gE AE adK adV sa s s.heap) (hN : gNc s) (hX : va_X b L xs s s.heap) (hbl : b < s.heap.size) (hL : L ≤ 1536) (hi : i + 3 ≤ L) (hA : aInj 189 U) (hM : mInj A) (hrg : uRg U rg) (hAE : ∀ q, s.heap.size ≤ q → AE q) (hUf : ∀ q, aS 189 U q → s.heap.size ≤ q ∧ ¬ MA A q ∧ q ≠ o ∧ q ≠ od) (hMf : ∀ q, MA A q → s.heap.size ≤ q ∧ q ≠ o ∧ q ≠ od) (hof : s.heap.size ≤ o ∧ s.heap.size ≤ od ∧ o ≠ od) (hce : ce + 9 ≤ room_1.cells) (hsl : sl + 60 ≤ room_1.slots) (hS : va_S (fun q => s.heap.size ≤ q) s.heap H locs) (hl : lv_has ls 9 [(5, .int (nI i)), (4, .ref (od)), (3, .ref (o)), (2, .ref (A 0)), (1, .ref (U 0)), (0, .ref (b))]) (hLS : LST D cA U rg x f H) (hP : va_P D vwCl (mw cA A x f) H) (hO : va_P D vwCl (oL cA o g) H) (hD : va_P D vwCl (oD cA od gd) H)  (KK : ∀ (x1 : Nat → Int32) (f1 : Nat → Nat → Int32) (g1 : Nat → Int64) (gd1 : Nat → UInt64) (H1 : Heap) (locs1 : List Loc) (ls1 : Array Slot), LST D cA U rg x1 f1 H1 → va_P D vwCl (mw cA A x1 f1) H1 → va_P D vwCl (oL cA o g1) H1 → va_P D vwCl (oD cA od gd1) H1 → va_S (fun q => s.heap.size ≤ q) s.heap H1 locs1 → lv_has ls1 9 [(5, .int (nI i)), (4, .ref (od)), (3, .ref (o)), (2, .ref (A 0)), (1, .ref (U 0)), (0, .ref (b))] → W p l e room_1 s m args below meth c0 H1 locs1 (ce + 1) (sl + 6) Q (F0 m 2162 ls1 [])) : W p l e room_1 s m args below meth c0 H locs ce sl Q (F0 m 1140 ls []) := by
  obtain ⟨c, z, rz, hd, ct, rs, dt, mf, mn, tc, tl, to, kd, fi, se, ta, nu, lc, ln, sv, er, R, hU⟩ := hLS
  have hFA : ∀ q, aS 189 U q → AE q := fun q h => hAE q (hUf q h).1
  have hUO : ∀ q, uO U o q → s.heap.size ≤ q := fun q h => h.elim (fun h => (hUf q h).1) (fun h => h ▸ hof.1)
  have hoU : ¬ aS 189 U o := fun h => (hUf o h).2.2.1 rfl
  have hbA : ¬ (fun q => s.heap.size ≤ q) b := fun h => absurd hbl (Nat.not_lt.mpr h)
  refine lv_aload_n hx hb dL_law_1140 rfl (lv_at hl 4 rfl) ?_
  refine lv_aload_n hx hb dL_law_1141 rfl (lv_at hl 5 rfl) ?_
  refine lv_iload hx hb dL_law_1142 (lv_at hl 0 rfl) ?_
  refine lv_iconst (v := nI 1) hx hb dL_law_1144 gc_1 ?_
  refine lv_iadd hx hb dL_law_1145 ?_
  rw [nI_add]
  refine va_sld (A := (fun q => s.heap.size ≤ q)) hx hb hX hbl hbA hS (lp_in (by omega) hL) dL_law_1146 ?_
  refine lv_aload_n hx hb dL_law_1147 rfl (lv_at hl 5 rfl) ?_
  refine lv_iload hx hb dL_law_1148 (lv_at hl 0 rfl) ?_
  refine lv_iconst (v := nI 2) hx hb dL_law_1150 gc_2 ?_
  refine lv_iadd hx hb dL_law_1151 ?_
  rw [nI_add]
  refine va_sld (A := (fun q => s.heap.size ≤ q)) hx hb hX hbl hbA hS (lp_in (by omega) hL) dL_law_1152 ?_
  refine lv_aload_n hx hb dL_law_1153 rfl (lv_at hl 2 rfl) ?_
  refine wr_calli (vx_runSW (As := [.ref (U 0), .int (xs (nI (i + 1)).toNatClampNeg), .int (xs (nI (i + 2)).toNatClampNeg), .ref (o)]) (rest := []) ⟨hx, hb, hml, hown, hts⟩ (c_L_isOn l hlt D cA AE adK adV sa U rg c z rz hd ct rs dt mf mn tc tl to kd fi se ta nu lc ln sv er (xs (nI (i + 1)).toNatClampNeg) (xs (nI (i + 2)).toNatClampNeg) o g hA hFA hoU (fun q h => hAE q (hUO q h)) R.I.ok) (vx_cwSW 4 hts (gWSL gm_30_2 gm_30_3 gm_6_2 gm_30_4) rfl rfl rfl (by decide +kernel) ⟨Nat.le_of_ble_eq_true rfl, Nat.le_of_ble_eq_true rfl⟩) (gPreSy hK hE hN hS hAE ⟨hU, hO⟩) rfl rfl hl.1 rfl (lv_room (Nat.le_of_ble_eq_true rfl)) dL_law_1154 ⟨by omega, by omega⟩) hS (fun q _ h => hUO q h) (fun q h => hUO q h) (fun r H1 locs1 hw9 hz9 hk9 hS => ?_)
  obtain ⟨k9, rr, g9, rfl, hk2, hg9, hO, C⟩ := hw9
  have h01 : k9 = 0 → rr = nI 0 ∨ rr = nI 1 := fun hz => by
    rcases C with ⟨_, j, q, _, _, _, _, e, _⟩ | ⟨h, _⟩
    · rw [e]; unfold b2i; split; exact Or.inr rfl; exact Or.inl rfl
    · exact absurd (hz.symm.trans h) (by decide)
  obtain ⟨e4, e1, hLS⟩ := op_isOn R C
  have hP := vP_fr hP hk9 (mw_n (A1 := uO U o) hM (fun q h h2 => h2.elim (fun h2 => (hUf q h2).2.1 h) (fun h2 => (hMf q h).2.1 h2)))
  have hD := vP_fr hD hk9 (oD_n (A := uO U o) (fun h => h.elim (fun h => (hUf od h).2.2.2 rfl) (fun h => hof.2.2 h.symm)))
  refine lv_istore (lv' := [(6, .int (nI k9)), (5, .int (nI i)), (4, .ref (od)), (3, .ref (o)), (2, .ref (A 0)), (1, .ref (U 0)), (0, .ref (b))]) hx hb dL_law_1157 hl (by decide) rfl (fun ls hl => ?_)
  refine lv_aload_n hx hb dL_law_1159 rfl (lv_at hl 4 rfl) ?_
  refine lv_aload_n hx hb dL_law_1160 rfl (lv_at hl 6 rfl) ?_
  refine lv_iload hx hb dL_law_1161 (lv_at hl 1 rfl) ?_
  refine lv_iconst (v := nI 1) hx hb dL_law_1163 gc_1 ?_
  refine lv_iadd hx hb dL_law_1164 ?_
  rw [nI_add]
  refine va_sld (A := (fun q => s.heap.size ≤ q)) hx hb hX hbl hbA hS (lp_in (by omega) hL) dL_law_1165 ?_
  refine lv_aload_n hx hb dL_law_1166 rfl (lv_at hl 6 rfl) ?_
  refine lv_iload hx hb dL_law_1167 (lv_at hl 1 rfl) ?_
  refine lv_iconst (v := nI 2) hx hb dL_law_1169 gc_2 ?_
  refine lv_iadd hx hb dL_law_1170 ?_
  rw [nI_add]
  refine va_sld (A := (fun q => s.heap.size ≤ q)) hx hb hX hbl hbA hS (lp_in (by omega) hL) dL_law_1171 ?_
  refine wr_calli (va_runV (As := [.int (xs (nI (i + 1)).toNatClampNeg), .int (xs (nI (i + 2)).toNatClampNeg)]) (rest := []) ⟨hx, hb, hml, hown, hts⟩ (c_X8_isOn l D cA A x f (xs (nI (i + 1)).toNatClampNeg) (xs (nI (i + 2)).toNatClampNeg) (zjn c) (zcn c) hM R.G.g0 R.I.jn R.G.g1 R.I.cn) (cwV 2 hts (gWVL gm_30_10 gm_30_11 gm_30_12 gm_1_5 gm_30_13) rfl rfl rfl (by decide +kernel) ⟨Nat.le_of_ble_eq_true rfl, Nat.le_of_ble_eq_true rfl⟩) (gPreV hK (g_rf hK hP (ci := 10) (q0 := 0) rfl rfl) hP) rfl rfl hl.1 rfl (lv_room (Nat.le_of_ble_eq_true rfl)) dL_law_1172 ⟨by omega, by omega⟩) hS (fun q _ h => (hMf q h).1) (fun q h => (hMf q h).1) (fun r8 H2 locs2 hw8 hz8 hk8 hS => ?_)
  obtain ⟨h8, hP⟩ := hw8
  have hLS := hLS.kept hA hk8 (fun q h => (hUf q h).2.1)
  have hO := vP_fr hO hk8 (oL_n (fun h => (hMf o h).2.1 rfl))
  have hD := vP_fr hD hk8 (oD_n (fun h => (hMf od h).2.2 rfl))
  refine lv_istore (lv' := [(7, .int (r8)), (6, .int (nI k9)), (5, .int (nI i)), (4, .ref (od)), (3, .ref (o)), (2, .ref (A 0)), (1, .ref (U 0)), (0, .ref (b))]) hx hb dL_law_1175 hl (by decide) rfl (fun ls hl => ?_)
  refine lv_aload_n hx hb dL_law_1177 rfl (lv_at hl 5 rfl) ?_
  refine rd_calle (va_runV (As := []) (rest := []) ⟨hx, hb, hml, hown, hts⟩ (c_X8_thrown l D cA A _ _ k9 e4) (cwV 0 hts (gWVL gm_9_20 gm_9_21 gm_9_22 gm_1_5 gm_9_23) rfl rfl rfl (by decide +kernel) ⟨Nat.le_of_ble_eq_true rfl, Nat.le_of_ble_eq_true rfl⟩) (gPreV hK (g_rf hK hP (ci := 10) (q0 := 0) rfl rfl) hP) rfl rfl hl.1 rfl (lv_room (Nat.le_of_ble_eq_true rfl)) dL_law_1178 ⟨by omega, by omega⟩) ?_
  refine lv_iload hx hb dL_law_1181 (lv_at hl 1 rfl) ?_
  refine lv_icmp_eq (tgt := 1188) hx hb dL_law_1183 (by decide) (fun _ => ?_) (fun q => absurd rfl q)
  refine lv_iload hx hb dL_law_1188 (lv_at hl 1 rfl) ?_
  refine g_if_ne (P := k9 = 0) (tgt := 1212) hx hb dL_law_1190 (by decide) (nI_z (by omega)) (fun _ => ?_) (fun hz => ?_)
  · exact lv_goto (tgt := 2162) hx hb dL_law_1212 (by decide) (KK _ _ _ _ _ _ _ hLS hP hO hD hS (lv_sub hl [2, 3, 4, 5, 6, 7] rfl))
  · refine lv_aload_n hx hb dL_law_1193 rfl (lv_at hl 4 rfl) ?_
    refine lv_iconst (v := nI 0) hx hb dL_law_1194 gc_0 ?_
    refine va_lald hx hb hK.1 hO 0 3 rfl rfl (vp_in_iff.mpr (by decide +kernel)) dL_law_1195 ?_
    refine lv_iload hx hb dL_law_1196 (lv_at hl 0 rfl) ?_
    have h99 : g9 (nI 0).toNatClampNeg = r8.toInt64 := by rw [h8, e1 hz, show (nI 0).toNatClampNeg = 0 from nI_clamp (by decide)]; exact hg9 hz
    have h98 : r8 = nI 0 ∨ r8 = nI 1 := by rw [h8, e1 hz]; exact h01 hz
    refine lv_if_eq (tgt := 1205) hx hb dL_law_1198 (by decide) (fun q => ?_) (fun q => ?_)
    · refine lv_lconst (v := 0) hx hb dL_law_1205 rfl ?_
      refine W.lcmp hx hb dL_law_1206 ?_
      exact lv_if_eq (tgt := 1212) hx hb dL_law_1207 (by decide) (fun _ => lv_goto (tgt := 2162) hx hb dL_law_1212 (by decide) (KK _ _ _ _ _ _ _ hLS hP hO hD hS (lv_sub hl [2, 3, 4, 5, 6, 7] rfl))) (fun q9 => absurd (lg_same (h99.trans (by rw [q]; rfl))) q9)
    · refine lv_lconst (v := 1) hx hb dL_law_1201 rfl ?_
      refine lv_goto (tgt := 1206) hx hb dL_law_1202 (by decide) ?_
      refine W.lcmp hx hb dL_law_1206 ?_
      exact lv_if_eq (tgt := 1212) hx hb dL_law_1207 (by decide) (fun _ => lv_goto (tgt := 2162) hx hb dL_law_1212 (by decide) (KK _ _ _ _ _ _ _ hLS hP hO hD hS (lv_sub hl [2, 3, 4, 5, 6, 7] rfl))) (fun q9 => absurd (lg_same (h99.trans (by rcases h98 with h | h; exact absurd (h.trans nI_0) q; rw [h]; decide +kernel))) q9)

set_option maxHeartbeats 1000000 in
set_option maxRecDepth 100000 in
theorem lc_roll (l : Launch) (hlt : l.stackTraces = false) {p : Program} {e : Env} {s : State} {m : MethodId} {args : Array Value} {below : List Frame} {meth : Method} {c0 : Code} {Q : State → Prop} {H : Heap} {locs : List Loc} {ls : Array Slot} {ce sl i : Nat} {D : va_G} {cA : Nat → ClassId} {AE : Nat → Prop} {adK adV sa : Nat → Nat} {U : Nat → Nat} {rg : Nat → Option Nat} {A : Nat → Nat} {o od b L : Nat} {xs : Nat → Int32} {x : Nat → Int32} {f : Nat → Nat → Int32} {g : Nat → Int64} {gd : Nat → UInt64} (hx : p.tables.exec = Jvm.exec) (hb : c0.code = cL_law) (hml : c0.maxLocals = 9) (hown : s.vm.findClass RL = some m.cls) (hts : ∀ w ∈ Cond.initialized RL :: gG, w.before args s = true) (hK : gK D cA s) (hE : gE AE adK adV sa s s.heap) (hN : gNc s) (hX : va_X b L xs s s.heap) (hbl : b < s.heap.size) (hL : L ≤ 1536) (hi : i + 3 ≤ L) (hA : aInj 189 U) (hM : mInj A) (hrg : uRg U rg) (hAE : ∀ q, s.heap.size ≤ q → AE q) (hUf : ∀ q, aS 189 U q → s.heap.size ≤ q ∧ ¬ MA A q ∧ q ≠ o ∧ q ≠ od) (hMf : ∀ q, MA A q → s.heap.size ≤ q ∧ q ≠ o ∧ q ≠ od) (hof : s.heap.size ≤ o ∧ s.heap.size ≤ od ∧ o ≠ od) (hce : ce + 9 ≤ room_1.cells) (hsl : sl + 60 ≤ room_1.slots) (hS : va_S (fun q => s.heap.size ≤ q) s.heap H locs) (hl : lv_has ls 9 [(5, .int (nI i)), (4, .ref (od)), (3, .ref (o)), (2, .ref (A 0)), (1, .ref (U 0)), (0, .ref (b))]) (hLS : LST D cA U rg x f H) (hP : va_P D vwCl (mw cA A x f) H) (hO : va_P D vwCl (oL cA o g) H) (hD : va_P D vwCl (oD cA od gd) H)  (KK : ∀ (x1 : Nat → Int32) (f1 : Nat → Nat → Int32) (g1 : Nat → Int64) (gd1 : Nat → UInt64) (H1 : Heap) (locs1 : List Loc) (ls1 : Array Slot), LST D cA U rg x1 f1 H1 → va_P D vwCl (mw cA A x1 f1) H1 → va_P D vwCl (oL cA o g1) H1 → va_P D vwCl (oD cA od gd1) H1 → va_S (fun q => s.heap.size ≤ q) s.heap H1 locs1 → lv_has ls1 9 [(5, .int (nI i)), (4, .ref (od)), (3, .ref (o)), (2, .ref (A 0)), (1, .ref (U 0)), (0, .ref (b))] → W p l e room_1 s m args below meth c0 H1 locs1 (ce + 1) (sl + 6) Q (F0 m 2162 ls1 [])) : W p l e room_1 s m args below meth c0 H locs ce sl Q (F0 m 1215 ls []) := by
  obtain ⟨c, z, rz, hd, ct, rs, dt, mf, mn, tc, tl, to, kd, fi, se, ta, nu, lc, ln, sv, er, R, hU⟩ := hLS
  have hFA : ∀ q, aS 189 U q → AE q := fun q h => hAE q (hUf q h).1
  have hUO : ∀ q, uO U o q → s.heap.size ≤ q := fun q h => h.elim (fun h => (hUf q h).1) (fun h => h ▸ hof.1)
  have hoU : ¬ aS 189 U o := fun h => (hUf o h).2.2.1 rfl
  have hbA : ¬ (fun q => s.heap.size ≤ q) b := fun h => absurd hbl (Nat.not_lt.mpr h)
  refine lv_aload_n hx hb dL_law_1215 rfl (lv_at hl 4 rfl) ?_
  refine lv_aload_n hx hb dL_law_1216 rfl (lv_at hl 5 rfl) ?_
  refine lv_iload hx hb dL_law_1217 (lv_at hl 0 rfl) ?_
  refine lv_iconst (v := nI 1) hx hb dL_law_1219 gc_1 ?_
  refine lv_iadd hx hb dL_law_1220 ?_
  rw [nI_add]
  refine va_sld (A := (fun q => s.heap.size ≤ q)) hx hb hX hbl hbA hS (lp_in (by omega) hL) dL_law_1221 ?_
  refine lv_aload_n hx hb dL_law_1222 rfl (lv_at hl 5 rfl) ?_
  refine lv_iload hx hb dL_law_1223 (lv_at hl 0 rfl) ?_
  refine lv_iconst (v := nI 2) hx hb dL_law_1225 gc_2 ?_
  refine lv_iadd hx hb dL_law_1226 ?_
  rw [nI_add]
  refine va_sld (A := (fun q => s.heap.size ≤ q)) hx hb hX hbl hbA hS (lp_in (by omega) hL) dL_law_1227 ?_
  refine lp_bool hx hb dL_law_1228 dL_law_1231 dL_law_1232 dL_law_1235 ?_
  refine lv_aload_n hx hb dL_law_1236 rfl (lv_at hl 2 rfl) ?_
  refine wr_calli (vx_runSW (As := [.ref (U 0), .int (xs (nI (i + 1)).toNatClampNeg), .int (b2i (lpB (xs (nI (i + 2)).toNatClampNeg))), .ref (o)]) (rest := []) ⟨hx, hb, hml, hown, hts⟩ (c_L_roll l hlt D cA AE adK adV sa U rg c z rz hd ct rs dt mf mn tc tl to kd fi se ta nu lc ln sv er (xs (nI (i + 1)).toNatClampNeg) ((lpB (xs (nI (i + 2)).toNatClampNeg))) o g hA hFA hoU (fun q h => hAE q (hUO q h)) R.I.ok) (vx_cwSW 4 hts (gWSL gm_30_14 gm_30_15 gm_6_2 gm_30_16) rfl rfl rfl (by decide +kernel) ⟨Nat.le_of_ble_eq_true rfl, Nat.le_of_ble_eq_true rfl⟩) (gPreSy hK hE hN hS hAE ⟨hU, hO⟩) rfl rfl hl.1 rfl (lv_room (Nat.le_of_ble_eq_true rfl)) dL_law_1237 ⟨by omega, by omega⟩) hS (fun q _ h => hUO q h) (fun q h => hUO q h) (fun r H1 locs1 hw9 hz9 hk9 hS => ?_)
  obtain ⟨k9, rr, g9, rfl, hk2, hg9, hO, C⟩ := hw9
  obtain ⟨e4, e1, hLS⟩ := op_roll R C
  have hP := vP_fr hP hk9 (mw_n (A1 := uO U o) hM (fun q h h2 => h2.elim (fun h2 => (hUf q h2).2.1 h) (fun h2 => (hMf q h).2.1 h2)))
  have hD := vP_fr hD hk9 (oD_n (A := uO U o) (fun h => h.elim (fun h => (hUf od h).2.2.2 rfl) (fun h => hof.2.2 h.symm)))
  refine lv_istore (lv' := [(6, .int (nI k9)), (5, .int (nI i)), (4, .ref (od)), (3, .ref (o)), (2, .ref (A 0)), (1, .ref (U 0)), (0, .ref (b))]) hx hb dL_law_1240 hl (by decide) rfl (fun ls hl => ?_)
  refine lv_aload_n hx hb dL_law_1242 rfl (lv_at hl 4 rfl) ?_
  refine lv_aload_n hx hb dL_law_1243 rfl (lv_at hl 6 rfl) ?_
  refine lv_iload hx hb dL_law_1244 (lv_at hl 1 rfl) ?_
  refine lv_iconst (v := nI 1) hx hb dL_law_1246 gc_1 ?_
  refine lv_iadd hx hb dL_law_1247 ?_
  rw [nI_add]
  refine va_sld (A := (fun q => s.heap.size ≤ q)) hx hb hX hbl hbA hS (lp_in (by omega) hL) dL_law_1248 ?_
  refine lv_aload_n hx hb dL_law_1249 rfl (lv_at hl 6 rfl) ?_
  refine lv_iload hx hb dL_law_1250 (lv_at hl 1 rfl) ?_
  refine lv_iconst (v := nI 2) hx hb dL_law_1252 gc_2 ?_
  refine lv_iadd hx hb dL_law_1253 ?_
  rw [nI_add]
  refine va_sld (A := (fun q => s.heap.size ≤ q)) hx hb hX hbl hbA hS (lp_in (by omega) hL) dL_law_1254 ?_
  refine lp_bool hx hb dL_law_1255 dL_law_1258 dL_law_1259 dL_law_1262 ?_
  refine wr_calli (va_runV (As := [.int (xs (nI (i + 1)).toNatClampNeg), .int (b2i (lpB (xs (nI (i + 2)).toNatClampNeg)))]) (rest := []) ⟨hx, hb, hml, hown, hts⟩ (c_X8_roll l D cA A x f (xs (nI (i + 1)).toNatClampNeg) ((lpB (xs (nI (i + 2)).toNatClampNeg))) (zcn c) hM R.G.g1 R.I.cn) (cwV 2 hts (gWVL gm_31_15 gm_31_16 gm_31_17 gm_1_5 gm_31_18) rfl rfl rfl (by decide +kernel) ⟨Nat.le_of_ble_eq_true rfl, Nat.le_of_ble_eq_true rfl⟩) (gPreV hK (g_rf hK hP (ci := 10) (q0 := 0) rfl rfl) hP) rfl rfl hl.1 rfl (lv_room (Nat.le_of_ble_eq_true rfl)) dL_law_1263 ⟨by omega, by omega⟩) hS (fun q _ h => (hMf q h).1) (fun q h => (hMf q h).1) (fun r8 H2 locs2 hw8 hz8 hk8 hS => ?_)
  obtain ⟨h8, hP⟩ := hw8
  have hLS := hLS.kept hA hk8 (fun q h => (hUf q h).2.1)
  have hO := vP_fr hO hk8 (oL_n (fun h => (hMf o h).2.1 rfl))
  have hD := vP_fr hD hk8 (oD_n (fun h => (hMf od h).2.2 rfl))
  refine lv_istore (lv' := [(7, .int (r8)), (6, .int (nI k9)), (5, .int (nI i)), (4, .ref (od)), (3, .ref (o)), (2, .ref (A 0)), (1, .ref (U 0)), (0, .ref (b))]) hx hb dL_law_1266 hl (by decide) rfl (fun ls hl => ?_)
  refine lv_aload_n hx hb dL_law_1268 rfl (lv_at hl 5 rfl) ?_
  refine rd_calle (va_runV (As := []) (rest := []) ⟨hx, hb, hml, hown, hts⟩ (c_X8_thrown l D cA A _ _ k9 e4) (cwV 0 hts (gWVL gm_9_20 gm_9_21 gm_9_22 gm_1_5 gm_9_23) rfl rfl rfl (by decide +kernel) ⟨Nat.le_of_ble_eq_true rfl, Nat.le_of_ble_eq_true rfl⟩) (gPreV hK (g_rf hK hP (ci := 10) (q0 := 0) rfl rfl) hP) rfl rfl hl.1 rfl (lv_room (Nat.le_of_ble_eq_true rfl)) dL_law_1269 ⟨by omega, by omega⟩) ?_
  refine lv_iload hx hb dL_law_1272 (lv_at hl 1 rfl) ?_
  refine lv_icmp_eq (tgt := 1279) hx hb dL_law_1274 (by decide) (fun _ => ?_) (fun q => absurd rfl q)
  refine lv_iload hx hb dL_law_1279 (lv_at hl 1 rfl) ?_
  refine g_if_ne (P := k9 = 0) (tgt := 1296) hx hb dL_law_1281 (by decide) (nI_z (by omega)) (fun _ => ?_) (fun hz => ?_)
  · exact lv_goto (tgt := 2162) hx hb dL_law_1296 (by decide) (KK _ _ _ _ _ _ _ hLS hP hO hD hS (lv_sub hl [2, 3, 4, 5, 6, 7] rfl))
  · refine lv_aload_n hx hb dL_law_1284 rfl (lv_at hl 4 rfl) ?_
    refine lv_iconst (v := nI 0) hx hb dL_law_1285 gc_0 ?_
    refine va_lald hx hb hK.1 hO 0 3 rfl rfl (vp_in_iff.mpr (by decide +kernel)) dL_law_1286 ?_
    refine lv_iload hx hb dL_law_1287 (lv_at hl 0 rfl) ?_
    refine lv_i2l (v := r8.toInt64) hx hb dL_law_1289 rfl ?_
    refine W.lcmp hx hb dL_law_1290 ?_
    have h99 : g9 (nI 0).toNatClampNeg = r8.toInt64 := by rw [h8, e1 hz, show (nI 0).toNatClampNeg = 0 from nI_clamp (by decide)]; exact hg9 hz
    exact lv_if_eq (tgt := 1296) hx hb dL_law_1291 (by decide) (fun _ => lv_goto (tgt := 2162) hx hb dL_law_1296 (by decide) (KK _ _ _ _ _ _ _ hLS hP hO hD hS (lv_sub hl [2, 3, 4, 5, 6, 7] rfl))) (fun q => absurd (lg_same h99) q)

set_option maxHeartbeats 1000000 in
set_option maxRecDepth 100000 in
theorem lc_rolled (l : Launch) (hlt : l.stackTraces = false) {p : Program} {e : Env} {s : State} {m : MethodId} {args : Array Value} {below : List Frame} {meth : Method} {c0 : Code} {Q : State → Prop} {H : Heap} {locs : List Loc} {ls : Array Slot} {ce sl i : Nat} {D : va_G} {cA : Nat → ClassId} {AE : Nat → Prop} {adK adV sa : Nat → Nat} {U : Nat → Nat} {rg : Nat → Option Nat} {A : Nat → Nat} {o od b L : Nat} {xs : Nat → Int32} {x : Nat → Int32} {f : Nat → Nat → Int32} {g : Nat → Int64} {gd : Nat → UInt64} (hx : p.tables.exec = Jvm.exec) (hb : c0.code = cL_law) (hml : c0.maxLocals = 9) (hown : s.vm.findClass RL = some m.cls) (hts : ∀ w ∈ Cond.initialized RL :: gG, w.before args s = true) (hK : gK D cA s) (hE : gE AE adK adV sa s s.heap) (hN : gNc s) (hX : va_X b L xs s s.heap) (hbl : b < s.heap.size) (hL : L ≤ 1536) (hi : i + 3 ≤ L) (hA : aInj 189 U) (hM : mInj A) (hrg : uRg U rg) (hAE : ∀ q, s.heap.size ≤ q → AE q) (hUf : ∀ q, aS 189 U q → s.heap.size ≤ q ∧ ¬ MA A q ∧ q ≠ o ∧ q ≠ od) (hMf : ∀ q, MA A q → s.heap.size ≤ q ∧ q ≠ o ∧ q ≠ od) (hof : s.heap.size ≤ o ∧ s.heap.size ≤ od ∧ o ≠ od) (hce : ce + 9 ≤ room_1.cells) (hsl : sl + 60 ≤ room_1.slots) (hS : va_S (fun q => s.heap.size ≤ q) s.heap H locs) (hl : lv_has ls 9 [(5, .int (nI i)), (4, .ref (od)), (3, .ref (o)), (2, .ref (A 0)), (1, .ref (U 0)), (0, .ref (b))]) (hLS : LST D cA U rg x f H) (hP : va_P D vwCl (mw cA A x f) H) (hO : va_P D vwCl (oL cA o g) H) (hD : va_P D vwCl (oD cA od gd) H)  (KK : ∀ (x1 : Nat → Int32) (f1 : Nat → Nat → Int32) (g1 : Nat → Int64) (gd1 : Nat → UInt64) (H1 : Heap) (locs1 : List Loc) (ls1 : Array Slot), LST D cA U rg x1 f1 H1 → va_P D vwCl (mw cA A x1 f1) H1 → va_P D vwCl (oL cA o g1) H1 → va_P D vwCl (oD cA od gd1) H1 → va_S (fun q => s.heap.size ≤ q) s.heap H1 locs1 → lv_has ls1 9 [(5, .int (nI i)), (4, .ref (od)), (3, .ref (o)), (2, .ref (A 0)), (1, .ref (U 0)), (0, .ref (b))] → W p l e room_1 s m args below meth c0 H1 locs1 (ce + 1) (sl + 6) Q (F0 m 2162 ls1 [])) : W p l e room_1 s m args below meth c0 H locs ce sl Q (F0 m 1299 ls []) := by
  obtain ⟨c, z, rz, hd, ct, rs, dt, mf, mn, tc, tl, to, kd, fi, se, ta, nu, lc, ln, sv, er, R, hU⟩ := hLS
  have hFA : ∀ q, aS 189 U q → AE q := fun q h => hAE q (hUf q h).1
  refine lv_aload_n hx hb dL_law_1299 rfl (lv_at hl 4 rfl) ?_
  refine wr_calli (va_runV (As := []) (rest := []) ⟨hx, hb, hml, hown, hts⟩ (c_X7_rolled l D cA AE adK adV sa U rg c z rz hd ct rs dt mf mn tc tl to kd fi se ta nu lc ln sv er hA hFA R.I.ok) (cwV 0 hts (gWVL gm_31_19 gm_31_20 gm_31_21 gm_1_2 gm_31_22) rfl rfl rfl (by decide +kernel) ⟨Nat.le_of_ble_eq_true rfl, Nat.le_of_ble_eq_true rfl⟩) (gPreVx hK hE hS hAE (g_rf hK hU (ci := 9) (q0 := 0) rfl rfl) hU) rfl rfl hl.1 rfl (lv_room (Nat.le_of_ble_eq_true rfl)) dL_law_1300 ⟨by omega, by omega⟩) hS (fun q _ h => (hUf q h).1) (fun q h => (hUf q h).1) (fun r H1 locs1 C hz9 hk9 hS => ?_)
  obtain ⟨e1, hLS⟩ := op_rolled R C
  have hP := vP_fr hP hk9 (mw_n (A1 := aS 189 U) hM (fun q h h2 => (hUf q h2).2.1 h))
  have hO := vP_fr hO hk9 (oL_n (A := aS 189 U) (fun h => (hUf o h).2.2.1 rfl))
  have hD := vP_fr hD hk9 (oD_n (A := aS 189 U) (fun h => (hUf od h).2.2.2 rfl))
  refine lv_aload_n hx hb dL_law_1303 rfl (lv_at hl 3 rfl) ?_
  refine wr_calli (va_runV (As := []) (rest := [.int r]) ⟨hx, hb, hml, hown, hts⟩ (c_X8_rolled l D cA A x f (zcn c) hM R.G.g1 R.I.cn) (cwV 0 hts (gWVL gm_32_0 gm_32_1 gm_32_2 gm_1_5 gm_32_3) rfl rfl rfl (by decide +kernel) ⟨Nat.le_of_ble_eq_true rfl, Nat.le_of_ble_eq_true rfl⟩) (gPreV hK (g_rf hK hP (ci := 10) (q0 := 0) rfl rfl) hP) rfl rfl hl.1 rfl (lv_room (Nat.le_of_ble_eq_true rfl)) dL_law_1304 ⟨by omega, by omega⟩) hS (fun q _ h => (hMf q h).1) (fun q h => (hMf q h).1) (fun r8 H2 locs2 hw8 hz8 hk8 hS => ?_)
  obtain ⟨h8, hP⟩ := hw8
  have hLS := hLS.kept hA hk8 (fun q h => (hUf q h).2.1)
  have hO := vP_fr hO hk8 (oL_n (fun h => (hMf o h).2.1 rfl))
  have hD := vP_fr hD hk8 (oD_n (fun h => (hMf od h).2.2 rfl))
  exact lv_icmp_eq (tgt := 2162) hx hb dL_law_1307 (by decide) (fun _ => W.widen (k := ce + 1) (n := sl + 6) (by omega) (by omega) (KK _ _ _ _ _ _ _ hLS hP hO hD hS hl)) (fun q => absurd (e1.symm.trans h8.symm) q)

set_option maxHeartbeats 1000000 in
set_option maxRecDepth 100000 in
theorem lc_wouldTake (l : Launch) (hlt : l.stackTraces = false) {p : Program} {e : Env} {s : State} {m : MethodId} {args : Array Value} {below : List Frame} {meth : Method} {c0 : Code} {Q : State → Prop} {H : Heap} {locs : List Loc} {ls : Array Slot} {ce sl i : Nat} {D : va_G} {cA : Nat → ClassId} {AE : Nat → Prop} {adK adV sa : Nat → Nat} {U : Nat → Nat} {rg : Nat → Option Nat} {A : Nat → Nat} {o od b L : Nat} {xs : Nat → Int32} {x : Nat → Int32} {f : Nat → Nat → Int32} {g : Nat → Int64} {gd : Nat → UInt64} (hx : p.tables.exec = Jvm.exec) (hb : c0.code = cL_law) (hml : c0.maxLocals = 9) (hown : s.vm.findClass RL = some m.cls) (hts : ∀ w ∈ Cond.initialized RL :: gG, w.before args s = true) (hK : gK D cA s) (hE : gE AE adK adV sa s s.heap) (hN : gNc s) (hX : va_X b L xs s s.heap) (hbl : b < s.heap.size) (hL : L ≤ 1536) (hi : i + 3 ≤ L) (hA : aInj 189 U) (hM : mInj A) (hrg : uRg U rg) (hAE : ∀ q, s.heap.size ≤ q → AE q) (hUf : ∀ q, aS 189 U q → s.heap.size ≤ q ∧ ¬ MA A q ∧ q ≠ o ∧ q ≠ od) (hMf : ∀ q, MA A q → s.heap.size ≤ q ∧ q ≠ o ∧ q ≠ od) (hof : s.heap.size ≤ o ∧ s.heap.size ≤ od ∧ o ≠ od) (hce : ce + 9 ≤ room_1.cells) (hsl : sl + 60 ≤ room_1.slots) (hS : va_S (fun q => s.heap.size ≤ q) s.heap H locs) (hl : lv_has ls 9 [(5, .int (nI i)), (4, .ref (od)), (3, .ref (o)), (2, .ref (A 0)), (1, .ref (U 0)), (0, .ref (b))]) (hLS : LST D cA U rg x f H) (hP : va_P D vwCl (mw cA A x f) H) (hO : va_P D vwCl (oL cA o g) H) (hD : va_P D vwCl (oD cA od gd) H)  (KK : ∀ (x1 : Nat → Int32) (f1 : Nat → Nat → Int32) (g1 : Nat → Int64) (gd1 : Nat → UInt64) (H1 : Heap) (locs1 : List Loc) (ls1 : Array Slot), LST D cA U rg x1 f1 H1 → va_P D vwCl (mw cA A x1 f1) H1 → va_P D vwCl (oL cA o g1) H1 → va_P D vwCl (oD cA od gd1) H1 → va_S (fun q => s.heap.size ≤ q) s.heap H1 locs1 → lv_has ls1 9 [(5, .int (nI i)), (4, .ref (od)), (3, .ref (o)), (2, .ref (A 0)), (1, .ref (U 0)), (0, .ref (b))] → W p l e room_1 s m args below meth c0 H1 locs1 (ce + 1) (sl + 6) Q (F0 m 2162 ls1 [])) : W p l e room_1 s m args below meth c0 H locs ce sl Q (F0 m 1312 ls []) := by
  obtain ⟨c, z, rz, hd, ct, rs, dt, mf, mn, tc, tl, to, kd, fi, se, ta, nu, lc, ln, sv, er, R, hU⟩ := hLS
  have hFA : ∀ q, aS 189 U q → AE q := fun q h => hAE q (hUf q h).1
  have hUO : ∀ q, uO U o q → s.heap.size ≤ q := fun q h => h.elim (fun h => (hUf q h).1) (fun h => h ▸ hof.1)
  have hoU : ¬ aS 189 U o := fun h => (hUf o h).2.2.1 rfl
  have hbA : ¬ (fun q => s.heap.size ≤ q) b := fun h => absurd hbl (Nat.not_lt.mpr h)
  refine lv_aload_n hx hb dL_law_1312 rfl (lv_at hl 4 rfl) ?_
  refine lv_aload_n hx hb dL_law_1313 rfl (lv_at hl 5 rfl) ?_
  refine lv_iload hx hb dL_law_1314 (lv_at hl 0 rfl) ?_
  refine lv_iconst (v := nI 1) hx hb dL_law_1316 gc_1 ?_
  refine lv_iadd hx hb dL_law_1317 ?_
  rw [nI_add]
  refine va_sld (A := (fun q => s.heap.size ≤ q)) hx hb hX hbl hbA hS (lp_in (by omega) hL) dL_law_1318 ?_
  refine lv_aload_n hx hb dL_law_1319 rfl (lv_at hl 2 rfl) ?_
  refine wr_calli (vx_runSW (As := [.ref (U 0), .int (xs (nI (i + 1)).toNatClampNeg), .ref (o)]) (rest := []) ⟨hx, hb, hml, hown, hts⟩ (c_L_wouldTake l hlt D cA AE adK adV sa U rg c z rz hd ct rs dt mf mn tc tl to kd fi se ta nu lc ln sv er (xs (nI (i + 1)).toNatClampNeg) o g hA hFA hoU (fun q h => hAE q (hUO q h)) R.I.ok) (vx_cwSW 3 hts (gWSL gm_32_4 gm_32_5 gm_6_2 gm_32_6) rfl rfl rfl (by decide +kernel) ⟨Nat.le_of_ble_eq_true rfl, Nat.le_of_ble_eq_true rfl⟩) (gPreSy hK hE hN hS hAE ⟨hU, hO⟩) rfl rfl hl.1 rfl (lv_room (Nat.le_of_ble_eq_true rfl)) dL_law_1320 ⟨by omega, by omega⟩) hS (fun q _ h => hUO q h) (fun q h => hUO q h) (fun r H1 locs1 hw9 hz9 hk9 hS => ?_)
  obtain ⟨k9, rr, g9, rfl, hk2, hg9, hO, C⟩ := hw9
  obtain ⟨e4, e1, hLS⟩ := op_wouldTake R C
  have hP := vP_fr hP hk9 (mw_n (A1 := uO U o) hM (fun q h h2 => h2.elim (fun h2 => (hUf q h2).2.1 h) (fun h2 => (hMf q h).2.1 h2)))
  have hD := vP_fr hD hk9 (oD_n (A := uO U o) (fun h => h.elim (fun h => (hUf od h).2.2.2 rfl) (fun h => hof.2.2 h.symm)))
  refine lv_istore (lv' := [(6, .int (nI k9)), (5, .int (nI i)), (4, .ref (od)), (3, .ref (o)), (2, .ref (A 0)), (1, .ref (U 0)), (0, .ref (b))]) hx hb dL_law_1323 hl (by decide) rfl (fun ls hl => ?_)
  refine lv_aload_n hx hb dL_law_1325 rfl (lv_at hl 4 rfl) ?_
  refine lv_aload_n hx hb dL_law_1326 rfl (lv_at hl 6 rfl) ?_
  refine lv_iload hx hb dL_law_1327 (lv_at hl 1 rfl) ?_
  refine lv_iconst (v := nI 1) hx hb dL_law_1329 gc_1 ?_
  refine lv_iadd hx hb dL_law_1330 ?_
  rw [nI_add]
  refine va_sld (A := (fun q => s.heap.size ≤ q)) hx hb hX hbl hbA hS (lp_in (by omega) hL) dL_law_1331 ?_
  refine wr_calli (va_runV (As := [.int (xs (nI (i + 1)).toNatClampNeg)]) (rest := []) ⟨hx, hb, hml, hown, hts⟩ (c_X8_wouldTake l D cA A x f (xs (nI (i + 1)).toNatClampNeg) (zcn c) (zck c) (ztn c) hM R.G.g1 R.I.cn R.G.g2 R.I.ck.1 R.I.ck.2 R.G.g3 R.I.tn) (cwV 1 hts (gWVL gm_32_16 gm_32_17 gm_32_18 gm_1_5 gm_32_19) rfl rfl rfl (by decide +kernel) ⟨Nat.le_of_ble_eq_true rfl, Nat.le_of_ble_eq_true rfl⟩) (gPreV hK (g_rf hK hP (ci := 10) (q0 := 0) rfl rfl) hP) rfl rfl hl.1 rfl (lv_room (Nat.le_of_ble_eq_true rfl)) dL_law_1332 ⟨by omega, by omega⟩) hS (fun q _ h => (hMf q h).1) (fun q h => (hMf q h).1) (fun r8 H2 locs2 hw8 hz8 hk8 hS => ?_)
  obtain ⟨h8, hP⟩ := hw8
  have hLS := hLS.kept hA hk8 (fun q h => (hUf q h).2.1)
  have hO := vP_fr hO hk8 (oL_n (fun h => (hMf o h).2.1 rfl))
  have hD := vP_fr hD hk8 (oD_n (fun h => (hMf od h).2.2 rfl))
  refine lv_istore (lv' := [(7, .int (r8)), (6, .int (nI k9)), (5, .int (nI i)), (4, .ref (od)), (3, .ref (o)), (2, .ref (A 0)), (1, .ref (U 0)), (0, .ref (b))]) hx hb dL_law_1335 hl (by decide) rfl (fun ls hl => ?_)
  refine lv_aload_n hx hb dL_law_1337 rfl (lv_at hl 5 rfl) ?_
  refine rd_calle (va_runV (As := []) (rest := []) ⟨hx, hb, hml, hown, hts⟩ (c_X8_thrown l D cA A _ _ k9 e4) (cwV 0 hts (gWVL gm_9_20 gm_9_21 gm_9_22 gm_1_5 gm_9_23) rfl rfl rfl (by decide +kernel) ⟨Nat.le_of_ble_eq_true rfl, Nat.le_of_ble_eq_true rfl⟩) (gPreV hK (g_rf hK hP (ci := 10) (q0 := 0) rfl rfl) hP) rfl rfl hl.1 rfl (lv_room (Nat.le_of_ble_eq_true rfl)) dL_law_1338 ⟨by omega, by omega⟩) ?_
  refine lv_iload hx hb dL_law_1341 (lv_at hl 1 rfl) ?_
  refine lv_icmp_eq (tgt := 1348) hx hb dL_law_1343 (by decide) (fun _ => ?_) (fun q => absurd rfl q)
  refine lv_iload hx hb dL_law_1348 (lv_at hl 1 rfl) ?_
  refine g_if_ne (P := k9 = 0) (tgt := 1365) hx hb dL_law_1350 (by decide) (nI_z (by omega)) (fun _ => ?_) (fun hz => ?_)
  · exact lv_goto (tgt := 2162) hx hb dL_law_1365 (by decide) (KK _ _ _ _ _ _ _ hLS hP hO hD hS (lv_sub hl [2, 3, 4, 5, 6, 7] rfl))
  · refine lv_aload_n hx hb dL_law_1353 rfl (lv_at hl 4 rfl) ?_
    refine lv_iconst (v := nI 0) hx hb dL_law_1354 gc_0 ?_
    refine va_lald hx hb hK.1 hO 0 3 rfl rfl (vp_in_iff.mpr (by decide +kernel)) dL_law_1355 ?_
    refine lv_iload hx hb dL_law_1356 (lv_at hl 0 rfl) ?_
    refine lv_i2l (v := r8.toInt64) hx hb dL_law_1358 rfl ?_
    refine W.lcmp hx hb dL_law_1359 ?_
    have h99 : g9 (nI 0).toNatClampNeg = r8.toInt64 := by rw [h8, e1 hz, show (nI 0).toNatClampNeg = 0 from nI_clamp (by decide)]; exact hg9 hz
    exact lv_if_eq (tgt := 1365) hx hb dL_law_1360 (by decide) (fun _ => lv_goto (tgt := 2162) hx hb dL_law_1365 (by decide) (KK _ _ _ _ _ _ _ hLS hP hO hD hS (lv_sub hl [2, 3, 4, 5, 6, 7] rfl))) (fun q => absurd (lg_same h99) q)

set_option maxHeartbeats 1000000 in
set_option maxRecDepth 100000 in
theorem lc_overdue (l : Launch) (hlt : l.stackTraces = false) {p : Program} {e : Env} {s : State} {m : MethodId} {args : Array Value} {below : List Frame} {meth : Method} {c0 : Code} {Q : State → Prop} {H : Heap} {locs : List Loc} {ls : Array Slot} {ce sl i : Nat} {D : va_G} {cA : Nat → ClassId} {AE : Nat → Prop} {adK adV sa : Nat → Nat} {U : Nat → Nat} {rg : Nat → Option Nat} {A : Nat → Nat} {o od b L : Nat} {xs : Nat → Int32} {x : Nat → Int32} {f : Nat → Nat → Int32} {g : Nat → Int64} {gd : Nat → UInt64} (hx : p.tables.exec = Jvm.exec) (hb : c0.code = cL_law) (hml : c0.maxLocals = 9) (hown : s.vm.findClass RL = some m.cls) (hts : ∀ w ∈ Cond.initialized RL :: gG, w.before args s = true) (hK : gK D cA s) (hE : gE AE adK adV sa s s.heap) (hN : gNc s) (hX : va_X b L xs s s.heap) (hbl : b < s.heap.size) (hL : L ≤ 1536) (hi : i + 3 ≤ L) (hA : aInj 189 U) (hM : mInj A) (hrg : uRg U rg) (hAE : ∀ q, s.heap.size ≤ q → AE q) (hUf : ∀ q, aS 189 U q → s.heap.size ≤ q ∧ ¬ MA A q ∧ q ≠ o ∧ q ≠ od) (hMf : ∀ q, MA A q → s.heap.size ≤ q ∧ q ≠ o ∧ q ≠ od) (hof : s.heap.size ≤ o ∧ s.heap.size ≤ od ∧ o ≠ od) (hce : ce + 9 ≤ room_1.cells) (hsl : sl + 60 ≤ room_1.slots) (hS : va_S (fun q => s.heap.size ≤ q) s.heap H locs) (hl : lv_has ls 9 [(5, .int (nI i)), (4, .ref (od)), (3, .ref (o)), (2, .ref (A 0)), (1, .ref (U 0)), (0, .ref (b))]) (hLS : LST D cA U rg x f H) (hP : va_P D vwCl (mw cA A x f) H) (hO : va_P D vwCl (oL cA o g) H) (hD : va_P D vwCl (oD cA od gd) H)  (KK : ∀ (x1 : Nat → Int32) (f1 : Nat → Nat → Int32) (g1 : Nat → Int64) (gd1 : Nat → UInt64) (H1 : Heap) (locs1 : List Loc) (ls1 : Array Slot), LST D cA U rg x1 f1 H1 → va_P D vwCl (mw cA A x1 f1) H1 → va_P D vwCl (oL cA o g1) H1 → va_P D vwCl (oD cA od gd1) H1 → va_S (fun q => s.heap.size ≤ q) s.heap H1 locs1 → lv_has ls1 9 [(5, .int (nI i)), (4, .ref (od)), (3, .ref (o)), (2, .ref (A 0)), (1, .ref (U 0)), (0, .ref (b))] → W p l e room_1 s m args below meth c0 H1 locs1 (ce + 1) (sl + 6) Q (F0 m 2162 ls1 [])) : W p l e room_1 s m args below meth c0 H locs ce sl Q (F0 m 1368 ls []) := by
  obtain ⟨c, z, rz, hd, ct, rs, dt, mf, mn, tc, tl, to, kd, fi, se, ta, nu, lc, ln, sv, er, R, hU⟩ := hLS
  have hFA : ∀ q, aS 189 U q → AE q := fun q h => hAE q (hUf q h).1
  refine lv_aload_n hx hb dL_law_1368 rfl (lv_at hl 4 rfl) ?_
  refine wr_calli (va_runV (As := []) (rest := []) ⟨hx, hb, hml, hown, hts⟩ (c_X7_overdue l D cA AE adK adV sa U rg c z rz hd ct rs dt mf mn tc tl to kd fi se ta nu lc ln sv er hA hFA R.I.ok) (cwV 0 hts (gWVL gm_32_20 gm_32_21 gm_32_22 gm_1_2 gm_32_23) rfl rfl rfl (by decide +kernel) ⟨Nat.le_of_ble_eq_true rfl, Nat.le_of_ble_eq_true rfl⟩) (gPreVx hK hE hS hAE (g_rf hK hU (ci := 9) (q0 := 0) rfl rfl) hU) rfl rfl hl.1 rfl (lv_room (Nat.le_of_ble_eq_true rfl)) dL_law_1369 ⟨by omega, by omega⟩) hS (fun q _ h => (hUf q h).1) (fun q h => (hUf q h).1) (fun r H1 locs1 C hz9 hk9 hS => ?_)
  obtain ⟨e1, hLS⟩ := op_overdue R C
  have hP := vP_fr hP hk9 (mw_n (A1 := aS 189 U) hM (fun q h h2 => (hUf q h2).2.1 h))
  have hO := vP_fr hO hk9 (oL_n (A := aS 189 U) (fun h => (hUf o h).2.2.1 rfl))
  have hD := vP_fr hD hk9 (oD_n (A := aS 189 U) (fun h => (hUf od h).2.2.2 rfl))
  refine lv_aload_n hx hb dL_law_1372 rfl (lv_at hl 3 rfl) ?_
  refine wr_calli (va_runV (As := []) (rest := [.int r]) ⟨hx, hb, hml, hown, hts⟩ (c_X8_overdue l D cA A x f (zcn c) hM R.G.g1 R.I.cn) (cwV 0 hts (gWVL gm_33_5 gm_33_6 gm_33_7 gm_1_5 gm_33_8) rfl rfl rfl (by decide +kernel) ⟨Nat.le_of_ble_eq_true rfl, Nat.le_of_ble_eq_true rfl⟩) (gPreV hK (g_rf hK hP (ci := 10) (q0 := 0) rfl rfl) hP) rfl rfl hl.1 rfl (lv_room (Nat.le_of_ble_eq_true rfl)) dL_law_1373 ⟨by omega, by omega⟩) hS (fun q _ h => (hMf q h).1) (fun q h => (hMf q h).1) (fun r8 H2 locs2 hw8 hz8 hk8 hS => ?_)
  obtain ⟨h8, hP⟩ := hw8
  have hLS := hLS.kept hA hk8 (fun q h => (hUf q h).2.1)
  have hO := vP_fr hO hk8 (oL_n (fun h => (hMf o h).2.1 rfl))
  have hD := vP_fr hD hk8 (oD_n (fun h => (hMf od h).2.2 rfl))
  exact lv_icmp_eq (tgt := 2162) hx hb dL_law_1376 (by decide) (fun _ => W.widen (k := ce + 1) (n := sl + 6) (by omega) (by omega) (KK _ _ _ _ _ _ _ hLS hP hO hD hS hl)) (fun q => absurd (e1.symm.trans h8.symm) q)

set_option maxHeartbeats 1000000 in
set_option maxRecDepth 100000 in
theorem lc_termFrom (l : Launch) (hlt : l.stackTraces = false) {p : Program} {e : Env} {s : State} {m : MethodId} {args : Array Value} {below : List Frame} {meth : Method} {c0 : Code} {Q : State → Prop} {H : Heap} {locs : List Loc} {ls : Array Slot} {ce sl i : Nat} {D : va_G} {cA : Nat → ClassId} {AE : Nat → Prop} {adK adV sa : Nat → Nat} {U : Nat → Nat} {rg : Nat → Option Nat} {A : Nat → Nat} {o od b L : Nat} {xs : Nat → Int32} {x : Nat → Int32} {f : Nat → Nat → Int32} {g : Nat → Int64} {gd : Nat → UInt64} (hx : p.tables.exec = Jvm.exec) (hb : c0.code = cL_law) (hml : c0.maxLocals = 9) (hown : s.vm.findClass RL = some m.cls) (hts : ∀ w ∈ Cond.initialized RL :: gG, w.before args s = true) (hK : gK D cA s) (hE : gE AE adK adV sa s s.heap) (hN : gNc s) (hX : va_X b L xs s s.heap) (hbl : b < s.heap.size) (hL : L ≤ 1536) (hi : i + 3 ≤ L) (hA : aInj 189 U) (hM : mInj A) (hrg : uRg U rg) (hAE : ∀ q, s.heap.size ≤ q → AE q) (hUf : ∀ q, aS 189 U q → s.heap.size ≤ q ∧ ¬ MA A q ∧ q ≠ o ∧ q ≠ od) (hMf : ∀ q, MA A q → s.heap.size ≤ q ∧ q ≠ o ∧ q ≠ od) (hof : s.heap.size ≤ o ∧ s.heap.size ≤ od ∧ o ≠ od) (hce : ce + 9 ≤ room_1.cells) (hsl : sl + 60 ≤ room_1.slots) (hS : va_S (fun q => s.heap.size ≤ q) s.heap H locs) (hl : lv_has ls 9 [(5, .int (nI i)), (4, .ref (od)), (3, .ref (o)), (2, .ref (A 0)), (1, .ref (U 0)), (0, .ref (b))]) (hLS : LST D cA U rg x f H) (hP : va_P D vwCl (mw cA A x f) H) (hO : va_P D vwCl (oL cA o g) H) (hD : va_P D vwCl (oD cA od gd) H)  (KK : ∀ (x1 : Nat → Int32) (f1 : Nat → Nat → Int32) (g1 : Nat → Int64) (gd1 : Nat → UInt64) (H1 : Heap) (locs1 : List Loc) (ls1 : Array Slot), LST D cA U rg x1 f1 H1 → va_P D vwCl (mw cA A x1 f1) H1 → va_P D vwCl (oL cA o g1) H1 → va_P D vwCl (oD cA od gd1) H1 → va_S (fun q => s.heap.size ≤ q) s.heap H1 locs1 → lv_has ls1 9 [(5, .int (nI i)), (4, .ref (od)), (3, .ref (o)), (2, .ref (A 0)), (1, .ref (U 0)), (0, .ref (b))] → W p l e room_1 s m args below meth c0 H1 locs1 (ce + 1) (sl + 6) Q (F0 m 2162 ls1 [])) : W p l e room_1 s m args below meth c0 H locs ce sl Q (F0 m 1381 ls []) := by
  obtain ⟨c, z, rz, hd, ct, rs, dt, mf, mn, tc, tl, to, kd, fi, se, ta, nu, lc, ln, sv, er, R, hU⟩ := hLS
  have hFA : ∀ q, aS 189 U q → AE q := fun q h => hAE q (hUf q h).1
  have hUO : ∀ q, uO U o q → s.heap.size ≤ q := fun q h => h.elim (fun h => (hUf q h).1) (fun h => h ▸ hof.1)
  have hoU : ¬ aS 189 U o := fun h => (hUf o h).2.2.1 rfl
  have hbA : ¬ (fun q => s.heap.size ≤ q) b := fun h => absurd hbl (Nat.not_lt.mpr h)
  refine lv_aload_n hx hb dL_law_1381 rfl (lv_at hl 4 rfl) ?_
  refine lv_aload_n hx hb dL_law_1382 rfl (lv_at hl 5 rfl) ?_
  refine lv_iload hx hb dL_law_1383 (lv_at hl 0 rfl) ?_
  refine lv_iconst (v := nI 1) hx hb dL_law_1385 gc_1 ?_
  refine lv_iadd hx hb dL_law_1386 ?_
  rw [nI_add]
  refine va_sld (A := (fun q => s.heap.size ≤ q)) hx hb hX hbl hbA hS (lp_in (by omega) hL) dL_law_1387 ?_
  refine lv_aload_n hx hb dL_law_1388 rfl (lv_at hl 2 rfl) ?_
  refine wr_calli (vx_runSW (As := [.ref (U 0), .int (xs (nI (i + 1)).toNatClampNeg), .ref (o)]) (rest := []) ⟨hx, hb, hml, hown, hts⟩ (c_L_termFrom l hlt D cA AE adK adV sa U rg c z rz hd ct rs dt mf mn tc tl to kd fi se ta nu lc ln sv er (xs (nI (i + 1)).toNatClampNeg) o g hA hFA hoU (fun q h => hAE q (hUO q h)) R.I.ok) (vx_cwSW 3 hts (gWSL gm_33_9 gm_33_10 gm_6_2 gm_33_11) rfl rfl rfl (by decide +kernel) ⟨Nat.le_of_ble_eq_true rfl, Nat.le_of_ble_eq_true rfl⟩) (gPreSy hK hE hN hS hAE ⟨hU, hO⟩) rfl rfl hl.1 rfl (lv_room (Nat.le_of_ble_eq_true rfl)) dL_law_1389 ⟨by omega, by omega⟩) hS (fun q _ h => hUO q h) (fun q h => hUO q h) (fun r H1 locs1 hw9 hz9 hk9 hS => ?_)
  obtain ⟨k9, rr, g9, rfl, hk2, hg9, hO, C⟩ := hw9
  obtain ⟨e4, e1, hLS⟩ := op_termFrom R C
  have hP := vP_fr hP hk9 (mw_n (A1 := uO U o) hM (fun q h h2 => h2.elim (fun h2 => (hUf q h2).2.1 h) (fun h2 => (hMf q h).2.1 h2)))
  have hD := vP_fr hD hk9 (oD_n (A := uO U o) (fun h => h.elim (fun h => (hUf od h).2.2.2 rfl) (fun h => hof.2.2 h.symm)))
  refine lv_istore (lv' := [(6, .int (nI k9)), (5, .int (nI i)), (4, .ref (od)), (3, .ref (o)), (2, .ref (A 0)), (1, .ref (U 0)), (0, .ref (b))]) hx hb dL_law_1392 hl (by decide) rfl (fun ls hl => ?_)
  refine lv_aload_n hx hb dL_law_1394 rfl (lv_at hl 4 rfl) ?_
  refine lv_aload_n hx hb dL_law_1395 rfl (lv_at hl 6 rfl) ?_
  refine lv_iload hx hb dL_law_1396 (lv_at hl 1 rfl) ?_
  refine lv_iconst (v := nI 1) hx hb dL_law_1398 gc_1 ?_
  refine lv_iadd hx hb dL_law_1399 ?_
  rw [nI_add]
  refine va_sld (A := (fun q => s.heap.size ≤ q)) hx hb hX hbl hbA hS (lp_in (by omega) hL) dL_law_1400 ?_
  refine wr_calli (va_runV (As := [.int (xs (nI (i + 1)).toNatClampNeg)]) (rest := []) ⟨hx, hb, hml, hown, hts⟩ (c_X8_termFrom l D cA A x f (xs (nI (i + 1)).toNatClampNeg) (zcn c) hM R.G.g1 R.I.cn) (cwV 1 hts (gWVL gm_33_20 gm_33_21 gm_33_22 gm_1_5 gm_33_23) rfl rfl rfl (by decide +kernel) ⟨Nat.le_of_ble_eq_true rfl, Nat.le_of_ble_eq_true rfl⟩) (gPreV hK (g_rf hK hP (ci := 10) (q0 := 0) rfl rfl) hP) rfl rfl hl.1 rfl (lv_room (Nat.le_of_ble_eq_true rfl)) dL_law_1401 ⟨by omega, by omega⟩) hS (fun q _ h => (hMf q h).1) (fun q h => (hMf q h).1) (fun r8 H2 locs2 hw8 hz8 hk8 hS => ?_)
  obtain ⟨h8, hP⟩ := hw8
  have hLS := hLS.kept hA hk8 (fun q h => (hUf q h).2.1)
  have hO := vP_fr hO hk8 (oL_n (fun h => (hMf o h).2.1 rfl))
  have hD := vP_fr hD hk8 (oD_n (fun h => (hMf od h).2.2 rfl))
  refine lv_istore (lv' := [(7, .int (r8)), (6, .int (nI k9)), (5, .int (nI i)), (4, .ref (od)), (3, .ref (o)), (2, .ref (A 0)), (1, .ref (U 0)), (0, .ref (b))]) hx hb dL_law_1404 hl (by decide) rfl (fun ls hl => ?_)
  refine lv_aload_n hx hb dL_law_1406 rfl (lv_at hl 5 rfl) ?_
  refine rd_calle (va_runV (As := []) (rest := []) ⟨hx, hb, hml, hown, hts⟩ (c_X8_thrown l D cA A _ _ k9 e4) (cwV 0 hts (gWVL gm_9_20 gm_9_21 gm_9_22 gm_1_5 gm_9_23) rfl rfl rfl (by decide +kernel) ⟨Nat.le_of_ble_eq_true rfl, Nat.le_of_ble_eq_true rfl⟩) (gPreV hK (g_rf hK hP (ci := 10) (q0 := 0) rfl rfl) hP) rfl rfl hl.1 rfl (lv_room (Nat.le_of_ble_eq_true rfl)) dL_law_1407 ⟨by omega, by omega⟩) ?_
  refine lv_iload hx hb dL_law_1410 (lv_at hl 1 rfl) ?_
  refine lv_icmp_eq (tgt := 1417) hx hb dL_law_1412 (by decide) (fun _ => ?_) (fun q => absurd rfl q)
  refine lv_iload hx hb dL_law_1417 (lv_at hl 1 rfl) ?_
  refine g_if_ne (P := k9 = 0) (tgt := 1434) hx hb dL_law_1419 (by decide) (nI_z (by omega)) (fun _ => ?_) (fun hz => ?_)
  · exact lv_goto (tgt := 2162) hx hb dL_law_1434 (by decide) (KK _ _ _ _ _ _ _ hLS hP hO hD hS (lv_sub hl [2, 3, 4, 5, 6, 7] rfl))
  · refine lv_aload_n hx hb dL_law_1422 rfl (lv_at hl 4 rfl) ?_
    refine lv_iconst (v := nI 0) hx hb dL_law_1423 gc_0 ?_
    refine va_lald hx hb hK.1 hO 0 3 rfl rfl (vp_in_iff.mpr (by decide +kernel)) dL_law_1424 ?_
    refine lv_iload hx hb dL_law_1425 (lv_at hl 0 rfl) ?_
    refine lv_i2l (v := r8.toInt64) hx hb dL_law_1427 rfl ?_
    refine W.lcmp hx hb dL_law_1428 ?_
    have h99 : g9 (nI 0).toNatClampNeg = r8.toInt64 := by rw [h8, e1 hz, show (nI 0).toNatClampNeg = 0 from nI_clamp (by decide)]; exact hg9 hz
    exact lv_if_eq (tgt := 1434) hx hb dL_law_1429 (by decide) (fun _ => lv_goto (tgt := 2162) hx hb dL_law_1434 (by decide) (KK _ _ _ _ _ _ _ hLS hP hO hD hS (lv_sub hl [2, 3, 4, 5, 6, 7] rfl))) (fun q => absurd (lg_same h99) q)

set_option maxHeartbeats 1000000 in
set_option maxRecDepth 100000 in
theorem lc_finalIn (l : Launch) (hlt : l.stackTraces = false) {p : Program} {e : Env} {s : State} {m : MethodId} {args : Array Value} {below : List Frame} {meth : Method} {c0 : Code} {Q : State → Prop} {H : Heap} {locs : List Loc} {ls : Array Slot} {ce sl i : Nat} {D : va_G} {cA : Nat → ClassId} {AE : Nat → Prop} {adK adV sa : Nat → Nat} {U : Nat → Nat} {rg : Nat → Option Nat} {A : Nat → Nat} {o od b L : Nat} {xs : Nat → Int32} {x : Nat → Int32} {f : Nat → Nat → Int32} {g : Nat → Int64} {gd : Nat → UInt64} (hx : p.tables.exec = Jvm.exec) (hb : c0.code = cL_law) (hml : c0.maxLocals = 9) (hown : s.vm.findClass RL = some m.cls) (hts : ∀ w ∈ Cond.initialized RL :: gG, w.before args s = true) (hK : gK D cA s) (hE : gE AE adK adV sa s s.heap) (hN : gNc s) (hX : va_X b L xs s s.heap) (hbl : b < s.heap.size) (hL : L ≤ 1536) (hi : i + 3 ≤ L) (hA : aInj 189 U) (hM : mInj A) (hrg : uRg U rg) (hAE : ∀ q, s.heap.size ≤ q → AE q) (hUf : ∀ q, aS 189 U q → s.heap.size ≤ q ∧ ¬ MA A q ∧ q ≠ o ∧ q ≠ od) (hMf : ∀ q, MA A q → s.heap.size ≤ q ∧ q ≠ o ∧ q ≠ od) (hof : s.heap.size ≤ o ∧ s.heap.size ≤ od ∧ o ≠ od) (hce : ce + 9 ≤ room_1.cells) (hsl : sl + 60 ≤ room_1.slots) (hS : va_S (fun q => s.heap.size ≤ q) s.heap H locs) (hl : lv_has ls 9 [(5, .int (nI i)), (4, .ref (od)), (3, .ref (o)), (2, .ref (A 0)), (1, .ref (U 0)), (0, .ref (b))]) (hLS : LST D cA U rg x f H) (hP : va_P D vwCl (mw cA A x f) H) (hO : va_P D vwCl (oL cA o g) H) (hD : va_P D vwCl (oD cA od gd) H)  (KK : ∀ (x1 : Nat → Int32) (f1 : Nat → Nat → Int32) (g1 : Nat → Int64) (gd1 : Nat → UInt64) (H1 : Heap) (locs1 : List Loc) (ls1 : Array Slot), LST D cA U rg x1 f1 H1 → va_P D vwCl (mw cA A x1 f1) H1 → va_P D vwCl (oL cA o g1) H1 → va_P D vwCl (oD cA od gd1) H1 → va_S (fun q => s.heap.size ≤ q) s.heap H1 locs1 → lv_has ls1 9 [(5, .int (nI i)), (4, .ref (od)), (3, .ref (o)), (2, .ref (A 0)), (1, .ref (U 0)), (0, .ref (b))] → W p l e room_1 s m args below meth c0 H1 locs1 (ce + 1) (sl + 6) Q (F0 m 2162 ls1 [])) : W p l e room_1 s m args below meth c0 H locs ce sl Q (F0 m 1437 ls []) := by
  obtain ⟨c, z, rz, hd, ct, rs, dt, mf, mn, tc, tl, to, kd, fi, se, ta, nu, lc, ln, sv, er, R, hU⟩ := hLS
  have hFA : ∀ q, aS 189 U q → AE q := fun q h => hAE q (hUf q h).1
  have hUO : ∀ q, uO U o q → s.heap.size ≤ q := fun q h => h.elim (fun h => (hUf q h).1) (fun h => h ▸ hof.1)
  have hoU : ¬ aS 189 U o := fun h => (hUf o h).2.2.1 rfl
  have hbA : ¬ (fun q => s.heap.size ≤ q) b := fun h => absurd hbl (Nat.not_lt.mpr h)
  refine lv_aload_n hx hb dL_law_1437 rfl (lv_at hl 4 rfl) ?_
  refine lv_aload_n hx hb dL_law_1438 rfl (lv_at hl 5 rfl) ?_
  refine lv_iload hx hb dL_law_1439 (lv_at hl 0 rfl) ?_
  refine lv_iconst (v := nI 1) hx hb dL_law_1441 gc_1 ?_
  refine lv_iadd hx hb dL_law_1442 ?_
  rw [nI_add]
  refine va_sld (A := (fun q => s.heap.size ≤ q)) hx hb hX hbl hbA hS (lp_in (by omega) hL) dL_law_1443 ?_
  refine lv_aload_n hx hb dL_law_1444 rfl (lv_at hl 2 rfl) ?_
  refine wr_calli (vx_runSW (As := [.ref (U 0), .int (xs (nI (i + 1)).toNatClampNeg), .ref (o)]) (rest := []) ⟨hx, hb, hml, hown, hts⟩ (c_L_finalIn l hlt D cA AE adK adV sa U rg c z rz hd ct rs dt mf mn tc tl to kd fi se ta nu lc ln sv er (xs (nI (i + 1)).toNatClampNeg) o g hA hFA hoU (fun q h => hAE q (hUO q h)) R.I.ok) (vx_cwSW 3 hts (gWSL gm_34_0 gm_34_1 gm_6_2 gm_34_2) rfl rfl rfl (by decide +kernel) ⟨Nat.le_of_ble_eq_true rfl, Nat.le_of_ble_eq_true rfl⟩) (gPreSy hK hE hN hS hAE ⟨hU, hO⟩) rfl rfl hl.1 rfl (lv_room (Nat.le_of_ble_eq_true rfl)) dL_law_1445 ⟨by omega, by omega⟩) hS (fun q _ h => hUO q h) (fun q h => hUO q h) (fun r H1 locs1 hw9 hz9 hk9 hS => ?_)
  obtain ⟨k9, rr, g9, rfl, hk2, hg9, hO, C⟩ := hw9
  obtain ⟨e4, e1, hLS⟩ := op_finalIn R C
  have hP := vP_fr hP hk9 (mw_n (A1 := uO U o) hM (fun q h h2 => h2.elim (fun h2 => (hUf q h2).2.1 h) (fun h2 => (hMf q h).2.1 h2)))
  have hD := vP_fr hD hk9 (oD_n (A := uO U o) (fun h => h.elim (fun h => (hUf od h).2.2.2 rfl) (fun h => hof.2.2 h.symm)))
  refine lv_istore (lv' := [(6, .int (nI k9)), (5, .int (nI i)), (4, .ref (od)), (3, .ref (o)), (2, .ref (A 0)), (1, .ref (U 0)), (0, .ref (b))]) hx hb dL_law_1448 hl (by decide) rfl (fun ls hl => ?_)
  refine lv_aload_n hx hb dL_law_1450 rfl (lv_at hl 4 rfl) ?_
  refine lv_aload_n hx hb dL_law_1451 rfl (lv_at hl 6 rfl) ?_
  refine lv_iload hx hb dL_law_1452 (lv_at hl 1 rfl) ?_
  refine lv_iconst (v := nI 1) hx hb dL_law_1454 gc_1 ?_
  refine lv_iadd hx hb dL_law_1455 ?_
  rw [nI_add]
  refine va_sld (A := (fun q => s.heap.size ≤ q)) hx hb hX hbl hbA hS (lp_in (by omega) hL) dL_law_1456 ?_
  refine wr_calli (va_runV (As := [.int (xs (nI (i + 1)).toNatClampNeg)]) (rest := []) ⟨hx, hb, hml, hown, hts⟩ (c_X8_finalIn l D cA A x f (xs (nI (i + 1)).toNatClampNeg) (zcn c) hM R.G.g1 R.I.cn) (cwV 1 hts (gWVL gm_34_9 gm_34_10 gm_34_11 gm_1_5 gm_34_12) rfl rfl rfl (by decide +kernel) ⟨Nat.le_of_ble_eq_true rfl, Nat.le_of_ble_eq_true rfl⟩) (gPreV hK (g_rf hK hP (ci := 10) (q0 := 0) rfl rfl) hP) rfl rfl hl.1 rfl (lv_room (Nat.le_of_ble_eq_true rfl)) dL_law_1457 ⟨by omega, by omega⟩) hS (fun q _ h => (hMf q h).1) (fun q h => (hMf q h).1) (fun r8 H2 locs2 hw8 hz8 hk8 hS => ?_)
  obtain ⟨h8, hP⟩ := hw8
  have hLS := hLS.kept hA hk8 (fun q h => (hUf q h).2.1)
  have hO := vP_fr hO hk8 (oL_n (fun h => (hMf o h).2.1 rfl))
  have hD := vP_fr hD hk8 (oD_n (fun h => (hMf od h).2.2 rfl))
  refine lv_istore (lv' := [(7, .int (r8)), (6, .int (nI k9)), (5, .int (nI i)), (4, .ref (od)), (3, .ref (o)), (2, .ref (A 0)), (1, .ref (U 0)), (0, .ref (b))]) hx hb dL_law_1460 hl (by decide) rfl (fun ls hl => ?_)
  refine lv_aload_n hx hb dL_law_1462 rfl (lv_at hl 5 rfl) ?_
  refine rd_calle (va_runV (As := []) (rest := []) ⟨hx, hb, hml, hown, hts⟩ (c_X8_thrown l D cA A _ _ k9 e4) (cwV 0 hts (gWVL gm_9_20 gm_9_21 gm_9_22 gm_1_5 gm_9_23) rfl rfl rfl (by decide +kernel) ⟨Nat.le_of_ble_eq_true rfl, Nat.le_of_ble_eq_true rfl⟩) (gPreV hK (g_rf hK hP (ci := 10) (q0 := 0) rfl rfl) hP) rfl rfl hl.1 rfl (lv_room (Nat.le_of_ble_eq_true rfl)) dL_law_1463 ⟨by omega, by omega⟩) ?_
  refine lv_iload hx hb dL_law_1466 (lv_at hl 1 rfl) ?_
  refine lv_icmp_eq (tgt := 1473) hx hb dL_law_1468 (by decide) (fun _ => ?_) (fun q => absurd rfl q)
  refine lv_iload hx hb dL_law_1473 (lv_at hl 1 rfl) ?_
  refine g_if_ne (P := k9 = 0) (tgt := 1490) hx hb dL_law_1475 (by decide) (nI_z (by omega)) (fun _ => ?_) (fun hz => ?_)
  · exact lv_goto (tgt := 2162) hx hb dL_law_1490 (by decide) (KK _ _ _ _ _ _ _ hLS hP hO hD hS (lv_sub hl [2, 3, 4, 5, 6, 7] rfl))
  · refine lv_aload_n hx hb dL_law_1478 rfl (lv_at hl 4 rfl) ?_
    refine lv_iconst (v := nI 0) hx hb dL_law_1479 gc_0 ?_
    refine va_lald hx hb hK.1 hO 0 3 rfl rfl (vp_in_iff.mpr (by decide +kernel)) dL_law_1480 ?_
    refine lv_iload hx hb dL_law_1481 (lv_at hl 0 rfl) ?_
    refine lv_i2l (v := r8.toInt64) hx hb dL_law_1483 rfl ?_
    refine W.lcmp hx hb dL_law_1484 ?_
    have h99 : g9 (nI 0).toNatClampNeg = r8.toInt64 := by rw [h8, e1 hz, show (nI 0).toNatClampNeg = 0 from nI_clamp (by decide)]; exact hg9 hz
    exact lv_if_eq (tgt := 1490) hx hb dL_law_1485 (by decide) (fun _ => lv_goto (tgt := 2162) hx hb dL_law_1490 (by decide) (KK _ _ _ _ _ _ _ hLS hP hO hD hS (lv_sub hl [2, 3, 4, 5, 6, 7] rfl))) (fun q => absurd (lg_same h99) q)

set_option maxHeartbeats 1000000 in
set_option maxRecDepth 100000 in
theorem lc_doubtful (l : Launch) (hlt : l.stackTraces = false) {p : Program} {e : Env} {s : State} {m : MethodId} {args : Array Value} {below : List Frame} {meth : Method} {c0 : Code} {Q : State → Prop} {H : Heap} {locs : List Loc} {ls : Array Slot} {ce sl i : Nat} {D : va_G} {cA : Nat → ClassId} {AE : Nat → Prop} {adK adV sa : Nat → Nat} {U : Nat → Nat} {rg : Nat → Option Nat} {A : Nat → Nat} {o od b L : Nat} {xs : Nat → Int32} {x : Nat → Int32} {f : Nat → Nat → Int32} {g : Nat → Int64} {gd : Nat → UInt64} (hx : p.tables.exec = Jvm.exec) (hb : c0.code = cL_law) (hml : c0.maxLocals = 9) (hown : s.vm.findClass RL = some m.cls) (hts : ∀ w ∈ Cond.initialized RL :: gG, w.before args s = true) (hK : gK D cA s) (hE : gE AE adK adV sa s s.heap) (hN : gNc s) (hX : va_X b L xs s s.heap) (hbl : b < s.heap.size) (hL : L ≤ 1536) (hi : i + 3 ≤ L) (hA : aInj 189 U) (hM : mInj A) (hrg : uRg U rg) (hAE : ∀ q, s.heap.size ≤ q → AE q) (hUf : ∀ q, aS 189 U q → s.heap.size ≤ q ∧ ¬ MA A q ∧ q ≠ o ∧ q ≠ od) (hMf : ∀ q, MA A q → s.heap.size ≤ q ∧ q ≠ o ∧ q ≠ od) (hof : s.heap.size ≤ o ∧ s.heap.size ≤ od ∧ o ≠ od) (hce : ce + 9 ≤ room_1.cells) (hsl : sl + 60 ≤ room_1.slots) (hS : va_S (fun q => s.heap.size ≤ q) s.heap H locs) (hl : lv_has ls 9 [(5, .int (nI i)), (4, .ref (od)), (3, .ref (o)), (2, .ref (A 0)), (1, .ref (U 0)), (0, .ref (b))]) (hLS : LST D cA U rg x f H) (hP : va_P D vwCl (mw cA A x f) H) (hO : va_P D vwCl (oL cA o g) H) (hD : va_P D vwCl (oD cA od gd) H)  (KK : ∀ (x1 : Nat → Int32) (f1 : Nat → Nat → Int32) (g1 : Nat → Int64) (gd1 : Nat → UInt64) (H1 : Heap) (locs1 : List Loc) (ls1 : Array Slot), LST D cA U rg x1 f1 H1 → va_P D vwCl (mw cA A x1 f1) H1 → va_P D vwCl (oL cA o g1) H1 → va_P D vwCl (oD cA od gd1) H1 → va_S (fun q => s.heap.size ≤ q) s.heap H1 locs1 → lv_has ls1 9 [(5, .int (nI i)), (4, .ref (od)), (3, .ref (o)), (2, .ref (A 0)), (1, .ref (U 0)), (0, .ref (b))] → W p l e room_1 s m args below meth c0 H1 locs1 (ce + 1) (sl + 6) Q (F0 m 2162 ls1 [])) : W p l e room_1 s m args below meth c0 H locs ce sl Q (F0 m 1493 ls []) := by
  obtain ⟨c, z, rz, hd, ct, rs, dt, mf, mn, tc, tl, to, kd, fi, se, ta, nu, lc, ln, sv, er, R, hU⟩ := hLS
  have hFA : ∀ q, aS 189 U q → AE q := fun q h => hAE q (hUf q h).1
  have hUO : ∀ q, uO U o q → s.heap.size ≤ q := fun q h => h.elim (fun h => (hUf q h).1) (fun h => h ▸ hof.1)
  have hoU : ¬ aS 189 U o := fun h => (hUf o h).2.2.1 rfl
  have hbA : ¬ (fun q => s.heap.size ≤ q) b := fun h => absurd hbl (Nat.not_lt.mpr h)
  refine lv_aload_n hx hb dL_law_1493 rfl (lv_at hl 4 rfl) ?_
  refine lv_aload_n hx hb dL_law_1494 rfl (lv_at hl 5 rfl) ?_
  refine lv_iload hx hb dL_law_1495 (lv_at hl 0 rfl) ?_
  refine lv_iconst (v := nI 1) hx hb dL_law_1497 gc_1 ?_
  refine lv_iadd hx hb dL_law_1498 ?_
  rw [nI_add]
  refine va_sld (A := (fun q => s.heap.size ≤ q)) hx hb hX hbl hbA hS (lp_in (by omega) hL) dL_law_1499 ?_
  refine lv_aload_n hx hb dL_law_1500 rfl (lv_at hl 2 rfl) ?_
  refine wr_calli (vx_runSW (As := [.ref (U 0), .int (xs (nI (i + 1)).toNatClampNeg), .ref (o)]) (rest := []) ⟨hx, hb, hml, hown, hts⟩ (c_L_doubtful l hlt D cA AE adK adV sa U rg c z rz hd ct rs dt mf mn tc tl to kd fi se ta nu lc ln sv er (xs (nI (i + 1)).toNatClampNeg) o g hA hFA hoU (fun q h => hAE q (hUO q h)) R.I.ok) (vx_cwSW 3 hts (gWSL gm_34_13 gm_34_14 gm_6_2 gm_34_15) rfl rfl rfl (by decide +kernel) ⟨Nat.le_of_ble_eq_true rfl, Nat.le_of_ble_eq_true rfl⟩) (gPreSy hK hE hN hS hAE ⟨hU, hO⟩) rfl rfl hl.1 rfl (lv_room (Nat.le_of_ble_eq_true rfl)) dL_law_1501 ⟨by omega, by omega⟩) hS (fun q _ h => hUO q h) (fun q h => hUO q h) (fun r H1 locs1 hw9 hz9 hk9 hS => ?_)
  obtain ⟨k9, rr, g9, rfl, hk2, hg9, hO, C⟩ := hw9
  obtain ⟨e4, e1, hLS⟩ := op_doubtful R C
  have hP := vP_fr hP hk9 (mw_n (A1 := uO U o) hM (fun q h h2 => h2.elim (fun h2 => (hUf q h2).2.1 h) (fun h2 => (hMf q h).2.1 h2)))
  have hD := vP_fr hD hk9 (oD_n (A := uO U o) (fun h => h.elim (fun h => (hUf od h).2.2.2 rfl) (fun h => hof.2.2 h.symm)))
  refine lv_istore (lv' := [(6, .int (nI k9)), (5, .int (nI i)), (4, .ref (od)), (3, .ref (o)), (2, .ref (A 0)), (1, .ref (U 0)), (0, .ref (b))]) hx hb dL_law_1504 hl (by decide) rfl (fun ls hl => ?_)
  refine lv_aload_n hx hb dL_law_1506 rfl (lv_at hl 4 rfl) ?_
  refine lv_aload_n hx hb dL_law_1507 rfl (lv_at hl 6 rfl) ?_
  refine lv_iload hx hb dL_law_1508 (lv_at hl 1 rfl) ?_
  refine lv_iconst (v := nI 1) hx hb dL_law_1510 gc_1 ?_
  refine lv_iadd hx hb dL_law_1511 ?_
  rw [nI_add]
  refine va_sld (A := (fun q => s.heap.size ≤ q)) hx hb hX hbl hbA hS (lp_in (by omega) hL) dL_law_1512 ?_
  refine wr_calli (va_runV (As := [.int (xs (nI (i + 1)).toNatClampNeg)]) (rest := []) ⟨hx, hb, hml, hown, hts⟩ (c_X8_doubtful l D cA A x f (xs (nI (i + 1)).toNatClampNeg) (zjn c) hM R.G.g0 R.I.jn) (cwV 1 hts (gWVL gm_35_9 gm_35_10 gm_35_11 gm_1_5 gm_35_12) rfl rfl rfl (by decide +kernel) ⟨Nat.le_of_ble_eq_true rfl, Nat.le_of_ble_eq_true rfl⟩) (gPreV hK (g_rf hK hP (ci := 10) (q0 := 0) rfl rfl) hP) rfl rfl hl.1 rfl (lv_room (Nat.le_of_ble_eq_true rfl)) dL_law_1513 ⟨by omega, by omega⟩) hS (fun q _ h => (hMf q h).1) (fun q h => (hMf q h).1) (fun r8 H2 locs2 hw8 hz8 hk8 hS => ?_)
  obtain ⟨h8, hP⟩ := hw8
  have hLS := hLS.kept hA hk8 (fun q h => (hUf q h).2.1)
  have hO := vP_fr hO hk8 (oL_n (fun h => (hMf o h).2.1 rfl))
  have hD := vP_fr hD hk8 (oD_n (fun h => (hMf od h).2.2 rfl))
  refine lv_istore (lv' := [(7, .int (r8)), (6, .int (nI k9)), (5, .int (nI i)), (4, .ref (od)), (3, .ref (o)), (2, .ref (A 0)), (1, .ref (U 0)), (0, .ref (b))]) hx hb dL_law_1516 hl (by decide) rfl (fun ls hl => ?_)
  refine lv_aload_n hx hb dL_law_1518 rfl (lv_at hl 5 rfl) ?_
  refine rd_calle (va_runV (As := []) (rest := []) ⟨hx, hb, hml, hown, hts⟩ (c_X8_thrown l D cA A _ _ k9 e4) (cwV 0 hts (gWVL gm_9_20 gm_9_21 gm_9_22 gm_1_5 gm_9_23) rfl rfl rfl (by decide +kernel) ⟨Nat.le_of_ble_eq_true rfl, Nat.le_of_ble_eq_true rfl⟩) (gPreV hK (g_rf hK hP (ci := 10) (q0 := 0) rfl rfl) hP) rfl rfl hl.1 rfl (lv_room (Nat.le_of_ble_eq_true rfl)) dL_law_1519 ⟨by omega, by omega⟩) ?_
  refine lv_iload hx hb dL_law_1522 (lv_at hl 1 rfl) ?_
  refine lv_icmp_eq (tgt := 1529) hx hb dL_law_1524 (by decide) (fun _ => ?_) (fun q => absurd rfl q)
  refine lv_iload hx hb dL_law_1529 (lv_at hl 1 rfl) ?_
  refine g_if_ne (P := k9 = 0) (tgt := 1546) hx hb dL_law_1531 (by decide) (nI_z (by omega)) (fun _ => ?_) (fun hz => ?_)
  · exact lv_goto (tgt := 2162) hx hb dL_law_1546 (by decide) (KK _ _ _ _ _ _ _ hLS hP hO hD hS (lv_sub hl [2, 3, 4, 5, 6, 7] rfl))
  · refine lv_aload_n hx hb dL_law_1534 rfl (lv_at hl 4 rfl) ?_
    refine lv_iconst (v := nI 0) hx hb dL_law_1535 gc_0 ?_
    refine va_lald hx hb hK.1 hO 0 3 rfl rfl (vp_in_iff.mpr (by decide +kernel)) dL_law_1536 ?_
    refine lv_iload hx hb dL_law_1537 (lv_at hl 0 rfl) ?_
    refine lv_i2l (v := r8.toInt64) hx hb dL_law_1539 rfl ?_
    refine W.lcmp hx hb dL_law_1540 ?_
    have h99 : g9 (nI 0).toNatClampNeg = r8.toInt64 := by rw [h8, e1 hz, show (nI 0).toNatClampNeg = 0 from nI_clamp (by decide)]; exact hg9 hz
    exact lv_if_eq (tgt := 1546) hx hb dL_law_1541 (by decide) (fun _ => lv_goto (tgt := 2162) hx hb dL_law_1546 (by decide) (KK _ _ _ _ _ _ _ hLS hP hO hD hS (lv_sub hl [2, 3, 4, 5, 6, 7] rfl))) (fun q => absurd (lg_same h99) q)

set_option maxHeartbeats 1000000 in
set_option maxRecDepth 100000 in
theorem lc_line (l : Launch) (hlt : l.stackTraces = false) {p : Program} {e : Env} {s : State} {m : MethodId} {args : Array Value} {below : List Frame} {meth : Method} {c0 : Code} {Q : State → Prop} {H : Heap} {locs : List Loc} {ls : Array Slot} {ce sl i : Nat} {D : va_G} {cA : Nat → ClassId} {AE : Nat → Prop} {adK adV sa : Nat → Nat} {U : Nat → Nat} {rg : Nat → Option Nat} {A : Nat → Nat} {o od b L : Nat} {xs : Nat → Int32} {x : Nat → Int32} {f : Nat → Nat → Int32} {g : Nat → Int64} {gd : Nat → UInt64} (hx : p.tables.exec = Jvm.exec) (hb : c0.code = cL_law) (hml : c0.maxLocals = 9) (hown : s.vm.findClass RL = some m.cls) (hts : ∀ w ∈ Cond.initialized RL :: gG, w.before args s = true) (hK : gK D cA s) (hE : gE AE adK adV sa s s.heap) (hN : gNc s) (hX : va_X b L xs s s.heap) (hbl : b < s.heap.size) (hL : L ≤ 1536) (hi : i + 3 ≤ L) (hA : aInj 189 U) (hM : mInj A) (hrg : uRg U rg) (hAE : ∀ q, s.heap.size ≤ q → AE q) (hUf : ∀ q, aS 189 U q → s.heap.size ≤ q ∧ ¬ MA A q ∧ q ≠ o ∧ q ≠ od) (hMf : ∀ q, MA A q → s.heap.size ≤ q ∧ q ≠ o ∧ q ≠ od) (hof : s.heap.size ≤ o ∧ s.heap.size ≤ od ∧ o ≠ od) (hce : ce + 9 ≤ room_1.cells) (hsl : sl + 60 ≤ room_1.slots) (hS : va_S (fun q => s.heap.size ≤ q) s.heap H locs) (hl : lv_has ls 9 [(5, .int (nI i)), (4, .ref (od)), (3, .ref (o)), (2, .ref (A 0)), (1, .ref (U 0)), (0, .ref (b))]) (hLS : LST D cA U rg x f H) (hP : va_P D vwCl (mw cA A x f) H) (hO : va_P D vwCl (oL cA o g) H) (hD : va_P D vwCl (oD cA od gd) H)  (KK : ∀ (x1 : Nat → Int32) (f1 : Nat → Nat → Int32) (g1 : Nat → Int64) (gd1 : Nat → UInt64) (H1 : Heap) (locs1 : List Loc) (ls1 : Array Slot), LST D cA U rg x1 f1 H1 → va_P D vwCl (mw cA A x1 f1) H1 → va_P D vwCl (oL cA o g1) H1 → va_P D vwCl (oD cA od gd1) H1 → va_S (fun q => s.heap.size ≤ q) s.heap H1 locs1 → lv_has ls1 9 [(5, .int (nI i)), (4, .ref (od)), (3, .ref (o)), (2, .ref (A 0)), (1, .ref (U 0)), (0, .ref (b))] → W p l e room_1 s m args below meth c0 H1 locs1 (ce + 1) (sl + 6) Q (F0 m 2162 ls1 [])) : W p l e room_1 s m args below meth c0 H locs ce sl Q (F0 m 1549 ls []) := by
  obtain ⟨c, z, rz, hd, ct, rs, dt, mf, mn, tc, tl, to, kd, fi, se, ta, nu, lc, ln, sv, er, R, hU⟩ := hLS
  have hFA : ∀ q, aS 189 U q → AE q := fun q h => hAE q (hUf q h).1
  have hUO : ∀ q, uO U o q → s.heap.size ≤ q := fun q h => h.elim (fun h => (hUf q h).1) (fun h => h ▸ hof.1)
  have hoU : ¬ aS 189 U o := fun h => (hUf o h).2.2.1 rfl
  have hbA : ¬ (fun q => s.heap.size ≤ q) b := fun h => absurd hbl (Nat.not_lt.mpr h)
  refine lv_aload_n hx hb dL_law_1549 rfl (lv_at hl 4 rfl) ?_
  refine lv_aload_n hx hb dL_law_1550 rfl (lv_at hl 5 rfl) ?_
  refine lv_iload hx hb dL_law_1551 (lv_at hl 0 rfl) ?_
  refine lv_iconst (v := nI 1) hx hb dL_law_1553 gc_1 ?_
  refine lv_iadd hx hb dL_law_1554 ?_
  rw [nI_add]
  refine va_sld (A := (fun q => s.heap.size ≤ q)) hx hb hX hbl hbA hS (lp_in (by omega) hL) dL_law_1555 ?_
  refine lv_aload_n hx hb dL_law_1556 rfl (lv_at hl 2 rfl) ?_
  refine wr_calli (vx_runSW (As := [.ref (U 0), .int (xs (nI (i + 1)).toNatClampNeg), .ref (o)]) (rest := []) ⟨hx, hb, hml, hown, hts⟩ (c_L_line l hlt D cA AE adK adV sa U rg c z rz hd ct rs dt mf mn tc tl to kd fi se ta nu lc ln sv er (xs (nI (i + 1)).toNatClampNeg) o g hA hFA hoU (fun q h => hAE q (hUO q h)) R.I.ok (fun q hq => RR_ml R hq)) (vx_cwSW 3 hts (gWSL gm_35_17 gm_35_18 gm_6_2 gm_35_19) rfl rfl rfl (by decide +kernel) ⟨Nat.le_of_ble_eq_true rfl, Nat.le_of_ble_eq_true rfl⟩) (gPreSy hK hE hN hS hAE ⟨hU, hO⟩) rfl rfl hl.1 rfl (lv_room (Nat.le_of_ble_eq_true rfl)) dL_law_1557 ⟨by omega, by omega⟩) hS (fun q _ h => hUO q h) (fun q h => hUO q h) (fun r H1 locs1 hw9 hz9 hk9 hS => ?_)
  obtain ⟨k9, rr, g9, rfl, hk2, hg9, hO, C⟩ := hw9
  obtain ⟨e4, e1, hLS⟩ := op_line R C
  have hP := vP_fr hP hk9 (mw_n (A1 := uO U o) hM (fun q h h2 => h2.elim (fun h2 => (hUf q h2).2.1 h) (fun h2 => (hMf q h).2.1 h2)))
  have hD := vP_fr hD hk9 (oD_n (A := uO U o) (fun h => h.elim (fun h => (hUf od h).2.2.2 rfl) (fun h => hof.2.2 h.symm)))
  refine lv_istore (lv' := [(6, .int (nI k9)), (5, .int (nI i)), (4, .ref (od)), (3, .ref (o)), (2, .ref (A 0)), (1, .ref (U 0)), (0, .ref (b))]) hx hb dL_law_1560 hl (by decide) rfl (fun ls hl => ?_)
  refine lv_aload_n hx hb dL_law_1562 rfl (lv_at hl 4 rfl) ?_
  refine lv_aload_n hx hb dL_law_1563 rfl (lv_at hl 6 rfl) ?_
  refine lv_iload hx hb dL_law_1564 (lv_at hl 1 rfl) ?_
  refine lv_iconst (v := nI 1) hx hb dL_law_1566 gc_1 ?_
  refine lv_iadd hx hb dL_law_1567 ?_
  rw [nI_add]
  refine va_sld (A := (fun q => s.heap.size ≤ q)) hx hb hX hbl hbA hS (lp_in (by omega) hL) dL_law_1568 ?_
  refine wr_calli (va_runV (As := [.int (xs (nI (i + 1)).toNatClampNeg)]) (rest := []) ⟨hx, hb, hml, hown, hts⟩ (c_X8_line l D cA A x f (xs (nI (i + 1)).toNatClampNeg) (zjn c) (zcn c) hM R.G.g0 R.I.jn R.G.g1 R.I.cn (RR_ln R)) (cwV 1 hts (gWVL gm_37_0 gm_37_1 gm_37_2 gm_1_5 gm_37_3) rfl rfl rfl (by decide +kernel) ⟨Nat.le_of_ble_eq_true rfl, Nat.le_of_ble_eq_true rfl⟩) (gPreV hK (g_rf hK hP (ci := 10) (q0 := 0) rfl rfl) hP) rfl rfl hl.1 rfl (lv_room (Nat.le_of_ble_eq_true rfl)) dL_law_1569 ⟨by omega, by omega⟩) hS (fun q _ h => (hMf q h).1) (fun q h => (hMf q h).1) (fun r8 H2 locs2 hw8 hz8 hk8 hS => ?_)
  obtain ⟨h8, hP⟩ := hw8
  have hLS := hLS.kept hA hk8 (fun q h => (hUf q h).2.1)
  have hO := vP_fr hO hk8 (oL_n (fun h => (hMf o h).2.1 rfl))
  have hD := vP_fr hD hk8 (oD_n (fun h => (hMf od h).2.2 rfl))
  refine lv_istore (lv' := [(7, .int (r8)), (6, .int (nI k9)), (5, .int (nI i)), (4, .ref (od)), (3, .ref (o)), (2, .ref (A 0)), (1, .ref (U 0)), (0, .ref (b))]) hx hb dL_law_1572 hl (by decide) rfl (fun ls hl => ?_)
  refine lv_aload_n hx hb dL_law_1574 rfl (lv_at hl 5 rfl) ?_
  refine rd_calle (va_runV (As := []) (rest := []) ⟨hx, hb, hml, hown, hts⟩ (c_X8_thrown l D cA A _ _ k9 e4) (cwV 0 hts (gWVL gm_9_20 gm_9_21 gm_9_22 gm_1_5 gm_9_23) rfl rfl rfl (by decide +kernel) ⟨Nat.le_of_ble_eq_true rfl, Nat.le_of_ble_eq_true rfl⟩) (gPreV hK (g_rf hK hP (ci := 10) (q0 := 0) rfl rfl) hP) rfl rfl hl.1 rfl (lv_room (Nat.le_of_ble_eq_true rfl)) dL_law_1575 ⟨by omega, by omega⟩) ?_
  refine lv_iload hx hb dL_law_1578 (lv_at hl 1 rfl) ?_
  refine lv_icmp_eq (tgt := 1585) hx hb dL_law_1580 (by decide) (fun _ => ?_) (fun q => absurd rfl q)
  refine lv_iload hx hb dL_law_1585 (lv_at hl 1 rfl) ?_
  refine g_if_ne (P := k9 = 0) (tgt := 1602) hx hb dL_law_1587 (by decide) (nI_z (by omega)) (fun _ => ?_) (fun hz => ?_)
  · exact lv_goto (tgt := 2162) hx hb dL_law_1602 (by decide) (KK _ _ _ _ _ _ _ hLS hP hO hD hS (lv_sub hl [2, 3, 4, 5, 6, 7] rfl))
  · refine lv_aload_n hx hb dL_law_1590 rfl (lv_at hl 4 rfl) ?_
    refine lv_iconst (v := nI 0) hx hb dL_law_1591 gc_0 ?_
    refine va_lald hx hb hK.1 hO 0 3 rfl rfl (vp_in_iff.mpr (by decide +kernel)) dL_law_1592 ?_
    refine lv_iload hx hb dL_law_1593 (lv_at hl 0 rfl) ?_
    refine lv_i2l (v := r8.toInt64) hx hb dL_law_1595 rfl ?_
    refine W.lcmp hx hb dL_law_1596 ?_
    have h99 : g9 (nI 0).toNatClampNeg = r8.toInt64 := by rw [h8, e1 hz, show (nI 0).toNatClampNeg = 0 from nI_clamp (by decide)]; exact hg9 hz
    exact lv_if_eq (tgt := 1602) hx hb dL_law_1597 (by decide) (fun _ => lv_goto (tgt := 2162) hx hb dL_law_1602 (by decide) (KK _ _ _ _ _ _ _ hLS hP hO hD hS (lv_sub hl [2, 3, 4, 5, 6, 7] rfl))) (fun q => absurd (lg_same h99) q)

set_option maxHeartbeats 1000000 in
set_option maxRecDepth 100000 in
theorem lc_rollLine (l : Launch) (hlt : l.stackTraces = false) {p : Program} {e : Env} {s : State} {m : MethodId} {args : Array Value} {below : List Frame} {meth : Method} {c0 : Code} {Q : State → Prop} {H : Heap} {locs : List Loc} {ls : Array Slot} {ce sl i : Nat} {D : va_G} {cA : Nat → ClassId} {AE : Nat → Prop} {adK adV sa : Nat → Nat} {U : Nat → Nat} {rg : Nat → Option Nat} {A : Nat → Nat} {o od b L : Nat} {xs : Nat → Int32} {x : Nat → Int32} {f : Nat → Nat → Int32} {g : Nat → Int64} {gd : Nat → UInt64} (hx : p.tables.exec = Jvm.exec) (hb : c0.code = cL_law) (hml : c0.maxLocals = 9) (hown : s.vm.findClass RL = some m.cls) (hts : ∀ w ∈ Cond.initialized RL :: gG, w.before args s = true) (hK : gK D cA s) (hE : gE AE adK adV sa s s.heap) (hN : gNc s) (hX : va_X b L xs s s.heap) (hbl : b < s.heap.size) (hL : L ≤ 1536) (hi : i + 3 ≤ L) (hA : aInj 189 U) (hM : mInj A) (hrg : uRg U rg) (hAE : ∀ q, s.heap.size ≤ q → AE q) (hUf : ∀ q, aS 189 U q → s.heap.size ≤ q ∧ ¬ MA A q ∧ q ≠ o ∧ q ≠ od) (hMf : ∀ q, MA A q → s.heap.size ≤ q ∧ q ≠ o ∧ q ≠ od) (hof : s.heap.size ≤ o ∧ s.heap.size ≤ od ∧ o ≠ od) (hce : ce + 9 ≤ room_1.cells) (hsl : sl + 60 ≤ room_1.slots) (hS : va_S (fun q => s.heap.size ≤ q) s.heap H locs) (hl : lv_has ls 9 [(5, .int (nI i)), (4, .ref (od)), (3, .ref (o)), (2, .ref (A 0)), (1, .ref (U 0)), (0, .ref (b))]) (hLS : LST D cA U rg x f H) (hP : va_P D vwCl (mw cA A x f) H) (hO : va_P D vwCl (oL cA o g) H) (hD : va_P D vwCl (oD cA od gd) H)  (KK : ∀ (x1 : Nat → Int32) (f1 : Nat → Nat → Int32) (g1 : Nat → Int64) (gd1 : Nat → UInt64) (H1 : Heap) (locs1 : List Loc) (ls1 : Array Slot), LST D cA U rg x1 f1 H1 → va_P D vwCl (mw cA A x1 f1) H1 → va_P D vwCl (oL cA o g1) H1 → va_P D vwCl (oD cA od gd1) H1 → va_S (fun q => s.heap.size ≤ q) s.heap H1 locs1 → lv_has ls1 9 [(5, .int (nI i)), (4, .ref (od)), (3, .ref (o)), (2, .ref (A 0)), (1, .ref (U 0)), (0, .ref (b))] → W p l e room_1 s m args below meth c0 H1 locs1 (ce + 1) (sl + 6) Q (F0 m 2162 ls1 [])) : W p l e room_1 s m args below meth c0 H locs ce sl Q (F0 m 1605 ls []) := by
  obtain ⟨c, z, rz, hd, ct, rs, dt, mf, mn, tc, tl, to, kd, fi, se, ta, nu, lc, ln, sv, er, R, hU⟩ := hLS
  have hFA : ∀ q, aS 189 U q → AE q := fun q h => hAE q (hUf q h).1
  refine lv_aload_n hx hb dL_law_1605 rfl (lv_at hl 4 rfl) ?_
  refine wr_calli (va_runV (As := []) (rest := []) ⟨hx, hb, hml, hown, hts⟩ (c_X7_rollLine l D cA AE adK adV sa U rg c z rz hd ct rs dt mf mn tc tl to kd fi se ta nu lc ln sv er hA hFA R.I.ok) (cwV 0 hts (gWVL gm_37_13 gm_37_14 gm_37_15 gm_1_2 gm_37_16) rfl rfl rfl (by decide +kernel) ⟨Nat.le_of_ble_eq_true rfl, Nat.le_of_ble_eq_true rfl⟩) (gPreVx hK hE hS hAE (g_rf hK hU (ci := 9) (q0 := 0) rfl rfl) hU) rfl rfl hl.1 rfl (lv_room (Nat.le_of_ble_eq_true rfl)) dL_law_1606 ⟨by omega, by omega⟩) hS (fun q _ h => (hUf q h).1) (fun q h => (hUf q h).1) (fun r H1 locs1 C hz9 hk9 hS => ?_)
  obtain ⟨e1, hLS⟩ := op_rollLine R C
  have hP := vP_fr hP hk9 (mw_n (A1 := aS 189 U) hM (fun q h h2 => (hUf q h2).2.1 h))
  have hO := vP_fr hO hk9 (oL_n (A := aS 189 U) (fun h => (hUf o h).2.2.1 rfl))
  have hD := vP_fr hD hk9 (oD_n (A := aS 189 U) (fun h => (hUf od h).2.2.2 rfl))
  refine lv_aload_n hx hb dL_law_1609 rfl (lv_at hl 3 rfl) ?_
  refine wr_calli (va_runV (As := []) (rest := [.int r]) ⟨hx, hb, hml, hown, hts⟩ (c_X8_rollLine l D cA A x f (zcn c) hM R.G.g1 R.I.cn (RR_rk R)) (cwV 0 hts (gWVL gm_37_23 gm_38_0 gm_38_1 gm_1_5 gm_38_2) rfl rfl rfl (by decide +kernel) ⟨Nat.le_of_ble_eq_true rfl, Nat.le_of_ble_eq_true rfl⟩) (gPreV hK (g_rf hK hP (ci := 10) (q0 := 0) rfl rfl) hP) rfl rfl hl.1 rfl (lv_room (Nat.le_of_ble_eq_true rfl)) dL_law_1610 ⟨by omega, by omega⟩) hS (fun q _ h => (hMf q h).1) (fun q h => (hMf q h).1) (fun r8 H2 locs2 hw8 hz8 hk8 hS => ?_)
  obtain ⟨h8, hP⟩ := hw8
  have hLS := hLS.kept hA hk8 (fun q h => (hUf q h).2.1)
  have hO := vP_fr hO hk8 (oL_n (fun h => (hMf o h).2.1 rfl))
  have hD := vP_fr hD hk8 (oD_n (fun h => (hMf od h).2.2 rfl))
  exact lv_icmp_eq (tgt := 2162) hx hb dL_law_1613 (by decide) (fun _ => W.widen (k := ce + 1) (n := sl + 6) (by omega) (by omega) (KK _ _ _ _ _ _ _ hLS hP hO hD hS hl)) (fun q => absurd (e1.symm.trans h8.symm) q)

set_option maxHeartbeats 1000000 in
set_option maxRecDepth 100000 in
theorem lc_character (l : Launch) (hlt : l.stackTraces = false) {p : Program} {e : Env} {s : State} {m : MethodId} {args : Array Value} {below : List Frame} {meth : Method} {c0 : Code} {Q : State → Prop} {H : Heap} {locs : List Loc} {ls : Array Slot} {ce sl i : Nat} {D : va_G} {cA : Nat → ClassId} {AE : Nat → Prop} {adK adV sa : Nat → Nat} {U : Nat → Nat} {rg : Nat → Option Nat} {A : Nat → Nat} {o od b L : Nat} {xs : Nat → Int32} {x : Nat → Int32} {f : Nat → Nat → Int32} {g : Nat → Int64} {gd : Nat → UInt64} (hx : p.tables.exec = Jvm.exec) (hb : c0.code = cL_law) (hml : c0.maxLocals = 9) (hown : s.vm.findClass RL = some m.cls) (hts : ∀ w ∈ Cond.initialized RL :: gG, w.before args s = true) (hK : gK D cA s) (hE : gE AE adK adV sa s s.heap) (hN : gNc s) (hX : va_X b L xs s s.heap) (hbl : b < s.heap.size) (hL : L ≤ 1536) (hi : i + 3 ≤ L) (hA : aInj 189 U) (hM : mInj A) (hrg : uRg U rg) (hAE : ∀ q, s.heap.size ≤ q → AE q) (hUf : ∀ q, aS 189 U q → s.heap.size ≤ q ∧ ¬ MA A q ∧ q ≠ o ∧ q ≠ od) (hMf : ∀ q, MA A q → s.heap.size ≤ q ∧ q ≠ o ∧ q ≠ od) (hof : s.heap.size ≤ o ∧ s.heap.size ≤ od ∧ o ≠ od) (hce : ce + 9 ≤ room_1.cells) (hsl : sl + 60 ≤ room_1.slots) (hS : va_S (fun q => s.heap.size ≤ q) s.heap H locs) (hl : lv_has ls 9 [(5, .int (nI i)), (4, .ref (od)), (3, .ref (o)), (2, .ref (A 0)), (1, .ref (U 0)), (0, .ref (b))]) (hLS : LST D cA U rg x f H) (hP : va_P D vwCl (mw cA A x f) H) (hO : va_P D vwCl (oL cA o g) H) (hD : va_P D vwCl (oD cA od gd) H)  (KK : ∀ (x1 : Nat → Int32) (f1 : Nat → Nat → Int32) (g1 : Nat → Int64) (gd1 : Nat → UInt64) (H1 : Heap) (locs1 : List Loc) (ls1 : Array Slot), LST D cA U rg x1 f1 H1 → va_P D vwCl (mw cA A x1 f1) H1 → va_P D vwCl (oL cA o g1) H1 → va_P D vwCl (oD cA od gd1) H1 → va_S (fun q => s.heap.size ≤ q) s.heap H1 locs1 → lv_has ls1 9 [(5, .int (nI i)), (4, .ref (od)), (3, .ref (o)), (2, .ref (A 0)), (1, .ref (U 0)), (0, .ref (b))] → W p l e room_1 s m args below meth c0 H1 locs1 (ce + 1) (sl + 6) Q (F0 m 2162 ls1 [])) : W p l e room_1 s m args below meth c0 H locs ce sl Q (F0 m 1618 ls []) := by
  obtain ⟨c, z, rz, hd, ct, rs, dt, mf, mn, tc, tl, to, kd, fi, se, ta, nu, lc, ln, sv, er, R, hU⟩ := hLS
  have hFA : ∀ q, aS 189 U q → AE q := fun q h => hAE q (hUf q h).1
  have hUO : ∀ q, uO U o q → s.heap.size ≤ q := fun q h => h.elim (fun h => (hUf q h).1) (fun h => h ▸ hof.1)
  have hoU : ¬ aS 189 U o := fun h => (hUf o h).2.2.1 rfl
  have hbA : ¬ (fun q => s.heap.size ≤ q) b := fun h => absurd hbl (Nat.not_lt.mpr h)
  refine lv_aload_n hx hb dL_law_1618 rfl (lv_at hl 4 rfl) ?_
  refine lv_aload_n hx hb dL_law_1619 rfl (lv_at hl 5 rfl) ?_
  refine lv_iload hx hb dL_law_1620 (lv_at hl 0 rfl) ?_
  refine lv_iconst (v := nI 1) hx hb dL_law_1622 gc_1 ?_
  refine lv_iadd hx hb dL_law_1623 ?_
  rw [nI_add]
  refine va_sld (A := (fun q => s.heap.size ≤ q)) hx hb hX hbl hbA hS (lp_in (by omega) hL) dL_law_1624 ?_
  refine lv_aload_n hx hb dL_law_1625 rfl (lv_at hl 2 rfl) ?_
  refine wr_calli (vx_runSW (As := [.ref (U 0), .int (xs (nI (i + 1)).toNatClampNeg), .ref (o)]) (rest := []) ⟨hx, hb, hml, hown, hts⟩ (c_L_character l hlt D cA AE adK adV sa U rg c z rz hd ct rs dt mf mn tc tl to kd fi se ta nu lc ln sv er (xs (nI (i + 1)).toNatClampNeg) o g hA hFA hoU (fun q h => hAE q (hUO q h)) R.I.ok R.L.1 (fun k hk => RR_lc R hk)) (vx_cwSW 3 hts (gWSL gm_38_3 gm_38_4 gm_6_2 gm_38_5) rfl rfl rfl (by decide +kernel) ⟨Nat.le_of_ble_eq_true rfl, Nat.le_of_ble_eq_true rfl⟩) (gPreSy hK hE hN hS hAE ⟨hU, hO⟩) rfl rfl hl.1 rfl (lv_room (Nat.le_of_ble_eq_true rfl)) dL_law_1626 ⟨by omega, by omega⟩) hS (fun q _ h => hUO q h) (fun q h => hUO q h) (fun r H1 locs1 hw9 hz9 hk9 hS => ?_)
  obtain ⟨k9, rr, g9, rfl, hk2, hg9, hO, C⟩ := hw9
  obtain ⟨e4, e1, hLS⟩ := op_character R C
  have hP := vP_fr hP hk9 (mw_n (A1 := uO U o) hM (fun q h h2 => h2.elim (fun h2 => (hUf q h2).2.1 h) (fun h2 => (hMf q h).2.1 h2)))
  have hD := vP_fr hD hk9 (oD_n (A := uO U o) (fun h => h.elim (fun h => (hUf od h).2.2.2 rfl) (fun h => hof.2.2 h.symm)))
  refine lv_istore (lv' := [(6, .int (nI k9)), (5, .int (nI i)), (4, .ref (od)), (3, .ref (o)), (2, .ref (A 0)), (1, .ref (U 0)), (0, .ref (b))]) hx hb dL_law_1629 hl (by decide) rfl (fun ls hl => ?_)
  refine lv_aload_n hx hb dL_law_1631 rfl (lv_at hl 4 rfl) ?_
  refine lv_aload_n hx hb dL_law_1632 rfl (lv_at hl 6 rfl) ?_
  refine lv_iload hx hb dL_law_1633 (lv_at hl 1 rfl) ?_
  refine lv_iconst (v := nI 1) hx hb dL_law_1635 gc_1 ?_
  refine lv_iadd hx hb dL_law_1636 ?_
  rw [nI_add]
  refine va_sld (A := (fun q => s.heap.size ≤ q)) hx hb hX hbl hbA hS (lp_in (by omega) hL) dL_law_1637 ?_
  refine wr_calli (va_runV (As := [.int (xs (nI (i + 1)).toNatClampNeg)]) (rest := []) ⟨hx, hb, hml, hown, hts⟩ (c_X8_character l D cA A x f (xs (nI (i + 1)).toNatClampNeg) ln hM R.L.2.1 (Nat.le_trans R.L.1 (by decide)) (RR_ch R)) (cwV 1 hts (gWVL gm_38_11 gm_38_12 gm_38_13 gm_1_5 gm_38_14) rfl rfl rfl (by decide +kernel) ⟨Nat.le_of_ble_eq_true rfl, Nat.le_of_ble_eq_true rfl⟩) (gPreV hK (g_rf hK hP (ci := 10) (q0 := 0) rfl rfl) hP) rfl rfl hl.1 rfl (lv_room (Nat.le_of_ble_eq_true rfl)) dL_law_1638 ⟨by omega, by omega⟩) hS (fun q _ h => (hMf q h).1) (fun q h => (hMf q h).1) (fun r8 H2 locs2 hw8 hz8 hk8 hS => ?_)
  obtain ⟨h8, hP⟩ := hw8
  have hLS := hLS.kept hA hk8 (fun q h => (hUf q h).2.1)
  have hO := vP_fr hO hk8 (oL_n (fun h => (hMf o h).2.1 rfl))
  have hD := vP_fr hD hk8 (oD_n (fun h => (hMf od h).2.2 rfl))
  refine lv_istore (lv' := [(7, .int (r8)), (6, .int (nI k9)), (5, .int (nI i)), (4, .ref (od)), (3, .ref (o)), (2, .ref (A 0)), (1, .ref (U 0)), (0, .ref (b))]) hx hb dL_law_1641 hl (by decide) rfl (fun ls hl => ?_)
  refine lv_aload_n hx hb dL_law_1643 rfl (lv_at hl 5 rfl) ?_
  refine rd_calle (va_runV (As := []) (rest := []) ⟨hx, hb, hml, hown, hts⟩ (c_X8_thrown l D cA A _ _ k9 e4) (cwV 0 hts (gWVL gm_9_20 gm_9_21 gm_9_22 gm_1_5 gm_9_23) rfl rfl rfl (by decide +kernel) ⟨Nat.le_of_ble_eq_true rfl, Nat.le_of_ble_eq_true rfl⟩) (gPreV hK (g_rf hK hP (ci := 10) (q0 := 0) rfl rfl) hP) rfl rfl hl.1 rfl (lv_room (Nat.le_of_ble_eq_true rfl)) dL_law_1644 ⟨by omega, by omega⟩) ?_
  refine lv_iload hx hb dL_law_1647 (lv_at hl 1 rfl) ?_
  refine lv_icmp_eq (tgt := 1654) hx hb dL_law_1649 (by decide) (fun _ => ?_) (fun q => absurd rfl q)
  refine lv_iload hx hb dL_law_1654 (lv_at hl 1 rfl) ?_
  refine g_if_ne (P := k9 = 0) (tgt := 1671) hx hb dL_law_1656 (by decide) (nI_z (by omega)) (fun _ => ?_) (fun hz => ?_)
  · exact lv_goto (tgt := 2162) hx hb dL_law_1671 (by decide) (KK _ _ _ _ _ _ _ hLS hP hO hD hS (lv_sub hl [2, 3, 4, 5, 6, 7] rfl))
  · refine lv_aload_n hx hb dL_law_1659 rfl (lv_at hl 4 rfl) ?_
    refine lv_iconst (v := nI 0) hx hb dL_law_1660 gc_0 ?_
    refine va_lald hx hb hK.1 hO 0 3 rfl rfl (vp_in_iff.mpr (by decide +kernel)) dL_law_1661 ?_
    refine lv_iload hx hb dL_law_1662 (lv_at hl 0 rfl) ?_
    refine lv_i2l (v := r8.toInt64) hx hb dL_law_1664 rfl ?_
    refine W.lcmp hx hb dL_law_1665 ?_
    have h99 : g9 (nI 0).toNatClampNeg = r8.toInt64 := by rw [h8, e1 hz, show (nI 0).toNatClampNeg = 0 from nI_clamp (by decide)]; exact hg9 hz
    exact lv_if_eq (tgt := 1671) hx hb dL_law_1666 (by decide) (fun _ => lv_goto (tgt := 2162) hx hb dL_law_1671 (by decide) (KK _ _ _ _ _ _ _ hLS hP hO hD hS (lv_sub hl [2, 3, 4, 5, 6, 7] rfl))) (fun q => absurd (lg_same h99) q)

set_option maxHeartbeats 1000000 in
set_option maxRecDepth 100000 in
theorem lc_append (l : Launch) (hlt : l.stackTraces = false) {p : Program} {e : Env} {s : State} {m : MethodId} {args : Array Value} {below : List Frame} {meth : Method} {c0 : Code} {Q : State → Prop} {H : Heap} {locs : List Loc} {ls : Array Slot} {ce sl i : Nat} {D : va_G} {cA : Nat → ClassId} {AE : Nat → Prop} {adK adV sa : Nat → Nat} {U : Nat → Nat} {rg : Nat → Option Nat} {A : Nat → Nat} {o od b L : Nat} {xs : Nat → Int32} {x : Nat → Int32} {f : Nat → Nat → Int32} {g : Nat → Int64} {gd : Nat → UInt64} (hx : p.tables.exec = Jvm.exec) (hb : c0.code = cL_law) (hml : c0.maxLocals = 9) (hown : s.vm.findClass RL = some m.cls) (hts : ∀ w ∈ Cond.initialized RL :: gG, w.before args s = true) (hK : gK D cA s) (hE : gE AE adK adV sa s s.heap) (hN : gNc s) (hX : va_X b L xs s s.heap) (hbl : b < s.heap.size) (hL : L ≤ 1536) (hi : i + 3 ≤ L) (hA : aInj 189 U) (hM : mInj A) (hrg : uRg U rg) (hAE : ∀ q, s.heap.size ≤ q → AE q) (hUf : ∀ q, aS 189 U q → s.heap.size ≤ q ∧ ¬ MA A q ∧ q ≠ o ∧ q ≠ od) (hMf : ∀ q, MA A q → s.heap.size ≤ q ∧ q ≠ o ∧ q ≠ od) (hof : s.heap.size ≤ o ∧ s.heap.size ≤ od ∧ o ≠ od) (hce : ce + 9 ≤ room_1.cells) (hsl : sl + 60 ≤ room_1.slots) (hS : va_S (fun q => s.heap.size ≤ q) s.heap H locs) (hl : lv_has ls 9 [(5, .int (nI i)), (4, .ref (od)), (3, .ref (o)), (2, .ref (A 0)), (1, .ref (U 0)), (0, .ref (b))]) (hLS : LST D cA U rg x f H) (hP : va_P D vwCl (mw cA A x f) H) (hO : va_P D vwCl (oL cA o g) H) (hD : va_P D vwCl (oD cA od gd) H)  (KK : ∀ (x1 : Nat → Int32) (f1 : Nat → Nat → Int32) (g1 : Nat → Int64) (gd1 : Nat → UInt64) (H1 : Heap) (locs1 : List Loc) (ls1 : Array Slot), LST D cA U rg x1 f1 H1 → va_P D vwCl (mw cA A x1 f1) H1 → va_P D vwCl (oL cA o g1) H1 → va_P D vwCl (oD cA od gd1) H1 → va_S (fun q => s.heap.size ≤ q) s.heap H1 locs1 → lv_has ls1 9 [(5, .int (nI i)), (4, .ref (od)), (3, .ref (o)), (2, .ref (A 0)), (1, .ref (U 0)), (0, .ref (b))] → W p l e room_1 s m args below meth c0 H1 locs1 (ce + 1) (sl + 6) Q (F0 m 2162 ls1 [])) : W p l e room_1 s m args below meth c0 H locs ce sl Q (F0 m 1674 ls []) := by
  obtain ⟨c, z, rz, hd, ct, rs, dt, mf, mn, tc, tl, to, kd, fi, se, ta, nu, lc, ln, sv, er, R, hU⟩ := hLS
  have hFA : ∀ q, aS 189 U q → AE q := fun q h => hAE q (hUf q h).1
  have hUO : ∀ q, uO U o q → s.heap.size ≤ q := fun q h => h.elim (fun h => (hUf q h).1) (fun h => h ▸ hof.1)
  have hoU : ¬ aS 189 U o := fun h => (hUf o h).2.2.1 rfl
  have hbA : ¬ (fun q => s.heap.size ≤ q) b := fun h => absurd hbl (Nat.not_lt.mpr h)
  refine lv_aload_n hx hb dL_law_1674 rfl (lv_at hl 4 rfl) ?_
  refine lv_aload_n hx hb dL_law_1675 rfl (lv_at hl 5 rfl) ?_
  refine lv_iload hx hb dL_law_1676 (lv_at hl 0 rfl) ?_
  refine lv_iconst (v := nI 1) hx hb dL_law_1678 gc_1 ?_
  refine lv_iadd hx hb dL_law_1679 ?_
  rw [nI_add]
  refine va_sld (A := (fun q => s.heap.size ≤ q)) hx hb hX hbl hbA hS (lp_in (by omega) hL) dL_law_1680 ?_
  refine lv_i2c hx hb dL_law_1681 (cN_i _) ?_
  refine lv_aload_n hx hb dL_law_1682 rfl (lv_at hl 2 rfl) ?_
  refine wr_calli (vx_runSW (As := [.ref (U 0), .int (nI (cN (xs (nI (i + 1)).toNatClampNeg))), .ref (o)]) (rest := []) ⟨hx, hb, hml, hown, hts⟩ (c_L_append l hlt D cA AE adK adV sa U rg c z rz hd ct rs dt mf mn tc tl to kd fi se ta nu lc ln sv er ((cN (xs (nI (i + 1)).toNatClampNeg))) o g hA hFA hoU (fun q h => hAE q (hUO q h)) R.I.ok R.T.1 (cN_lt _)) (vx_cwSW 3 hts (gWSL gm_38_15 gm_38_16 gm_6_2 gm_38_17) rfl rfl rfl (by decide +kernel) ⟨Nat.le_of_ble_eq_true rfl, Nat.le_of_ble_eq_true rfl⟩) (gPreSy hK hE hN hS hAE ⟨hU, hO⟩) rfl rfl hl.1 rfl (lv_room (Nat.le_of_ble_eq_true rfl)) dL_law_1683 ⟨by omega, by omega⟩) hS (fun q _ h => hUO q h) (fun q h => hUO q h) (fun r H1 locs1 hw9 hz9 hk9 hS => ?_)
  obtain ⟨k9, rr, g9, rfl, hk2, hg9, hO, C⟩ := hw9
  obtain ⟨e4, e1, hLS⟩ := op_append R (cN_lt _) C
  have hP := vP_fr hP hk9 (mw_n (A1 := uO U o) hM (fun q h h2 => h2.elim (fun h2 => (hUf q h2).2.1 h) (fun h2 => (hMf q h).2.1 h2)))
  have hD := vP_fr hD hk9 (oD_n (A := uO U o) (fun h => h.elim (fun h => (hUf od h).2.2.2 rfl) (fun h => hof.2.2 h.symm)))
  refine lv_istore (lv' := [(6, .int (nI k9)), (5, .int (nI i)), (4, .ref (od)), (3, .ref (o)), (2, .ref (A 0)), (1, .ref (U 0)), (0, .ref (b))]) hx hb dL_law_1686 hl (by decide) rfl (fun ls hl => ?_)
  refine lv_aload_n hx hb dL_law_1688 rfl (lv_at hl 4 rfl) ?_
  refine lv_aload_n hx hb dL_law_1689 rfl (lv_at hl 6 rfl) ?_
  refine lv_iload hx hb dL_law_1690 (lv_at hl 1 rfl) ?_
  refine lv_iconst (v := nI 1) hx hb dL_law_1692 gc_1 ?_
  refine lv_iadd hx hb dL_law_1693 ?_
  rw [nI_add]
  refine va_sld (A := (fun q => s.heap.size ≤ q)) hx hb hX hbl hbA hS (lp_in (by omega) hL) dL_law_1694 ?_
  refine lv_i2c hx hb dL_law_1695 (cN_i _) ?_
  refine wr_calli (va_runV (As := [.int (nI (cN (xs (nI (i + 1)).toNatClampNeg)))]) (rest := []) ⟨hx, hb, hml, hown, hts⟩ (c_X8_append l D cA A x f (nI (cN (xs (nI (i + 1)).toNatClampNeg))) tl hM R.x7 R.T.1) (cwV 1 hts (gWVL gm_39_6 gm_39_7 gm_39_8 gm_1_5 gm_39_9) rfl rfl rfl (by decide +kernel) ⟨Nat.le_of_ble_eq_true rfl, Nat.le_of_ble_eq_true rfl⟩) (gPreV hK (g_rf hK hP (ci := 10) (q0 := 0) rfl rfl) hP) rfl rfl hl.1 rfl (lv_room (Nat.le_of_ble_eq_true rfl)) dL_law_1696 ⟨by omega, by omega⟩) hS (fun q _ h => (hMf q h).1) (fun q h => (hMf q h).1) (fun r8 H2 locs2 hw8 hz8 hk8 hS => ?_)
  obtain ⟨h8, hP⟩ := hw8
  have hLS := hLS.kept hA hk8 (fun q h => (hUf q h).2.1)
  have hO := vP_fr hO hk8 (oL_n (fun h => (hMf o h).2.1 rfl))
  have hD := vP_fr hD hk8 (oD_n (fun h => (hMf od h).2.2 rfl))
  refine lv_istore (lv' := [(7, .int (r8)), (6, .int (nI k9)), (5, .int (nI i)), (4, .ref (od)), (3, .ref (o)), (2, .ref (A 0)), (1, .ref (U 0)), (0, .ref (b))]) hx hb dL_law_1699 hl (by decide) rfl (fun ls hl => ?_)
  refine lv_aload_n hx hb dL_law_1701 rfl (lv_at hl 5 rfl) ?_
  refine rd_calle (va_runV (As := []) (rest := []) ⟨hx, hb, hml, hown, hts⟩ (c_X8_thrown l D cA A _ _ k9 e4) (cwV 0 hts (gWVL gm_9_20 gm_9_21 gm_9_22 gm_1_5 gm_9_23) rfl rfl rfl (by decide +kernel) ⟨Nat.le_of_ble_eq_true rfl, Nat.le_of_ble_eq_true rfl⟩) (gPreV hK (g_rf hK hP (ci := 10) (q0 := 0) rfl rfl) hP) rfl rfl hl.1 rfl (lv_room (Nat.le_of_ble_eq_true rfl)) dL_law_1702 ⟨by omega, by omega⟩) ?_
  refine lv_iload hx hb dL_law_1705 (lv_at hl 1 rfl) ?_
  refine lv_icmp_eq (tgt := 1712) hx hb dL_law_1707 (by decide) (fun _ => ?_) (fun q => absurd rfl q)
  refine lv_iload hx hb dL_law_1712 (lv_at hl 1 rfl) ?_
  refine g_if_ne (P := k9 = 0) (tgt := 1729) hx hb dL_law_1714 (by decide) (nI_z (by omega)) (fun _ => ?_) (fun hz => ?_)
  · exact lv_goto (tgt := 2162) hx hb dL_law_1729 (by decide) (KK _ _ _ _ _ _ _ hLS hP hO hD hS (lv_sub hl [2, 3, 4, 5, 6, 7] rfl))
  · refine lv_aload_n hx hb dL_law_1717 rfl (lv_at hl 4 rfl) ?_
    refine lv_iconst (v := nI 0) hx hb dL_law_1718 gc_0 ?_
    refine va_lald hx hb hK.1 hO 0 3 rfl rfl (vp_in_iff.mpr (by decide +kernel)) dL_law_1719 ?_
    refine lv_iload hx hb dL_law_1720 (lv_at hl 0 rfl) ?_
    refine lv_i2l (v := r8.toInt64) hx hb dL_law_1722 rfl ?_
    refine W.lcmp hx hb dL_law_1723 ?_
    have h99 : g9 (nI 0).toNatClampNeg = r8.toInt64 := by rw [h8, e1 hz, show (nI 0).toNatClampNeg = 0 from nI_clamp (by decide)]; exact hg9 hz
    exact lv_if_eq (tgt := 1729) hx hb dL_law_1724 (by decide) (fun _ => lv_goto (tgt := 2162) hx hb dL_law_1729 (by decide) (KK _ _ _ _ _ _ _ hLS hP hO hD hS (lv_sub hl [2, 3, 4, 5, 6, 7] rfl))) (fun q => absurd (lg_same h99) q)

set_option maxHeartbeats 1000000 in
set_option maxRecDepth 100000 in
theorem lc_run (l : Launch) (hlt : l.stackTraces = false) {p : Program} {e : Env} {s : State} {m : MethodId} {args : Array Value} {below : List Frame} {meth : Method} {c0 : Code} {Q : State → Prop} {H : Heap} {locs : List Loc} {ls : Array Slot} {ce sl i : Nat} {D : va_G} {cA : Nat → ClassId} {AE : Nat → Prop} {adK adV sa : Nat → Nat} {U : Nat → Nat} {rg : Nat → Option Nat} {A : Nat → Nat} {o od b L : Nat} {xs : Nat → Int32} {x : Nat → Int32} {f : Nat → Nat → Int32} {g : Nat → Int64} {gd : Nat → UInt64} (hx : p.tables.exec = Jvm.exec) (hb : c0.code = cL_law) (hml : c0.maxLocals = 9) (hown : s.vm.findClass RL = some m.cls) (hts : ∀ w ∈ Cond.initialized RL :: gG, w.before args s = true) (hK : gK D cA s) (hE : gE AE adK adV sa s s.heap) (hN : gNc s) (hX : va_X b L xs s s.heap) (hbl : b < s.heap.size) (hL : L ≤ 1536) (hi : i + 3 ≤ L) (hA : aInj 189 U) (hM : mInj A) (hrg : uRg U rg) (hAE : ∀ q, s.heap.size ≤ q → AE q) (hUf : ∀ q, aS 189 U q → s.heap.size ≤ q ∧ ¬ MA A q ∧ q ≠ o ∧ q ≠ od) (hMf : ∀ q, MA A q → s.heap.size ≤ q ∧ q ≠ o ∧ q ≠ od) (hof : s.heap.size ≤ o ∧ s.heap.size ≤ od ∧ o ≠ od) (hce : ce + 9 ≤ room_1.cells) (hsl : sl + 60 ≤ room_1.slots) (hS : va_S (fun q => s.heap.size ≤ q) s.heap H locs) (hl : lv_has ls 9 [(5, .int (nI i)), (4, .ref (od)), (3, .ref (o)), (2, .ref (A 0)), (1, .ref (U 0)), (0, .ref (b))]) (hLS : LST D cA U rg x f H) (hP : va_P D vwCl (mw cA A x f) H) (hO : va_P D vwCl (oL cA o g) H) (hD : va_P D vwCl (oD cA od gd) H)  (KK : ∀ (x1 : Nat → Int32) (f1 : Nat → Nat → Int32) (g1 : Nat → Int64) (gd1 : Nat → UInt64) (H1 : Heap) (locs1 : List Loc) (ls1 : Array Slot), LST D cA U rg x1 f1 H1 → va_P D vwCl (mw cA A x1 f1) H1 → va_P D vwCl (oL cA o g1) H1 → va_P D vwCl (oD cA od gd1) H1 → va_S (fun q => s.heap.size ≤ q) s.heap H1 locs1 → lv_has ls1 9 [(5, .int (nI i)), (4, .ref (od)), (3, .ref (o)), (2, .ref (A 0)), (1, .ref (U 0)), (0, .ref (b))] → W p l e room_1 s m args below meth c0 H1 locs1 (ce + 1) (sl + 6) Q (F0 m 2162 ls1 [])) : W p l e room_1 s m args below meth c0 H locs ce sl Q (F0 m 1732 ls []) := by
  obtain ⟨c, z, rz, hd, ct, rs, dt, mf, mn, tc, tl, to, kd, fi, se, ta, nu, lc, ln, sv, er, R, hU⟩ := hLS
  have hFA : ∀ q, aS 189 U q → AE q := fun q h => hAE q (hUf q h).1
  have hUO : ∀ q, uO U o q → s.heap.size ≤ q := fun q h => h.elim (fun h => (hUf q h).1) (fun h => h ▸ hof.1)
  have hoU : ¬ aS 189 U o := fun h => (hUf o h).2.2.1 rfl
  have hbA : ¬ (fun q => s.heap.size ≤ q) b := fun h => absurd hbl (Nat.not_lt.mpr h)
  refine lv_aload_n hx hb dL_law_1732 rfl (lv_at hl 4 rfl) ?_
  refine lv_aload_n hx hb dL_law_1733 rfl (lv_at hl 2 rfl) ?_
  refine wr_calli (vx_runSW (As := [.ref (U 0), .ref (o)]) (rest := []) ⟨hx, hb, hml, hown, hts⟩ (c_L_run l hlt D cA AE adK adV sa U rg c z rz hd ct rs dt mf mn tc tl to kd fi se ta nu lc ln sv er PW o g hA hFA hoU (fun q h => hAE q (hUO q h)) R.I.ok hrg R.H.1 R.H.2.1 (fun k hk => (R.T.2 k hk).1) R.T.1 PW_ok ⟨R.I, _, R.G⟩ (run_par R kd fi se nu)) (vx_cwSW 2 hts (gWSL gm_39_11 gm_39_12 gm_6_2 gm_39_13) rfl rfl rfl (by decide +kernel) ⟨Nat.le_of_ble_eq_true rfl, Nat.le_of_ble_eq_true rfl⟩) (gPreSy hK hE hN hS hAE ⟨hU, hO⟩) rfl rfl hl.1 rfl (lv_room (Nat.le_of_ble_eq_true rfl)) dL_law_1734 ⟨by omega, by omega⟩) hS (fun q _ h => hUO q h) (fun q h => hUO q h) (fun r H1 locs1 hw9 hz9 hk9 hS => ?_)
  obtain ⟨k9, rr, g9, rfl, hk2, hg9, hO, C⟩ := hw9
  obtain ⟨e4, e1, hLS⟩ := op_run (to := to) (ta := ta) R C
  have hP := vP_fr hP hk9 (mw_n (A1 := uO U o) hM (fun q h h2 => h2.elim (fun h2 => (hUf q h2).2.1 h) (fun h2 => (hMf q h).2.1 h2)))
  have hD := vP_fr hD hk9 (oD_n (A := uO U o) (fun h => h.elim (fun h => (hUf od h).2.2.2 rfl) (fun h => hof.2.2 h.symm)))
  refine lv_istore (lv' := [(6, .int (nI k9)), (5, .int (nI i)), (4, .ref (od)), (3, .ref (o)), (2, .ref (A 0)), (1, .ref (U 0)), (0, .ref (b))]) hx hb dL_law_1737 hl (by decide) rfl (fun ls hl => ?_)
  refine lv_aload_n hx hb dL_law_1739 rfl (lv_at hl 4 rfl) ?_
  refine wr_calli (va_runV (As := []) (rest := []) ⟨hx, hb, hml, hown, hts⟩ (c_X8_runT l D cA AE adK adV sa A x f tl hM R.x7 R.T.1 (fun q => (run_hy R q).1) (fun q => (run_hy R q).2.1) (fun q => (run_hy R q).2.2.1) (fun q => (run_hy R q).2.2.2) (fun q h => hAE q (hMf q h).1)) (cwV 0 hts (gWVL gm_45_13 gm_45_14 gm_45_15 gm_1_5 gm_45_16) rfl rfl rfl (by decide +kernel) ⟨Nat.le_of_ble_eq_true rfl, Nat.le_of_ble_eq_true rfl⟩) (gPreVx hK hE hS hAE (g_rf hK hP (ci := 10) (q0 := 0) rfl rfl) hP) rfl rfl hl.1 rfl (lv_room (Nat.le_of_ble_eq_true rfl)) dL_law_1740 ⟨by omega, by omega⟩) hS (fun q _ h => (hMf q h).1) (fun q h => (hMf q h).1) (fun r8 H2 locs2 hw8 hz8 hk8 hS => ?_)
  obtain ⟨h8, hP⟩ := hw8
  have hLS := hLS.kept hA hk8 (fun q h => (hUf q h).2.1)
  have hO := vP_fr hO hk8 (oL_n (fun h => (hMf o h).2.1 rfl))
  have hD := vP_fr hD hk8 (oD_n (fun h => (hMf od h).2.2 rfl))
  refine lv_istore (lv' := [(7, .int (r8)), (6, .int (nI k9)), (5, .int (nI i)), (4, .ref (od)), (3, .ref (o)), (2, .ref (A 0)), (1, .ref (U 0)), (0, .ref (b))]) hx hb dL_law_1743 hl (by decide) rfl (fun ls hl => ?_)
  refine lv_aload_n hx hb dL_law_1745 rfl (lv_at hl 5 rfl) ?_
  refine rd_calle (va_runV (As := []) (rest := []) ⟨hx, hb, hml, hown, hts⟩ (c_X8_thrown l D cA A _ _ k9 e4) (cwV 0 hts (gWVL gm_9_20 gm_9_21 gm_9_22 gm_1_5 gm_9_23) rfl rfl rfl (by decide +kernel) ⟨Nat.le_of_ble_eq_true rfl, Nat.le_of_ble_eq_true rfl⟩) (gPreV hK (g_rf hK hP (ci := 10) (q0 := 0) rfl rfl) hP) rfl rfl hl.1 rfl (lv_room (Nat.le_of_ble_eq_true rfl)) dL_law_1746 ⟨by omega, by omega⟩) ?_
  refine lv_iload hx hb dL_law_1749 (lv_at hl 1 rfl) ?_
  refine lv_icmp_eq (tgt := 1756) hx hb dL_law_1751 (by decide) (fun _ => ?_) (fun q => absurd rfl q)
  refine lv_iload hx hb dL_law_1756 (lv_at hl 1 rfl) ?_
  refine g_if_ne (P := k9 = 0) (tgt := 1773) hx hb dL_law_1758 (by decide) (nI_z (by omega)) (fun _ => ?_) (fun hz => ?_)
  · exact lv_goto (tgt := 2162) hx hb dL_law_1773 (by decide) (KK _ _ _ _ _ _ _ hLS hP hO hD hS (lv_sub hl [2, 3, 4, 5, 6, 7] rfl))
  · refine lv_aload_n hx hb dL_law_1761 rfl (lv_at hl 4 rfl) ?_
    refine lv_iconst (v := nI 0) hx hb dL_law_1762 gc_0 ?_
    refine va_lald hx hb hK.1 hO 0 3 rfl rfl (vp_in_iff.mpr (by decide +kernel)) dL_law_1763 ?_
    refine lv_iload hx hb dL_law_1764 (lv_at hl 0 rfl) ?_
    refine lv_i2l (v := r8.toInt64) hx hb dL_law_1766 rfl ?_
    refine W.lcmp hx hb dL_law_1767 ?_
    have h99 : g9 (nI 0).toNatClampNeg = r8.toInt64 := by rw [h8, e1 hz, show (nI 0).toNatClampNeg = 0 from nI_clamp (by decide)]; exact hg9 hz
    exact lv_if_eq (tgt := 1773) hx hb dL_law_1768 (by decide) (fun _ => lv_goto (tgt := 2162) hx hb dL_law_1773 (by decide) (KK _ _ _ _ _ _ _ hLS hP hO hD hS (lv_sub hl [2, 3, 4, 5, 6, 7] rfl))) (fun q => absurd (lg_same h99) q)

set_option maxHeartbeats 1000000 in
set_option maxRecDepth 100000 in
theorem lc_errorPosition (l : Launch) (hlt : l.stackTraces = false) {p : Program} {e : Env} {s : State} {m : MethodId} {args : Array Value} {below : List Frame} {meth : Method} {c0 : Code} {Q : State → Prop} {H : Heap} {locs : List Loc} {ls : Array Slot} {ce sl i : Nat} {D : va_G} {cA : Nat → ClassId} {AE : Nat → Prop} {adK adV sa : Nat → Nat} {U : Nat → Nat} {rg : Nat → Option Nat} {A : Nat → Nat} {o od b L : Nat} {xs : Nat → Int32} {x : Nat → Int32} {f : Nat → Nat → Int32} {g : Nat → Int64} {gd : Nat → UInt64} (hx : p.tables.exec = Jvm.exec) (hb : c0.code = cL_law) (hml : c0.maxLocals = 9) (hown : s.vm.findClass RL = some m.cls) (hts : ∀ w ∈ Cond.initialized RL :: gG, w.before args s = true) (hK : gK D cA s) (hE : gE AE adK adV sa s s.heap) (hN : gNc s) (hX : va_X b L xs s s.heap) (hbl : b < s.heap.size) (hL : L ≤ 1536) (hi : i + 3 ≤ L) (hA : aInj 189 U) (hM : mInj A) (hrg : uRg U rg) (hAE : ∀ q, s.heap.size ≤ q → AE q) (hUf : ∀ q, aS 189 U q → s.heap.size ≤ q ∧ ¬ MA A q ∧ q ≠ o ∧ q ≠ od) (hMf : ∀ q, MA A q → s.heap.size ≤ q ∧ q ≠ o ∧ q ≠ od) (hof : s.heap.size ≤ o ∧ s.heap.size ≤ od ∧ o ≠ od) (hce : ce + 9 ≤ room_1.cells) (hsl : sl + 60 ≤ room_1.slots) (hS : va_S (fun q => s.heap.size ≤ q) s.heap H locs) (hl : lv_has ls 9 [(5, .int (nI i)), (4, .ref (od)), (3, .ref (o)), (2, .ref (A 0)), (1, .ref (U 0)), (0, .ref (b))]) (hLS : LST D cA U rg x f H) (hP : va_P D vwCl (mw cA A x f) H) (hO : va_P D vwCl (oL cA o g) H) (hD : va_P D vwCl (oD cA od gd) H)  (KK : ∀ (x1 : Nat → Int32) (f1 : Nat → Nat → Int32) (g1 : Nat → Int64) (gd1 : Nat → UInt64) (H1 : Heap) (locs1 : List Loc) (ls1 : Array Slot), LST D cA U rg x1 f1 H1 → va_P D vwCl (mw cA A x1 f1) H1 → va_P D vwCl (oL cA o g1) H1 → va_P D vwCl (oD cA od gd1) H1 → va_S (fun q => s.heap.size ≤ q) s.heap H1 locs1 → lv_has ls1 9 [(5, .int (nI i)), (4, .ref (od)), (3, .ref (o)), (2, .ref (A 0)), (1, .ref (U 0)), (0, .ref (b))] → W p l e room_1 s m args below meth c0 H1 locs1 (ce + 1) (sl + 6) Q (F0 m 2162 ls1 [])) : W p l e room_1 s m args below meth c0 H locs ce sl Q (F0 m 1776 ls []) := by
  obtain ⟨c, z, rz, hd, ct, rs, dt, mf, mn, tc, tl, to, kd, fi, se, ta, nu, lc, ln, sv, er, R, hU⟩ := hLS
  have hFA : ∀ q, aS 189 U q → AE q := fun q h => hAE q (hUf q h).1
  refine lv_aload_n hx hb dL_law_1776 rfl (lv_at hl 4 rfl) ?_
  refine wr_calli (va_runV (As := []) (rest := []) ⟨hx, hb, hml, hown, hts⟩ (c_X7_errorPosition l D cA AE adK adV sa U rg c z rz hd ct rs dt mf mn tc tl to kd fi se ta nu lc ln sv er hA hFA R.I.ok) (cwV 0 hts (gWVL gm_47_17 gm_47_18 gm_47_19 gm_1_2 gm_47_20) rfl rfl rfl (by decide +kernel) ⟨Nat.le_of_ble_eq_true rfl, Nat.le_of_ble_eq_true rfl⟩) (gPreVx hK hE hS hAE (g_rf hK hU (ci := 9) (q0 := 0) rfl rfl) hU) rfl rfl hl.1 rfl (lv_room (Nat.le_of_ble_eq_true rfl)) dL_law_1777 ⟨by omega, by omega⟩) hS (fun q _ h => (hUf q h).1) (fun q h => (hUf q h).1) (fun r H1 locs1 C hz9 hk9 hS => ?_)
  obtain ⟨e1, hLS⟩ := op_errorPosition R C
  have hP := vP_fr hP hk9 (mw_n (A1 := aS 189 U) hM (fun q h h2 => (hUf q h2).2.1 h))
  have hO := vP_fr hO hk9 (oL_n (A := aS 189 U) (fun h => (hUf o h).2.2.1 rfl))
  have hD := vP_fr hD hk9 (oD_n (A := aS 189 U) (fun h => (hUf od h).2.2.2 rfl))
  refine lv_aload_n hx hb dL_law_1780 rfl (lv_at hl 3 rfl) ?_
  refine wr_calli (va_runV (As := []) (rest := [.int r]) ⟨hx, hb, hml, hown, hts⟩ (c_X8_errorPosition l D cA A x f  hM) (cwV 0 hts (gWVL gm_47_21 gm_47_22 gm_47_23 gm_1_5 gm_48_0) rfl rfl rfl (by decide +kernel) ⟨Nat.le_of_ble_eq_true rfl, Nat.le_of_ble_eq_true rfl⟩) (gPreV hK (g_rf hK hP (ci := 10) (q0 := 0) rfl rfl) hP) rfl rfl hl.1 rfl (lv_room (Nat.le_of_ble_eq_true rfl)) dL_law_1781 ⟨by omega, by omega⟩) hS (fun q _ h => (hMf q h).1) (fun q h => (hMf q h).1) (fun r8 H2 locs2 hw8 hz8 hk8 hS => ?_)
  obtain ⟨h8, hP⟩ := hw8
  have hLS := hLS.kept hA hk8 (fun q h => (hUf q h).2.1)
  have hO := vP_fr hO hk8 (oL_n (fun h => (hMf o h).2.1 rfl))
  have hD := vP_fr hD hk8 (oD_n (fun h => (hMf od h).2.2 rfl))
  exact lv_icmp_eq (tgt := 2162) hx hb dL_law_1784 (by decide) (fun _ => W.widen (k := ce + 1) (n := sl + 6) (by omega) (by omega) (KK _ _ _ _ _ _ _ hLS hP hO hD hS hl)) (fun q => absurd (e1.symm.trans h8.symm) q)

set_option maxHeartbeats 1000000 in
set_option maxRecDepth 100000 in
theorem lc_refusal (l : Launch) (hlt : l.stackTraces = false) {p : Program} {e : Env} {s : State} {m : MethodId} {args : Array Value} {below : List Frame} {meth : Method} {c0 : Code} {Q : State → Prop} {H : Heap} {locs : List Loc} {ls : Array Slot} {ce sl i : Nat} {D : va_G} {cA : Nat → ClassId} {AE : Nat → Prop} {adK adV sa : Nat → Nat} {U : Nat → Nat} {rg : Nat → Option Nat} {A : Nat → Nat} {o od b L : Nat} {xs : Nat → Int32} {x : Nat → Int32} {f : Nat → Nat → Int32} {g : Nat → Int64} {gd : Nat → UInt64} (hx : p.tables.exec = Jvm.exec) (hb : c0.code = cL_law) (hml : c0.maxLocals = 9) (hown : s.vm.findClass RL = some m.cls) (hts : ∀ w ∈ Cond.initialized RL :: gG, w.before args s = true) (hK : gK D cA s) (hE : gE AE adK adV sa s s.heap) (hN : gNc s) (hX : va_X b L xs s s.heap) (hbl : b < s.heap.size) (hL : L ≤ 1536) (hi : i + 3 ≤ L) (hA : aInj 189 U) (hM : mInj A) (hrg : uRg U rg) (hAE : ∀ q, s.heap.size ≤ q → AE q) (hUf : ∀ q, aS 189 U q → s.heap.size ≤ q ∧ ¬ MA A q ∧ q ≠ o ∧ q ≠ od) (hMf : ∀ q, MA A q → s.heap.size ≤ q ∧ q ≠ o ∧ q ≠ od) (hof : s.heap.size ≤ o ∧ s.heap.size ≤ od ∧ o ≠ od) (hce : ce + 9 ≤ room_1.cells) (hsl : sl + 60 ≤ room_1.slots) (hS : va_S (fun q => s.heap.size ≤ q) s.heap H locs) (hl : lv_has ls 9 [(5, .int (nI i)), (4, .ref (od)), (3, .ref (o)), (2, .ref (A 0)), (1, .ref (U 0)), (0, .ref (b))]) (hLS : LST D cA U rg x f H) (hP : va_P D vwCl (mw cA A x f) H) (hO : va_P D vwCl (oL cA o g) H) (hD : va_P D vwCl (oD cA od gd) H)  (KK : ∀ (x1 : Nat → Int32) (f1 : Nat → Nat → Int32) (g1 : Nat → Int64) (gd1 : Nat → UInt64) (H1 : Heap) (locs1 : List Loc) (ls1 : Array Slot), LST D cA U rg x1 f1 H1 → va_P D vwCl (mw cA A x1 f1) H1 → va_P D vwCl (oL cA o g1) H1 → va_P D vwCl (oD cA od gd1) H1 → va_S (fun q => s.heap.size ≤ q) s.heap H1 locs1 → lv_has ls1 9 [(5, .int (nI i)), (4, .ref (od)), (3, .ref (o)), (2, .ref (A 0)), (1, .ref (U 0)), (0, .ref (b))] → W p l e room_1 s m args below meth c0 H1 locs1 (ce + 1) (sl + 6) Q (F0 m 2162 ls1 [])) : W p l e room_1 s m args below meth c0 H locs ce sl Q (F0 m 1789 ls []) := by
  obtain ⟨c, z, rz, hd, ct, rs, dt, mf, mn, tc, tl, to, kd, fi, se, ta, nu, lc, ln, sv, er, R, hU⟩ := hLS
  have hFA : ∀ q, aS 189 U q → AE q := fun q h => hAE q (hUf q h).1
  have hUO : ∀ q, uO U o q → s.heap.size ≤ q := fun q h => h.elim (fun h => (hUf q h).1) (fun h => h ▸ hof.1)
  have hoU : ¬ aS 189 U o := fun h => (hUf o h).2.2.1 rfl
  have hbA : ¬ (fun q => s.heap.size ≤ q) b := fun h => absurd hbl (Nat.not_lt.mpr h)
  refine lv_aload_n hx hb dL_law_1789 rfl (lv_at hl 4 rfl) ?_
  refine lv_aload_n hx hb dL_law_1790 rfl (lv_at hl 5 rfl) ?_
  refine lv_iload hx hb dL_law_1791 (lv_at hl 0 rfl) ?_
  refine lv_iconst (v := nI 1) hx hb dL_law_1793 gc_1 ?_
  refine lv_iadd hx hb dL_law_1794 ?_
  rw [nI_add]
  refine va_sld (A := (fun q => s.heap.size ≤ q)) hx hb hX hbl hbA hS (lp_in (by omega) hL) dL_law_1795 ?_
  refine lp_bool hx hb dL_law_1796 dL_law_1799 dL_law_1800 dL_law_1803 ?_
  refine lv_aload_n hx hb dL_law_1804 rfl (lv_at hl 2 rfl) ?_
  refine wr_calli (vx_runSW (As := [.ref (U 0), .int (b2i (lpB (xs (nI (i + 1)).toNatClampNeg))), .ref (o)]) (rest := []) ⟨hx, hb, hml, hown, hts⟩ (c_L_refusal l hlt D cA AE adK adV sa U rg c z rz hd ct rs dt mf mn tc tl to kd fi se ta nu lc ln sv er ((lpB (xs (nI (i + 1)).toNatClampNeg))) o g hA hFA hoU (fun q h => hAE q (hUO q h)) R.I.ok) (vx_cwSW 3 hts (gWSL gm_48_1 gm_48_2 gm_6_2 gm_48_3) rfl rfl rfl (by decide +kernel) ⟨Nat.le_of_ble_eq_true rfl, Nat.le_of_ble_eq_true rfl⟩) (gPreSy hK hE hN hS hAE ⟨hU, hO⟩) rfl rfl hl.1 rfl (lv_room (Nat.le_of_ble_eq_true rfl)) dL_law_1805 ⟨by omega, by omega⟩) hS (fun q _ h => hUO q h) (fun q h => hUO q h) (fun r H1 locs1 hw9 hz9 hk9 hS => ?_)
  obtain ⟨k9, rr, g9, rfl, hk2, hg9, hO, C⟩ := hw9
  obtain ⟨e4, e1, hLS⟩ := op_refusal R C
  have hP := vP_fr hP hk9 (mw_n (A1 := uO U o) hM (fun q h h2 => h2.elim (fun h2 => (hUf q h2).2.1 h) (fun h2 => (hMf q h).2.1 h2)))
  have hD := vP_fr hD hk9 (oD_n (A := uO U o) (fun h => h.elim (fun h => (hUf od h).2.2.2 rfl) (fun h => hof.2.2 h.symm)))
  refine lv_istore (lv' := [(6, .int (nI k9)), (5, .int (nI i)), (4, .ref (od)), (3, .ref (o)), (2, .ref (A 0)), (1, .ref (U 0)), (0, .ref (b))]) hx hb dL_law_1808 hl (by decide) rfl (fun ls hl => ?_)
  refine lv_aload_n hx hb dL_law_1810 rfl (lv_at hl 4 rfl) ?_
  refine lv_aload_n hx hb dL_law_1811 rfl (lv_at hl 6 rfl) ?_
  refine lv_iload hx hb dL_law_1812 (lv_at hl 1 rfl) ?_
  refine lv_iconst (v := nI 1) hx hb dL_law_1814 gc_1 ?_
  refine lv_iadd hx hb dL_law_1815 ?_
  rw [nI_add]
  refine va_sld (A := (fun q => s.heap.size ≤ q)) hx hb hX hbl hbA hS (lp_in (by omega) hL) dL_law_1816 ?_
  refine lp_bool hx hb dL_law_1817 dL_law_1820 dL_law_1821 dL_law_1824 ?_
  refine wr_calli (va_runV (As := [.int (b2i (lpB (xs (nI (i + 1)).toNatClampNeg)))]) (rest := []) ⟨hx, hb, hml, hown, hts⟩ (c_X8_refusal l D cA A x f ((lpB (xs (nI (i + 1)).toNatClampNeg))) hM) (cwV 1 hts (gWVL gm_48_10 gm_48_11 gm_48_12 gm_1_5 gm_48_13) rfl rfl rfl (by decide +kernel) ⟨Nat.le_of_ble_eq_true rfl, Nat.le_of_ble_eq_true rfl⟩) (gPreV hK (g_rf hK hP (ci := 10) (q0 := 0) rfl rfl) hP) rfl rfl hl.1 rfl (lv_room (Nat.le_of_ble_eq_true rfl)) dL_law_1825 ⟨by omega, by omega⟩) hS (fun q _ h => (hMf q h).1) (fun q h => (hMf q h).1) (fun r8 H2 locs2 hw8 hz8 hk8 hS => ?_)
  obtain ⟨h8, hP⟩ := hw8
  have hLS := hLS.kept hA hk8 (fun q h => (hUf q h).2.1)
  have hO := vP_fr hO hk8 (oL_n (fun h => (hMf o h).2.1 rfl))
  have hD := vP_fr hD hk8 (oD_n (fun h => (hMf od h).2.2 rfl))
  refine lv_istore (lv' := [(7, .int (r8)), (6, .int (nI k9)), (5, .int (nI i)), (4, .ref (od)), (3, .ref (o)), (2, .ref (A 0)), (1, .ref (U 0)), (0, .ref (b))]) hx hb dL_law_1828 hl (by decide) rfl (fun ls hl => ?_)
  refine lv_aload_n hx hb dL_law_1830 rfl (lv_at hl 5 rfl) ?_
  refine rd_calle (va_runV (As := []) (rest := []) ⟨hx, hb, hml, hown, hts⟩ (c_X8_thrown l D cA A _ _ k9 e4) (cwV 0 hts (gWVL gm_9_20 gm_9_21 gm_9_22 gm_1_5 gm_9_23) rfl rfl rfl (by decide +kernel) ⟨Nat.le_of_ble_eq_true rfl, Nat.le_of_ble_eq_true rfl⟩) (gPreV hK (g_rf hK hP (ci := 10) (q0 := 0) rfl rfl) hP) rfl rfl hl.1 rfl (lv_room (Nat.le_of_ble_eq_true rfl)) dL_law_1831 ⟨by omega, by omega⟩) ?_
  refine lv_iload hx hb dL_law_1834 (lv_at hl 1 rfl) ?_
  refine lv_icmp_eq (tgt := 1841) hx hb dL_law_1836 (by decide) (fun _ => ?_) (fun q => absurd rfl q)
  refine lv_iload hx hb dL_law_1841 (lv_at hl 1 rfl) ?_
  refine g_if_ne (P := k9 = 0) (tgt := 1858) hx hb dL_law_1843 (by decide) (nI_z (by omega)) (fun _ => ?_) (fun hz => ?_)
  · exact lv_goto (tgt := 2162) hx hb dL_law_1858 (by decide) (KK _ _ _ _ _ _ _ hLS hP hO hD hS (lv_sub hl [2, 3, 4, 5, 6, 7] rfl))
  · refine lv_aload_n hx hb dL_law_1846 rfl (lv_at hl 4 rfl) ?_
    refine lv_iconst (v := nI 0) hx hb dL_law_1847 gc_0 ?_
    refine va_lald hx hb hK.1 hO 0 3 rfl rfl (vp_in_iff.mpr (by decide +kernel)) dL_law_1848 ?_
    refine lv_iload hx hb dL_law_1849 (lv_at hl 0 rfl) ?_
    refine lv_i2l (v := r8.toInt64) hx hb dL_law_1851 rfl ?_
    refine W.lcmp hx hb dL_law_1852 ?_
    have h99 : g9 (nI 0).toNatClampNeg = r8.toInt64 := by rw [h8, e1 hz, show (nI 0).toNatClampNeg = 0 from nI_clamp (by decide)]; exact hg9 hz
    exact lv_if_eq (tgt := 1858) hx hb dL_law_1853 (by decide) (fun _ => lv_goto (tgt := 2162) hx hb dL_law_1858 (by decide) (KK _ _ _ _ _ _ _ hLS hP hO hD hS (lv_sub hl [2, 3, 4, 5, 6, 7] rfl))) (fun q => absurd (lg_same h99) q)

set_option maxHeartbeats 1000000 in
set_option maxRecDepth 100000 in
theorem lc_account (l : Launch) (hlt : l.stackTraces = false) {p : Program} {e : Env} {s : State} {m : MethodId} {args : Array Value} {below : List Frame} {meth : Method} {c0 : Code} {Q : State → Prop} {H : Heap} {locs : List Loc} {ls : Array Slot} {ce sl i : Nat} {D : va_G} {cA : Nat → ClassId} {AE : Nat → Prop} {adK adV sa : Nat → Nat} {U : Nat → Nat} {rg : Nat → Option Nat} {A : Nat → Nat} {o od b L : Nat} {xs : Nat → Int32} {x : Nat → Int32} {f : Nat → Nat → Int32} {g : Nat → Int64} {gd : Nat → UInt64} (hx : p.tables.exec = Jvm.exec) (hb : c0.code = cL_law) (hml : c0.maxLocals = 9) (hown : s.vm.findClass RL = some m.cls) (hts : ∀ w ∈ Cond.initialized RL :: gG, w.before args s = true) (hK : gK D cA s) (hE : gE AE adK adV sa s s.heap) (hN : gNc s) (hX : va_X b L xs s s.heap) (hbl : b < s.heap.size) (hL : L ≤ 1536) (hi : i + 3 ≤ L) (hA : aInj 189 U) (hM : mInj A) (hrg : uRg U rg) (hAE : ∀ q, s.heap.size ≤ q → AE q) (hUf : ∀ q, aS 189 U q → s.heap.size ≤ q ∧ ¬ MA A q ∧ q ≠ o ∧ q ≠ od) (hMf : ∀ q, MA A q → s.heap.size ≤ q ∧ q ≠ o ∧ q ≠ od) (hof : s.heap.size ≤ o ∧ s.heap.size ≤ od ∧ o ≠ od) (hce : ce + 9 ≤ room_1.cells) (hsl : sl + 60 ≤ room_1.slots) (hS : va_S (fun q => s.heap.size ≤ q) s.heap H locs) (hl : lv_has ls 9 [(5, .int (nI i)), (4, .ref (od)), (3, .ref (o)), (2, .ref (A 0)), (1, .ref (U 0)), (0, .ref (b))]) (hLS : LST D cA U rg x f H) (hP : va_P D vwCl (mw cA A x f) H) (hO : va_P D vwCl (oL cA o g) H) (hD : va_P D vwCl (oD cA od gd) H)  (KK : ∀ (x1 : Nat → Int32) (f1 : Nat → Nat → Int32) (g1 : Nat → Int64) (gd1 : Nat → UInt64) (H1 : Heap) (locs1 : List Loc) (ls1 : Array Slot), LST D cA U rg x1 f1 H1 → va_P D vwCl (mw cA A x1 f1) H1 → va_P D vwCl (oL cA o g1) H1 → va_P D vwCl (oD cA od gd1) H1 → va_S (fun q => s.heap.size ≤ q) s.heap H1 locs1 → lv_has ls1 9 [(5, .int (nI i)), (4, .ref (od)), (3, .ref (o)), (2, .ref (A 0)), (1, .ref (U 0)), (0, .ref (b))] → W p l e room_1 s m args below meth c0 H1 locs1 (ce + 1) (sl + 6) Q (F0 m 2162 ls1 [])) : W p l e room_1 s m args below meth c0 H locs ce sl Q (F0 m 1861 ls []) := by
  obtain ⟨c, z, rz, hd, ct, rs, dt, mf, mn, tc, tl, to, kd, fi, se, ta, nu, lc, ln, sv, er, R, hU⟩ := hLS
  have hFA : ∀ q, aS 189 U q → AE q := fun q h => hAE q (hUf q h).1
  have hUO : ∀ q, uO U o q → s.heap.size ≤ q := fun q h => h.elim (fun h => (hUf q h).1) (fun h => h ▸ hof.1)
  have hoU : ¬ aS 189 U o := fun h => (hUf o h).2.2.1 rfl
  have hbA : ¬ (fun q => s.heap.size ≤ q) b := fun h => absurd hbl (Nat.not_lt.mpr h)
  refine lv_aload_n hx hb dL_law_1861 rfl (lv_at hl 4 rfl) ?_
  refine lv_aload_n hx hb dL_law_1862 rfl (lv_at hl 5 rfl) ?_
  refine lv_iload hx hb dL_law_1863 (lv_at hl 0 rfl) ?_
  refine lv_iconst (v := nI 1) hx hb dL_law_1865 gc_1 ?_
  refine lv_iadd hx hb dL_law_1866 ?_
  rw [nI_add]
  refine va_sld (A := (fun q => s.heap.size ≤ q)) hx hb hX hbl hbA hS (lp_in (by omega) hL) dL_law_1867 ?_
  refine lv_aload_n hx hb dL_law_1868 rfl (lv_at hl 2 rfl) ?_
  refine wr_calli (vx_runSW (As := [.ref (U 0), .int (xs (nI (i + 1)).toNatClampNeg), .ref (o)]) (rest := []) ⟨hx, hb, hml, hown, hts⟩ (c_L_account l hlt D cA AE adK adV sa U rg c z rz hd ct rs dt mf mn tc tl to kd fi se ta nu lc ln sv er (xs (nI (i + 1)).toNatClampNeg) o g hA hFA hoU (fun q h => hAE q (hUO q h)) R.I.ok R.T.1 R.H.2.1) (vx_cwSW 3 hts (gWSL gm_48_14 gm_48_15 gm_6_2 gm_48_16) rfl rfl rfl (by decide +kernel) ⟨Nat.le_of_ble_eq_true rfl, Nat.le_of_ble_eq_true rfl⟩) (gPreSy hK hE hN hS hAE ⟨hU, hO⟩) rfl rfl hl.1 rfl (lv_room (Nat.le_of_ble_eq_true rfl)) dL_law_1869 ⟨by omega, by omega⟩) hS (fun q _ h => hUO q h) (fun q h => hUO q h) (fun r H1 locs1 hw9 hz9 hk9 hS => ?_)
  obtain ⟨k9, rr, g9, rfl, hk2, hg9, hO, C⟩ := hw9
  obtain ⟨e4, e1, hLS⟩ := op_account R C
  have hP := vP_fr hP hk9 (mw_n (A1 := uO U o) hM (fun q h h2 => h2.elim (fun h2 => (hUf q h2).2.1 h) (fun h2 => (hMf q h).2.1 h2)))
  have hD := vP_fr hD hk9 (oD_n (A := uO U o) (fun h => h.elim (fun h => (hUf od h).2.2.2 rfl) (fun h => hof.2.2 h.symm)))
  refine lv_istore (lv' := [(6, .int (nI k9)), (5, .int (nI i)), (4, .ref (od)), (3, .ref (o)), (2, .ref (A 0)), (1, .ref (U 0)), (0, .ref (b))]) hx hb dL_law_1872 hl (by decide) rfl (fun ls hl => ?_)
  refine lv_aload_n hx hb dL_law_1874 rfl (lv_at hl 4 rfl) ?_
  refine lv_aload_n hx hb dL_law_1875 rfl (lv_at hl 6 rfl) ?_
  refine lv_iload hx hb dL_law_1876 (lv_at hl 1 rfl) ?_
  refine lv_iconst (v := nI 1) hx hb dL_law_1878 gc_1 ?_
  refine lv_iadd hx hb dL_law_1879 ?_
  rw [nI_add]
  refine va_sld (A := (fun q => s.heap.size ≤ q)) hx hb hX hbl hbA hS (lp_in (by omega) hL) dL_law_1880 ?_
  refine wr_calli (va_runV (As := [.int (xs (nI (i + 1)).toNatClampNeg)]) (rest := []) ⟨hx, hb, hml, hown, hts⟩ (c_X8_account l D cA A x f (xs (nI (i + 1)).toNatClampNeg) (zjn c) (zcn c) hM R.G.g0 R.I.jn R.G.g1 R.I.cn) (cwV 1 hts (gWVL gm_49_18 gm_49_19 gm_49_20 gm_1_5 gm_49_21) rfl rfl rfl (by decide +kernel) ⟨Nat.le_of_ble_eq_true rfl, Nat.le_of_ble_eq_true rfl⟩) (gPreV hK (g_rf hK hP (ci := 10) (q0 := 0) rfl rfl) hP) rfl rfl hl.1 rfl (lv_room (Nat.le_of_ble_eq_true rfl)) dL_law_1881 ⟨by omega, by omega⟩) hS (fun q _ h => (hMf q h).1) (fun q h => (hMf q h).1) (fun r8 H2 locs2 hw8 hz8 hk8 hS => ?_)
  obtain ⟨h8, hP⟩ := hw8
  have hLS := hLS.kept hA hk8 (fun q h => (hUf q h).2.1)
  have hO := vP_fr hO hk8 (oL_n (fun h => (hMf o h).2.1 rfl))
  have hD := vP_fr hD hk8 (oD_n (fun h => (hMf od h).2.2 rfl))
  refine lv_istore (lv' := [(7, .int (r8)), (6, .int (nI k9)), (5, .int (nI i)), (4, .ref (od)), (3, .ref (o)), (2, .ref (A 0)), (1, .ref (U 0)), (0, .ref (b))]) hx hb dL_law_1884 hl (by decide) rfl (fun ls hl => ?_)
  refine lv_aload_n hx hb dL_law_1886 rfl (lv_at hl 5 rfl) ?_
  refine rd_calle (va_runV (As := []) (rest := []) ⟨hx, hb, hml, hown, hts⟩ (c_X8_thrown l D cA A _ _ k9 e4) (cwV 0 hts (gWVL gm_9_20 gm_9_21 gm_9_22 gm_1_5 gm_9_23) rfl rfl rfl (by decide +kernel) ⟨Nat.le_of_ble_eq_true rfl, Nat.le_of_ble_eq_true rfl⟩) (gPreV hK (g_rf hK hP (ci := 10) (q0 := 0) rfl rfl) hP) rfl rfl hl.1 rfl (lv_room (Nat.le_of_ble_eq_true rfl)) dL_law_1887 ⟨by omega, by omega⟩) ?_
  refine lv_iload hx hb dL_law_1890 (lv_at hl 1 rfl) ?_
  refine lv_icmp_eq (tgt := 1897) hx hb dL_law_1892 (by decide) (fun _ => ?_) (fun q => absurd rfl q)
  refine lv_iload hx hb dL_law_1897 (lv_at hl 1 rfl) ?_
  refine g_if_ne (P := k9 = 0) (tgt := 1914) hx hb dL_law_1899 (by decide) (nI_z (by omega)) (fun _ => ?_) (fun hz => ?_)
  · exact lv_goto (tgt := 2162) hx hb dL_law_1914 (by decide) (KK _ _ _ _ _ _ _ hLS hP hO hD hS (lv_sub hl [2, 3, 4, 5, 6, 7] rfl))
  · refine lv_aload_n hx hb dL_law_1902 rfl (lv_at hl 4 rfl) ?_
    refine lv_iconst (v := nI 0) hx hb dL_law_1903 gc_0 ?_
    refine va_lald hx hb hK.1 hO 0 3 rfl rfl (vp_in_iff.mpr (by decide +kernel)) dL_law_1904 ?_
    refine lv_iload hx hb dL_law_1905 (lv_at hl 0 rfl) ?_
    refine lv_i2l (v := r8.toInt64) hx hb dL_law_1907 rfl ?_
    refine W.lcmp hx hb dL_law_1908 ?_
    have h99 : g9 (nI 0).toNatClampNeg = r8.toInt64 := by rw [h8, e1 hz, show (nI 0).toNatClampNeg = 0 from nI_clamp (by decide)]; exact hg9 hz
    exact lv_if_eq (tgt := 1914) hx hb dL_law_1909 (by decide) (fun _ => lv_goto (tgt := 2162) hx hb dL_law_1914 (by decide) (KK _ _ _ _ _ _ _ hLS hP hO hD hS (lv_sub hl [2, 3, 4, 5, 6, 7] rfl))) (fun q => absurd (lg_same h99) q)

set_option maxHeartbeats 1000000 in
set_option maxRecDepth 100000 in
theorem lc_isWell (l : Launch) (hlt : l.stackTraces = false) {p : Program} {e : Env} {s : State} {m : MethodId} {args : Array Value} {below : List Frame} {meth : Method} {c0 : Code} {Q : State → Prop} {H : Heap} {locs : List Loc} {ls : Array Slot} {ce sl i : Nat} {D : va_G} {cA : Nat → ClassId} {AE : Nat → Prop} {adK adV sa : Nat → Nat} {U : Nat → Nat} {rg : Nat → Option Nat} {A : Nat → Nat} {o od b L : Nat} {xs : Nat → Int32} {x : Nat → Int32} {f : Nat → Nat → Int32} {g : Nat → Int64} {gd : Nat → UInt64} (hx : p.tables.exec = Jvm.exec) (hb : c0.code = cL_law) (hml : c0.maxLocals = 9) (hown : s.vm.findClass RL = some m.cls) (hts : ∀ w ∈ Cond.initialized RL :: gG, w.before args s = true) (hK : gK D cA s) (hE : gE AE adK adV sa s s.heap) (hN : gNc s) (hX : va_X b L xs s s.heap) (hbl : b < s.heap.size) (hL : L ≤ 1536) (hi : i + 3 ≤ L) (hA : aInj 189 U) (hM : mInj A) (hrg : uRg U rg) (hAE : ∀ q, s.heap.size ≤ q → AE q) (hUf : ∀ q, aS 189 U q → s.heap.size ≤ q ∧ ¬ MA A q ∧ q ≠ o ∧ q ≠ od) (hMf : ∀ q, MA A q → s.heap.size ≤ q ∧ q ≠ o ∧ q ≠ od) (hof : s.heap.size ≤ o ∧ s.heap.size ≤ od ∧ o ≠ od) (hce : ce + 9 ≤ room_1.cells) (hsl : sl + 60 ≤ room_1.slots) (hS : va_S (fun q => s.heap.size ≤ q) s.heap H locs) (hl : lv_has ls 9 [(5, .int (nI i)), (4, .ref (od)), (3, .ref (o)), (2, .ref (A 0)), (1, .ref (U 0)), (0, .ref (b))]) (hLS : LST D cA U rg x f H) (hP : va_P D vwCl (mw cA A x f) H) (hO : va_P D vwCl (oL cA o g) H) (hD : va_P D vwCl (oD cA od gd) H)  (KK : ∀ (x1 : Nat → Int32) (f1 : Nat → Nat → Int32) (g1 : Nat → Int64) (gd1 : Nat → UInt64) (H1 : Heap) (locs1 : List Loc) (ls1 : Array Slot), LST D cA U rg x1 f1 H1 → va_P D vwCl (mw cA A x1 f1) H1 → va_P D vwCl (oL cA o g1) H1 → va_P D vwCl (oD cA od gd1) H1 → va_S (fun q => s.heap.size ≤ q) s.heap H1 locs1 → lv_has ls1 9 [(5, .int (nI i)), (4, .ref (od)), (3, .ref (o)), (2, .ref (A 0)), (1, .ref (U 0)), (0, .ref (b))] → W p l e room_1 s m args below meth c0 H1 locs1 (ce + 1) (sl + 6) Q (F0 m 2162 ls1 [])) : W p l e room_1 s m args below meth c0 H locs ce sl Q (F0 m 1917 ls []) := by
  obtain ⟨c, z, rz, hd, ct, rs, dt, mf, mn, tc, tl, to, kd, fi, se, ta, nu, lc, ln, sv, er, R, hU⟩ := hLS
  have hFA : ∀ q, aS 189 U q → AE q := fun q h => hAE q (hUf q h).1
  refine lv_aload_n hx hb dL_law_1917 rfl (lv_at hl 4 rfl) ?_
  refine wr_calli (va_runV (As := []) (rest := []) ⟨hx, hb, hml, hown, hts⟩ (c_X7_isWell l D cA AE adK adV sa U rg c z rz hd ct rs dt mf mn tc tl to kd fi se ta nu lc ln sv er hA hFA R.I.ok) (cwV 0 hts (gWVL gm_50_6 gm_50_7 gm_50_8 gm_1_2 gm_50_9) rfl rfl rfl (by decide +kernel) ⟨Nat.le_of_ble_eq_true rfl, Nat.le_of_ble_eq_true rfl⟩) (gPreVx hK hE hS hAE (g_rf hK hU (ci := 9) (q0 := 0) rfl rfl) hU) rfl rfl hl.1 rfl (lv_room (Nat.le_of_ble_eq_true rfl)) dL_law_1918 ⟨by omega, by omega⟩) hS (fun q _ h => (hUf q h).1) (fun q h => (hUf q h).1) (fun r H1 locs1 C hz9 hk9 hS => ?_)
  obtain ⟨e1, hLS⟩ := op_isWell R C
  have hP := vP_fr hP hk9 (mw_n (A1 := aS 189 U) hM (fun q h h2 => (hUf q h2).2.1 h))
  have hO := vP_fr hO hk9 (oL_n (A := aS 189 U) (fun h => (hUf o h).2.2.1 rfl))
  have hD := vP_fr hD hk9 (oD_n (A := aS 189 U) (fun h => (hUf od h).2.2.2 rfl))
  refine lv_aload_n hx hb dL_law_1921 rfl (lv_at hl 3 rfl) ?_
  refine wr_calli (va_runV (As := []) (rest := [.int r]) ⟨hx, hb, hml, hown, hts⟩ (c_X8_isWell l D cA A x f (zjn c) (zcn c) hM R.G.g0 R.I.jn R.G.g1 R.I.cn) (cwV 0 hts (gWVL gm_51_7 gm_51_8 gm_51_9 gm_1_5 gm_51_10) rfl rfl rfl (by decide +kernel) ⟨Nat.le_of_ble_eq_true rfl, Nat.le_of_ble_eq_true rfl⟩) (gPreV hK (g_rf hK hP (ci := 10) (q0 := 0) rfl rfl) hP) rfl rfl hl.1 rfl (lv_room (Nat.le_of_ble_eq_true rfl)) dL_law_1922 ⟨by omega, by omega⟩) hS (fun q _ h => (hMf q h).1) (fun q h => (hMf q h).1) (fun r8 H2 locs2 hw8 hz8 hk8 hS => ?_)
  obtain ⟨h8, hP⟩ := hw8
  have hLS := hLS.kept hA hk8 (fun q h => (hUf q h).2.1)
  have hO := vP_fr hO hk8 (oL_n (fun h => (hMf o h).2.1 rfl))
  have hD := vP_fr hD hk8 (oD_n (fun h => (hMf od h).2.2 rfl))
  exact lv_icmp_eq (tgt := 2162) hx hb dL_law_1925 (by decide) (fun _ => W.widen (k := ce + 1) (n := sl + 6) (by omega) (by omega) (KK _ _ _ _ _ _ _ hLS hP hO hD hS hl)) (fun q => absurd (e1.symm.trans h8.symm) q)

set_option maxHeartbeats 1000000 in
set_option maxRecDepth 100000 in
theorem lc_meanLeaning (l : Launch) (hlt : l.stackTraces = false) {p : Program} {e : Env} {s : State} {m : MethodId} {args : Array Value} {below : List Frame} {meth : Method} {c0 : Code} {Q : State → Prop} {H : Heap} {locs : List Loc} {ls : Array Slot} {ce sl i : Nat} {D : va_G} {cA : Nat → ClassId} {AE : Nat → Prop} {adK adV sa : Nat → Nat} {U : Nat → Nat} {rg : Nat → Option Nat} {A : Nat → Nat} {o od b L : Nat} {xs : Nat → Int32} {x : Nat → Int32} {f : Nat → Nat → Int32} {g : Nat → Int64} {gd : Nat → UInt64} (hx : p.tables.exec = Jvm.exec) (hb : c0.code = cL_law) (hml : c0.maxLocals = 9) (hown : s.vm.findClass RL = some m.cls) (hts : ∀ w ∈ Cond.initialized RL :: gG, w.before args s = true) (hK : gK D cA s) (hE : gE AE adK adV sa s s.heap) (hN : gNc s) (hX : va_X b L xs s s.heap) (hbl : b < s.heap.size) (hL : L ≤ 1536) (hi : i + 3 ≤ L) (hA : aInj 189 U) (hM : mInj A) (hrg : uRg U rg) (hAE : ∀ q, s.heap.size ≤ q → AE q) (hUf : ∀ q, aS 189 U q → s.heap.size ≤ q ∧ ¬ MA A q ∧ q ≠ o ∧ q ≠ od) (hMf : ∀ q, MA A q → s.heap.size ≤ q ∧ q ≠ o ∧ q ≠ od) (hof : s.heap.size ≤ o ∧ s.heap.size ≤ od ∧ o ≠ od) (hce : ce + 9 ≤ room_1.cells) (hsl : sl + 60 ≤ room_1.slots) (hS : va_S (fun q => s.heap.size ≤ q) s.heap H locs) (hl : lv_has ls 9 [(5, .int (nI i)), (4, .ref (od)), (3, .ref (o)), (2, .ref (A 0)), (1, .ref (U 0)), (0, .ref (b))]) (hLS : LST D cA U rg x f H) (hP : va_P D vwCl (mw cA A x f) H) (hO : va_P D vwCl (oL cA o g) H) (hD : va_P D vwCl (oD cA od gd) H)  (KK : ∀ (x1 : Nat → Int32) (f1 : Nat → Nat → Int32) (g1 : Nat → Int64) (gd1 : Nat → UInt64) (H1 : Heap) (locs1 : List Loc) (ls1 : Array Slot), LST D cA U rg x1 f1 H1 → va_P D vwCl (mw cA A x1 f1) H1 → va_P D vwCl (oL cA o g1) H1 → va_P D vwCl (oD cA od gd1) H1 → va_S (fun q => s.heap.size ≤ q) s.heap H1 locs1 → lv_has ls1 9 [(5, .int (nI i)), (4, .ref (od)), (3, .ref (o)), (2, .ref (A 0)), (1, .ref (U 0)), (0, .ref (b))] → W p l e room_1 s m args below meth c0 H1 locs1 (ce + 1) (sl + 6) Q (F0 m 2162 ls1 [])) : W p l e room_1 s m args below meth c0 H locs ce sl Q (F0 m 1930 ls []) := by
  obtain ⟨c, z, rz, hd, ct, rs, dt, mf, mn, tc, tl, to, kd, fi, se, ta, nu, lc, ln, sv, er, R, hU⟩ := hLS
  have hFA : ∀ q, aS 189 U q → AE q := fun q h => hAE q (hUf q h).1
  have hUO : ∀ q, uO U od q → s.heap.size ≤ q := fun q h => h.elim (fun h => (hUf q h).1) (fun h => h ▸ hof.2.1)
  have hoU : ¬ aS 189 U od := fun h => (hUf od h).2.2.2 rfl
  have hbA : ¬ (fun q => s.heap.size ≤ q) b := fun h => absurd hbl (Nat.not_lt.mpr h)
  refine lv_aload_n hx hb dL_law_1930 rfl (lv_at hl 4 rfl) ?_
  refine lv_aload hx hb dL_law_1931 (lv_at hl 1 rfl) ?_
  refine wr_calli (vx_runSW (As := [.ref (U 0), .ref (od)]) (rest := []) ⟨hx, hb, hml, hown, hts⟩ (c_L_meanLeaning l hlt D cA AE adK adV sa U rg c z rz hd ct rs dt mf mn tc tl to kd fi se ta nu lc ln sv er  od gd hA hFA hoU (fun q h => hAE q (hUO q h)) R.I.ok) (vx_cwSW 2 hts (gWSL gm_51_11 gm_51_12 gm_6_2 gm_51_13) rfl rfl rfl (by decide +kernel) ⟨Nat.le_of_ble_eq_true rfl, Nat.le_of_ble_eq_true rfl⟩) (gPreSy hK hE hN hS hAE ⟨hU, hD⟩) rfl rfl hl.1 rfl (lv_room (Nat.le_of_ble_eq_true rfl)) dL_law_1933 ⟨by omega, by omega⟩) hS (fun q _ h => hUO q h) (fun q h => hUO q h) (fun r H1 locs1 hw9 hz9 hk9 hS => ?_)
  obtain ⟨k9, rr, g9, rfl, hk2, hg9, hD, C⟩ := hw9
  have hnn : k9 = 0 → FP.Core.dIsNaN rr = false := fun hz => by
    rcases C with ⟨_, h1, e, _⟩ | ⟨h, _⟩
    · rw [e]; exact ddiv_no (fun h => h1 ((nI_z (by have := R.I.jn; omega)).mp h))
    · exact absurd (hz.symm.trans h) (by decide)
  obtain ⟨e4, e1, hLS⟩ := op_meanLeaning R C
  have hP := vP_fr hP hk9 (mw_n (A1 := uO U od) hM (fun q h h2 => h2.elim (fun h2 => (hUf q h2).2.1 h) (fun h2 => (hMf q h).2.2 h2)))
  have hO := vP_fr hO hk9 (oL_n (A := uO U od) (fun h => h.elim (fun h => (hUf o h).2.2.1 rfl) (fun h => hof.2.2 h)))
  refine lv_istore (lv' := [(6, .int (nI k9)), (5, .int (nI i)), (4, .ref (od)), (3, .ref (o)), (2, .ref (A 0)), (1, .ref (U 0)), (0, .ref (b))]) hx hb dL_law_1936 hl (by decide) rfl (fun ls hl => ?_)
  refine lv_aload_n hx hb dL_law_1938 rfl (lv_at hl 4 rfl) ?_
  refine wr_calld (va_runV (As := []) (rest := []) ⟨hx, hb, hml, hown, hts⟩ (c_X8_meanLeaning l D cA A x f (zjn c) hM R.G.g0 R.I.jn) (cwV 0 hts (gWVL gm_51_21 gm_51_22 gm_51_23 gm_1_5 gm_52_0) rfl rfl rfl (by decide +kernel) ⟨Nat.le_of_ble_eq_true rfl, Nat.le_of_ble_eq_true rfl⟩) (gPreV hK (g_rf hK hP (ci := 10) (q0 := 0) rfl rfl) hP) rfl rfl hl.1 rfl (lv_room (Nat.le_of_ble_eq_true rfl)) dL_law_1939 ⟨by omega, by omega⟩) hS (fun q _ h => (hMf q h).1) (fun q h => (hMf q h).1) (fun r8 H2 locs2 hw8 hz8 hk8 hS => ?_)
  obtain ⟨h8, hP⟩ := hw8
  have hLS := hLS.kept hA hk8 (fun q h => (hUf q h).2.1)
  have hO := vP_fr hO hk8 (oL_n (fun h => (hMf o h).2.1 rfl))
  have hD := vP_fr hD hk8 (oD_n (fun h => (hMf od h).2.2 rfl))
  refine lv_dstore (lv' := [(7, .double (r8)), (6, .int (nI k9)), (5, .int (nI i)), (4, .ref (od)), (3, .ref (o)), (2, .ref (A 0)), (1, .ref (U 0)), (0, .ref (b))]) hx hb dL_law_1942 hl (by decide) rfl (fun ls hl => ?_)
  refine lv_aload_n hx hb dL_law_1944 rfl (lv_at hl 5 rfl) ?_
  refine rd_calle (va_runV (As := []) (rest := []) ⟨hx, hb, hml, hown, hts⟩ (c_X8_thrown l D cA A _ _ k9 e4) (cwV 0 hts (gWVL gm_9_20 gm_9_21 gm_9_22 gm_1_5 gm_9_23) rfl rfl rfl (by decide +kernel) ⟨Nat.le_of_ble_eq_true rfl, Nat.le_of_ble_eq_true rfl⟩) (gPreV hK (g_rf hK hP (ci := 10) (q0 := 0) rfl rfl) hP) rfl rfl hl.1 rfl (lv_room (Nat.le_of_ble_eq_true rfl)) dL_law_1945 ⟨by omega, by omega⟩) ?_
  refine lv_iload hx hb dL_law_1948 (lv_at hl 1 rfl) ?_
  refine lv_icmp_eq (tgt := 1955) hx hb dL_law_1950 (by decide) (fun _ => ?_) (fun q => absurd rfl q)
  refine lv_iload hx hb dL_law_1955 (lv_at hl 1 rfl) ?_
  refine g_if_ne (P := k9 = 0) (tgt := 1992) hx hb dL_law_1957 (by decide) (nI_z (by omega)) (fun _ => ?_) (fun hz => ?_)
  · exact lv_goto (tgt := 2162) hx hb dL_law_1992 (by decide) (KK _ _ _ _ _ _ _ hLS hP hO hD hS (lv_sub hl [2, 3, 4, 5, 6, 7] rfl))
  · refine lv_aload hx hb dL_law_1960 (lv_at hl 3 rfl) ?_
    refine lv_iconst (v := nI 0) hx hb dL_law_1962 gc_0 ?_
    refine va_dald hx hb hK.1 hD 0 4 rfl rfl (vp_in_iff.mpr (by decide +kernel)) dL_law_1963 ?_
    refine lv_dload hx hb dL_law_1964 (lv_at hl 0 rfl) ?_
    have h97 : r8 = rr := h8.trans (e1 hz)
    have h99 : g9 (nI 0).toNatClampNeg = r8 := by rw [h97, show (nI 0).toNatClampNeg = 0 from nI_clamp (by decide)]; exact hg9 hz
    have h96 : FP.Core.dIsNaN r8 = false := by rw [h97]; exact hnn hz
    refine lv_dcmp hx hb dL_law_1966 ?_
    exact lv_if_eq (tgt := 1992) hx hb dL_law_1967 (by decide) (fun _ => lv_goto (tgt := 2162) hx hb dL_law_1992 (by decide) (KK _ _ _ _ _ _ _ hLS hP hO hD hS (lv_sub hl [2, 3, 4, 5, 6, 7] rfl))) (fun q => absurd (by rw [h99]; exact dc_self h96) q)

set_option maxHeartbeats 1000000 in
set_option maxRecDepth 100000 in
theorem lc_unsaidShare (l : Launch) (hlt : l.stackTraces = false) {p : Program} {e : Env} {s : State} {m : MethodId} {args : Array Value} {below : List Frame} {meth : Method} {c0 : Code} {Q : State → Prop} {H : Heap} {locs : List Loc} {ls : Array Slot} {ce sl i : Nat} {D : va_G} {cA : Nat → ClassId} {AE : Nat → Prop} {adK adV sa : Nat → Nat} {U : Nat → Nat} {rg : Nat → Option Nat} {A : Nat → Nat} {o od b L : Nat} {xs : Nat → Int32} {x : Nat → Int32} {f : Nat → Nat → Int32} {g : Nat → Int64} {gd : Nat → UInt64} (hx : p.tables.exec = Jvm.exec) (hb : c0.code = cL_law) (hml : c0.maxLocals = 9) (hown : s.vm.findClass RL = some m.cls) (hts : ∀ w ∈ Cond.initialized RL :: gG, w.before args s = true) (hK : gK D cA s) (hE : gE AE adK adV sa s s.heap) (hN : gNc s) (hX : va_X b L xs s s.heap) (hbl : b < s.heap.size) (hL : L ≤ 1536) (hi : i + 3 ≤ L) (hA : aInj 189 U) (hM : mInj A) (hrg : uRg U rg) (hAE : ∀ q, s.heap.size ≤ q → AE q) (hUf : ∀ q, aS 189 U q → s.heap.size ≤ q ∧ ¬ MA A q ∧ q ≠ o ∧ q ≠ od) (hMf : ∀ q, MA A q → s.heap.size ≤ q ∧ q ≠ o ∧ q ≠ od) (hof : s.heap.size ≤ o ∧ s.heap.size ≤ od ∧ o ≠ od) (hce : ce + 9 ≤ room_1.cells) (hsl : sl + 60 ≤ room_1.slots) (hS : va_S (fun q => s.heap.size ≤ q) s.heap H locs) (hl : lv_has ls 9 [(5, .int (nI i)), (4, .ref (od)), (3, .ref (o)), (2, .ref (A 0)), (1, .ref (U 0)), (0, .ref (b))]) (hLS : LST D cA U rg x f H) (hP : va_P D vwCl (mw cA A x f) H) (hO : va_P D vwCl (oL cA o g) H) (hD : va_P D vwCl (oD cA od gd) H)  (KK : ∀ (x1 : Nat → Int32) (f1 : Nat → Nat → Int32) (g1 : Nat → Int64) (gd1 : Nat → UInt64) (H1 : Heap) (locs1 : List Loc) (ls1 : Array Slot), LST D cA U rg x1 f1 H1 → va_P D vwCl (mw cA A x1 f1) H1 → va_P D vwCl (oL cA o g1) H1 → va_P D vwCl (oD cA od gd1) H1 → va_S (fun q => s.heap.size ≤ q) s.heap H1 locs1 → lv_has ls1 9 [(5, .int (nI i)), (4, .ref (od)), (3, .ref (o)), (2, .ref (A 0)), (1, .ref (U 0)), (0, .ref (b))] → W p l e room_1 s m args below meth c0 H1 locs1 (ce + 1) (sl + 6) Q (F0 m 2162 ls1 [])) : W p l e room_1 s m args below meth c0 H locs ce sl Q (F0 m 1995 ls []) := by
  obtain ⟨c, z, rz, hd, ct, rs, dt, mf, mn, tc, tl, to, kd, fi, se, ta, nu, lc, ln, sv, er, R, hU⟩ := hLS
  have hFA : ∀ q, aS 189 U q → AE q := fun q h => hAE q (hUf q h).1
  have hUO : ∀ q, uO U od q → s.heap.size ≤ q := fun q h => h.elim (fun h => (hUf q h).1) (fun h => h ▸ hof.2.1)
  have hoU : ¬ aS 189 U od := fun h => (hUf od h).2.2.2 rfl
  have hbA : ¬ (fun q => s.heap.size ≤ q) b := fun h => absurd hbl (Nat.not_lt.mpr h)
  refine lv_aload_n hx hb dL_law_1995 rfl (lv_at hl 4 rfl) ?_
  refine lv_aload hx hb dL_law_1996 (lv_at hl 1 rfl) ?_
  refine wr_calli (vx_runSW (As := [.ref (U 0), .ref (od)]) (rest := []) ⟨hx, hb, hml, hown, hts⟩ (c_L_unsaidShare l hlt D cA AE adK adV sa U rg c z rz hd ct rs dt mf mn tc tl to kd fi se ta nu lc ln sv er  od gd hA hFA hoU (fun q h => hAE q (hUO q h)) R.I.ok) (vx_cwSW 2 hts (gWSL gm_52_1 gm_52_2 gm_6_2 gm_52_3) rfl rfl rfl (by decide +kernel) ⟨Nat.le_of_ble_eq_true rfl, Nat.le_of_ble_eq_true rfl⟩) (gPreSy hK hE hN hS hAE ⟨hU, hD⟩) rfl rfl hl.1 rfl (lv_room (Nat.le_of_ble_eq_true rfl)) dL_law_1998 ⟨by omega, by omega⟩) hS (fun q _ h => hUO q h) (fun q h => hUO q h) (fun r H1 locs1 hw9 hz9 hk9 hS => ?_)
  obtain ⟨k9, rr, g9, rfl, hk2, hg9, hD, C⟩ := hw9
  have hnn : k9 = 0 → FP.Core.fIsNaN rr = false := fun hz => by
    rcases C with ⟨_, h1, e, _⟩ | ⟨h, _⟩
    · rw [e]; exact fdiv_no h1
    · exact absurd (hz.symm.trans h) (by decide)
  obtain ⟨e4, e1, hLS⟩ := op_unsaidShare R C
  have hP := vP_fr hP hk9 (mw_n (A1 := uO U od) hM (fun q h h2 => h2.elim (fun h2 => (hUf q h2).2.1 h) (fun h2 => (hMf q h).2.2 h2)))
  have hO := vP_fr hO hk9 (oL_n (A := uO U od) (fun h => h.elim (fun h => (hUf o h).2.2.1 rfl) (fun h => hof.2.2 h)))
  refine lv_istore (lv' := [(6, .int (nI k9)), (5, .int (nI i)), (4, .ref (od)), (3, .ref (o)), (2, .ref (A 0)), (1, .ref (U 0)), (0, .ref (b))]) hx hb dL_law_2001 hl (by decide) rfl (fun ls hl => ?_)
  refine lv_aload_n hx hb dL_law_2003 rfl (lv_at hl 4 rfl) ?_
  refine wr_callf (va_runV (As := []) (rest := []) ⟨hx, hb, hml, hown, hts⟩ (c_X8_unsaidShare l D cA A x f  hM) (cwV 0 hts (gWVL gm_52_8 gm_52_9 gm_52_10 gm_1_5 gm_52_11) rfl rfl rfl (by decide +kernel) ⟨Nat.le_of_ble_eq_true rfl, Nat.le_of_ble_eq_true rfl⟩) (gPreV hK (g_rf hK hP (ci := 10) (q0 := 0) rfl rfl) hP) rfl rfl hl.1 rfl (lv_room (Nat.le_of_ble_eq_true rfl)) dL_law_2004 ⟨by omega, by omega⟩) hS (fun q _ h => (hMf q h).1) (fun q h => (hMf q h).1) (fun r8 H2 locs2 hw8 hz8 hk8 hS => ?_)
  obtain ⟨h8, hP⟩ := hw8
  have hLS := hLS.kept hA hk8 (fun q h => (hUf q h).2.1)
  have hO := vP_fr hO hk8 (oL_n (fun h => (hMf o h).2.1 rfl))
  have hD := vP_fr hD hk8 (oD_n (fun h => (hMf od h).2.2 rfl))
  refine lv_fstore (lv' := [(7, .float (r8)), (6, .int (nI k9)), (5, .int (nI i)), (4, .ref (od)), (3, .ref (o)), (2, .ref (A 0)), (1, .ref (U 0)), (0, .ref (b))]) hx hb dL_law_2007 hl (by decide) rfl (fun ls hl => ?_)
  refine lv_aload_n hx hb dL_law_2009 rfl (lv_at hl 5 rfl) ?_
  refine rd_calle (va_runV (As := []) (rest := []) ⟨hx, hb, hml, hown, hts⟩ (c_X8_thrown l D cA A _ _ k9 e4) (cwV 0 hts (gWVL gm_9_20 gm_9_21 gm_9_22 gm_1_5 gm_9_23) rfl rfl rfl (by decide +kernel) ⟨Nat.le_of_ble_eq_true rfl, Nat.le_of_ble_eq_true rfl⟩) (gPreV hK (g_rf hK hP (ci := 10) (q0 := 0) rfl rfl) hP) rfl rfl hl.1 rfl (lv_room (Nat.le_of_ble_eq_true rfl)) dL_law_2010 ⟨by omega, by omega⟩) ?_
  refine lv_iload hx hb dL_law_2013 (lv_at hl 1 rfl) ?_
  refine lv_icmp_eq (tgt := 2020) hx hb dL_law_2015 (by decide) (fun _ => ?_) (fun q => absurd rfl q)
  refine lv_iload hx hb dL_law_2020 (lv_at hl 1 rfl) ?_
  refine g_if_ne (P := k9 = 0) (tgt := 2058) hx hb dL_law_2022 (by decide) (nI_z (by omega)) (fun _ => ?_) (fun hz => ?_)
  · exact lv_goto (tgt := 2162) hx hb dL_law_2058 (by decide) (KK _ _ _ _ _ _ _ hLS hP hO hD hS (lv_sub hl [2, 3, 4, 5, 6, 7] rfl))
  · refine lv_aload hx hb dL_law_2025 (lv_at hl 3 rfl) ?_
    refine lv_iconst (v := nI 0) hx hb dL_law_2027 gc_0 ?_
    refine va_dald hx hb hK.1 hD 0 4 rfl rfl (vp_in_iff.mpr (by decide +kernel)) dL_law_2028 ?_
    refine lv_fload hx hb dL_law_2029 (lv_at hl 0 rfl) ?_
    have h97 : r8 = rr := h8.trans (e1 hz)
    have h99 : g9 (nI 0).toNatClampNeg = FP.f2d r8 := by rw [h97, show (nI 0).toNatClampNeg = 0 from nI_clamp (by decide)]; exact hg9 hz
    have h96 : FP.Core.dIsNaN (FP.f2d r8) = false := (FP.f2d_nan _).trans (by rw [h97]; exact hnn hz)
    refine lv_f2d hx hb dL_law_2031 (n64_of h96) ?_
    refine lv_dcmp hx hb dL_law_2032 ?_
    exact lv_if_eq (tgt := 2058) hx hb dL_law_2033 (by decide) (fun _ => lv_goto (tgt := 2162) hx hb dL_law_2058 (by decide) (KK _ _ _ _ _ _ _ hLS hP hO hD hS (lv_sub hl [2, 3, 4, 5, 6, 7] rfl))) (fun q => absurd (by rw [h99]; exact dc_self h96) q)

set_option maxHeartbeats 1000000 in
set_option maxRecDepth 100000 in
theorem lc_undo (l : Launch) (hlt : l.stackTraces = false) {p : Program} {e : Env} {s : State} {m : MethodId} {args : Array Value} {below : List Frame} {meth : Method} {c0 : Code} {Q : State → Prop} {H : Heap} {locs : List Loc} {ls : Array Slot} {ce sl i : Nat} {D : va_G} {cA : Nat → ClassId} {AE : Nat → Prop} {adK adV sa : Nat → Nat} {U : Nat → Nat} {rg : Nat → Option Nat} {A : Nat → Nat} {o od b L : Nat} {xs : Nat → Int32} {x : Nat → Int32} {f : Nat → Nat → Int32} {g : Nat → Int64} {gd : Nat → UInt64} (hx : p.tables.exec = Jvm.exec) (hb : c0.code = cL_law) (hml : c0.maxLocals = 9) (hown : s.vm.findClass RL = some m.cls) (hts : ∀ w ∈ Cond.initialized RL :: gG, w.before args s = true) (hK : gK D cA s) (hE : gE AE adK adV sa s s.heap) (hN : gNc s) (hX : va_X b L xs s s.heap) (hbl : b < s.heap.size) (hL : L ≤ 1536) (hi : i + 3 ≤ L) (hA : aInj 189 U) (hM : mInj A) (hrg : uRg U rg) (hAE : ∀ q, s.heap.size ≤ q → AE q) (hUf : ∀ q, aS 189 U q → s.heap.size ≤ q ∧ ¬ MA A q ∧ q ≠ o ∧ q ≠ od) (hMf : ∀ q, MA A q → s.heap.size ≤ q ∧ q ≠ o ∧ q ≠ od) (hof : s.heap.size ≤ o ∧ s.heap.size ≤ od ∧ o ≠ od) (hce : ce + 9 ≤ room_1.cells) (hsl : sl + 60 ≤ room_1.slots) (hS : va_S (fun q => s.heap.size ≤ q) s.heap H locs) (hl : lv_has ls 9 [(5, .int (nI i)), (4, .ref (od)), (3, .ref (o)), (2, .ref (A 0)), (1, .ref (U 0)), (0, .ref (b))]) (hLS : LST D cA U rg x f H) (hP : va_P D vwCl (mw cA A x f) H) (hO : va_P D vwCl (oL cA o g) H) (hD : va_P D vwCl (oD cA od gd) H)  (KK : ∀ (x1 : Nat → Int32) (f1 : Nat → Nat → Int32) (g1 : Nat → Int64) (gd1 : Nat → UInt64) (H1 : Heap) (locs1 : List Loc) (ls1 : Array Slot), LST D cA U rg x1 f1 H1 → va_P D vwCl (mw cA A x1 f1) H1 → va_P D vwCl (oL cA o g1) H1 → va_P D vwCl (oD cA od gd1) H1 → va_S (fun q => s.heap.size ≤ q) s.heap H1 locs1 → lv_has ls1 9 [(5, .int (nI i)), (4, .ref (od)), (3, .ref (o)), (2, .ref (A 0)), (1, .ref (U 0)), (0, .ref (b))] → W p l e room_1 s m args below meth c0 H1 locs1 (ce + 1) (sl + 6) Q (F0 m 2162 ls1 [])) : W p l e room_1 s m args below meth c0 H locs ce sl Q (F0 m 2061 ls []) := by
  obtain ⟨c, z, rz, hd, ct, rs, dt, mf, mn, tc, tl, to, kd, fi, se, ta, nu, lc, ln, sv, er, R, hU⟩ := hLS
  have hFA : ∀ q, aS 189 U q → AE q := fun q h => hAE q (hUf q h).1
  have hUO : ∀ q, uO U o q → s.heap.size ≤ q := fun q h => h.elim (fun h => (hUf q h).1) (fun h => h ▸ hof.1)
  have hoU : ¬ aS 189 U o := fun h => (hUf o h).2.2.1 rfl
  have hbA : ¬ (fun q => s.heap.size ≤ q) b := fun h => absurd hbl (Nat.not_lt.mpr h)
  refine lv_aload_n hx hb dL_law_2061 rfl (lv_at hl 4 rfl) ?_
  refine lv_aload_n hx hb dL_law_2062 rfl (lv_at hl 2 rfl) ?_
  refine wr_calli (vx_runSW (As := [.ref (U 0), .ref (o)]) (rest := []) ⟨hx, hb, hml, hown, hts⟩ (c_L_undo l hlt D cA AE adK adV sa U rg c z rz hd ct rs dt mf mn tc tl to kd fi se ta nu lc ln sv er  o g hA hFA hoU (fun q h => hAE q (hUO q h)) R.I.ok hrg R.H.1 R.H.2.1) (vx_cwSW 2 hts (gWSL gm_52_12 gm_52_13 gm_6_2 gm_52_14) rfl rfl rfl (by decide +kernel) ⟨Nat.le_of_ble_eq_true rfl, Nat.le_of_ble_eq_true rfl⟩) (gPreSy hK hE hN hS hAE ⟨hU, hO⟩) rfl rfl hl.1 rfl (lv_room (Nat.le_of_ble_eq_true rfl)) dL_law_2063 ⟨by omega, by omega⟩) hS (fun q _ h => hUO q h) (fun q h => hUO q h) (fun r H1 locs1 hw9 hz9 hk9 hS => ?_)
  obtain ⟨k9, rr, g9, rfl, hk2, hg9, hO, C⟩ := hw9
  obtain ⟨e4, e1, hLS⟩ := op_undo R C
  have hP := vP_fr hP hk9 (mw_n (A1 := uO U o) hM (fun q h h2 => h2.elim (fun h2 => (hUf q h2).2.1 h) (fun h2 => (hMf q h).2.1 h2)))
  have hD := vP_fr hD hk9 (oD_n (A := uO U o) (fun h => h.elim (fun h => (hUf od h).2.2.2 rfl) (fun h => hof.2.2 h.symm)))
  refine lv_istore (lv' := [(6, .int (nI k9)), (5, .int (nI i)), (4, .ref (od)), (3, .ref (o)), (2, .ref (A 0)), (1, .ref (U 0)), (0, .ref (b))]) hx hb dL_law_2066 hl (by decide) rfl (fun ls hl => ?_)
  refine lv_aload_n hx hb dL_law_2068 rfl (lv_at hl 4 rfl) ?_
  refine wr_calli (va_runV (As := []) (rest := []) ⟨hx, hb, hml, hown, hts⟩ (c_X8_undo l D cA A x f ct hM R.x1 R.H.2.1) (cwV 0 hts (gWVL gm_53_0 gm_53_1 gm_53_2 gm_1_5 gm_53_3) rfl rfl rfl (by decide +kernel) ⟨Nat.le_of_ble_eq_true rfl, Nat.le_of_ble_eq_true rfl⟩) (gPreV hK (g_rf hK hP (ci := 10) (q0 := 0) rfl rfl) hP) rfl rfl hl.1 rfl (lv_room (Nat.le_of_ble_eq_true rfl)) dL_law_2069 ⟨by omega, by omega⟩) hS (fun q _ h => (hMf q h).1) (fun q h => (hMf q h).1) (fun r8 H2 locs2 hw8 hz8 hk8 hS => ?_)
  obtain ⟨h8, hP⟩ := hw8
  have hLS := hLS.kept hA hk8 (fun q h => (hUf q h).2.1)
  have hO := vP_fr hO hk8 (oL_n (fun h => (hMf o h).2.1 rfl))
  have hD := vP_fr hD hk8 (oD_n (fun h => (hMf od h).2.2 rfl))
  refine lv_istore (lv' := [(7, .int (r8)), (6, .int (nI k9)), (5, .int (nI i)), (4, .ref (od)), (3, .ref (o)), (2, .ref (A 0)), (1, .ref (U 0)), (0, .ref (b))]) hx hb dL_law_2072 hl (by decide) rfl (fun ls hl => ?_)
  refine lv_aload_n hx hb dL_law_2074 rfl (lv_at hl 5 rfl) ?_
  refine rd_calle (va_runV (As := []) (rest := []) ⟨hx, hb, hml, hown, hts⟩ (c_X8_thrown l D cA A _ _ k9 e4) (cwV 0 hts (gWVL gm_9_20 gm_9_21 gm_9_22 gm_1_5 gm_9_23) rfl rfl rfl (by decide +kernel) ⟨Nat.le_of_ble_eq_true rfl, Nat.le_of_ble_eq_true rfl⟩) (gPreV hK (g_rf hK hP (ci := 10) (q0 := 0) rfl rfl) hP) rfl rfl hl.1 rfl (lv_room (Nat.le_of_ble_eq_true rfl)) dL_law_2075 ⟨by omega, by omega⟩) ?_
  refine lv_iload hx hb dL_law_2078 (lv_at hl 1 rfl) ?_
  refine lv_icmp_eq (tgt := 2085) hx hb dL_law_2080 (by decide) (fun _ => ?_) (fun q => absurd rfl q)
  refine lv_iload hx hb dL_law_2085 (lv_at hl 1 rfl) ?_
  refine g_if_ne (P := k9 = 0) (tgt := 2102) hx hb dL_law_2087 (by decide) (nI_z (by omega)) (fun _ => ?_) (fun hz => ?_)
  · exact lv_goto (tgt := 2162) hx hb dL_law_2102 (by decide) (KK _ _ _ _ _ _ _ hLS hP hO hD hS (lv_sub hl [2, 3, 4, 5, 6, 7] rfl))
  · refine lv_aload_n hx hb dL_law_2090 rfl (lv_at hl 4 rfl) ?_
    refine lv_iconst (v := nI 0) hx hb dL_law_2091 gc_0 ?_
    refine va_lald hx hb hK.1 hO 0 3 rfl rfl (vp_in_iff.mpr (by decide +kernel)) dL_law_2092 ?_
    refine lv_iload hx hb dL_law_2093 (lv_at hl 0 rfl) ?_
    refine lv_i2l (v := r8.toInt64) hx hb dL_law_2095 rfl ?_
    refine W.lcmp hx hb dL_law_2096 ?_
    have h99 : g9 (nI 0).toNatClampNeg = r8.toInt64 := by rw [h8, e1 hz, show (nI 0).toNatClampNeg = 0 from nI_clamp (by decide)]; exact hg9 hz
    exact lv_if_eq (tgt := 2102) hx hb dL_law_2097 (by decide) (fun _ => lv_goto (tgt := 2162) hx hb dL_law_2102 (by decide) (KK _ _ _ _ _ _ _ hLS hP hO hD hS (lv_sub hl [2, 3, 4, 5, 6, 7] rfl))) (fun q => absurd (lg_same h99) q)

set_option maxHeartbeats 1000000 in
set_option maxRecDepth 100000 in
theorem lc_save (l : Launch) (hlt : l.stackTraces = false) {p : Program} {e : Env} {s : State} {m : MethodId} {args : Array Value} {below : List Frame} {meth : Method} {c0 : Code} {Q : State → Prop} {H : Heap} {locs : List Loc} {ls : Array Slot} {ce sl i : Nat} {D : va_G} {cA : Nat → ClassId} {AE : Nat → Prop} {adK adV sa : Nat → Nat} {U : Nat → Nat} {rg : Nat → Option Nat} {A : Nat → Nat} {o od b L : Nat} {xs : Nat → Int32} {x : Nat → Int32} {f : Nat → Nat → Int32} {g : Nat → Int64} {gd : Nat → UInt64} (hx : p.tables.exec = Jvm.exec) (hb : c0.code = cL_law) (hml : c0.maxLocals = 9) (hown : s.vm.findClass RL = some m.cls) (hts : ∀ w ∈ Cond.initialized RL :: gG, w.before args s = true) (hK : gK D cA s) (hE : gE AE adK adV sa s s.heap) (hN : gNc s) (hX : va_X b L xs s s.heap) (hbl : b < s.heap.size) (hL : L ≤ 1536) (hi : i + 3 ≤ L) (hA : aInj 189 U) (hM : mInj A) (hrg : uRg U rg) (hAE : ∀ q, s.heap.size ≤ q → AE q) (hUf : ∀ q, aS 189 U q → s.heap.size ≤ q ∧ ¬ MA A q ∧ q ≠ o ∧ q ≠ od) (hMf : ∀ q, MA A q → s.heap.size ≤ q ∧ q ≠ o ∧ q ≠ od) (hof : s.heap.size ≤ o ∧ s.heap.size ≤ od ∧ o ≠ od) (hce : ce + 9 ≤ room_1.cells) (hsl : sl + 60 ≤ room_1.slots) (hS : va_S (fun q => s.heap.size ≤ q) s.heap H locs) (hl : lv_has ls 9 [(5, .int (nI i)), (4, .ref (od)), (3, .ref (o)), (2, .ref (A 0)), (1, .ref (U 0)), (0, .ref (b))]) (hLS : LST D cA U rg x f H) (hP : va_P D vwCl (mw cA A x f) H) (hO : va_P D vwCl (oL cA o g) H) (hD : va_P D vwCl (oD cA od gd) H)  (KK : ∀ (x1 : Nat → Int32) (f1 : Nat → Nat → Int32) (g1 : Nat → Int64) (gd1 : Nat → UInt64) (H1 : Heap) (locs1 : List Loc) (ls1 : Array Slot), LST D cA U rg x1 f1 H1 → va_P D vwCl (mw cA A x1 f1) H1 → va_P D vwCl (oL cA o g1) H1 → va_P D vwCl (oD cA od gd1) H1 → va_S (fun q => s.heap.size ≤ q) s.heap H1 locs1 → lv_has ls1 9 [(5, .int (nI i)), (4, .ref (od)), (3, .ref (o)), (2, .ref (A 0)), (1, .ref (U 0)), (0, .ref (b))] → W p l e room_1 s m args below meth c0 H1 locs1 (ce + 1) (sl + 6) Q (F0 m 2162 ls1 [])) : W p l e room_1 s m args below meth c0 H locs ce sl Q (F0 m 2105 ls []) := by
  obtain ⟨c, z, rz, hd, ct, rs, dt, mf, mn, tc, tl, to, kd, fi, se, ta, nu, lc, ln, sv, er, R, hU⟩ := hLS
  have hFA : ∀ q, aS 189 U q → AE q := fun q h => hAE q (hUf q h).1
  refine lv_aload_n hx hb dL_law_2105 rfl (lv_at hl 4 rfl) ?_
  refine wr_calli (va_runV (As := []) (rest := []) ⟨hx, hb, hml, hown, hts⟩ (c_X7_save l D cA AE adK adV sa U rg c z rz hd ct rs dt mf mn tc tl to kd fi se ta nu lc ln sv er hA hFA R.I.ok) (cwV 0 hts (gWVL gm_53_4 gm_53_5 gm_53_6 gm_1_2 gm_53_7) rfl rfl rfl (by decide +kernel) ⟨Nat.le_of_ble_eq_true rfl, Nat.le_of_ble_eq_true rfl⟩) (gPreVx hK hE hS hAE (g_rf hK hU (ci := 9) (q0 := 0) rfl rfl) hU) rfl rfl hl.1 rfl (lv_room (Nat.le_of_ble_eq_true rfl)) dL_law_2106 ⟨by omega, by omega⟩) hS (fun q _ h => (hUf q h).1) (fun q h => (hUf q h).1) (fun r H1 locs1 C hz9 hk9 hS => ?_)
  obtain ⟨e1, hLS⟩ := op_save R C
  have hP := vP_fr hP hk9 (mw_n (A1 := aS 189 U) hM (fun q h h2 => (hUf q h2).2.1 h))
  have hO := vP_fr hO hk9 (oL_n (A := aS 189 U) (fun h => (hUf o h).2.2.1 rfl))
  have hD := vP_fr hD hk9 (oD_n (A := aS 189 U) (fun h => (hUf od h).2.2.2 rfl))
  refine lv_aload_n hx hb dL_law_2109 rfl (lv_at hl 3 rfl) ?_
  refine wr_calli (va_runV (As := []) (rest := [.int r]) ⟨hx, hb, hml, hown, hts⟩ (c_X8_save l D cA A x f (zcn c) hM R.G.g1 R.I.cn) (cwV 0 hts (gWVL gm_53_9 gm_53_10 gm_53_11 gm_1_5 gm_53_12) rfl rfl rfl (by decide +kernel) ⟨Nat.le_of_ble_eq_true rfl, Nat.le_of_ble_eq_true rfl⟩) (gPreV hK (g_rf hK hP (ci := 10) (q0 := 0) rfl rfl) hP) rfl rfl hl.1 rfl (lv_room (Nat.le_of_ble_eq_true rfl)) dL_law_2110 ⟨by omega, by omega⟩) hS (fun q _ h => (hMf q h).1) (fun q h => (hMf q h).1) (fun r8 H2 locs2 hw8 hz8 hk8 hS => ?_)
  obtain ⟨h8, hP⟩ := hw8
  have hLS := hLS.kept hA hk8 (fun q h => (hUf q h).2.1)
  have hO := vP_fr hO hk8 (oL_n (fun h => (hMf o h).2.1 rfl))
  have hD := vP_fr hD hk8 (oD_n (fun h => (hMf od h).2.2 rfl))
  exact lv_icmp_eq (tgt := 2162) hx hb dL_law_2113 (by decide) (fun _ => W.widen (k := ce + 1) (n := sl + 6) (by omega) (by omega) (KK _ _ _ _ _ _ _ hLS hP hO hD hS hl)) (fun q => absurd (e1.symm.trans h8.symm) q)

set_option maxHeartbeats 1000000 in
set_option maxRecDepth 100000 in
theorem lc_restore (l : Launch) (hlt : l.stackTraces = false) {p : Program} {e : Env} {s : State} {m : MethodId} {args : Array Value} {below : List Frame} {meth : Method} {c0 : Code} {Q : State → Prop} {H : Heap} {locs : List Loc} {ls : Array Slot} {ce sl i : Nat} {D : va_G} {cA : Nat → ClassId} {AE : Nat → Prop} {adK adV sa : Nat → Nat} {U : Nat → Nat} {rg : Nat → Option Nat} {A : Nat → Nat} {o od b L : Nat} {xs : Nat → Int32} {x : Nat → Int32} {f : Nat → Nat → Int32} {g : Nat → Int64} {gd : Nat → UInt64} (hx : p.tables.exec = Jvm.exec) (hb : c0.code = cL_law) (hml : c0.maxLocals = 9) (hown : s.vm.findClass RL = some m.cls) (hts : ∀ w ∈ Cond.initialized RL :: gG, w.before args s = true) (hK : gK D cA s) (hE : gE AE adK adV sa s s.heap) (hN : gNc s) (hX : va_X b L xs s s.heap) (hbl : b < s.heap.size) (hL : L ≤ 1536) (hi : i + 3 ≤ L) (hA : aInj 189 U) (hM : mInj A) (hrg : uRg U rg) (hAE : ∀ q, s.heap.size ≤ q → AE q) (hUf : ∀ q, aS 189 U q → s.heap.size ≤ q ∧ ¬ MA A q ∧ q ≠ o ∧ q ≠ od) (hMf : ∀ q, MA A q → s.heap.size ≤ q ∧ q ≠ o ∧ q ≠ od) (hof : s.heap.size ≤ o ∧ s.heap.size ≤ od ∧ o ≠ od) (hce : ce + 9 ≤ room_1.cells) (hsl : sl + 60 ≤ room_1.slots) (hS : va_S (fun q => s.heap.size ≤ q) s.heap H locs) (hl : lv_has ls 9 [(5, .int (nI i)), (4, .ref (od)), (3, .ref (o)), (2, .ref (A 0)), (1, .ref (U 0)), (0, .ref (b))]) (hLS : LST D cA U rg x f H) (hP : va_P D vwCl (mw cA A x f) H) (hO : va_P D vwCl (oL cA o g) H) (hD : va_P D vwCl (oD cA od gd) H)  (KK : ∀ (x1 : Nat → Int32) (f1 : Nat → Nat → Int32) (g1 : Nat → Int64) (gd1 : Nat → UInt64) (H1 : Heap) (locs1 : List Loc) (ls1 : Array Slot), LST D cA U rg x1 f1 H1 → va_P D vwCl (mw cA A x1 f1) H1 → va_P D vwCl (oL cA o g1) H1 → va_P D vwCl (oD cA od gd1) H1 → va_S (fun q => s.heap.size ≤ q) s.heap H1 locs1 → lv_has ls1 9 [(5, .int (nI i)), (4, .ref (od)), (3, .ref (o)), (2, .ref (A 0)), (1, .ref (U 0)), (0, .ref (b))] → W p l e room_1 s m args below meth c0 H1 locs1 (ce + 1) (sl + 6) Q (F0 m 2162 ls1 [])) : W p l e room_1 s m args below meth c0 H locs ce sl Q (F0 m 2118 ls []) := by
  obtain ⟨c, z, rz, hd, ct, rs, dt, mf, mn, tc, tl, to, kd, fi, se, ta, nu, lc, ln, sv, er, R, hU⟩ := hLS
  have hFA : ∀ q, aS 189 U q → AE q := fun q h => hAE q (hUf q h).1
  have hUO : ∀ q, uO U o q → s.heap.size ≤ q := fun q h => h.elim (fun h => (hUf q h).1) (fun h => h ▸ hof.1)
  have hoU : ¬ aS 189 U o := fun h => (hUf o h).2.2.1 rfl
  have hbA : ¬ (fun q => s.heap.size ≤ q) b := fun h => absurd hbl (Nat.not_lt.mpr h)
  refine lv_aload_n hx hb dL_law_2118 rfl (lv_at hl 4 rfl) ?_
  refine lv_aload_n hx hb dL_law_2119 rfl (lv_at hl 2 rfl) ?_
  refine wr_calli (vx_runSW (As := [.ref (U 0), .ref (o)]) (rest := []) ⟨hx, hb, hml, hown, hts⟩ (c_L_restore l hlt D cA AE adK adV sa U rg c z rz hd ct rs dt mf mn tc tl to kd fi se ta nu lc ln sv er  o g hA hFA hoU (fun q h => hAE q (hUO q h)) R.I.ok) (vx_cwSW 2 hts (gWSL gm_53_14 gm_53_15 gm_6_2 gm_53_16) rfl rfl rfl (by decide +kernel) ⟨Nat.le_of_ble_eq_true rfl, Nat.le_of_ble_eq_true rfl⟩) (gPreSy hK hE hN hS hAE ⟨hU, hO⟩) rfl rfl hl.1 rfl (lv_room (Nat.le_of_ble_eq_true rfl)) dL_law_2120 ⟨by omega, by omega⟩) hS (fun q _ h => hUO q h) (fun q h => hUO q h) (fun r H1 locs1 hw9 hz9 hk9 hS => ?_)
  obtain ⟨k9, rr, g9, rfl, hk2, hg9, hO, C⟩ := hw9
  obtain ⟨e4, e1, hLS⟩ := op_restore R C
  have hP := vP_fr hP hk9 (mw_n (A1 := uO U o) hM (fun q h h2 => h2.elim (fun h2 => (hUf q h2).2.1 h) (fun h2 => (hMf q h).2.1 h2)))
  have hD := vP_fr hD hk9 (oD_n (A := uO U o) (fun h => h.elim (fun h => (hUf od h).2.2.2 rfl) (fun h => hof.2.2 h.symm)))
  refine lv_istore (lv' := [(6, .int (nI k9)), (5, .int (nI i)), (4, .ref (od)), (3, .ref (o)), (2, .ref (A 0)), (1, .ref (U 0)), (0, .ref (b))]) hx hb dL_law_2123 hl (by decide) rfl (fun ls hl => ?_)
  refine lv_aload_n hx hb dL_law_2125 rfl (lv_at hl 4 rfl) ?_
  refine wr_calli (va_runV (As := []) (rest := []) ⟨hx, hb, hml, hown, hts⟩ (c_X8_restore l D cA A x f sv hM R.x0) (cwV 0 hts (gWVL gm_53_21 gm_53_22 gm_53_23 gm_1_5 gm_54_0) rfl rfl rfl (by decide +kernel) ⟨Nat.le_of_ble_eq_true rfl, Nat.le_of_ble_eq_true rfl⟩) (gPreV hK (g_rf hK hP (ci := 10) (q0 := 0) rfl rfl) hP) rfl rfl hl.1 rfl (lv_room (Nat.le_of_ble_eq_true rfl)) dL_law_2126 ⟨by omega, by omega⟩) hS (fun q _ h => (hMf q h).1) (fun q h => (hMf q h).1) (fun r8 H2 locs2 hw8 hz8 hk8 hS => ?_)
  obtain ⟨h8, hP⟩ := hw8
  have hLS := hLS.kept hA hk8 (fun q h => (hUf q h).2.1)
  have hO := vP_fr hO hk8 (oL_n (fun h => (hMf o h).2.1 rfl))
  have hD := vP_fr hD hk8 (oD_n (fun h => (hMf od h).2.2 rfl))
  refine lv_istore (lv' := [(7, .int (r8)), (6, .int (nI k9)), (5, .int (nI i)), (4, .ref (od)), (3, .ref (o)), (2, .ref (A 0)), (1, .ref (U 0)), (0, .ref (b))]) hx hb dL_law_2129 hl (by decide) rfl (fun ls hl => ?_)
  refine lv_aload_n hx hb dL_law_2131 rfl (lv_at hl 5 rfl) ?_
  refine rd_calle (va_runV (As := []) (rest := []) ⟨hx, hb, hml, hown, hts⟩ (c_X8_thrown l D cA A _ _ k9 e4) (cwV 0 hts (gWVL gm_9_20 gm_9_21 gm_9_22 gm_1_5 gm_9_23) rfl rfl rfl (by decide +kernel) ⟨Nat.le_of_ble_eq_true rfl, Nat.le_of_ble_eq_true rfl⟩) (gPreV hK (g_rf hK hP (ci := 10) (q0 := 0) rfl rfl) hP) rfl rfl hl.1 rfl (lv_room (Nat.le_of_ble_eq_true rfl)) dL_law_2132 ⟨by omega, by omega⟩) ?_
  refine lv_iload hx hb dL_law_2135 (lv_at hl 1 rfl) ?_
  refine lv_icmp_eq (tgt := 2142) hx hb dL_law_2137 (by decide) (fun _ => ?_) (fun q => absurd rfl q)
  refine lv_iload hx hb dL_law_2142 (lv_at hl 1 rfl) ?_
  refine g_if_ne (P := k9 = 0) (tgt := 2159) hx hb dL_law_2144 (by decide) (nI_z (by omega)) (fun _ => ?_) (fun hz => ?_)
  · exact lv_goto (tgt := 2162) hx hb dL_law_2159 (by decide) (KK _ _ _ _ _ _ _ hLS hP hO hD hS (lv_sub hl [2, 3, 4, 5, 6, 7] rfl))
  · refine lv_aload_n hx hb dL_law_2147 rfl (lv_at hl 4 rfl) ?_
    refine lv_iconst (v := nI 0) hx hb dL_law_2148 gc_0 ?_
    refine va_lald hx hb hK.1 hO 0 3 rfl rfl (vp_in_iff.mpr (by decide +kernel)) dL_law_2149 ?_
    refine lv_iload hx hb dL_law_2150 (lv_at hl 0 rfl) ?_
    refine lv_i2l (v := r8.toInt64) hx hb dL_law_2152 rfl ?_
    refine W.lcmp hx hb dL_law_2153 ?_
    have h99 : g9 (nI 0).toNatClampNeg = r8.toInt64 := by rw [h8, e1 hz, show (nI 0).toNatClampNeg = 0 from nI_clamp (by decide)]; exact hg9 hz
    exact lv_if_eq (tgt := 2159) hx hb dL_law_2154 (by decide) (fun _ => lv_goto (tgt := 2162) hx hb dL_law_2159 (by decide) (KK _ _ _ _ _ _ _ hLS hP hO hD hS (lv_sub hl [2, 3, 4, 5, 6, 7] rfl))) (fun q => absurd (lg_same h99) q)

