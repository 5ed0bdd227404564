set_option maxHeartbeats 1000000 in
set_option maxRecDepth 100000 in
theorem c_X8_meanLeaning (l : Launch) (D : va_G) (cA : Nat → ClassId) (A : Nat → Nat) (x : Nat → Int32) (f : Nat → Nat → Int32) (jn : Nat) (hA : mInj A) (hj : f 0 0 = nI jn) (hjn : jn ≤ 9) : Met l yX8_meanLeaning (gw yX8_meanLeaning cX8_meanLeaning 1 (some .double)) ({ frames := 2, cells := 0, slots := 0, locals := 45 } : Room) (gPc [.ref (A 0)] (fun H => va_P D vwCl (mw cA A x f) H) D cA) (wrD (fun r H => r = (if jn = 0 then FP.dconst0 else FP.ddiv (FP.i2d (isum (fun j => gby (f 0) j 0) jn)) (FP.i2d (nI jn))) ∧ va_P D vwCl (mw cA A (upd (upd x 4 (if jn = 0 then nI 1 else nI 0)) 3 (nI 0)) (f)) H) (MA A)) 0 0 (MA A) := by
  refine gOf (by decide) (Nat.le_of_ble_eq_true rfl) ?_
  intro p e s m below meth c ls hx hb hml hr hlk hown hts hnm hP hK hl
  have hl : lv_has ls 1 [(0, .ref (A 0))] := hl
  have hD : va_D (MA A) (mw cA A x f) := mD hA
  have hS : va_S (MA A) s.heap s.heap [] := va_S.rf
  refine lv_aload_n hx hb dX8_meanLeaning_0 rfl (lv_at hl 0 rfl) ?_
  refine lv_aload_n hx hb dX8_meanLeaning_1 rfl (lv_at hl 0 rfl) ?_
  refine g_get (v := .ref (A 1)) hx hb hts hown hK hP 0 rfl rfl gu_wsX80 0 (by decide) gm_5_14 rfl dX8_meanLeaning_2 ?_
  refine lv_iconst (v := nI (0)) hx hb dX8_meanLeaning_5 gc_0 ?_
  refine g_iald (x := nI (jn)) hx hb hK hP 1 rfl (by omega) (by decide) hj dX8_meanLeaning_6 ?_
  refine g_if_ne (P := jn = 0) (tgt := 14) hx hb dX8_meanLeaning_7 (by decide) (nI_z (by omega)) (fun c_1 => ?_) (fun c_1 => ?_)
  · refine lv_iconst (v := nI (0)) hx hb dX8_meanLeaning_14 gc_0 ?_
    refine wr_calli (va_runV (As := [.int (nI (0))]) (rest := []) ⟨hx, hb, hml, hown, hts⟩ (c_X8_fails l D cA A (x) (f) (0)  hA (by decide)) (cwV 1 hts (gWV gm_8_23 gm_9_0 gm_9_1 gm_1_5 gm_9_2) rfl rfl rfl (by decide +kernel) ⟨Nat.le_of_ble_eq_true rfl, Nat.le_of_ble_eq_true rfl⟩) (gPreV hK (g_rf hK hP (ci := 10) (q0 := 0) rfl rfl) hP) rfl rfl hl.1 rfl (lv_room (Nat.le_of_ble_eq_true rfl)) dX8_meanLeaning_15 ⟨by omega, by omega⟩) hS (fun q _ h => h) (fun q h => h) (fun r H locs hw9 hz9 hk9 hS => ?_)
    obtain ⟨rfl, hP⟩ := hw9
    have hP : va_P D vwCl (mw cA A (upd (upd (x) 3 (nI (0))) 4 (nI (0))) (f)) H := hP
    have hD : va_D (MA A) (mw cA A (upd (upd (x) 3 (nI (0))) 4 (nI (0))) (f)) := mD hA
    refine g_if_eq (P := false = false) (tgt := 25) hx hb dX8_meanLeaning_18 (by decide) b2i_0 (fun c_2 => ?_) (fun c_2 => ?_)
    · refine lv_aload_n hx hb dX8_meanLeaning_25 rfl (lv_at hl 0 rfl) ?_
      refine lv_iconst (v := nI (0)) hx hb dX8_meanLeaning_26 gc_0 ?_
      refine rd_calle (va_runV (As := [.int (nI (0))]) (rest := []) ⟨hx, hb, hml, hown, hts⟩ (c_X8_summed l D cA A (upd (upd (x) 3 (nI (0))) 4 (nI (0))) (f) (0) jn hj hjn (by omega)) (cwV 1 hts (gWV gm_50_2 gm_50_3 gm_50_4 gm_1_5 gm_50_5) rfl rfl rfl (by decide +kernel) ⟨Nat.le_of_ble_eq_true rfl, Nat.le_of_ble_eq_true rfl⟩) (gPreV hK (g_rf hK hP (ci := 10) (q0 := 0) rfl rfl) hP) rfl rfl hl.1 rfl (lv_room (Nat.le_of_ble_eq_true rfl)) dX8_meanLeaning_27 ⟨by omega, by omega⟩) ?_
      refine lv_i2d hx hb dX8_meanLeaning_30 ?_
      refine lv_aload_n hx hb dX8_meanLeaning_31 rfl (lv_at hl 0 rfl) ?_
      refine g_get (v := .ref (A 1)) hx hb hts hown hK hP 0 rfl rfl gu_wsX80 0 (by decide) gm_5_14 rfl dX8_meanLeaning_32 ?_
      refine lv_iconst (v := nI (0)) hx hb dX8_meanLeaning_35 gc_0 ?_
      refine g_iald (x := nI (jn)) hx hb hK hP 1 rfl (by omega) (by decide) hj dX8_meanLeaning_36 ?_
      refine lv_i2d hx hb dX8_meanLeaning_37 ?_
      refine lv_ddiv hx hb dX8_meanLeaning_38 (n64_of (ddiv_no (fun h => c_1 ((nI_z (by omega)).mp h)))) ?_
      exact g_dretW hx hb hr hlk hS dX8_meanLeaning_39 (⟨by rw [if_neg c_1], by rw [if_neg c_1]; exact hP⟩)
    · exact absurd c_2 (by decide)
  · refine lv_iconst (v := nI (1)) hx hb dX8_meanLeaning_10 gc_1 ?_
    refine lv_goto (tgt := 15) hx hb dX8_meanLeaning_11 (by decide) ?_
    refine wr_calli (va_runV (As := [.int (nI (1))]) (rest := []) ⟨hx, hb, hml, hown, hts⟩ (c_X8_fails l D cA A (x) (f) (1)  hA (by decide)) (cwV 1 hts (gWV gm_8_23 gm_9_0 gm_9_1 gm_1_5 gm_9_2) rfl rfl rfl (by decide +kernel) ⟨Nat.le_of_ble_eq_true rfl, Nat.le_of_ble_eq_true rfl⟩) (gPreV hK (g_rf hK hP (ci := 10) (q0 := 0) rfl rfl) hP) rfl rfl hl.1 rfl (lv_room (Nat.le_of_ble_eq_true rfl)) dX8_meanLeaning_15 ⟨by omega, by omega⟩) hS (fun q _ h => h) (fun q h => h) (fun r H locs hw9 hz9 hk9 hS => ?_)
    obtain ⟨rfl, hP⟩ := hw9
    have hP : va_P D vwCl (mw cA A (upd (upd (x) 3 (nI (0))) 4 (nI (1))) (f)) H := hP
    have hD : va_D (MA A) (mw cA A (upd (upd (x) 3 (nI (0))) 4 (nI (1))) (f)) := mD hA
    refine g_if_eq (P := true = false) (tgt := 25) hx hb dX8_meanLeaning_18 (by decide) b2i_0 (fun c_3 => ?_) (fun c_3 => ?_)
    · exact absurd c_3 (by decide)
    · have c_3 : true = true := eq_true_of_ne_false c_3
      refine lv_dconst0 hx hb dX8_meanLeaning_21 ?_
      refine lv_goto (tgt := 39) hx hb dX8_meanLeaning_22 (by decide) ?_
      exact g_dretW hx hb hr hlk hS dX8_meanLeaning_39 (⟨by rw [if_pos c_1], by rw [if_pos c_1]; exact hP⟩)

set_option maxHeartbeats 1000000 in
set_option maxRecDepth 100000 in
theorem c_X8_unsaidShare (l : Launch) (D : va_G) (cA : Nat → ClassId) (A : Nat → Nat) (x : Nat → Int32) (f : Nat → Nat → Int32) (hA : mInj A)  : Met l yX8_unsaidShare (gw yX8_unsaidShare cX8_unsaidShare 1 (some .float)) ({ frames := 1, cells := 0, slots := 0, locals := 21 } : Room) (gPc [.ref (A 0)] (fun H => va_P D vwCl (mw cA A x f) H) D cA) (wrF (fun r H => r = (if f 0 4 = 0 then FP.fconst0 else FP.fdiv (FP.i2f (f 0 5)) (FP.i2f (f 0 4))) ∧ va_P D vwCl (mw cA A (upd (upd x 4 (if f 0 4 = 0 then nI 1 else nI 0)) 3 (nI 0)) (f)) H) (MA A)) 0 0 (MA A) := by
  refine gOf (by decide) (Nat.le_of_ble_eq_true rfl) ?_
  intro p e s m below meth c ls hx hb hml hr hlk hown hts hnm hP hK hl
  have hl : lv_has ls 1 [(0, .ref (A 0))] := hl
  have hD : va_D (MA A) (mw cA A x f) := mD hA
  have hS : va_S (MA A) s.heap s.heap [] := va_S.rf
  refine lv_aload_n hx hb dX8_unsaidShare_0 rfl (lv_at hl 0 rfl) ?_
  refine lv_aload_n hx hb dX8_unsaidShare_1 rfl (lv_at hl 0 rfl) ?_
  refine g_get (v := .ref (A 1)) hx hb hts hown hK hP 0 rfl rfl gu_wsX80 0 (by decide) gm_5_14 rfl dX8_unsaidShare_2 ?_
  refine lv_iconst (v := nI (4)) hx hb dX8_unsaidShare_5 gc_4 ?_
  refine g_iald (x := f 0 (4)) hx hb hK hP 1 rfl (by omega) (by decide) rfl dX8_unsaidShare_6 ?_
  refine g_if_ne (P := f 0 (4) = 0) (tgt := 14) hx hb dX8_unsaidShare_7 (by decide) Iff.rfl (fun c_1 => ?_) (fun c_1 => ?_)
  · refine lv_iconst (v := nI (0)) hx hb dX8_unsaidShare_14 gc_0 ?_
    refine wr_calli (va_runV (As := [.int (nI (0))]) (rest := []) ⟨hx, hb, hml, hown, hts⟩ (c_X8_fails l D cA A (x) (f) (0)  hA (by decide)) (cwV 1 hts (gWV gm_8_23 gm_9_0 gm_9_1 gm_1_5 gm_9_2) rfl rfl rfl (by decide +kernel) ⟨Nat.le_of_ble_eq_true rfl, Nat.le_of_ble_eq_true rfl⟩) (gPreV hK (g_rf hK hP (ci := 10) (q0 := 0) rfl rfl) hP) rfl rfl hl.1 rfl (lv_room (Nat.le_of_ble_eq_true rfl)) dX8_unsaidShare_15 ⟨by omega, by omega⟩) hS (fun q _ h => h) (fun q h => h) (fun r H locs hw9 hz9 hk9 hS => ?_)
    obtain ⟨rfl, hP⟩ := hw9
    have hP : va_P D vwCl (mw cA A (upd (upd (x) 3 (nI (0))) 4 (nI (0))) (f)) H := hP
    have hD : va_D (MA A) (mw cA A (upd (upd (x) 3 (nI (0))) 4 (nI (0))) (f)) := mD hA
    refine g_if_eq (P := false = false) (tgt := 25) hx hb dX8_unsaidShare_18 (by decide) b2i_0 (fun c_2 => ?_) (fun c_2 => ?_)
    · refine lv_aload_n hx hb dX8_unsaidShare_25 rfl (lv_at hl 0 rfl) ?_
      refine g_get (v := .ref (A 1)) hx hb hts hown hK hP 0 rfl rfl gu_wsX80 0 (by decide) gm_5_14 rfl dX8_unsaidShare_26 ?_
      refine lv_iconst (v := nI (5)) hx hb dX8_unsaidShare_29 gc_5 ?_
      refine g_iald (x := f 0 (5)) hx hb hK hP 1 rfl (by omega) (by decide) rfl dX8_unsaidShare_30 ?_
      refine lv_i2f hx hb dX8_unsaidShare_31 ?_
      refine lv_aload_n hx hb dX8_unsaidShare_32 rfl (lv_at hl 0 rfl) ?_
      refine g_get (v := .ref (A 1)) hx hb hts hown hK hP 0 rfl rfl gu_wsX80 0 (by decide) gm_5_14 rfl dX8_unsaidShare_33 ?_
      refine lv_iconst (v := nI (4)) hx hb dX8_unsaidShare_36 gc_4 ?_
      refine g_iald (x := f 0 (4)) hx hb hK hP 1 rfl (by omega) (by decide) rfl dX8_unsaidShare_37 ?_
      refine lv_i2f hx hb dX8_unsaidShare_38 ?_
      refine lv_fdiv hx hb dX8_unsaidShare_39 (n32_of (fdiv_no c_1)) ?_
      exact g_fretW hx hb hr hlk hS dX8_unsaidShare_40 (⟨by rw [if_neg c_1], by rw [if_neg c_1]; exact hP⟩)
    · exact absurd c_2 (by decide)
  · refine lv_iconst (v := nI (1)) hx hb dX8_unsaidShare_10 gc_1 ?_
    refine lv_goto (tgt := 15) hx hb dX8_unsaidShare_11 (by decide) ?_
    refine wr_calli (va_runV (As := [.int (nI (1))]) (rest := []) ⟨hx, hb, hml, hown, hts⟩ (c_X8_fails l D cA A (x) (f) (1)  hA (by decide)) (cwV 1 hts (gWV gm_8_23 gm_9_0 gm_9_1 gm_1_5 gm_9_2) rfl rfl rfl (by decide +kernel) ⟨Nat.le_of_ble_eq_true rfl, Nat.le_of_ble_eq_true rfl⟩) (gPreV hK (g_rf hK hP (ci := 10) (q0 := 0) rfl rfl) hP) rfl rfl hl.1 rfl (lv_room (Nat.le_of_ble_eq_true rfl)) dX8_unsaidShare_15 ⟨by omega, by omega⟩) hS (fun q _ h => h) (fun q h => h) (fun r H locs hw9 hz9 hk9 hS => ?_)
    obtain ⟨rfl, hP⟩ := hw9
    have hP : va_P D vwCl (mw cA A (upd (upd (x) 3 (nI (0))) 4 (nI (1))) (f)) H := hP
    have hD : va_D (MA A) (mw cA A (upd (upd (x) 3 (nI (0))) 4 (nI (1))) (f)) := mD hA
    refine g_if_eq (P := true = false) (tgt := 25) hx hb dX8_unsaidShare_18 (by decide) b2i_0 (fun c_3 => ?_) (fun c_3 => ?_)
    · exact absurd c_3 (by decide)
    · have c_3 : true = true := eq_true_of_ne_false c_3
      refine lv_fconst0 hx hb dX8_unsaidShare_21 ?_
      refine lv_goto (tgt := 40) hx hb dX8_unsaidShare_22 (by decide) ?_
      exact g_fretW hx hb hr hlk hS dX8_unsaidShare_40 (⟨by rw [if_pos c_1], by rw [if_pos c_1]; exact hP⟩)

def nX8 (a : Nat) : va_W := [(a, .inr (10, [.null, .null, .null, .null, .int 0, .int 0, .int 0, .int 0, .int 0, .int 0, .int 0, .null, .int 0, .int 0, .null, .int 0, .null, .null, .int 0, .null, .int 0]))]
def m0x : Nat → Int32 := upd (fun _ => nI 0) 8 (-1)
def m0f : Nat → Nat → Int32 := va_up (fun _ _ => nI 0) 0 (upd (fun _ => nI 0) 2 (nI 1))
set_option maxHeartbeats 1000000 in
set_option maxRecDepth 100000 in
theorem c_X8_init (l : Launch) (D : va_G) (cA : Nat → ClassId) (a sz : Nat) : Met l yX8_init (gw yX8_init cX8_init 1 none) ({ frames := 1, cells := 9, slots := 1595, locals := 12 } : Room) (gPc [.ref a] (fun H => va_P D vwCl (nX8 a) H ∧ H.size = sz) D cA) (wrV (fun H => ∃ A : Nat → Nat, A 0 = a ∧ va_P D vwCl (mw cA A m0x m0f) H ∧ va_D (va_A (nX8 a) sz) (mw cA A m0x m0f)) (va_A (nX8 a) sz)) 9 1595 (va_A (nX8 a) sz) := by
  refine gOf (by decide) (Nat.le_of_ble_eq_true rfl) ?_
  intro p e s m below meth c ls hx hb hml hr hlk hown hts hnm hP hK hl
  have hl : lv_has ls 1 [(0, .ref a)] := hl
  obtain ⟨hP, hsz⟩ := hP
  subst hsz
  have hnm : meth.name = "<init>" := hnm
  have hA : ∀ q : Nat, s.heap.size ≤ q → va_A (nX8 a) s.heap.size q := fun q h => Or.inr h
  have hD0 : va_D (fun _ => True) (nX8 a) := vDm.mpr ⟨List.nodup_cons.mpr ⟨List.not_mem_nil, List.nodup_nil⟩, fun _ _ => trivial⟩
  have hD := hD0.self (sz := s.heap.size)
  have hS : va_S (va_A (nX8 a) s.heap.size) s.heap s.heap [] := va_S.rf
  generalize hFe : va_A (nX8 a) s.heap.size = F at hA hD hS ⊢
  refine lv_aload_n hx hb dX8_init_0 rfl (lv_at hl 0 rfl) ?_
  refine g_oinit hx hb (hml.trans hl.1.symm) hts hown gm_5_13 dX8_init_1 (Nat.le_of_ble_eq_true rfl) (Nat.le_of_ble_eq_true rfl) ?_
  refine lv_aload_n hx hb dX8_init_4 rfl (lv_at hl 0 rfl) ?_
  refine lv_bipush (v := nI 124) hx hb dX8_init_5 gb_124 ?_
  refine g_newi (n := 124) hx hb hts hK hP hD hS hA (by decide) (Nat.le_of_ble_eq_true rfl) (Nat.le_of_ble_eq_true rfl) dX8_init_7 (fun q1 H hP hD hS => ?_)
  have hP : va_P D vwCl [(a, .inr (10, [.null, .null, .null, .null, .int 0, .int 0, .int 0, .int 0, .int 0, .int 0, .int 0, .null, .int 0, .int 0, .null, .int 0, .null, .null, .int 0, .null, .int 0])), (q1, .inl (cA 0, 124, .inl (fun _ => nI 0)))] H := hP
  have hD : va_D F [(a, .inr (10, [.null, .null, .null, .null, .int 0, .int 0, .int 0, .int 0, .int 0, .int 0, .int 0, .null, .int 0, .int 0, .null, .int 0, .null, .null, .int 0, .null, .int 0])), (q1, .inl (cA 0, 124, .inl (fun _ => nI 0)))] := hD
  refine W.widen (k := 1) (n := 124) (by omega) (by omega) ?_
  refine g_putF (ws' := [(a, .inr (10, [.ref q1, .null, .null, .null, .int 0, .int 0, .int 0, .int 0, .int 0, .int 0, .int 0, .null, .int 0, .int 0, .null, .int 0, .null, .null, .int 0, .null, .int 0])), (q1, .inl (cA 0, 124, .inl (fun _ => nI 0)))]) hx hb hts hown hnm hK hP hD hS 0 rfl rfl gu_wsX80 tyX8_ok nmX8 0 (by decide) gm_5_14 rfl rfl rfl rfl (Nat.le_of_ble_eq_true rfl) rfl dX8_init_9 (fun H locs hP hD hS => ?_)
  refine lv_aload_n hx hb dX8_init_12 rfl (lv_at hl 0 rfl) ?_
  refine lv_sipush (v := nI 992) hx hb dX8_init_13 gs_992 ?_
  refine g_newi (n := 992) hx hb hts hK hP hD hS hA (by decide) (Nat.le_of_ble_eq_true rfl) (Nat.le_of_ble_eq_true rfl) dX8_init_16 (fun q2 H hP hD hS => ?_)
  have hP : va_P D vwCl [(a, .inr (10, [.ref q1, .null, .null, .null, .int 0, .int 0, .int 0, .int 0, .int 0, .int 0, .int 0, .null, .int 0, .int 0, .null, .int 0, .null, .null, .int 0, .null, .int 0])), (q1, .inl (cA 0, 124, .inl (fun _ => nI 0))), (q2, .inl (cA 0, 992, .inl (fun _ => nI 0)))] H := hP
  have hD : va_D F [(a, .inr (10, [.ref q1, .null, .null, .null, .int 0, .int 0, .int 0, .int 0, .int 0, .int 0, .int 0, .null, .int 0, .int 0, .null, .int 0, .null, .null, .int 0, .null, .int 0])), (q1, .inl (cA 0, 124, .inl (fun _ => nI 0))), (q2, .inl (cA 0, 992, .inl (fun _ => nI 0)))] := hD
  refine W.widen (k := 2) (n := 1116) (by omega) (by omega) ?_
  refine g_putF (ws' := [(a, .inr (10, [.ref q1, .ref q2, .null, .null, .int 0, .int 0, .int 0, .int 0, .int 0, .int 0, .int 0, .null, .int 0, .int 0, .null, .int 0, .null, .null, .int 0, .null, .int 0])), (q1, .inl (cA 0, 124, .inl (fun _ => nI 0))), (q2, .inl (cA 0, 992, .inl (fun _ => nI 0)))]) hx hb hts hown hnm hK hP hD hS 0 rfl rfl gu_wsX80 tyX8_ok nmX8 1 (by decide) gm_5_15 rfl rfl rfl rfl (Nat.le_of_ble_eq_true rfl) rfl dX8_init_18 (fun H locs hP hD hS => ?_)
  refine lv_aload_n hx hb dX8_init_21 rfl (lv_at hl 0 rfl) ?_
  refine lv_bipush (v := nI 124) hx hb dX8_init_22 gb_124 ?_
  refine g_newi (n := 124) hx hb hts hK hP hD hS hA (by decide) (Nat.le_of_ble_eq_true rfl) (Nat.le_of_ble_eq_true rfl) dX8_init_24 (fun q3 H hP hD hS => ?_)
  have hP : va_P D vwCl [(a, .inr (10, [.ref q1, .ref q2, .null, .null, .int 0, .int 0, .int 0, .int 0, .int 0, .int 0, .int 0, .null, .int 0, .int 0, .null, .int 0, .null, .null, .int 0, .null, .int 0])), (q1, .inl (cA 0, 124, .inl (fun _ => nI 0))), (q2, .inl (cA 0, 992, .inl (fun _ => nI 0))), (q3, .inl (cA 0, 124, .inl (fun _ => nI 0)))] H := hP
  have hD : va_D F [(a, .inr (10, [.ref q1, .ref q2, .null, .null, .int 0, .int 0, .int 0, .int 0, .int 0, .int 0, .int 0, .null, .int 0, .int 0, .null, .int 0, .null, .null, .int 0, .null, .int 0])), (q1, .inl (cA 0, 124, .inl (fun _ => nI 0))), (q2, .inl (cA 0, 992, .inl (fun _ => nI 0))), (q3, .inl (cA 0, 124, .inl (fun _ => nI 0)))] := hD
  refine W.widen (k := 3) (n := 1240) (by omega) (by omega) ?_
  refine g_putF (ws' := [(a, .inr (10, [.ref q1, .ref q2, .ref q3, .null, .int 0, .int 0, .int 0, .int 0, .int 0, .int 0, .int 0, .null, .int 0, .int 0, .null, .int 0, .null, .null, .int 0, .null, .int 0])), (q1, .inl (cA 0, 124, .inl (fun _ => nI 0))), (q2, .inl (cA 0, 992, .inl (fun _ => nI 0))), (q3, .inl (cA 0, 124, .inl (fun _ => nI 0)))]) hx hb hts hown hnm hK hP hD hS 0 rfl rfl gu_wsX80 tyX8_ok nmX8 2 (by decide) gm_5_16 rfl rfl rfl rfl (Nat.le_of_ble_eq_true rfl) rfl dX8_init_26 (fun H locs hP hD hS => ?_)
  refine lv_aload_n hx hb dX8_init_29 rfl (lv_at hl 0 rfl) ?_
  refine lv_bipush (v := nI 124) hx hb dX8_init_30 gb_124 ?_
  refine g_newi (n := 124) hx hb hts hK hP hD hS hA (by decide) (Nat.le_of_ble_eq_true rfl) (Nat.le_of_ble_eq_true rfl) dX8_init_32 (fun q4 H hP hD hS => ?_)
  have hP : va_P D vwCl [(a, .inr (10, [.ref q1, .ref q2, .ref q3, .null, .int 0, .int 0, .int 0, .int 0, .int 0, .int 0, .int 0, .null, .int 0, .int 0, .null, .int 0, .null, .null, .int 0, .null, .int 0])), (q1, .inl (cA 0, 124, .inl (fun _ => nI 0))), (q2, .inl (cA 0, 992, .inl (fun _ => nI 0))), (q3, .inl (cA 0, 124, .inl (fun _ => nI 0))), (q4, .inl (cA 0, 124, .inl (fun _ => nI 0)))] H := hP
  have hD : va_D F [(a, .inr (10, [.ref q1, .ref q2, .ref q3, .null, .int 0, .int 0, .int 0, .int 0, .int 0, .int 0, .int 0, .null, .int 0, .int 0, .null, .int 0, .null, .null, .int 0, .null, .int 0])), (q1, .inl (cA 0, 124, .inl (fun _ => nI 0))), (q2, .inl (cA 0, 992, .inl (fun _ => nI 0))), (q3, .inl (cA 0, 124, .inl (fun _ => nI 0))), (q4, .inl (cA 0, 124, .inl (fun _ => nI 0)))] := hD
  refine W.widen (k := 4) (n := 1364) (by omega) (by omega) ?_
  refine g_putF (ws' := [(a, .inr (10, [.ref q1, .ref q2, .ref q3, .ref q4, .int 0, .int 0, .int 0, .int 0, .int 0, .int 0, .int 0, .null, .int 0, .int 0, .null, .int 0, .null, .null, .int 0, .null, .int 0])), (q1, .inl (cA 0, 124, .inl (fun _ => nI 0))), (q2, .inl (cA 0, 992, .inl (fun _ => nI 0))), (q3, .inl (cA 0, 124, .inl (fun _ => nI 0))), (q4, .inl (cA 0, 124, .inl (fun _ => nI 0)))]) hx hb hts hown hnm hK hP hD hS 0 rfl rfl gu_wsX80 tyX8_ok nmX8 3 (by decide) gm_5_17 rfl rfl rfl rfl (Nat.le_of_ble_eq_true rfl) rfl dX8_init_34 (fun H locs hP hD hS => ?_)
  refine lv_aload_n hx hb dX8_init_37 rfl (lv_at hl 0 rfl) ?_
  refine lv_bipush (v := nI 60) hx hb dX8_init_38 gb_60 ?_
  refine g_newi (n := 60) hx hb hts hK hP hD hS hA (by decide) (Nat.le_of_ble_eq_true rfl) (Nat.le_of_ble_eq_true rfl) dX8_init_40 (fun q5 H hP hD hS => ?_)
  have hP : va_P D vwCl [(a, .inr (10, [.ref q1, .ref q2, .ref q3, .ref q4, .int 0, .int 0, .int 0, .int 0, .int 0, .int 0, .int 0, .null, .int 0, .int 0, .null, .int 0, .null, .null, .int 0, .null, .int 0])), (q1, .inl (cA 0, 124, .inl (fun _ => nI 0))), (q2, .inl (cA 0, 992, .inl (fun _ => nI 0))), (q3, .inl (cA 0, 124, .inl (fun _ => nI 0))), (q4, .inl (cA 0, 124, .inl (fun _ => nI 0))), (q5, .inl (cA 0, 60, .inl (fun _ => nI 0)))] H := hP
  have hD : va_D F [(a, .inr (10, [.ref q1, .ref q2, .ref q3, .ref q4, .int 0, .int 0, .int 0, .int 0, .int 0, .int 0, .int 0, .null, .int 0, .int 0, .null, .int 0, .null, .null, .int 0, .null, .int 0])), (q1, .inl (cA 0, 124, .inl (fun _ => nI 0))), (q2, .inl (cA 0, 992, .inl (fun _ => nI 0))), (q3, .inl (cA 0, 124, .inl (fun _ => nI 0))), (q4, .inl (cA 0, 124, .inl (fun _ => nI 0))), (q5, .inl (cA 0, 60, .inl (fun _ => nI 0)))] := hD
  refine W.widen (k := 5) (n := 1424) (by omega) (by omega) ?_
  refine g_putF (ws' := [(a, .inr (10, [.ref q1, .ref q2, .ref q3, .ref q4, .int 0, .int 0, .int 0, .int 0, .int 0, .int 0, .int 0, .ref q5, .int 0, .int 0, .null, .int 0, .null, .null, .int 0, .null, .int 0])), (q1, .inl (cA 0, 124, .inl (fun _ => nI 0))), (q2, .inl (cA 0, 992, .inl (fun _ => nI 0))), (q3, .inl (cA 0, 124, .inl (fun _ => nI 0))), (q4, .inl (cA 0, 124, .inl (fun _ => nI 0))), (q5, .inl (cA 0, 60, .inl (fun _ => nI 0)))]) hx hb hts hown hnm hK hP hD hS 0 rfl rfl gu_wsX80 tyX8_ok nmX8 11 (by decide) gm_5_18 rfl rfl rfl rfl (Nat.le_of_ble_eq_true rfl) rfl dX8_init_42 (fun H locs hP hD hS => ?_)
  refine lv_aload_n hx hb dX8_init_45 rfl (lv_at hl 0 rfl) ?_
  refine lv_iconst (v := -1) hx hb dX8_init_46 gc_m1 ?_
  refine g_put (ws' := [(a, .inr (10, [.ref q1, .ref q2, .ref q3, .ref q4, .int 0, .int 0, .int 0, .int 0, .int 0, .int 0, .int 0, .ref q5, .int 0, .int (-1), .null, .int 0, .null, .null, .int 0, .null, .int 0])), (q1, .inl (cA 0, 124, .inl (fun _ => nI 0))), (q2, .inl (cA 0, 992, .inl (fun _ => nI 0))), (q3, .inl (cA 0, 124, .inl (fun _ => nI 0))), (q4, .inl (cA 0, 124, .inl (fun _ => nI 0))), (q5, .inl (cA 0, 60, .inl (fun _ => nI 0)))]) hx hb hts hown hK hP hD hS 0 rfl rfl gu_wsX80 tyX8_ok nmX8 13 (by decide) gm_5_19 rfl rfl rfl (Nat.le_of_ble_eq_true rfl) rfl dX8_init_47 (fun H locs hP hD hS => ?_)
  refine lv_aload_n hx hb dX8_init_50 rfl (lv_at hl 0 rfl) ?_
  refine lv_bipush (v := nI 60) hx hb dX8_init_51 gb_60 ?_
  refine g_newc (n := 60) hx hb hts hK hP hD hS hA (by decide) (Nat.le_of_ble_eq_true rfl) (Nat.le_of_ble_eq_true rfl) dX8_init_53 (fun q6 H hP hD hS => ?_)
  have hP : va_P D vwCl [(a, .inr (10, [.ref q1, .ref q2, .ref q3, .ref q4, .int 0, .int 0, .int 0, .int 0, .int 0, .int 0, .int 0, .ref q5, .int 0, .int (-1), .null, .int 0, .null, .null, .int 0, .null, .int 0])), (q1, .inl (cA 0, 124, .inl (fun _ => nI 0))), (q2, .inl (cA 0, 992, .inl (fun _ => nI 0))), (q3, .inl (cA 0, 124, .inl (fun _ => nI 0))), (q4, .inl (cA 0, 124, .inl (fun _ => nI 0))), (q5, .inl (cA 0, 60, .inl (fun _ => nI 0))), (q6, .inl (cA 1, 60, .inl (fun _ => nI 0)))] H := hP
  have hD : va_D F [(a, .inr (10, [.ref q1, .ref q2, .ref q3, .ref q4, .int 0, .int 0, .int 0, .int 0, .int 0, .int 0, .int 0, .ref q5, .int 0, .int (-1), .null, .int 0, .null, .null, .int 0, .null, .int 0])), (q1, .inl (cA 0, 124, .inl (fun _ => nI 0))), (q2, .inl (cA 0, 992, .inl (fun _ => nI 0))), (q3, .inl (cA 0, 124, .inl (fun _ => nI 0))), (q4, .inl (cA 0, 124, .inl (fun _ => nI 0))), (q5, .inl (cA 0, 60, .inl (fun _ => nI 0))), (q6, .inl (cA 1, 60, .inl (fun _ => nI 0)))] := hD
  refine W.widen (k := 6) (n := 1484) (by omega) (by omega) ?_
  refine g_putF (ws' := [(a, .inr (10, [.ref q1, .ref q2, .ref q3, .ref q4, .int 0, .int 0, .int 0, .int 0, .int 0, .int 0, .int 0, .ref q5, .int 0, .int (-1), .ref q6, .int 0, .null, .null, .int 0, .null, .int 0])), (q1, .inl (cA 0, 124, .inl (fun _ => nI 0))), (q2, .inl (cA 0, 992, .inl (fun _ => nI 0))), (q3, .inl (cA 0, 124, .inl (fun _ => nI 0))), (q4, .inl (cA 0, 124, .inl (fun _ => nI 0))), (q5, .inl (cA 0, 60, .inl (fun _ => nI 0))), (q6, .inl (cA 1, 60, .inl (fun _ => nI 0)))]) hx hb hts hown hnm hK hP hD hS 0 rfl rfl gu_wsX80 tyX8_ok nmX8 14 (by decide) gm_5_20 rfl rfl rfl rfl (Nat.le_of_ble_eq_true rfl) rfl dX8_init_55 (fun H locs hP hD hS => ?_)
  refine lv_aload_n hx hb dX8_init_58 rfl (lv_at hl 0 rfl) ?_
  refine lv_bipush (v := nI 9) hx hb dX8_init_59 gb_9 ?_
  refine g_newi (n := 9) hx hb hts hK hP hD hS hA (by decide) (Nat.le_of_ble_eq_true rfl) (Nat.le_of_ble_eq_true rfl) dX8_init_61 (fun q7 H hP hD hS => ?_)
  have hP : va_P D vwCl [(a, .inr (10, [.ref q1, .ref q2, .ref q3, .ref q4, .int 0, .int 0, .int 0, .int 0, .int 0, .int 0, .int 0, .ref q5, .int 0, .int (-1), .ref q6, .int 0, .null, .null, .int 0, .null, .int 0])), (q1, .inl (cA 0, 124, .inl (fun _ => nI 0))), (q2, .inl (cA 0, 992, .inl (fun _ => nI 0))), (q3, .inl (cA 0, 124, .inl (fun _ => nI 0))), (q4, .inl (cA 0, 124, .inl (fun _ => nI 0))), (q5, .inl (cA 0, 60, .inl (fun _ => nI 0))), (q6, .inl (cA 1, 60, .inl (fun _ => nI 0))), (q7, .inl (cA 0, 9, .inl (fun _ => nI 0)))] H := hP
  have hD : va_D F [(a, .inr (10, [.ref q1, .ref q2, .ref q3, .ref q4, .int 0, .int 0, .int 0, .int 0, .int 0, .int 0, .int 0, .ref q5, .int 0, .int (-1), .ref q6, .int 0, .null, .null, .int 0, .null, .int 0])), (q1, .inl (cA 0, 124, .inl (fun _ => nI 0))), (q2, .inl (cA 0, 992, .inl (fun _ => nI 0))), (q3, .inl (cA 0, 124, .inl (fun _ => nI 0))), (q4, .inl (cA 0, 124, .inl (fun _ => nI 0))), (q5, .inl (cA 0, 60, .inl (fun _ => nI 0))), (q6, .inl (cA 1, 60, .inl (fun _ => nI 0))), (q7, .inl (cA 0, 9, .inl (fun _ => nI 0)))] := hD
  refine W.widen (k := 7) (n := 1493) (by omega) (by omega) ?_
  refine g_putF (ws' := [(a, .inr (10, [.ref q1, .ref q2, .ref q3, .ref q4, .int 0, .int 0, .int 0, .int 0, .int 0, .int 0, .int 0, .ref q5, .int 0, .int (-1), .ref q6, .int 0, .ref q7, .null, .int 0, .null, .int 0])), (q1, .inl (cA 0, 124, .inl (fun _ => nI 0))), (q2, .inl (cA 0, 992, .inl (fun _ => nI 0))), (q3, .inl (cA 0, 124, .inl (fun _ => nI 0))), (q4, .inl (cA 0, 124, .inl (fun _ => nI 0))), (q5, .inl (cA 0, 60, .inl (fun _ => nI 0))), (q6, .inl (cA 1, 60, .inl (fun _ => nI 0))), (q7, .inl (cA 0, 9, .inl (fun _ => nI 0)))]) hx hb hts hown hnm hK hP hD hS 0 rfl rfl gu_wsX80 tyX8_ok nmX8 16 (by decide) gm_5_21 rfl rfl rfl rfl (Nat.le_of_ble_eq_true rfl) rfl dX8_init_63 (fun H locs hP hD hS => ?_)
  refine lv_aload_n hx hb dX8_init_66 rfl (lv_at hl 0 rfl) ?_
  refine lv_bipush (v := nI 9) hx hb dX8_init_67 gb_9 ?_
  refine g_newi (n := 9) hx hb hts hK hP hD hS hA (by decide) (Nat.le_of_ble_eq_true rfl) (Nat.le_of_ble_eq_true rfl) dX8_init_69 (fun q8 H hP hD hS => ?_)
  have hP : va_P D vwCl [(a, .inr (10, [.ref q1, .ref q2, .ref q3, .ref q4, .int 0, .int 0, .int 0, .int 0, .int 0, .int 0, .int 0, .ref q5, .int 0, .int (-1), .ref q6, .int 0, .ref q7, .null, .int 0, .null, .int 0])), (q1, .inl (cA 0, 124, .inl (fun _ => nI 0))), (q2, .inl (cA 0, 992, .inl (fun _ => nI 0))), (q3, .inl (cA 0, 124, .inl (fun _ => nI 0))), (q4, .inl (cA 0, 124, .inl (fun _ => nI 0))), (q5, .inl (cA 0, 60, .inl (fun _ => nI 0))), (q6, .inl (cA 1, 60, .inl (fun _ => nI 0))), (q7, .inl (cA 0, 9, .inl (fun _ => nI 0))), (q8, .inl (cA 0, 9, .inl (fun _ => nI 0)))] H := hP
  have hD : va_D F [(a, .inr (10, [.ref q1, .ref q2, .ref q3, .ref q4, .int 0, .int 0, .int 0, .int 0, .int 0, .int 0, .int 0, .ref q5, .int 0, .int (-1), .ref q6, .int 0, .ref q7, .null, .int 0, .null, .int 0])), (q1, .inl (cA 0, 124, .inl (fun _ => nI 0))), (q2, .inl (cA 0, 992, .inl (fun _ => nI 0))), (q3, .inl (cA 0, 124, .inl (fun _ => nI 0))), (q4, .inl (cA 0, 124, .inl (fun _ => nI 0))), (q5, .inl (cA 0, 60, .inl (fun _ => nI 0))), (q6, .inl (cA 1, 60, .inl (fun _ => nI 0))), (q7, .inl (cA 0, 9, .inl (fun _ => nI 0))), (q8, .inl (cA 0, 9, .inl (fun _ => nI 0)))] := hD
  refine W.widen (k := 8) (n := 1502) (by omega) (by omega) ?_
  refine g_putF (ws' := [(a, .inr (10, [.ref q1, .ref q2, .ref q3, .ref q4, .int 0, .int 0, .int 0, .int 0, .int 0, .int 0, .int 0, .ref q5, .int 0, .int (-1), .ref q6, .int 0, .ref q7, .ref q8, .int 0, .null, .int 0])), (q1, .inl (cA 0, 124, .inl (fun _ => nI 0))), (q2, .inl (cA 0, 992, .inl (fun _ => nI 0))), (q3, .inl (cA 0, 124, .inl (fun _ => nI 0))), (q4, .inl (cA 0, 124, .inl (fun _ => nI 0))), (q5, .inl (cA 0, 60, .inl (fun _ => nI 0))), (q6, .inl (cA 1, 60, .inl (fun _ => nI 0))), (q7, .inl (cA 0, 9, .inl (fun _ => nI 0))), (q8, .inl (cA 0, 9, .inl (fun _ => nI 0)))]) hx hb hts hown hnm hK hP hD hS 0 rfl rfl gu_wsX80 tyX8_ok nmX8 17 (by decide) gm_5_22 rfl rfl rfl rfl (Nat.le_of_ble_eq_true rfl) rfl dX8_init_71 (fun H locs hP hD hS => ?_)
  refine lv_aload_n hx hb dX8_init_74 rfl (lv_at hl 0 rfl) ?_
  refine lv_bipush (v := nI 93) hx hb dX8_init_75 gb_93 ?_
  refine g_newi (n := 93) hx hb hts hK hP hD hS hA (by decide) (Nat.le_of_ble_eq_true rfl) (Nat.le_of_ble_eq_true rfl) dX8_init_77 (fun q9 H hP hD hS => ?_)
  have hP : va_P D vwCl [(a, .inr (10, [.ref q1, .ref q2, .ref q3, .ref q4, .int 0, .int 0, .int 0, .int 0, .int 0, .int 0, .int 0, .ref q5, .int 0, .int (-1), .ref q6, .int 0, .ref q7, .ref q8, .int 0, .null, .int 0])), (q1, .inl (cA 0, 124, .inl (fun _ => nI 0))), (q2, .inl (cA 0, 992, .inl (fun _ => nI 0))), (q3, .inl (cA 0, 124, .inl (fun _ => nI 0))), (q4, .inl (cA 0, 124, .inl (fun _ => nI 0))), (q5, .inl (cA 0, 60, .inl (fun _ => nI 0))), (q6, .inl (cA 1, 60, .inl (fun _ => nI 0))), (q7, .inl (cA 0, 9, .inl (fun _ => nI 0))), (q8, .inl (cA 0, 9, .inl (fun _ => nI 0))), (q9, .inl (cA 0, 93, .inl (fun _ => nI 0)))] H := hP
  have hD : va_D F [(a, .inr (10, [.ref q1, .ref q2, .ref q3, .ref q4, .int 0, .int 0, .int 0, .int 0, .int 0, .int 0, .int 0, .ref q5, .int 0, .int (-1), .ref q6, .int 0, .ref q7, .ref q8, .int 0, .null, .int 0])), (q1, .inl (cA 0, 124, .inl (fun _ => nI 0))), (q2, .inl (cA 0, 992, .inl (fun _ => nI 0))), (q3, .inl (cA 0, 124, .inl (fun _ => nI 0))), (q4, .inl (cA 0, 124, .inl (fun _ => nI 0))), (q5, .inl (cA 0, 60, .inl (fun _ => nI 0))), (q6, .inl (cA 1, 60, .inl (fun _ => nI 0))), (q7, .inl (cA 0, 9, .inl (fun _ => nI 0))), (q8, .inl (cA 0, 9, .inl (fun _ => nI 0))), (q9, .inl (cA 0, 93, .inl (fun _ => nI 0)))] := hD
  refine W.widen (k := 9) (n := 1595) (by omega) (by omega) ?_
  refine g_putF (ws' := [(a, .inr (10, [.ref q1, .ref q2, .ref q3, .ref q4, .int 0, .int 0, .int 0, .int 0, .int 0, .int 0, .int 0, .ref q5, .int 0, .int (-1), .ref q6, .int 0, .ref q7, .ref q8, .int 0, .ref q9, .int 0])), (q1, .inl (cA 0, 124, .inl (fun _ => nI 0))), (q2, .inl (cA 0, 992, .inl (fun _ => nI 0))), (q3, .inl (cA 0, 124, .inl (fun _ => nI 0))), (q4, .inl (cA 0, 124, .inl (fun _ => nI 0))), (q5, .inl (cA 0, 60, .inl (fun _ => nI 0))), (q6, .inl (cA 1, 60, .inl (fun _ => nI 0))), (q7, .inl (cA 0, 9, .inl (fun _ => nI 0))), (q8, .inl (cA 0, 9, .inl (fun _ => nI 0))), (q9, .inl (cA 0, 93, .inl (fun _ => nI 0)))]) hx hb hts hown hnm hK hP hD hS 0 rfl rfl gu_wsX80 tyX8_ok nmX8 19 (by decide) gm_5_23 rfl rfl rfl rfl (Nat.le_of_ble_eq_true rfl) rfl dX8_init_79 (fun H locs hP hD hS => ?_)
  refine lv_aload_n hx hb dX8_init_82 rfl (lv_at hl 0 rfl) ?_
  refine g_get (v := .ref q1) hx hb hts hown hK hP 0 rfl rfl gu_wsX80 0 (by decide) gm_5_14 rfl dX8_init_83 ?_
  refine lv_iconst (v := nI 2) hx hb dX8_init_86 gc_2 ?_
  refine lv_iconst (v := nI 1) hx hb dX8_init_87 gc_1 ?_
  refine g_iast (ws' := [(a, .inr (10, [.ref q1, .ref q2, .ref q3, .ref q4, .int 0, .int 0, .int 0, .int 0, .int 0, .int 0, .int 0, .ref q5, .int 0, .int (-1), .ref q6, .int 0, .ref q7, .ref q8, .int 0, .ref q9, .int 0])), (q1, .inl (cA 0, 124, .inl (upd (fun _ => nI 0) 2 (nI 1)))), (q2, .inl (cA 0, 992, .inl (fun _ => nI 0))), (q3, .inl (cA 0, 124, .inl (fun _ => nI 0))), (q4, .inl (cA 0, 124, .inl (fun _ => nI 0))), (q5, .inl (cA 0, 60, .inl (fun _ => nI 0))), (q6, .inl (cA 1, 60, .inl (fun _ => nI 0))), (q7, .inl (cA 0, 9, .inl (fun _ => nI 0))), (q8, .inl (cA 0, 9, .inl (fun _ => nI 0))), (q9, .inl (cA 0, 93, .inl (fun _ => nI 0)))]) hx hb hK hP hD hS 1 rfl (by decide) (by decide) rfl dX8_init_88 (fun H locs hP hD hS => ?_)
  exact g_vretW hx hb hr hlk hS dX8_init_89 ⟨(fun k => ([a, q1, q2, q3, q4, q5, q6, q7, q8, q9] : List Nat).getD k 0), rfl, hP.sub [0, 1, 2, 3, 4, 5, 6, 7, 8, 9] rfl, hD.sub [0, 1, 2, 3, 4, 5, 6, 7, 8, 9] (by decide) rfl⟩
