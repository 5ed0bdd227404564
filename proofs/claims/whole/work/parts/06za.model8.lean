def vtM (x : Nat → Int32) (f : Nat → Nat → Int32) (jn cn : Nat) (v t : Int32) : Int32 × MX := if isIx v jn = true then (if isIx t cn = true then (if forB (gof (f 0) t.toNatClampNeg 0) ((lmS (f 0) (f 6) (f 7) jn).1 v.toNatClampNeg) ((lmS (f 0) (f 6) (f 7) jn).2 v.toNatClampNeg) = true then (nI 1, (failX x 0, va_up (va_up f 6 ((lmS (f 0) (f 6) (f 7) jn).1)) 7 ((lmS (f 0) (f 6) (f 7) jn).2))) else (nI 2, (failX x 0, va_up (va_up f 6 ((lmS (f 0) (f 6) (f 7) jn).1)) 7 ((lmS (f 0) (f 6) (f 7) jn).2)))) else (nI 0, (failX x 1, f))) else (nI 0, (failX x 1, f))
def npC (g : Nat → Int32) (cn : Nat) (v : Int32) : Nat := if isIx v cn = true then (if gof g v.toNatClampNeg 2 = 0 then 2 else 0) else 1
theorem npC_le {g : Nat → Int32} {cn : Nat} {v : Int32} : npC g cn v < 3 := by unfold npC; split <;> (try split) <;> omega
theorem npC_z {g : Nat → Int32} {cn : Nat} {v : Int32} (h : decide (0 < npC g cn v) = false) : isIx v cn = true ∧ ¬ gof g v.toNatClampNeg 2 = 0 := by
  unfold npC at h
  by_cases q : isIx v cn = true
  · by_cases z : gof g v.toNatClampNeg 2 = 0
    · simp [q, z] at h
    · exact ⟨q, z⟩
  · simp [q] at h
def wbM (x : Nat → Int32) (f : Nat → Nat → Int32) (jn cn : Nat) (v : Int32) : Int32 × MX := if decide (0 < npC (f 0) cn v) = true then (nI 0, (failX x (npC (f 0) cn v), f)) else (nI (vdM (f 0) (lmS (f 0) (f 6) (f 7) jn).1 (lmS (f 0) (f 6) (f 7) jn).2 jn (gof (f 0) v.toNatClampNeg 2) (gof (f 0) v.toNatClampNeg 0)), (failX x (npC (f 0) cn v), va_up (va_up f 6 ((lmS (f 0) (f 6) (f 7) jn).1)) 7 ((lmS (f 0) (f 6) (f 7) jn).2)))
def liM (x : Nat → Int32) (g : Nat → Int32) (jn cn : Nat) (v : Int32) : Int32 × (Nat → Int32) := if isIx v jn = true then (nI (ldM g cn v.toNatClampNeg), failX x 0) else (nI 0, failX x 1)
def cbO (x : Nat → Int32) (g : Nat → Int32) (jn cn : Nat) (v : Int32) : Int32 × (Nat → Int32) := if cldM g jn cn (nI 0) v = none then (nI 0, failX x 1) else (oI (cldM g jn cn (nI 0) v), failX x 0)
def onM (x : Nat → Int32) (g : Nat → Int32) (jn cn : Nat) (v t : Int32) : Int32 × (Nat → Int32) := if isIx v jn = true then (if isIx t cn = true then (if hs (gof g t.toNatClampNeg 2) v.toNatClampNeg = true then (nI 1, failX x 0) else (nI 0, failX x 0)) else (nI 0, failX x 1)) else (nI 0, failX x 1)
def roM (x : Nat → Int32) (g : Nat → Int32) (cn : Nat) (v : Int32) : Int32 × (Nat → Int32) := if raM g cn v = none then (nI 0, failX x 1) else (oI (raM g cn v), failX x 0)
def wtM (x : Nat → Int32) (g : Nat → Int32) (cn clk ton : Nat) (v : Int32) : Int32 × (Nat → Int32) := if isIx v cn = true then (if rlM g v.toNatClampNeg = true then (if ton + 1 + poM g cn v.toNatClampNeg / clk ≤ 99 then (nI (ton + 1 + poM g cn v.toNatClampNeg / clk), failX x 0) else (nI 0, failX x 2)) else (nI 0, failX x 2)) else (nI 0, failX x 1)
def odM (g : Nat → Int32) (cn : Nat) : Nat := fb_ct (fun k => rlM g k && decide (¬ g 3 ≤ gof g k 1)) cn
def tfM (g : Nat → Int32) (t : Int32) : Nat → Int32
  | 0 => -1
  | k + 1 => if rlM g k = true then (if gof g k 1 < t then tfM g t k else if tfM g t k < 0 then gof g k 1 else if tfM g t k ≤ gof g k 1 then tfM g t k else gof g k 1) else tfM g t k
def tmO (x : Nat → Int32) (g : Nat → Int32) (cn : Nat) (v : Int32) : Int32 × (Nat → Int32) := if inB v (nI 0) (nI 99) = true then (if 0 ≤ tfM g v cn then (tfM g v cn, failX x 0) else (nI 0, failX x 2)) else (nI 0, failX x 1)
def fiM (x : Nat → Int32) (g : Nat → Int32) (cn : Nat) (v : Int32) : Int32 × (Nat → Int32) := if isIx v cn = true then (if gof g v.toNatClampNeg 3 = 0 then (nI 0, failX x 2) else (if clM g v.toNatClampNeg = true then (gof g v.toNatClampNeg 5, failX x 0) else (gof g v.toNatClampNeg 4 + nI 4, failX x 0))) else (nI 0, failX x 1)
def dfM (x : Nat → Int32) (g : Nat → Int32) (jn : Nat) (v : Int32) : Int32 × (Nat → Int32) := match fnd (fun k => decide (nI (fb_ct (fun o => mdM g o k) jn) = v)) jn with
  | none => (nI 0, upd x 4 (nI 1))
  | some k => (nI k, upd x 4 (nI 0))
def rfM (x : Nat → Int32) (z : Bool) : Int32 × (Nat → Int32) := if x 5 = 0 then (nI 0, failX x 1) else (if z = true then (x 6, failX x 0) else (x 5, failX x 0))
def iwM (g : Nat → Int32) (jn cn : Nat) : Int32 := match fnd (fun k => decide (3 < ldM g cn k)) jn with
  | none => nI 1
  | some _ => nI 0
def cpF (a0 on : Nat) (from_ to_ : Nat → Int32) : Nat → Int32 := fb_put to_ (fun k => from_ (a0 + k)) on 124
def udM (x : Nat → Int32) (f : Nat → Nat → Int32) (ch : Nat) : Int32 × MX := if ch = 0 then (nI 0, (failX x 1, f)) else (nI (ch - 1), (upd (upd (upd x 1 (nI (ch - 1))) 3 (nI 0)) 4 (nI 0), va_up f 0 (fb_put (f 0) (fun k => f 1 ((124 * (ch - 1)) + k)) (0) 124)))
def reM (x : Nat → Int32) (f : Nat → Nat → Int32) (sv : Bool) : Int32 × MX := if sv = true then ((fb_put (f 0) (fun k => f 2 ((0) + k)) (0) 124) 1, (upd (upd (upd x 1 (nI 0)) 3 (nI 0)) 4 (nI 0), va_up f 0 (fb_put (f 0) (fun k => f 2 ((0) + k)) (0) 124))) else (nI 0, (failX x 1, f))
def apO (x : Nat → Int32) (f : Nat → Nat → Int32) (ln : Nat) (v : Int32) : Int32 × MX := if ln = 60 then (nI 0, (failX x 1, f)) else (nI (ln + 1), (upd (upd (upd x 3 (nI 0)) 4 (nI 0)) 7 (nI (ln + 1)), va_up f 4 (upd (f 4) (ln) v)))

set_option maxHeartbeats 1000000 in
set_option maxRecDepth 100000 in
theorem c_X8_thrown (l : Launch) (D : va_G) (cA : Nat → ClassId) (A : Nat → Nat) (x : Nat → Int32) (f : Nat → Nat → Int32) (cd : Nat) (hc4 : x 4 = nI cd) : Met l yX8_thrown (gw yX8_thrown cX8_thrown 1 (some .int)) ({ frames := 0, cells := 0, slots := 0, locals := 0 } : Room) (gPc [.ref (A 0)] (fun H => va_P D vwCl (mw cA A x f) H) D cA) (rdI (fun r => r = nI cd)) 0 0 nF := by
  refine gOf (by decide) (Nat.le_of_ble_eq_true rfl) ?_
  intro p e s m below meth c ls hx hb hml hr hlk hown hts hnm hP hK hl
  have hl : lv_has ls 1 [(0, .ref (A 0))] := hl
  refine lv_aload_n hx hb dX8_thrown_0 rfl (lv_at hl 0 rfl) ?_
  refine g_get (v := .int (x 4)) hx hb hts hown hK hP 0 rfl rfl gu_wsX80 8 (by decide) gm_9_3 rfl dX8_thrown_1 ?_
  refine g_top hc4 ?_
  exact g_iret (v := nI (cd)) hx hb hr hlk dX8_thrown_4 (rfl)

set_option maxHeartbeats 1000000 in
set_option maxRecDepth 100000 in
theorem c_X8_voteOf (l : Launch) (D : va_G) (cA : Nat → ClassId) (A : Nat → Nat) (x : Nat → Int32) (f : Nat → Nat → Int32) (v t : Int32) (jn cn : Nat) (hA : mInj A) (hj : f 0 0 = nI jn) (hjn : jn ≤ 9) (hc : f 0 1 = nI cn) (hcn : cn ≤ 10) : Met l yX8_voteOf (gw yX8_voteOf cX8_voteOf 3 (some .int)) ({ frames := 2, cells := 0, slots := 0, locals := 43 } : Room) (gPc [.ref (A 0), .int (v), .int (t)] (fun H => va_P D vwCl (mw cA A x f) H) D cA) (wrI (fun r H => r = (vtM x f jn cn v t).1 ∧ va_P D vwCl (mw cA A (vtM x f jn cn v t).2.1 (vtM x f jn cn v t).2.2) H) (MA A)) 0 0 (MA A) := by
  refine gOf (by decide) (Nat.le_of_ble_eq_true rfl) ?_
  intro p e s m below meth c ls hx hb hml hr hlk hown hts hnm hP hK hl
  have hl : lv_has ls 3 [(0, .ref (A 0)), (1, .int (v)), (2, .int (t))] := hl
  have hD : va_D (MA A) (mw cA A x f) := mD hA
  have hS : va_S (MA A) s.heap s.heap [] := va_S.rf
  refine lv_aload_n hx hb dX8_voteOf_0 rfl (lv_at hl 0 rfl) ?_
  refine lv_aload_n hx hb dX8_voteOf_1 rfl (lv_at hl 0 rfl) ?_
  refine lv_iload_n hx hb dX8_voteOf_2 rfl (lv_at hl 1 rfl) ?_
  refine rd_calle (va_runV (As := [.int (v)]) (rest := [.ref (A 0)]) ⟨hx, hb, hml, hown, hts⟩ (c_X8_isJuror l D cA A (x) (f) (v) jn hj hjn) (cwV 1 hts (gWV gm_25_10 gm_25_11 gm_25_12 gm_1_5 gm_25_13) rfl rfl rfl (by decide +kernel) ⟨Nat.le_of_ble_eq_true rfl, Nat.le_of_ble_eq_true rfl⟩) (gPreV hK (g_rf hK hP (ci := 10) (q0 := 0) rfl rfl) hP) rfl rfl hl.1 rfl (lv_room (Nat.le_of_ble_eq_true rfl)) dX8_voteOf_3 ⟨by omega, by omega⟩) ?_
  refine g_if_eq (P := isIx (v) jn = false) (tgt := 21) hx hb dX8_voteOf_6 (by decide) b2i_0 (fun c_1 => ?_) (fun c_1 => ?_)
  · refine lv_iconst (v := nI (1)) hx hb dX8_voteOf_21 gc_1 ?_
    refine wr_calli (va_runV (As := [.int (nI (1))]) (rest := []) ⟨hx, hb, hml, hown, hts⟩ (c_X8_fails l D cA A (x) (f) (1)  hA (by decide)) (cwV 1 hts (gWV gm_8_23 gm_9_0 gm_9_1 gm_1_5 gm_9_2) rfl rfl rfl (by decide +kernel) ⟨Nat.le_of_ble_eq_true rfl, Nat.le_of_ble_eq_true rfl⟩) (gPreV hK (g_rf hK hP (ci := 10) (q0 := 0) rfl rfl) hP) rfl rfl hl.1 rfl (lv_room (Nat.le_of_ble_eq_true rfl)) dX8_voteOf_22 ⟨by omega, by omega⟩) hS (fun q _ h => h) (fun q h => h) (fun r H locs hw9 hz9 hk9 hS => ?_)
    obtain ⟨rfl, hP⟩ := hw9
    have hP : va_P D vwCl (mw cA A (upd (upd (x) 3 (nI (0))) 4 (nI (1))) (f)) H := hP
    have hD : va_D (MA A) (mw cA A (upd (upd (x) 3 (nI (0))) 4 (nI (1))) (f)) := mD hA
    refine g_if_eq (P := true = false) (tgt := 30) hx hb dX8_voteOf_25 (by decide) b2i_0 (fun c_2 => ?_) (fun c_2 => ?_)
    · exact absurd c_2 (by decide)
    · have c_2 : true = true := eq_true_of_ne_false c_2
      refine lv_iconst (v := nI (0)) hx hb dX8_voteOf_28 gc_0 ?_
      exact g_iretW (v := nI (0)) hx hb hr hlk hS dX8_voteOf_29 (by rw [vtM, if_neg (bnt c_1)]; exact ⟨rfl, hP⟩)
  · have c_1 : isIx (v) jn = true := eq_true_of_ne_false c_1
    obtain ⟨j_3, hj_5, ej_4⟩ := isIx_n c_1 (by omega)
    rw [ej_4] at hl
    have hl : lv_has ls 3 [(0, .ref (A 0)), (1, .int (nI (j_3))), (2, .int (t))] := hl
    refine lv_aload_n hx hb dX8_voteOf_9 rfl (lv_at hl 0 rfl) ?_
    refine lv_iload_n hx hb dX8_voteOf_10 rfl (lv_at hl 2 rfl) ?_
    refine rd_calle (va_runV (As := [.int (t)]) (rest := [.ref (A 0)]) ⟨hx, hb, hml, hown, hts⟩ (c_X8_isCase l D cA A (x) (f) (t) cn hc hcn) (cwV 1 hts (gWV gm_13_23 gm_14_0 gm_14_1 gm_1_5 gm_14_2) rfl rfl rfl (by decide +kernel) ⟨Nat.le_of_ble_eq_true rfl, Nat.le_of_ble_eq_true rfl⟩) (gPreV hK (g_rf hK hP (ci := 10) (q0 := 0) rfl rfl) hP) rfl rfl hl.1 rfl (lv_room (Nat.le_of_ble_eq_true rfl)) dX8_voteOf_11 ⟨by omega, by omega⟩) ?_
    refine g_if_eq (P := isIx (t) cn = false) (tgt := 21) hx hb dX8_voteOf_14 (by decide) b2i_0 (fun c_6 => ?_) (fun c_6 => ?_)
    · refine lv_iconst (v := nI (1)) hx hb dX8_voteOf_21 gc_1 ?_
      refine wr_calli (va_runV (As := [.int (nI (1))]) (rest := []) ⟨hx, hb, hml, hown, hts⟩ (c_X8_fails l D cA A (x) (f) (1)  hA (by decide)) (cwV 1 hts (gWV gm_8_23 gm_9_0 gm_9_1 gm_1_5 gm_9_2) rfl rfl rfl (by decide +kernel) ⟨Nat.le_of_ble_eq_true rfl, Nat.le_of_ble_eq_true rfl⟩) (gPreV hK (g_rf hK hP (ci := 10) (q0 := 0) rfl rfl) hP) rfl rfl hl.1 rfl (lv_room (Nat.le_of_ble_eq_true rfl)) dX8_voteOf_22 ⟨by omega, by omega⟩) hS (fun q _ h => h) (fun q h => h) (fun r H locs hw9 hz9 hk9 hS => ?_)
      obtain ⟨rfl, hP⟩ := hw9
      have hP : va_P D vwCl (mw cA A (upd (upd (x) 3 (nI (0))) 4 (nI (1))) (f)) H := hP
      have hD : va_D (MA A) (mw cA A (upd (upd (x) 3 (nI (0))) 4 (nI (1))) (f)) := mD hA
      refine g_if_eq (P := true = false) (tgt := 30) hx hb dX8_voteOf_25 (by decide) b2i_0 (fun c_7 => ?_) (fun c_7 => ?_)
      · exact absurd c_7 (by decide)
      · have c_7 : true = true := eq_true_of_ne_false c_7
        refine lv_iconst (v := nI (0)) hx hb dX8_voteOf_28 gc_0 ?_
        exact g_iretW (v := nI (0)) hx hb hr hlk hS dX8_voteOf_29 (by have hq9v : v.toNatClampNeg = j_3 := (by rw [ej_4, nI_clamp (by omega)]); rw [vtM, hq9v, if_pos c_1, if_neg (bnt c_6)]; exact ⟨rfl, hP⟩)
    · have c_6 : isIx (t) cn = true := eq_true_of_ne_false c_6
      obtain ⟨j_8, hj_10, ej_9⟩ := isIx_n c_6 (by omega)
      rw [ej_9] at hl
      have hl : lv_has ls 3 [(0, .ref (A 0)), (1, .int (nI (j_3))), (2, .int (nI (j_8)))] := hl
      refine lv_iconst (v := nI (0)) hx hb dX8_voteOf_17 gc_0 ?_
      refine lv_goto (tgt := 22) hx hb dX8_voteOf_18 (by decide) ?_
      refine wr_calli (va_runV (As := [.int (nI (0))]) (rest := []) ⟨hx, hb, hml, hown, hts⟩ (c_X8_fails l D cA A (x) (f) (0)  hA (by decide)) (cwV 1 hts (gWV gm_8_23 gm_9_0 gm_9_1 gm_1_5 gm_9_2) rfl rfl rfl (by decide +kernel) ⟨Nat.le_of_ble_eq_true rfl, Nat.le_of_ble_eq_true rfl⟩) (gPreV hK (g_rf hK hP (ci := 10) (q0 := 0) rfl rfl) hP) rfl rfl hl.1 rfl (lv_room (Nat.le_of_ble_eq_true rfl)) dX8_voteOf_22 ⟨by omega, by omega⟩) hS (fun q _ h => h) (fun q h => h) (fun r H locs hw9 hz9 hk9 hS => ?_)
      obtain ⟨rfl, hP⟩ := hw9
      have hP : va_P D vwCl (mw cA A (upd (upd (x) 3 (nI (0))) 4 (nI (0))) (f)) H := hP
      have hD : va_D (MA A) (mw cA A (upd (upd (x) 3 (nI (0))) 4 (nI (0))) (f)) := mD hA
      refine g_if_eq (P := false = false) (tgt := 30) hx hb dX8_voteOf_25 (by decide) b2i_0 (fun c_11 => ?_) (fun c_11 => ?_)
      · refine lv_aload_n hx hb dX8_voteOf_30 rfl (lv_at hl 0 rfl) ?_
        refine wr_callv (va_runV (As := []) (rest := []) ⟨hx, hb, hml, hown, hts⟩ (c_X8_laysMinds l D cA A (upd (upd (x) 3 (nI (0))) 4 (nI (0))) (f)  jn hA hj hjn) (cwV 0 hts (gWV gm_17_23 gm_18_0 gm_18_1 gm_1_5 gm_18_2) rfl rfl rfl (by decide +kernel) ⟨Nat.le_of_ble_eq_true rfl, Nat.le_of_ble_eq_true rfl⟩) (gPreV hK (g_rf hK hP (ci := 10) (q0 := 0) rfl rfl) hP) rfl rfl hl.1 rfl (lv_room (Nat.le_of_ble_eq_true rfl)) dX8_voteOf_31 ⟨by omega, by omega⟩) hS (fun q _ h => h) (fun q h => h) (fun H locs hP hz9 hk9 hS => ?_)
        have hP : va_P D vwCl (mw cA A (upd (upd (x) 3 (nI (0))) 4 (nI (0))) (va_up (va_up (f) 6 ((lmS (f 0) (f 6) (f 7) jn).1)) 7 ((lmS (f 0) (f 6) (f 7) jn).2))) H := hP
        have hD : va_D (MA A) (mw cA A (upd (upd (x) 3 (nI (0))) 4 (nI (0))) (va_up (va_up (f) 6 ((lmS (f 0) (f 6) (f 7) jn).1)) 7 ((lmS (f 0) (f 6) (f 7) jn).2))) := mD hA
        refine lv_aload_n hx hb dX8_voteOf_34 rfl (lv_at hl 0 rfl) ?_
        refine lv_iload_n hx hb dX8_voteOf_35 rfl (lv_at hl 1 rfl) ?_
        refine lv_aload_n hx hb dX8_voteOf_36 rfl (lv_at hl 0 rfl) ?_
        refine lv_iload_n hx hb dX8_voteOf_37 rfl (lv_at hl 2 rfl) ?_
        refine lv_iconst (v := nI (0)) hx hb dX8_voteOf_38 gc_0 ?_
        refine rd_calle (va_runV (As := [.int (nI (j_8)), .int (nI (0))]) (rest := [.int (nI (j_3)), .ref (A 0)]) ⟨hx, hb, hml, hown, hts⟩ (c_X8_of l D cA A (upd (upd (x) 3 (nI (0))) 4 (nI (0))) (va_up (va_up (f) 6 ((lmS (f 0) (f 6) (f 7) jn).1)) 7 ((lmS (f 0) (f 6) (f 7) jn).2)) (j_8) (0) (by omega)) (cwV 2 hts (gWV gm_14_3 gm_14_4 gm_14_5 gm_1_5 gm_14_6) rfl rfl rfl (by decide +kernel) ⟨Nat.le_of_ble_eq_true rfl, Nat.le_of_ble_eq_true rfl⟩) (gPreV hK (g_rf hK hP (ci := 10) (q0 := 0) rfl rfl) hP) rfl rfl hl.1 rfl (lv_room (Nat.le_of_ble_eq_true rfl)) dX8_voteOf_39 ⟨by omega, by omega⟩) ?_
        refine rd_calle (va_runV (As := [.int (nI (j_3)), .int (gof (f 0) (j_8) (0))]) (rest := []) ⟨hx, hb, hml, hown, hts⟩ (c_X8_isFor l D cA A (upd (upd (x) 3 (nI (0))) 4 (nI (0))) (va_up (va_up (f) 6 ((lmS (f 0) (f 6) (f 7) jn).1)) 7 ((lmS (f 0) (f 6) (f 7) jn).2)) (j_3) (gof (f 0) (j_8) (0)) (by omega)) (cwV 2 hts (gWV gm_18_7 gm_18_8 gm_18_9 gm_1_5 gm_18_10) rfl rfl rfl (by decide +kernel) ⟨Nat.le_of_ble_eq_true rfl, Nat.le_of_ble_eq_true rfl⟩) (gPreV hK (g_rf hK hP (ci := 10) (q0 := 0) rfl rfl) hP) rfl rfl hl.1 rfl (lv_room (Nat.le_of_ble_eq_true rfl)) dX8_voteOf_42 ⟨by omega, by omega⟩) ?_
        refine g_if_eq (P := forB (gof (f 0) (j_8) (0)) ((lmS (f 0) (f 6) (f 7) jn).1 (j_3)) ((lmS (f 0) (f 6) (f 7) jn).2 (j_3)) = false) (tgt := 52) hx hb dX8_voteOf_45 (by decide) b2i_0 (fun c_12 => ?_) (fun c_12 => ?_)
        · refine lv_iconst (v := nI (2)) hx hb dX8_voteOf_52 gc_2 ?_
          exact g_iretW (v := nI (2)) hx hb hr hlk hS dX8_voteOf_53 (by have hq9v : v.toNatClampNeg = j_3 := (by rw [ej_4, nI_clamp (by omega)]); have hq9t : t.toNatClampNeg = j_8 := (by rw [ej_9, nI_clamp (by omega)]); rw [vtM, hq9v, hq9t, if_pos c_1, if_pos c_6, if_neg (bnt c_12)]; exact ⟨rfl, hP⟩)
        · have c_12 : forB (gof (f 0) (j_8) (0)) ((lmS (f 0) (f 6) (f 7) jn).1 (j_3)) ((lmS (f 0) (f 6) (f 7) jn).2 (j_3)) = true := eq_true_of_ne_false c_12
          refine lv_iconst (v := nI (1)) hx hb dX8_voteOf_48 gc_1 ?_
          refine lv_goto (tgt := 53) hx hb dX8_voteOf_49 (by decide) ?_
          exact g_iretW (v := nI (1)) hx hb hr hlk hS dX8_voteOf_53 (by have hq9v : v.toNatClampNeg = j_3 := (by rw [ej_4, nI_clamp (by omega)]); have hq9t : t.toNatClampNeg = j_8 := (by rw [ej_9, nI_clamp (by omega)]); rw [vtM, hq9v, hq9t, if_pos c_1, if_pos c_6, if_pos c_12]; exact ⟨rfl, hP⟩)
      · exact absurd c_11 (by decide)

set_option maxHeartbeats 1000000 in
set_option maxRecDepth 100000 in
theorem c_X8_isNoPanel (l : Launch) (D : va_G) (cA : Nat → ClassId) (A : Nat → Nat) (x : Nat → Int32) (f : Nat → Nat → Int32) (v : Int32) (cn : Nat) (hA : mInj A) (hc : f 0 1 = nI cn) (hcn : cn ≤ 10) : Met l yX8_isNoPanel (gw yX8_isNoPanel cX8_isNoPanel 2 (some .boolean)) ({ frames := 2, cells := 0, slots := 0, locals := 43 } : Room) (gPc [.ref (A 0), .int (v)] (fun H => va_P D vwCl (mw cA A x f) H) D cA) (wrI (fun r H => r = b2i (decide (0 < npC (f 0) cn v)) ∧ va_P D vwCl (mw cA A (failX x (npC (f 0) cn v)) (f)) H) (MA A)) 0 0 (MA A) := by
  refine gOf (by decide) (Nat.le_of_ble_eq_true rfl) ?_
  intro p e s m below meth c ls hx hb hml hr hlk hown hts hnm hP hK hl
  have hl : lv_has ls 2 [(0, .ref (A 0)), (1, .int (v))] := hl
  have hD : va_D (MA A) (mw cA A x f) := mD hA
  have hS : va_S (MA A) s.heap s.heap [] := va_S.rf
  refine lv_aload_n hx hb dX8_isNoPanel_0 rfl (lv_at hl 0 rfl) ?_
  refine lv_aload_n hx hb dX8_isNoPanel_1 rfl (lv_at hl 0 rfl) ?_
  refine lv_iload_n hx hb dX8_isNoPanel_2 rfl (lv_at hl 1 rfl) ?_
  refine rd_calle (va_runV (As := [.int (v)]) (rest := [.ref (A 0)]) ⟨hx, hb, hml, hown, hts⟩ (c_X8_isCase l D cA A (x) (f) (v) cn hc hcn) (cwV 1 hts (gWV gm_13_23 gm_14_0 gm_14_1 gm_1_5 gm_14_2) rfl rfl rfl (by decide +kernel) ⟨Nat.le_of_ble_eq_true rfl, Nat.le_of_ble_eq_true rfl⟩) (gPreV hK (g_rf hK hP (ci := 10) (q0 := 0) rfl rfl) hP) rfl rfl hl.1 rfl (lv_room (Nat.le_of_ble_eq_true rfl)) dX8_isNoPanel_3 ⟨by omega, by omega⟩) ?_
  refine g_if_ne (P := isIx (v) cn = false) (tgt := 13) hx hb dX8_isNoPanel_6 (by decide) b2i_0 (fun c_1 => ?_) (fun c_1 => ?_)
  · have c_1 : isIx (v) cn = true := eq_true_of_ne_false c_1
    obtain ⟨j_2, hj_4, ej_3⟩ := isIx_n c_1 (by omega)
    rw [ej_3] at hl
    have hl : lv_has ls 2 [(0, .ref (A 0)), (1, .int (nI (j_2)))] := hl
    refine lv_aload_n hx hb dX8_isNoPanel_13 rfl (lv_at hl 0 rfl) ?_
    refine lv_iload_n hx hb dX8_isNoPanel_14 rfl (lv_at hl 1 rfl) ?_
    refine lv_iconst (v := nI (2)) hx hb dX8_isNoPanel_15 gc_2 ?_
    refine rd_calle (va_runV (As := [.int (nI (j_2)), .int (nI (2))]) (rest := [.ref (A 0)]) ⟨hx, hb, hml, hown, hts⟩ (c_X8_of l D cA A (x) (f) (j_2) (2) (by omega)) (cwV 2 hts (gWV gm_14_3 gm_14_4 gm_14_5 gm_1_5 gm_14_6) rfl rfl rfl (by decide +kernel) ⟨Nat.le_of_ble_eq_true rfl, Nat.le_of_ble_eq_true rfl⟩) (gPreV hK (g_rf hK hP (ci := 10) (q0 := 0) rfl rfl) hP) rfl rfl hl.1 rfl (lv_room (Nat.le_of_ble_eq_true rfl)) dX8_isNoPanel_16 ⟨by omega, by omega⟩) ?_
    refine g_if_ne (P := gof (f 0) (j_2) (2) = 0) (tgt := 26) hx hb dX8_isNoPanel_19 (by decide) Iff.rfl (fun c_5 => ?_) (fun c_5 => ?_)
    · refine lv_iconst (v := nI (0)) hx hb dX8_isNoPanel_26 gc_0 ?_
      refine wr_calli (va_runV (As := [.int (nI (0))]) (rest := []) ⟨hx, hb, hml, hown, hts⟩ (c_X8_fails l D cA A (x) (f) (0)  hA (by decide)) (cwV 1 hts (gWV gm_8_23 gm_9_0 gm_9_1 gm_1_5 gm_9_2) rfl rfl rfl (by decide +kernel) ⟨Nat.le_of_ble_eq_true rfl, Nat.le_of_ble_eq_true rfl⟩) (gPreV hK (g_rf hK hP (ci := 10) (q0 := 0) rfl rfl) hP) rfl rfl hl.1 rfl (lv_room (Nat.le_of_ble_eq_true rfl)) dX8_isNoPanel_27 ⟨by omega, by omega⟩) hS (fun q _ h => h) (fun q h => h) (fun r H locs hw9 hz9 hk9 hS => ?_)
      obtain ⟨rfl, hP⟩ := hw9
      have hP : va_P D vwCl (mw cA A (upd (upd (x) 3 (nI (0))) 4 (nI (0))) (f)) H := hP
      have hD : va_D (MA A) (mw cA A (upd (upd (x) 3 (nI (0))) 4 (nI (0))) (f)) := mD hA
      exact g_zretW (v := b2i (false)) hx hb hr hlk b2i_n hS dX8_isNoPanel_30 (by have hq9v : v.toNatClampNeg = j_2 := (by rw [ej_3, nI_clamp (by omega)]); rw [npC, hq9v, if_pos c_1, if_neg c_5]; exact ⟨rfl, hP⟩)
    · refine lv_iconst (v := nI (2)) hx hb dX8_isNoPanel_22 gc_2 ?_
      refine lv_goto (tgt := 27) hx hb dX8_isNoPanel_23 (by decide) ?_
      refine wr_calli (va_runV (As := [.int (nI (2))]) (rest := []) ⟨hx, hb, hml, hown, hts⟩ (c_X8_fails l D cA A (x) (f) (2)  hA (by decide)) (cwV 1 hts (gWV gm_8_23 gm_9_0 gm_9_1 gm_1_5 gm_9_2) rfl rfl rfl (by decide +kernel) ⟨Nat.le_of_ble_eq_true rfl, Nat.le_of_ble_eq_true rfl⟩) (gPreV hK (g_rf hK hP (ci := 10) (q0 := 0) rfl rfl) hP) rfl rfl hl.1 rfl (lv_room (Nat.le_of_ble_eq_true rfl)) dX8_isNoPanel_27 ⟨by omega, by omega⟩) hS (fun q _ h => h) (fun q h => h) (fun r H locs hw9 hz9 hk9 hS => ?_)
      obtain ⟨rfl, hP⟩ := hw9
      have hP : va_P D vwCl (mw cA A (upd (upd (x) 3 (nI (0))) 4 (nI (2))) (f)) H := hP
      have hD : va_D (MA A) (mw cA A (upd (upd (x) 3 (nI (0))) 4 (nI (2))) (f)) := mD hA
      exact g_zretW (v := b2i (true)) hx hb hr hlk b2i_n hS dX8_isNoPanel_30 (by have hq9v : v.toNatClampNeg = j_2 := (by rw [ej_3, nI_clamp (by omega)]); rw [npC, hq9v, if_pos c_1, if_pos c_5]; exact ⟨rfl, hP⟩)
  · refine lv_iconst (v := nI (1)) hx hb dX8_isNoPanel_9 gc_1 ?_
    refine lv_goto (tgt := 27) hx hb dX8_isNoPanel_10 (by decide) ?_
    refine wr_calli (va_runV (As := [.int (nI (1))]) (rest := []) ⟨hx, hb, hml, hown, hts⟩ (c_X8_fails l D cA A (x) (f) (1)  hA (by decide)) (cwV 1 hts (gWV gm_8_23 gm_9_0 gm_9_1 gm_1_5 gm_9_2) rfl rfl rfl (by decide +kernel) ⟨Nat.le_of_ble_eq_true rfl, Nat.le_of_ble_eq_true rfl⟩) (gPreV hK (g_rf hK hP (ci := 10) (q0 := 0) rfl rfl) hP) rfl rfl hl.1 rfl (lv_room (Nat.le_of_ble_eq_true rfl)) dX8_isNoPanel_27 ⟨by omega, by omega⟩) hS (fun q _ h => h) (fun q h => h) (fun r H locs hw9 hz9 hk9 hS => ?_)
    obtain ⟨rfl, hP⟩ := hw9
    have hP : va_P D vwCl (mw cA A (upd (upd (x) 3 (nI (0))) 4 (nI (1))) (f)) H := hP
    have hD : va_D (MA A) (mw cA A (upd (upd (x) 3 (nI (0))) 4 (nI (1))) (f)) := mD hA
    exact g_zretW (v := b2i (true)) hx hb hr hlk b2i_n hS dX8_isNoPanel_30 (by rw [npC, if_neg (bnt c_1)]; exact ⟨rfl, hP⟩)

set_option maxHeartbeats 1000000 in
set_option maxRecDepth 100000 in
theorem c_X8_wouldBe (l : Launch) (D : va_G) (cA : Nat → ClassId) (A : Nat → Nat) (x : Nat → Int32) (f : Nat → Nat → Int32) (v : Int32) (z : Bool) (jn cn : Nat) (hA : mInj A) (hj : f 0 0 = nI jn) (hjn : jn ≤ 9) (hc : f 0 1 = nI cn) (hcn : cn ≤ 10) : Met l yX8_wouldBe (gw yX8_wouldBe cX8_wouldBe 3 (some .int)) ({ frames := 3, cells := 0, slots := 0, locals := 64 } : Room) (gPc [.ref (A 0), .int (v), .int (b2i (z))] (fun H => va_P D vwCl (mw cA A x f) H) D cA) (wrI (fun r H => r = (wbM x f jn cn v).1 ∧ va_P D vwCl (mw cA A (wbM x f jn cn v).2.1 (wbM x f jn cn v).2.2) H) (MA A)) 0 0 (MA A) := by
  refine gOf (by decide) (Nat.le_of_ble_eq_true rfl) ?_
  intro p e s m below meth c ls hx hb hml hr hlk hown hts hnm hP hK hl
  have hl : lv_has ls 3 [(0, .ref (A 0)), (1, .int (v)), (2, .int (b2i (z)))] := hl
  have hD : va_D (MA A) (mw cA A x f) := mD hA
  have hS : va_S (MA A) s.heap s.heap [] := va_S.rf
  refine lv_aload_n hx hb dX8_wouldBe_0 rfl (lv_at hl 0 rfl) ?_
  refine lv_iload_n hx hb dX8_wouldBe_1 rfl (lv_at hl 1 rfl) ?_
  refine wr_calli (va_runV (As := [.int (v)]) (rest := []) ⟨hx, hb, hml, hown, hts⟩ (c_X8_isNoPanel l D cA A (x) (f) (v) cn hA hc hcn) (cwV 1 hts (gWV gm_27_18 gm_27_19 gm_27_20 gm_1_5 gm_27_21) rfl rfl rfl (by decide +kernel) ⟨Nat.le_of_ble_eq_true rfl, Nat.le_of_ble_eq_true rfl⟩) (gPreV hK (g_rf hK hP (ci := 10) (q0 := 0) rfl rfl) hP) rfl rfl hl.1 rfl (lv_room (Nat.le_of_ble_eq_true rfl)) dX8_wouldBe_2 ⟨by omega, by omega⟩) hS (fun q _ h => h) (fun q h => h) (fun r H locs hw9 hz9 hk9 hS => ?_)
  obtain ⟨rfl, hP⟩ := hw9
  have hP : va_P D vwCl (mw cA A (upd (upd (x) 3 (nI (0))) 4 (nI (npC (f 0) cn (v)))) (f)) H := hP
  have hD : va_D (MA A) (mw cA A (upd (upd (x) 3 (nI (0))) 4 (nI (npC (f 0) cn (v)))) (f)) := mD hA
  have kg_1 : (f 0) 0 = nI (jn) := hj
  have kg_2 : (f 0) 1 = nI (cn) := hc
  refine g_if_eq (P := decide (0 < npC (f 0) cn (v)) = false) (tgt := 10) hx hb dX8_wouldBe_5 (by decide) b2i_0 (fun c_3 => ?_) (fun c_3 => ?_)
  · have hz_4 := npC_z c_3
    obtain ⟨j_5, hj_7, ej_6⟩ := isIx_n hz_4.1 (by omega)
    rw [ej_6] at hl
    have hl : lv_has ls 3 [(0, .ref (A 0)), (1, .int (nI (j_5))), (2, .int (b2i (z)))] := hl
    refine lv_aload_n hx hb dX8_wouldBe_10 rfl (lv_at hl 0 rfl) ?_
    refine wr_callv (va_runV (As := []) (rest := []) ⟨hx, hb, hml, hown, hts⟩ (c_X8_laysMinds l D cA A (upd (upd (x) 3 (nI (0))) 4 (nI (npC (f 0) cn (v)))) (f)  jn hA kg_1 hjn) (cwV 0 hts (gWV gm_17_23 gm_18_0 gm_18_1 gm_1_5 gm_18_2) rfl rfl rfl (by decide +kernel) ⟨Nat.le_of_ble_eq_true rfl, Nat.le_of_ble_eq_true rfl⟩) (gPreV hK (g_rf hK hP (ci := 10) (q0 := 0) rfl rfl) hP) rfl rfl hl.1 rfl (lv_room (Nat.le_of_ble_eq_true rfl)) dX8_wouldBe_11 ⟨by omega, by omega⟩) hS (fun q _ h => h) (fun q h => h) (fun H locs hP hz9 hk9 hS => ?_)
    have hP : va_P D vwCl (mw cA A (upd (upd (x) 3 (nI (0))) 4 (nI (npC (f 0) cn (v)))) (va_up (va_up (f) 6 ((lmS (f 0) (f 6) (f 7) jn).1)) 7 ((lmS (f 0) (f 6) (f 7) jn).2))) H := hP
    have hD : va_D (MA A) (mw cA A (upd (upd (x) 3 (nI (0))) 4 (nI (npC (f 0) cn (v)))) (va_up (va_up (f) 6 ((lmS (f 0) (f 6) (f 7) jn).1)) 7 ((lmS (f 0) (f 6) (f 7) jn).2))) := mD hA
    refine lv_aload_n hx hb dX8_wouldBe_14 rfl (lv_at hl 0 rfl) ?_
    refine lv_aload_n hx hb dX8_wouldBe_15 rfl (lv_at hl 0 rfl) ?_
    refine lv_iload_n hx hb dX8_wouldBe_16 rfl (lv_at hl 1 rfl) ?_
    refine lv_iconst (v := nI (2)) hx hb dX8_wouldBe_17 gc_2 ?_
    refine rd_calle (va_runV (As := [.int (nI (j_5)), .int (nI (2))]) (rest := [.ref (A 0)]) ⟨hx, hb, hml, hown, hts⟩ (c_X8_of l D cA A (upd (upd (x) 3 (nI (0))) 4 (nI (npC (f 0) cn (v)))) (va_up (va_up (f) 6 ((lmS (f 0) (f 6) (f 7) jn).1)) 7 ((lmS (f 0) (f 6) (f 7) jn).2)) (j_5) (2) (by omega)) (cwV 2 hts (gWV gm_14_3 gm_14_4 gm_14_5 gm_1_5 gm_14_6) rfl rfl rfl (by decide +kernel) ⟨Nat.le_of_ble_eq_true rfl, Nat.le_of_ble_eq_true rfl⟩) (gPreV hK (g_rf hK hP (ci := 10) (q0 := 0) rfl rfl) hP) rfl rfl hl.1 rfl (lv_room (Nat.le_of_ble_eq_true rfl)) dX8_wouldBe_18 ⟨by omega, by omega⟩) ?_
    refine lv_aload_n hx hb dX8_wouldBe_21 rfl (lv_at hl 0 rfl) ?_
    refine lv_iload_n hx hb dX8_wouldBe_22 rfl (lv_at hl 1 rfl) ?_
    refine lv_iconst (v := nI (0)) hx hb dX8_wouldBe_23 gc_0 ?_
    refine rd_calle (va_runV (As := [.int (nI (j_5)), .int (nI (0))]) (rest := [.int (gof (f 0) (j_5) (2)), .ref (A 0)]) ⟨hx, hb, hml, hown, hts⟩ (c_X8_of l D cA A (upd (upd (x) 3 (nI (0))) 4 (nI (npC (f 0) cn (v)))) (va_up (va_up (f) 6 ((lmS (f 0) (f 6) (f 7) jn).1)) 7 ((lmS (f 0) (f 6) (f 7) jn).2)) (j_5) (0) (by omega)) (cwV 2 hts (gWV gm_14_3 gm_14_4 gm_14_5 gm_1_5 gm_14_6) rfl rfl rfl (by decide +kernel) ⟨Nat.le_of_ble_eq_true rfl, Nat.le_of_ble_eq_true rfl⟩) (gPreV hK (g_rf hK hP (ci := 10) (q0 := 0) rfl rfl) hP) rfl rfl hl.1 rfl (lv_room (Nat.le_of_ble_eq_true rfl)) dX8_wouldBe_24 ⟨by omega, by omega⟩) ?_
    refine rd_calle (va_runV (As := [.int (gof (f 0) (j_5) (2)), .int (gof (f 0) (j_5) (0))]) (rest := []) ⟨hx, hb, hml, hown, hts⟩ (c_X8_verdictBy l D cA A (upd (upd (x) 3 (nI (0))) 4 (nI (npC (f 0) cn (v)))) (va_up (va_up (f) 6 ((lmS (f 0) (f 6) (f 7) jn).1)) 7 ((lmS (f 0) (f 6) (f 7) jn).2)) (gof (f 0) (j_5) (2)) (gof (f 0) (j_5) (0)) jn kg_1 hjn) (cwV 2 hts (gWV gm_18_3 gm_18_4 gm_18_5 gm_1_5 gm_18_6) rfl rfl rfl (by decide +kernel) ⟨Nat.le_of_ble_eq_true rfl, Nat.le_of_ble_eq_true rfl⟩) (gPreV hK (g_rf hK hP (ci := 10) (q0 := 0) rfl rfl) hP) rfl rfl hl.1 rfl (lv_room (Nat.le_of_ble_eq_true rfl)) dX8_wouldBe_27 ⟨by omega, by omega⟩) ?_
    exact g_iretW (v := nI (vdM (f 0) ((lmS (f 0) (f 6) (f 7) jn).1) ((lmS (f 0) (f 6) (f 7) jn).2) jn (gof (f 0) (j_5) (2)) (gof (f 0) (j_5) (0)))) hx hb hr hlk hS dX8_wouldBe_30 (by have hq9v : v.toNatClampNeg = j_5 := (by rw [ej_6, nI_clamp (by omega)]); rw [wbM, hq9v, if_neg (bnt c_3)]; exact ⟨rfl, hP⟩)
  · have c_3 : decide (0 < npC (f 0) cn (v)) = true := eq_true_of_ne_false c_3
    refine lv_iconst (v := nI (0)) hx hb dX8_wouldBe_8 gc_0 ?_
    exact g_iretW (v := nI (0)) hx hb hr hlk hS dX8_wouldBe_9 (by rw [wbM, if_pos c_3]; exact ⟨rfl, hP⟩)

set_option maxHeartbeats 1000000 in
set_option maxRecDepth 100000 in
theorem c_X8_load (l : Launch) (D : va_G) (cA : Nat → ClassId) (A : Nat → Nat) (x : Nat → Int32) (f : Nat → Nat → Int32) (v : Int32) (z : Bool) (jn cn : Nat) (hA : mInj A) (hj : f 0 0 = nI jn) (hjn : jn ≤ 9) (hc : f 0 1 = nI cn) (hcn : cn ≤ 10) : Met l yX8_load (gw yX8_load cX8_load 3 (some .int)) ({ frames := 3, cells := 0, slots := 0, locals := 66 } : Room) (gPc [.ref (A 0), .int (v), .int (b2i (z))] (fun H => va_P D vwCl (mw cA A x f) H) D cA) (wrI (fun r H => r = (liM x (f 0) jn cn v).1 ∧ va_P D vwCl (mw cA A (liM x (f 0) jn cn v).2 f) H) (MA A)) 0 0 (MA A) := by
  refine gOf (by decide) (Nat.le_of_ble_eq_true rfl) ?_
  intro p e s m below meth c ls hx hb hml hr hlk hown hts hnm hP hK hl
  have hl : lv_has ls 3 [(0, .ref (A 0)), (1, .int (v)), (2, .int (b2i (z)))] := hl
  have hD : va_D (MA A) (mw cA A x f) := mD hA
  have hS : va_S (MA A) s.heap s.heap [] := va_S.rf
  refine lv_aload_n hx hb dX8_load_0 rfl (lv_at hl 0 rfl) ?_
  refine lv_aload_n hx hb dX8_load_1 rfl (lv_at hl 0 rfl) ?_
  refine lv_iload_n hx hb dX8_load_2 rfl (lv_at hl 1 rfl) ?_
  refine rd_calle (va_runV (As := [.int (v)]) (rest := [.ref (A 0)]) ⟨hx, hb, hml, hown, hts⟩ (c_X8_isJuror l D cA A (x) (f) (v) jn hj hjn) (cwV 1 hts (gWV gm_25_10 gm_25_11 gm_25_12 gm_1_5 gm_25_13) rfl rfl rfl (by decide +kernel) ⟨Nat.le_of_ble_eq_true rfl, Nat.le_of_ble_eq_true rfl⟩) (gPreV hK (g_rf hK hP (ci := 10) (q0 := 0) rfl rfl) hP) rfl rfl hl.1 rfl (lv_room (Nat.le_of_ble_eq_true rfl)) dX8_load_3 ⟨by omega, by omega⟩) ?_
  refine g_if_eq (P := isIx (v) jn = false) (tgt := 13) hx hb dX8_load_6 (by decide) b2i_0 (fun c_1 => ?_) (fun c_1 => ?_)
  · refine lv_iconst (v := nI (1)) hx hb dX8_load_13 gc_1 ?_
    refine wr_calli (va_runV (As := [.int (nI (1))]) (rest := []) ⟨hx, hb, hml, hown, hts⟩ (c_X8_fails l D cA A (x) (f) (1)  hA (by decide)) (cwV 1 hts (gWV gm_8_23 gm_9_0 gm_9_1 gm_1_5 gm_9_2) rfl rfl rfl (by decide +kernel) ⟨Nat.le_of_ble_eq_true rfl, Nat.le_of_ble_eq_true rfl⟩) (gPreV hK (g_rf hK hP (ci := 10) (q0 := 0) rfl rfl) hP) rfl rfl hl.1 rfl (lv_room (Nat.le_of_ble_eq_true rfl)) dX8_load_14 ⟨by omega, by omega⟩) hS (fun q _ h => h) (fun q h => h) (fun r H locs hw9 hz9 hk9 hS => ?_)
    obtain ⟨rfl, hP⟩ := hw9
    have hP : va_P D vwCl (mw cA A (upd (upd (x) 3 (nI (0))) 4 (nI (1))) (f)) H := hP
    have hD : va_D (MA A) (mw cA A (upd (upd (x) 3 (nI (0))) 4 (nI (1))) (f)) := mD hA
    refine g_if_eq (P := true = false) (tgt := 24) hx hb dX8_load_17 (by decide) b2i_0 (fun c_2 => ?_) (fun c_2 => ?_)
    · exact absurd c_2 (by decide)
    · have c_2 : true = true := eq_true_of_ne_false c_2
      refine lv_iconst (v := nI (0)) hx hb dX8_load_20 gc_0 ?_
      refine lv_goto (tgt := 29) hx hb dX8_load_21 (by decide) ?_
      exact g_iretW (v := nI (0)) hx hb hr hlk hS dX8_load_29 (by rw [liM, if_neg (bnt c_1)]; exact ⟨rfl, hP⟩)
  · have c_1 : isIx (v) jn = true := eq_true_of_ne_false c_1
    obtain ⟨j_3, hj_5, ej_4⟩ := isIx_n c_1 (by omega)
    rw [ej_4] at hl
    have hl : lv_has ls 3 [(0, .ref (A 0)), (1, .int (nI (j_3))), (2, .int (b2i (z)))] := hl
    refine lv_iconst (v := nI (0)) hx hb dX8_load_9 gc_0 ?_
    refine lv_goto (tgt := 14) hx hb dX8_load_10 (by decide) ?_
    refine wr_calli (va_runV (As := [.int (nI (0))]) (rest := []) ⟨hx, hb, hml, hown, hts⟩ (c_X8_fails l D cA A (x) (f) (0)  hA (by decide)) (cwV 1 hts (gWV gm_8_23 gm_9_0 gm_9_1 gm_1_5 gm_9_2) rfl rfl rfl (by decide +kernel) ⟨Nat.le_of_ble_eq_true rfl, Nat.le_of_ble_eq_true rfl⟩) (gPreV hK (g_rf hK hP (ci := 10) (q0 := 0) rfl rfl) hP) rfl rfl hl.1 rfl (lv_room (Nat.le_of_ble_eq_true rfl)) dX8_load_14 ⟨by omega, by omega⟩) hS (fun q _ h => h) (fun q h => h) (fun r H locs hw9 hz9 hk9 hS => ?_)
    obtain ⟨rfl, hP⟩ := hw9
    have hP : va_P D vwCl (mw cA A (upd (upd (x) 3 (nI (0))) 4 (nI (0))) (f)) H := hP
    have hD : va_D (MA A) (mw cA A (upd (upd (x) 3 (nI (0))) 4 (nI (0))) (f)) := mD hA
    refine g_if_eq (P := false = false) (tgt := 24) hx hb dX8_load_17 (by decide) b2i_0 (fun c_6 => ?_) (fun c_6 => ?_)
    · refine lv_aload_n hx hb dX8_load_24 rfl (lv_at hl 0 rfl) ?_
      refine lv_iload_n hx hb dX8_load_25 rfl (lv_at hl 1 rfl) ?_
      refine rd_calle (va_runV (As := [.int (nI (j_3))]) (rest := []) ⟨hx, hb, hml, hown, hts⟩ (c_X8_loadOf l D cA A (upd (upd (x) 3 (nI (0))) 4 (nI (0))) (f) (j_3) cn hc hcn) (cwV 1 hts (gWV gm_14_13 gm_14_14 gm_14_15 gm_1_5 gm_14_16) rfl rfl rfl (by decide +kernel) ⟨Nat.le_of_ble_eq_true rfl, Nat.le_of_ble_eq_true rfl⟩) (gPreV hK (g_rf hK hP (ci := 10) (q0 := 0) rfl rfl) hP) rfl rfl hl.1 rfl (lv_room (Nat.le_of_ble_eq_true rfl)) dX8_load_26 ⟨by omega, by omega⟩) ?_
      exact g_iretW (v := nI (ldM (f 0) cn (j_3))) hx hb hr hlk hS dX8_load_29 (by have hq9v : v.toNatClampNeg = j_3 := (by rw [ej_4, nI_clamp (by omega)]); rw [liM, hq9v, if_pos c_1]; exact ⟨rfl, hP⟩)
    · exact absurd c_6 (by decide)

set_option maxHeartbeats 1000000 in
set_option maxRecDepth 100000 in
theorem c_X8_callable (l : Launch) (D : va_G) (cA : Nat → ClassId) (A : Nat → Nat) (x : Nat → Int32) (f : Nat → Nat → Int32) (v : Int32) (jn cn : Nat) (hA : mInj A) (hj : f 0 0 = nI jn) (hjn : jn ≤ 9) (hc : f 0 1 = nI cn) (hcn : cn ≤ 10) : Met l yX8_callable (gw yX8_callable cX8_callable 2 (some .int)) ({ frames := 5, cells := 0, slots := 0, locals := 115 } : Room) (gPc [.ref (A 0), .int (v)] (fun H => va_P D vwCl (mw cA A x f) H) D cA) (wrI (fun r H => r = (cbO x (f 0) jn cn v).1 ∧ va_P D vwCl (mw cA A (cbO x (f 0) jn cn v).2 f) H) (MA A)) 0 0 (MA A) := by
  refine gOf (by decide) (Nat.le_of_ble_eq_true rfl) ?_
  intro p e s m below meth c ls hx hb hml hr hlk hown hts hnm hP hK hl
  have hl : lv_has ls 2 [(0, .ref (A 0)), (1, .int (v))] := hl
  have hD : va_D (MA A) (mw cA A x f) := mD hA
  have hS : va_S (MA A) s.heap s.heap [] := va_S.rf
  refine lv_aload_n hx hb dX8_callable_0 rfl (lv_at hl 0 rfl) ?_
  refine lv_aload_n hx hb dX8_callable_1 rfl (lv_at hl 0 rfl) ?_
  refine lv_iload_n hx hb dX8_callable_2 rfl (lv_at hl 1 rfl) ?_
  refine lv_iconst (v := nI (0)) hx hb dX8_callable_3 gc_0 ?_
  refine rd_calle (va_runV (As := [.int (v), .int (nI (0))]) (rest := [.ref (A 0)]) ⟨hx, hb, hml, hown, hts⟩ (c_X8_called l D cA A (x) (f) (v) (nI (0)) jn cn hj hjn hc hcn) (cwV 2 hts (gWV gm_15_1 gm_15_2 gm_15_3 gm_1_5 gm_15_4) rfl rfl rfl (by decide +kernel) ⟨Nat.le_of_ble_eq_true rfl, Nat.le_of_ble_eq_true rfl⟩) (gPreV hK (g_rf hK hP (ci := 10) (q0 := 0) rfl rfl) hP) rfl rfl hl.1 rfl (lv_room (Nat.le_of_ble_eq_true rfl)) dX8_callable_4 ⟨by omega, by omega⟩) ?_
  refine g_if_ge (P := cldM (f 0) jn cn (nI (0)) (v) ≠ none) (tgt := 14) hx hb dX8_callable_7 (by decide) (oI_ge (fun b q => by have := fnd_lt q; omega)) (fun c_1 => ?_) (fun c_1 => ?_)
  · refine lv_iconst (v := nI (0)) hx hb dX8_callable_14 gc_0 ?_
    refine wr_calli (va_runV (As := [.int (nI (0))]) (rest := []) ⟨hx, hb, hml, hown, hts⟩ (c_X8_fails l D cA A (x) (f) (0)  hA (by decide)) (cwV 1 hts (gWV gm_8_23 gm_9_0 gm_9_1 gm_1_5 gm_9_2) rfl rfl rfl (by decide +kernel) ⟨Nat.le_of_ble_eq_true rfl, Nat.le_of_ble_eq_true rfl⟩) (gPreV hK (g_rf hK hP (ci := 10) (q0 := 0) rfl rfl) hP) rfl rfl hl.1 rfl (lv_room (Nat.le_of_ble_eq_true rfl)) dX8_callable_15 ⟨by omega, by omega⟩) hS (fun q _ h => h) (fun q h => h) (fun r H locs hw9 hz9 hk9 hS => ?_)
    obtain ⟨rfl, hP⟩ := hw9
    have hP : va_P D vwCl (mw cA A (upd (upd (x) 3 (nI (0))) 4 (nI (0))) (f)) H := hP
    have hD : va_D (MA A) (mw cA A (upd (upd (x) 3 (nI (0))) 4 (nI (0))) (f)) := mD hA
    refine g_if_eq (P := false = false) (tgt := 25) hx hb dX8_callable_18 (by decide) b2i_0 (fun c_2 => ?_) (fun c_2 => ?_)
    · refine lv_aload_n hx hb dX8_callable_25 rfl (lv_at hl 0 rfl) ?_
      refine lv_iload_n hx hb dX8_callable_26 rfl (lv_at hl 1 rfl) ?_
      refine lv_iconst (v := nI (0)) hx hb dX8_callable_27 gc_0 ?_
      refine rd_calle (va_runV (As := [.int (v), .int (nI (0))]) (rest := []) ⟨hx, hb, hml, hown, hts⟩ (c_X8_called l D cA A (upd (upd (x) 3 (nI (0))) 4 (nI (0))) (f) (v) (nI (0)) jn cn hj hjn hc hcn) (cwV 2 hts (gWV gm_15_1 gm_15_2 gm_15_3 gm_1_5 gm_15_4) rfl rfl rfl (by decide +kernel) ⟨Nat.le_of_ble_eq_true rfl, Nat.le_of_ble_eq_true rfl⟩) (gPreV hK (g_rf hK hP (ci := 10) (q0 := 0) rfl rfl) hP) rfl rfl hl.1 rfl (lv_room (Nat.le_of_ble_eq_true rfl)) dX8_callable_28 ⟨by omega, by omega⟩) ?_
      exact g_iretW (v := oI (cldM (f 0) jn cn (nI (0)) (v))) hx hb hr hlk hS dX8_callable_31 (by rw [cbO, if_neg c_1]; exact ⟨rfl, hP⟩)
    · exact absurd c_2 (by decide)
  · refine lv_iconst (v := nI (1)) hx hb dX8_callable_10 gc_1 ?_
    refine lv_goto (tgt := 15) hx hb dX8_callable_11 (by decide) ?_
    refine wr_calli (va_runV (As := [.int (nI (1))]) (rest := []) ⟨hx, hb, hml, hown, hts⟩ (c_X8_fails l D cA A (x) (f) (1)  hA (by decide)) (cwV 1 hts (gWV gm_8_23 gm_9_0 gm_9_1 gm_1_5 gm_9_2) rfl rfl rfl (by decide +kernel) ⟨Nat.le_of_ble_eq_true rfl, Nat.le_of_ble_eq_true rfl⟩) (gPreV hK (g_rf hK hP (ci := 10) (q0 := 0) rfl rfl) hP) rfl rfl hl.1 rfl (lv_room (Nat.le_of_ble_eq_true rfl)) dX8_callable_15 ⟨by omega, by omega⟩) hS (fun q _ h => h) (fun q h => h) (fun r H locs hw9 hz9 hk9 hS => ?_)
    obtain ⟨rfl, hP⟩ := hw9
    have hP : va_P D vwCl (mw cA A (upd (upd (x) 3 (nI (0))) 4 (nI (1))) (f)) H := hP
    have hD : va_D (MA A) (mw cA A (upd (upd (x) 3 (nI (0))) 4 (nI (1))) (f)) := mD hA
    refine g_if_eq (P := true = false) (tgt := 25) hx hb dX8_callable_18 (by decide) b2i_0 (fun c_3 => ?_) (fun c_3 => ?_)
    · exact absurd c_3 (by decide)
    · have c_3 : true = true := eq_true_of_ne_false c_3
      refine lv_iconst (v := nI (0)) hx hb dX8_callable_21 gc_0 ?_
      refine lv_goto (tgt := 31) hx hb dX8_callable_22 (by decide) ?_
      exact g_iretW (v := nI (0)) hx hb hr hlk hS dX8_callable_31 (by rw [cbO, if_pos (Classical.not_not.mp c_1)]; exact ⟨rfl, hP⟩)

set_option maxHeartbeats 1000000 in
set_option maxRecDepth 100000 in
theorem c_X8_isOn (l : Launch) (D : va_G) (cA : Nat → ClassId) (A : Nat → Nat) (x : Nat → Int32) (f : Nat → Nat → Int32) (v t : Int32) (jn cn : Nat) (hA : mInj A) (hj : f 0 0 = nI jn) (hjn : jn ≤ 9) (hc : f 0 1 = nI cn) (hcn : cn ≤ 10) : Met l yX8_isOn (gw yX8_isOn cX8_isOn 3 (some .boolean)) ({ frames := 2, cells := 0, slots := 0, locals := 43 } : Room) (gPc [.ref (A 0), .int (v), .int (t)] (fun H => va_P D vwCl (mw cA A x f) H) D cA) (wrI (fun r H => r = (onM x (f 0) jn cn v t).1 ∧ va_P D vwCl (mw cA A (onM x (f 0) jn cn v t).2 f) H) (MA A)) 0 0 (MA A) := by
  refine gOf (by decide) (Nat.le_of_ble_eq_true rfl) ?_
  intro p e s m below meth c ls hx hb hml hr hlk hown hts hnm hP hK hl
  have hl : lv_has ls 3 [(0, .ref (A 0)), (1, .int (v)), (2, .int (t))] := hl
  have hD : va_D (MA A) (mw cA A x f) := mD hA
  have hS : va_S (MA A) s.heap s.heap [] := va_S.rf
  refine lv_aload_n hx hb dX8_isOn_0 rfl (lv_at hl 0 rfl) ?_
  refine lv_aload_n hx hb dX8_isOn_1 rfl (lv_at hl 0 rfl) ?_
  refine lv_iload_n hx hb dX8_isOn_2 rfl (lv_at hl 1 rfl) ?_
  refine rd_calle (va_runV (As := [.int (v)]) (rest := [.ref (A 0)]) ⟨hx, hb, hml, hown, hts⟩ (c_X8_isJuror l D cA A (x) (f) (v) jn hj hjn) (cwV 1 hts (gWV gm_25_10 gm_25_11 gm_25_12 gm_1_5 gm_25_13) rfl rfl rfl (by decide +kernel) ⟨Nat.le_of_ble_eq_true rfl, Nat.le_of_ble_eq_true rfl⟩) (gPreV hK (g_rf hK hP (ci := 10) (q0 := 0) rfl rfl) hP) rfl rfl hl.1 rfl (lv_room (Nat.le_of_ble_eq_true rfl)) dX8_isOn_3 ⟨by omega, by omega⟩) ?_
  refine g_if_eq (P := isIx (v) jn = false) (tgt := 21) hx hb dX8_isOn_6 (by decide) b2i_0 (fun c_1 => ?_) (fun c_1 => ?_)
  · refine lv_iconst (v := nI (1)) hx hb dX8_isOn_21 gc_1 ?_
    refine wr_calli (va_runV (As := [.int (nI (1))]) (rest := []) ⟨hx, hb, hml, hown, hts⟩ (c_X8_fails l D cA A (x) (f) (1)  hA (by decide)) (cwV 1 hts (gWV gm_8_23 gm_9_0 gm_9_1 gm_1_5 gm_9_2) rfl rfl rfl (by decide +kernel) ⟨Nat.le_of_ble_eq_true rfl, Nat.le_of_ble_eq_true rfl⟩) (gPreV hK (g_rf hK hP (ci := 10) (q0 := 0) rfl rfl) hP) rfl rfl hl.1 rfl (lv_room (Nat.le_of_ble_eq_true rfl)) dX8_isOn_22 ⟨by omega, by omega⟩) hS (fun q _ h => h) (fun q h => h) (fun r H locs hw9 hz9 hk9 hS => ?_)
    obtain ⟨rfl, hP⟩ := hw9
    have hP : va_P D vwCl (mw cA A (upd (upd (x) 3 (nI (0))) 4 (nI (1))) (f)) H := hP
    have hD : va_D (MA A) (mw cA A (upd (upd (x) 3 (nI (0))) 4 (nI (1))) (f)) := mD hA
    refine g_if_ne (P := true = false) (tgt := 45) hx hb dX8_isOn_25 (by decide) b2i_0 (fun c_2 => ?_) (fun c_2 => ?_)
    · have c_2 : true = true := eq_true_of_ne_false c_2
      refine lv_iconst (v := nI (0)) hx hb dX8_isOn_45 gc_0 ?_
      exact g_zretW (v := nI (0)) hx hb hr hlk rfl hS dX8_isOn_46 (by rw [onM, if_neg (bnt c_1)]; exact ⟨rfl, hP⟩)
    · exact absurd c_2 (by decide)
  · have c_1 : isIx (v) jn = true := eq_true_of_ne_false c_1
    obtain ⟨j_3, hj_5, ej_4⟩ := isIx_n c_1 (by omega)
    rw [ej_4] at hl
    have hl : lv_has ls 3 [(0, .ref (A 0)), (1, .int (nI (j_3))), (2, .int (t))] := hl
    refine lv_aload_n hx hb dX8_isOn_9 rfl (lv_at hl 0 rfl) ?_
    refine lv_iload_n hx hb dX8_isOn_10 rfl (lv_at hl 2 rfl) ?_
    refine rd_calle (va_runV (As := [.int (t)]) (rest := [.ref (A 0)]) ⟨hx, hb, hml, hown, hts⟩ (c_X8_isCase l D cA A (x) (f) (t) cn hc hcn) (cwV 1 hts (gWV gm_13_23 gm_14_0 gm_14_1 gm_1_5 gm_14_2) rfl rfl rfl (by decide +kernel) ⟨Nat.le_of_ble_eq_true rfl, Nat.le_of_ble_eq_true rfl⟩) (gPreV hK (g_rf hK hP (ci := 10) (q0 := 0) rfl rfl) hP) rfl rfl hl.1 rfl (lv_room (Nat.le_of_ble_eq_true rfl)) dX8_isOn_11 ⟨by omega, by omega⟩) ?_
    refine g_if_eq (P := isIx (t) cn = false) (tgt := 21) hx hb dX8_isOn_14 (by decide) b2i_0 (fun c_6 => ?_) (fun c_6 => ?_)
    · refine lv_iconst (v := nI (1)) hx hb dX8_isOn_21 gc_1 ?_
      refine wr_calli (va_runV (As := [.int (nI (1))]) (rest := []) ⟨hx, hb, hml, hown, hts⟩ (c_X8_fails l D cA A (x) (f) (1)  hA (by decide)) (cwV 1 hts (gWV gm_8_23 gm_9_0 gm_9_1 gm_1_5 gm_9_2) rfl rfl rfl (by decide +kernel) ⟨Nat.le_of_ble_eq_true rfl, Nat.le_of_ble_eq_true rfl⟩) (gPreV hK (g_rf hK hP (ci := 10) (q0 := 0) rfl rfl) hP) rfl rfl hl.1 rfl (lv_room (Nat.le_of_ble_eq_true rfl)) dX8_isOn_22 ⟨by omega, by omega⟩) hS (fun q _ h => h) (fun q h => h) (fun r H locs hw9 hz9 hk9 hS => ?_)
      obtain ⟨rfl, hP⟩ := hw9
      have hP : va_P D vwCl (mw cA A (upd (upd (x) 3 (nI (0))) 4 (nI (1))) (f)) H := hP
      have hD : va_D (MA A) (mw cA A (upd (upd (x) 3 (nI (0))) 4 (nI (1))) (f)) := mD hA
      refine g_if_ne (P := true = false) (tgt := 45) hx hb dX8_isOn_25 (by decide) b2i_0 (fun c_7 => ?_) (fun c_7 => ?_)
      · have c_7 : true = true := eq_true_of_ne_false c_7
        refine lv_iconst (v := nI (0)) hx hb dX8_isOn_45 gc_0 ?_
        exact g_zretW (v := nI (0)) hx hb hr hlk rfl hS dX8_isOn_46 (by have hq9v : v.toNatClampNeg = j_3 := (by rw [ej_4, nI_clamp (by omega)]); rw [onM, hq9v, if_pos c_1, if_neg (bnt c_6)]; exact ⟨rfl, hP⟩)
      · exact absurd c_7 (by decide)
    · have c_6 : isIx (t) cn = true := eq_true_of_ne_false c_6
      obtain ⟨j_8, hj_10, ej_9⟩ := isIx_n c_6 (by omega)
      rw [ej_9] at hl
      have hl : lv_has ls 3 [(0, .ref (A 0)), (1, .int (nI (j_3))), (2, .int (nI (j_8)))] := hl
      refine lv_iconst (v := nI (0)) hx hb dX8_isOn_17 gc_0 ?_
      refine lv_goto (tgt := 22) hx hb dX8_isOn_18 (by decide) ?_
      refine wr_calli (va_runV (As := [.int (nI (0))]) (rest := []) ⟨hx, hb, hml, hown, hts⟩ (c_X8_fails l D cA A (x) (f) (0)  hA (by decide)) (cwV 1 hts (gWV gm_8_23 gm_9_0 gm_9_1 gm_1_5 gm_9_2) rfl rfl rfl (by decide +kernel) ⟨Nat.le_of_ble_eq_true rfl, Nat.le_of_ble_eq_true rfl⟩) (gPreV hK (g_rf hK hP (ci := 10) (q0 := 0) rfl rfl) hP) rfl rfl hl.1 rfl (lv_room (Nat.le_of_ble_eq_true rfl)) dX8_isOn_22 ⟨by omega, by omega⟩) hS (fun q _ h => h) (fun q h => h) (fun r H locs hw9 hz9 hk9 hS => ?_)
      obtain ⟨rfl, hP⟩ := hw9
      have hP : va_P D vwCl (mw cA A (upd (upd (x) 3 (nI (0))) 4 (nI (0))) (f)) H := hP
      have hD : va_D (MA A) (mw cA A (upd (upd (x) 3 (nI (0))) 4 (nI (0))) (f)) := mD hA
      refine g_if_ne (P := false = false) (tgt := 45) hx hb dX8_isOn_25 (by decide) b2i_0 (fun c_11 => ?_) (fun c_11 => ?_)
      · exact absurd c_11 (by decide)
      · refine lv_aload_n hx hb dX8_isOn_28 rfl (lv_at hl 0 rfl) ?_
        refine lv_iload_n hx hb dX8_isOn_29 rfl (lv_at hl 2 rfl) ?_
        refine lv_iconst (v := nI (2)) hx hb dX8_isOn_30 gc_2 ?_
        refine rd_calle (va_runV (As := [.int (nI (j_8)), .int (nI (2))]) (rest := []) ⟨hx, hb, hml, hown, hts⟩ (c_X8_of l D cA A (upd (upd (x) 3 (nI (0))) 4 (nI (0))) (f) (j_8) (2) (by omega)) (cwV 2 hts (gWV gm_14_3 gm_14_4 gm_14_5 gm_1_5 gm_14_6) rfl rfl rfl (by decide +kernel) ⟨Nat.le_of_ble_eq_true rfl, Nat.le_of_ble_eq_true rfl⟩) (gPreV hK (g_rf hK hP (ci := 10) (q0 := 0) rfl rfl) hP) rfl rfl hl.1 rfl (lv_room (Nat.le_of_ble_eq_true rfl)) dX8_isOn_31 ⟨by omega, by omega⟩) ?_
        refine lv_iload_n hx hb dX8_isOn_34 rfl (lv_at hl 1 rfl) ?_
        refine rd_calle (va_runS (As := [.int (gof (f 0) (j_8) (2)), .int (nI (j_3))]) (rest := []) ⟨hx, hb, hml, hown, hts⟩ (c_X8_has l D cA (gof (f 0) (j_8) (2)) (j_3)) (cwS 2 hts (gWS gm_14_10 gm_14_11 gm_1_5 gm_14_12) rfl rfl rfl (by decide +kernel) ⟨Nat.le_of_ble_eq_true rfl, Nat.le_of_ble_eq_true rfl⟩) (gPreS hK trivial) rfl rfl hl.1 rfl (lv_room (Nat.le_of_ble_eq_true rfl)) dX8_isOn_35 ⟨by omega, by omega⟩) ?_
        refine g_if_eq (P := hs (gof (f 0) (j_8) (2)) (j_3) = false) (tgt := 45) hx hb dX8_isOn_38 (by decide) b2i_0 (fun c_12 => ?_) (fun c_12 => ?_)
        · refine lv_iconst (v := nI (0)) hx hb dX8_isOn_45 gc_0 ?_
          exact g_zretW (v := nI (0)) hx hb hr hlk rfl hS dX8_isOn_46 (by have hq9v : v.toNatClampNeg = j_3 := (by rw [ej_4, nI_clamp (by omega)]); have hq9t : t.toNatClampNeg = j_8 := (by rw [ej_9, nI_clamp (by omega)]); rw [onM, hq9v, hq9t, if_pos c_1, if_pos c_6, if_neg (bnt c_12)]; exact ⟨rfl, hP⟩)
        · have c_12 : hs (gof (f 0) (j_8) (2)) (j_3) = true := eq_true_of_ne_false c_12
          refine lv_iconst (v := nI (1)) hx hb dX8_isOn_41 gc_1 ?_
          refine lv_goto (tgt := 46) hx hb dX8_isOn_42 (by decide) ?_
          exact g_zretW (v := nI (1)) hx hb hr hlk rfl hS dX8_isOn_46 (by have hq9v : v.toNatClampNeg = j_3 := (by rw [ej_4, nI_clamp (by omega)]); have hq9t : t.toNatClampNeg = j_8 := (by rw [ej_9, nI_clamp (by omega)]); rw [onM, hq9v, hq9t, if_pos c_1, if_pos c_6, if_pos c_12]; exact ⟨rfl, hP⟩)

set_option maxHeartbeats 1000000 in
set_option maxRecDepth 100000 in
theorem c_X8_roll (l : Launch) (D : va_G) (cA : Nat → ClassId) (A : Nat → Nat) (x : Nat → Int32) (f : Nat → Nat → Int32) (v : Int32) (z : Bool) (cn : Nat) (hA : mInj A) (hc : f 0 1 = nI cn) (hcn : cn ≤ 10) : Met l yX8_roll (gw yX8_roll cX8_roll 3 (some .int)) ({ frames := 4, cells := 0, slots := 0, locals := 91 } : Room) (gPc [.ref (A 0), .int (v), .int (b2i (z))] (fun H => va_P D vwCl (mw cA A x f) H) D cA) (wrI (fun r H => r = (roM x (f 0) cn v).1 ∧ va_P D vwCl (mw cA A (roM x (f 0) cn v).2 f) H) (MA A)) 0 0 (MA A) := by
  refine gOf (by decide) (Nat.le_of_ble_eq_true rfl) ?_
  intro p e s m below meth c ls hx hb hml hr hlk hown hts hnm hP hK hl
  have hl : lv_has ls 3 [(0, .ref (A 0)), (1, .int (v)), (2, .int (b2i (z)))] := hl
  have hD : va_D (MA A) (mw cA A x f) := mD hA
  have hS : va_S (MA A) s.heap s.heap [] := va_S.rf
  refine lv_aload_n hx hb dX8_roll_0 rfl (lv_at hl 0 rfl) ?_
  refine lv_aload_n hx hb dX8_roll_1 rfl (lv_at hl 0 rfl) ?_
  refine lv_iload_n hx hb dX8_roll_2 rfl (lv_at hl 1 rfl) ?_
  refine rd_calle (va_runV (As := [.int (v)]) (rest := [.ref (A 0)]) ⟨hx, hb, hml, hown, hts⟩ (c_X8_rolledAt l D cA A (x) (f) (v) cn hc hcn) (cwV 1 hts (gWV gm_24_2 gm_24_3 gm_24_4 gm_1_5 gm_24_5) rfl rfl rfl (by decide +kernel) ⟨Nat.le_of_ble_eq_true rfl, Nat.le_of_ble_eq_true rfl⟩) (gPreV hK (g_rf hK hP (ci := 10) (q0 := 0) rfl rfl) hP) rfl rfl hl.1 rfl (lv_room (Nat.le_of_ble_eq_true rfl)) dX8_roll_3 ⟨by omega, by omega⟩) ?_
  refine g_if_ge (P := raM (f 0) cn (v) ≠ none) (tgt := 13) hx hb dX8_roll_6 (by decide) (oI_ge (fun b q => by have := fnd_lt q; omega)) (fun c_1 => ?_) (fun c_1 => ?_)
  · refine lv_iconst (v := nI (0)) hx hb dX8_roll_13 gc_0 ?_
    refine wr_calli (va_runV (As := [.int (nI (0))]) (rest := []) ⟨hx, hb, hml, hown, hts⟩ (c_X8_fails l D cA A (x) (f) (0)  hA (by decide)) (cwV 1 hts (gWV gm_8_23 gm_9_0 gm_9_1 gm_1_5 gm_9_2) rfl rfl rfl (by decide +kernel) ⟨Nat.le_of_ble_eq_true rfl, Nat.le_of_ble_eq_true rfl⟩) (gPreV hK (g_rf hK hP (ci := 10) (q0 := 0) rfl rfl) hP) rfl rfl hl.1 rfl (lv_room (Nat.le_of_ble_eq_true rfl)) dX8_roll_14 ⟨by omega, by omega⟩) hS (fun q _ h => h) (fun q h => h) (fun r H locs hw9 hz9 hk9 hS => ?_)
    obtain ⟨rfl, hP⟩ := hw9
    have hP : va_P D vwCl (mw cA A (upd (upd (x) 3 (nI (0))) 4 (nI (0))) (f)) H := hP
    have hD : va_D (MA A) (mw cA A (upd (upd (x) 3 (nI (0))) 4 (nI (0))) (f)) := mD hA
    refine g_if_eq (P := false = false) (tgt := 24) hx hb dX8_roll_17 (by decide) b2i_0 (fun c_2 => ?_) (fun c_2 => ?_)
    · refine lv_aload_n hx hb dX8_roll_24 rfl (lv_at hl 0 rfl) ?_
      refine lv_iload_n hx hb dX8_roll_25 rfl (lv_at hl 1 rfl) ?_
      refine rd_calle (va_runV (As := [.int (v)]) (rest := []) ⟨hx, hb, hml, hown, hts⟩ (c_X8_rolledAt l D cA A (upd (upd (x) 3 (nI (0))) 4 (nI (0))) (f) (v) cn hc hcn) (cwV 1 hts (gWV gm_24_2 gm_24_3 gm_24_4 gm_1_5 gm_24_5) rfl rfl rfl (by decide +kernel) ⟨Nat.le_of_ble_eq_true rfl, Nat.le_of_ble_eq_true rfl⟩) (gPreV hK (g_rf hK hP (ci := 10) (q0 := 0) rfl rfl) hP) rfl rfl hl.1 rfl (lv_room (Nat.le_of_ble_eq_true rfl)) dX8_roll_26 ⟨by omega, by omega⟩) ?_
      exact g_iretW (v := oI (raM (f 0) cn (v))) hx hb hr hlk hS dX8_roll_29 (by rw [roM, if_neg c_1]; exact ⟨rfl, hP⟩)
    · exact absurd c_2 (by decide)
  · refine lv_iconst (v := nI (1)) hx hb dX8_roll_9 gc_1 ?_
    refine lv_goto (tgt := 14) hx hb dX8_roll_10 (by decide) ?_
    refine wr_calli (va_runV (As := [.int (nI (1))]) (rest := []) ⟨hx, hb, hml, hown, hts⟩ (c_X8_fails l D cA A (x) (f) (1)  hA (by decide)) (cwV 1 hts (gWV gm_8_23 gm_9_0 gm_9_1 gm_1_5 gm_9_2) rfl rfl rfl (by decide +kernel) ⟨Nat.le_of_ble_eq_true rfl, Nat.le_of_ble_eq_true rfl⟩) (gPreV hK (g_rf hK hP (ci := 10) (q0 := 0) rfl rfl) hP) rfl rfl hl.1 rfl (lv_room (Nat.le_of_ble_eq_true rfl)) dX8_roll_14 ⟨by omega, by omega⟩) hS (fun q _ h => h) (fun q h => h) (fun r H locs hw9 hz9 hk9 hS => ?_)
    obtain ⟨rfl, hP⟩ := hw9
    have hP : va_P D vwCl (mw cA A (upd (upd (x) 3 (nI (0))) 4 (nI (1))) (f)) H := hP
    have hD : va_D (MA A) (mw cA A (upd (upd (x) 3 (nI (0))) 4 (nI (1))) (f)) := mD hA
    refine g_if_eq (P := true = false) (tgt := 24) hx hb dX8_roll_17 (by decide) b2i_0 (fun c_3 => ?_) (fun c_3 => ?_)
    · exact absurd c_3 (by decide)
    · have c_3 : true = true := eq_true_of_ne_false c_3
      refine lv_iconst (v := nI (0)) hx hb dX8_roll_20 gc_0 ?_
      refine lv_goto (tgt := 29) hx hb dX8_roll_21 (by decide) ?_
      exact g_iretW (v := nI (0)) hx hb hr hlk hS dX8_roll_29 (by rw [roM, if_pos (Classical.not_not.mp c_1)]; exact ⟨rfl, hP⟩)

set_option maxHeartbeats 1000000 in
set_option maxRecDepth 100000 in
theorem c_X8_rolled (l : Launch) (D : va_G) (cA : Nat → ClassId) (A : Nat → Nat) (x : Nat → Int32) (f : Nat → Nat → Int32) (cn : Nat) (hA : mInj A) (hc : f 0 1 = nI cn) (hcn : cn ≤ 10) : Met l yX8_rolled (gw yX8_rolled cX8_rolled 1 (some .int)) ({ frames := 3, cells := 0, slots := 0, locals := 65 } : Room) (gPc [.ref (A 0)] (fun H => va_P D vwCl (mw cA A x f) H) D cA) (wrI (fun r H => r = nI (fb_ct (rlM (f 0)) cn) ∧ va_P D vwCl (mw cA A (upd x 4 (nI 0)) (f)) H) (MA A)) 0 0 (MA A) := by
  refine gOf (by decide) (Nat.le_of_ble_eq_true rfl) ?_
  intro p e s m below meth c ls hx hb hml hr hlk hown hts hnm hP hK hl
  have hl : lv_has ls 1 [(0, .ref (A 0))] := hl
  have hD : va_D (MA A) (mw cA A x f) := mD hA
  have hS : va_S (MA A) s.heap s.heap [] := va_S.rf
  refine lv_aload_n hx hb dX8_rolled_0 rfl (lv_at hl 0 rfl) ?_
  refine lv_iconst (v := nI (0)) hx hb dX8_rolled_1 gc_0 ?_
  refine g_put (ws' := mw cA A (upd (x) 4 (nI (0))) (f)) hx hb hts hown hK hP hD hS 0 rfl rfl gu_wsX80 tyX8_ok nmX8 8 (by decide) gm_9_3 rfl rfl rfl (Nat.le_of_ble_eq_true rfl) rfl dX8_rolled_2 (fun H locs hP hD hS => ?_)
  refine lv_aload_n hx hb dX8_rolled_5 rfl (lv_at hl 0 rfl) ?_
  refine rd_calle (va_runV (As := []) (rest := []) ⟨hx, hb, hml, hown, hts⟩ (c_X8_rolls l D cA A (upd (x) 4 (nI (0))) (f)  cn hc hcn) (cwV 0 hts (gWV gm_23_18 gm_23_19 gm_23_20 gm_1_5 gm_23_21) rfl rfl rfl (by decide +kernel) ⟨Nat.le_of_ble_eq_true rfl, Nat.le_of_ble_eq_true rfl⟩) (gPreV hK (g_rf hK hP (ci := 10) (q0 := 0) rfl rfl) hP) rfl rfl hl.1 rfl (lv_room (Nat.le_of_ble_eq_true rfl)) dX8_rolled_6 ⟨by omega, by omega⟩) ?_
  exact g_iretW (v := nI (fb_ct (rlM (f 0)) cn)) hx hb hr hlk hS dX8_rolled_9 (⟨rfl, hP⟩)

set_option maxHeartbeats 1000000 in
set_option maxRecDepth 100000 in
theorem c_X8_wouldTake (l : Launch) (D : va_G) (cA : Nat → ClassId) (A : Nat → Nat) (x : Nat → Int32) (f : Nat → Nat → Int32) (v : Int32) (cn clk ton : Nat) (hA : mInj A) (hc : f 0 1 = nI cn) (hcn : cn ≤ 10) (hclk : f 0 2 = nI clk) (hc1 : 1 ≤ clk) (hc4 : clk ≤ 4) (hton : f 0 3 = nI ton) (ht99 : ton ≤ 99) : Met l yX8_wouldTake (gw yX8_wouldTake cX8_wouldTake 3 (some .int)) ({ frames := 3, cells := 0, slots := 0, locals := 69 } : Room) (gPc [.ref (A 0), .int (v)] (fun H => va_P D vwCl (mw cA A x f) H) D cA) (wrI (fun r H => r = (wtM x (f 0) cn clk ton v).1 ∧ va_P D vwCl (mw cA A (wtM x (f 0) cn clk ton v).2 f) H) (MA A)) 0 0 (MA A) := by
  refine gOf (by decide) (Nat.le_of_ble_eq_true rfl) ?_
  intro p e s m below meth c ls hx hb hml hr hlk hown hts hnm hP hK hl
  have hl : lv_has ls 3 [(0, .ref (A 0)), (1, .int (v))] := hl
  have hD : va_D (MA A) (mw cA A x f) := mD hA
  have hS : va_S (MA A) s.heap s.heap [] := va_S.rf
  refine lv_aload_n hx hb dX8_wouldTake_0 rfl (lv_at hl 0 rfl) ?_
  refine lv_aload_n hx hb dX8_wouldTake_1 rfl (lv_at hl 0 rfl) ?_
  refine lv_iload_n hx hb dX8_wouldTake_2 rfl (lv_at hl 1 rfl) ?_
  refine rd_calle (va_runV (As := [.int (v)]) (rest := [.ref (A 0)]) ⟨hx, hb, hml, hown, hts⟩ (c_X8_isCase l D cA A (x) (f) (v) cn hc hcn) (cwV 1 hts (gWV gm_13_23 gm_14_0 gm_14_1 gm_1_5 gm_14_2) rfl rfl rfl (by decide +kernel) ⟨Nat.le_of_ble_eq_true rfl, Nat.le_of_ble_eq_true rfl⟩) (gPreV hK (g_rf hK hP (ci := 10) (q0 := 0) rfl rfl) hP) rfl rfl hl.1 rfl (lv_room (Nat.le_of_ble_eq_true rfl)) dX8_wouldTake_3 ⟨by omega, by omega⟩) ?_
  refine g_if_eq (P := isIx (v) cn = false) (tgt := 13) hx hb dX8_wouldTake_6 (by decide) b2i_0 (fun c_1 => ?_) (fun c_1 => ?_)
  · refine lv_iconst (v := nI (1)) hx hb dX8_wouldTake_13 gc_1 ?_
    refine wr_calli (va_runV (As := [.int (nI (1))]) (rest := []) ⟨hx, hb, hml, hown, hts⟩ (c_X8_fails l D cA A (x) (f) (1)  hA (by decide)) (cwV 1 hts (gWV gm_8_23 gm_9_0 gm_9_1 gm_1_5 gm_9_2) rfl rfl rfl (by decide +kernel) ⟨Nat.le_of_ble_eq_true rfl, Nat.le_of_ble_eq_true rfl⟩) (gPreV hK (g_rf hK hP (ci := 10) (q0 := 0) rfl rfl) hP) rfl rfl hl.1 rfl (lv_room (Nat.le_of_ble_eq_true rfl)) dX8_wouldTake_14 ⟨by omega, by omega⟩) hS (fun q _ h => h) (fun q h => h) (fun r H locs hw9 hz9 hk9 hS => ?_)
    obtain ⟨rfl, hP⟩ := hw9
    have hP : va_P D vwCl (mw cA A (upd (upd (x) 3 (nI (0))) 4 (nI (1))) (f)) H := hP
    have hD : va_D (MA A) (mw cA A (upd (upd (x) 3 (nI (0))) 4 (nI (1))) (f)) := mD hA
    refine g_if_eq (P := true = false) (tgt := 22) hx hb dX8_wouldTake_17 (by decide) b2i_0 (fun c_2 => ?_) (fun c_2 => ?_)
    · exact absurd c_2 (by decide)
    · have c_2 : true = true := eq_true_of_ne_false c_2
      refine lv_iconst (v := nI (0)) hx hb dX8_wouldTake_20 gc_0 ?_
      exact g_iretW (v := nI (0)) hx hb hr hlk hS dX8_wouldTake_21 (by rw [wtM, if_neg (bnt c_1)]; exact ⟨rfl, hP⟩)
  · have c_1 : isIx (v) cn = true := eq_true_of_ne_false c_1
    obtain ⟨j_3, hj_5, ej_4⟩ := isIx_n c_1 (by omega)
    rw [ej_4] at hl
    have hl : lv_has ls 3 [(0, .ref (A 0)), (1, .int (nI (j_3)))] := hl
    refine lv_iconst (v := nI (0)) hx hb dX8_wouldTake_9 gc_0 ?_
    refine lv_goto (tgt := 14) hx hb dX8_wouldTake_10 (by decide) ?_
    refine wr_calli (va_runV (As := [.int (nI (0))]) (rest := []) ⟨hx, hb, hml, hown, hts⟩ (c_X8_fails l D cA A (x) (f) (0)  hA (by decide)) (cwV 1 hts (gWV gm_8_23 gm_9_0 gm_9_1 gm_1_5 gm_9_2) rfl rfl rfl (by decide +kernel) ⟨Nat.le_of_ble_eq_true rfl, Nat.le_of_ble_eq_true rfl⟩) (gPreV hK (g_rf hK hP (ci := 10) (q0 := 0) rfl rfl) hP) rfl rfl hl.1 rfl (lv_room (Nat.le_of_ble_eq_true rfl)) dX8_wouldTake_14 ⟨by omega, by omega⟩) hS (fun q _ h => h) (fun q h => h) (fun r H locs hw9 hz9 hk9 hS => ?_)
    obtain ⟨rfl, hP⟩ := hw9
    have hP : va_P D vwCl (mw cA A (upd (upd (x) 3 (nI (0))) 4 (nI (0))) (f)) H := hP
    have hD : va_D (MA A) (mw cA A (upd (upd (x) 3 (nI (0))) 4 (nI (0))) (f)) := mD hA
    refine g_if_eq (P := false = false) (tgt := 22) hx hb dX8_wouldTake_17 (by decide) b2i_0 (fun c_6 => ?_) (fun c_6 => ?_)
    · refine lv_aload_n hx hb dX8_wouldTake_22 rfl (lv_at hl 0 rfl) ?_
      refine g_get (v := .ref (A 1)) hx hb hts hown hK hP 0 rfl rfl gu_wsX80 0 (by decide) gm_5_14 rfl dX8_wouldTake_23 ?_
      refine lv_iconst (v := nI (3)) hx hb dX8_wouldTake_26 gc_3 ?_
      refine g_iald (x := nI (ton)) hx hb hK hP 1 rfl (by omega) (by decide) hton dX8_wouldTake_27 ?_
      refine lv_iconst (v := nI (1)) hx hb dX8_wouldTake_28 gc_1 ?_
      refine g_iadd hx hb dX8_wouldTake_29 ?_
      refine lv_aload_n hx hb dX8_wouldTake_30 rfl (lv_at hl 0 rfl) ?_
      refine lv_iload_n hx hb dX8_wouldTake_31 rfl (lv_at hl 1 rfl) ?_
      refine rd_calle (va_runV (As := [.int (nI (j_3))]) (rest := [.int (nI (ton + 1))]) ⟨hx, hb, hml, hown, hts⟩ (c_X8_placeOf l D cA A (upd (upd (x) 3 (nI (0))) 4 (nI (0))) (f) (j_3) cn hc hcn (by omega)) (cwV 1 hts (gWV gm_24_6 gm_24_7 gm_24_8 gm_1_5 gm_24_9) rfl rfl rfl (by decide +kernel) ⟨Nat.le_of_ble_eq_true rfl, Nat.le_of_ble_eq_true rfl⟩) (gPreV hK (g_rf hK hP (ci := 10) (q0 := 0) rfl rfl) hP) rfl rfl hl.1 rfl (lv_room (Nat.le_of_ble_eq_true rfl)) dX8_wouldTake_32 ⟨by omega, by omega⟩) ?_
      have hle_7 : poM (f 0) cn (j_3) ≤ cn := fb_ct_le _ _
      have hle_8 := Nat.div_le_self (poM (f 0) cn (j_3)) clk
      refine lv_aload_n hx hb dX8_wouldTake_35 rfl (lv_at hl 0 rfl) ?_
      refine g_get (v := .ref (A 1)) hx hb hts hown hK hP 0 rfl rfl gu_wsX80 0 (by decide) gm_5_14 rfl dX8_wouldTake_36 ?_
      refine lv_iconst (v := nI (2)) hx hb dX8_wouldTake_39 gc_2 ?_
      refine g_iald (x := nI (clk)) hx hb hK hP 1 rfl (by omega) (by decide) hclk dX8_wouldTake_40 ?_
      refine g_idiv hx hb (by omega) (by omega) (by omega) dX8_wouldTake_41 ?_
      refine g_iadd hx hb dX8_wouldTake_42 ?_
      refine lv_istore_n (lv' := [(2, .int (nI ((ton + 1) + ((poM (f 0) cn (j_3)) / (clk))))), (0, .ref (A 0)), (1, .int (nI (j_3)))]) hx hb dX8_wouldTake_43 rfl hl (by decide) rfl (fun ls hl => ?_)
      refine lv_aload_n hx hb dX8_wouldTake_44 rfl (lv_at hl 1 rfl) ?_
      refine lv_aload_n hx hb dX8_wouldTake_45 rfl (lv_at hl 1 rfl) ?_
      refine lv_iload_n hx hb dX8_wouldTake_46 rfl (lv_at hl 2 rfl) ?_
      refine rd_calle (va_runV (As := [.int (nI (j_3))]) (rest := [.ref (A 0)]) ⟨hx, hb, hml, hown, hts⟩ (c_X8_isRolled l D cA A (upd (upd (x) 3 (nI (0))) 4 (nI (0))) (f) (j_3) (by omega)) (cwV 1 hts (gWV gm_23_22 gm_23_23 gm_24_0 gm_1_5 gm_24_1) rfl rfl rfl (by decide +kernel) ⟨Nat.le_of_ble_eq_true rfl, Nat.le_of_ble_eq_true rfl⟩) (gPreV hK (g_rf hK hP (ci := 10) (q0 := 0) rfl rfl) hP) rfl rfl hl.1 rfl (lv_room (Nat.le_of_ble_eq_true rfl)) dX8_wouldTake_47 ⟨by omega, by omega⟩) ?_
      refine g_if_eq (P := rlM (f 0) (j_3) = false) (tgt := 59) hx hb dX8_wouldTake_50 (by decide) b2i_0 (fun c_9 => ?_) (fun c_9 => ?_)
      · refine lv_iconst (v := nI (2)) hx hb dX8_wouldTake_59 gc_2 ?_
        refine lv_goto (tgt := 64) hx hb dX8_wouldTake_60 (by decide) ?_
        refine wr_calli (va_runV (As := [.int (nI (2))]) (rest := []) ⟨hx, hb, hml, hown, hts⟩ (c_X8_fails l D cA A (upd (upd (x) 3 (nI (0))) 4 (nI (0))) (f) (2)  hA (by decide)) (cwV 1 hts (gWV gm_8_23 gm_9_0 gm_9_1 gm_1_5 gm_9_2) rfl rfl rfl (by decide +kernel) ⟨Nat.le_of_ble_eq_true rfl, Nat.le_of_ble_eq_true rfl⟩) (gPreV hK (g_rf hK hP (ci := 10) (q0 := 0) rfl rfl) hP) rfl rfl hl.1 rfl (lv_room (Nat.le_of_ble_eq_true rfl)) dX8_wouldTake_64 ⟨by omega, by omega⟩) hS (fun q _ h => h) (fun q h => h) (fun r H locs hw9 hz9 hk9 hS => ?_)
        obtain ⟨rfl, hP⟩ := hw9
        have hP : va_P D vwCl (mw cA A (upd (upd (x) 3 (nI (0))) 4 (nI (2))) (f)) H := hP
        have hD : va_D (MA A) (mw cA A (upd (upd (x) 3 (nI (0))) 4 (nI (2))) (f)) := mD hA
        refine g_if_eq (P := true = false) (tgt := 74) hx hb dX8_wouldTake_67 (by decide) b2i_0 (fun c_10 => ?_) (fun c_10 => ?_)
        · exact absurd c_10 (by decide)
        · have c_10 : true = true := eq_true_of_ne_false c_10
          refine lv_iconst (v := nI (0)) hx hb dX8_wouldTake_70 gc_0 ?_
          refine lv_goto (tgt := 75) hx hb dX8_wouldTake_71 (by decide) ?_
          exact g_iretW (v := nI (0)) hx hb hr hlk hS dX8_wouldTake_75 (by have hq9v : v.toNatClampNeg = j_3 := (by rw [ej_4, nI_clamp (by omega)]); rw [wtM, hq9v, if_pos c_1, if_neg (bnt c_9)]; exact ⟨rfl, hP⟩)
      · have c_9 : rlM (f 0) (j_3) = true := eq_true_of_ne_false c_9
        refine lv_iload_n hx hb dX8_wouldTake_53 rfl (lv_at hl 0 rfl) ?_
        refine lv_bipush (v := nI (99)) hx hb dX8_wouldTake_54 gb_99 ?_
        refine g_icmp_le (P := (ton + 1) + ((poM (f 0) cn (j_3)) / (clk)) ≤ 99) (tgt := 63) hx hb dX8_wouldTake_56 (by decide) (nI_leI (by omega) (by omega)) (fun c_11 => ?_) (fun c_11 => ?_)
        · have d_11 : ¬ 99 < (ton + 1) + ((poM (f 0) cn (j_3)) / (clk)) := Nat.not_lt.mpr c_11
          refine lv_iconst (v := nI (0)) hx hb dX8_wouldTake_63 gc_0 ?_
          refine wr_calli (va_runV (As := [.int (nI (0))]) (rest := []) ⟨hx, hb, hml, hown, hts⟩ (c_X8_fails l D cA A (upd (upd (x) 3 (nI (0))) 4 (nI (0))) (f) (0)  hA (by decide)) (cwV 1 hts (gWV gm_8_23 gm_9_0 gm_9_1 gm_1_5 gm_9_2) rfl rfl rfl (by decide +kernel) ⟨Nat.le_of_ble_eq_true rfl, Nat.le_of_ble_eq_true rfl⟩) (gPreV hK (g_rf hK hP (ci := 10) (q0 := 0) rfl rfl) hP) rfl rfl hl.1 rfl (lv_room (Nat.le_of_ble_eq_true rfl)) dX8_wouldTake_64 ⟨by omega, by omega⟩) hS (fun q _ h => h) (fun q h => h) (fun r H locs hw9 hz9 hk9 hS => ?_)
          obtain ⟨rfl, hP⟩ := hw9
          have hP : va_P D vwCl (mw cA A (upd (upd (x) 3 (nI (0))) 4 (nI (0))) (f)) H := hP
          have hD : va_D (MA A) (mw cA A (upd (upd (x) 3 (nI (0))) 4 (nI (0))) (f)) := mD hA
          refine g_if_eq (P := false = false) (tgt := 74) hx hb dX8_wouldTake_67 (by decide) b2i_0 (fun c_12 => ?_) (fun c_12 => ?_)
          · refine lv_iload_n hx hb dX8_wouldTake_74 rfl (lv_at hl 0 rfl) ?_
            exact g_iretW (v := nI ((ton + 1) + ((poM (f 0) cn (j_3)) / (clk)))) hx hb hr hlk hS dX8_wouldTake_75 (by have hq9v : v.toNatClampNeg = j_3 := (by rw [ej_4, nI_clamp (by omega)]); rw [wtM, hq9v, if_pos c_1, if_pos c_9, if_pos c_11]; exact ⟨rfl, hP⟩)
          · exact absurd c_12 (by decide)
        · have d_11 : 99 < (ton + 1) + ((poM (f 0) cn (j_3)) / (clk)) := Nat.not_le.mp c_11
          refine lv_iconst (v := nI (2)) hx hb dX8_wouldTake_59 gc_2 ?_
          refine lv_goto (tgt := 64) hx hb dX8_wouldTake_60 (by decide) ?_
          refine wr_calli (va_runV (As := [.int (nI (2))]) (rest := []) ⟨hx, hb, hml, hown, hts⟩ (c_X8_fails l D cA A (upd (upd (x) 3 (nI (0))) 4 (nI (0))) (f) (2)  hA (by decide)) (cwV 1 hts (gWV gm_8_23 gm_9_0 gm_9_1 gm_1_5 gm_9_2) rfl rfl rfl (by decide +kernel) ⟨Nat.le_of_ble_eq_true rfl, Nat.le_of_ble_eq_true rfl⟩) (gPreV hK (g_rf hK hP (ci := 10) (q0 := 0) rfl rfl) hP) rfl rfl hl.1 rfl (lv_room (Nat.le_of_ble_eq_true rfl)) dX8_wouldTake_64 ⟨by omega, by omega⟩) hS (fun q _ h => h) (fun q h => h) (fun r H locs hw9 hz9 hk9 hS => ?_)
          obtain ⟨rfl, hP⟩ := hw9
          have hP : va_P D vwCl (mw cA A (upd (upd (x) 3 (nI (0))) 4 (nI (2))) (f)) H := hP
          have hD : va_D (MA A) (mw cA A (upd (upd (x) 3 (nI (0))) 4 (nI (2))) (f)) := mD hA
          refine g_if_eq (P := true = false) (tgt := 74) hx hb dX8_wouldTake_67 (by decide) b2i_0 (fun c_13 => ?_) (fun c_13 => ?_)
          · exact absurd c_13 (by decide)
          · have c_13 : true = true := eq_true_of_ne_false c_13
            refine lv_iconst (v := nI (0)) hx hb dX8_wouldTake_70 gc_0 ?_
            refine lv_goto (tgt := 75) hx hb dX8_wouldTake_71 (by decide) ?_
            exact g_iretW (v := nI (0)) hx hb hr hlk hS dX8_wouldTake_75 (by have hq9v : v.toNatClampNeg = j_3 := (by rw [ej_4, nI_clamp (by omega)]); rw [wtM, hq9v, if_pos c_1, if_pos c_9, if_neg c_11]; exact ⟨rfl, hP⟩)
    · exact absurd c_6 (by decide)

set_option maxHeartbeats 1000000 in
set_option maxRecDepth 100000 in
theorem c_X8_overdue (l : Launch) (D : va_G) (cA : Nat → ClassId) (A : Nat → Nat) (x : Nat → Int32) (f : Nat → Nat → Int32) (cn : Nat) (hA : mInj A) (hc : f 0 1 = nI cn) (hcn : cn ≤ 10) : Met l yX8_overdue (gw yX8_overdue cX8_overdue 3 (some .int)) ({ frames := 2, cells := 0, slots := 0, locals := 43 } : Room) (gPc [.ref (A 0)] (fun H => va_P D vwCl (mw cA A x f) H) D cA) (wrI (fun r H => r = nI (odM (f 0) cn) ∧ va_P D vwCl (mw cA A (upd x 4 (nI 0)) (f)) H) (MA A)) 0 0 (MA A) := by
  refine gOf (by decide) (Nat.le_of_ble_eq_true rfl) ?_
  intro p e s m below meth c ls hx hb hml hr hlk hown hts hnm hP hK hl
  have hl : lv_has ls 3 [(0, .ref (A 0))] := hl
  have hD : va_D (MA A) (mw cA A x f) := mD hA
  have hS : va_S (MA A) s.heap s.heap [] := va_S.rf
  refine lv_aload_n hx hb dX8_overdue_0 rfl (lv_at hl 0 rfl) ?_
  refine lv_iconst (v := nI (0)) hx hb dX8_overdue_1 gc_0 ?_
  refine g_put (ws' := mw cA A (upd (x) 4 (nI (0))) (f)) hx hb hts hown hK hP hD hS 0 rfl rfl gu_wsX80 tyX8_ok nmX8 8 (by decide) gm_9_3 rfl rfl rfl (Nat.le_of_ble_eq_true rfl) rfl dX8_overdue_2 (fun H locs hP hD hS => ?_)
  refine lv_iconst (v := nI (0)) hx hb dX8_overdue_5 gc_0 ?_
  refine lv_istore_n (lv' := [(1, .int (nI (0))), (0, .ref (A 0))]) hx hb dX8_overdue_6 rfl hl (by decide) rfl (fun ls hl => ?_)
  refine lv_iconst (v := nI (0)) hx hb dX8_overdue_7 gc_0 ?_
  refine lv_istore_n (lv' := [(2, .int (nI (0))), (1, .int (nI (0))), (0, .ref (A 0))]) hx hb dX8_overdue_8 rfl hl (by decide) rfl (fun ls hl => ?_)
  have LP_5 : ∀ (n_2 i_1 : Nat) (x_3 x_4 : Int32), i_1 ≤ cn → cn + 1 ≤ i_1 + n_2 → x_3 = nI (i_1) → x_4 = nI (fb_ct (fun k => rlM (f 0) k && decide (¬ f 0 3 ≤ gof (f 0) k 1)) i_1) → ∀ (ls : Array Slot), lv_has ls 3 [(2, .int (x_3)), (1, .int (x_4)), (0, .ref (A 0))] → W p l e ({ frames := 2, cells := 0, slots := 0, locals := 43 } : Room) s m ([.ref (A 0)] : List Value).toArray below meth c H locs 0 0 (MQ below (wrI (fun r H => r = nI (odM (f 0) cn) ∧ va_P D vwCl (mw cA A (upd x 4 (nI 0)) (f)) H) (MA A)) ([.ref (A 0)] : List Value).toArray s 0 0 (MA A)) (F0 m 9 ls []) := by
    intro n_2
    induction n_2 with
    | zero => intro i_1 x_3 x_4 h1 h2; exact absurd h2 (by omega)
    | succ n_2 ih_8 =>
      intro i_1 x_3 x_4 h_9 h_10 e_6 e_7  ls hl
      subst e_6
      subst e_7
      refine lv_iload_n hx hb dX8_overdue_9 rfl (lv_at hl 0 rfl) ?_
      refine lv_aload_n hx hb dX8_overdue_10 rfl (lv_at hl 2 rfl) ?_
      refine g_get (v := .ref (A 1)) hx hb hts hown hK hP 0 rfl rfl gu_wsX80 0 (by decide) gm_5_14 rfl dX8_overdue_11 ?_
      refine lv_iconst (v := nI (1)) hx hb dX8_overdue_14 gc_1 ?_
      refine g_iald (x := nI (cn)) hx hb hK hP 1 rfl (by omega) (by decide) hc dX8_overdue_15 ?_
      refine g_icmp_ge (P := cn ≤ i_1) (tgt := 56) hx hb dX8_overdue_16 (by decide) (nI_leI (by omega) (by omega)) (fun c_11 => ?_) (fun c_11 => ?_)
      · have d_11 : ¬ i_1 < cn := Nat.not_lt.mpr c_11
        have hN_12 : cn = i_1 := by omega
        subst hN_12
        refine lv_iload_n hx hb dX8_overdue_56 rfl (lv_at hl 1 rfl) ?_
        exact g_iretW (v := nI (fb_ct (fun k => rlM (f 0) k && decide (¬ f 0 3 ≤ gof (f 0) k 1)) (cn))) hx hb hr hlk hS dX8_overdue_57 (⟨rfl, hP⟩)
      · have d_11 : i_1 < cn := Nat.not_le.mp c_11
        refine lv_iload_n hx hb dX8_overdue_19 rfl (lv_at hl 1 rfl) ?_
        refine lv_aload_n hx hb dX8_overdue_20 rfl (lv_at hl 2 rfl) ?_
        refine lv_iload_n hx hb dX8_overdue_21 rfl (lv_at hl 0 rfl) ?_
        refine rd_calle (va_runV (As := [.int (nI (i_1))]) (rest := [.int (nI (fb_ct (fun k => rlM (f 0) k && decide (¬ f 0 3 ≤ gof (f 0) k 1)) i_1))]) ⟨hx, hb, hml, hown, hts⟩ (c_X8_isRolled l D cA A (upd (x) 4 (nI (0))) (f) (i_1) (by omega)) (cwV 1 hts (gWV gm_23_22 gm_23_23 gm_24_0 gm_1_5 gm_24_1) rfl rfl rfl (by decide +kernel) ⟨Nat.le_of_ble_eq_true rfl, Nat.le_of_ble_eq_true rfl⟩) (gPreV hK (g_rf hK hP (ci := 10) (q0 := 0) rfl rfl) hP) rfl rfl hl.1 rfl (lv_room (Nat.le_of_ble_eq_true rfl)) dX8_overdue_22 ⟨by omega, by omega⟩) ?_
        refine g_if_eq (P := rlM (f 0) (i_1) = false) (tgt := 47) hx hb dX8_overdue_25 (by decide) b2i_0 (fun c_13 => ?_) (fun c_13 => ?_)
        · refine lv_iconst (v := nI (0)) hx hb dX8_overdue_47 gc_0 ?_
          refine g_iadd hx hb dX8_overdue_48 ?_
          refine lv_istore_n (lv' := [(1, .int (nI ((fb_ct (fun k => rlM (f 0) k && decide (¬ f 0 3 ≤ gof (f 0) k 1)) i_1) + (0)))), (2, .int (nI (i_1))), (0, .ref (A 0))]) hx hb dX8_overdue_49 rfl hl (by decide) rfl (fun ls hl => ?_)
          refine lv_iinc (v := nI (i_1 + 1)) (lv' := [(2, .int (nI (i_1 + 1))), (1, .int (nI ((fb_ct (fun k => rlM (f 0) k && decide (¬ f 0 3 ≤ gof (f 0) k 1)) i_1) + (0)))), (0, .ref (A 0))]) hx hb dX8_overdue_50 hl (k := 1) rfl (inc_1 _) (by decide) rfl (fun ls hl => ?_)
          refine lv_goto (tgt := 9) hx hb dX8_overdue_53 (by decide) ?_
          exact ih_8 (i_1 + 1) _ _ (by omega) (by omega) rfl (by simp [fb_ct_succ, c_11, d_11, c_13])  ls (lv_sub hl [0, 1, 2] rfl)
        · have c_13 : rlM (f 0) (i_1) = true := eq_true_of_ne_false c_13
          refine lv_aload_n hx hb dX8_overdue_28 rfl (lv_at hl 2 rfl) ?_
          refine lv_iload_n hx hb dX8_overdue_29 rfl (lv_at hl 0 rfl) ?_
          refine lv_iconst (v := nI (1)) hx hb dX8_overdue_30 gc_1 ?_
          refine rd_calle (va_runV (As := [.int (nI (i_1)), .int (nI (1))]) (rest := [.int (nI (fb_ct (fun k => rlM (f 0) k && decide (¬ f 0 3 ≤ gof (f 0) k 1)) i_1))]) ⟨hx, hb, hml, hown, hts⟩ (c_X8_of l D cA A (upd (x) 4 (nI (0))) (f) (i_1) (1) (by omega)) (cwV 2 hts (gWV gm_14_3 gm_14_4 gm_14_5 gm_1_5 gm_14_6) rfl rfl rfl (by decide +kernel) ⟨Nat.le_of_ble_eq_true rfl, Nat.le_of_ble_eq_true rfl⟩) (gPreV hK (g_rf hK hP (ci := 10) (q0 := 0) rfl rfl) hP) rfl rfl hl.1 rfl (lv_room (Nat.le_of_ble_eq_true rfl)) dX8_overdue_31 ⟨by omega, by omega⟩) ?_
          refine lv_aload_n hx hb dX8_overdue_34 rfl (lv_at hl 2 rfl) ?_
          refine g_get (v := .ref (A 1)) hx hb hts hown hK hP 0 rfl rfl gu_wsX80 0 (by decide) gm_5_14 rfl dX8_overdue_35 ?_
          refine lv_iconst (v := nI (3)) hx hb dX8_overdue_38 gc_3 ?_
          refine g_iald (x := f 0 (3)) hx hb hK hP 1 rfl (by omega) (by decide) rfl dX8_overdue_39 ?_
          refine g_icmp_ge (P := f 0 (3) ≤ gof (f 0) (i_1) (1)) (tgt := 47) hx hb dX8_overdue_40 (by decide) Iff.rfl (fun c_14 => ?_) (fun c_14 => ?_)
          · have d_14 : ¬ gof (f 0) (i_1) (1) < f 0 (3) := Int32.not_lt.mpr c_14
            refine lv_iconst (v := nI (0)) hx hb dX8_overdue_47 gc_0 ?_
            refine g_iadd hx hb dX8_overdue_48 ?_
            refine lv_istore_n (lv' := [(1, .int (nI ((fb_ct (fun k => rlM (f 0) k && decide (¬ f 0 3 ≤ gof (f 0) k 1)) i_1) + (0)))), (2, .int (nI (i_1))), (0, .ref (A 0))]) hx hb dX8_overdue_49 rfl hl (by decide) rfl (fun ls hl => ?_)
            refine lv_iinc (v := nI (i_1 + 1)) (lv' := [(2, .int (nI (i_1 + 1))), (1, .int (nI ((fb_ct (fun k => rlM (f 0) k && decide (¬ f 0 3 ≤ gof (f 0) k 1)) i_1) + (0)))), (0, .ref (A 0))]) hx hb dX8_overdue_50 hl (k := 1) rfl (inc_1 _) (by decide) rfl (fun ls hl => ?_)
            refine lv_goto (tgt := 9) hx hb dX8_overdue_53 (by decide) ?_
            exact ih_8 (i_1 + 1) _ _ (by omega) (by omega) rfl (by simp [fb_ct_succ, c_11, d_11, c_13, c_14, d_14])  ls (lv_sub hl [0, 1, 2] rfl)
          · have d_14 : gof (f 0) (i_1) (1) < f 0 (3) := Int32.not_le.mp c_14
            refine lv_iconst (v := nI (1)) hx hb dX8_overdue_43 gc_1 ?_
            refine lv_goto (tgt := 48) hx hb dX8_overdue_44 (by decide) ?_
            refine g_iadd hx hb dX8_overdue_48 ?_
            refine lv_istore_n (lv' := [(1, .int (nI ((fb_ct (fun k => rlM (f 0) k && decide (¬ f 0 3 ≤ gof (f 0) k 1)) i_1) + (1)))), (2, .int (nI (i_1))), (0, .ref (A 0))]) hx hb dX8_overdue_49 rfl hl (by decide) rfl (fun ls hl => ?_)
            refine lv_iinc (v := nI (i_1 + 1)) (lv' := [(2, .int (nI (i_1 + 1))), (1, .int (nI ((fb_ct (fun k => rlM (f 0) k && decide (¬ f 0 3 ≤ gof (f 0) k 1)) i_1) + (1)))), (0, .ref (A 0))]) hx hb dX8_overdue_50 hl (k := 1) rfl (inc_1 _) (by decide) rfl (fun ls hl => ?_)
            refine lv_goto (tgt := 9) hx hb dX8_overdue_53 (by decide) ?_
            exact ih_8 (i_1 + 1) _ _ (by omega) (by omega) rfl (by simp [fb_ct_succ, c_11, d_11, c_13, c_14, d_14])  ls (lv_sub hl [0, 1, 2] rfl)
  exact LP_5 (cn + 1) 0 _ _ (by omega) (by omega) rfl rfl  ls (lv_sub hl [0, 1, 2] rfl)

set_option maxHeartbeats 1000000 in
set_option maxRecDepth 100000 in
theorem c_X8_termFrom (l : Launch) (D : va_G) (cA : Nat → ClassId) (A : Nat → Nat) (x : Nat → Int32) (f : Nat → Nat → Int32) (v : Int32) (cn : Nat) (hA : mInj A) (hc : f 0 1 = nI cn) (hcn : cn ≤ 10) : Met l yX8_termFrom (gw yX8_termFrom cX8_termFrom 4 (some .int)) ({ frames := 2, cells := 0, slots := 0, locals := 43 } : Room) (gPc [.ref (A 0), .int (v)] (fun H => va_P D vwCl (mw cA A x f) H) D cA) (wrI (fun r H => r = (tmO x (f 0) cn v).1 ∧ va_P D vwCl (mw cA A (tmO x (f 0) cn v).2 f) H) (MA A)) 0 0 (MA A) := by
  refine gOf (by decide) (Nat.le_of_ble_eq_true rfl) ?_
  intro p e s m below meth c ls hx hb hml hr hlk hown hts hnm hP hK hl
  have hl : lv_has ls 4 [(0, .ref (A 0)), (1, .int (v))] := hl
  have hD : va_D (MA A) (mw cA A x f) := mD hA
  have hS : va_S (MA A) s.heap s.heap [] := va_S.rf
  refine lv_aload_n hx hb dX8_termFrom_0 rfl (lv_at hl 0 rfl) ?_
  refine lv_iload_n hx hb dX8_termFrom_1 rfl (lv_at hl 1 rfl) ?_
  refine lv_iconst (v := nI (0)) hx hb dX8_termFrom_2 gc_0 ?_
  refine lv_bipush (v := nI (99)) hx hb dX8_termFrom_3 gb_99 ?_
  refine rd_calle (va_runS (As := [.int (v), .int (nI (0)), .int (nI (99))]) (rest := [.ref (A 0)]) ⟨hx, hb, hml, hown, hts⟩ (c_X8_in l D cA (v) (nI (0)) (nI (99))) (cwS 3 hts (gWS gm_8_20 gm_8_21 gm_1_5 gm_8_22) rfl rfl rfl (by decide +kernel) ⟨Nat.le_of_ble_eq_true rfl, Nat.le_of_ble_eq_true rfl⟩) (gPreS hK trivial) rfl rfl hl.1 rfl (lv_room (Nat.le_of_ble_eq_true rfl)) dX8_termFrom_5 ⟨by omega, by omega⟩) ?_
  refine g_if_eq (P := inB (v) (nI (0)) (nI (99)) = false) (tgt := 15) hx hb dX8_termFrom_8 (by decide) b2i_0 (fun c_1 => ?_) (fun c_1 => ?_)
  · refine lv_iconst (v := nI (1)) hx hb dX8_termFrom_15 gc_1 ?_
    refine wr_calli (va_runV (As := [.int (nI (1))]) (rest := []) ⟨hx, hb, hml, hown, hts⟩ (c_X8_fails l D cA A (x) (f) (1)  hA (by decide)) (cwV 1 hts (gWV gm_8_23 gm_9_0 gm_9_1 gm_1_5 gm_9_2) rfl rfl rfl (by decide +kernel) ⟨Nat.le_of_ble_eq_true rfl, Nat.le_of_ble_eq_true rfl⟩) (gPreV hK (g_rf hK hP (ci := 10) (q0 := 0) rfl rfl) hP) rfl rfl hl.1 rfl (lv_room (Nat.le_of_ble_eq_true rfl)) dX8_termFrom_16 ⟨by omega, by omega⟩) hS (fun q _ h => h) (fun q h => h) (fun r H locs hw9 hz9 hk9 hS => ?_)
    obtain ⟨rfl, hP⟩ := hw9
    have hP : va_P D vwCl (mw cA A (upd (upd (x) 3 (nI (0))) 4 (nI (1))) (f)) H := hP
    have hD : va_D (MA A) (mw cA A (upd (upd (x) 3 (nI (0))) 4 (nI (1))) (f)) := mD hA
    refine g_if_eq (P := true = false) (tgt := 24) hx hb dX8_termFrom_19 (by decide) b2i_0 (fun c_2 => ?_) (fun c_2 => ?_)
    · exact absurd c_2 (by decide)
    · have c_2 : true = true := eq_true_of_ne_false c_2
      refine lv_iconst (v := nI (0)) hx hb dX8_termFrom_22 gc_0 ?_
      exact g_iretW (v := nI (0)) hx hb hr hlk hS dX8_termFrom_23 (by rw [tmO, if_neg (bnt c_1)]; exact ⟨rfl, hP⟩)
  · have c_1 : inB (v) (nI (0)) (nI (99)) = true := eq_true_of_ne_false c_1
    refine lv_iconst (v := nI (0)) hx hb dX8_termFrom_11 gc_0 ?_
    refine lv_goto (tgt := 16) hx hb dX8_termFrom_12 (by decide) ?_
    refine wr_calli (va_runV (As := [.int (nI (0))]) (rest := []) ⟨hx, hb, hml, hown, hts⟩ (c_X8_fails l D cA A (x) (f) (0)  hA (by decide)) (cwV 1 hts (gWV gm_8_23 gm_9_0 gm_9_1 gm_1_5 gm_9_2) rfl rfl rfl (by decide +kernel) ⟨Nat.le_of_ble_eq_true rfl, Nat.le_of_ble_eq_true rfl⟩) (gPreV hK (g_rf hK hP (ci := 10) (q0 := 0) rfl rfl) hP) rfl rfl hl.1 rfl (lv_room (Nat.le_of_ble_eq_true rfl)) dX8_termFrom_16 ⟨by omega, by omega⟩) hS (fun q _ h => h) (fun q h => h) (fun r H locs hw9 hz9 hk9 hS => ?_)
    obtain ⟨rfl, hP⟩ := hw9
    have hP : va_P D vwCl (mw cA A (upd (upd (x) 3 (nI (0))) 4 (nI (0))) (f)) H := hP
    have hD : va_D (MA A) (mw cA A (upd (upd (x) 3 (nI (0))) 4 (nI (0))) (f)) := mD hA
    refine g_if_eq (P := false = false) (tgt := 24) hx hb dX8_termFrom_19 (by decide) b2i_0 (fun c_3 => ?_) (fun c_3 => ?_)
    · refine lv_iconst (v := -1) hx hb dX8_termFrom_24 gc_m1 ?_
      refine lv_istore_n (lv' := [(2, .int (-1)), (0, .ref (A 0)), (1, .int (v))]) hx hb dX8_termFrom_25 rfl hl (by decide) rfl (fun ls hl => ?_)
      refine lv_iconst (v := nI (0)) hx hb dX8_termFrom_26 gc_0 ?_
      refine lv_istore_n (lv' := [(3, .int (nI (0))), (2, .int (-1)), (0, .ref (A 0)), (1, .int (v))]) hx hb dX8_termFrom_27 rfl hl (by decide) rfl (fun ls hl => ?_)
      have LP_8 : ∀ (n_5 i_4 : Nat) (x_6 x_7 : Int32), i_4 ≤ cn → cn + 1 ≤ i_4 + n_5 → x_6 = nI (i_4) → x_7 = tfM (f 0) v i_4 → ∀ (ls : Array Slot), lv_has ls 4 [(3, .int (x_6)), (2, .int (x_7)), (0, .ref (A 0)), (1, .int (v))] → W p l e ({ frames := 2, cells := 0, slots := 0, locals := 43 } : Room) s m ([.ref (A 0), .int (v)] : List Value).toArray below meth c H locs 0 0 (MQ below (wrI (fun r H => r = (tmO x (f 0) cn v).1 ∧ va_P D vwCl (mw cA A (tmO x (f 0) cn v).2 f) H) (MA A)) ([.ref (A 0), .int (v)] : List Value).toArray s 0 0 (MA A)) (F0 m 28 ls []) := by
        intro n_5
        induction n_5 with
        | zero => intro i_4 x_6 x_7 h1 h2; exact absurd h2 (by omega)
        | succ n_5 ih_11 =>
          intro i_4 x_6 x_7 h_12 h_13 e_9 e_10  ls hl
          subst e_9
          subst e_10
          refine lv_iload_n hx hb dX8_termFrom_28 rfl (lv_at hl 0 rfl) ?_
          refine lv_aload_n hx hb dX8_termFrom_29 rfl (lv_at hl 2 rfl) ?_
          refine g_get (v := .ref (A 1)) hx hb hts hown hK hP 0 rfl rfl gu_wsX80 0 (by decide) gm_5_14 rfl dX8_termFrom_30 ?_
          refine lv_iconst (v := nI (1)) hx hb dX8_termFrom_33 gc_1 ?_
          refine g_iald (x := nI (cn)) hx hb hK hP 1 rfl (by omega) (by decide) hc dX8_termFrom_34 ?_
          refine g_icmp_ge (P := cn ≤ i_4) (tgt := 83) hx hb dX8_termFrom_35 (by decide) (nI_leI (by omega) (by omega)) (fun c_14 => ?_) (fun c_14 => ?_)
          · have d_14 : ¬ i_4 < cn := Nat.not_lt.mpr c_14
            have hN_15 : cn = i_4 := by omega
            subst hN_15
            refine lv_aload_n hx hb dX8_termFrom_83 rfl (lv_at hl 2 rfl) ?_
            refine lv_iload_n hx hb dX8_termFrom_84 rfl (lv_at hl 1 rfl) ?_
            refine g_if_ge (P := 0 ≤ tfM (f 0) v (cn)) (tgt := 92) hx hb dX8_termFrom_85 (by decide) Iff.rfl (fun c_16 => ?_) (fun c_16 => ?_)
            · have d_16 : ¬ tfM (f 0) v (cn) < 0 := Int32.not_lt.mpr c_16
              refine lv_iconst (v := nI (0)) hx hb dX8_termFrom_92 gc_0 ?_
              refine wr_calli (va_runV (As := [.int (nI (0))]) (rest := []) ⟨hx, hb, hml, hown, hts⟩ (c_X8_fails l D cA A (upd (upd (x) 3 (nI (0))) 4 (nI (0))) (f) (0)  hA (by decide)) (cwV 1 hts (gWV gm_8_23 gm_9_0 gm_9_1 gm_1_5 gm_9_2) rfl rfl rfl (by decide +kernel) ⟨Nat.le_of_ble_eq_true rfl, Nat.le_of_ble_eq_true rfl⟩) (gPreV hK (g_rf hK hP (ci := 10) (q0 := 0) rfl rfl) hP) rfl rfl hl.1 rfl (lv_room (Nat.le_of_ble_eq_true rfl)) dX8_termFrom_93 ⟨by omega, by omega⟩) hS (fun q _ h => h) (fun q h => h) (fun r H locs hw9 hz9 hk9 hS => ?_)
              obtain ⟨rfl, hP⟩ := hw9
              have hP : va_P D vwCl (mw cA A (upd (upd (x) 3 (nI (0))) 4 (nI (0))) (f)) H := hP
              have hD : va_D (MA A) (mw cA A (upd (upd (x) 3 (nI (0))) 4 (nI (0))) (f)) := mD hA
              refine g_if_eq (P := false = false) (tgt := 103) hx hb dX8_termFrom_96 (by decide) b2i_0 (fun c_17 => ?_) (fun c_17 => ?_)
              · refine lv_iload_n hx hb dX8_termFrom_103 rfl (lv_at hl 1 rfl) ?_
                exact g_iretW (v := tfM (f 0) v (cn)) hx hb hr hlk hS dX8_termFrom_104 (by rw [tmO, if_pos c_1, if_pos c_16]; exact ⟨rfl, hP⟩)
              · exact absurd c_17 (by decide)
            · have d_16 : tfM (f 0) v (cn) < 0 := Int32.not_le.mp c_16
              refine lv_iconst (v := nI (2)) hx hb dX8_termFrom_88 gc_2 ?_
              refine lv_goto (tgt := 93) hx hb dX8_termFrom_89 (by decide) ?_
              refine wr_calli (va_runV (As := [.int (nI (2))]) (rest := []) ⟨hx, hb, hml, hown, hts⟩ (c_X8_fails l D cA A (upd (upd (x) 3 (nI (0))) 4 (nI (0))) (f) (2)  hA (by decide)) (cwV 1 hts (gWV gm_8_23 gm_9_0 gm_9_1 gm_1_5 gm_9_2) rfl rfl rfl (by decide +kernel) ⟨Nat.le_of_ble_eq_true rfl, Nat.le_of_ble_eq_true rfl⟩) (gPreV hK (g_rf hK hP (ci := 10) (q0 := 0) rfl rfl) hP) rfl rfl hl.1 rfl (lv_room (Nat.le_of_ble_eq_true rfl)) dX8_termFrom_93 ⟨by omega, by omega⟩) hS (fun q _ h => h) (fun q h => h) (fun r H locs hw9 hz9 hk9 hS => ?_)
              obtain ⟨rfl, hP⟩ := hw9
              have hP : va_P D vwCl (mw cA A (upd (upd (x) 3 (nI (0))) 4 (nI (2))) (f)) H := hP
              have hD : va_D (MA A) (mw cA A (upd (upd (x) 3 (nI (0))) 4 (nI (2))) (f)) := mD hA
              refine g_if_eq (P := true = false) (tgt := 103) hx hb dX8_termFrom_96 (by decide) b2i_0 (fun c_18 => ?_) (fun c_18 => ?_)
              · exact absurd c_18 (by decide)
              · have c_18 : true = true := eq_true_of_ne_false c_18
                refine lv_iconst (v := nI (0)) hx hb dX8_termFrom_99 gc_0 ?_
                refine lv_goto (tgt := 104) hx hb dX8_termFrom_100 (by decide) ?_
                exact g_iretW (v := nI (0)) hx hb hr hlk hS dX8_termFrom_104 (by rw [tmO, if_pos c_1, if_neg c_16]; exact ⟨rfl, hP⟩)
          · have d_14 : i_4 < cn := Nat.not_le.mp c_14
            refine lv_aload_n hx hb dX8_termFrom_38 rfl (lv_at hl 2 rfl) ?_
            refine lv_iload_n hx hb dX8_termFrom_39 rfl (lv_at hl 0 rfl) ?_
            refine rd_calle (va_runV (As := [.int (nI (i_4))]) (rest := []) ⟨hx, hb, hml, hown, hts⟩ (c_X8_isRolled l D cA A (upd (upd (x) 3 (nI (0))) 4 (nI (0))) (f) (i_4) (by omega)) (cwV 1 hts (gWV gm_23_22 gm_23_23 gm_24_0 gm_1_5 gm_24_1) rfl rfl rfl (by decide +kernel) ⟨Nat.le_of_ble_eq_true rfl, Nat.le_of_ble_eq_true rfl⟩) (gPreV hK (g_rf hK hP (ci := 10) (q0 := 0) rfl rfl) hP) rfl rfl hl.1 rfl (lv_room (Nat.le_of_ble_eq_true rfl)) dX8_termFrom_40 ⟨by omega, by omega⟩) ?_
            refine g_if_eq (P := rlM (f 0) (i_4) = false) (tgt := 77) hx hb dX8_termFrom_43 (by decide) b2i_0 (fun c_19 => ?_) (fun c_19 => ?_)
            · refine lv_iinc (v := nI (i_4 + 1)) (lv' := [(3, .int (nI (i_4 + 1))), (2, .int (tfM (f 0) v i_4)), (0, .ref (A 0)), (1, .int (v))]) hx hb dX8_termFrom_77 hl (k := 0) rfl (inc_1 _) (by decide) rfl (fun ls hl => ?_)
              refine lv_goto (tgt := 28) hx hb dX8_termFrom_80 (by decide) ?_
              exact ih_11 (i_4 + 1) _ _ (by omega) (by omega) rfl (by simp [tfM, c_14, d_14, c_19])  ls (lv_sub hl [0, 1, 2, 3] rfl)
            · have c_19 : rlM (f 0) (i_4) = true := eq_true_of_ne_false c_19
              refine lv_aload_n hx hb dX8_termFrom_46 rfl (lv_at hl 2 rfl) ?_
              refine lv_iload_n hx hb dX8_termFrom_47 rfl (lv_at hl 0 rfl) ?_
              refine lv_iconst (v := nI (1)) hx hb dX8_termFrom_48 gc_1 ?_
              refine rd_calle (va_runV (As := [.int (nI (i_4)), .int (nI (1))]) (rest := []) ⟨hx, hb, hml, hown, hts⟩ (c_X8_of l D cA A (upd (upd (x) 3 (nI (0))) 4 (nI (0))) (f) (i_4) (1) (by omega)) (cwV 2 hts (gWV gm_14_3 gm_14_4 gm_14_5 gm_1_5 gm_14_6) rfl rfl rfl (by decide +kernel) ⟨Nat.le_of_ble_eq_true rfl, Nat.le_of_ble_eq_true rfl⟩) (gPreV hK (g_rf hK hP (ci := 10) (q0 := 0) rfl rfl) hP) rfl rfl hl.1 rfl (lv_room (Nat.le_of_ble_eq_true rfl)) dX8_termFrom_49 ⟨by omega, by omega⟩) ?_
              refine lv_iload_n hx hb dX8_termFrom_52 rfl (lv_at hl 3 rfl) ?_
              refine g_icmp_lt (P := gof (f 0) (i_4) (1) < v) (tgt := 77) hx hb dX8_termFrom_53 (by decide) Iff.rfl (fun c_20 => ?_) (fun c_20 => ?_)
              · have d_20 : ¬ v ≤ gof (f 0) (i_4) (1) := Int32.not_le.mpr c_20
                refine lv_iinc (v := nI (i_4 + 1)) (lv' := [(3, .int (nI (i_4 + 1))), (2, .int (tfM (f 0) v i_4)), (0, .ref (A 0)), (1, .int (v))]) hx hb dX8_termFrom_77 hl (k := 0) rfl (inc_1 _) (by decide) rfl (fun ls hl => ?_)
                refine lv_goto (tgt := 28) hx hb dX8_termFrom_80 (by decide) ?_
                exact ih_11 (i_4 + 1) _ _ (by omega) (by omega) rfl (by simp [tfM, c_14, d_14, c_19, c_20, d_20])  ls (lv_sub hl [0, 1, 2, 3] rfl)
              · have d_20 : v ≤ gof (f 0) (i_4) (1) := Int32.not_lt.mp c_20
                refine lv_iload_n hx hb dX8_termFrom_56 rfl (lv_at hl 1 rfl) ?_
                refine g_if_lt (P := tfM (f 0) v i_4 < 0) (tgt := 70) hx hb dX8_termFrom_57 (by decide) Iff.rfl (fun c_21 => ?_) (fun c_21 => ?_)
                · have d_21 : ¬ 0 ≤ tfM (f 0) v i_4 := Int32.not_le.mpr c_21
                  refine lv_aload_n hx hb dX8_termFrom_70 rfl (lv_at hl 2 rfl) ?_
                  refine lv_iload_n hx hb dX8_termFrom_71 rfl (lv_at hl 0 rfl) ?_
                  refine lv_iconst (v := nI (1)) hx hb dX8_termFrom_72 gc_1 ?_
                  refine rd_calle (va_runV (As := [.int (nI (i_4)), .int (nI (1))]) (rest := []) ⟨hx, hb, hml, hown, hts⟩ (c_X8_of l D cA A (upd (upd (x) 3 (nI (0))) 4 (nI (0))) (f) (i_4) (1) (by omega)) (cwV 2 hts (gWV gm_14_3 gm_14_4 gm_14_5 gm_1_5 gm_14_6) rfl rfl rfl (by decide +kernel) ⟨Nat.le_of_ble_eq_true rfl, Nat.le_of_ble_eq_true rfl⟩) (gPreV hK (g_rf hK hP (ci := 10) (q0 := 0) rfl rfl) hP) rfl rfl hl.1 rfl (lv_room (Nat.le_of_ble_eq_true rfl)) dX8_termFrom_73 ⟨by omega, by omega⟩) ?_
                  refine lv_istore_n (lv' := [(2, .int (gof (f 0) (i_4) (1))), (3, .int (nI (i_4))), (0, .ref (A 0)), (1, .int (v))]) hx hb dX8_termFrom_76 rfl hl (by decide) rfl (fun ls hl => ?_)
                  refine lv_iinc (v := nI (i_4 + 1)) (lv' := [(3, .int (nI (i_4 + 1))), (2, .int (gof (f 0) (i_4) (1))), (0, .ref (A 0)), (1, .int (v))]) hx hb dX8_termFrom_77 hl (k := 1) rfl (inc_1 _) (by decide) rfl (fun ls hl => ?_)
                  refine lv_goto (tgt := 28) hx hb dX8_termFrom_80 (by decide) ?_
                  exact ih_11 (i_4 + 1) _ _ (by omega) (by omega) rfl (by simp [tfM, c_14, d_14, c_19, c_20, d_20, c_21, d_21])  ls (lv_sub hl [0, 1, 2, 3] rfl)
                · have d_21 : 0 ≤ tfM (f 0) v i_4 := Int32.not_lt.mp c_21
                  refine lv_aload_n hx hb dX8_termFrom_60 rfl (lv_at hl 2 rfl) ?_
                  refine lv_iload_n hx hb dX8_termFrom_61 rfl (lv_at hl 0 rfl) ?_
                  refine lv_iconst (v := nI (1)) hx hb dX8_termFrom_62 gc_1 ?_
                  refine rd_calle (va_runV (As := [.int (nI (i_4)), .int (nI (1))]) (rest := []) ⟨hx, hb, hml, hown, hts⟩ (c_X8_of l D cA A (upd (upd (x) 3 (nI (0))) 4 (nI (0))) (f) (i_4) (1) (by omega)) (cwV 2 hts (gWV gm_14_3 gm_14_4 gm_14_5 gm_1_5 gm_14_6) rfl rfl rfl (by decide +kernel) ⟨Nat.le_of_ble_eq_true rfl, Nat.le_of_ble_eq_true rfl⟩) (gPreV hK (g_rf hK hP (ci := 10) (q0 := 0) rfl rfl) hP) rfl rfl hl.1 rfl (lv_room (Nat.le_of_ble_eq_true rfl)) dX8_termFrom_63 ⟨by omega, by omega⟩) ?_
                  refine lv_iload_n hx hb dX8_termFrom_66 rfl (lv_at hl 1 rfl) ?_
                  refine g_icmp_ge (P := tfM (f 0) v i_4 ≤ gof (f 0) (i_4) (1)) (tgt := 77) hx hb dX8_termFrom_67 (by decide) Iff.rfl (fun c_22 => ?_) (fun c_22 => ?_)
                  · have d_22 : ¬ gof (f 0) (i_4) (1) < tfM (f 0) v i_4 := Int32.not_lt.mpr c_22
                    refine lv_iinc (v := nI (i_4 + 1)) (lv' := [(3, .int (nI (i_4 + 1))), (2, .int (tfM (f 0) v i_4)), (0, .ref (A 0)), (1, .int (v))]) hx hb dX8_termFrom_77 hl (k := 0) rfl (inc_1 _) (by decide) rfl (fun ls hl => ?_)
                    refine lv_goto (tgt := 28) hx hb dX8_termFrom_80 (by decide) ?_
                    exact ih_11 (i_4 + 1) _ _ (by omega) (by omega) rfl (by simp [tfM, c_14, d_14, c_19, c_20, d_20, c_21, d_21, c_22, d_22])  ls (lv_sub hl [0, 1, 2, 3] rfl)
                  · have d_22 : gof (f 0) (i_4) (1) < tfM (f 0) v i_4 := Int32.not_le.mp c_22
                    refine lv_aload_n hx hb dX8_termFrom_70 rfl (lv_at hl 2 rfl) ?_
                    refine lv_iload_n hx hb dX8_termFrom_71 rfl (lv_at hl 0 rfl) ?_
                    refine lv_iconst (v := nI (1)) hx hb dX8_termFrom_72 gc_1 ?_
                    refine rd_calle (va_runV (As := [.int (nI (i_4)), .int (nI (1))]) (rest := []) ⟨hx, hb, hml, hown, hts⟩ (c_X8_of l D cA A (upd (upd (x) 3 (nI (0))) 4 (nI (0))) (f) (i_4) (1) (by omega)) (cwV 2 hts (gWV gm_14_3 gm_14_4 gm_14_5 gm_1_5 gm_14_6) rfl rfl rfl (by decide +kernel) ⟨Nat.le_of_ble_eq_true rfl, Nat.le_of_ble_eq_true rfl⟩) (gPreV hK (g_rf hK hP (ci := 10) (q0 := 0) rfl rfl) hP) rfl rfl hl.1 rfl (lv_room (Nat.le_of_ble_eq_true rfl)) dX8_termFrom_73 ⟨by omega, by omega⟩) ?_
                    refine lv_istore_n (lv' := [(2, .int (gof (f 0) (i_4) (1))), (3, .int (nI (i_4))), (0, .ref (A 0)), (1, .int (v))]) hx hb dX8_termFrom_76 rfl hl (by decide) rfl (fun ls hl => ?_)
                    refine lv_iinc (v := nI (i_4 + 1)) (lv' := [(3, .int (nI (i_4 + 1))), (2, .int (gof (f 0) (i_4) (1))), (0, .ref (A 0)), (1, .int (v))]) hx hb dX8_termFrom_77 hl (k := 1) rfl (inc_1 _) (by decide) rfl (fun ls hl => ?_)
                    refine lv_goto (tgt := 28) hx hb dX8_termFrom_80 (by decide) ?_
                    exact ih_11 (i_4 + 1) _ _ (by omega) (by omega) rfl (by simp [tfM, c_14, d_14, c_19, c_20, d_20, c_21, d_21, c_22, d_22])  ls (lv_sub hl [0, 1, 2, 3] rfl)
      exact LP_8 (cn + 1) 0 _ _ (by omega) (by omega) rfl rfl  ls (lv_sub hl [0, 1, 2, 3] rfl)
    · exact absurd c_3 (by decide)

set_option maxHeartbeats 1000000 in
set_option maxRecDepth 100000 in
theorem c_X8_finalIn (l : Launch) (D : va_G) (cA : Nat → ClassId) (A : Nat → Nat) (x : Nat → Int32) (f : Nat → Nat → Int32) (v : Int32) (cn : Nat) (hA : mInj A) (hc : f 0 1 = nI cn) (hcn : cn ≤ 10) : Met l yX8_finalIn (gw yX8_finalIn cX8_finalIn 2 (some .int)) ({ frames := 2, cells := 0, slots := 0, locals := 43 } : Room) (gPc [.ref (A 0), .int (v)] (fun H => va_P D vwCl (mw cA A x f) H) D cA) (wrI (fun r H => r = (fiM x (f 0) cn v).1 ∧ va_P D vwCl (mw cA A (fiM x (f 0) cn v).2 f) H) (MA A)) 0 0 (MA A) := by
  refine gOf (by decide) (Nat.le_of_ble_eq_true rfl) ?_
  intro p e s m below meth c ls hx hb hml hr hlk hown hts hnm hP hK hl
  have hl : lv_has ls 2 [(0, .ref (A 0)), (1, .int (v))] := hl
  have hD : va_D (MA A) (mw cA A x f) := mD hA
  have hS : va_S (MA A) s.heap s.heap [] := va_S.rf
  refine lv_aload_n hx hb dX8_finalIn_0 rfl (lv_at hl 0 rfl) ?_
  refine lv_aload_n hx hb dX8_finalIn_1 rfl (lv_at hl 0 rfl) ?_
  refine lv_iload_n hx hb dX8_finalIn_2 rfl (lv_at hl 1 rfl) ?_
  refine rd_calle (va_runV (As := [.int (v)]) (rest := [.ref (A 0)]) ⟨hx, hb, hml, hown, hts⟩ (c_X8_isCase l D cA A (x) (f) (v) cn hc hcn) (cwV 1 hts (gWV gm_13_23 gm_14_0 gm_14_1 gm_1_5 gm_14_2) rfl rfl rfl (by decide +kernel) ⟨Nat.le_of_ble_eq_true rfl, Nat.le_of_ble_eq_true rfl⟩) (gPreV hK (g_rf hK hP (ci := 10) (q0 := 0) rfl rfl) hP) rfl rfl hl.1 rfl (lv_room (Nat.le_of_ble_eq_true rfl)) dX8_finalIn_3 ⟨by omega, by omega⟩) ?_
  refine g_if_ne (P := isIx (v) cn = false) (tgt := 13) hx hb dX8_finalIn_6 (by decide) b2i_0 (fun c_1 => ?_) (fun c_1 => ?_)
  · have c_1 : isIx (v) cn = true := eq_true_of_ne_false c_1
    obtain ⟨j_2, hj_4, ej_3⟩ := isIx_n c_1 (by omega)
    rw [ej_3] at hl
    have hl : lv_has ls 2 [(0, .ref (A 0)), (1, .int (nI (j_2)))] := hl
    refine lv_aload_n hx hb dX8_finalIn_13 rfl (lv_at hl 0 rfl) ?_
    refine lv_iload_n hx hb dX8_finalIn_14 rfl (lv_at hl 1 rfl) ?_
    refine lv_iconst (v := nI (3)) hx hb dX8_finalIn_15 gc_3 ?_
    refine rd_calle (va_runV (As := [.int (nI (j_2)), .int (nI (3))]) (rest := [.ref (A 0)]) ⟨hx, hb, hml, hown, hts⟩ (c_X8_of l D cA A (x) (f) (j_2) (3) (by omega)) (cwV 2 hts (gWV gm_14_3 gm_14_4 gm_14_5 gm_1_5 gm_14_6) rfl rfl rfl (by decide +kernel) ⟨Nat.le_of_ble_eq_true rfl, Nat.le_of_ble_eq_true rfl⟩) (gPreV hK (g_rf hK hP (ci := 10) (q0 := 0) rfl rfl) hP) rfl rfl hl.1 rfl (lv_room (Nat.le_of_ble_eq_true rfl)) dX8_finalIn_16 ⟨by omega, by omega⟩) ?_
    refine g_if_ne (P := gof (f 0) (j_2) (3) = 0) (tgt := 26) hx hb dX8_finalIn_19 (by decide) Iff.rfl (fun c_5 => ?_) (fun c_5 => ?_)
    · refine lv_iconst (v := nI (0)) hx hb dX8_finalIn_26 gc_0 ?_
      refine wr_calli (va_runV (As := [.int (nI (0))]) (rest := []) ⟨hx, hb, hml, hown, hts⟩ (c_X8_fails l D cA A (x) (f) (0)  hA (by decide)) (cwV 1 hts (gWV gm_8_23 gm_9_0 gm_9_1 gm_1_5 gm_9_2) rfl rfl rfl (by decide +kernel) ⟨Nat.le_of_ble_eq_true rfl, Nat.le_of_ble_eq_true rfl⟩) (gPreV hK (g_rf hK hP (ci := 10) (q0 := 0) rfl rfl) hP) rfl rfl hl.1 rfl (lv_room (Nat.le_of_ble_eq_true rfl)) dX8_finalIn_27 ⟨by omega, by omega⟩) hS (fun q _ h => h) (fun q h => h) (fun r H locs hw9 hz9 hk9 hS => ?_)
      obtain ⟨rfl, hP⟩ := hw9
      have hP : va_P D vwCl (mw cA A (upd (upd (x) 3 (nI (0))) 4 (nI (0))) (f)) H := hP
      have hD : va_D (MA A) (mw cA A (upd (upd (x) 3 (nI (0))) 4 (nI (0))) (f)) := mD hA
      refine g_if_eq (P := false = false) (tgt := 35) hx hb dX8_finalIn_30 (by decide) b2i_0 (fun c_6 => ?_) (fun c_6 => ?_)
      · refine lv_aload_n hx hb dX8_finalIn_35 rfl (lv_at hl 0 rfl) ?_
        refine lv_iload_n hx hb dX8_finalIn_36 rfl (lv_at hl 1 rfl) ?_
        refine rd_calle (va_runV (As := [.int (nI (j_2))]) (rest := []) ⟨hx, hb, hml, hown, hts⟩ (c_X8_isClosed l D cA A (upd (upd (x) 3 (nI (0))) 4 (nI (0))) (f) (j_2) (by omega)) (cwV 1 hts (gWV gm_14_17 gm_14_18 gm_14_19 gm_1_5 gm_14_20) rfl rfl rfl (by decide +kernel) ⟨Nat.le_of_ble_eq_true rfl, Nat.le_of_ble_eq_true rfl⟩) (gPreV hK (g_rf hK hP (ci := 10) (q0 := 0) rfl rfl) hP) rfl rfl hl.1 rfl (lv_room (Nat.le_of_ble_eq_true rfl)) dX8_finalIn_37 ⟨by omega, by omega⟩) ?_
        refine g_if_eq (P := clM (f 0) (j_2) = false) (tgt := 52) hx hb dX8_finalIn_40 (by decide) b2i_0 (fun c_7 => ?_) (fun c_7 => ?_)
        · refine lv_aload_n hx hb dX8_finalIn_52 rfl (lv_at hl 0 rfl) ?_
          refine lv_iload_n hx hb dX8_finalIn_53 rfl (lv_at hl 1 rfl) ?_
          refine lv_iconst (v := nI (4)) hx hb dX8_finalIn_54 gc_4 ?_
          refine rd_calle (va_runV (As := [.int (nI (j_2)), .int (nI (4))]) (rest := []) ⟨hx, hb, hml, hown, hts⟩ (c_X8_of l D cA A (upd (upd (x) 3 (nI (0))) 4 (nI (0))) (f) (j_2) (4) (by omega)) (cwV 2 hts (gWV gm_14_3 gm_14_4 gm_14_5 gm_1_5 gm_14_6) rfl rfl rfl (by decide +kernel) ⟨Nat.le_of_ble_eq_true rfl, Nat.le_of_ble_eq_true rfl⟩) (gPreV hK (g_rf hK hP (ci := 10) (q0 := 0) rfl rfl) hP) rfl rfl hl.1 rfl (lv_room (Nat.le_of_ble_eq_true rfl)) dX8_finalIn_55 ⟨by omega, by omega⟩) ?_
          refine lv_iconst (v := nI (4)) hx hb dX8_finalIn_58 gc_4 ?_
          refine lv_iadd hx hb dX8_finalIn_59 ?_
          exact g_iretW (v := (gof (f 0) (j_2) (4)) + (nI (4))) hx hb hr hlk hS dX8_finalIn_60 (by have hq9v : v.toNatClampNeg = j_2 := (by rw [ej_3, nI_clamp (by omega)]); rw [fiM, hq9v, if_pos c_1, if_neg c_5, if_neg (bnt c_7)]; exact ⟨rfl, hP⟩)
        · have c_7 : clM (f 0) (j_2) = true := eq_true_of_ne_false c_7
          refine lv_aload_n hx hb dX8_finalIn_43 rfl (lv_at hl 0 rfl) ?_
          refine lv_iload_n hx hb dX8_finalIn_44 rfl (lv_at hl 1 rfl) ?_
          refine lv_iconst (v := nI (5)) hx hb dX8_finalIn_45 gc_5 ?_
          refine rd_calle (va_runV (As := [.int (nI (j_2)), .int (nI (5))]) (rest := []) ⟨hx, hb, hml, hown, hts⟩ (c_X8_of l D cA A (upd (upd (x) 3 (nI (0))) 4 (nI (0))) (f) (j_2) (5) (by omega)) (cwV 2 hts (gWV gm_14_3 gm_14_4 gm_14_5 gm_1_5 gm_14_6) rfl rfl rfl (by decide +kernel) ⟨Nat.le_of_ble_eq_true rfl, Nat.le_of_ble_eq_true rfl⟩) (gPreV hK (g_rf hK hP (ci := 10) (q0 := 0) rfl rfl) hP) rfl rfl hl.1 rfl (lv_room (Nat.le_of_ble_eq_true rfl)) dX8_finalIn_46 ⟨by omega, by omega⟩) ?_
          refine lv_goto (tgt := 60) hx hb dX8_finalIn_49 (by decide) ?_
          exact g_iretW (v := gof (f 0) (j_2) (5)) hx hb hr hlk hS dX8_finalIn_60 (by have hq9v : v.toNatClampNeg = j_2 := (by rw [ej_3, nI_clamp (by omega)]); rw [fiM, hq9v, if_pos c_1, if_neg c_5, if_pos c_7]; exact ⟨rfl, hP⟩)
      · exact absurd c_6 (by decide)
    · refine lv_iconst (v := nI (2)) hx hb dX8_finalIn_22 gc_2 ?_
      refine lv_goto (tgt := 27) hx hb dX8_finalIn_23 (by decide) ?_
      refine wr_calli (va_runV (As := [.int (nI (2))]) (rest := []) ⟨hx, hb, hml, hown, hts⟩ (c_X8_fails l D cA A (x) (f) (2)  hA (by decide)) (cwV 1 hts (gWV gm_8_23 gm_9_0 gm_9_1 gm_1_5 gm_9_2) rfl rfl rfl (by decide +kernel) ⟨Nat.le_of_ble_eq_true rfl, Nat.le_of_ble_eq_true rfl⟩) (gPreV hK (g_rf hK hP (ci := 10) (q0 := 0) rfl rfl) hP) rfl rfl hl.1 rfl (lv_room (Nat.le_of_ble_eq_true rfl)) dX8_finalIn_27 ⟨by omega, by omega⟩) hS (fun q _ h => h) (fun q h => h) (fun r H locs hw9 hz9 hk9 hS => ?_)
      obtain ⟨rfl, hP⟩ := hw9
      have hP : va_P D vwCl (mw cA A (upd (upd (x) 3 (nI (0))) 4 (nI (2))) (f)) H := hP
      have hD : va_D (MA A) (mw cA A (upd (upd (x) 3 (nI (0))) 4 (nI (2))) (f)) := mD hA
      refine g_if_eq (P := true = false) (tgt := 35) hx hb dX8_finalIn_30 (by decide) b2i_0 (fun c_8 => ?_) (fun c_8 => ?_)
      · exact absurd c_8 (by decide)
      · have c_8 : true = true := eq_true_of_ne_false c_8
        refine lv_iconst (v := nI (0)) hx hb dX8_finalIn_33 gc_0 ?_
        exact g_iretW (v := nI (0)) hx hb hr hlk hS dX8_finalIn_34 (by have hq9v : v.toNatClampNeg = j_2 := (by rw [ej_3, nI_clamp (by omega)]); rw [fiM, hq9v, if_pos c_1, if_pos c_5]; exact ⟨rfl, hP⟩)
  · refine lv_iconst (v := nI (1)) hx hb dX8_finalIn_9 gc_1 ?_
    refine lv_goto (tgt := 27) hx hb dX8_finalIn_10 (by decide) ?_
    refine wr_calli (va_runV (As := [.int (nI (1))]) (rest := []) ⟨hx, hb, hml, hown, hts⟩ (c_X8_fails l D cA A (x) (f) (1)  hA (by decide)) (cwV 1 hts (gWV gm_8_23 gm_9_0 gm_9_1 gm_1_5 gm_9_2) rfl rfl rfl (by decide +kernel) ⟨Nat.le_of_ble_eq_true rfl, Nat.le_of_ble_eq_true rfl⟩) (gPreV hK (g_rf hK hP (ci := 10) (q0 := 0) rfl rfl) hP) rfl rfl hl.1 rfl (lv_room (Nat.le_of_ble_eq_true rfl)) dX8_finalIn_27 ⟨by omega, by omega⟩) hS (fun q _ h => h) (fun q h => h) (fun r H locs hw9 hz9 hk9 hS => ?_)
    obtain ⟨rfl, hP⟩ := hw9
    have hP : va_P D vwCl (mw cA A (upd (upd (x) 3 (nI (0))) 4 (nI (1))) (f)) H := hP
    have hD : va_D (MA A) (mw cA A (upd (upd (x) 3 (nI (0))) 4 (nI (1))) (f)) := mD hA
    refine g_if_eq (P := true = false) (tgt := 35) hx hb dX8_finalIn_30 (by decide) b2i_0 (fun c_9 => ?_) (fun c_9 => ?_)
    · exact absurd c_9 (by decide)
    · have c_9 : true = true := eq_true_of_ne_false c_9
      refine lv_iconst (v := nI (0)) hx hb dX8_finalIn_33 gc_0 ?_
      exact g_iretW (v := nI (0)) hx hb hr hlk hS dX8_finalIn_34 (by rw [fiM, if_neg (bnt c_1)]; exact ⟨rfl, hP⟩)

set_option maxHeartbeats 1000000 in
set_option maxRecDepth 100000 in
theorem c_X8_doubtful (l : Launch) (D : va_G) (cA : Nat → ClassId) (A : Nat → Nat) (x : Nat → Int32) (f : Nat → Nat → Int32) (v : Int32) (jn : Nat) (hA : mInj A) (hj : f 0 0 = nI jn) (hjn : jn ≤ 9) : Met l yX8_doubtful (gw yX8_doubtful cX8_doubtful 5 (some .int)) ({ frames := 2, cells := 0, slots := 0, locals := 46 } : Room) (gPc [.ref (A 0), .int (v)] (fun H => va_P D vwCl (mw cA A x f) H) D cA) (wrI (fun r H => r = (dfM x (f 0) jn v).1 ∧ va_P D vwCl (mw cA A (dfM x (f 0) jn v).2 f) H) (MA A)) 0 0 (MA A) := by
  refine gOf (by decide) (Nat.le_of_ble_eq_true rfl) ?_
  intro p e s m below meth c ls hx hb hml hr hlk hown hts hnm hP hK hl
  have hl : lv_has ls 5 [(0, .ref (A 0)), (1, .int (v))] := hl
  have hD : va_D (MA A) (mw cA A x f) := mD hA
  have hS : va_S (MA A) s.heap s.heap [] := va_S.rf
  refine lv_iconst (v := nI (0)) hx hb dX8_doubtful_0 gc_0 ?_
  refine lv_istore_n (lv' := [(2, .int (nI (0))), (0, .ref (A 0)), (1, .int (v))]) hx hb dX8_doubtful_1 rfl hl (by decide) rfl (fun ls hl => ?_)
  have LP_4 : ∀ (n_2 i_1 : Nat) (x_3 : Int32), i_1 ≤ jn → jn + 1 ≤ i_1 + n_2 → x_3 = nI (i_1) → fnd (fun k => decide (nI (fb_ct (fun o => mdM (f 0) o k) jn) = v)) (i_1) = none → ∀ (ls : Array Slot), lv_has ls 5 [(2, .int (x_3)), (0, .ref (A 0)), (1, .int (v))] → W p l e ({ frames := 2, cells := 0, slots := 0, locals := 46 } : Room) s m ([.ref (A 0), .int (v)] : List Value).toArray below meth c s.heap [] 0 0 (MQ below (wrI (fun r H => r = (dfM x (f 0) jn v).1 ∧ va_P D vwCl (mw cA A (dfM x (f 0) jn v).2 f) H) (MA A)) ([.ref (A 0), .int (v)] : List Value).toArray s 0 0 (MA A)) (F0 m 2 ls []) := by
    intro n_2
    induction n_2 with
    | zero => intro i_1 x_3 h1 h2; exact absurd h2 (by omega)
    | succ n_2 ih_6 =>
      intro i_1 x_3 h_7 h_8 e_5 hv ls hl
      subst e_5
      refine lv_iload_n hx hb dX8_doubtful_2 rfl (lv_at hl 0 rfl) ?_
      refine lv_aload_n hx hb dX8_doubtful_3 rfl (lv_at hl 1 rfl) ?_
      refine g_get (v := .ref (A 1)) hx hb hts hown hK hP 0 rfl rfl gu_wsX80 0 (by decide) gm_5_14 rfl dX8_doubtful_4 ?_
      refine lv_iconst (v := nI (0)) hx hb dX8_doubtful_7 gc_0 ?_
      refine g_iald (x := nI (jn)) hx hb hK hP 1 rfl (by omega) (by decide) hj dX8_doubtful_8 ?_
      refine g_icmp_ge (P := jn ≤ i_1) (tgt := 73) hx hb dX8_doubtful_9 (by decide) (nI_leI (by omega) (by omega)) (fun c_9 => ?_) (fun c_9 => ?_)
      · have d_9 : ¬ i_1 < jn := Nat.not_lt.mpr c_9
        have hN_10 : jn = i_1 := by omega
        subst hN_10
        refine lv_aload_n hx hb dX8_doubtful_73 rfl (lv_at hl 1 rfl) ?_
        refine lv_iconst (v := nI (1)) hx hb dX8_doubtful_74 gc_1 ?_
        refine g_put (ws' := mw cA A (upd (x) 4 (nI (1))) (f)) hx hb hts hown hK hP hD hS 0 rfl rfl gu_wsX80 tyX8_ok nmX8 8 (by decide) gm_9_3 rfl rfl rfl (Nat.le_of_ble_eq_true rfl) rfl dX8_doubtful_75 (fun H locs hP hD hS => ?_)
        refine lv_iconst (v := nI (0)) hx hb dX8_doubtful_78 gc_0 ?_
        exact g_iretW (v := nI (0)) hx hb hr hlk hS dX8_doubtful_79 (by rw [dfM, hv]; exact ⟨rfl, hP⟩)
      · have d_9 : i_1 < jn := Nat.not_le.mp c_9
        refine lv_iconst (v := nI (0)) hx hb dX8_doubtful_12 gc_0 ?_
        refine lv_istore_n (lv' := [(3, .int (nI (0))), (2, .int (nI (i_1))), (0, .ref (A 0)), (1, .int (v))]) hx hb dX8_doubtful_13 rfl hl (by decide) rfl (fun ls hl => ?_)
        refine lv_iconst (v := nI (0)) hx hb dX8_doubtful_14 gc_0 ?_
        refine lv_istore (lv' := [(4, .int (nI (0))), (3, .int (nI (0))), (2, .int (nI (i_1))), (0, .ref (A 0)), (1, .int (v))]) hx hb dX8_doubtful_15 hl (by decide) rfl (fun ls hl => ?_)
        have LP_15 : ∀ (n_12 i_11 : Nat) (x_13 x_14 : Int32), i_11 ≤ jn → jn + 1 ≤ i_11 + n_12 → x_13 = nI (i_11) → x_14 = nI (fb_ct (fun o => mdM (f 0) o (i_1)) i_11) → ∀ (ls : Array Slot), lv_has ls 5 [(4, .int (x_13)), (3, .int (x_14)), (2, .int (nI (i_1))), (0, .ref (A 0)), (1, .int (v))] → W p l e ({ frames := 2, cells := 0, slots := 0, locals := 46 } : Room) s m ([.ref (A 0), .int (v)] : List Value).toArray below meth c s.heap [] 0 0 (MQ below (wrI (fun r H => r = (dfM x (f 0) jn v).1 ∧ va_P D vwCl (mw cA A (dfM x (f 0) jn v).2 f) H) (MA A)) ([.ref (A 0), .int (v)] : List Value).toArray s 0 0 (MA A)) (F0 m 17 ls []) := by
          intro n_12
          induction n_12 with
          | zero => intro i_11 x_13 x_14 h1 h2; exact absurd h2 (by omega)
          | succ n_12 ih_18 =>
            intro i_11 x_13 x_14 h_19 h_20 e_16 e_17  ls hl
            subst e_16
            subst e_17
            refine lv_iload hx hb dX8_doubtful_17 (lv_at hl 0 rfl) ?_
            refine lv_aload_n hx hb dX8_doubtful_19 rfl (lv_at hl 3 rfl) ?_
            refine g_get (v := .ref (A 1)) hx hb hts hown hK hP 0 rfl rfl gu_wsX80 0 (by decide) gm_5_14 rfl dX8_doubtful_20 ?_
            refine lv_iconst (v := nI (0)) hx hb dX8_doubtful_23 gc_0 ?_
            refine g_iald (x := nI (jn)) hx hb hK hP 1 rfl (by omega) (by decide) hj dX8_doubtful_24 ?_
            refine g_icmp_ge (P := jn ≤ i_11) (tgt := 52) hx hb dX8_doubtful_25 (by decide) (nI_leI (by omega) (by omega)) (fun c_21 => ?_) (fun c_21 => ?_)
            · have d_21 : ¬ i_11 < jn := Nat.not_lt.mpr c_21
              have hN_22 : jn = i_11 := by omega
              subst hN_22
              refine lv_iload_n hx hb dX8_doubtful_52 rfl (lv_at hl 1 rfl) ?_
              refine lv_iload_n hx hb dX8_doubtful_53 rfl (lv_at hl 4 rfl) ?_
              refine g_icmp_eq (P := nI (fb_ct (fun o => mdM (f 0) o (i_1)) (jn)) = v) (tgt := 60) hx hb dX8_doubtful_54 (by decide) Iff.rfl (fun c_23 => ?_) (fun c_23 => ?_)
              · refine lv_aload_n hx hb dX8_doubtful_60 rfl (lv_at hl 3 rfl) ?_
                refine lv_iconst (v := nI (0)) hx hb dX8_doubtful_61 gc_0 ?_
                refine g_put (ws' := mw cA A (upd (x) 4 (nI (0))) (f)) hx hb hts hown hK hP hD hS 0 rfl rfl gu_wsX80 tyX8_ok nmX8 8 (by decide) gm_9_3 rfl rfl rfl (Nat.le_of_ble_eq_true rfl) rfl dX8_doubtful_62 (fun H locs hP hD hS => ?_)
                refine lv_iload_n hx hb dX8_doubtful_65 rfl (lv_at hl 2 rfl) ?_
                exact g_iretW (v := nI (i_1)) hx hb hr hlk hS dX8_doubtful_66 (by rw [dfM, fnd_stop hv (by simp [c_23]) jn (by omega)]; exact ⟨rfl, hP⟩)
              · refine lv_goto (tgt := 67) hx hb dX8_doubtful_57 (by decide) ?_
                refine lv_iinc (v := nI (i_1 + 1)) (lv' := [(2, .int (nI (i_1 + 1))), (4, .int (nI ((jn)))), (3, .int (nI (fb_ct (fun o => mdM (f 0) o (i_1)) (jn)))), (0, .ref (A 0)), (1, .int (v))]) hx hb dX8_doubtful_67 hl (k := 2) rfl (inc_1 _) (by decide) rfl (fun ls hl => ?_)
                refine lv_goto (tgt := 2) hx hb dX8_doubtful_70 (by decide) ?_
                exact ih_6 (i_1 + 1) _ (by omega) (by omega) rfl (fnd_succ_none hv (by simp [c_9, c_21, c_23])) ls (lv_sub hl [0, 3, 4] rfl)
            · have d_21 : i_11 < jn := Nat.not_le.mp c_21
              refine lv_iload_n hx hb dX8_doubtful_28 rfl (lv_at hl 1 rfl) ?_
              refine lv_aload_n hx hb dX8_doubtful_29 rfl (lv_at hl 3 rfl) ?_
              refine lv_iload hx hb dX8_doubtful_30 (lv_at hl 0 rfl) ?_
              refine lv_iload_n hx hb dX8_doubtful_32 rfl (lv_at hl 2 rfl) ?_
              refine rd_calle (va_runV (As := [.int (nI (i_11)), .int (nI (i_1))]) (rest := [.int (nI (fb_ct (fun o => mdM (f 0) o (i_1)) i_11))]) ⟨hx, hb, hml, hown, hts⟩ (c_X8_isMoreDoubtful l D cA A (x) (f) (i_11) (i_1) (by omega) (by omega)) (cwV 2 hts (gWV gm_35_13 gm_35_14 gm_35_15 gm_1_5 gm_35_16) rfl rfl rfl (by decide +kernel) ⟨Nat.le_of_ble_eq_true rfl, Nat.le_of_ble_eq_true rfl⟩) (gPreV hK (g_rf hK hP (ci := 10) (q0 := 0) rfl rfl) hP) rfl rfl hl.1 rfl (lv_room (Nat.le_of_ble_eq_true rfl)) dX8_doubtful_33 ⟨by omega, by omega⟩) ?_
              refine g_if_eq (P := mdM (f 0) (i_11) (i_1) = false) (tgt := 43) hx hb dX8_doubtful_36 (by decide) b2i_0 (fun c_24 => ?_) (fun c_24 => ?_)
              · refine lv_iconst (v := nI (0)) hx hb dX8_doubtful_43 gc_0 ?_
                refine g_iadd hx hb dX8_doubtful_44 ?_
                refine lv_istore_n (lv' := [(3, .int (nI ((fb_ct (fun o => mdM (f 0) o (i_1)) i_11) + (0)))), (4, .int (nI (i_11))), (2, .int (nI (i_1))), (0, .ref (A 0)), (1, .int (v))]) hx hb dX8_doubtful_45 rfl hl (by decide) rfl (fun ls hl => ?_)
                refine lv_iinc (v := nI (i_11 + 1)) (lv' := [(4, .int (nI (i_11 + 1))), (3, .int (nI ((fb_ct (fun o => mdM (f 0) o (i_1)) i_11) + (0)))), (2, .int (nI (i_1))), (0, .ref (A 0)), (1, .int (v))]) hx hb dX8_doubtful_46 hl (k := 1) rfl (inc_1 _) (by decide) rfl (fun ls hl => ?_)
                refine lv_goto (tgt := 17) hx hb dX8_doubtful_49 (by decide) ?_
                exact ih_18 (i_11 + 1) _ _ (by omega) (by omega) rfl (by simp [fb_ct_succ, c_21, d_21, c_24])  ls (lv_sub hl [0, 1, 2, 3, 4] rfl)
              · have c_24 : mdM (f 0) (i_11) (i_1) = true := eq_true_of_ne_false c_24
                refine lv_iconst (v := nI (1)) hx hb dX8_doubtful_39 gc_1 ?_
                refine lv_goto (tgt := 44) hx hb dX8_doubtful_40 (by decide) ?_
                refine g_iadd hx hb dX8_doubtful_44 ?_
                refine lv_istore_n (lv' := [(3, .int (nI ((fb_ct (fun o => mdM (f 0) o (i_1)) i_11) + (1)))), (4, .int (nI (i_11))), (2, .int (nI (i_1))), (0, .ref (A 0)), (1, .int (v))]) hx hb dX8_doubtful_45 rfl hl (by decide) rfl (fun ls hl => ?_)
                refine lv_iinc (v := nI (i_11 + 1)) (lv' := [(4, .int (nI (i_11 + 1))), (3, .int (nI ((fb_ct (fun o => mdM (f 0) o (i_1)) i_11) + (1)))), (2, .int (nI (i_1))), (0, .ref (A 0)), (1, .int (v))]) hx hb dX8_doubtful_46 hl (k := 1) rfl (inc_1 _) (by decide) rfl (fun ls hl => ?_)
                refine lv_goto (tgt := 17) hx hb dX8_doubtful_49 (by decide) ?_
                exact ih_18 (i_11 + 1) _ _ (by omega) (by omega) rfl (by simp [fb_ct_succ, c_21, d_21, c_24])  ls (lv_sub hl [0, 1, 2, 3, 4] rfl)
        exact LP_15 (jn + 1) 0 _ _ (by omega) (by omega) rfl rfl  ls (lv_sub hl [0, 1, 2, 3, 4] rfl)
  exact LP_4 (jn + 1) 0 _ (by omega) (by omega) rfl rfl ls (lv_sub hl [0, 1, 2] rfl)

set_option maxHeartbeats 1000000 in
set_option maxRecDepth 100000 in
theorem c_X8_refusal (l : Launch) (D : va_G) (cA : Nat → ClassId) (A : Nat → Nat) (x : Nat → Int32) (f : Nat → Nat → Int32) (z : Bool) (hA : mInj A)  : Met l yX8_refusal (gw yX8_refusal cX8_refusal 2 (some .int)) ({ frames := 1, cells := 0, slots := 0, locals := 21 } : Room) (gPc [.ref (A 0), .int (b2i (z))] (fun H => va_P D vwCl (mw cA A x f) H) D cA) (wrI (fun r H => r = (rfM x z).1 ∧ va_P D vwCl (mw cA A (rfM x z).2 f) H) (MA A)) 0 0 (MA A) := by
  refine gOf (by decide) (Nat.le_of_ble_eq_true rfl) ?_
  intro p e s m below meth c ls hx hb hml hr hlk hown hts hnm hP hK hl
  have hl : lv_has ls 2 [(0, .ref (A 0)), (1, .int (b2i (z)))] := hl
  have hD : va_D (MA A) (mw cA A x f) := mD hA
  have hS : va_S (MA A) s.heap s.heap [] := va_S.rf
  refine lv_aload_n hx hb dX8_refusal_0 rfl (lv_at hl 0 rfl) ?_
  refine lv_aload_n hx hb dX8_refusal_1 rfl (lv_at hl 0 rfl) ?_
  refine g_get (v := .int (x 5)) hx hb hts hown hK hP 0 rfl rfl gu_wsX80 9 (by decide) gm_9_9 rfl dX8_refusal_2 ?_
  refine g_if_ne (P := x 5 = 0) (tgt := 12) hx hb dX8_refusal_5 (by decide) Iff.rfl (fun c_1 => ?_) (fun c_1 => ?_)
  · refine lv_iconst (v := nI (0)) hx hb dX8_refusal_12 gc_0 ?_
    refine wr_calli (va_runV (As := [.int (nI (0))]) (rest := []) ⟨hx, hb, hml, hown, hts⟩ (c_X8_fails l D cA A (x) (f) (0)  hA (by decide)) (cwV 1 hts (gWV gm_8_23 gm_9_0 gm_9_1 gm_1_5 gm_9_2) rfl rfl rfl (by decide +kernel) ⟨Nat.le_of_ble_eq_true rfl, Nat.le_of_ble_eq_true rfl⟩) (gPreV hK (g_rf hK hP (ci := 10) (q0 := 0) rfl rfl) hP) rfl rfl hl.1 rfl (lv_room (Nat.le_of_ble_eq_true rfl)) dX8_refusal_13 ⟨by omega, by omega⟩) hS (fun q _ h => h) (fun q h => h) (fun r H locs hw9 hz9 hk9 hS => ?_)
    obtain ⟨rfl, hP⟩ := hw9
    have hP : va_P D vwCl (mw cA A (upd (upd (x) 3 (nI (0))) 4 (nI (0))) (f)) H := hP
    have hD : va_D (MA A) (mw cA A (upd (upd (x) 3 (nI (0))) 4 (nI (0))) (f)) := mD hA
    refine g_if_eq (P := false = false) (tgt := 23) hx hb dX8_refusal_16 (by decide) b2i_0 (fun c_2 => ?_) (fun c_2 => ?_)
    · refine lv_iload_n hx hb dX8_refusal_23 rfl (lv_at hl 1 rfl) ?_
      refine g_if_eq (P := z = false) (tgt := 34) hx hb dX8_refusal_24 (by decide) b2i_0 (fun c_3 => ?_) (fun c_3 => ?_)
      · refine lv_aload_n hx hb dX8_refusal_34 rfl (lv_at hl 0 rfl) ?_
        refine g_get (v := .int (x 5)) hx hb hts hown hK hP 0 rfl rfl gu_wsX80 9 (by decide) gm_9_9 rfl dX8_refusal_35 ?_
        exact g_iretW (v := x 5) hx hb hr hlk hS dX8_refusal_38 (by rw [rfM, if_neg c_1, if_neg (bnt c_3)]; exact ⟨rfl, hP⟩)
      · have c_3 : z = true := eq_true_of_ne_false c_3
        refine lv_aload_n hx hb dX8_refusal_27 rfl (lv_at hl 0 rfl) ?_
        refine g_get (v := .int (x 6)) hx hb hts hown hK hP 0 rfl rfl gu_wsX80 10 (by decide) gm_9_10 rfl dX8_refusal_28 ?_
        refine lv_goto (tgt := 38) hx hb dX8_refusal_31 (by decide) ?_
        exact g_iretW (v := x 6) hx hb hr hlk hS dX8_refusal_38 (by rw [rfM, if_neg c_1, if_pos c_3]; exact ⟨rfl, hP⟩)
    · exact absurd c_2 (by decide)
  · refine lv_iconst (v := nI (1)) hx hb dX8_refusal_8 gc_1 ?_
    refine lv_goto (tgt := 13) hx hb dX8_refusal_9 (by decide) ?_
    refine wr_calli (va_runV (As := [.int (nI (1))]) (rest := []) ⟨hx, hb, hml, hown, hts⟩ (c_X8_fails l D cA A (x) (f) (1)  hA (by decide)) (cwV 1 hts (gWV gm_8_23 gm_9_0 gm_9_1 gm_1_5 gm_9_2) rfl rfl rfl (by decide +kernel) ⟨Nat.le_of_ble_eq_true rfl, Nat.le_of_ble_eq_true rfl⟩) (gPreV hK (g_rf hK hP (ci := 10) (q0 := 0) rfl rfl) hP) rfl rfl hl.1 rfl (lv_room (Nat.le_of_ble_eq_true rfl)) dX8_refusal_13 ⟨by omega, by omega⟩) hS (fun q _ h => h) (fun q h => h) (fun r H locs hw9 hz9 hk9 hS => ?_)
    obtain ⟨rfl, hP⟩ := hw9
    have hP : va_P D vwCl (mw cA A (upd (upd (x) 3 (nI (0))) 4 (nI (1))) (f)) H := hP
    have hD : va_D (MA A) (mw cA A (upd (upd (x) 3 (nI (0))) 4 (nI (1))) (f)) := mD hA
    refine g_if_eq (P := true = false) (tgt := 23) hx hb dX8_refusal_16 (by decide) b2i_0 (fun c_4 => ?_) (fun c_4 => ?_)
    · exact absurd c_4 (by decide)
    · have c_4 : true = true := eq_true_of_ne_false c_4
      refine lv_iconst (v := nI (0)) hx hb dX8_refusal_19 gc_0 ?_
      refine lv_goto (tgt := 38) hx hb dX8_refusal_20 (by decide) ?_
      exact g_iretW (v := nI (0)) hx hb hr hlk hS dX8_refusal_38 (by rw [rfM, if_pos c_1]; exact ⟨rfl, hP⟩)

set_option maxHeartbeats 1000000 in
set_option maxRecDepth 100000 in
theorem c_X8_errorPosition (l : Launch) (D : va_G) (cA : Nat → ClassId) (A : Nat → Nat) (x : Nat → Int32) (f : Nat → Nat → Int32) (hA : mInj A)  : Met l yX8_errorPosition (gw yX8_errorPosition cX8_errorPosition 1 (some .int)) ({ frames := 0, cells := 0, slots := 0, locals := 0 } : Room) (gPc [.ref (A 0)] (fun H => va_P D vwCl (mw cA A x f) H) D cA) (wrI (fun r H => r = x 8 ∧ va_P D vwCl (mw cA A (upd x 4 (nI 0)) (f)) H) (MA A)) 0 0 (MA A) := by
  refine gOf (by decide) (Nat.le_of_ble_eq_true rfl) ?_
  intro p e s m below meth c ls hx hb hml hr hlk hown hts hnm hP hK hl
  have hl : lv_has ls 1 [(0, .ref (A 0))] := hl
  have hD : va_D (MA A) (mw cA A x f) := mD hA
  have hS : va_S (MA A) s.heap s.heap [] := va_S.rf
  refine lv_aload_n hx hb dX8_errorPosition_0 rfl (lv_at hl 0 rfl) ?_
  refine lv_iconst (v := nI (0)) hx hb dX8_errorPosition_1 gc_0 ?_
  refine g_put (ws' := mw cA A (upd (x) 4 (nI (0))) (f)) hx hb hts hown hK hP hD hS 0 rfl rfl gu_wsX80 tyX8_ok nmX8 8 (by decide) gm_9_3 rfl rfl rfl (Nat.le_of_ble_eq_true rfl) rfl dX8_errorPosition_2 (fun H locs hP hD hS => ?_)
  refine lv_aload_n hx hb dX8_errorPosition_5 rfl (lv_at hl 0 rfl) ?_
  refine g_get (v := .int (x 8)) hx hb hts hown hK hP 0 rfl rfl gu_wsX80 13 (by decide) gm_5_19 rfl dX8_errorPosition_6 ?_
  exact g_iretW (v := x 8) hx hb hr hlk hS dX8_errorPosition_9 (⟨rfl, hP⟩)

set_option maxHeartbeats 1000000 in
set_option maxRecDepth 100000 in
theorem c_X8_isWell (l : Launch) (D : va_G) (cA : Nat → ClassId) (A : Nat → Nat) (x : Nat → Int32) (f : Nat → Nat → Int32) (jn cn : Nat) (hA : mInj A) (hj : f 0 0 = nI jn) (hjn : jn ≤ 9) (hc : f 0 1 = nI cn) (hcn : cn ≤ 10) : Met l yX8_isWell (gw yX8_isWell cX8_isWell 2 (some .boolean)) ({ frames := 3, cells := 0, slots := 0, locals := 66 } : Room) (gPc [.ref (A 0)] (fun H => va_P D vwCl (mw cA A x f) H) D cA) (wrI (fun r H => r = iwM (f 0) jn cn ∧ va_P D vwCl (mw cA A (upd x 4 (nI 0)) (f)) H) (MA A)) 0 0 (MA A) := by
  refine gOf (by decide) (Nat.le_of_ble_eq_true rfl) ?_
  intro p e s m below meth c ls hx hb hml hr hlk hown hts hnm hP hK hl
  have hl : lv_has ls 2 [(0, .ref (A 0))] := hl
  have hD : va_D (MA A) (mw cA A x f) := mD hA
  have hS : va_S (MA A) s.heap s.heap [] := va_S.rf
  refine lv_aload_n hx hb dX8_isWell_0 rfl (lv_at hl 0 rfl) ?_
  refine lv_iconst (v := nI (0)) hx hb dX8_isWell_1 gc_0 ?_
  refine g_put (ws' := mw cA A (upd (x) 4 (nI (0))) (f)) hx hb hts hown hK hP hD hS 0 rfl rfl gu_wsX80 tyX8_ok nmX8 8 (by decide) gm_9_3 rfl rfl rfl (Nat.le_of_ble_eq_true rfl) rfl dX8_isWell_2 (fun H locs hP hD hS => ?_)
  refine lv_iconst (v := nI (0)) hx hb dX8_isWell_5 gc_0 ?_
  refine lv_istore_n (lv' := [(1, .int (nI (0))), (0, .ref (A 0))]) hx hb dX8_isWell_6 rfl hl (by decide) rfl (fun ls hl => ?_)
  have LP_4 : ∀ (n_2 i_1 : Nat) (x_3 : Int32), i_1 ≤ jn → jn + 1 ≤ i_1 + n_2 → x_3 = nI (i_1) → fnd (fun k => decide (3 < ldM (f 0) cn k)) (i_1) = none → ∀ (ls : Array Slot), lv_has ls 2 [(1, .int (x_3)), (0, .ref (A 0))] → W p l e ({ frames := 3, cells := 0, slots := 0, locals := 66 } : Room) s m ([.ref (A 0)] : List Value).toArray below meth c H locs 0 0 (MQ below (wrI (fun r H => r = iwM (f 0) jn cn ∧ va_P D vwCl (mw cA A (upd x 4 (nI 0)) (f)) H) (MA A)) ([.ref (A 0)] : List Value).toArray s 0 0 (MA A)) (F0 m 7 ls []) := by
    intro n_2
    induction n_2 with
    | zero => intro i_1 x_3 h1 h2; exact absurd h2 (by omega)
    | succ n_2 ih_6 =>
      intro i_1 x_3 h_7 h_8 e_5 hv ls hl
      subst e_5
      refine lv_iload_n hx hb dX8_isWell_7 rfl (lv_at hl 0 rfl) ?_
      refine lv_aload_n hx hb dX8_isWell_8 rfl (lv_at hl 1 rfl) ?_
      refine g_get (v := .ref (A 1)) hx hb hts hown hK hP 0 rfl rfl gu_wsX80 0 (by decide) gm_5_14 rfl dX8_isWell_9 ?_
      refine lv_iconst (v := nI (0)) hx hb dX8_isWell_12 gc_0 ?_
      refine g_iald (x := nI (jn)) hx hb hK hP 1 rfl (by omega) (by decide) hj dX8_isWell_13 ?_
      refine g_icmp_ge (P := jn ≤ i_1) (tgt := 34) hx hb dX8_isWell_14 (by decide) (nI_leI (by omega) (by omega)) (fun c_9 => ?_) (fun c_9 => ?_)
      · have d_9 : ¬ i_1 < jn := Nat.not_lt.mpr c_9
        have hN_10 : jn = i_1 := by omega
        subst hN_10
        refine lv_iconst (v := nI (1)) hx hb dX8_isWell_34 gc_1 ?_
        exact g_zretW (v := nI (1)) hx hb hr hlk rfl hS dX8_isWell_35 (by rw [iwM, hv]; exact ⟨rfl, hP⟩)
      · have d_9 : i_1 < jn := Nat.not_le.mp c_9
        refine lv_aload_n hx hb dX8_isWell_17 rfl (lv_at hl 1 rfl) ?_
        refine lv_iload_n hx hb dX8_isWell_18 rfl (lv_at hl 0 rfl) ?_
        refine rd_calle (va_runV (As := [.int (nI (i_1))]) (rest := []) ⟨hx, hb, hml, hown, hts⟩ (c_X8_loadOf l D cA A (upd (x) 4 (nI (0))) (f) (i_1) cn hc hcn) (cwV 1 hts (gWV gm_14_13 gm_14_14 gm_14_15 gm_1_5 gm_14_16) rfl rfl rfl (by decide +kernel) ⟨Nat.le_of_ble_eq_true rfl, Nat.le_of_ble_eq_true rfl⟩) (gPreV hK (g_rf hK hP (ci := 10) (q0 := 0) rfl rfl) hP) rfl rfl hl.1 rfl (lv_room (Nat.le_of_ble_eq_true rfl)) dX8_isWell_19 ⟨by omega, by omega⟩) ?_
        have hle_11 := ldM_le (f 0) cn (i_1)
        refine lv_iconst (v := nI (3)) hx hb dX8_isWell_22 gc_3 ?_
        refine g_icmp_le (P := ldM (f 0) cn (i_1) ≤ 3) (tgt := 28) hx hb dX8_isWell_23 (by decide) (nI_leI (by omega) (by omega)) (fun c_12 => ?_) (fun c_12 => ?_)
        · have d_12 : ¬ 3 < ldM (f 0) cn (i_1) := Nat.not_lt.mpr c_12
          refine lv_iinc (v := nI (i_1 + 1)) (lv' := [(1, .int (nI (i_1 + 1))), (0, .ref (A 0))]) hx hb dX8_isWell_28 hl (k := 0) rfl (inc_1 _) (by decide) rfl (fun ls hl => ?_)
          refine lv_goto (tgt := 7) hx hb dX8_isWell_31 (by decide) ?_
          exact ih_6 (i_1 + 1) _ (by omega) (by omega) rfl (fnd_succ_none hv (by simp [c_9, c_12] <;> omega)) ls (lv_sub hl [0, 1] rfl)
        · have d_12 : 3 < ldM (f 0) cn (i_1) := Nat.not_le.mp c_12
          refine lv_iconst (v := nI (0)) hx hb dX8_isWell_26 gc_0 ?_
          exact g_zretW (v := nI (0)) hx hb hr hlk rfl hS dX8_isWell_27 (by rw [iwM, fnd_stop hv (by simp [c_12] <;> omega) jn (by omega)]; exact ⟨rfl, hP⟩)
  exact LP_4 (jn + 1) 0 _ (by omega) (by omega) rfl rfl ls (lv_sub hl [0, 1] rfl)

set_option maxHeartbeats 1000000 in
set_option maxRecDepth 100000 in
theorem c_X8_undo (l : Launch) (D : va_G) (cA : Nat → ClassId) (A : Nat → Nat) (x : Nat → Int32) (f : Nat → Nat → Int32) (ch : Nat) (hA : mInj A) (hch : x 1 = nI ch) (hc8 : ch ≤ 8) : Met l yX8_undo (gw yX8_undo cX8_undo 1 (some .int)) ({ frames := 1, cells := 0, slots := 0, locals := 24 } : Room) (gPc [.ref (A 0)] (fun H => va_P D vwCl (mw cA A x f) H) D cA) (wrI (fun r H => r = (udM x f ch).1 ∧ va_P D vwCl (mw cA A (udM x f ch).2.1 (udM x f ch).2.2) H) (MA A)) 0 0 (MA A) := by
  refine gOf (by decide) (Nat.le_of_ble_eq_true rfl) ?_
  intro p e s m below meth c ls hx hb hml hr hlk hown hts hnm hP hK hl
  have hl : lv_has ls 1 [(0, .ref (A 0))] := hl
  have hD : va_D (MA A) (mw cA A x f) := mD hA
  have hS : va_S (MA A) s.heap s.heap [] := va_S.rf
  refine lv_aload_n hx hb dX8_undo_0 rfl (lv_at hl 0 rfl) ?_
  refine lv_aload_n hx hb dX8_undo_1 rfl (lv_at hl 0 rfl) ?_
  refine g_get (v := .int (x 1)) hx hb hts hown hK hP 0 rfl rfl gu_wsX80 5 (by decide) gm_9_16 rfl dX8_undo_2 ?_
  refine g_top hch ?_
  refine g_if_ne (P := ch = 0) (tgt := 12) hx hb dX8_undo_5 (by decide) (nI_z (a := ch) (by omega)) (fun c_1 => ?_) (fun c_1 => ?_)
  · refine lv_iconst (v := nI (0)) hx hb dX8_undo_12 gc_0 ?_
    refine wr_calli (va_runV (As := [.int (nI (0))]) (rest := []) ⟨hx, hb, hml, hown, hts⟩ (c_X8_fails l D cA A (x) (f) (0)  hA (by decide)) (cwV 1 hts (gWV gm_8_23 gm_9_0 gm_9_1 gm_1_5 gm_9_2) rfl rfl rfl (by decide +kernel) ⟨Nat.le_of_ble_eq_true rfl, Nat.le_of_ble_eq_true rfl⟩) (gPreV hK (g_rf hK hP (ci := 10) (q0 := 0) rfl rfl) hP) rfl rfl hl.1 rfl (lv_room (Nat.le_of_ble_eq_true rfl)) dX8_undo_13 ⟨by omega, by omega⟩) hS (fun q _ h => h) (fun q h => h) (fun r H locs hw9 hz9 hk9 hS => ?_)
    obtain ⟨rfl, hP⟩ := hw9
    have hP : va_P D vwCl (mw cA A (upd (upd (x) 3 (nI (0))) 4 (nI (0))) (f)) H := hP
    have hD : va_D (MA A) (mw cA A (upd (upd (x) 3 (nI (0))) 4 (nI (0))) (f)) := mD hA
    refine g_if_eq (P := false = false) (tgt := 21) hx hb dX8_undo_16 (by decide) b2i_0 (fun c_2 => ?_) (fun c_2 => ?_)
    · refine lv_aload_n hx hb dX8_undo_21 rfl (lv_at hl 0 rfl) ?_
      refine lv_dup hx hb dX8_undo_22 rfl ?_
      refine g_get (v := .int (x 1)) hx hb hts hown hK hP 0 rfl rfl gu_wsX80 5 (by decide) gm_9_16 rfl dX8_undo_23 ?_
      refine g_top hch ?_
      refine lv_iconst (v := nI (1)) hx hb dX8_undo_26 gc_1 ?_
      refine g_isub hx hb (by omega) dX8_undo_27 ?_
      refine g_put (ws' := mw cA A (upd (upd (upd (x) 1 (nI (ch - 1))) 3 (nI (0))) 4 (nI (0))) (f)) hx hb hts hown hK hP hD hS 0 rfl rfl gu_wsX80 tyX8_ok nmX8 5 (by decide) gm_9_16 rfl rfl rfl (Nat.le_of_ble_eq_true rfl) rfl dX8_undo_28 (fun H locs hP hD hS => ?_)
      refine lv_aload_n hx hb dX8_undo_31 rfl (lv_at hl 0 rfl) ?_
      refine g_get (v := .ref (A 2)) hx hb hts hown hK hP 0 rfl rfl gu_wsX80 1 (by decide) gm_5_15 rfl dX8_undo_32 ?_
      refine lv_bipush (v := nI (124)) hx hb dX8_undo_35 gb_124 ?_
      refine lv_aload_n hx hb dX8_undo_37 rfl (lv_at hl 0 rfl) ?_
      refine g_get (v := .int (nI (ch - 1))) hx hb hts hown hK hP 0 rfl rfl gu_wsX80 5 (by decide) gm_9_16 rfl dX8_undo_38 ?_
      refine g_imul hx hb dX8_undo_41 ?_
      refine lv_aload_n hx hb dX8_undo_42 rfl (lv_at hl 0 rfl) ?_
      refine g_get (v := .ref (A 1)) hx hb hts hown hK hP 0 rfl rfl gu_wsX80 0 (by decide) gm_5_14 rfl dX8_undo_43 ?_
      refine lv_iconst (v := nI (0)) hx hb dX8_undo_46 gc_0 ?_
      refine wr_callv (va_runS (As := [.ref (A 2), .int (nI ((124) * (ch - 1))), .ref (A 1), .int (nI (0))]) (rest := []) ⟨hx, hb, hml, hown, hts⟩ (c_X8_copies_10 l D cA A (upd (upd (upd (x) 1 (nI (ch - 1))) 3 (nI (0))) 4 (nI (0))) (f) ((124) * (ch - 1)) (0) hA (by omega) (by omega)) (cwS 4 hts (gWS gm_9_17 gm_9_18 gm_1_5 gm_9_19) rfl rfl rfl (by decide +kernel) ⟨Nat.le_of_ble_eq_true rfl, Nat.le_of_ble_eq_true rfl⟩) (gPreS hK hP) rfl rfl hl.1 rfl (lv_room (Nat.le_of_ble_eq_true rfl)) dX8_undo_47 ⟨by omega, by omega⟩) hS (fun q _ h => h) (fun q h => h) (fun H locs hP hz9 hk9 hS => ?_)
      have hP : va_P D vwCl (mw cA A (upd (upd (upd (x) 1 (nI (ch - 1))) 3 (nI (0))) 4 (nI (0))) (va_up (f) 0 (fb_put (f 0) (fun k => f 1 (((124) * (ch - 1)) + k)) (0) 124))) H := hP
      have hD : va_D (MA A) (mw cA A (upd (upd (upd (x) 1 (nI (ch - 1))) 3 (nI (0))) 4 (nI (0))) (va_up (f) 0 (fb_put (f 0) (fun k => f 1 (((124) * (ch - 1)) + k)) (0) 124))) := mD hA
      refine lv_aload_n hx hb dX8_undo_50 rfl (lv_at hl 0 rfl) ?_
      refine g_get (v := .int (nI (ch - 1))) hx hb hts hown hK hP 0 rfl rfl gu_wsX80 5 (by decide) gm_9_16 rfl dX8_undo_51 ?_
      exact g_iretW (v := nI (ch - 1)) hx hb hr hlk hS dX8_undo_54 (by rw [udM, if_neg c_1]; exact ⟨rfl, hP⟩)
    · exact absurd c_2 (by decide)
  · refine lv_iconst (v := nI (1)) hx hb dX8_undo_8 gc_1 ?_
    refine lv_goto (tgt := 13) hx hb dX8_undo_9 (by decide) ?_
    refine wr_calli (va_runV (As := [.int (nI (1))]) (rest := []) ⟨hx, hb, hml, hown, hts⟩ (c_X8_fails l D cA A (x) (f) (1)  hA (by decide)) (cwV 1 hts (gWV gm_8_23 gm_9_0 gm_9_1 gm_1_5 gm_9_2) rfl rfl rfl (by decide +kernel) ⟨Nat.le_of_ble_eq_true rfl, Nat.le_of_ble_eq_true rfl⟩) (gPreV hK (g_rf hK hP (ci := 10) (q0 := 0) rfl rfl) hP) rfl rfl hl.1 rfl (lv_room (Nat.le_of_ble_eq_true rfl)) dX8_undo_13 ⟨by omega, by omega⟩) hS (fun q _ h => h) (fun q h => h) (fun r H locs hw9 hz9 hk9 hS => ?_)
    obtain ⟨rfl, hP⟩ := hw9
    have hP : va_P D vwCl (mw cA A (upd (upd (x) 3 (nI (0))) 4 (nI (1))) (f)) H := hP
    have hD : va_D (MA A) (mw cA A (upd (upd (x) 3 (nI (0))) 4 (nI (1))) (f)) := mD hA
    refine g_if_eq (P := true = false) (tgt := 21) hx hb dX8_undo_16 (by decide) b2i_0 (fun c_3 => ?_) (fun c_3 => ?_)
    · exact absurd c_3 (by decide)
    · have c_3 : true = true := eq_true_of_ne_false c_3
      refine lv_iconst (v := nI (0)) hx hb dX8_undo_19 gc_0 ?_
      exact g_iretW (v := nI (0)) hx hb hr hlk hS dX8_undo_20 (by rw [udM, if_pos c_1]; exact ⟨rfl, hP⟩)

set_option maxHeartbeats 1000000 in
set_option maxRecDepth 100000 in
theorem c_X8_save (l : Launch) (D : va_G) (cA : Nat → ClassId) (A : Nat → Nat) (x : Nat → Int32) (f : Nat → Nat → Int32) (cn : Nat) (hA : mInj A) (hc : f 0 1 = nI cn) (hcn : cn ≤ 10) : Met l yX8_save (gw yX8_save cX8_save 1 (some .int)) ({ frames := 1, cells := 0, slots := 0, locals := 24 } : Room) (gPc [.ref (A 0)] (fun H => va_P D vwCl (mw cA A x f) H) D cA) (wrI (fun r H => r = nI cn ∧ va_P D vwCl (mw cA A (upd (upd x 0 (nI 1)) 4 (nI 0)) (va_up f 2 (fb_put (f 2) (fun k => f 0 ((0) + k)) (0) 124))) H) (MA A)) 0 0 (MA A) := by
  refine gOf (by decide) (Nat.le_of_ble_eq_true rfl) ?_
  intro p e s m below meth c ls hx hb hml hr hlk hown hts hnm hP hK hl
  have hl : lv_has ls 1 [(0, .ref (A 0))] := hl
  have hD : va_D (MA A) (mw cA A x f) := mD hA
  have hS : va_S (MA A) s.heap s.heap [] := va_S.rf
  refine lv_aload_n hx hb dX8_save_0 rfl (lv_at hl 0 rfl) ?_
  refine lv_iconst (v := nI (0)) hx hb dX8_save_1 gc_0 ?_
  refine g_put (ws' := mw cA A (upd (x) 4 (nI (0))) (f)) hx hb hts hown hK hP hD hS 0 rfl rfl gu_wsX80 tyX8_ok nmX8 8 (by decide) gm_9_3 rfl rfl rfl (Nat.le_of_ble_eq_true rfl) rfl dX8_save_2 (fun H locs hP hD hS => ?_)
  refine lv_aload_n hx hb dX8_save_5 rfl (lv_at hl 0 rfl) ?_
  refine lv_iconst (v := nI (1)) hx hb dX8_save_6 gc_1 ?_
  refine g_put (ws' := mw cA A (upd (upd (x) 0 (nI (1))) 4 (nI (0))) (f)) hx hb hts hown hK hP hD hS 0 rfl rfl gu_wsX80 tyX8_ok nmX8 4 (by decide) gm_53_13 rfl rfl rfl (Nat.le_of_ble_eq_true rfl) rfl dX8_save_7 (fun H locs hP hD hS => ?_)
  refine lv_aload_n hx hb dX8_save_10 rfl (lv_at hl 0 rfl) ?_
  refine g_get (v := .ref (A 1)) hx hb hts hown hK hP 0 rfl rfl gu_wsX80 0 (by decide) gm_5_14 rfl dX8_save_11 ?_
  refine lv_iconst (v := nI (0)) hx hb dX8_save_14 gc_0 ?_
  refine lv_aload_n hx hb dX8_save_15 rfl (lv_at hl 0 rfl) ?_
  refine g_get (v := .ref (A 3)) hx hb hts hown hK hP 0 rfl rfl gu_wsX80 2 (by decide) gm_5_16 rfl dX8_save_16 ?_
  refine lv_iconst (v := nI (0)) hx hb dX8_save_19 gc_0 ?_
  refine wr_callv (va_runS (As := [.ref (A 1), .int (nI (0)), .ref (A 3), .int (nI (0))]) (rest := []) ⟨hx, hb, hml, hown, hts⟩ (c_X8_copies_02 l D cA A (upd (upd (x) 0 (nI (1))) 4 (nI (0))) (f) (0) (0) hA (by omega) (by omega)) (cwS 4 hts (gWS gm_9_17 gm_9_18 gm_1_5 gm_9_19) rfl rfl rfl (by decide +kernel) ⟨Nat.le_of_ble_eq_true rfl, Nat.le_of_ble_eq_true rfl⟩) (gPreS hK hP) rfl rfl hl.1 rfl (lv_room (Nat.le_of_ble_eq_true rfl)) dX8_save_20 ⟨by omega, by omega⟩) hS (fun q _ h => h) (fun q h => h) (fun H locs hP hz9 hk9 hS => ?_)
  have hP : va_P D vwCl (mw cA A (upd (upd (x) 0 (nI (1))) 4 (nI (0))) (va_up (f) 2 (fb_put (f 2) (fun k => f 0 ((0) + k)) (0) 124))) H := hP
  have hD : va_D (MA A) (mw cA A (upd (upd (x) 0 (nI (1))) 4 (nI (0))) (va_up (f) 2 (fb_put (f 2) (fun k => f 0 ((0) + k)) (0) 124))) := mD hA
  refine lv_aload_n hx hb dX8_save_23 rfl (lv_at hl 0 rfl) ?_
  refine g_get (v := .ref (A 1)) hx hb hts hown hK hP 0 rfl rfl gu_wsX80 0 (by decide) gm_5_14 rfl dX8_save_24 ?_
  refine lv_iconst (v := nI (1)) hx hb dX8_save_27 gc_1 ?_
  refine g_iald (x := nI (cn)) hx hb hK hP 1 rfl (by omega) (by decide) hc dX8_save_28 ?_
  exact g_iretW (v := nI (cn)) hx hb hr hlk hS dX8_save_29 (⟨rfl, hP⟩)

set_option maxHeartbeats 1000000 in
set_option maxRecDepth 100000 in
theorem c_X8_restore (l : Launch) (D : va_G) (cA : Nat → ClassId) (A : Nat → Nat) (x : Nat → Int32) (f : Nat → Nat → Int32) (sv : Bool) (hA : mInj A) (hsv : x 0 = b2i sv) : Met l yX8_restore (gw yX8_restore cX8_restore 1 (some .int)) ({ frames := 1, cells := 0, slots := 0, locals := 24 } : Room) (gPc [.ref (A 0)] (fun H => va_P D vwCl (mw cA A x f) H) D cA) (wrI (fun r H => r = (reM x f sv).1 ∧ va_P D vwCl (mw cA A (reM x f sv).2.1 (reM x f sv).2.2) H) (MA A)) 0 0 (MA A) := by
  refine gOf (by decide) (Nat.le_of_ble_eq_true rfl) ?_
  intro p e s m below meth c ls hx hb hml hr hlk hown hts hnm hP hK hl
  have hl : lv_has ls 1 [(0, .ref (A 0))] := hl
  have hD : va_D (MA A) (mw cA A x f) := mD hA
  have hS : va_S (MA A) s.heap s.heap [] := va_S.rf
  refine lv_aload_n hx hb dX8_restore_0 rfl (lv_at hl 0 rfl) ?_
  refine lv_aload_n hx hb dX8_restore_1 rfl (lv_at hl 0 rfl) ?_
  refine g_get (v := .int (x 0)) hx hb hts hown hK hP 0 rfl rfl gu_wsX80 4 (by decide) gm_53_13 rfl dX8_restore_2 ?_
  refine g_top hsv ?_
  refine g_if_eq (P := sv = false) (tgt := 12) hx hb dX8_restore_5 (by decide) b2i_0 (fun c_1 => ?_) (fun c_1 => ?_)
  · refine lv_iconst (v := nI (1)) hx hb dX8_restore_12 gc_1 ?_
    refine wr_calli (va_runV (As := [.int (nI (1))]) (rest := []) ⟨hx, hb, hml, hown, hts⟩ (c_X8_fails l D cA A (x) (f) (1)  hA (by decide)) (cwV 1 hts (gWV gm_8_23 gm_9_0 gm_9_1 gm_1_5 gm_9_2) rfl rfl rfl (by decide +kernel) ⟨Nat.le_of_ble_eq_true rfl, Nat.le_of_ble_eq_true rfl⟩) (gPreV hK (g_rf hK hP (ci := 10) (q0 := 0) rfl rfl) hP) rfl rfl hl.1 rfl (lv_room (Nat.le_of_ble_eq_true rfl)) dX8_restore_13 ⟨by omega, by omega⟩) hS (fun q _ h => h) (fun q h => h) (fun r H locs hw9 hz9 hk9 hS => ?_)
    obtain ⟨rfl, hP⟩ := hw9
    have hP : va_P D vwCl (mw cA A (upd (upd (x) 3 (nI (0))) 4 (nI (1))) (f)) H := hP
    have hD : va_D (MA A) (mw cA A (upd (upd (x) 3 (nI (0))) 4 (nI (1))) (f)) := mD hA
    refine g_if_eq (P := true = false) (tgt := 21) hx hb dX8_restore_16 (by decide) b2i_0 (fun c_2 => ?_) (fun c_2 => ?_)
    · exact absurd c_2 (by decide)
    · have c_2 : true = true := eq_true_of_ne_false c_2
      refine lv_iconst (v := nI (0)) hx hb dX8_restore_19 gc_0 ?_
      exact g_iretW (v := nI (0)) hx hb hr hlk hS dX8_restore_20 (by rw [reM, if_neg (bnt c_1)]; exact ⟨rfl, hP⟩)
  · have c_1 : sv = true := eq_true_of_ne_false c_1
    refine lv_iconst (v := nI (0)) hx hb dX8_restore_8 gc_0 ?_
    refine lv_goto (tgt := 13) hx hb dX8_restore_9 (by decide) ?_
    refine wr_calli (va_runV (As := [.int (nI (0))]) (rest := []) ⟨hx, hb, hml, hown, hts⟩ (c_X8_fails l D cA A (x) (f) (0)  hA (by decide)) (cwV 1 hts (gWV gm_8_23 gm_9_0 gm_9_1 gm_1_5 gm_9_2) rfl rfl rfl (by decide +kernel) ⟨Nat.le_of_ble_eq_true rfl, Nat.le_of_ble_eq_true rfl⟩) (gPreV hK (g_rf hK hP (ci := 10) (q0 := 0) rfl rfl) hP) rfl rfl hl.1 rfl (lv_room (Nat.le_of_ble_eq_true rfl)) dX8_restore_13 ⟨by omega, by omega⟩) hS (fun q _ h => h) (fun q h => h) (fun r H locs hw9 hz9 hk9 hS => ?_)
    obtain ⟨rfl, hP⟩ := hw9
    have hP : va_P D vwCl (mw cA A (upd (upd (x) 3 (nI (0))) 4 (nI (0))) (f)) H := hP
    have hD : va_D (MA A) (mw cA A (upd (upd (x) 3 (nI (0))) 4 (nI (0))) (f)) := mD hA
    refine g_if_eq (P := false = false) (tgt := 21) hx hb dX8_restore_16 (by decide) b2i_0 (fun c_3 => ?_) (fun c_3 => ?_)
    · refine lv_aload_n hx hb dX8_restore_21 rfl (lv_at hl 0 rfl) ?_
      refine g_get (v := .ref (A 3)) hx hb hts hown hK hP 0 rfl rfl gu_wsX80 2 (by decide) gm_5_16 rfl dX8_restore_22 ?_
      refine lv_iconst (v := nI (0)) hx hb dX8_restore_25 gc_0 ?_
      refine lv_aload_n hx hb dX8_restore_26 rfl (lv_at hl 0 rfl) ?_
      refine g_get (v := .ref (A 1)) hx hb hts hown hK hP 0 rfl rfl gu_wsX80 0 (by decide) gm_5_14 rfl dX8_restore_27 ?_
      refine lv_iconst (v := nI (0)) hx hb dX8_restore_30 gc_0 ?_
      refine wr_callv (va_runS (As := [.ref (A 3), .int (nI (0)), .ref (A 1), .int (nI (0))]) (rest := []) ⟨hx, hb, hml, hown, hts⟩ (c_X8_copies_20 l D cA A (upd (upd (x) 3 (nI (0))) 4 (nI (0))) (f) (0) (0) hA (by omega) (by omega)) (cwS 4 hts (gWS gm_9_17 gm_9_18 gm_1_5 gm_9_19) rfl rfl rfl (by decide +kernel) ⟨Nat.le_of_ble_eq_true rfl, Nat.le_of_ble_eq_true rfl⟩) (gPreS hK hP) rfl rfl hl.1 rfl (lv_room (Nat.le_of_ble_eq_true rfl)) dX8_restore_31 ⟨by omega, by omega⟩) hS (fun q _ h => h) (fun q h => h) (fun H locs hP hz9 hk9 hS => ?_)
      have hP : va_P D vwCl (mw cA A (upd (upd (x) 3 (nI (0))) 4 (nI (0))) (va_up (f) 0 (fb_put (f 0) (fun k => f 2 ((0) + k)) (0) 124))) H := hP
      have hD : va_D (MA A) (mw cA A (upd (upd (x) 3 (nI (0))) 4 (nI (0))) (va_up (f) 0 (fb_put (f 0) (fun k => f 2 ((0) + k)) (0) 124))) := mD hA
      refine lv_aload_n hx hb dX8_restore_34 rfl (lv_at hl 0 rfl) ?_
      refine lv_iconst (v := nI (0)) hx hb dX8_restore_35 gc_0 ?_
      refine g_put (ws' := mw cA A (upd (upd (upd (x) 1 (nI (0))) 3 (nI (0))) 4 (nI (0))) (va_up (f) 0 (fb_put (f 0) (fun k => f 2 ((0) + k)) (0) 124))) hx hb hts hown hK hP hD hS 0 rfl rfl gu_wsX80 tyX8_ok nmX8 5 (by decide) gm_9_16 rfl rfl rfl (Nat.le_of_ble_eq_true rfl) rfl dX8_restore_36 (fun H locs hP hD hS => ?_)
      refine lv_aload_n hx hb dX8_restore_39 rfl (lv_at hl 0 rfl) ?_
      refine g_get (v := .ref (A 1)) hx hb hts hown hK hP 0 rfl rfl gu_wsX80 0 (by decide) gm_5_14 rfl dX8_restore_40 ?_
      refine lv_iconst (v := nI (1)) hx hb dX8_restore_43 gc_1 ?_
      refine g_iald (x := fb_put (f 0) (fun k => f 2 ((0) + k)) (0) 124 (1)) hx hb hK hP 1 rfl (by omega) (by decide) rfl dX8_restore_44 ?_
      exact g_iretW (v := fb_put (f 0) (fun k => f 2 ((0) + k)) (0) 124 (1)) hx hb hr hlk hS dX8_restore_45 (by rw [reM, if_pos c_1]; exact ⟨rfl, hP⟩)
    · exact absurd c_3 (by decide)

set_option maxHeartbeats 1000000 in
set_option maxRecDepth 100000 in
theorem c_X8_append (l : Launch) (D : va_G) (cA : Nat → ClassId) (A : Nat → Nat) (x : Nat → Int32) (f : Nat → Nat → Int32) (v : Int32) (ln : Nat) (hA : mInj A) (hln : x 7 = nI ln) (hl6 : ln ≤ 60) : Met l yX8_append (gw yX8_append cX8_append 2 (some .int)) ({ frames := 1, cells := 0, slots := 0, locals := 21 } : Room) (gPc [.ref (A 0), .int (v)] (fun H => va_P D vwCl (mw cA A x f) H) D cA) (wrI (fun r H => r = (apO x f ln v).1 ∧ va_P D vwCl (mw cA A (apO x f ln v).2.1 (apO x f ln v).2.2) H) (MA A)) 0 0 (MA A) := by
  refine gOf (by decide) (Nat.le_of_ble_eq_true rfl) ?_
  intro p e s m below meth c ls hx hb hml hr hlk hown hts hnm hP hK hl
  have hl : lv_has ls 2 [(0, .ref (A 0)), (1, .int (v))] := hl
  have hD : va_D (MA A) (mw cA A x f) := mD hA
  have hS : va_S (MA A) s.heap s.heap [] := va_S.rf
  refine lv_aload_n hx hb dX8_append_0 rfl (lv_at hl 0 rfl) ?_
  refine lv_aload_n hx hb dX8_append_1 rfl (lv_at hl 0 rfl) ?_
  refine g_get (v := .int (x 7)) hx hb hts hown hK hP 0 rfl rfl gu_wsX80 12 (by decide) gm_39_10 rfl dX8_append_2 ?_
  refine g_top hln ?_
  refine lv_bipush (v := nI (60)) hx hb dX8_append_5 gb_60 ?_
  refine g_icmp_ne (P := ln = 60) (tgt := 14) hx hb dX8_append_7 (by decide) (nI_eq (by omega) (by omega)) (fun c_1 => ?_) (fun c_1 => ?_)
  · refine lv_iconst (v := nI (0)) hx hb dX8_append_14 gc_0 ?_
    refine wr_calli (va_runV (As := [.int (nI (0))]) (rest := []) ⟨hx, hb, hml, hown, hts⟩ (c_X8_fails l D cA A (x) (f) (0)  hA (by decide)) (cwV 1 hts (gWV gm_8_23 gm_9_0 gm_9_1 gm_1_5 gm_9_2) rfl rfl rfl (by decide +kernel) ⟨Nat.le_of_ble_eq_true rfl, Nat.le_of_ble_eq_true rfl⟩) (gPreV hK (g_rf hK hP (ci := 10) (q0 := 0) rfl rfl) hP) rfl rfl hl.1 rfl (lv_room (Nat.le_of_ble_eq_true rfl)) dX8_append_15 ⟨by omega, by omega⟩) hS (fun q _ h => h) (fun q h => h) (fun r H locs hw9 hz9 hk9 hS => ?_)
    obtain ⟨rfl, hP⟩ := hw9
    have hP : va_P D vwCl (mw cA A (upd (upd (x) 3 (nI (0))) 4 (nI (0))) (f)) H := hP
    have hD : va_D (MA A) (mw cA A (upd (upd (x) 3 (nI (0))) 4 (nI (0))) (f)) := mD hA
    refine g_if_eq (P := false = false) (tgt := 23) hx hb dX8_append_18 (by decide) b2i_0 (fun c_2 => ?_) (fun c_2 => ?_)
    · refine lv_aload_n hx hb dX8_append_23 rfl (lv_at hl 0 rfl) ?_
      refine g_get (v := .ref (A 5)) hx hb hts hown hK hP 0 rfl rfl gu_wsX80 11 (by decide) gm_5_18 rfl dX8_append_24 ?_
      refine lv_aload_n hx hb dX8_append_27 rfl (lv_at hl 0 rfl) ?_
      refine g_get (v := .int (x 7)) hx hb hts hown hK hP 0 rfl rfl gu_wsX80 12 (by decide) gm_39_10 rfl dX8_append_28 ?_
      refine g_top hln ?_
      refine lv_iload_n hx hb dX8_append_31 rfl (lv_at hl 1 rfl) ?_
      refine g_iast (ws' := mw cA A (upd (upd (x) 3 (nI (0))) 4 (nI (0))) (va_up (f) 4 (upd (f 4) (ln) (v)))) hx hb hK hP hD hS 5 rfl (by omega) (by decide) rfl dX8_append_32 (fun H locs hP hD hS => ?_)
      refine lv_aload_n hx hb dX8_append_33 rfl (lv_at hl 0 rfl) ?_
      refine lv_dup hx hb dX8_append_34 rfl ?_
      refine g_get (v := .int (x 7)) hx hb hts hown hK hP 0 rfl rfl gu_wsX80 12 (by decide) gm_39_10 rfl dX8_append_35 ?_
      refine g_top hln ?_
      refine lv_iconst (v := nI (1)) hx hb dX8_append_38 gc_1 ?_
      refine g_iadd hx hb dX8_append_39 ?_
      refine g_put (ws' := mw cA A (upd (upd (upd (x) 3 (nI (0))) 4 (nI (0))) 7 (nI (ln + 1))) (va_up (f) 4 (upd (f 4) (ln) (v)))) hx hb hts hown hK hP hD hS 0 rfl rfl gu_wsX80 tyX8_ok nmX8 12 (by decide) gm_39_10 rfl rfl rfl (Nat.le_of_ble_eq_true rfl) rfl dX8_append_40 (fun H locs hP hD hS => ?_)
      refine lv_aload_n hx hb dX8_append_43 rfl (lv_at hl 0 rfl) ?_
      refine g_get (v := .int (nI (ln + 1))) hx hb hts hown hK hP 0 rfl rfl gu_wsX80 12 (by decide) gm_39_10 rfl dX8_append_44 ?_
      exact g_iretW (v := nI (ln + 1)) hx hb hr hlk hS dX8_append_47 (by rw [apO, if_neg c_1]; exact ⟨rfl, hP⟩)
    · exact absurd c_2 (by decide)
  · refine lv_iconst (v := nI (1)) hx hb dX8_append_10 gc_1 ?_
    refine lv_goto (tgt := 15) hx hb dX8_append_11 (by decide) ?_
    refine wr_calli (va_runV (As := [.int (nI (1))]) (rest := []) ⟨hx, hb, hml, hown, hts⟩ (c_X8_fails l D cA A (x) (f) (1)  hA (by decide)) (cwV 1 hts (gWV gm_8_23 gm_9_0 gm_9_1 gm_1_5 gm_9_2) rfl rfl rfl (by decide +kernel) ⟨Nat.le_of_ble_eq_true rfl, Nat.le_of_ble_eq_true rfl⟩) (gPreV hK (g_rf hK hP (ci := 10) (q0 := 0) rfl rfl) hP) rfl rfl hl.1 rfl (lv_room (Nat.le_of_ble_eq_true rfl)) dX8_append_15 ⟨by omega, by omega⟩) hS (fun q _ h => h) (fun q h => h) (fun r H locs hw9 hz9 hk9 hS => ?_)
    obtain ⟨rfl, hP⟩ := hw9
    have hP : va_P D vwCl (mw cA A (upd (upd (x) 3 (nI (0))) 4 (nI (1))) (f)) H := hP
    have hD : va_D (MA A) (mw cA A (upd (upd (x) 3 (nI (0))) 4 (nI (1))) (f)) := mD hA
    refine g_if_eq (P := true = false) (tgt := 23) hx hb dX8_append_18 (by decide) b2i_0 (fun c_3 => ?_) (fun c_3 => ?_)
    · exact absurd c_3 (by decide)
    · have c_3 : true = true := eq_true_of_ne_false c_3
      refine lv_iconst (v := nI (0)) hx hb dX8_append_21 gc_0 ?_
      exact g_iretW (v := nI (0)) hx hb hr hlk hS dX8_append_22 (by rw [apO, if_pos c_1]; exact ⟨rfl, hP⟩)

