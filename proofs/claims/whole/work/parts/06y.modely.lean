theorem fnd_some {p : Nat → Bool} {k : Nat} : ∀ {n : Nat}, fnd p n = some k → p k = true ∧ ∀ i, i < k → p i = false
  | 0, h => by simp [fnd] at h
  | n + 1, h => by
    cases e : fnd p n with
    | some z =>
      simp [fnd, e] at h
      subst h
      exact fnd_some e
    | none =>
      by_cases q : p n = true
      · simp [fnd, e, q] at h
        subst h
        refine ⟨q, fun i hi => ?_⟩
        exact fnd_no e i hi
      · simp [fnd, e, q] at h
where fnd_no {p : Nat → Bool} : ∀ {n : Nat}, fnd p n = none → ∀ i, i < n → p i = false
  | 0, _, i, hi => absurd hi (Nat.not_lt_zero i)
  | n + 1, h, i, hi => by
    cases e : fnd p n with
    | some z => simp [fnd, e] at h
    | none =>
      by_cases q : p n = true
      · simp [fnd, e, q] at h
      · rcases Nat.lt_or_ge i n with r | r
        · exact fnd_no e i r
        · have : i = n := by omega
          subst this
          simpa using q
def lowM (s : Int32) : Nat := (fnd (hs s) 9).getD 0
def usG (g l d : Nat → Int32) (jn q : Nat) : Nat → Int32 := tmS (tkS (gof g q 2) (gof g q 0) (lmS g l d jn).2 (lmS g l d jn).1 jn).2 (lmS g l d jn).2 g jn
def usG3 (g l d : Nat → Int32) (jn q : Nat) : Nat → Int32 := upd (upd (usG g l d jn q) (44 + 8 * q + 3) (nI 0)) (44 + 8 * q + 4) (-1)
def usG5 (g l d : Nat → Int32) (jn q : Nat) : Nat → Int32 := upd (upd (usG3 g l d jn q) (44 + 8 * q + 6) (gof (usG3 g l d jn q) q 6 + nI 1)) 5 (upd (usG3 g l d jn q) (44 + 8 * q + 6) (gof (usG3 g l d jn q) q 6 + nI 1) 5 + nI 1)
def usM (x : Nat → Int32) (f : Nat → Nat → Int32) (jn cn : Nat) (w : Bool) (ch : Nat) (v : Int32) : Int32 × MX := if isIx v cn = true then (if gof (f 0) v.toNatClampNeg 3 = 0 then (nI 0, (refX x 2 (nI 5) (gof (f 0) v.toNatClampNeg 6), f)) else (if clM (f 0) v.toNatClampNeg = true then (nI 0, (refX x 2 (nI 6) (gof (f 0) v.toNatClampNeg 5), f)) else ((tkS (gof (f 0) v.toNatClampNeg 2) (gof (f 0) v.toNatClampNeg 0) (lmS (f 0) (f 6) (f 7) jn).2 (lmS (f 0) (f 6) (f 7) jn).1 jn).1, (kpX x w ch, va_up (va_up (va_up (va_up f 0 (usG5 (f 0) (f 6) (f 7) jn v.toNatClampNeg)) 1 (kpK w (f 0) (f 1) ch)) 6 ((tkS (gof (f 0) v.toNatClampNeg 2) (gof (f 0) v.toNatClampNeg 0) (lmS (f 0) (f 6) (f 7) jn).2 (lmS (f 0) (f 6) (f 7) jn).1 jn).2)) 7 ((lmS (f 0) (f 6) (f 7) jn).2))))) else (nI 0, (failX x 1, f))
def clP (g : Nat → Int32) (jn cn : Nat) : Int32 := ((nI 1 <<< (oI (cldM g jn cn (nI 0) (nI 0)) &&& 31)) ||| (nI 1 <<< (oI (cldM g jn cn (nI 0) (nI 1)) &&& 31))) ||| (nI 1 <<< (oI (cldM g jn cn (nI 0) (nI 2)) &&& 31))
def caM (x : Nat → Int32) (f : Nat → Nat → Int32) (jn cn : Nat) (w : Bool) (ch : Nat) (v : Int32) : Int32 × MX := if isIx v cn = true then (if gof (f 0) v.toNatClampNeg 2 = 0 then (if 3 ≤ cbM (f 0) jn cn (nI 0) then (clP (f 0) jn cn, (kpX x w ch, va_up (va_up f 0 (upd (f 0) (44 + 8 * v.toNatClampNeg + 2) (clP (f 0) jn cn))) 1 (kpK w (f 0) (f 1) ch))) else (nI 0, (refX x 2 (nI 3) (nI (cbM (f 0) jn cn (nI 0))), f))) else (nI 0, (refX x 2 (nI 2) (nI (ldM (f 0) cn (lowM (gof (f 0) v.toNatClampNeg 2)))), f))) else (nI 0, (failX x 1, f))
def apP (g : Nat → Int32) (jn cn : Nat) (panel : Int32) : Int32 := (panel ^^^ (nI 1 <<< (oI (dbM g jn panel) &&& 31))) ^^^ (nI 1 <<< (oI (cldM g jn cn panel (nI 0)) &&& 31))
def apG1 (g : Nat → Int32) (jn cn q : Nat) : Nat → Int32 := upd g (44 + 8 * q + 2) (apP g jn cn (gof g q 2))
def apG2 (g l d : Nat → Int32) (jn cn q : Nat) : Nat → Int32 := sy5 (apG1 g jn cn q) l d jn q
def apG3 (g l d : Nat → Int32) (jn cn q : Nat) : Nat → Int32 := upd (apG2 g l d jn cn q) (44 + 8 * q + 1) (wi (gof (apG2 g l d jn cn q) q 1 + nI 3) (nI 0) (nI 99))
def apG4 (g l d : Nat → Int32) (jn cn q : Nat) : Nat → Int32 := upd (apG3 g l d jn cn q) (44 + 8 * q + 7) (gof (apG3 g l d jn cn q) q 7 + nI 1)
def apG5 (g l d : Nat → Int32) (jn cn q : Nat) : Nat → Int32 := upd (apG4 g l d jn cn q) 6 (apG4 g l d jn cn q 6 + nI 1)
def apM (x : Nat → Int32) (f : Nat → Nat → Int32) (jn cn : Nat) (w : Bool) (ch : Nat) (v : Int32) : Int32 × MX := if isIx v cn = true then (if gof (f 0) v.toNatClampNeg 3 = 0 then (nI 0, (refX x 2 (nI 5) (gof (f 0) v.toNatClampNeg 6), f)) else (if clM (f 0) v.toNatClampNeg = true then (nI 0, (refX x 2 (nI 6) (gof (f 0) v.toNatClampNeg 5), f)) else (if gof (f 0) v.toNatClampNeg 7 = nI 2 then (nI 0, (refX x 2 (nI 7) (gof (f 0) v.toNatClampNeg 3), f)) else (if 1 ≤ cbM (f 0) jn cn (gof (f 0) v.toNatClampNeg 2) then (nI (syV (apG1 (f 0) jn cn v.toNatClampNeg) (f 6) (f 7) jn v.toNatClampNeg), (kpX x w ch, va_up (va_up (va_up (va_up f 0 (apG5 (f 0) (f 6) (f 7) jn cn v.toNatClampNeg)) 1 (kpK w (f 0) (f 1) ch)) 6 ((lmS (apG1 (f 0) jn cn v.toNatClampNeg) (f 6) (f 7) jn).1)) 7 (syD (apG1 (f 0) jn cn v.toNatClampNeg) (f 6) (f 7) jn v.toNatClampNeg))) else (nI 0, (refX x 2 (nI 3) (nI 0), f)))))) else (nI 0, (failX x 1, f))

set_option maxHeartbeats 1000000 in
set_option maxRecDepth 100000 in
theorem c_X8_unsay (l : Launch) (D : va_G) (cA : Nat → ClassId) (A : Nat → Nat) (x : Nat → Int32) (f : Nat → Nat → Int32) (v : Int32) (jn cn : Nat) (w : Bool) (ch : Nat) (hA : mInj A) (hj : f 0 0 = nI jn) (hjn : jn ≤ 9) (hc : f 0 1 = nI cn) (hcn : cn ≤ 10) (hw : x 2 = b2i w) (hch : x 1 = nI ch) (hc8 : ch ≤ 8) : Met l yX8_unsay (gw yX8_unsay cX8_unsay 3 (some .int)) ({ frames := 2, cells := 0, slots := 0, locals := 47 } : Room) (gPc [.ref (A 0), .int (v)] (fun H => va_P D vwCl (mw cA A x f) H) D cA) (wrI (fun r H => r = (usM x f jn cn w ch v).1 ∧ va_P D vwCl (mw cA A (usM x f jn cn w ch v).2.1 (usM x f jn cn w ch v).2.2) H) (MA A)) 0 0 (MA A) := by
  refine gOf (by decide) (Nat.le_of_ble_eq_true rfl) ?_
  intro p e s m below meth c ls hx hb hml hr hlk hown hts hnm hP hK hl
  have hl : lv_has ls 3 [(0, .ref (A 0)), (1, .int (v))] := hl
  have hD : va_D (MA A) (mw cA A x f) := mD hA
  have hS : va_S (MA A) s.heap s.heap [] := va_S.rf
  refine lv_aload_n hx hb dX8_unsay_0 rfl (lv_at hl 0 rfl) ?_
  refine lv_aload_n hx hb dX8_unsay_1 rfl (lv_at hl 0 rfl) ?_
  refine lv_iload_n hx hb dX8_unsay_2 rfl (lv_at hl 1 rfl) ?_
  refine rd_calle (va_runV (As := [.int (v)]) (rest := [.ref (A 0)]) ⟨hx, hb, hml, hown, hts⟩ (c_X8_isCase l D cA A (x) (f) (v) cn hc hcn) (cwV 1 hts (gWV gm_13_23 gm_14_0 gm_14_1 gm_1_5 gm_14_2) rfl rfl rfl (by decide +kernel) ⟨Nat.le_of_ble_eq_true rfl, Nat.le_of_ble_eq_true rfl⟩) (gPreV hK (g_rf hK hP (ci := 10) (q0 := 0) rfl rfl) hP) rfl rfl hl.1 rfl (lv_room (Nat.le_of_ble_eq_true rfl)) dX8_unsay_3 ⟨by omega, by omega⟩) ?_
  refine g_if_eq (P := isIx (v) cn = false) (tgt := 13) hx hb dX8_unsay_6 (by decide) b2i_0 (fun c_1 => ?_) (fun c_1 => ?_)
  · refine lv_iconst (v := nI (1)) hx hb dX8_unsay_13 gc_1 ?_
    refine wr_calli (va_runV (As := [.int (nI (1))]) (rest := []) ⟨hx, hb, hml, hown, hts⟩ (c_X8_fails l D cA A (x) (f) (1)  hA (by decide)) (cwV 1 hts (gWV gm_8_23 gm_9_0 gm_9_1 gm_1_5 gm_9_2) rfl rfl rfl (by decide +kernel) ⟨Nat.le_of_ble_eq_true rfl, Nat.le_of_ble_eq_true rfl⟩) (gPreV hK (g_rf hK hP (ci := 10) (q0 := 0) rfl rfl) hP) rfl rfl hl.1 rfl (lv_room (Nat.le_of_ble_eq_true rfl)) dX8_unsay_14 ⟨by omega, by omega⟩) hS (fun q _ h => h) (fun q h => h) (fun r H locs hw9 hz9 hk9 hS => ?_)
    obtain ⟨rfl, hP⟩ := hw9
    have hP : va_P D vwCl (mw cA A (upd (upd (x) 3 (nI (0))) 4 (nI (1))) (f)) H := hP
    have hD : va_D (MA A) (mw cA A (upd (upd (x) 3 (nI (0))) 4 (nI (1))) (f)) := mD hA
    refine g_if_eq (P := true = false) (tgt := 22) hx hb dX8_unsay_17 (by decide) b2i_0 (fun c_2 => ?_) (fun c_2 => ?_)
    · exact absurd c_2 (by decide)
    · have c_2 : true = true := eq_true_of_ne_false c_2
      refine lv_iconst (v := nI (0)) hx hb dX8_unsay_20 gc_0 ?_
      exact g_iretW (v := nI (0)) hx hb hr hlk hS dX8_unsay_21 (by rw [usM, if_neg (bnt c_1)]; exact ⟨rfl, hP⟩)
  · have c_1 : isIx (v) cn = true := eq_true_of_ne_false c_1
    obtain ⟨j_3, hj_5, ej_4⟩ := isIx_n c_1 (by omega)
    rw [ej_4] at hl
    have hl : lv_has ls 3 [(0, .ref (A 0)), (1, .int (nI (j_3)))] := hl
    refine lv_iconst (v := nI (0)) hx hb dX8_unsay_9 gc_0 ?_
    refine lv_goto (tgt := 14) hx hb dX8_unsay_10 (by decide) ?_
    refine wr_calli (va_runV (As := [.int (nI (0))]) (rest := []) ⟨hx, hb, hml, hown, hts⟩ (c_X8_fails l D cA A (x) (f) (0)  hA (by decide)) (cwV 1 hts (gWV gm_8_23 gm_9_0 gm_9_1 gm_1_5 gm_9_2) rfl rfl rfl (by decide +kernel) ⟨Nat.le_of_ble_eq_true rfl, Nat.le_of_ble_eq_true rfl⟩) (gPreV hK (g_rf hK hP (ci := 10) (q0 := 0) rfl rfl) hP) rfl rfl hl.1 rfl (lv_room (Nat.le_of_ble_eq_true rfl)) dX8_unsay_14 ⟨by omega, by omega⟩) hS (fun q _ h => h) (fun q h => h) (fun r H locs hw9 hz9 hk9 hS => ?_)
    obtain ⟨rfl, hP⟩ := hw9
    have hP : va_P D vwCl (mw cA A (upd (upd (x) 3 (nI (0))) 4 (nI (0))) (f)) H := hP
    have hD : va_D (MA A) (mw cA A (upd (upd (x) 3 (nI (0))) 4 (nI (0))) (f)) := mD hA
    refine g_if_eq (P := false = false) (tgt := 22) hx hb dX8_unsay_17 (by decide) b2i_0 (fun c_6 => ?_) (fun c_6 => ?_)
    · refine lv_aload_n hx hb dX8_unsay_22 rfl (lv_at hl 0 rfl) ?_
      refine lv_iload_n hx hb dX8_unsay_23 rfl (lv_at hl 1 rfl) ?_
      refine lv_iconst (v := nI (3)) hx hb dX8_unsay_24 gc_3 ?_
      refine rd_calle (va_runV (As := [.int (nI (j_3)), .int (nI (3))]) (rest := []) ⟨hx, hb, hml, hown, hts⟩ (c_X8_of l D cA A (upd (upd (x) 3 (nI (0))) 4 (nI (0))) (f) (j_3) (3) (by omega)) (cwV 2 hts (gWV gm_14_3 gm_14_4 gm_14_5 gm_1_5 gm_14_6) rfl rfl rfl (by decide +kernel) ⟨Nat.le_of_ble_eq_true rfl, Nat.le_of_ble_eq_true rfl⟩) (gPreV hK (g_rf hK hP (ci := 10) (q0 := 0) rfl rfl) hP) rfl rfl hl.1 rfl (lv_room (Nat.le_of_ble_eq_true rfl)) dX8_unsay_25 ⟨by omega, by omega⟩) ?_
      refine g_if_ne (P := gof (f 0) (j_3) (3) = 0) (tgt := 45) hx hb dX8_unsay_28 (by decide) Iff.rfl (fun c_7 => ?_) (fun c_7 => ?_)
      · refine lv_aload_n hx hb dX8_unsay_45 rfl (lv_at hl 0 rfl) ?_
        refine lv_iload_n hx hb dX8_unsay_46 rfl (lv_at hl 1 rfl) ?_
        refine rd_calle (va_runV (As := [.int (nI (j_3))]) (rest := []) ⟨hx, hb, hml, hown, hts⟩ (c_X8_isClosed l D cA A (upd (upd (x) 3 (nI (0))) 4 (nI (0))) (f) (j_3) (by omega)) (cwV 1 hts (gWV gm_14_17 gm_14_18 gm_14_19 gm_1_5 gm_14_20) rfl rfl rfl (by decide +kernel) ⟨Nat.le_of_ble_eq_true rfl, Nat.le_of_ble_eq_true rfl⟩) (gPreV hK (g_rf hK hP (ci := 10) (q0 := 0) rfl rfl) hP) rfl rfl hl.1 rfl (lv_room (Nat.le_of_ble_eq_true rfl)) dX8_unsay_47 ⟨by omega, by omega⟩) ?_
        refine g_if_eq (P := clM (f 0) (j_3) = false) (tgt := 67) hx hb dX8_unsay_50 (by decide) b2i_0 (fun c_8 => ?_) (fun c_8 => ?_)
        · refine lv_aload_n hx hb dX8_unsay_67 rfl (lv_at hl 0 rfl) ?_
          refine lv_aload_n hx hb dX8_unsay_68 rfl (lv_at hl 0 rfl) ?_
          refine g_get (v := .ref (A 1)) hx hb hts hown hK hP 0 rfl rfl gu_wsX80 0 (by decide) gm_5_14 rfl dX8_unsay_69 ?_
          refine wr_callv (va_runV (As := [.ref (A 1)]) (rest := []) ⟨hx, hb, hml, hown, hts⟩ (c_X8_keeps_0 l D cA A (upd (upd (x) 3 (nI (0))) 4 (nI (0))) (f) w ch hA hw hch hc8) (cwV 1 hts (gWV gm_9_11 gm_9_12 gm_9_13 gm_1_5 gm_9_14) rfl rfl rfl (by decide +kernel) ⟨Nat.le_of_ble_eq_true rfl, Nat.le_of_ble_eq_true rfl⟩) (gPreV hK (g_rf hK hP (ci := 10) (q0 := 0) rfl rfl) hP) rfl rfl hl.1 rfl (lv_room (Nat.le_of_ble_eq_true rfl)) dX8_unsay_72 ⟨by omega, by omega⟩) hS (fun q _ h => h) (fun q h => h) (fun H locs hP hz9 hk9 hS => ?_)
          have hP : va_P D vwCl (mw cA A (upd (upd (upd (x) 1 (nI (kpC w ch))) 3 (nI (0))) 4 (nI (0))) (va_up (f) 1 (kpK w (f 0) (f 1) ch))) H := hP
          have hD : va_D (MA A) (mw cA A (upd (upd (upd (x) 1 (nI (kpC w ch))) 3 (nI (0))) 4 (nI (0))) (va_up (f) 1 (kpK w (f 0) (f 1) ch))) := mD hA
          refine lv_aload_n hx hb dX8_unsay_75 rfl (lv_at hl 0 rfl) ?_
          refine wr_callv (va_runV (As := []) (rest := []) ⟨hx, hb, hml, hown, hts⟩ (c_X8_laysMinds l D cA A (upd (upd (upd (x) 1 (nI (kpC w ch))) 3 (nI (0))) 4 (nI (0))) (va_up (f) 1 (kpK w (f 0) (f 1) ch))  jn hA hj hjn) (cwV 0 hts (gWV gm_17_23 gm_18_0 gm_18_1 gm_1_5 gm_18_2) rfl rfl rfl (by decide +kernel) ⟨Nat.le_of_ble_eq_true rfl, Nat.le_of_ble_eq_true rfl⟩) (gPreV hK (g_rf hK hP (ci := 10) (q0 := 0) rfl rfl) hP) rfl rfl hl.1 rfl (lv_room (Nat.le_of_ble_eq_true rfl)) dX8_unsay_76 ⟨by omega, by omega⟩) hS (fun q _ h => h) (fun q h => h) (fun H locs hP hz9 hk9 hS => ?_)
          have hP : va_P D vwCl (mw cA A (upd (upd (upd (x) 1 (nI (kpC w ch))) 3 (nI (0))) 4 (nI (0))) (va_up (va_up (va_up (f) 1 (kpK w (f 0) (f 1) ch)) 6 ((lmS (f 0) (f 6) (f 7) jn).1)) 7 ((lmS (f 0) (f 6) (f 7) jn).2))) H := hP
          have hD : va_D (MA A) (mw cA A (upd (upd (upd (x) 1 (nI (kpC w ch))) 3 (nI (0))) 4 (nI (0))) (va_up (va_up (va_up (f) 1 (kpK w (f 0) (f 1) ch)) 6 ((lmS (f 0) (f 6) (f 7) jn).1)) 7 ((lmS (f 0) (f 6) (f 7) jn).2))) := mD hA
          refine lv_aload_n hx hb dX8_unsay_79 rfl (lv_at hl 0 rfl) ?_
          refine lv_aload_n hx hb dX8_unsay_80 rfl (lv_at hl 0 rfl) ?_
          refine lv_iload_n hx hb dX8_unsay_81 rfl (lv_at hl 1 rfl) ?_
          refine lv_iconst (v := nI (2)) hx hb dX8_unsay_82 gc_2 ?_
          refine rd_calle (va_runV (As := [.int (nI (j_3)), .int (nI (2))]) (rest := [.ref (A 0)]) ⟨hx, hb, hml, hown, hts⟩ (c_X8_of l D cA A (upd (upd (upd (x) 1 (nI (kpC w ch))) 3 (nI (0))) 4 (nI (0))) (va_up (va_up (va_up (f) 1 (kpK w (f 0) (f 1) ch)) 6 ((lmS (f 0) (f 6) (f 7) jn).1)) 7 ((lmS (f 0) (f 6) (f 7) jn).2)) (j_3) (2) (by omega)) (cwV 2 hts (gWV gm_14_3 gm_14_4 gm_14_5 gm_1_5 gm_14_6) rfl rfl rfl (by decide +kernel) ⟨Nat.le_of_ble_eq_true rfl, Nat.le_of_ble_eq_true rfl⟩) (gPreV hK (g_rf hK hP (ci := 10) (q0 := 0) rfl rfl) hP) rfl rfl hl.1 rfl (lv_room (Nat.le_of_ble_eq_true rfl)) dX8_unsay_83 ⟨by omega, by omega⟩) ?_
          refine lv_aload_n hx hb dX8_unsay_86 rfl (lv_at hl 0 rfl) ?_
          refine lv_iload_n hx hb dX8_unsay_87 rfl (lv_at hl 1 rfl) ?_
          refine lv_iconst (v := nI (0)) hx hb dX8_unsay_88 gc_0 ?_
          refine rd_calle (va_runV (As := [.int (nI (j_3)), .int (nI (0))]) (rest := [.int (gof (f 0) (j_3) (2)), .ref (A 0)]) ⟨hx, hb, hml, hown, hts⟩ (c_X8_of l D cA A (upd (upd (upd (x) 1 (nI (kpC w ch))) 3 (nI (0))) 4 (nI (0))) (va_up (va_up (va_up (f) 1 (kpK w (f 0) (f 1) ch)) 6 ((lmS (f 0) (f 6) (f 7) jn).1)) 7 ((lmS (f 0) (f 6) (f 7) jn).2)) (j_3) (0) (by omega)) (cwV 2 hts (gWV gm_14_3 gm_14_4 gm_14_5 gm_1_5 gm_14_6) rfl rfl rfl (by decide +kernel) ⟨Nat.le_of_ble_eq_true rfl, Nat.le_of_ble_eq_true rfl⟩) (gPreV hK (g_rf hK hP (ci := 10) (q0 := 0) rfl rfl) hP) rfl rfl hl.1 rfl (lv_room (Nat.le_of_ble_eq_true rfl)) dX8_unsay_89 ⟨by omega, by omega⟩) ?_
          refine wr_calli (va_runV (As := [.int (gof (f 0) (j_3) (2)), .int (gof (f 0) (j_3) (0))]) (rest := []) ⟨hx, hb, hml, hown, hts⟩ (c_X8_thinks l D cA A (upd (upd (upd (x) 1 (nI (kpC w ch))) 3 (nI (0))) 4 (nI (0))) (va_up (va_up (va_up (f) 1 (kpK w (f 0) (f 1) ch)) 6 ((lmS (f 0) (f 6) (f 7) jn).1)) 7 ((lmS (f 0) (f 6) (f 7) jn).2)) (gof (f 0) (j_3) (2)) (gof (f 0) (j_3) (0)) jn hA hj hjn) (cwV 2 hts (gWV gm_19_23 gm_20_0 gm_20_1 gm_1_5 gm_20_2) rfl rfl rfl (by decide +kernel) ⟨Nat.le_of_ble_eq_true rfl, Nat.le_of_ble_eq_true rfl⟩) (gPreV hK (g_rf hK hP (ci := 10) (q0 := 0) rfl rfl) hP) rfl rfl hl.1 rfl (lv_room (Nat.le_of_ble_eq_true rfl)) dX8_unsay_92 ⟨by omega, by omega⟩) hS (fun q _ h => h) (fun q h => h) (fun r H locs hw9 hz9 hk9 hS => ?_)
          obtain ⟨rfl, hP⟩ := hw9
          have hP : va_P D vwCl (mw cA A (upd (upd (upd (x) 1 (nI (kpC w ch))) 3 (nI (0))) 4 (nI (0))) (va_up (va_up (va_up (f) 1 (kpK w (f 0) (f 1) ch)) 6 ((tkS (gof (f 0) (j_3) (2)) (gof (f 0) (j_3) (0)) ((lmS (f 0) (f 6) (f 7) jn).2) ((lmS (f 0) (f 6) (f 7) jn).1) jn).2)) 7 ((lmS (f 0) (f 6) (f 7) jn).2))) H := hP
          have hD : va_D (MA A) (mw cA A (upd (upd (upd (x) 1 (nI (kpC w ch))) 3 (nI (0))) 4 (nI (0))) (va_up (va_up (va_up (f) 1 (kpK w (f 0) (f 1) ch)) 6 ((tkS (gof (f 0) (j_3) (2)) (gof (f 0) (j_3) (0)) ((lmS (f 0) (f 6) (f 7) jn).2) ((lmS (f 0) (f 6) (f 7) jn).1) jn).2)) 7 ((lmS (f 0) (f 6) (f 7) jn).2))) := mD hA
          refine lv_istore_n (lv' := [(2, .int ((tkS (gof (f 0) (j_3) (2)) (gof (f 0) (j_3) (0)) ((lmS (f 0) (f 6) (f 7) jn).2) ((lmS (f 0) (f 6) (f 7) jn).1) jn).1)), (0, .ref (A 0)), (1, .int (nI (j_3)))]) hx hb dX8_unsay_95 rfl hl (by decide) rfl (fun ls hl => ?_)
          refine lv_aload_n hx hb dX8_unsay_96 rfl (lv_at hl 1 rfl) ?_
          refine wr_callv (va_runV (As := []) (rest := []) ⟨hx, hb, hml, hown, hts⟩ (c_X8_takesMinds l D cA A (upd (upd (upd (x) 1 (nI (kpC w ch))) 3 (nI (0))) 4 (nI (0))) (va_up (va_up (va_up (f) 1 (kpK w (f 0) (f 1) ch)) 6 ((tkS (gof (f 0) (j_3) (2)) (gof (f 0) (j_3) (0)) ((lmS (f 0) (f 6) (f 7) jn).2) ((lmS (f 0) (f 6) (f 7) jn).1) jn).2)) 7 ((lmS (f 0) (f 6) (f 7) jn).2))  jn hA hj hjn) (cwV 0 hts (gWV gm_18_18 gm_18_19 gm_18_20 gm_1_5 gm_18_21) rfl rfl rfl (by decide +kernel) ⟨Nat.le_of_ble_eq_true rfl, Nat.le_of_ble_eq_true rfl⟩) (gPreV hK (g_rf hK hP (ci := 10) (q0 := 0) rfl rfl) hP) rfl rfl hl.1 rfl (lv_room (Nat.le_of_ble_eq_true rfl)) dX8_unsay_97 ⟨by omega, by omega⟩) hS (fun q _ h => h) (fun q h => h) (fun H locs hP hz9 hk9 hS => ?_)
          have hP : va_P D vwCl (mw cA A (upd (upd (upd (x) 1 (nI (kpC w ch))) 3 (nI (0))) 4 (nI (0))) (va_up (va_up (va_up (va_up (f) 0 (tmS ((tkS (gof (f 0) (j_3) (2)) (gof (f 0) (j_3) (0)) ((lmS (f 0) (f 6) (f 7) jn).2) ((lmS (f 0) (f 6) (f 7) jn).1) jn).2) ((lmS (f 0) (f 6) (f 7) jn).2) (f 0) jn)) 1 (kpK w (f 0) (f 1) ch)) 6 ((tkS (gof (f 0) (j_3) (2)) (gof (f 0) (j_3) (0)) ((lmS (f 0) (f 6) (f 7) jn).2) ((lmS (f 0) (f 6) (f 7) jn).1) jn).2)) 7 ((lmS (f 0) (f 6) (f 7) jn).2))) H := hP
          have hD : va_D (MA A) (mw cA A (upd (upd (upd (x) 1 (nI (kpC w ch))) 3 (nI (0))) 4 (nI (0))) (va_up (va_up (va_up (va_up (f) 0 (tmS ((tkS (gof (f 0) (j_3) (2)) (gof (f 0) (j_3) (0)) ((lmS (f 0) (f 6) (f 7) jn).2) ((lmS (f 0) (f 6) (f 7) jn).1) jn).2) ((lmS (f 0) (f 6) (f 7) jn).2) (f 0) jn)) 1 (kpK w (f 0) (f 1) ch)) 6 ((tkS (gof (f 0) (j_3) (2)) (gof (f 0) (j_3) (0)) ((lmS (f 0) (f 6) (f 7) jn).2) ((lmS (f 0) (f 6) (f 7) jn).1) jn).2)) 7 ((lmS (f 0) (f 6) (f 7) jn).2))) := mD hA
          have kg_9 : (tmS ((tkS (gof (f 0) (j_3) (2)) (gof (f 0) (j_3) (0)) ((lmS (f 0) (f 6) (f 7) jn).2) ((lmS (f 0) (f 6) (f 7) jn).1) jn).2) ((lmS (f 0) (f 6) (f 7) jn).2) (f 0) jn) 0 = nI (jn) := (by rw [tmS_lo (by decide)]; exact hj)
          have kg_10 : (tmS ((tkS (gof (f 0) (j_3) (2)) (gof (f 0) (j_3) (0)) ((lmS (f 0) (f 6) (f 7) jn).2) ((lmS (f 0) (f 6) (f 7) jn).1) jn).2) ((lmS (f 0) (f 6) (f 7) jn).2) (f 0) jn) 1 = nI (cn) := (by rw [tmS_lo (by decide)]; exact hc)
          refine lv_aload_n hx hb dX8_unsay_100 rfl (lv_at hl 1 rfl) ?_
          refine lv_iload_n hx hb dX8_unsay_101 rfl (lv_at hl 2 rfl) ?_
          refine lv_iconst (v := nI (3)) hx hb dX8_unsay_102 gc_3 ?_
          refine lv_iconst (v := nI (0)) hx hb dX8_unsay_103 gc_0 ?_
          refine wr_callv (va_runV (As := [.int (nI (j_3)), .int (nI (3)), .int (nI (0))]) (rest := []) ⟨hx, hb, hml, hown, hts⟩ (c_X8_lays l D cA A (upd (upd (upd (x) 1 (nI (kpC w ch))) 3 (nI (0))) 4 (nI (0))) (va_up (va_up (va_up (va_up (f) 0 (tmS ((tkS (gof (f 0) (j_3) (2)) (gof (f 0) (j_3) (0)) ((lmS (f 0) (f 6) (f 7) jn).2) ((lmS (f 0) (f 6) (f 7) jn).1) jn).2) ((lmS (f 0) (f 6) (f 7) jn).2) (f 0) jn)) 1 (kpK w (f 0) (f 1) ch)) 6 ((tkS (gof (f 0) (j_3) (2)) (gof (f 0) (j_3) (0)) ((lmS (f 0) (f 6) (f 7) jn).2) ((lmS (f 0) (f 6) (f 7) jn).1) jn).2)) 7 ((lmS (f 0) (f 6) (f 7) jn).2)) (j_3) (3) (nI (0))  hA (by omega)) (cwV 3 hts (gWV gm_11_1 gm_11_2 gm_11_3 gm_1_5 gm_11_4) rfl rfl rfl (by decide +kernel) ⟨Nat.le_of_ble_eq_true rfl, Nat.le_of_ble_eq_true rfl⟩) (gPreV hK (g_rf hK hP (ci := 10) (q0 := 0) rfl rfl) hP) rfl rfl hl.1 rfl (lv_room (Nat.le_of_ble_eq_true rfl)) dX8_unsay_104 ⟨by omega, by omega⟩) hS (fun q _ h => h) (fun q h => h) (fun H locs hP hz9 hk9 hS => ?_)
          have hP : va_P D vwCl (mw cA A (upd (upd (upd (x) 1 (nI (kpC w ch))) 3 (nI (0))) 4 (nI (0))) (va_up (va_up (va_up (va_up (f) 0 (upd (tmS ((tkS (gof (f 0) (j_3) (2)) (gof (f 0) (j_3) (0)) ((lmS (f 0) (f 6) (f 7) jn).2) ((lmS (f 0) (f 6) (f 7) jn).1) jn).2) ((lmS (f 0) (f 6) (f 7) jn).2) (f 0) jn) (44 + 8 * (j_3) + (3)) (nI (0)))) 1 (kpK w (f 0) (f 1) ch)) 6 ((tkS (gof (f 0) (j_3) (2)) (gof (f 0) (j_3) (0)) ((lmS (f 0) (f 6) (f 7) jn).2) ((lmS (f 0) (f 6) (f 7) jn).1) jn).2)) 7 ((lmS (f 0) (f 6) (f 7) jn).2))) H := hP
          have hD : va_D (MA A) (mw cA A (upd (upd (upd (x) 1 (nI (kpC w ch))) 3 (nI (0))) 4 (nI (0))) (va_up (va_up (va_up (va_up (f) 0 (upd (tmS ((tkS (gof (f 0) (j_3) (2)) (gof (f 0) (j_3) (0)) ((lmS (f 0) (f 6) (f 7) jn).2) ((lmS (f 0) (f 6) (f 7) jn).1) jn).2) ((lmS (f 0) (f 6) (f 7) jn).2) (f 0) jn) (44 + 8 * (j_3) + (3)) (nI (0)))) 1 (kpK w (f 0) (f 1) ch)) 6 ((tkS (gof (f 0) (j_3) (2)) (gof (f 0) (j_3) (0)) ((lmS (f 0) (f 6) (f 7) jn).2) ((lmS (f 0) (f 6) (f 7) jn).1) jn).2)) 7 ((lmS (f 0) (f 6) (f 7) jn).2))) := mD hA
          have kg_11 : (upd (tmS ((tkS (gof (f 0) (j_3) (2)) (gof (f 0) (j_3) (0)) ((lmS (f 0) (f 6) (f 7) jn).2) ((lmS (f 0) (f 6) (f 7) jn).1) jn).2) ((lmS (f 0) (f 6) (f 7) jn).2) (f 0) jn) (44 + 8 * (j_3) + (3)) (nI (0))) 0 = nI (jn) := (by rw [pk_un (by omega)]; exact kg_9)
          have kg_12 : (upd (tmS ((tkS (gof (f 0) (j_3) (2)) (gof (f 0) (j_3) (0)) ((lmS (f 0) (f 6) (f 7) jn).2) ((lmS (f 0) (f 6) (f 7) jn).1) jn).2) ((lmS (f 0) (f 6) (f 7) jn).2) (f 0) jn) (44 + 8 * (j_3) + (3)) (nI (0))) 1 = nI (cn) := (by rw [pk_un (by omega)]; exact kg_10)
          refine lv_aload_n hx hb dX8_unsay_107 rfl (lv_at hl 1 rfl) ?_
          refine lv_iload_n hx hb dX8_unsay_108 rfl (lv_at hl 2 rfl) ?_
          refine lv_iconst (v := nI (4)) hx hb dX8_unsay_109 gc_4 ?_
          refine lv_iconst (v := -1) hx hb dX8_unsay_110 gc_m1 ?_
          refine wr_callv (va_runV (As := [.int (nI (j_3)), .int (nI (4)), .int (-1)]) (rest := []) ⟨hx, hb, hml, hown, hts⟩ (c_X8_lays l D cA A (upd (upd (upd (x) 1 (nI (kpC w ch))) 3 (nI (0))) 4 (nI (0))) (va_up (va_up (va_up (va_up (f) 0 (upd (tmS ((tkS (gof (f 0) (j_3) (2)) (gof (f 0) (j_3) (0)) ((lmS (f 0) (f 6) (f 7) jn).2) ((lmS (f 0) (f 6) (f 7) jn).1) jn).2) ((lmS (f 0) (f 6) (f 7) jn).2) (f 0) jn) (44 + 8 * (j_3) + (3)) (nI (0)))) 1 (kpK w (f 0) (f 1) ch)) 6 ((tkS (gof (f 0) (j_3) (2)) (gof (f 0) (j_3) (0)) ((lmS (f 0) (f 6) (f 7) jn).2) ((lmS (f 0) (f 6) (f 7) jn).1) jn).2)) 7 ((lmS (f 0) (f 6) (f 7) jn).2)) (j_3) (4) (-1)  hA (by omega)) (cwV 3 hts (gWV gm_11_1 gm_11_2 gm_11_3 gm_1_5 gm_11_4) rfl rfl rfl (by decide +kernel) ⟨Nat.le_of_ble_eq_true rfl, Nat.le_of_ble_eq_true rfl⟩) (gPreV hK (g_rf hK hP (ci := 10) (q0 := 0) rfl rfl) hP) rfl rfl hl.1 rfl (lv_room (Nat.le_of_ble_eq_true rfl)) dX8_unsay_111 ⟨by omega, by omega⟩) hS (fun q _ h => h) (fun q h => h) (fun H locs hP hz9 hk9 hS => ?_)
          have hP : va_P D vwCl (mw cA A (upd (upd (upd (x) 1 (nI (kpC w ch))) 3 (nI (0))) 4 (nI (0))) (va_up (va_up (va_up (va_up (f) 0 (upd (upd (tmS ((tkS (gof (f 0) (j_3) (2)) (gof (f 0) (j_3) (0)) ((lmS (f 0) (f 6) (f 7) jn).2) ((lmS (f 0) (f 6) (f 7) jn).1) jn).2) ((lmS (f 0) (f 6) (f 7) jn).2) (f 0) jn) (44 + 8 * (j_3) + (3)) (nI (0))) (44 + 8 * (j_3) + (4)) (-1))) 1 (kpK w (f 0) (f 1) ch)) 6 ((tkS (gof (f 0) (j_3) (2)) (gof (f 0) (j_3) (0)) ((lmS (f 0) (f 6) (f 7) jn).2) ((lmS (f 0) (f 6) (f 7) jn).1) jn).2)) 7 ((lmS (f 0) (f 6) (f 7) jn).2))) H := hP
          have hD : va_D (MA A) (mw cA A (upd (upd (upd (x) 1 (nI (kpC w ch))) 3 (nI (0))) 4 (nI (0))) (va_up (va_up (va_up (va_up (f) 0 (upd (upd (tmS ((tkS (gof (f 0) (j_3) (2)) (gof (f 0) (j_3) (0)) ((lmS (f 0) (f 6) (f 7) jn).2) ((lmS (f 0) (f 6) (f 7) jn).1) jn).2) ((lmS (f 0) (f 6) (f 7) jn).2) (f 0) jn) (44 + 8 * (j_3) + (3)) (nI (0))) (44 + 8 * (j_3) + (4)) (-1))) 1 (kpK w (f 0) (f 1) ch)) 6 ((tkS (gof (f 0) (j_3) (2)) (gof (f 0) (j_3) (0)) ((lmS (f 0) (f 6) (f 7) jn).2) ((lmS (f 0) (f 6) (f 7) jn).1) jn).2)) 7 ((lmS (f 0) (f 6) (f 7) jn).2))) := mD hA
          have kg_13 : (upd (upd (tmS ((tkS (gof (f 0) (j_3) (2)) (gof (f 0) (j_3) (0)) ((lmS (f 0) (f 6) (f 7) jn).2) ((lmS (f 0) (f 6) (f 7) jn).1) jn).2) ((lmS (f 0) (f 6) (f 7) jn).2) (f 0) jn) (44 + 8 * (j_3) + (3)) (nI (0))) (44 + 8 * (j_3) + (4)) (-1)) 0 = nI (jn) := (by rw [pk_un (by omega)]; exact kg_11)
          have kg_14 : (upd (upd (tmS ((tkS (gof (f 0) (j_3) (2)) (gof (f 0) (j_3) (0)) ((lmS (f 0) (f 6) (f 7) jn).2) ((lmS (f 0) (f 6) (f 7) jn).1) jn).2) ((lmS (f 0) (f 6) (f 7) jn).2) (f 0) jn) (44 + 8 * (j_3) + (3)) (nI (0))) (44 + 8 * (j_3) + (4)) (-1)) 1 = nI (cn) := (by rw [pk_un (by omega)]; exact kg_12)
          refine lv_aload_n hx hb dX8_unsay_114 rfl (lv_at hl 1 rfl) ?_
          refine lv_iload_n hx hb dX8_unsay_115 rfl (lv_at hl 2 rfl) ?_
          refine lv_bipush (v := nI (6)) hx hb dX8_unsay_116 gb_6 ?_
          refine lv_aload_n hx hb dX8_unsay_118 rfl (lv_at hl 1 rfl) ?_
          refine lv_iload_n hx hb dX8_unsay_119 rfl (lv_at hl 2 rfl) ?_
          refine lv_bipush (v := nI (6)) hx hb dX8_unsay_120 gb_6 ?_
          refine rd_calle (va_runV (As := [.int (nI (j_3)), .int (nI (6))]) (rest := [.int (nI (6)), .int (nI (j_3)), .ref (A 0)]) ⟨hx, hb, hml, hown, hts⟩ (c_X8_of l D cA A (upd (upd (upd (x) 1 (nI (kpC w ch))) 3 (nI (0))) 4 (nI (0))) (va_up (va_up (va_up (va_up (f) 0 (upd (upd (tmS ((tkS (gof (f 0) (j_3) (2)) (gof (f 0) (j_3) (0)) ((lmS (f 0) (f 6) (f 7) jn).2) ((lmS (f 0) (f 6) (f 7) jn).1) jn).2) ((lmS (f 0) (f 6) (f 7) jn).2) (f 0) jn) (44 + 8 * (j_3) + (3)) (nI (0))) (44 + 8 * (j_3) + (4)) (-1))) 1 (kpK w (f 0) (f 1) ch)) 6 ((tkS (gof (f 0) (j_3) (2)) (gof (f 0) (j_3) (0)) ((lmS (f 0) (f 6) (f 7) jn).2) ((lmS (f 0) (f 6) (f 7) jn).1) jn).2)) 7 ((lmS (f 0) (f 6) (f 7) jn).2)) (j_3) (6) (by omega)) (cwV 2 hts (gWV gm_14_3 gm_14_4 gm_14_5 gm_1_5 gm_14_6) rfl rfl rfl (by decide +kernel) ⟨Nat.le_of_ble_eq_true rfl, Nat.le_of_ble_eq_true rfl⟩) (gPreV hK (g_rf hK hP (ci := 10) (q0 := 0) rfl rfl) hP) rfl rfl hl.1 rfl (lv_room (Nat.le_of_ble_eq_true rfl)) dX8_unsay_122 ⟨by omega, by omega⟩) ?_
          refine lv_iconst (v := nI (1)) hx hb dX8_unsay_125 gc_1 ?_
          refine lv_iadd hx hb dX8_unsay_126 ?_
          refine wr_callv (va_runV (As := [.int (nI (j_3)), .int (nI (6)), .int ((gof (upd (upd (tmS ((tkS (gof (f 0) (j_3) (2)) (gof (f 0) (j_3) (0)) ((lmS (f 0) (f 6) (f 7) jn).2) ((lmS (f 0) (f 6) (f 7) jn).1) jn).2) ((lmS (f 0) (f 6) (f 7) jn).2) (f 0) jn) (44 + 8 * (j_3) + (3)) (nI (0))) (44 + 8 * (j_3) + (4)) (-1)) (j_3) (6)) + (nI (1)))]) (rest := []) ⟨hx, hb, hml, hown, hts⟩ (c_X8_lays l D cA A (upd (upd (upd (x) 1 (nI (kpC w ch))) 3 (nI (0))) 4 (nI (0))) (va_up (va_up (va_up (va_up (f) 0 (upd (upd (tmS ((tkS (gof (f 0) (j_3) (2)) (gof (f 0) (j_3) (0)) ((lmS (f 0) (f 6) (f 7) jn).2) ((lmS (f 0) (f 6) (f 7) jn).1) jn).2) ((lmS (f 0) (f 6) (f 7) jn).2) (f 0) jn) (44 + 8 * (j_3) + (3)) (nI (0))) (44 + 8 * (j_3) + (4)) (-1))) 1 (kpK w (f 0) (f 1) ch)) 6 ((tkS (gof (f 0) (j_3) (2)) (gof (f 0) (j_3) (0)) ((lmS (f 0) (f 6) (f 7) jn).2) ((lmS (f 0) (f 6) (f 7) jn).1) jn).2)) 7 ((lmS (f 0) (f 6) (f 7) jn).2)) (j_3) (6) ((gof (upd (upd (tmS ((tkS (gof (f 0) (j_3) (2)) (gof (f 0) (j_3) (0)) ((lmS (f 0) (f 6) (f 7) jn).2) ((lmS (f 0) (f 6) (f 7) jn).1) jn).2) ((lmS (f 0) (f 6) (f 7) jn).2) (f 0) jn) (44 + 8 * (j_3) + (3)) (nI (0))) (44 + 8 * (j_3) + (4)) (-1)) (j_3) (6)) + (nI (1)))  hA (by omega)) (cwV 3 hts (gWV gm_11_1 gm_11_2 gm_11_3 gm_1_5 gm_11_4) rfl rfl rfl (by decide +kernel) ⟨Nat.le_of_ble_eq_true rfl, Nat.le_of_ble_eq_true rfl⟩) (gPreV hK (g_rf hK hP (ci := 10) (q0 := 0) rfl rfl) hP) rfl rfl hl.1 rfl (lv_room (Nat.le_of_ble_eq_true rfl)) dX8_unsay_127 ⟨by omega, by omega⟩) hS (fun q _ h => h) (fun q h => h) (fun H locs hP hz9 hk9 hS => ?_)
          have hP : va_P D vwCl (mw cA A (upd (upd (upd (x) 1 (nI (kpC w ch))) 3 (nI (0))) 4 (nI (0))) (va_up (va_up (va_up (va_up (f) 0 (upd (upd (upd (tmS ((tkS (gof (f 0) (j_3) (2)) (gof (f 0) (j_3) (0)) ((lmS (f 0) (f 6) (f 7) jn).2) ((lmS (f 0) (f 6) (f 7) jn).1) jn).2) ((lmS (f 0) (f 6) (f 7) jn).2) (f 0) jn) (44 + 8 * (j_3) + (3)) (nI (0))) (44 + 8 * (j_3) + (4)) (-1)) (44 + 8 * (j_3) + (6)) ((gof (upd (upd (tmS ((tkS (gof (f 0) (j_3) (2)) (gof (f 0) (j_3) (0)) ((lmS (f 0) (f 6) (f 7) jn).2) ((lmS (f 0) (f 6) (f 7) jn).1) jn).2) ((lmS (f 0) (f 6) (f 7) jn).2) (f 0) jn) (44 + 8 * (j_3) + (3)) (nI (0))) (44 + 8 * (j_3) + (4)) (-1)) (j_3) (6)) + (nI (1))))) 1 (kpK w (f 0) (f 1) ch)) 6 ((tkS (gof (f 0) (j_3) (2)) (gof (f 0) (j_3) (0)) ((lmS (f 0) (f 6) (f 7) jn).2) ((lmS (f 0) (f 6) (f 7) jn).1) jn).2)) 7 ((lmS (f 0) (f 6) (f 7) jn).2))) H := hP
          have hD : va_D (MA A) (mw cA A (upd (upd (upd (x) 1 (nI (kpC w ch))) 3 (nI (0))) 4 (nI (0))) (va_up (va_up (va_up (va_up (f) 0 (upd (upd (upd (tmS ((tkS (gof (f 0) (j_3) (2)) (gof (f 0) (j_3) (0)) ((lmS (f 0) (f 6) (f 7) jn).2) ((lmS (f 0) (f 6) (f 7) jn).1) jn).2) ((lmS (f 0) (f 6) (f 7) jn).2) (f 0) jn) (44 + 8 * (j_3) + (3)) (nI (0))) (44 + 8 * (j_3) + (4)) (-1)) (44 + 8 * (j_3) + (6)) ((gof (upd (upd (tmS ((tkS (gof (f 0) (j_3) (2)) (gof (f 0) (j_3) (0)) ((lmS (f 0) (f 6) (f 7) jn).2) ((lmS (f 0) (f 6) (f 7) jn).1) jn).2) ((lmS (f 0) (f 6) (f 7) jn).2) (f 0) jn) (44 + 8 * (j_3) + (3)) (nI (0))) (44 + 8 * (j_3) + (4)) (-1)) (j_3) (6)) + (nI (1))))) 1 (kpK w (f 0) (f 1) ch)) 6 ((tkS (gof (f 0) (j_3) (2)) (gof (f 0) (j_3) (0)) ((lmS (f 0) (f 6) (f 7) jn).2) ((lmS (f 0) (f 6) (f 7) jn).1) jn).2)) 7 ((lmS (f 0) (f 6) (f 7) jn).2))) := mD hA
          have kg_15 : (upd (upd (upd (tmS ((tkS (gof (f 0) (j_3) (2)) (gof (f 0) (j_3) (0)) ((lmS (f 0) (f 6) (f 7) jn).2) ((lmS (f 0) (f 6) (f 7) jn).1) jn).2) ((lmS (f 0) (f 6) (f 7) jn).2) (f 0) jn) (44 + 8 * (j_3) + (3)) (nI (0))) (44 + 8 * (j_3) + (4)) (-1)) (44 + 8 * (j_3) + (6)) ((gof (upd (upd (tmS ((tkS (gof (f 0) (j_3) (2)) (gof (f 0) (j_3) (0)) ((lmS (f 0) (f 6) (f 7) jn).2) ((lmS (f 0) (f 6) (f 7) jn).1) jn).2) ((lmS (f 0) (f 6) (f 7) jn).2) (f 0) jn) (44 + 8 * (j_3) + (3)) (nI (0))) (44 + 8 * (j_3) + (4)) (-1)) (j_3) (6)) + (nI (1)))) 0 = nI (jn) := (by rw [pk_un (by omega)]; exact kg_13)
          have kg_16 : (upd (upd (upd (tmS ((tkS (gof (f 0) (j_3) (2)) (gof (f 0) (j_3) (0)) ((lmS (f 0) (f 6) (f 7) jn).2) ((lmS (f 0) (f 6) (f 7) jn).1) jn).2) ((lmS (f 0) (f 6) (f 7) jn).2) (f 0) jn) (44 + 8 * (j_3) + (3)) (nI (0))) (44 + 8 * (j_3) + (4)) (-1)) (44 + 8 * (j_3) + (6)) ((gof (upd (upd (tmS ((tkS (gof (f 0) (j_3) (2)) (gof (f 0) (j_3) (0)) ((lmS (f 0) (f 6) (f 7) jn).2) ((lmS (f 0) (f 6) (f 7) jn).1) jn).2) ((lmS (f 0) (f 6) (f 7) jn).2) (f 0) jn) (44 + 8 * (j_3) + (3)) (nI (0))) (44 + 8 * (j_3) + (4)) (-1)) (j_3) (6)) + (nI (1)))) 1 = nI (cn) := (by rw [pk_un (by omega)]; exact kg_14)
          refine lv_aload_n hx hb dX8_unsay_130 rfl (lv_at hl 1 rfl) ?_
          refine g_get (v := .ref (A 1)) hx hb hts hown hK hP 0 rfl rfl gu_wsX80 0 (by decide) gm_5_14 rfl dX8_unsay_131 ?_
          refine lv_iconst (v := nI (5)) hx hb dX8_unsay_134 gc_5 ?_
          refine lv_dup2_11 hx hb dX8_unsay_135 rfl rfl ?_
          refine g_iald (x := upd (upd (upd (tmS ((tkS (gof (f 0) (j_3) (2)) (gof (f 0) (j_3) (0)) ((lmS (f 0) (f 6) (f 7) jn).2) ((lmS (f 0) (f 6) (f 7) jn).1) jn).2) ((lmS (f 0) (f 6) (f 7) jn).2) (f 0) jn) (44 + 8 * (j_3) + (3)) (nI (0))) (44 + 8 * (j_3) + (4)) (-1)) (44 + 8 * (j_3) + (6)) ((gof (upd (upd (tmS ((tkS (gof (f 0) (j_3) (2)) (gof (f 0) (j_3) (0)) ((lmS (f 0) (f 6) (f 7) jn).2) ((lmS (f 0) (f 6) (f 7) jn).1) jn).2) ((lmS (f 0) (f 6) (f 7) jn).2) (f 0) jn) (44 + 8 * (j_3) + (3)) (nI (0))) (44 + 8 * (j_3) + (4)) (-1)) (j_3) (6)) + (nI (1))) (5)) hx hb hK hP 1 rfl (by omega) (by decide) rfl dX8_unsay_136 ?_
          refine lv_iconst (v := nI (1)) hx hb dX8_unsay_137 gc_1 ?_
          refine lv_iadd hx hb dX8_unsay_138 ?_
          refine g_iast (ws' := mw cA A (upd (upd (upd (x) 1 (nI (kpC w ch))) 3 (nI (0))) 4 (nI (0))) (va_up (va_up (va_up (va_up (f) 0 (upd (upd (upd (upd (tmS ((tkS (gof (f 0) (j_3) (2)) (gof (f 0) (j_3) (0)) ((lmS (f 0) (f 6) (f 7) jn).2) ((lmS (f 0) (f 6) (f 7) jn).1) jn).2) ((lmS (f 0) (f 6) (f 7) jn).2) (f 0) jn) (44 + 8 * (j_3) + (3)) (nI (0))) (44 + 8 * (j_3) + (4)) (-1)) (44 + 8 * (j_3) + (6)) ((gof (upd (upd (tmS ((tkS (gof (f 0) (j_3) (2)) (gof (f 0) (j_3) (0)) ((lmS (f 0) (f 6) (f 7) jn).2) ((lmS (f 0) (f 6) (f 7) jn).1) jn).2) ((lmS (f 0) (f 6) (f 7) jn).2) (f 0) jn) (44 + 8 * (j_3) + (3)) (nI (0))) (44 + 8 * (j_3) + (4)) (-1)) (j_3) (6)) + (nI (1)))) (5) ((upd (upd (upd (tmS ((tkS (gof (f 0) (j_3) (2)) (gof (f 0) (j_3) (0)) ((lmS (f 0) (f 6) (f 7) jn).2) ((lmS (f 0) (f 6) (f 7) jn).1) jn).2) ((lmS (f 0) (f 6) (f 7) jn).2) (f 0) jn) (44 + 8 * (j_3) + (3)) (nI (0))) (44 + 8 * (j_3) + (4)) (-1)) (44 + 8 * (j_3) + (6)) ((gof (upd (upd (tmS ((tkS (gof (f 0) (j_3) (2)) (gof (f 0) (j_3) (0)) ((lmS (f 0) (f 6) (f 7) jn).2) ((lmS (f 0) (f 6) (f 7) jn).1) jn).2) ((lmS (f 0) (f 6) (f 7) jn).2) (f 0) jn) (44 + 8 * (j_3) + (3)) (nI (0))) (44 + 8 * (j_3) + (4)) (-1)) (j_3) (6)) + (nI (1))) (5)) + (nI (1))))) 1 (kpK w (f 0) (f 1) ch)) 6 ((tkS (gof (f 0) (j_3) (2)) (gof (f 0) (j_3) (0)) ((lmS (f 0) (f 6) (f 7) jn).2) ((lmS (f 0) (f 6) (f 7) jn).1) jn).2)) 7 ((lmS (f 0) (f 6) (f 7) jn).2))) hx hb hK hP hD hS 1 rfl (by omega) (by decide) rfl dX8_unsay_139 (fun H locs hP hD hS => ?_)
          have kg_17 : (upd (upd (upd (upd (tmS ((tkS (gof (f 0) (j_3) (2)) (gof (f 0) (j_3) (0)) ((lmS (f 0) (f 6) (f 7) jn).2) ((lmS (f 0) (f 6) (f 7) jn).1) jn).2) ((lmS (f 0) (f 6) (f 7) jn).2) (f 0) jn) (44 + 8 * (j_3) + (3)) (nI (0))) (44 + 8 * (j_3) + (4)) (-1)) (44 + 8 * (j_3) + (6)) ((gof (upd (upd (tmS ((tkS (gof (f 0) (j_3) (2)) (gof (f 0) (j_3) (0)) ((lmS (f 0) (f 6) (f 7) jn).2) ((lmS (f 0) (f 6) (f 7) jn).1) jn).2) ((lmS (f 0) (f 6) (f 7) jn).2) (f 0) jn) (44 + 8 * (j_3) + (3)) (nI (0))) (44 + 8 * (j_3) + (4)) (-1)) (j_3) (6)) + (nI (1)))) (5) ((upd (upd (upd (tmS ((tkS (gof (f 0) (j_3) (2)) (gof (f 0) (j_3) (0)) ((lmS (f 0) (f 6) (f 7) jn).2) ((lmS (f 0) (f 6) (f 7) jn).1) jn).2) ((lmS (f 0) (f 6) (f 7) jn).2) (f 0) jn) (44 + 8 * (j_3) + (3)) (nI (0))) (44 + 8 * (j_3) + (4)) (-1)) (44 + 8 * (j_3) + (6)) ((gof (upd (upd (tmS ((tkS (gof (f 0) (j_3) (2)) (gof (f 0) (j_3) (0)) ((lmS (f 0) (f 6) (f 7) jn).2) ((lmS (f 0) (f 6) (f 7) jn).1) jn).2) ((lmS (f 0) (f 6) (f 7) jn).2) (f 0) jn) (44 + 8 * (j_3) + (3)) (nI (0))) (44 + 8 * (j_3) + (4)) (-1)) (j_3) (6)) + (nI (1))) (5)) + (nI (1)))) 0 = nI (jn) := (by rw [pk_un (by omega)]; exact kg_15)
          have kg_18 : (upd (upd (upd (upd (tmS ((tkS (gof (f 0) (j_3) (2)) (gof (f 0) (j_3) (0)) ((lmS (f 0) (f 6) (f 7) jn).2) ((lmS (f 0) (f 6) (f 7) jn).1) jn).2) ((lmS (f 0) (f 6) (f 7) jn).2) (f 0) jn) (44 + 8 * (j_3) + (3)) (nI (0))) (44 + 8 * (j_3) + (4)) (-1)) (44 + 8 * (j_3) + (6)) ((gof (upd (upd (tmS ((tkS (gof (f 0) (j_3) (2)) (gof (f 0) (j_3) (0)) ((lmS (f 0) (f 6) (f 7) jn).2) ((lmS (f 0) (f 6) (f 7) jn).1) jn).2) ((lmS (f 0) (f 6) (f 7) jn).2) (f 0) jn) (44 + 8 * (j_3) + (3)) (nI (0))) (44 + 8 * (j_3) + (4)) (-1)) (j_3) (6)) + (nI (1)))) (5) ((upd (upd (upd (tmS ((tkS (gof (f 0) (j_3) (2)) (gof (f 0) (j_3) (0)) ((lmS (f 0) (f 6) (f 7) jn).2) ((lmS (f 0) (f 6) (f 7) jn).1) jn).2) ((lmS (f 0) (f 6) (f 7) jn).2) (f 0) jn) (44 + 8 * (j_3) + (3)) (nI (0))) (44 + 8 * (j_3) + (4)) (-1)) (44 + 8 * (j_3) + (6)) ((gof (upd (upd (tmS ((tkS (gof (f 0) (j_3) (2)) (gof (f 0) (j_3) (0)) ((lmS (f 0) (f 6) (f 7) jn).2) ((lmS (f 0) (f 6) (f 7) jn).1) jn).2) ((lmS (f 0) (f 6) (f 7) jn).2) (f 0) jn) (44 + 8 * (j_3) + (3)) (nI (0))) (44 + 8 * (j_3) + (4)) (-1)) (j_3) (6)) + (nI (1))) (5)) + (nI (1)))) 1 = nI (cn) := (by rw [pk_un (by omega)]; exact kg_16)
          refine lv_iload_n hx hb dX8_unsay_140 rfl (lv_at hl 0 rfl) ?_
          exact g_iretW (v := (tkS (gof (f 0) (j_3) (2)) (gof (f 0) (j_3) (0)) ((lmS (f 0) (f 6) (f 7) jn).2) ((lmS (f 0) (f 6) (f 7) jn).1) jn).1) hx hb hr hlk hS dX8_unsay_141 (by have hq9 : v.toNatClampNeg = j_3 := (by rw [ej_4, nI_clamp (by omega)]); rw [usM, hq9, if_pos c_1, if_neg c_7, if_neg (bnt c_8)]; exact ⟨rfl, hP⟩)
        · have c_8 : clM (f 0) (j_3) = true := eq_true_of_ne_false c_8
          refine lv_aload_n hx hb dX8_unsay_53 rfl (lv_at hl 0 rfl) ?_
          refine lv_iconst (v := nI (2)) hx hb dX8_unsay_54 gc_2 ?_
          refine lv_bipush (v := nI (6)) hx hb dX8_unsay_55 gb_6 ?_
          refine lv_aload_n hx hb dX8_unsay_57 rfl (lv_at hl 0 rfl) ?_
          refine lv_iload_n hx hb dX8_unsay_58 rfl (lv_at hl 1 rfl) ?_
          refine lv_iconst (v := nI (5)) hx hb dX8_unsay_59 gc_5 ?_
          refine rd_calle (va_runV (As := [.int (nI (j_3)), .int (nI (5))]) (rest := [.int (nI (6)), .int (nI (2)), .ref (A 0)]) ⟨hx, hb, hml, hown, hts⟩ (c_X8_of l D cA A (upd (upd (x) 3 (nI (0))) 4 (nI (0))) (f) (j_3) (5) (by omega)) (cwV 2 hts (gWV gm_14_3 gm_14_4 gm_14_5 gm_1_5 gm_14_6) rfl rfl rfl (by decide +kernel) ⟨Nat.le_of_ble_eq_true rfl, Nat.le_of_ble_eq_true rfl⟩) (gPreV hK (g_rf hK hP (ci := 10) (q0 := 0) rfl rfl) hP) rfl rfl hl.1 rfl (lv_room (Nat.le_of_ble_eq_true rfl)) dX8_unsay_60 ⟨by omega, by omega⟩) ?_
          refine wr_calli (va_runV (As := [.int (nI (2)), .int (nI (6)), .int (gof (f 0) (j_3) (5))]) (rest := []) ⟨hx, hb, hml, hown, hts⟩ (c_X8_refuses l D cA A (upd (upd (x) 3 (nI (0))) 4 (nI (0))) (f) (2) (nI (6)) (gof (f 0) (j_3) (5))  hA) (cwV 3 hts (gWV gm_9_5 gm_9_6 gm_9_7 gm_1_5 gm_9_8) rfl rfl rfl (by decide +kernel) ⟨Nat.le_of_ble_eq_true rfl, Nat.le_of_ble_eq_true rfl⟩) (gPreV hK (g_rf hK hP (ci := 10) (q0 := 0) rfl rfl) hP) rfl rfl hl.1 rfl (lv_room (Nat.le_of_ble_eq_true rfl)) dX8_unsay_63 ⟨by omega, by omega⟩) hS (fun q _ h => h) (fun q h => h) (fun r H locs hw9 hz9 hk9 hS => ?_)
          obtain ⟨rfl, hP⟩ := hw9
          have hP : va_P D vwCl (mw cA A (upd (upd (upd (upd (x) 3 (nI (1))) 4 (nI (2))) 5 (nI (6))) 6 (gof (f 0) (j_3) (5))) (f)) H := hP
          have hD : va_D (MA A) (mw cA A (upd (upd (upd (upd (x) 3 (nI (1))) 4 (nI (2))) 5 (nI (6))) 6 (gof (f 0) (j_3) (5))) (f)) := mD hA
          exact g_iretW (v := nI (0)) hx hb hr hlk hS dX8_unsay_66 (by have hq9 : v.toNatClampNeg = j_3 := (by rw [ej_4, nI_clamp (by omega)]); rw [usM, hq9, if_pos c_1, if_neg c_7, if_pos c_8]; exact ⟨rfl, hP⟩)
      · refine lv_aload_n hx hb dX8_unsay_31 rfl (lv_at hl 0 rfl) ?_
        refine lv_iconst (v := nI (2)) hx hb dX8_unsay_32 gc_2 ?_
        refine lv_iconst (v := nI (5)) hx hb dX8_unsay_33 gc_5 ?_
        refine lv_aload_n hx hb dX8_unsay_34 rfl (lv_at hl 0 rfl) ?_
        refine lv_iload_n hx hb dX8_unsay_35 rfl (lv_at hl 1 rfl) ?_
        refine lv_bipush (v := nI (6)) hx hb dX8_unsay_36 gb_6 ?_
        refine rd_calle (va_runV (As := [.int (nI (j_3)), .int (nI (6))]) (rest := [.int (nI (5)), .int (nI (2)), .ref (A 0)]) ⟨hx, hb, hml, hown, hts⟩ (c_X8_of l D cA A (upd (upd (x) 3 (nI (0))) 4 (nI (0))) (f) (j_3) (6) (by omega)) (cwV 2 hts (gWV gm_14_3 gm_14_4 gm_14_5 gm_1_5 gm_14_6) rfl rfl rfl (by decide +kernel) ⟨Nat.le_of_ble_eq_true rfl, Nat.le_of_ble_eq_true rfl⟩) (gPreV hK (g_rf hK hP (ci := 10) (q0 := 0) rfl rfl) hP) rfl rfl hl.1 rfl (lv_room (Nat.le_of_ble_eq_true rfl)) dX8_unsay_38 ⟨by omega, by omega⟩) ?_
        refine wr_calli (va_runV (As := [.int (nI (2)), .int (nI (5)), .int (gof (f 0) (j_3) (6))]) (rest := []) ⟨hx, hb, hml, hown, hts⟩ (c_X8_refuses l D cA A (upd (upd (x) 3 (nI (0))) 4 (nI (0))) (f) (2) (nI (5)) (gof (f 0) (j_3) (6))  hA) (cwV 3 hts (gWV gm_9_5 gm_9_6 gm_9_7 gm_1_5 gm_9_8) rfl rfl rfl (by decide +kernel) ⟨Nat.le_of_ble_eq_true rfl, Nat.le_of_ble_eq_true rfl⟩) (gPreV hK (g_rf hK hP (ci := 10) (q0 := 0) rfl rfl) hP) rfl rfl hl.1 rfl (lv_room (Nat.le_of_ble_eq_true rfl)) dX8_unsay_41 ⟨by omega, by omega⟩) hS (fun q _ h => h) (fun q h => h) (fun r H locs hw9 hz9 hk9 hS => ?_)
        obtain ⟨rfl, hP⟩ := hw9
        have hP : va_P D vwCl (mw cA A (upd (upd (upd (upd (x) 3 (nI (1))) 4 (nI (2))) 5 (nI (5))) 6 (gof (f 0) (j_3) (6))) (f)) H := hP
        have hD : va_D (MA A) (mw cA A (upd (upd (upd (upd (x) 3 (nI (1))) 4 (nI (2))) 5 (nI (5))) 6 (gof (f 0) (j_3) (6))) (f)) := mD hA
        exact g_iretW (v := nI (0)) hx hb hr hlk hS dX8_unsay_44 (by have hq9 : v.toNatClampNeg = j_3 := (by rw [ej_4, nI_clamp (by omega)]); rw [usM, hq9, if_pos c_1, if_pos c_7]; exact ⟨rfl, hP⟩)
    · exact absurd c_6 (by decide)

set_option maxHeartbeats 1000000 in
set_option maxRecDepth 100000 in
theorem c_X8_call (l : Launch) (D : va_G) (cA : Nat → ClassId) (A : Nat → Nat) (x : Nat → Int32) (f : Nat → Nat → Int32) (v : Int32) (jn cn : Nat) (w : Bool) (ch : Nat) (hA : mInj A) (hj : f 0 0 = nI jn) (hjn : jn ≤ 9) (hc : f 0 1 = nI cn) (hcn : cn ≤ 10) (hw : x 2 = b2i w) (hch : x 1 = nI ch) (hc8 : ch ≤ 8) (hlow : ∀ q, q < cn → ¬ gof (f 0) q 2 = 0 → ∃ j, fnd (hs (gof (f 0) q 2)) 9 = some j) : Met l yX8_call (gw yX8_call cX8_call 3 (some .int)) ({ frames := 5, cells := 0, slots := 0, locals := 115 } : Room) (gPc [.ref (A 0), .int (v)] (fun H => va_P D vwCl (mw cA A x f) H) D cA) (wrI (fun r H => r = (caM x f jn cn w ch v).1 ∧ va_P D vwCl (mw cA A (caM x f jn cn w ch v).2.1 (caM x f jn cn w ch v).2.2) H) (MA A)) 0 0 (MA A) := by
  refine gOf (by decide) (Nat.le_of_ble_eq_true rfl) ?_
  intro p e s m below meth c ls hx hb hml hr hlk hown hts hnm hP hK hl
  have hl : lv_has ls 3 [(0, .ref (A 0)), (1, .int (v))] := hl
  have hD : va_D (MA A) (mw cA A x f) := mD hA
  have hS : va_S (MA A) s.heap s.heap [] := va_S.rf
  refine lv_aload_n hx hb dX8_call_0 rfl (lv_at hl 0 rfl) ?_
  refine lv_aload_n hx hb dX8_call_1 rfl (lv_at hl 0 rfl) ?_
  refine lv_iload_n hx hb dX8_call_2 rfl (lv_at hl 1 rfl) ?_
  refine rd_calle (va_runV (As := [.int (v)]) (rest := [.ref (A 0)]) ⟨hx, hb, hml, hown, hts⟩ (c_X8_isCase l D cA A (x) (f) (v) cn hc hcn) (cwV 1 hts (gWV gm_13_23 gm_14_0 gm_14_1 gm_1_5 gm_14_2) rfl rfl rfl (by decide +kernel) ⟨Nat.le_of_ble_eq_true rfl, Nat.le_of_ble_eq_true rfl⟩) (gPreV hK (g_rf hK hP (ci := 10) (q0 := 0) rfl rfl) hP) rfl rfl hl.1 rfl (lv_room (Nat.le_of_ble_eq_true rfl)) dX8_call_3 ⟨by omega, by omega⟩) ?_
  refine g_if_eq (P := isIx (v) cn = false) (tgt := 13) hx hb dX8_call_6 (by decide) b2i_0 (fun c_1 => ?_) (fun c_1 => ?_)
  · refine lv_iconst (v := nI (1)) hx hb dX8_call_13 gc_1 ?_
    refine wr_calli (va_runV (As := [.int (nI (1))]) (rest := []) ⟨hx, hb, hml, hown, hts⟩ (c_X8_fails l D cA A (x) (f) (1)  hA (by decide)) (cwV 1 hts (gWV gm_8_23 gm_9_0 gm_9_1 gm_1_5 gm_9_2) rfl rfl rfl (by decide +kernel) ⟨Nat.le_of_ble_eq_true rfl, Nat.le_of_ble_eq_true rfl⟩) (gPreV hK (g_rf hK hP (ci := 10) (q0 := 0) rfl rfl) hP) rfl rfl hl.1 rfl (lv_room (Nat.le_of_ble_eq_true rfl)) dX8_call_14 ⟨by omega, by omega⟩) hS (fun q _ h => h) (fun q h => h) (fun r H locs hw9 hz9 hk9 hS => ?_)
    obtain ⟨rfl, hP⟩ := hw9
    have hP : va_P D vwCl (mw cA A (upd (upd (x) 3 (nI (0))) 4 (nI (1))) (f)) H := hP
    have hD : va_D (MA A) (mw cA A (upd (upd (x) 3 (nI (0))) 4 (nI (1))) (f)) := mD hA
    refine g_if_eq (P := true = false) (tgt := 22) hx hb dX8_call_17 (by decide) b2i_0 (fun c_2 => ?_) (fun c_2 => ?_)
    · exact absurd c_2 (by decide)
    · have c_2 : true = true := eq_true_of_ne_false c_2
      refine lv_iconst (v := nI (0)) hx hb dX8_call_20 gc_0 ?_
      exact g_iretW (v := nI (0)) hx hb hr hlk hS dX8_call_21 (by rw [caM, if_neg (bnt c_1)]; exact ⟨rfl, hP⟩)
  · have c_1 : isIx (v) cn = true := eq_true_of_ne_false c_1
    obtain ⟨j_3, hj_5, ej_4⟩ := isIx_n c_1 (by omega)
    rw [ej_4] at hl
    have hl : lv_has ls 3 [(0, .ref (A 0)), (1, .int (nI (j_3)))] := hl
    refine lv_iconst (v := nI (0)) hx hb dX8_call_9 gc_0 ?_
    refine lv_goto (tgt := 14) hx hb dX8_call_10 (by decide) ?_
    refine wr_calli (va_runV (As := [.int (nI (0))]) (rest := []) ⟨hx, hb, hml, hown, hts⟩ (c_X8_fails l D cA A (x) (f) (0)  hA (by decide)) (cwV 1 hts (gWV gm_8_23 gm_9_0 gm_9_1 gm_1_5 gm_9_2) rfl rfl rfl (by decide +kernel) ⟨Nat.le_of_ble_eq_true rfl, Nat.le_of_ble_eq_true rfl⟩) (gPreV hK (g_rf hK hP (ci := 10) (q0 := 0) rfl rfl) hP) rfl rfl hl.1 rfl (lv_room (Nat.le_of_ble_eq_true rfl)) dX8_call_14 ⟨by omega, by omega⟩) hS (fun q _ h => h) (fun q h => h) (fun r H locs hw9 hz9 hk9 hS => ?_)
    obtain ⟨rfl, hP⟩ := hw9
    have hP : va_P D vwCl (mw cA A (upd (upd (x) 3 (nI (0))) 4 (nI (0))) (f)) H := hP
    have hD : va_D (MA A) (mw cA A (upd (upd (x) 3 (nI (0))) 4 (nI (0))) (f)) := mD hA
    refine g_if_eq (P := false = false) (tgt := 22) hx hb dX8_call_17 (by decide) b2i_0 (fun c_6 => ?_) (fun c_6 => ?_)
    · refine lv_aload_n hx hb dX8_call_22 rfl (lv_at hl 0 rfl) ?_
      refine lv_iload_n hx hb dX8_call_23 rfl (lv_at hl 1 rfl) ?_
      refine lv_iconst (v := nI (2)) hx hb dX8_call_24 gc_2 ?_
      refine rd_calle (va_runV (As := [.int (nI (j_3)), .int (nI (2))]) (rest := []) ⟨hx, hb, hml, hown, hts⟩ (c_X8_of l D cA A (upd (upd (x) 3 (nI (0))) 4 (nI (0))) (f) (j_3) (2) (by omega)) (cwV 2 hts (gWV gm_14_3 gm_14_4 gm_14_5 gm_1_5 gm_14_6) rfl rfl rfl (by decide +kernel) ⟨Nat.le_of_ble_eq_true rfl, Nat.le_of_ble_eq_true rfl⟩) (gPreV hK (g_rf hK hP (ci := 10) (q0 := 0) rfl rfl) hP) rfl rfl hl.1 rfl (lv_room (Nat.le_of_ble_eq_true rfl)) dX8_call_25 ⟨by omega, by omega⟩) ?_
      refine g_if_eq (P := gof (f 0) (j_3) (2) = 0) (tgt := 51) hx hb dX8_call_28 (by decide) Iff.rfl (fun c_7 => ?_) (fun c_7 => ?_)
      · refine lv_aload_n hx hb dX8_call_51 rfl (lv_at hl 0 rfl) ?_
        refine lv_iconst (v := nI (0)) hx hb dX8_call_52 gc_0 ?_
        refine rd_calle (va_runV (As := [.int (nI (0))]) (rest := []) ⟨hx, hb, hml, hown, hts⟩ (c_X8_callables l D cA A (upd (upd (x) 3 (nI (0))) 4 (nI (0))) (f) (nI (0)) jn cn hj hjn hc hcn) (cwV 1 hts (gWV gm_14_21 gm_14_22 gm_14_23 gm_1_5 gm_15_0) rfl rfl rfl (by decide +kernel) ⟨Nat.le_of_ble_eq_true rfl, Nat.le_of_ble_eq_true rfl⟩) (gPreV hK (g_rf hK hP (ci := 10) (q0 := 0) rfl rfl) hP) rfl rfl hl.1 rfl (lv_room (Nat.le_of_ble_eq_true rfl)) dX8_call_53 ⟨by omega, by omega⟩) ?_
        refine lv_iconst (v := nI (3)) hx hb dX8_call_56 gc_3 ?_
        have hle_8 : cbM (f 0) jn cn (nI 0) ≤ jn := fb_ct_le _ _
        refine g_icmp_ge (P := 3 ≤ cbM (f 0) jn cn (nI (0))) (tgt := 72) hx hb dX8_call_57 (by decide) (nI_leI (by omega) (by omega)) (fun c_9 => ?_) (fun c_9 => ?_)
        · have d_9 : ¬ cbM (f 0) jn cn (nI (0)) < 3 := Nat.not_lt.mpr c_9
          refine lv_iconst (v := nI (1)) hx hb dX8_call_72 gc_1 ?_
          refine lv_aload_n hx hb dX8_call_73 rfl (lv_at hl 0 rfl) ?_
          refine lv_iconst (v := nI (0)) hx hb dX8_call_74 gc_0 ?_
          refine lv_iconst (v := nI (0)) hx hb dX8_call_75 gc_0 ?_
          refine rd_calle (va_runV (As := [.int (nI (0)), .int (nI (0))]) (rest := [.int (nI (1))]) ⟨hx, hb, hml, hown, hts⟩ (c_X8_called l D cA A (upd (upd (x) 3 (nI (0))) 4 (nI (0))) (f) (nI (0)) (nI (0)) jn cn hj hjn hc hcn) (cwV 2 hts (gWV gm_15_1 gm_15_2 gm_15_3 gm_1_5 gm_15_4) rfl rfl rfl (by decide +kernel) ⟨Nat.le_of_ble_eq_true rfl, Nat.le_of_ble_eq_true rfl⟩) (gPreV hK (g_rf hK hP (ci := 10) (q0 := 0) rfl rfl) hP) rfl rfl hl.1 rfl (lv_room (Nat.le_of_ble_eq_true rfl)) dX8_call_76 ⟨by omega, by omega⟩) ?_
          refine lv_ishl hx hb dX8_call_79 ?_
          refine lv_iconst (v := nI (1)) hx hb dX8_call_80 gc_1 ?_
          refine lv_aload_n hx hb dX8_call_81 rfl (lv_at hl 0 rfl) ?_
          refine lv_iconst (v := nI (1)) hx hb dX8_call_82 gc_1 ?_
          refine lv_iconst (v := nI (0)) hx hb dX8_call_83 gc_0 ?_
          refine rd_calle (va_runV (As := [.int (nI (1)), .int (nI (0))]) (rest := [.int (nI (1)), .int ((nI (1)) <<< ((oI (cldM (f 0) jn cn (nI (0)) (nI (0)))) &&& 31))]) ⟨hx, hb, hml, hown, hts⟩ (c_X8_called l D cA A (upd (upd (x) 3 (nI (0))) 4 (nI (0))) (f) (nI (1)) (nI (0)) jn cn hj hjn hc hcn) (cwV 2 hts (gWV gm_15_1 gm_15_2 gm_15_3 gm_1_5 gm_15_4) rfl rfl rfl (by decide +kernel) ⟨Nat.le_of_ble_eq_true rfl, Nat.le_of_ble_eq_true rfl⟩) (gPreV hK (g_rf hK hP (ci := 10) (q0 := 0) rfl rfl) hP) rfl rfl hl.1 rfl (lv_room (Nat.le_of_ble_eq_true rfl)) dX8_call_84 ⟨by omega, by omega⟩) ?_
          refine lv_ishl hx hb dX8_call_87 ?_
          refine lv_ior hx hb dX8_call_88 ?_
          refine lv_iconst (v := nI (1)) hx hb dX8_call_89 gc_1 ?_
          refine lv_aload_n hx hb dX8_call_90 rfl (lv_at hl 0 rfl) ?_
          refine lv_iconst (v := nI (2)) hx hb dX8_call_91 gc_2 ?_
          refine lv_iconst (v := nI (0)) hx hb dX8_call_92 gc_0 ?_
          refine rd_calle (va_runV (As := [.int (nI (2)), .int (nI (0))]) (rest := [.int (nI (1)), .int (((nI (1)) <<< ((oI (cldM (f 0) jn cn (nI (0)) (nI (0)))) &&& 31)) ||| ((nI (1)) <<< ((oI (cldM (f 0) jn cn (nI (0)) (nI (1)))) &&& 31)))]) ⟨hx, hb, hml, hown, hts⟩ (c_X8_called l D cA A (upd (upd (x) 3 (nI (0))) 4 (nI (0))) (f) (nI (2)) (nI (0)) jn cn hj hjn hc hcn) (cwV 2 hts (gWV gm_15_1 gm_15_2 gm_15_3 gm_1_5 gm_15_4) rfl rfl rfl (by decide +kernel) ⟨Nat.le_of_ble_eq_true rfl, Nat.le_of_ble_eq_true rfl⟩) (gPreV hK (g_rf hK hP (ci := 10) (q0 := 0) rfl rfl) hP) rfl rfl hl.1 rfl (lv_room (Nat.le_of_ble_eq_true rfl)) dX8_call_93 ⟨by omega, by omega⟩) ?_
          refine lv_ishl hx hb dX8_call_96 ?_
          refine lv_ior hx hb dX8_call_97 ?_
          refine lv_istore_n (lv' := [(2, .int ((((nI (1)) <<< ((oI (cldM (f 0) jn cn (nI (0)) (nI (0)))) &&& 31)) ||| ((nI (1)) <<< ((oI (cldM (f 0) jn cn (nI (0)) (nI (1)))) &&& 31))) ||| ((nI (1)) <<< ((oI (cldM (f 0) jn cn (nI (0)) (nI (2)))) &&& 31)))), (0, .ref (A 0)), (1, .int (nI (j_3)))]) hx hb dX8_call_98 rfl hl (by decide) rfl (fun ls hl => ?_)
          refine lv_aload_n hx hb dX8_call_99 rfl (lv_at hl 1 rfl) ?_
          refine lv_aload_n hx hb dX8_call_100 rfl (lv_at hl 1 rfl) ?_
          refine g_get (v := .ref (A 1)) hx hb hts hown hK hP 0 rfl rfl gu_wsX80 0 (by decide) gm_5_14 rfl dX8_call_101 ?_
          refine wr_callv (va_runV (As := [.ref (A 1)]) (rest := []) ⟨hx, hb, hml, hown, hts⟩ (c_X8_keeps_0 l D cA A (upd (upd (x) 3 (nI (0))) 4 (nI (0))) (f) w ch hA hw hch hc8) (cwV 1 hts (gWV gm_9_11 gm_9_12 gm_9_13 gm_1_5 gm_9_14) rfl rfl rfl (by decide +kernel) ⟨Nat.le_of_ble_eq_true rfl, Nat.le_of_ble_eq_true rfl⟩) (gPreV hK (g_rf hK hP (ci := 10) (q0 := 0) rfl rfl) hP) rfl rfl hl.1 rfl (lv_room (Nat.le_of_ble_eq_true rfl)) dX8_call_104 ⟨by omega, by omega⟩) hS (fun q _ h => h) (fun q h => h) (fun H locs hP hz9 hk9 hS => ?_)
          have hP : va_P D vwCl (mw cA A (upd (upd (upd (x) 1 (nI (kpC w ch))) 3 (nI (0))) 4 (nI (0))) (va_up (f) 1 (kpK w (f 0) (f 1) ch))) H := hP
          have hD : va_D (MA A) (mw cA A (upd (upd (upd (x) 1 (nI (kpC w ch))) 3 (nI (0))) 4 (nI (0))) (va_up (f) 1 (kpK w (f 0) (f 1) ch))) := mD hA
          refine lv_aload_n hx hb dX8_call_107 rfl (lv_at hl 1 rfl) ?_
          refine lv_iload_n hx hb dX8_call_108 rfl (lv_at hl 2 rfl) ?_
          refine lv_iconst (v := nI (2)) hx hb dX8_call_109 gc_2 ?_
          refine lv_iload_n hx hb dX8_call_110 rfl (lv_at hl 0 rfl) ?_
          refine wr_callv (va_runV (As := [.int (nI (j_3)), .int (nI (2)), .int ((((nI (1)) <<< ((oI (cldM (f 0) jn cn (nI (0)) (nI (0)))) &&& 31)) ||| ((nI (1)) <<< ((oI (cldM (f 0) jn cn (nI (0)) (nI (1)))) &&& 31))) ||| ((nI (1)) <<< ((oI (cldM (f 0) jn cn (nI (0)) (nI (2)))) &&& 31)))]) (rest := []) ⟨hx, hb, hml, hown, hts⟩ (c_X8_lays l D cA A (upd (upd (upd (x) 1 (nI (kpC w ch))) 3 (nI (0))) 4 (nI (0))) (va_up (f) 1 (kpK w (f 0) (f 1) ch)) (j_3) (2) ((((nI (1)) <<< ((oI (cldM (f 0) jn cn (nI (0)) (nI (0)))) &&& 31)) ||| ((nI (1)) <<< ((oI (cldM (f 0) jn cn (nI (0)) (nI (1)))) &&& 31))) ||| ((nI (1)) <<< ((oI (cldM (f 0) jn cn (nI (0)) (nI (2)))) &&& 31)))  hA (by omega)) (cwV 3 hts (gWV gm_11_1 gm_11_2 gm_11_3 gm_1_5 gm_11_4) rfl rfl rfl (by decide +kernel) ⟨Nat.le_of_ble_eq_true rfl, Nat.le_of_ble_eq_true rfl⟩) (gPreV hK (g_rf hK hP (ci := 10) (q0 := 0) rfl rfl) hP) rfl rfl hl.1 rfl (lv_room (Nat.le_of_ble_eq_true rfl)) dX8_call_111 ⟨by omega, by omega⟩) hS (fun q _ h => h) (fun q h => h) (fun H locs hP hz9 hk9 hS => ?_)
          have hP : va_P D vwCl (mw cA A (upd (upd (upd (x) 1 (nI (kpC w ch))) 3 (nI (0))) 4 (nI (0))) (va_up (va_up (f) 0 (upd (f 0) (44 + 8 * (j_3) + (2)) ((((nI (1)) <<< ((oI (cldM (f 0) jn cn (nI (0)) (nI (0)))) &&& 31)) ||| ((nI (1)) <<< ((oI (cldM (f 0) jn cn (nI (0)) (nI (1)))) &&& 31))) ||| ((nI (1)) <<< ((oI (cldM (f 0) jn cn (nI (0)) (nI (2)))) &&& 31))))) 1 (kpK w (f 0) (f 1) ch))) H := hP
          have hD : va_D (MA A) (mw cA A (upd (upd (upd (x) 1 (nI (kpC w ch))) 3 (nI (0))) 4 (nI (0))) (va_up (va_up (f) 0 (upd (f 0) (44 + 8 * (j_3) + (2)) ((((nI (1)) <<< ((oI (cldM (f 0) jn cn (nI (0)) (nI (0)))) &&& 31)) ||| ((nI (1)) <<< ((oI (cldM (f 0) jn cn (nI (0)) (nI (1)))) &&& 31))) ||| ((nI (1)) <<< ((oI (cldM (f 0) jn cn (nI (0)) (nI (2)))) &&& 31))))) 1 (kpK w (f 0) (f 1) ch))) := mD hA
          have kg_10 : (upd (f 0) (44 + 8 * (j_3) + (2)) ((((nI (1)) <<< ((oI (cldM (f 0) jn cn (nI (0)) (nI (0)))) &&& 31)) ||| ((nI (1)) <<< ((oI (cldM (f 0) jn cn (nI (0)) (nI (1)))) &&& 31))) ||| ((nI (1)) <<< ((oI (cldM (f 0) jn cn (nI (0)) (nI (2)))) &&& 31)))) 0 = nI (jn) := (by rw [pk_un (by omega)]; exact hj)
          have kg_11 : (upd (f 0) (44 + 8 * (j_3) + (2)) ((((nI (1)) <<< ((oI (cldM (f 0) jn cn (nI (0)) (nI (0)))) &&& 31)) ||| ((nI (1)) <<< ((oI (cldM (f 0) jn cn (nI (0)) (nI (1)))) &&& 31))) ||| ((nI (1)) <<< ((oI (cldM (f 0) jn cn (nI (0)) (nI (2)))) &&& 31)))) 1 = nI (cn) := (by rw [pk_un (by omega)]; exact hc)
          refine lv_iload_n hx hb dX8_call_114 rfl (lv_at hl 0 rfl) ?_
          exact g_iretW (v := (((nI (1)) <<< ((oI (cldM (f 0) jn cn (nI (0)) (nI (0)))) &&& 31)) ||| ((nI (1)) <<< ((oI (cldM (f 0) jn cn (nI (0)) (nI (1)))) &&& 31))) ||| ((nI (1)) <<< ((oI (cldM (f 0) jn cn (nI (0)) (nI (2)))) &&& 31))) hx hb hr hlk hS dX8_call_115 (by have hq9 : v.toNatClampNeg = j_3 := (by rw [ej_4, nI_clamp (by omega)]); rw [caM, hq9, if_pos c_1, if_pos c_7, if_pos c_9]; exact ⟨rfl, hP⟩)
        · have d_9 : cbM (f 0) jn cn (nI (0)) < 3 := Nat.not_le.mp c_9
          refine lv_aload_n hx hb dX8_call_60 rfl (lv_at hl 0 rfl) ?_
          refine lv_iconst (v := nI (2)) hx hb dX8_call_61 gc_2 ?_
          refine lv_iconst (v := nI (3)) hx hb dX8_call_62 gc_3 ?_
          refine lv_aload_n hx hb dX8_call_63 rfl (lv_at hl 0 rfl) ?_
          refine lv_iconst (v := nI (0)) hx hb dX8_call_64 gc_0 ?_
          refine rd_calle (va_runV (As := [.int (nI (0))]) (rest := [.int (nI (3)), .int (nI (2)), .ref (A 0)]) ⟨hx, hb, hml, hown, hts⟩ (c_X8_callables l D cA A (upd (upd (x) 3 (nI (0))) 4 (nI (0))) (f) (nI (0)) jn cn hj hjn hc hcn) (cwV 1 hts (gWV gm_14_21 gm_14_22 gm_14_23 gm_1_5 gm_15_0) rfl rfl rfl (by decide +kernel) ⟨Nat.le_of_ble_eq_true rfl, Nat.le_of_ble_eq_true rfl⟩) (gPreV hK (g_rf hK hP (ci := 10) (q0 := 0) rfl rfl) hP) rfl rfl hl.1 rfl (lv_room (Nat.le_of_ble_eq_true rfl)) dX8_call_65 ⟨by omega, by omega⟩) ?_
          refine wr_calli (va_runV (As := [.int (nI (2)), .int (nI (3)), .int (nI (cbM (f 0) jn cn (nI (0))))]) (rest := []) ⟨hx, hb, hml, hown, hts⟩ (c_X8_refuses l D cA A (upd (upd (x) 3 (nI (0))) 4 (nI (0))) (f) (2) (nI (3)) (nI (cbM (f 0) jn cn (nI (0))))  hA) (cwV 3 hts (gWV gm_9_5 gm_9_6 gm_9_7 gm_1_5 gm_9_8) rfl rfl rfl (by decide +kernel) ⟨Nat.le_of_ble_eq_true rfl, Nat.le_of_ble_eq_true rfl⟩) (gPreV hK (g_rf hK hP (ci := 10) (q0 := 0) rfl rfl) hP) rfl rfl hl.1 rfl (lv_room (Nat.le_of_ble_eq_true rfl)) dX8_call_68 ⟨by omega, by omega⟩) hS (fun q _ h => h) (fun q h => h) (fun r H locs hw9 hz9 hk9 hS => ?_)
          obtain ⟨rfl, hP⟩ := hw9
          have hP : va_P D vwCl (mw cA A (upd (upd (upd (upd (x) 3 (nI (1))) 4 (nI (2))) 5 (nI (3))) 6 (nI (cbM (f 0) jn cn (nI (0))))) (f)) H := hP
          have hD : va_D (MA A) (mw cA A (upd (upd (upd (upd (x) 3 (nI (1))) 4 (nI (2))) 5 (nI (3))) 6 (nI (cbM (f 0) jn cn (nI (0))))) (f)) := mD hA
          exact g_iretW (v := nI (0)) hx hb hr hlk hS dX8_call_71 (by have hq9 : v.toNatClampNeg = j_3 := (by rw [ej_4, nI_clamp (by omega)]); rw [caM, hq9, if_pos c_1, if_pos c_7, if_neg c_9]; exact ⟨rfl, hP⟩)
      · refine lv_aload_n hx hb dX8_call_31 rfl (lv_at hl 0 rfl) ?_
        refine lv_iconst (v := nI (2)) hx hb dX8_call_32 gc_2 ?_
        refine lv_iconst (v := nI (2)) hx hb dX8_call_33 gc_2 ?_
        refine lv_aload_n hx hb dX8_call_34 rfl (lv_at hl 0 rfl) ?_
        refine lv_aload_n hx hb dX8_call_35 rfl (lv_at hl 0 rfl) ?_
        refine lv_iload_n hx hb dX8_call_36 rfl (lv_at hl 1 rfl) ?_
        refine lv_iconst (v := nI (2)) hx hb dX8_call_37 gc_2 ?_
        refine rd_calle (va_runV (As := [.int (nI (j_3)), .int (nI (2))]) (rest := [.ref (A 0), .int (nI (2)), .int (nI (2)), .ref (A 0)]) ⟨hx, hb, hml, hown, hts⟩ (c_X8_of l D cA A (upd (upd (x) 3 (nI (0))) 4 (nI (0))) (f) (j_3) (2) (by omega)) (cwV 2 hts (gWV gm_14_3 gm_14_4 gm_14_5 gm_1_5 gm_14_6) rfl rfl rfl (by decide +kernel) ⟨Nat.le_of_ble_eq_true rfl, Nat.le_of_ble_eq_true rfl⟩) (gPreV hK (g_rf hK hP (ci := 10) (q0 := 0) rfl rfl) hP) rfl rfl hl.1 rfl (lv_room (Nat.le_of_ble_eq_true rfl)) dX8_call_38 ⟨by omega, by omega⟩) ?_
        obtain ⟨jl_12, el_13⟩ := hlow j_3 hj_5 c_7
        have f1_14 := fnd_some el_13
        have hl9_15 := fnd_lt el_13
        have lw_16 : lowM (gof (f 0) j_3 2) = jl_12 := by rw [lowM, el_13]; rfl
        refine rd_calle (va_runS (As := [.int (gof (f 0) (j_3) (2))]) (rest := [.ref (A 0), .int (nI (2)), .int (nI (2)), .ref (A 0)]) ⟨hx, hb, hml, hown, hts⟩ (c_X8_lowest l D cA (gof (f 0) (j_3) 2) jl_12 hl9_15 f1_14.1 f1_14.2) (cwS 1 hts (gWS gm_14_7 gm_14_8 gm_1_5 gm_14_9) rfl rfl rfl (by decide +kernel) ⟨Nat.le_of_ble_eq_true rfl, Nat.le_of_ble_eq_true rfl⟩) (gPreS hK trivial) rfl rfl hl.1 rfl (lv_room (Nat.le_of_ble_eq_true rfl)) dX8_call_41 ⟨by omega, by omega⟩) ?_
        refine rd_calle (va_runV (As := [.int (nI (jl_12))]) (rest := [.int (nI (2)), .int (nI (2)), .ref (A 0)]) ⟨hx, hb, hml, hown, hts⟩ (c_X8_loadOf l D cA A (upd (upd (x) 3 (nI (0))) 4 (nI (0))) (f) (jl_12) cn hc hcn) (cwV 1 hts (gWV gm_14_13 gm_14_14 gm_14_15 gm_1_5 gm_14_16) rfl rfl rfl (by decide +kernel) ⟨Nat.le_of_ble_eq_true rfl, Nat.le_of_ble_eq_true rfl⟩) (gPreV hK (g_rf hK hP (ci := 10) (q0 := 0) rfl rfl) hP) rfl rfl hl.1 rfl (lv_room (Nat.le_of_ble_eq_true rfl)) dX8_call_44 ⟨by omega, by omega⟩) ?_
        refine wr_calli (va_runV (As := [.int (nI (2)), .int (nI (2)), .int (nI (ldM (f 0) cn (jl_12)))]) (rest := []) ⟨hx, hb, hml, hown, hts⟩ (c_X8_refuses l D cA A (upd (upd (x) 3 (nI (0))) 4 (nI (0))) (f) (2) (nI (2)) (nI (ldM (f 0) cn (jl_12)))  hA) (cwV 3 hts (gWV gm_9_5 gm_9_6 gm_9_7 gm_1_5 gm_9_8) rfl rfl rfl (by decide +kernel) ⟨Nat.le_of_ble_eq_true rfl, Nat.le_of_ble_eq_true rfl⟩) (gPreV hK (g_rf hK hP (ci := 10) (q0 := 0) rfl rfl) hP) rfl rfl hl.1 rfl (lv_room (Nat.le_of_ble_eq_true rfl)) dX8_call_47 ⟨by omega, by omega⟩) hS (fun q _ h => h) (fun q h => h) (fun r H locs hw9 hz9 hk9 hS => ?_)
        obtain ⟨rfl, hP⟩ := hw9
        have hP : va_P D vwCl (mw cA A (upd (upd (upd (upd (x) 3 (nI (1))) 4 (nI (2))) 5 (nI (2))) 6 (nI (ldM (f 0) cn (jl_12)))) (f)) H := hP
        have hD : va_D (MA A) (mw cA A (upd (upd (upd (upd (x) 3 (nI (1))) 4 (nI (2))) 5 (nI (2))) 6 (nI (ldM (f 0) cn (jl_12)))) (f)) := mD hA
        exact g_iretW (v := nI (0)) hx hb hr hlk hS dX8_call_50 (by have hq9 : v.toNatClampNeg = j_3 := (by rw [ej_4, nI_clamp (by omega)]); rw [caM, hq9, if_pos c_1, if_neg c_7, lw_16]; exact ⟨rfl, hP⟩)
    · exact absurd c_6 (by decide)

set_option maxHeartbeats 1000000 in
set_option maxRecDepth 100000 in
theorem c_X8_appeal (l : Launch) (D : va_G) (cA : Nat → ClassId) (A : Nat → Nat) (x : Nat → Int32) (f : Nat → Nat → Int32) (v : Int32) (jn cn : Nat) (w : Bool) (ch : Nat) (hA : mInj A) (hj : f 0 0 = nI jn) (hjn : jn ≤ 9) (hc : f 0 1 = nI cn) (hcn : cn ≤ 10) (hw : x 2 = b2i w) (hch : x 1 = nI ch) (hc8 : ch ≤ 8) : Met l yX8_appeal (gw yX8_appeal cX8_appeal 4 (some .int)) ({ frames := 5, cells := 0, slots := 0, locals := 115 } : Room) (gPc [.ref (A 0), .int (v)] (fun H => va_P D vwCl (mw cA A x f) H) D cA) (wrI (fun r H => r = (apM x f jn cn w ch v).1 ∧ va_P D vwCl (mw cA A (apM x f jn cn w ch v).2.1 (apM x f jn cn w ch v).2.2) H) (MA A)) 0 0 (MA A) := by
  refine gOf (by decide) (Nat.le_of_ble_eq_true rfl) ?_
  intro p e s m below meth c ls hx hb hml hr hlk hown hts hnm hP hK hl
  have hl : lv_has ls 4 [(0, .ref (A 0)), (1, .int (v))] := hl
  have hD : va_D (MA A) (mw cA A x f) := mD hA
  have hS : va_S (MA A) s.heap s.heap [] := va_S.rf
  refine lv_aload_n hx hb dX8_appeal_0 rfl (lv_at hl 0 rfl) ?_
  refine lv_aload_n hx hb dX8_appeal_1 rfl (lv_at hl 0 rfl) ?_
  refine lv_iload_n hx hb dX8_appeal_2 rfl (lv_at hl 1 rfl) ?_
  refine rd_calle (va_runV (As := [.int (v)]) (rest := [.ref (A 0)]) ⟨hx, hb, hml, hown, hts⟩ (c_X8_isCase l D cA A (x) (f) (v) cn hc hcn) (cwV 1 hts (gWV gm_13_23 gm_14_0 gm_14_1 gm_1_5 gm_14_2) rfl rfl rfl (by decide +kernel) ⟨Nat.le_of_ble_eq_true rfl, Nat.le_of_ble_eq_true rfl⟩) (gPreV hK (g_rf hK hP (ci := 10) (q0 := 0) rfl rfl) hP) rfl rfl hl.1 rfl (lv_room (Nat.le_of_ble_eq_true rfl)) dX8_appeal_3 ⟨by omega, by omega⟩) ?_
  refine g_if_eq (P := isIx (v) cn = false) (tgt := 13) hx hb dX8_appeal_6 (by decide) b2i_0 (fun c_1 => ?_) (fun c_1 => ?_)
  · refine lv_iconst (v := nI (1)) hx hb dX8_appeal_13 gc_1 ?_
    refine wr_calli (va_runV (As := [.int (nI (1))]) (rest := []) ⟨hx, hb, hml, hown, hts⟩ (c_X8_fails l D cA A (x) (f) (1)  hA (by decide)) (cwV 1 hts (gWV gm_8_23 gm_9_0 gm_9_1 gm_1_5 gm_9_2) rfl rfl rfl (by decide +kernel) ⟨Nat.le_of_ble_eq_true rfl, Nat.le_of_ble_eq_true rfl⟩) (gPreV hK (g_rf hK hP (ci := 10) (q0 := 0) rfl rfl) hP) rfl rfl hl.1 rfl (lv_room (Nat.le_of_ble_eq_true rfl)) dX8_appeal_14 ⟨by omega, by omega⟩) hS (fun q _ h => h) (fun q h => h) (fun r H locs hw9 hz9 hk9 hS => ?_)
    obtain ⟨rfl, hP⟩ := hw9
    have hP : va_P D vwCl (mw cA A (upd (upd (x) 3 (nI (0))) 4 (nI (1))) (f)) H := hP
    have hD : va_D (MA A) (mw cA A (upd (upd (x) 3 (nI (0))) 4 (nI (1))) (f)) := mD hA
    refine g_if_eq (P := true = false) (tgt := 22) hx hb dX8_appeal_17 (by decide) b2i_0 (fun c_2 => ?_) (fun c_2 => ?_)
    · exact absurd c_2 (by decide)
    · have c_2 : true = true := eq_true_of_ne_false c_2
      refine lv_iconst (v := nI (0)) hx hb dX8_appeal_20 gc_0 ?_
      exact g_iretW (v := nI (0)) hx hb hr hlk hS dX8_appeal_21 (by rw [apM, if_neg (bnt c_1)]; exact ⟨rfl, hP⟩)
  · have c_1 : isIx (v) cn = true := eq_true_of_ne_false c_1
    obtain ⟨j_3, hj_5, ej_4⟩ := isIx_n c_1 (by omega)
    rw [ej_4] at hl
    have hl : lv_has ls 4 [(0, .ref (A 0)), (1, .int (nI (j_3)))] := hl
    refine lv_iconst (v := nI (0)) hx hb dX8_appeal_9 gc_0 ?_
    refine lv_goto (tgt := 14) hx hb dX8_appeal_10 (by decide) ?_
    refine wr_calli (va_runV (As := [.int (nI (0))]) (rest := []) ⟨hx, hb, hml, hown, hts⟩ (c_X8_fails l D cA A (x) (f) (0)  hA (by decide)) (cwV 1 hts (gWV gm_8_23 gm_9_0 gm_9_1 gm_1_5 gm_9_2) rfl rfl rfl (by decide +kernel) ⟨Nat.le_of_ble_eq_true rfl, Nat.le_of_ble_eq_true rfl⟩) (gPreV hK (g_rf hK hP (ci := 10) (q0 := 0) rfl rfl) hP) rfl rfl hl.1 rfl (lv_room (Nat.le_of_ble_eq_true rfl)) dX8_appeal_14 ⟨by omega, by omega⟩) hS (fun q _ h => h) (fun q h => h) (fun r H locs hw9 hz9 hk9 hS => ?_)
    obtain ⟨rfl, hP⟩ := hw9
    have hP : va_P D vwCl (mw cA A (upd (upd (x) 3 (nI (0))) 4 (nI (0))) (f)) H := hP
    have hD : va_D (MA A) (mw cA A (upd (upd (x) 3 (nI (0))) 4 (nI (0))) (f)) := mD hA
    refine g_if_eq (P := false = false) (tgt := 22) hx hb dX8_appeal_17 (by decide) b2i_0 (fun c_6 => ?_) (fun c_6 => ?_)
    · refine lv_aload_n hx hb dX8_appeal_22 rfl (lv_at hl 0 rfl) ?_
      refine lv_iload_n hx hb dX8_appeal_23 rfl (lv_at hl 1 rfl) ?_
      refine lv_iconst (v := nI (3)) hx hb dX8_appeal_24 gc_3 ?_
      refine rd_calle (va_runV (As := [.int (nI (j_3)), .int (nI (3))]) (rest := []) ⟨hx, hb, hml, hown, hts⟩ (c_X8_of l D cA A (upd (upd (x) 3 (nI (0))) 4 (nI (0))) (f) (j_3) (3) (by omega)) (cwV 2 hts (gWV gm_14_3 gm_14_4 gm_14_5 gm_1_5 gm_14_6) rfl rfl rfl (by decide +kernel) ⟨Nat.le_of_ble_eq_true rfl, Nat.le_of_ble_eq_true rfl⟩) (gPreV hK (g_rf hK hP (ci := 10) (q0 := 0) rfl rfl) hP) rfl rfl hl.1 rfl (lv_room (Nat.le_of_ble_eq_true rfl)) dX8_appeal_25 ⟨by omega, by omega⟩) ?_
      refine g_if_ne (P := gof (f 0) (j_3) (3) = 0) (tgt := 45) hx hb dX8_appeal_28 (by decide) Iff.rfl (fun c_7 => ?_) (fun c_7 => ?_)
      · refine lv_aload_n hx hb dX8_appeal_45 rfl (lv_at hl 0 rfl) ?_
        refine lv_iload_n hx hb dX8_appeal_46 rfl (lv_at hl 1 rfl) ?_
        refine rd_calle (va_runV (As := [.int (nI (j_3))]) (rest := []) ⟨hx, hb, hml, hown, hts⟩ (c_X8_isClosed l D cA A (upd (upd (x) 3 (nI (0))) 4 (nI (0))) (f) (j_3) (by omega)) (cwV 1 hts (gWV gm_14_17 gm_14_18 gm_14_19 gm_1_5 gm_14_20) rfl rfl rfl (by decide +kernel) ⟨Nat.le_of_ble_eq_true rfl, Nat.le_of_ble_eq_true rfl⟩) (gPreV hK (g_rf hK hP (ci := 10) (q0 := 0) rfl rfl) hP) rfl rfl hl.1 rfl (lv_room (Nat.le_of_ble_eq_true rfl)) dX8_appeal_47 ⟨by omega, by omega⟩) ?_
        refine g_if_eq (P := clM (f 0) (j_3) = false) (tgt := 67) hx hb dX8_appeal_50 (by decide) b2i_0 (fun c_8 => ?_) (fun c_8 => ?_)
        · refine lv_aload_n hx hb dX8_appeal_67 rfl (lv_at hl 0 rfl) ?_
          refine lv_iload_n hx hb dX8_appeal_68 rfl (lv_at hl 1 rfl) ?_
          refine lv_bipush (v := nI (7)) hx hb dX8_appeal_69 gb_7 ?_
          refine rd_calle (va_runV (As := [.int (nI (j_3)), .int (nI (7))]) (rest := []) ⟨hx, hb, hml, hown, hts⟩ (c_X8_of l D cA A (upd (upd (x) 3 (nI (0))) 4 (nI (0))) (f) (j_3) (7) (by omega)) (cwV 2 hts (gWV gm_14_3 gm_14_4 gm_14_5 gm_1_5 gm_14_6) rfl rfl rfl (by decide +kernel) ⟨Nat.le_of_ble_eq_true rfl, Nat.le_of_ble_eq_true rfl⟩) (gPreV hK (g_rf hK hP (ci := 10) (q0 := 0) rfl rfl) hP) rfl rfl hl.1 rfl (lv_room (Nat.le_of_ble_eq_true rfl)) dX8_appeal_71 ⟨by omega, by omega⟩) ?_
          refine lv_iconst (v := nI (2)) hx hb dX8_appeal_74 gc_2 ?_
          refine g_icmp_ne (P := gof (f 0) (j_3) (7) = nI (2)) (tgt := 92) hx hb dX8_appeal_75 (by decide) Iff.rfl (fun c_9 => ?_) (fun c_9 => ?_)
          · refine lv_aload_n hx hb dX8_appeal_92 rfl (lv_at hl 0 rfl) ?_
            refine lv_iload_n hx hb dX8_appeal_93 rfl (lv_at hl 1 rfl) ?_
            refine lv_iconst (v := nI (2)) hx hb dX8_appeal_94 gc_2 ?_
            refine rd_calle (va_runV (As := [.int (nI (j_3)), .int (nI (2))]) (rest := []) ⟨hx, hb, hml, hown, hts⟩ (c_X8_of l D cA A (upd (upd (x) 3 (nI (0))) 4 (nI (0))) (f) (j_3) (2) (by omega)) (cwV 2 hts (gWV gm_14_3 gm_14_4 gm_14_5 gm_1_5 gm_14_6) rfl rfl rfl (by decide +kernel) ⟨Nat.le_of_ble_eq_true rfl, Nat.le_of_ble_eq_true rfl⟩) (gPreV hK (g_rf hK hP (ci := 10) (q0 := 0) rfl rfl) hP) rfl rfl hl.1 rfl (lv_room (Nat.le_of_ble_eq_true rfl)) dX8_appeal_95 ⟨by omega, by omega⟩) ?_
            refine lv_istore_n (lv' := [(2, .int (gof (f 0) (j_3) (2))), (0, .ref (A 0)), (1, .int (nI (j_3)))]) hx hb dX8_appeal_98 rfl hl (by decide) rfl (fun ls hl => ?_)
            refine lv_aload_n hx hb dX8_appeal_99 rfl (lv_at hl 1 rfl) ?_
            refine lv_iload_n hx hb dX8_appeal_100 rfl (lv_at hl 0 rfl) ?_
            refine rd_calle (va_runV (As := [.int (gof (f 0) (j_3) (2))]) (rest := []) ⟨hx, hb, hml, hown, hts⟩ (c_X8_callables l D cA A (upd (upd (x) 3 (nI (0))) 4 (nI (0))) (f) (gof (f 0) (j_3) (2)) jn cn hj hjn hc hcn) (cwV 1 hts (gWV gm_14_21 gm_14_22 gm_14_23 gm_1_5 gm_15_0) rfl rfl rfl (by decide +kernel) ⟨Nat.le_of_ble_eq_true rfl, Nat.le_of_ble_eq_true rfl⟩) (gPreV hK (g_rf hK hP (ci := 10) (q0 := 0) rfl rfl) hP) rfl rfl hl.1 rfl (lv_room (Nat.le_of_ble_eq_true rfl)) dX8_appeal_101 ⟨by omega, by omega⟩) ?_
            refine lv_iconst (v := nI (1)) hx hb dX8_appeal_104 gc_1 ?_
            have hle_10 : cbM (f 0) jn cn (gof (f 0) (j_3) 2) ≤ jn := fb_ct_le _ _
            refine g_icmp_ge (P := 1 ≤ cbM (f 0) jn cn (gof (f 0) (j_3) (2))) (tgt := 116) hx hb dX8_appeal_105 (by decide) (nI_leI (by omega) (by omega)) (fun c_11 => ?_) (fun c_11 => ?_)
            · have d_11 : ¬ cbM (f 0) jn cn (gof (f 0) (j_3) (2)) < 1 := Nat.not_lt.mpr c_11
              refine lv_aload_n hx hb dX8_appeal_116 rfl (lv_at hl 1 rfl) ?_
              refine lv_aload_n hx hb dX8_appeal_117 rfl (lv_at hl 1 rfl) ?_
              refine g_get (v := .ref (A 1)) hx hb hts hown hK hP 0 rfl rfl gu_wsX80 0 (by decide) gm_5_14 rfl dX8_appeal_118 ?_
              refine wr_callv (va_runV (As := [.ref (A 1)]) (rest := []) ⟨hx, hb, hml, hown, hts⟩ (c_X8_keeps_0 l D cA A (upd (upd (x) 3 (nI (0))) 4 (nI (0))) (f) w ch hA hw hch hc8) (cwV 1 hts (gWV gm_9_11 gm_9_12 gm_9_13 gm_1_5 gm_9_14) rfl rfl rfl (by decide +kernel) ⟨Nat.le_of_ble_eq_true rfl, Nat.le_of_ble_eq_true rfl⟩) (gPreV hK (g_rf hK hP (ci := 10) (q0 := 0) rfl rfl) hP) rfl rfl hl.1 rfl (lv_room (Nat.le_of_ble_eq_true rfl)) dX8_appeal_121 ⟨by omega, by omega⟩) hS (fun q _ h => h) (fun q h => h) (fun H locs hP hz9 hk9 hS => ?_)
              have hP : va_P D vwCl (mw cA A (upd (upd (upd (x) 1 (nI (kpC w ch))) 3 (nI (0))) 4 (nI (0))) (va_up (f) 1 (kpK w (f 0) (f 1) ch))) H := hP
              have hD : va_D (MA A) (mw cA A (upd (upd (upd (x) 1 (nI (kpC w ch))) 3 (nI (0))) 4 (nI (0))) (va_up (f) 1 (kpK w (f 0) (f 1) ch))) := mD hA
              refine lv_aload_n hx hb dX8_appeal_124 rfl (lv_at hl 1 rfl) ?_
              refine lv_iload_n hx hb dX8_appeal_125 rfl (lv_at hl 2 rfl) ?_
              refine lv_iconst (v := nI (2)) hx hb dX8_appeal_126 gc_2 ?_
              refine lv_iload_n hx hb dX8_appeal_127 rfl (lv_at hl 0 rfl) ?_
              refine lv_iconst (v := nI (1)) hx hb dX8_appeal_128 gc_1 ?_
              refine lv_aload_n hx hb dX8_appeal_129 rfl (lv_at hl 1 rfl) ?_
              refine lv_iload_n hx hb dX8_appeal_130 rfl (lv_at hl 0 rfl) ?_
              refine rd_calle (va_runV (As := [.int (gof (f 0) (j_3) (2))]) (rest := [.int (nI (1)), .int (gof (f 0) (j_3) (2)), .int (nI (2)), .int (nI (j_3)), .ref (A 0)]) ⟨hx, hb, hml, hown, hts⟩ (c_X8_doubter l D cA A (upd (upd (upd (x) 1 (nI (kpC w ch))) 3 (nI (0))) 4 (nI (0))) (va_up (f) 1 (kpK w (f 0) (f 1) ch)) (gof (f 0) (j_3) (2)) jn hj hjn) (cwV 1 hts (gWV gm_21_8 gm_21_9 gm_21_10 gm_1_5 gm_21_11) rfl rfl rfl (by decide +kernel) ⟨Nat.le_of_ble_eq_true rfl, Nat.le_of_ble_eq_true rfl⟩) (gPreV hK (g_rf hK hP (ci := 10) (q0 := 0) rfl rfl) hP) rfl rfl hl.1 rfl (lv_room (Nat.le_of_ble_eq_true rfl)) dX8_appeal_131 ⟨by omega, by omega⟩) ?_
              refine lv_ishl hx hb dX8_appeal_134 ?_
              refine lv_ixor hx hb dX8_appeal_135 ?_
              refine lv_iconst (v := nI (1)) hx hb dX8_appeal_136 gc_1 ?_
              refine lv_aload_n hx hb dX8_appeal_137 rfl (lv_at hl 1 rfl) ?_
              refine lv_iconst (v := nI (0)) hx hb dX8_appeal_138 gc_0 ?_
              refine lv_iload_n hx hb dX8_appeal_139 rfl (lv_at hl 0 rfl) ?_
              refine rd_calle (va_runV (As := [.int (nI (0)), .int (gof (f 0) (j_3) (2))]) (rest := [.int (nI (1)), .int ((gof (f 0) (j_3) (2)) ^^^ ((nI (1)) <<< ((oI (dbM (f 0) jn (gof (f 0) (j_3) (2)))) &&& 31))), .int (nI (2)), .int (nI (j_3)), .ref (A 0)]) ⟨hx, hb, hml, hown, hts⟩ (c_X8_called l D cA A (upd (upd (upd (x) 1 (nI (kpC w ch))) 3 (nI (0))) 4 (nI (0))) (va_up (f) 1 (kpK w (f 0) (f 1) ch)) (nI (0)) (gof (f 0) (j_3) (2)) jn cn hj hjn hc hcn) (cwV 2 hts (gWV gm_15_1 gm_15_2 gm_15_3 gm_1_5 gm_15_4) rfl rfl rfl (by decide +kernel) ⟨Nat.le_of_ble_eq_true rfl, Nat.le_of_ble_eq_true rfl⟩) (gPreV hK (g_rf hK hP (ci := 10) (q0 := 0) rfl rfl) hP) rfl rfl hl.1 rfl (lv_room (Nat.le_of_ble_eq_true rfl)) dX8_appeal_140 ⟨by omega, by omega⟩) ?_
              refine lv_ishl hx hb dX8_appeal_143 ?_
              refine lv_ixor hx hb dX8_appeal_144 ?_
              refine wr_callv (va_runV (As := [.int (nI (j_3)), .int (nI (2)), .int (((gof (f 0) (j_3) (2)) ^^^ ((nI (1)) <<< ((oI (dbM (f 0) jn (gof (f 0) (j_3) (2)))) &&& 31))) ^^^ ((nI (1)) <<< ((oI (cldM (f 0) jn cn (gof (f 0) (j_3) (2)) (nI (0)))) &&& 31)))]) (rest := []) ⟨hx, hb, hml, hown, hts⟩ (c_X8_lays l D cA A (upd (upd (upd (x) 1 (nI (kpC w ch))) 3 (nI (0))) 4 (nI (0))) (va_up (f) 1 (kpK w (f 0) (f 1) ch)) (j_3) (2) (((gof (f 0) (j_3) (2)) ^^^ ((nI (1)) <<< ((oI (dbM (f 0) jn (gof (f 0) (j_3) (2)))) &&& 31))) ^^^ ((nI (1)) <<< ((oI (cldM (f 0) jn cn (gof (f 0) (j_3) (2)) (nI (0)))) &&& 31)))  hA (by omega)) (cwV 3 hts (gWV gm_11_1 gm_11_2 gm_11_3 gm_1_5 gm_11_4) rfl rfl rfl (by decide +kernel) ⟨Nat.le_of_ble_eq_true rfl, Nat.le_of_ble_eq_true rfl⟩) (gPreV hK (g_rf hK hP (ci := 10) (q0 := 0) rfl rfl) hP) rfl rfl hl.1 rfl (lv_room (Nat.le_of_ble_eq_true rfl)) dX8_appeal_145 ⟨by omega, by omega⟩) hS (fun q _ h => h) (fun q h => h) (fun H locs hP hz9 hk9 hS => ?_)
              have hP : va_P D vwCl (mw cA A (upd (upd (upd (x) 1 (nI (kpC w ch))) 3 (nI (0))) 4 (nI (0))) (va_up (va_up (f) 0 (upd (f 0) (44 + 8 * (j_3) + (2)) (((gof (f 0) (j_3) (2)) ^^^ ((nI (1)) <<< ((oI (dbM (f 0) jn (gof (f 0) (j_3) (2)))) &&& 31))) ^^^ ((nI (1)) <<< ((oI (cldM (f 0) jn cn (gof (f 0) (j_3) (2)) (nI (0)))) &&& 31))))) 1 (kpK w (f 0) (f 1) ch))) H := hP
              have hD : va_D (MA A) (mw cA A (upd (upd (upd (x) 1 (nI (kpC w ch))) 3 (nI (0))) 4 (nI (0))) (va_up (va_up (f) 0 (upd (f 0) (44 + 8 * (j_3) + (2)) (((gof (f 0) (j_3) (2)) ^^^ ((nI (1)) <<< ((oI (dbM (f 0) jn (gof (f 0) (j_3) (2)))) &&& 31))) ^^^ ((nI (1)) <<< ((oI (cldM (f 0) jn cn (gof (f 0) (j_3) (2)) (nI (0)))) &&& 31))))) 1 (kpK w (f 0) (f 1) ch))) := mD hA
              have kg_12 : (upd (f 0) (44 + 8 * (j_3) + (2)) (((gof (f 0) (j_3) (2)) ^^^ ((nI (1)) <<< ((oI (dbM (f 0) jn (gof (f 0) (j_3) (2)))) &&& 31))) ^^^ ((nI (1)) <<< ((oI (cldM (f 0) jn cn (gof (f 0) (j_3) (2)) (nI (0)))) &&& 31)))) 0 = nI (jn) := (by rw [pk_un (by omega)]; exact hj)
              have kg_13 : (upd (f 0) (44 + 8 * (j_3) + (2)) (((gof (f 0) (j_3) (2)) ^^^ ((nI (1)) <<< ((oI (dbM (f 0) jn (gof (f 0) (j_3) (2)))) &&& 31))) ^^^ ((nI (1)) <<< ((oI (cldM (f 0) jn cn (gof (f 0) (j_3) (2)) (nI (0)))) &&& 31)))) 1 = nI (cn) := (by rw [pk_un (by omega)]; exact hc)
              refine lv_aload_n hx hb dX8_appeal_148 rfl (lv_at hl 1 rfl) ?_
              refine lv_iload_n hx hb dX8_appeal_149 rfl (lv_at hl 2 rfl) ?_
              refine wr_calli (va_runV (As := [.int (nI (j_3))]) (rest := []) ⟨hx, hb, hml, hown, hts⟩ (c_X8_says l D cA A (upd (upd (upd (x) 1 (nI (kpC w ch))) 3 (nI (0))) 4 (nI (0))) (va_up (va_up (f) 0 (upd (f 0) (44 + 8 * (j_3) + (2)) (((gof (f 0) (j_3) (2)) ^^^ ((nI (1)) <<< ((oI (dbM (f 0) jn (gof (f 0) (j_3) (2)))) &&& 31))) ^^^ ((nI (1)) <<< ((oI (cldM (f 0) jn cn (gof (f 0) (j_3) (2)) (nI (0)))) &&& 31))))) 1 (kpK w (f 0) (f 1) ch)) (j_3) jn hA kg_12 hjn (by omega)) (cwV 1 hts (gWV gm_17_19 gm_17_20 gm_17_21 gm_1_5 gm_17_22) rfl rfl rfl (by decide +kernel) ⟨Nat.le_of_ble_eq_true rfl, Nat.le_of_ble_eq_true rfl⟩) (gPreV hK (g_rf hK hP (ci := 10) (q0 := 0) rfl rfl) hP) rfl rfl hl.1 rfl (lv_room (Nat.le_of_ble_eq_true rfl)) dX8_appeal_150 ⟨by omega, by omega⟩) hS (fun q _ h => h) (fun q h => h) (fun r H locs hw9 hz9 hk9 hS => ?_)
              obtain ⟨rfl, hP⟩ := hw9
              have hP : va_P D vwCl (mw cA A (upd (upd (upd (x) 1 (nI (kpC w ch))) 3 (nI (0))) 4 (nI (0))) (va_up (va_up (va_up (va_up (f) 0 (sy5 (upd (f 0) (44 + 8 * (j_3) + (2)) (((gof (f 0) (j_3) (2)) ^^^ ((nI (1)) <<< ((oI (dbM (f 0) jn (gof (f 0) (j_3) (2)))) &&& 31))) ^^^ ((nI (1)) <<< ((oI (cldM (f 0) jn cn (gof (f 0) (j_3) (2)) (nI (0)))) &&& 31)))) (f 6) (f 7) jn (j_3))) 1 (kpK w (f 0) (f 1) ch)) 6 ((lmS (upd (f 0) (44 + 8 * (j_3) + (2)) (((gof (f 0) (j_3) (2)) ^^^ ((nI (1)) <<< ((oI (dbM (f 0) jn (gof (f 0) (j_3) (2)))) &&& 31))) ^^^ ((nI (1)) <<< ((oI (cldM (f 0) jn cn (gof (f 0) (j_3) (2)) (nI (0)))) &&& 31)))) (f 6) (f 7) jn).1)) 7 (syD (upd (f 0) (44 + 8 * (j_3) + (2)) (((gof (f 0) (j_3) (2)) ^^^ ((nI (1)) <<< ((oI (dbM (f 0) jn (gof (f 0) (j_3) (2)))) &&& 31))) ^^^ ((nI (1)) <<< ((oI (cldM (f 0) jn cn (gof (f 0) (j_3) (2)) (nI (0)))) &&& 31)))) (f 6) (f 7) jn (j_3)))) H := hP
              have hD : va_D (MA A) (mw cA A (upd (upd (upd (x) 1 (nI (kpC w ch))) 3 (nI (0))) 4 (nI (0))) (va_up (va_up (va_up (va_up (f) 0 (sy5 (upd (f 0) (44 + 8 * (j_3) + (2)) (((gof (f 0) (j_3) (2)) ^^^ ((nI (1)) <<< ((oI (dbM (f 0) jn (gof (f 0) (j_3) (2)))) &&& 31))) ^^^ ((nI (1)) <<< ((oI (cldM (f 0) jn cn (gof (f 0) (j_3) (2)) (nI (0)))) &&& 31)))) (f 6) (f 7) jn (j_3))) 1 (kpK w (f 0) (f 1) ch)) 6 ((lmS (upd (f 0) (44 + 8 * (j_3) + (2)) (((gof (f 0) (j_3) (2)) ^^^ ((nI (1)) <<< ((oI (dbM (f 0) jn (gof (f 0) (j_3) (2)))) &&& 31))) ^^^ ((nI (1)) <<< ((oI (cldM (f 0) jn cn (gof (f 0) (j_3) (2)) (nI (0)))) &&& 31)))) (f 6) (f 7) jn).1)) 7 (syD (upd (f 0) (44 + 8 * (j_3) + (2)) (((gof (f 0) (j_3) (2)) ^^^ ((nI (1)) <<< ((oI (dbM (f 0) jn (gof (f 0) (j_3) (2)))) &&& 31))) ^^^ ((nI (1)) <<< ((oI (cldM (f 0) jn cn (gof (f 0) (j_3) (2)) (nI (0)))) &&& 31)))) (f 6) (f 7) jn (j_3)))) := mD hA
              have kg_14 : (sy5 (upd (f 0) (44 + 8 * (j_3) + (2)) (((gof (f 0) (j_3) (2)) ^^^ ((nI (1)) <<< ((oI (dbM (f 0) jn (gof (f 0) (j_3) (2)))) &&& 31))) ^^^ ((nI (1)) <<< ((oI (cldM (f 0) jn cn (gof (f 0) (j_3) (2)) (nI (0)))) &&& 31)))) (f 6) (f 7) jn (j_3)) 0 = nI (jn) := (by rw [sy5_lo (by decide) (by decide)]; exact kg_12)
              have kg_15 : (sy5 (upd (f 0) (44 + 8 * (j_3) + (2)) (((gof (f 0) (j_3) (2)) ^^^ ((nI (1)) <<< ((oI (dbM (f 0) jn (gof (f 0) (j_3) (2)))) &&& 31))) ^^^ ((nI (1)) <<< ((oI (cldM (f 0) jn cn (gof (f 0) (j_3) (2)) (nI (0)))) &&& 31)))) (f 6) (f 7) jn (j_3)) 1 = nI (cn) := (by rw [sy5_lo (by decide) (by decide)]; exact kg_13)
              refine lv_istore_n (lv' := [(3, .int (nI (syV (upd (f 0) (44 + 8 * (j_3) + (2)) (((gof (f 0) (j_3) (2)) ^^^ ((nI (1)) <<< ((oI (dbM (f 0) jn (gof (f 0) (j_3) (2)))) &&& 31))) ^^^ ((nI (1)) <<< ((oI (cldM (f 0) jn cn (gof (f 0) (j_3) (2)) (nI (0)))) &&& 31)))) (f 6) (f 7) jn (j_3)))), (2, .int (gof (f 0) (j_3) (2))), (0, .ref (A 0)), (1, .int (nI (j_3)))]) hx hb dX8_appeal_153 rfl hl (by decide) rfl (fun ls hl => ?_)
              refine lv_aload_n hx hb dX8_appeal_154 rfl (lv_at hl 2 rfl) ?_
              refine lv_iload_n hx hb dX8_appeal_155 rfl (lv_at hl 3 rfl) ?_
              refine lv_iconst (v := nI (1)) hx hb dX8_appeal_156 gc_1 ?_
              refine lv_aload_n hx hb dX8_appeal_157 rfl (lv_at hl 2 rfl) ?_
              refine lv_iload_n hx hb dX8_appeal_158 rfl (lv_at hl 3 rfl) ?_
              refine lv_iconst (v := nI (1)) hx hb dX8_appeal_159 gc_1 ?_
              refine rd_calle (va_runV (As := [.int (nI (j_3)), .int (nI (1))]) (rest := [.int (nI (1)), .int (nI (j_3)), .ref (A 0)]) ⟨hx, hb, hml, hown, hts⟩ (c_X8_of l D cA A (upd (upd (upd (x) 1 (nI (kpC w ch))) 3 (nI (0))) 4 (nI (0))) (va_up (va_up (va_up (va_up (f) 0 (sy5 (upd (f 0) (44 + 8 * (j_3) + (2)) (((gof (f 0) (j_3) (2)) ^^^ ((nI (1)) <<< ((oI (dbM (f 0) jn (gof (f 0) (j_3) (2)))) &&& 31))) ^^^ ((nI (1)) <<< ((oI (cldM (f 0) jn cn (gof (f 0) (j_3) (2)) (nI (0)))) &&& 31)))) (f 6) (f 7) jn (j_3))) 1 (kpK w (f 0) (f 1) ch)) 6 ((lmS (upd (f 0) (44 + 8 * (j_3) + (2)) (((gof (f 0) (j_3) (2)) ^^^ ((nI (1)) <<< ((oI (dbM (f 0) jn (gof (f 0) (j_3) (2)))) &&& 31))) ^^^ ((nI (1)) <<< ((oI (cldM (f 0) jn cn (gof (f 0) (j_3) (2)) (nI (0)))) &&& 31)))) (f 6) (f 7) jn).1)) 7 (syD (upd (f 0) (44 + 8 * (j_3) + (2)) (((gof (f 0) (j_3) (2)) ^^^ ((nI (1)) <<< ((oI (dbM (f 0) jn (gof (f 0) (j_3) (2)))) &&& 31))) ^^^ ((nI (1)) <<< ((oI (cldM (f 0) jn cn (gof (f 0) (j_3) (2)) (nI (0)))) &&& 31)))) (f 6) (f 7) jn (j_3))) (j_3) (1) (by omega)) (cwV 2 hts (gWV gm_14_3 gm_14_4 gm_14_5 gm_1_5 gm_14_6) rfl rfl rfl (by decide +kernel) ⟨Nat.le_of_ble_eq_true rfl, Nat.le_of_ble_eq_true rfl⟩) (gPreV hK (g_rf hK hP (ci := 10) (q0 := 0) rfl rfl) hP) rfl rfl hl.1 rfl (lv_room (Nat.le_of_ble_eq_true rfl)) dX8_appeal_160 ⟨by omega, by omega⟩) ?_
              refine lv_iconst (v := nI (3)) hx hb dX8_appeal_163 gc_3 ?_
              refine lv_iadd hx hb dX8_appeal_164 ?_
              refine lv_iconst (v := nI (0)) hx hb dX8_appeal_165 gc_0 ?_
              refine lv_bipush (v := nI (99)) hx hb dX8_appeal_166 gb_99 ?_
              refine rd_calle (va_runS (As := [.int ((gof (sy5 (upd (f 0) (44 + 8 * (j_3) + (2)) (((gof (f 0) (j_3) (2)) ^^^ ((nI (1)) <<< ((oI (dbM (f 0) jn (gof (f 0) (j_3) (2)))) &&& 31))) ^^^ ((nI (1)) <<< ((oI (cldM (f 0) jn cn (gof (f 0) (j_3) (2)) (nI (0)))) &&& 31)))) (f 6) (f 7) jn (j_3)) (j_3) (1)) + (nI (3))), .int (nI (0)), .int (nI (99))]) (rest := [.int (nI (1)), .int (nI (j_3)), .ref (A 0)]) ⟨hx, hb, hml, hown, hts⟩ (c_X8_within l D cA ((gof (sy5 (upd (f 0) (44 + 8 * (j_3) + (2)) (((gof (f 0) (j_3) (2)) ^^^ ((nI (1)) <<< ((oI (dbM (f 0) jn (gof (f 0) (j_3) (2)))) &&& 31))) ^^^ ((nI (1)) <<< ((oI (cldM (f 0) jn cn (gof (f 0) (j_3) (2)) (nI (0)))) &&& 31)))) (f 6) (f 7) jn (j_3)) (j_3) (1)) + (nI (3))) (nI (0)) (nI (99))) (cwS 3 hts (gWS gm_18_15 gm_18_16 gm_1_5 gm_18_17) rfl rfl rfl (by decide +kernel) ⟨Nat.le_of_ble_eq_true rfl, Nat.le_of_ble_eq_true rfl⟩) (gPreS hK trivial) rfl rfl hl.1 rfl (lv_room (Nat.le_of_ble_eq_true rfl)) dX8_appeal_168 ⟨by omega, by omega⟩) ?_
              refine wr_callv (va_runV (As := [.int (nI (j_3)), .int (nI (1)), .int (wi ((gof (sy5 (upd (f 0) (44 + 8 * (j_3) + (2)) (((gof (f 0) (j_3) (2)) ^^^ ((nI (1)) <<< ((oI (dbM (f 0) jn (gof (f 0) (j_3) (2)))) &&& 31))) ^^^ ((nI (1)) <<< ((oI (cldM (f 0) jn cn (gof (f 0) (j_3) (2)) (nI (0)))) &&& 31)))) (f 6) (f 7) jn (j_3)) (j_3) (1)) + (nI (3))) (nI (0)) (nI (99)))]) (rest := []) ⟨hx, hb, hml, hown, hts⟩ (c_X8_lays l D cA A (upd (upd (upd (x) 1 (nI (kpC w ch))) 3 (nI (0))) 4 (nI (0))) (va_up (va_up (va_up (va_up (f) 0 (sy5 (upd (f 0) (44 + 8 * (j_3) + (2)) (((gof (f 0) (j_3) (2)) ^^^ ((nI (1)) <<< ((oI (dbM (f 0) jn (gof (f 0) (j_3) (2)))) &&& 31))) ^^^ ((nI (1)) <<< ((oI (cldM (f 0) jn cn (gof (f 0) (j_3) (2)) (nI (0)))) &&& 31)))) (f 6) (f 7) jn (j_3))) 1 (kpK w (f 0) (f 1) ch)) 6 ((lmS (upd (f 0) (44 + 8 * (j_3) + (2)) (((gof (f 0) (j_3) (2)) ^^^ ((nI (1)) <<< ((oI (dbM (f 0) jn (gof (f 0) (j_3) (2)))) &&& 31))) ^^^ ((nI (1)) <<< ((oI (cldM (f 0) jn cn (gof (f 0) (j_3) (2)) (nI (0)))) &&& 31)))) (f 6) (f 7) jn).1)) 7 (syD (upd (f 0) (44 + 8 * (j_3) + (2)) (((gof (f 0) (j_3) (2)) ^^^ ((nI (1)) <<< ((oI (dbM (f 0) jn (gof (f 0) (j_3) (2)))) &&& 31))) ^^^ ((nI (1)) <<< ((oI (cldM (f 0) jn cn (gof (f 0) (j_3) (2)) (nI (0)))) &&& 31)))) (f 6) (f 7) jn (j_3))) (j_3) (1) (wi ((gof (sy5 (upd (f 0) (44 + 8 * (j_3) + (2)) (((gof (f 0) (j_3) (2)) ^^^ ((nI (1)) <<< ((oI (dbM (f 0) jn (gof (f 0) (j_3) (2)))) &&& 31))) ^^^ ((nI (1)) <<< ((oI (cldM (f 0) jn cn (gof (f 0) (j_3) (2)) (nI (0)))) &&& 31)))) (f 6) (f 7) jn (j_3)) (j_3) (1)) + (nI (3))) (nI (0)) (nI (99)))  hA (by omega)) (cwV 3 hts (gWV gm_11_1 gm_11_2 gm_11_3 gm_1_5 gm_11_4) rfl rfl rfl (by decide +kernel) ⟨Nat.le_of_ble_eq_true rfl, Nat.le_of_ble_eq_true rfl⟩) (gPreV hK (g_rf hK hP (ci := 10) (q0 := 0) rfl rfl) hP) rfl rfl hl.1 rfl (lv_room (Nat.le_of_ble_eq_true rfl)) dX8_appeal_171 ⟨by omega, by omega⟩) hS (fun q _ h => h) (fun q h => h) (fun H locs hP hz9 hk9 hS => ?_)
              have hP : va_P D vwCl (mw cA A (upd (upd (upd (x) 1 (nI (kpC w ch))) 3 (nI (0))) 4 (nI (0))) (va_up (va_up (va_up (va_up (f) 0 (upd (sy5 (upd (f 0) (44 + 8 * (j_3) + (2)) (((gof (f 0) (j_3) (2)) ^^^ ((nI (1)) <<< ((oI (dbM (f 0) jn (gof (f 0) (j_3) (2)))) &&& 31))) ^^^ ((nI (1)) <<< ((oI (cldM (f 0) jn cn (gof (f 0) (j_3) (2)) (nI (0)))) &&& 31)))) (f 6) (f 7) jn (j_3)) (44 + 8 * (j_3) + (1)) (wi ((gof (sy5 (upd (f 0) (44 + 8 * (j_3) + (2)) (((gof (f 0) (j_3) (2)) ^^^ ((nI (1)) <<< ((oI (dbM (f 0) jn (gof (f 0) (j_3) (2)))) &&& 31))) ^^^ ((nI (1)) <<< ((oI (cldM (f 0) jn cn (gof (f 0) (j_3) (2)) (nI (0)))) &&& 31)))) (f 6) (f 7) jn (j_3)) (j_3) (1)) + (nI (3))) (nI (0)) (nI (99))))) 1 (kpK w (f 0) (f 1) ch)) 6 ((lmS (upd (f 0) (44 + 8 * (j_3) + (2)) (((gof (f 0) (j_3) (2)) ^^^ ((nI (1)) <<< ((oI (dbM (f 0) jn (gof (f 0) (j_3) (2)))) &&& 31))) ^^^ ((nI (1)) <<< ((oI (cldM (f 0) jn cn (gof (f 0) (j_3) (2)) (nI (0)))) &&& 31)))) (f 6) (f 7) jn).1)) 7 (syD (upd (f 0) (44 + 8 * (j_3) + (2)) (((gof (f 0) (j_3) (2)) ^^^ ((nI (1)) <<< ((oI (dbM (f 0) jn (gof (f 0) (j_3) (2)))) &&& 31))) ^^^ ((nI (1)) <<< ((oI (cldM (f 0) jn cn (gof (f 0) (j_3) (2)) (nI (0)))) &&& 31)))) (f 6) (f 7) jn (j_3)))) H := hP
              have hD : va_D (MA A) (mw cA A (upd (upd (upd (x) 1 (nI (kpC w ch))) 3 (nI (0))) 4 (nI (0))) (va_up (va_up (va_up (va_up (f) 0 (upd (sy5 (upd (f 0) (44 + 8 * (j_3) + (2)) (((gof (f 0) (j_3) (2)) ^^^ ((nI (1)) <<< ((oI (dbM (f 0) jn (gof (f 0) (j_3) (2)))) &&& 31))) ^^^ ((nI (1)) <<< ((oI (cldM (f 0) jn cn (gof (f 0) (j_3) (2)) (nI (0)))) &&& 31)))) (f 6) (f 7) jn (j_3)) (44 + 8 * (j_3) + (1)) (wi ((gof (sy5 (upd (f 0) (44 + 8 * (j_3) + (2)) (((gof (f 0) (j_3) (2)) ^^^ ((nI (1)) <<< ((oI (dbM (f 0) jn (gof (f 0) (j_3) (2)))) &&& 31))) ^^^ ((nI (1)) <<< ((oI (cldM (f 0) jn cn (gof (f 0) (j_3) (2)) (nI (0)))) &&& 31)))) (f 6) (f 7) jn (j_3)) (j_3) (1)) + (nI (3))) (nI (0)) (nI (99))))) 1 (kpK w (f 0) (f 1) ch)) 6 ((lmS (upd (f 0) (44 + 8 * (j_3) + (2)) (((gof (f 0) (j_3) (2)) ^^^ ((nI (1)) <<< ((oI (dbM (f 0) jn (gof (f 0) (j_3) (2)))) &&& 31))) ^^^ ((nI (1)) <<< ((oI (cldM (f 0) jn cn (gof (f 0) (j_3) (2)) (nI (0)))) &&& 31)))) (f 6) (f 7) jn).1)) 7 (syD (upd (f 0) (44 + 8 * (j_3) + (2)) (((gof (f 0) (j_3) (2)) ^^^ ((nI (1)) <<< ((oI (dbM (f 0) jn (gof (f 0) (j_3) (2)))) &&& 31))) ^^^ ((nI (1)) <<< ((oI (cldM (f 0) jn cn (gof (f 0) (j_3) (2)) (nI (0)))) &&& 31)))) (f 6) (f 7) jn (j_3)))) := mD hA
              have kg_16 : (upd (sy5 (upd (f 0) (44 + 8 * (j_3) + (2)) (((gof (f 0) (j_3) (2)) ^^^ ((nI (1)) <<< ((oI (dbM (f 0) jn (gof (f 0) (j_3) (2)))) &&& 31))) ^^^ ((nI (1)) <<< ((oI (cldM (f 0) jn cn (gof (f 0) (j_3) (2)) (nI (0)))) &&& 31)))) (f 6) (f 7) jn (j_3)) (44 + 8 * (j_3) + (1)) (wi ((gof (sy5 (upd (f 0) (44 + 8 * (j_3) + (2)) (((gof (f 0) (j_3) (2)) ^^^ ((nI (1)) <<< ((oI (dbM (f 0) jn (gof (f 0) (j_3) (2)))) &&& 31))) ^^^ ((nI (1)) <<< ((oI (cldM (f 0) jn cn (gof (f 0) (j_3) (2)) (nI (0)))) &&& 31)))) (f 6) (f 7) jn (j_3)) (j_3) (1)) + (nI (3))) (nI (0)) (nI (99)))) 0 = nI (jn) := (by rw [pk_un (by omega)]; exact kg_14)
              have kg_17 : (upd (sy5 (upd (f 0) (44 + 8 * (j_3) + (2)) (((gof (f 0) (j_3) (2)) ^^^ ((nI (1)) <<< ((oI (dbM (f 0) jn (gof (f 0) (j_3) (2)))) &&& 31))) ^^^ ((nI (1)) <<< ((oI (cldM (f 0) jn cn (gof (f 0) (j_3) (2)) (nI (0)))) &&& 31)))) (f 6) (f 7) jn (j_3)) (44 + 8 * (j_3) + (1)) (wi ((gof (sy5 (upd (f 0) (44 + 8 * (j_3) + (2)) (((gof (f 0) (j_3) (2)) ^^^ ((nI (1)) <<< ((oI (dbM (f 0) jn (gof (f 0) (j_3) (2)))) &&& 31))) ^^^ ((nI (1)) <<< ((oI (cldM (f 0) jn cn (gof (f 0) (j_3) (2)) (nI (0)))) &&& 31)))) (f 6) (f 7) jn (j_3)) (j_3) (1)) + (nI (3))) (nI (0)) (nI (99)))) 1 = nI (cn) := (by rw [pk_un (by omega)]; exact kg_15)
              refine lv_aload_n hx hb dX8_appeal_174 rfl (lv_at hl 2 rfl) ?_
              refine lv_iload_n hx hb dX8_appeal_175 rfl (lv_at hl 3 rfl) ?_
              refine lv_bipush (v := nI (7)) hx hb dX8_appeal_176 gb_7 ?_
              refine lv_aload_n hx hb dX8_appeal_178 rfl (lv_at hl 2 rfl) ?_
              refine lv_iload_n hx hb dX8_appeal_179 rfl (lv_at hl 3 rfl) ?_
              refine lv_bipush (v := nI (7)) hx hb dX8_appeal_180 gb_7 ?_
              refine rd_calle (va_runV (As := [.int (nI (j_3)), .int (nI (7))]) (rest := [.int (nI (7)), .int (nI (j_3)), .ref (A 0)]) ⟨hx, hb, hml, hown, hts⟩ (c_X8_of l D cA A (upd (upd (upd (x) 1 (nI (kpC w ch))) 3 (nI (0))) 4 (nI (0))) (va_up (va_up (va_up (va_up (f) 0 (upd (sy5 (upd (f 0) (44 + 8 * (j_3) + (2)) (((gof (f 0) (j_3) (2)) ^^^ ((nI (1)) <<< ((oI (dbM (f 0) jn (gof (f 0) (j_3) (2)))) &&& 31))) ^^^ ((nI (1)) <<< ((oI (cldM (f 0) jn cn (gof (f 0) (j_3) (2)) (nI (0)))) &&& 31)))) (f 6) (f 7) jn (j_3)) (44 + 8 * (j_3) + (1)) (wi ((gof (sy5 (upd (f 0) (44 + 8 * (j_3) + (2)) (((gof (f 0) (j_3) (2)) ^^^ ((nI (1)) <<< ((oI (dbM (f 0) jn (gof (f 0) (j_3) (2)))) &&& 31))) ^^^ ((nI (1)) <<< ((oI (cldM (f 0) jn cn (gof (f 0) (j_3) (2)) (nI (0)))) &&& 31)))) (f 6) (f 7) jn (j_3)) (j_3) (1)) + (nI (3))) (nI (0)) (nI (99))))) 1 (kpK w (f 0) (f 1) ch)) 6 ((lmS (upd (f 0) (44 + 8 * (j_3) + (2)) (((gof (f 0) (j_3) (2)) ^^^ ((nI (1)) <<< ((oI (dbM (f 0) jn (gof (f 0) (j_3) (2)))) &&& 31))) ^^^ ((nI (1)) <<< ((oI (cldM (f 0) jn cn (gof (f 0) (j_3) (2)) (nI (0)))) &&& 31)))) (f 6) (f 7) jn).1)) 7 (syD (upd (f 0) (44 + 8 * (j_3) + (2)) (((gof (f 0) (j_3) (2)) ^^^ ((nI (1)) <<< ((oI (dbM (f 0) jn (gof (f 0) (j_3) (2)))) &&& 31))) ^^^ ((nI (1)) <<< ((oI (cldM (f 0) jn cn (gof (f 0) (j_3) (2)) (nI (0)))) &&& 31)))) (f 6) (f 7) jn (j_3))) (j_3) (7) (by omega)) (cwV 2 hts (gWV gm_14_3 gm_14_4 gm_14_5 gm_1_5 gm_14_6) rfl rfl rfl (by decide +kernel) ⟨Nat.le_of_ble_eq_true rfl, Nat.le_of_ble_eq_true rfl⟩) (gPreV hK (g_rf hK hP (ci := 10) (q0 := 0) rfl rfl) hP) rfl rfl hl.1 rfl (lv_room (Nat.le_of_ble_eq_true rfl)) dX8_appeal_182 ⟨by omega, by omega⟩) ?_
              refine lv_iconst (v := nI (1)) hx hb dX8_appeal_185 gc_1 ?_
              refine lv_iadd hx hb dX8_appeal_186 ?_
              refine wr_callv (va_runV (As := [.int (nI (j_3)), .int (nI (7)), .int ((gof (upd (sy5 (upd (f 0) (44 + 8 * (j_3) + (2)) (((gof (f 0) (j_3) (2)) ^^^ ((nI (1)) <<< ((oI (dbM (f 0) jn (gof (f 0) (j_3) (2)))) &&& 31))) ^^^ ((nI (1)) <<< ((oI (cldM (f 0) jn cn (gof (f 0) (j_3) (2)) (nI (0)))) &&& 31)))) (f 6) (f 7) jn (j_3)) (44 + 8 * (j_3) + (1)) (wi ((gof (sy5 (upd (f 0) (44 + 8 * (j_3) + (2)) (((gof (f 0) (j_3) (2)) ^^^ ((nI (1)) <<< ((oI (dbM (f 0) jn (gof (f 0) (j_3) (2)))) &&& 31))) ^^^ ((nI (1)) <<< ((oI (cldM (f 0) jn cn (gof (f 0) (j_3) (2)) (nI (0)))) &&& 31)))) (f 6) (f 7) jn (j_3)) (j_3) (1)) + (nI (3))) (nI (0)) (nI (99)))) (j_3) (7)) + (nI (1)))]) (rest := []) ⟨hx, hb, hml, hown, hts⟩ (c_X8_lays l D cA A (upd (upd (upd (x) 1 (nI (kpC w ch))) 3 (nI (0))) 4 (nI (0))) (va_up (va_up (va_up (va_up (f) 0 (upd (sy5 (upd (f 0) (44 + 8 * (j_3) + (2)) (((gof (f 0) (j_3) (2)) ^^^ ((nI (1)) <<< ((oI (dbM (f 0) jn (gof (f 0) (j_3) (2)))) &&& 31))) ^^^ ((nI (1)) <<< ((oI (cldM (f 0) jn cn (gof (f 0) (j_3) (2)) (nI (0)))) &&& 31)))) (f 6) (f 7) jn (j_3)) (44 + 8 * (j_3) + (1)) (wi ((gof (sy5 (upd (f 0) (44 + 8 * (j_3) + (2)) (((gof (f 0) (j_3) (2)) ^^^ ((nI (1)) <<< ((oI (dbM (f 0) jn (gof (f 0) (j_3) (2)))) &&& 31))) ^^^ ((nI (1)) <<< ((oI (cldM (f 0) jn cn (gof (f 0) (j_3) (2)) (nI (0)))) &&& 31)))) (f 6) (f 7) jn (j_3)) (j_3) (1)) + (nI (3))) (nI (0)) (nI (99))))) 1 (kpK w (f 0) (f 1) ch)) 6 ((lmS (upd (f 0) (44 + 8 * (j_3) + (2)) (((gof (f 0) (j_3) (2)) ^^^ ((nI (1)) <<< ((oI (dbM (f 0) jn (gof (f 0) (j_3) (2)))) &&& 31))) ^^^ ((nI (1)) <<< ((oI (cldM (f 0) jn cn (gof (f 0) (j_3) (2)) (nI (0)))) &&& 31)))) (f 6) (f 7) jn).1)) 7 (syD (upd (f 0) (44 + 8 * (j_3) + (2)) (((gof (f 0) (j_3) (2)) ^^^ ((nI (1)) <<< ((oI (dbM (f 0) jn (gof (f 0) (j_3) (2)))) &&& 31))) ^^^ ((nI (1)) <<< ((oI (cldM (f 0) jn cn (gof (f 0) (j_3) (2)) (nI (0)))) &&& 31)))) (f 6) (f 7) jn (j_3))) (j_3) (7) ((gof (upd (sy5 (upd (f 0) (44 + 8 * (j_3) + (2)) (((gof (f 0) (j_3) (2)) ^^^ ((nI (1)) <<< ((oI (dbM (f 0) jn (gof (f 0) (j_3) (2)))) &&& 31))) ^^^ ((nI (1)) <<< ((oI (cldM (f 0) jn cn (gof (f 0) (j_3) (2)) (nI (0)))) &&& 31)))) (f 6) (f 7) jn (j_3)) (44 + 8 * (j_3) + (1)) (wi ((gof (sy5 (upd (f 0) (44 + 8 * (j_3) + (2)) (((gof (f 0) (j_3) (2)) ^^^ ((nI (1)) <<< ((oI (dbM (f 0) jn (gof (f 0) (j_3) (2)))) &&& 31))) ^^^ ((nI (1)) <<< ((oI (cldM (f 0) jn cn (gof (f 0) (j_3) (2)) (nI (0)))) &&& 31)))) (f 6) (f 7) jn (j_3)) (j_3) (1)) + (nI (3))) (nI (0)) (nI (99)))) (j_3) (7)) + (nI (1)))  hA (by omega)) (cwV 3 hts (gWV gm_11_1 gm_11_2 gm_11_3 gm_1_5 gm_11_4) rfl rfl rfl (by decide +kernel) ⟨Nat.le_of_ble_eq_true rfl, Nat.le_of_ble_eq_true rfl⟩) (gPreV hK (g_rf hK hP (ci := 10) (q0 := 0) rfl rfl) hP) rfl rfl hl.1 rfl (lv_room (Nat.le_of_ble_eq_true rfl)) dX8_appeal_187 ⟨by omega, by omega⟩) hS (fun q _ h => h) (fun q h => h) (fun H locs hP hz9 hk9 hS => ?_)
              have hP : va_P D vwCl (mw cA A (upd (upd (upd (x) 1 (nI (kpC w ch))) 3 (nI (0))) 4 (nI (0))) (va_up (va_up (va_up (va_up (f) 0 (upd (upd (sy5 (upd (f 0) (44 + 8 * (j_3) + (2)) (((gof (f 0) (j_3) (2)) ^^^ ((nI (1)) <<< ((oI (dbM (f 0) jn (gof (f 0) (j_3) (2)))) &&& 31))) ^^^ ((nI (1)) <<< ((oI (cldM (f 0) jn cn (gof (f 0) (j_3) (2)) (nI (0)))) &&& 31)))) (f 6) (f 7) jn (j_3)) (44 + 8 * (j_3) + (1)) (wi ((gof (sy5 (upd (f 0) (44 + 8 * (j_3) + (2)) (((gof (f 0) (j_3) (2)) ^^^ ((nI (1)) <<< ((oI (dbM (f 0) jn (gof (f 0) (j_3) (2)))) &&& 31))) ^^^ ((nI (1)) <<< ((oI (cldM (f 0) jn cn (gof (f 0) (j_3) (2)) (nI (0)))) &&& 31)))) (f 6) (f 7) jn (j_3)) (j_3) (1)) + (nI (3))) (nI (0)) (nI (99)))) (44 + 8 * (j_3) + (7)) ((gof (upd (sy5 (upd (f 0) (44 + 8 * (j_3) + (2)) (((gof (f 0) (j_3) (2)) ^^^ ((nI (1)) <<< ((oI (dbM (f 0) jn (gof (f 0) (j_3) (2)))) &&& 31))) ^^^ ((nI (1)) <<< ((oI (cldM (f 0) jn cn (gof (f 0) (j_3) (2)) (nI (0)))) &&& 31)))) (f 6) (f 7) jn (j_3)) (44 + 8 * (j_3) + (1)) (wi ((gof (sy5 (upd (f 0) (44 + 8 * (j_3) + (2)) (((gof (f 0) (j_3) (2)) ^^^ ((nI (1)) <<< ((oI (dbM (f 0) jn (gof (f 0) (j_3) (2)))) &&& 31))) ^^^ ((nI (1)) <<< ((oI (cldM (f 0) jn cn (gof (f 0) (j_3) (2)) (nI (0)))) &&& 31)))) (f 6) (f 7) jn (j_3)) (j_3) (1)) + (nI (3))) (nI (0)) (nI (99)))) (j_3) (7)) + (nI (1))))) 1 (kpK w (f 0) (f 1) ch)) 6 ((lmS (upd (f 0) (44 + 8 * (j_3) + (2)) (((gof (f 0) (j_3) (2)) ^^^ ((nI (1)) <<< ((oI (dbM (f 0) jn (gof (f 0) (j_3) (2)))) &&& 31))) ^^^ ((nI (1)) <<< ((oI (cldM (f 0) jn cn (gof (f 0) (j_3) (2)) (nI (0)))) &&& 31)))) (f 6) (f 7) jn).1)) 7 (syD (upd (f 0) (44 + 8 * (j_3) + (2)) (((gof (f 0) (j_3) (2)) ^^^ ((nI (1)) <<< ((oI (dbM (f 0) jn (gof (f 0) (j_3) (2)))) &&& 31))) ^^^ ((nI (1)) <<< ((oI (cldM (f 0) jn cn (gof (f 0) (j_3) (2)) (nI (0)))) &&& 31)))) (f 6) (f 7) jn (j_3)))) H := hP
              have hD : va_D (MA A) (mw cA A (upd (upd (upd (x) 1 (nI (kpC w ch))) 3 (nI (0))) 4 (nI (0))) (va_up (va_up (va_up (va_up (f) 0 (upd (upd (sy5 (upd (f 0) (44 + 8 * (j_3) + (2)) (((gof (f 0) (j_3) (2)) ^^^ ((nI (1)) <<< ((oI (dbM (f 0) jn (gof (f 0) (j_3) (2)))) &&& 31))) ^^^ ((nI (1)) <<< ((oI (cldM (f 0) jn cn (gof (f 0) (j_3) (2)) (nI (0)))) &&& 31)))) (f 6) (f 7) jn (j_3)) (44 + 8 * (j_3) + (1)) (wi ((gof (sy5 (upd (f 0) (44 + 8 * (j_3) + (2)) (((gof (f 0) (j_3) (2)) ^^^ ((nI (1)) <<< ((oI (dbM (f 0) jn (gof (f 0) (j_3) (2)))) &&& 31))) ^^^ ((nI (1)) <<< ((oI (cldM (f 0) jn cn (gof (f 0) (j_3) (2)) (nI (0)))) &&& 31)))) (f 6) (f 7) jn (j_3)) (j_3) (1)) + (nI (3))) (nI (0)) (nI (99)))) (44 + 8 * (j_3) + (7)) ((gof (upd (sy5 (upd (f 0) (44 + 8 * (j_3) + (2)) (((gof (f 0) (j_3) (2)) ^^^ ((nI (1)) <<< ((oI (dbM (f 0) jn (gof (f 0) (j_3) (2)))) &&& 31))) ^^^ ((nI (1)) <<< ((oI (cldM (f 0) jn cn (gof (f 0) (j_3) (2)) (nI (0)))) &&& 31)))) (f 6) (f 7) jn (j_3)) (44 + 8 * (j_3) + (1)) (wi ((gof (sy5 (upd (f 0) (44 + 8 * (j_3) + (2)) (((gof (f 0) (j_3) (2)) ^^^ ((nI (1)) <<< ((oI (dbM (f 0) jn (gof (f 0) (j_3) (2)))) &&& 31))) ^^^ ((nI (1)) <<< ((oI (cldM (f 0) jn cn (gof (f 0) (j_3) (2)) (nI (0)))) &&& 31)))) (f 6) (f 7) jn (j_3)) (j_3) (1)) + (nI (3))) (nI (0)) (nI (99)))) (j_3) (7)) + (nI (1))))) 1 (kpK w (f 0) (f 1) ch)) 6 ((lmS (upd (f 0) (44 + 8 * (j_3) + (2)) (((gof (f 0) (j_3) (2)) ^^^ ((nI (1)) <<< ((oI (dbM (f 0) jn (gof (f 0) (j_3) (2)))) &&& 31))) ^^^ ((nI (1)) <<< ((oI (cldM (f 0) jn cn (gof (f 0) (j_3) (2)) (nI (0)))) &&& 31)))) (f 6) (f 7) jn).1)) 7 (syD (upd (f 0) (44 + 8 * (j_3) + (2)) (((gof (f 0) (j_3) (2)) ^^^ ((nI (1)) <<< ((oI (dbM (f 0) jn (gof (f 0) (j_3) (2)))) &&& 31))) ^^^ ((nI (1)) <<< ((oI (cldM (f 0) jn cn (gof (f 0) (j_3) (2)) (nI (0)))) &&& 31)))) (f 6) (f 7) jn (j_3)))) := mD hA
              have kg_18 : (upd (upd (sy5 (upd (f 0) (44 + 8 * (j_3) + (2)) (((gof (f 0) (j_3) (2)) ^^^ ((nI (1)) <<< ((oI (dbM (f 0) jn (gof (f 0) (j_3) (2)))) &&& 31))) ^^^ ((nI (1)) <<< ((oI (cldM (f 0) jn cn (gof (f 0) (j_3) (2)) (nI (0)))) &&& 31)))) (f 6) (f 7) jn (j_3)) (44 + 8 * (j_3) + (1)) (wi ((gof (sy5 (upd (f 0) (44 + 8 * (j_3) + (2)) (((gof (f 0) (j_3) (2)) ^^^ ((nI (1)) <<< ((oI (dbM (f 0) jn (gof (f 0) (j_3) (2)))) &&& 31))) ^^^ ((nI (1)) <<< ((oI (cldM (f 0) jn cn (gof (f 0) (j_3) (2)) (nI (0)))) &&& 31)))) (f 6) (f 7) jn (j_3)) (j_3) (1)) + (nI (3))) (nI (0)) (nI (99)))) (44 + 8 * (j_3) + (7)) ((gof (upd (sy5 (upd (f 0) (44 + 8 * (j_3) + (2)) (((gof (f 0) (j_3) (2)) ^^^ ((nI (1)) <<< ((oI (dbM (f 0) jn (gof (f 0) (j_3) (2)))) &&& 31))) ^^^ ((nI (1)) <<< ((oI (cldM (f 0) jn cn (gof (f 0) (j_3) (2)) (nI (0)))) &&& 31)))) (f 6) (f 7) jn (j_3)) (44 + 8 * (j_3) + (1)) (wi ((gof (sy5 (upd (f 0) (44 + 8 * (j_3) + (2)) (((gof (f 0) (j_3) (2)) ^^^ ((nI (1)) <<< ((oI (dbM (f 0) jn (gof (f 0) (j_3) (2)))) &&& 31))) ^^^ ((nI (1)) <<< ((oI (cldM (f 0) jn cn (gof (f 0) (j_3) (2)) (nI (0)))) &&& 31)))) (f 6) (f 7) jn (j_3)) (j_3) (1)) + (nI (3))) (nI (0)) (nI (99)))) (j_3) (7)) + (nI (1)))) 0 = nI (jn) := (by rw [pk_un (by omega)]; exact kg_16)
              have kg_19 : (upd (upd (sy5 (upd (f 0) (44 + 8 * (j_3) + (2)) (((gof (f 0) (j_3) (2)) ^^^ ((nI (1)) <<< ((oI (dbM (f 0) jn (gof (f 0) (j_3) (2)))) &&& 31))) ^^^ ((nI (1)) <<< ((oI (cldM (f 0) jn cn (gof (f 0) (j_3) (2)) (nI (0)))) &&& 31)))) (f 6) (f 7) jn (j_3)) (44 + 8 * (j_3) + (1)) (wi ((gof (sy5 (upd (f 0) (44 + 8 * (j_3) + (2)) (((gof (f 0) (j_3) (2)) ^^^ ((nI (1)) <<< ((oI (dbM (f 0) jn (gof (f 0) (j_3) (2)))) &&& 31))) ^^^ ((nI (1)) <<< ((oI (cldM (f 0) jn cn (gof (f 0) (j_3) (2)) (nI (0)))) &&& 31)))) (f 6) (f 7) jn (j_3)) (j_3) (1)) + (nI (3))) (nI (0)) (nI (99)))) (44 + 8 * (j_3) + (7)) ((gof (upd (sy5 (upd (f 0) (44 + 8 * (j_3) + (2)) (((gof (f 0) (j_3) (2)) ^^^ ((nI (1)) <<< ((oI (dbM (f 0) jn (gof (f 0) (j_3) (2)))) &&& 31))) ^^^ ((nI (1)) <<< ((oI (cldM (f 0) jn cn (gof (f 0) (j_3) (2)) (nI (0)))) &&& 31)))) (f 6) (f 7) jn (j_3)) (44 + 8 * (j_3) + (1)) (wi ((gof (sy5 (upd (f 0) (44 + 8 * (j_3) + (2)) (((gof (f 0) (j_3) (2)) ^^^ ((nI (1)) <<< ((oI (dbM (f 0) jn (gof (f 0) (j_3) (2)))) &&& 31))) ^^^ ((nI (1)) <<< ((oI (cldM (f 0) jn cn (gof (f 0) (j_3) (2)) (nI (0)))) &&& 31)))) (f 6) (f 7) jn (j_3)) (j_3) (1)) + (nI (3))) (nI (0)) (nI (99)))) (j_3) (7)) + (nI (1)))) 1 = nI (cn) := (by rw [pk_un (by omega)]; exact kg_17)
              refine lv_aload_n hx hb dX8_appeal_190 rfl (lv_at hl 2 rfl) ?_
              refine g_get (v := .ref (A 1)) hx hb hts hown hK hP 0 rfl rfl gu_wsX80 0 (by decide) gm_5_14 rfl dX8_appeal_191 ?_
              refine lv_bipush (v := nI (6)) hx hb dX8_appeal_194 gb_6 ?_
              refine lv_dup2_11 hx hb dX8_appeal_196 rfl rfl ?_
              refine g_iald (x := upd (upd (sy5 (upd (f 0) (44 + 8 * (j_3) + (2)) (((gof (f 0) (j_3) (2)) ^^^ ((nI (1)) <<< ((oI (dbM (f 0) jn (gof (f 0) (j_3) (2)))) &&& 31))) ^^^ ((nI (1)) <<< ((oI (cldM (f 0) jn cn (gof (f 0) (j_3) (2)) (nI (0)))) &&& 31)))) (f 6) (f 7) jn (j_3)) (44 + 8 * (j_3) + (1)) (wi ((gof (sy5 (upd (f 0) (44 + 8 * (j_3) + (2)) (((gof (f 0) (j_3) (2)) ^^^ ((nI (1)) <<< ((oI (dbM (f 0) jn (gof (f 0) (j_3) (2)))) &&& 31))) ^^^ ((nI (1)) <<< ((oI (cldM (f 0) jn cn (gof (f 0) (j_3) (2)) (nI (0)))) &&& 31)))) (f 6) (f 7) jn (j_3)) (j_3) (1)) + (nI (3))) (nI (0)) (nI (99)))) (44 + 8 * (j_3) + (7)) ((gof (upd (sy5 (upd (f 0) (44 + 8 * (j_3) + (2)) (((gof (f 0) (j_3) (2)) ^^^ ((nI (1)) <<< ((oI (dbM (f 0) jn (gof (f 0) (j_3) (2)))) &&& 31))) ^^^ ((nI (1)) <<< ((oI (cldM (f 0) jn cn (gof (f 0) (j_3) (2)) (nI (0)))) &&& 31)))) (f 6) (f 7) jn (j_3)) (44 + 8 * (j_3) + (1)) (wi ((gof (sy5 (upd (f 0) (44 + 8 * (j_3) + (2)) (((gof (f 0) (j_3) (2)) ^^^ ((nI (1)) <<< ((oI (dbM (f 0) jn (gof (f 0) (j_3) (2)))) &&& 31))) ^^^ ((nI (1)) <<< ((oI (cldM (f 0) jn cn (gof (f 0) (j_3) (2)) (nI (0)))) &&& 31)))) (f 6) (f 7) jn (j_3)) (j_3) (1)) + (nI (3))) (nI (0)) (nI (99)))) (j_3) (7)) + (nI (1))) (6)) hx hb hK hP 1 rfl (by omega) (by decide) rfl dX8_appeal_197 ?_
              refine lv_iconst (v := nI (1)) hx hb dX8_appeal_198 gc_1 ?_
              refine lv_iadd hx hb dX8_appeal_199 ?_
              refine g_iast (ws' := mw cA A (upd (upd (upd (x) 1 (nI (kpC w ch))) 3 (nI (0))) 4 (nI (0))) (va_up (va_up (va_up (va_up (f) 0 (upd (upd (upd (sy5 (upd (f 0) (44 + 8 * (j_3) + (2)) (((gof (f 0) (j_3) (2)) ^^^ ((nI (1)) <<< ((oI (dbM (f 0) jn (gof (f 0) (j_3) (2)))) &&& 31))) ^^^ ((nI (1)) <<< ((oI (cldM (f 0) jn cn (gof (f 0) (j_3) (2)) (nI (0)))) &&& 31)))) (f 6) (f 7) jn (j_3)) (44 + 8 * (j_3) + (1)) (wi ((gof (sy5 (upd (f 0) (44 + 8 * (j_3) + (2)) (((gof (f 0) (j_3) (2)) ^^^ ((nI (1)) <<< ((oI (dbM (f 0) jn (gof (f 0) (j_3) (2)))) &&& 31))) ^^^ ((nI (1)) <<< ((oI (cldM (f 0) jn cn (gof (f 0) (j_3) (2)) (nI (0)))) &&& 31)))) (f 6) (f 7) jn (j_3)) (j_3) (1)) + (nI (3))) (nI (0)) (nI (99)))) (44 + 8 * (j_3) + (7)) ((gof (upd (sy5 (upd (f 0) (44 + 8 * (j_3) + (2)) (((gof (f 0) (j_3) (2)) ^^^ ((nI (1)) <<< ((oI (dbM (f 0) jn (gof (f 0) (j_3) (2)))) &&& 31))) ^^^ ((nI (1)) <<< ((oI (cldM (f 0) jn cn (gof (f 0) (j_3) (2)) (nI (0)))) &&& 31)))) (f 6) (f 7) jn (j_3)) (44 + 8 * (j_3) + (1)) (wi ((gof (sy5 (upd (f 0) (44 + 8 * (j_3) + (2)) (((gof (f 0) (j_3) (2)) ^^^ ((nI (1)) <<< ((oI (dbM (f 0) jn (gof (f 0) (j_3) (2)))) &&& 31))) ^^^ ((nI (1)) <<< ((oI (cldM (f 0) jn cn (gof (f 0) (j_3) (2)) (nI (0)))) &&& 31)))) (f 6) (f 7) jn (j_3)) (j_3) (1)) + (nI (3))) (nI (0)) (nI (99)))) (j_3) (7)) + (nI (1)))) (6) ((upd (upd (sy5 (upd (f 0) (44 + 8 * (j_3) + (2)) (((gof (f 0) (j_3) (2)) ^^^ ((nI (1)) <<< ((oI (dbM (f 0) jn (gof (f 0) (j_3) (2)))) &&& 31))) ^^^ ((nI (1)) <<< ((oI (cldM (f 0) jn cn (gof (f 0) (j_3) (2)) (nI (0)))) &&& 31)))) (f 6) (f 7) jn (j_3)) (44 + 8 * (j_3) + (1)) (wi ((gof (sy5 (upd (f 0) (44 + 8 * (j_3) + (2)) (((gof (f 0) (j_3) (2)) ^^^ ((nI (1)) <<< ((oI (dbM (f 0) jn (gof (f 0) (j_3) (2)))) &&& 31))) ^^^ ((nI (1)) <<< ((oI (cldM (f 0) jn cn (gof (f 0) (j_3) (2)) (nI (0)))) &&& 31)))) (f 6) (f 7) jn (j_3)) (j_3) (1)) + (nI (3))) (nI (0)) (nI (99)))) (44 + 8 * (j_3) + (7)) ((gof (upd (sy5 (upd (f 0) (44 + 8 * (j_3) + (2)) (((gof (f 0) (j_3) (2)) ^^^ ((nI (1)) <<< ((oI (dbM (f 0) jn (gof (f 0) (j_3) (2)))) &&& 31))) ^^^ ((nI (1)) <<< ((oI (cldM (f 0) jn cn (gof (f 0) (j_3) (2)) (nI (0)))) &&& 31)))) (f 6) (f 7) jn (j_3)) (44 + 8 * (j_3) + (1)) (wi ((gof (sy5 (upd (f 0) (44 + 8 * (j_3) + (2)) (((gof (f 0) (j_3) (2)) ^^^ ((nI (1)) <<< ((oI (dbM (f 0) jn (gof (f 0) (j_3) (2)))) &&& 31))) ^^^ ((nI (1)) <<< ((oI (cldM (f 0) jn cn (gof (f 0) (j_3) (2)) (nI (0)))) &&& 31)))) (f 6) (f 7) jn (j_3)) (j_3) (1)) + (nI (3))) (nI (0)) (nI (99)))) (j_3) (7)) + (nI (1))) (6)) + (nI (1))))) 1 (kpK w (f 0) (f 1) ch)) 6 ((lmS (upd (f 0) (44 + 8 * (j_3) + (2)) (((gof (f 0) (j_3) (2)) ^^^ ((nI (1)) <<< ((oI (dbM (f 0) jn (gof (f 0) (j_3) (2)))) &&& 31))) ^^^ ((nI (1)) <<< ((oI (cldM (f 0) jn cn (gof (f 0) (j_3) (2)) (nI (0)))) &&& 31)))) (f 6) (f 7) jn).1)) 7 (syD (upd (f 0) (44 + 8 * (j_3) + (2)) (((gof (f 0) (j_3) (2)) ^^^ ((nI (1)) <<< ((oI (dbM (f 0) jn (gof (f 0) (j_3) (2)))) &&& 31))) ^^^ ((nI (1)) <<< ((oI (cldM (f 0) jn cn (gof (f 0) (j_3) (2)) (nI (0)))) &&& 31)))) (f 6) (f 7) jn (j_3)))) hx hb hK hP hD hS 1 rfl (by omega) (by decide) rfl dX8_appeal_200 (fun H locs hP hD hS => ?_)
              have kg_20 : (upd (upd (upd (sy5 (upd (f 0) (44 + 8 * (j_3) + (2)) (((gof (f 0) (j_3) (2)) ^^^ ((nI (1)) <<< ((oI (dbM (f 0) jn (gof (f 0) (j_3) (2)))) &&& 31))) ^^^ ((nI (1)) <<< ((oI (cldM (f 0) jn cn (gof (f 0) (j_3) (2)) (nI (0)))) &&& 31)))) (f 6) (f 7) jn (j_3)) (44 + 8 * (j_3) + (1)) (wi ((gof (sy5 (upd (f 0) (44 + 8 * (j_3) + (2)) (((gof (f 0) (j_3) (2)) ^^^ ((nI (1)) <<< ((oI (dbM (f 0) jn (gof (f 0) (j_3) (2)))) &&& 31))) ^^^ ((nI (1)) <<< ((oI (cldM (f 0) jn cn (gof (f 0) (j_3) (2)) (nI (0)))) &&& 31)))) (f 6) (f 7) jn (j_3)) (j_3) (1)) + (nI (3))) (nI (0)) (nI (99)))) (44 + 8 * (j_3) + (7)) ((gof (upd (sy5 (upd (f 0) (44 + 8 * (j_3) + (2)) (((gof (f 0) (j_3) (2)) ^^^ ((nI (1)) <<< ((oI (dbM (f 0) jn (gof (f 0) (j_3) (2)))) &&& 31))) ^^^ ((nI (1)) <<< ((oI (cldM (f 0) jn cn (gof (f 0) (j_3) (2)) (nI (0)))) &&& 31)))) (f 6) (f 7) jn (j_3)) (44 + 8 * (j_3) + (1)) (wi ((gof (sy5 (upd (f 0) (44 + 8 * (j_3) + (2)) (((gof (f 0) (j_3) (2)) ^^^ ((nI (1)) <<< ((oI (dbM (f 0) jn (gof (f 0) (j_3) (2)))) &&& 31))) ^^^ ((nI (1)) <<< ((oI (cldM (f 0) jn cn (gof (f 0) (j_3) (2)) (nI (0)))) &&& 31)))) (f 6) (f 7) jn (j_3)) (j_3) (1)) + (nI (3))) (nI (0)) (nI (99)))) (j_3) (7)) + (nI (1)))) (6) ((upd (upd (sy5 (upd (f 0) (44 + 8 * (j_3) + (2)) (((gof (f 0) (j_3) (2)) ^^^ ((nI (1)) <<< ((oI (dbM (f 0) jn (gof (f 0) (j_3) (2)))) &&& 31))) ^^^ ((nI (1)) <<< ((oI (cldM (f 0) jn cn (gof (f 0) (j_3) (2)) (nI (0)))) &&& 31)))) (f 6) (f 7) jn (j_3)) (44 + 8 * (j_3) + (1)) (wi ((gof (sy5 (upd (f 0) (44 + 8 * (j_3) + (2)) (((gof (f 0) (j_3) (2)) ^^^ ((nI (1)) <<< ((oI (dbM (f 0) jn (gof (f 0) (j_3) (2)))) &&& 31))) ^^^ ((nI (1)) <<< ((oI (cldM (f 0) jn cn (gof (f 0) (j_3) (2)) (nI (0)))) &&& 31)))) (f 6) (f 7) jn (j_3)) (j_3) (1)) + (nI (3))) (nI (0)) (nI (99)))) (44 + 8 * (j_3) + (7)) ((gof (upd (sy5 (upd (f 0) (44 + 8 * (j_3) + (2)) (((gof (f 0) (j_3) (2)) ^^^ ((nI (1)) <<< ((oI (dbM (f 0) jn (gof (f 0) (j_3) (2)))) &&& 31))) ^^^ ((nI (1)) <<< ((oI (cldM (f 0) jn cn (gof (f 0) (j_3) (2)) (nI (0)))) &&& 31)))) (f 6) (f 7) jn (j_3)) (44 + 8 * (j_3) + (1)) (wi ((gof (sy5 (upd (f 0) (44 + 8 * (j_3) + (2)) (((gof (f 0) (j_3) (2)) ^^^ ((nI (1)) <<< ((oI (dbM (f 0) jn (gof (f 0) (j_3) (2)))) &&& 31))) ^^^ ((nI (1)) <<< ((oI (cldM (f 0) jn cn (gof (f 0) (j_3) (2)) (nI (0)))) &&& 31)))) (f 6) (f 7) jn (j_3)) (j_3) (1)) + (nI (3))) (nI (0)) (nI (99)))) (j_3) (7)) + (nI (1))) (6)) + (nI (1)))) 0 = nI (jn) := (by rw [pk_un (by omega)]; exact kg_18)
              have kg_21 : (upd (upd (upd (sy5 (upd (f 0) (44 + 8 * (j_3) + (2)) (((gof (f 0) (j_3) (2)) ^^^ ((nI (1)) <<< ((oI (dbM (f 0) jn (gof (f 0) (j_3) (2)))) &&& 31))) ^^^ ((nI (1)) <<< ((oI (cldM (f 0) jn cn (gof (f 0) (j_3) (2)) (nI (0)))) &&& 31)))) (f 6) (f 7) jn (j_3)) (44 + 8 * (j_3) + (1)) (wi ((gof (sy5 (upd (f 0) (44 + 8 * (j_3) + (2)) (((gof (f 0) (j_3) (2)) ^^^ ((nI (1)) <<< ((oI (dbM (f 0) jn (gof (f 0) (j_3) (2)))) &&& 31))) ^^^ ((nI (1)) <<< ((oI (cldM (f 0) jn cn (gof (f 0) (j_3) (2)) (nI (0)))) &&& 31)))) (f 6) (f 7) jn (j_3)) (j_3) (1)) + (nI (3))) (nI (0)) (nI (99)))) (44 + 8 * (j_3) + (7)) ((gof (upd (sy5 (upd (f 0) (44 + 8 * (j_3) + (2)) (((gof (f 0) (j_3) (2)) ^^^ ((nI (1)) <<< ((oI (dbM (f 0) jn (gof (f 0) (j_3) (2)))) &&& 31))) ^^^ ((nI (1)) <<< ((oI (cldM (f 0) jn cn (gof (f 0) (j_3) (2)) (nI (0)))) &&& 31)))) (f 6) (f 7) jn (j_3)) (44 + 8 * (j_3) + (1)) (wi ((gof (sy5 (upd (f 0) (44 + 8 * (j_3) + (2)) (((gof (f 0) (j_3) (2)) ^^^ ((nI (1)) <<< ((oI (dbM (f 0) jn (gof (f 0) (j_3) (2)))) &&& 31))) ^^^ ((nI (1)) <<< ((oI (cldM (f 0) jn cn (gof (f 0) (j_3) (2)) (nI (0)))) &&& 31)))) (f 6) (f 7) jn (j_3)) (j_3) (1)) + (nI (3))) (nI (0)) (nI (99)))) (j_3) (7)) + (nI (1)))) (6) ((upd (upd (sy5 (upd (f 0) (44 + 8 * (j_3) + (2)) (((gof (f 0) (j_3) (2)) ^^^ ((nI (1)) <<< ((oI (dbM (f 0) jn (gof (f 0) (j_3) (2)))) &&& 31))) ^^^ ((nI (1)) <<< ((oI (cldM (f 0) jn cn (gof (f 0) (j_3) (2)) (nI (0)))) &&& 31)))) (f 6) (f 7) jn (j_3)) (44 + 8 * (j_3) + (1)) (wi ((gof (sy5 (upd (f 0) (44 + 8 * (j_3) + (2)) (((gof (f 0) (j_3) (2)) ^^^ ((nI (1)) <<< ((oI (dbM (f 0) jn (gof (f 0) (j_3) (2)))) &&& 31))) ^^^ ((nI (1)) <<< ((oI (cldM (f 0) jn cn (gof (f 0) (j_3) (2)) (nI (0)))) &&& 31)))) (f 6) (f 7) jn (j_3)) (j_3) (1)) + (nI (3))) (nI (0)) (nI (99)))) (44 + 8 * (j_3) + (7)) ((gof (upd (sy5 (upd (f 0) (44 + 8 * (j_3) + (2)) (((gof (f 0) (j_3) (2)) ^^^ ((nI (1)) <<< ((oI (dbM (f 0) jn (gof (f 0) (j_3) (2)))) &&& 31))) ^^^ ((nI (1)) <<< ((oI (cldM (f 0) jn cn (gof (f 0) (j_3) (2)) (nI (0)))) &&& 31)))) (f 6) (f 7) jn (j_3)) (44 + 8 * (j_3) + (1)) (wi ((gof (sy5 (upd (f 0) (44 + 8 * (j_3) + (2)) (((gof (f 0) (j_3) (2)) ^^^ ((nI (1)) <<< ((oI (dbM (f 0) jn (gof (f 0) (j_3) (2)))) &&& 31))) ^^^ ((nI (1)) <<< ((oI (cldM (f 0) jn cn (gof (f 0) (j_3) (2)) (nI (0)))) &&& 31)))) (f 6) (f 7) jn (j_3)) (j_3) (1)) + (nI (3))) (nI (0)) (nI (99)))) (j_3) (7)) + (nI (1))) (6)) + (nI (1)))) 1 = nI (cn) := (by rw [pk_un (by omega)]; exact kg_19)
              refine lv_iload_n hx hb dX8_appeal_201 rfl (lv_at hl 0 rfl) ?_
              exact g_iretW (v := nI (syV (upd (f 0) (44 + 8 * (j_3) + (2)) (((gof (f 0) (j_3) (2)) ^^^ ((nI (1)) <<< ((oI (dbM (f 0) jn (gof (f 0) (j_3) (2)))) &&& 31))) ^^^ ((nI (1)) <<< ((oI (cldM (f 0) jn cn (gof (f 0) (j_3) (2)) (nI (0)))) &&& 31)))) (f 6) (f 7) jn (j_3))) hx hb hr hlk hS dX8_appeal_202 (by have hq9 : v.toNatClampNeg = j_3 := (by rw [ej_4, nI_clamp (by omega)]); rw [apM, hq9, if_pos c_1, if_neg c_7, if_neg (bnt c_8), if_neg c_9, if_pos c_11]; exact ⟨rfl, hP⟩)
            · have d_11 : cbM (f 0) jn cn (gof (f 0) (j_3) (2)) < 1 := Nat.not_le.mp c_11
              refine lv_aload_n hx hb dX8_appeal_108 rfl (lv_at hl 1 rfl) ?_
              refine lv_iconst (v := nI (2)) hx hb dX8_appeal_109 gc_2 ?_
              refine lv_iconst (v := nI (3)) hx hb dX8_appeal_110 gc_3 ?_
              refine lv_iconst (v := nI (0)) hx hb dX8_appeal_111 gc_0 ?_
              refine wr_calli (va_runV (As := [.int (nI (2)), .int (nI (3)), .int (nI (0))]) (rest := []) ⟨hx, hb, hml, hown, hts⟩ (c_X8_refuses l D cA A (upd (upd (x) 3 (nI (0))) 4 (nI (0))) (f) (2) (nI (3)) (nI (0))  hA) (cwV 3 hts (gWV gm_9_5 gm_9_6 gm_9_7 gm_1_5 gm_9_8) rfl rfl rfl (by decide +kernel) ⟨Nat.le_of_ble_eq_true rfl, Nat.le_of_ble_eq_true rfl⟩) (gPreV hK (g_rf hK hP (ci := 10) (q0 := 0) rfl rfl) hP) rfl rfl hl.1 rfl (lv_room (Nat.le_of_ble_eq_true rfl)) dX8_appeal_112 ⟨by omega, by omega⟩) hS (fun q _ h => h) (fun q h => h) (fun r H locs hw9 hz9 hk9 hS => ?_)
              obtain ⟨rfl, hP⟩ := hw9
              have hP : va_P D vwCl (mw cA A (upd (upd (upd (upd (x) 3 (nI (1))) 4 (nI (2))) 5 (nI (3))) 6 (nI (0))) (f)) H := hP
              have hD : va_D (MA A) (mw cA A (upd (upd (upd (upd (x) 3 (nI (1))) 4 (nI (2))) 5 (nI (3))) 6 (nI (0))) (f)) := mD hA
              exact g_iretW (v := nI (0)) hx hb hr hlk hS dX8_appeal_115 (by have hq9 : v.toNatClampNeg = j_3 := (by rw [ej_4, nI_clamp (by omega)]); rw [apM, hq9, if_pos c_1, if_neg c_7, if_neg (bnt c_8), if_neg c_9, if_neg c_11]; exact ⟨rfl, hP⟩)
          · refine lv_aload_n hx hb dX8_appeal_78 rfl (lv_at hl 0 rfl) ?_
            refine lv_iconst (v := nI (2)) hx hb dX8_appeal_79 gc_2 ?_
            refine lv_bipush (v := nI (7)) hx hb dX8_appeal_80 gb_7 ?_
            refine lv_aload_n hx hb dX8_appeal_82 rfl (lv_at hl 0 rfl) ?_
            refine lv_iload_n hx hb dX8_appeal_83 rfl (lv_at hl 1 rfl) ?_
            refine lv_iconst (v := nI (3)) hx hb dX8_appeal_84 gc_3 ?_
            refine rd_calle (va_runV (As := [.int (nI (j_3)), .int (nI (3))]) (rest := [.int (nI (7)), .int (nI (2)), .ref (A 0)]) ⟨hx, hb, hml, hown, hts⟩ (c_X8_of l D cA A (upd (upd (x) 3 (nI (0))) 4 (nI (0))) (f) (j_3) (3) (by omega)) (cwV 2 hts (gWV gm_14_3 gm_14_4 gm_14_5 gm_1_5 gm_14_6) rfl rfl rfl (by decide +kernel) ⟨Nat.le_of_ble_eq_true rfl, Nat.le_of_ble_eq_true rfl⟩) (gPreV hK (g_rf hK hP (ci := 10) (q0 := 0) rfl rfl) hP) rfl rfl hl.1 rfl (lv_room (Nat.le_of_ble_eq_true rfl)) dX8_appeal_85 ⟨by omega, by omega⟩) ?_
            refine wr_calli (va_runV (As := [.int (nI (2)), .int (nI (7)), .int (gof (f 0) (j_3) (3))]) (rest := []) ⟨hx, hb, hml, hown, hts⟩ (c_X8_refuses l D cA A (upd (upd (x) 3 (nI (0))) 4 (nI (0))) (f) (2) (nI (7)) (gof (f 0) (j_3) (3))  hA) (cwV 3 hts (gWV gm_9_5 gm_9_6 gm_9_7 gm_1_5 gm_9_8) rfl rfl rfl (by decide +kernel) ⟨Nat.le_of_ble_eq_true rfl, Nat.le_of_ble_eq_true rfl⟩) (gPreV hK (g_rf hK hP (ci := 10) (q0 := 0) rfl rfl) hP) rfl rfl hl.1 rfl (lv_room (Nat.le_of_ble_eq_true rfl)) dX8_appeal_88 ⟨by omega, by omega⟩) hS (fun q _ h => h) (fun q h => h) (fun r H locs hw9 hz9 hk9 hS => ?_)
            obtain ⟨rfl, hP⟩ := hw9
            have hP : va_P D vwCl (mw cA A (upd (upd (upd (upd (x) 3 (nI (1))) 4 (nI (2))) 5 (nI (7))) 6 (gof (f 0) (j_3) (3))) (f)) H := hP
            have hD : va_D (MA A) (mw cA A (upd (upd (upd (upd (x) 3 (nI (1))) 4 (nI (2))) 5 (nI (7))) 6 (gof (f 0) (j_3) (3))) (f)) := mD hA
            exact g_iretW (v := nI (0)) hx hb hr hlk hS dX8_appeal_91 (by have hq9 : v.toNatClampNeg = j_3 := (by rw [ej_4, nI_clamp (by omega)]); rw [apM, hq9, if_pos c_1, if_neg c_7, if_neg (bnt c_8), if_pos c_9]; exact ⟨rfl, hP⟩)
        · have c_8 : clM (f 0) (j_3) = true := eq_true_of_ne_false c_8
          refine lv_aload_n hx hb dX8_appeal_53 rfl (lv_at hl 0 rfl) ?_
          refine lv_iconst (v := nI (2)) hx hb dX8_appeal_54 gc_2 ?_
          refine lv_bipush (v := nI (6)) hx hb dX8_appeal_55 gb_6 ?_
          refine lv_aload_n hx hb dX8_appeal_57 rfl (lv_at hl 0 rfl) ?_
          refine lv_iload_n hx hb dX8_appeal_58 rfl (lv_at hl 1 rfl) ?_
          refine lv_iconst (v := nI (5)) hx hb dX8_appeal_59 gc_5 ?_
          refine rd_calle (va_runV (As := [.int (nI (j_3)), .int (nI (5))]) (rest := [.int (nI (6)), .int (nI (2)), .ref (A 0)]) ⟨hx, hb, hml, hown, hts⟩ (c_X8_of l D cA A (upd (upd (x) 3 (nI (0))) 4 (nI (0))) (f) (j_3) (5) (by omega)) (cwV 2 hts (gWV gm_14_3 gm_14_4 gm_14_5 gm_1_5 gm_14_6) rfl rfl rfl (by decide +kernel) ⟨Nat.le_of_ble_eq_true rfl, Nat.le_of_ble_eq_true rfl⟩) (gPreV hK (g_rf hK hP (ci := 10) (q0 := 0) rfl rfl) hP) rfl rfl hl.1 rfl (lv_room (Nat.le_of_ble_eq_true rfl)) dX8_appeal_60 ⟨by omega, by omega⟩) ?_
          refine wr_calli (va_runV (As := [.int (nI (2)), .int (nI (6)), .int (gof (f 0) (j_3) (5))]) (rest := []) ⟨hx, hb, hml, hown, hts⟩ (c_X8_refuses l D cA A (upd (upd (x) 3 (nI (0))) 4 (nI (0))) (f) (2) (nI (6)) (gof (f 0) (j_3) (5))  hA) (cwV 3 hts (gWV gm_9_5 gm_9_6 gm_9_7 gm_1_5 gm_9_8) rfl rfl rfl (by decide +kernel) ⟨Nat.le_of_ble_eq_true rfl, Nat.le_of_ble_eq_true rfl⟩) (gPreV hK (g_rf hK hP (ci := 10) (q0 := 0) rfl rfl) hP) rfl rfl hl.1 rfl (lv_room (Nat.le_of_ble_eq_true rfl)) dX8_appeal_63 ⟨by omega, by omega⟩) hS (fun q _ h => h) (fun q h => h) (fun r H locs hw9 hz9 hk9 hS => ?_)
          obtain ⟨rfl, hP⟩ := hw9
          have hP : va_P D vwCl (mw cA A (upd (upd (upd (upd (x) 3 (nI (1))) 4 (nI (2))) 5 (nI (6))) 6 (gof (f 0) (j_3) (5))) (f)) H := hP
          have hD : va_D (MA A) (mw cA A (upd (upd (upd (upd (x) 3 (nI (1))) 4 (nI (2))) 5 (nI (6))) 6 (gof (f 0) (j_3) (5))) (f)) := mD hA
          exact g_iretW (v := nI (0)) hx hb hr hlk hS dX8_appeal_66 (by have hq9 : v.toNatClampNeg = j_3 := (by rw [ej_4, nI_clamp (by omega)]); rw [apM, hq9, if_pos c_1, if_neg c_7, if_pos c_8]; exact ⟨rfl, hP⟩)
      · refine lv_aload_n hx hb dX8_appeal_31 rfl (lv_at hl 0 rfl) ?_
        refine lv_iconst (v := nI (2)) hx hb dX8_appeal_32 gc_2 ?_
        refine lv_iconst (v := nI (5)) hx hb dX8_appeal_33 gc_5 ?_
        refine lv_aload_n hx hb dX8_appeal_34 rfl (lv_at hl 0 rfl) ?_
        refine lv_iload_n hx hb dX8_appeal_35 rfl (lv_at hl 1 rfl) ?_
        refine lv_bipush (v := nI (6)) hx hb dX8_appeal_36 gb_6 ?_
        refine rd_calle (va_runV (As := [.int (nI (j_3)), .int (nI (6))]) (rest := [.int (nI (5)), .int (nI (2)), .ref (A 0)]) ⟨hx, hb, hml, hown, hts⟩ (c_X8_of l D cA A (upd (upd (x) 3 (nI (0))) 4 (nI (0))) (f) (j_3) (6) (by omega)) (cwV 2 hts (gWV gm_14_3 gm_14_4 gm_14_5 gm_1_5 gm_14_6) rfl rfl rfl (by decide +kernel) ⟨Nat.le_of_ble_eq_true rfl, Nat.le_of_ble_eq_true rfl⟩) (gPreV hK (g_rf hK hP (ci := 10) (q0 := 0) rfl rfl) hP) rfl rfl hl.1 rfl (lv_room (Nat.le_of_ble_eq_true rfl)) dX8_appeal_38 ⟨by omega, by omega⟩) ?_
        refine wr_calli (va_runV (As := [.int (nI (2)), .int (nI (5)), .int (gof (f 0) (j_3) (6))]) (rest := []) ⟨hx, hb, hml, hown, hts⟩ (c_X8_refuses l D cA A (upd (upd (x) 3 (nI (0))) 4 (nI (0))) (f) (2) (nI (5)) (gof (f 0) (j_3) (6))  hA) (cwV 3 hts (gWV gm_9_5 gm_9_6 gm_9_7 gm_1_5 gm_9_8) rfl rfl rfl (by decide +kernel) ⟨Nat.le_of_ble_eq_true rfl, Nat.le_of_ble_eq_true rfl⟩) (gPreV hK (g_rf hK hP (ci := 10) (q0 := 0) rfl rfl) hP) rfl rfl hl.1 rfl (lv_room (Nat.le_of_ble_eq_true rfl)) dX8_appeal_41 ⟨by omega, by omega⟩) hS (fun q _ h => h) (fun q h => h) (fun r H locs hw9 hz9 hk9 hS => ?_)
        obtain ⟨rfl, hP⟩ := hw9
        have hP : va_P D vwCl (mw cA A (upd (upd (upd (upd (x) 3 (nI (1))) 4 (nI (2))) 5 (nI (5))) 6 (gof (f 0) (j_3) (6))) (f)) H := hP
        have hD : va_D (MA A) (mw cA A (upd (upd (upd (upd (x) 3 (nI (1))) 4 (nI (2))) 5 (nI (5))) 6 (gof (f 0) (j_3) (6))) (f)) := mD hA
        exact g_iretW (v := nI (0)) hx hb hr hlk hS dX8_appeal_44 (by have hq9 : v.toNatClampNeg = j_3 := (by rw [ej_4, nI_clamp (by omega)]); rw [apM, hq9, if_pos c_1, if_pos c_7]; exact ⟨rfl, hP⟩)
    · exact absurd c_6 (by decide)

def n1S (t : Int32) (g0 : Nat → Int32) : Nat → (Nat → Int32)
  | 0 => g0
  | k + 1 => if gof (n1S t g0 k) k 3 ≤ 0 then n1S t g0 k else if clM (n1S t g0 k) k = true then n1S t g0 k else if t - gof (n1S t g0 k) k 4 < nI 4 then n1S t g0 k else upd (n1S t g0 k) (44 + 8 * k + 5) t
theorem n1S_lo {t : Int32} {g0 : Nat → Int32} {z : Nat} (hz : z < 8) : ∀ k, n1S t g0 k z = g0 z
  | 0 => rfl
  | k + 1 => by
    have ih := n1S_lo (t := t) (g0 := g0) hz k
    unfold n1S
    split
    · exact ih
    · split
      · exact ih
      · split
        · exact ih
        · rw [pk_un (by omega)]; exact ih
abbrev G3 : Type := (Nat → Int32) × ((Nat → Int32) × (Nat → Int32))
def n2S (jn cn : Nat) (z0 : G3) : Nat → G3
  | 0 => z0
  | k + 1 => match raM (n2S jn cn z0 k).1 cn (nI 0) with
    | none => n2S jn cn z0 k
    | some q => (sy5 (n2S jn cn z0 k).1 (n2S jn cn z0 k).2.1 (n2S jn cn z0 k).2.2 jn q, ((lmS (n2S jn cn z0 k).1 (n2S jn cn z0 k).2.1 (n2S jn cn z0 k).2.2 jn).1, syD (n2S jn cn z0 k).1 (n2S jn cn z0 k).2.1 (n2S jn cn z0 k).2.2 jn q))
def n2N (jn cn : Nat) (z0 : G3) : Nat → Nat
  | 0 => 0
  | k + 1 => match raM (n2S jn cn z0 k).1 cn (nI 0) with
    | none => n2N jn cn z0 k
    | some _ => n2N jn cn z0 k + 1
theorem raM_lt {g : Nat → Int32} {cn : Nat} {place : Int32} {b : Nat} (h : raM g cn place = some b) : b < cn := fnd_lt h
theorem syV_ne {g l d : Nat → Int32} {jn q : Nat} : ¬ syV g l d jn q = 0 := by unfold syV vdM; split <;> omega
theorem syV_le {g l d : Nat → Int32} {jn q : Nat} : syV g l d jn q ≤ 2 := by unfold syV vdM; split <;> omega
theorem n2N_le {jn cn : Nat} {z0 : G3} : ∀ k, n2N jn cn z0 k ≤ k
  | 0 => Nat.le_refl 0
  | k + 1 => by
    have := n2N_le (jn := jn) (cn := cn) (z0 := z0) k
    unfold n2N
    split <;> omega
theorem n2S_some {jn cn : Nat} {z0 : G3} {k q : Nat} (h : raM (n2S jn cn z0 k).1 cn (nI 0) = some q) : n2S jn cn z0 (k + 1) = (sy5 (n2S jn cn z0 k).1 (n2S jn cn z0 k).2.1 (n2S jn cn z0 k).2.2 jn q, ((lmS (n2S jn cn z0 k).1 (n2S jn cn z0 k).2.1 (n2S jn cn z0 k).2.2 jn).1, syD (n2S jn cn z0 k).1 (n2S jn cn z0 k).2.1 (n2S jn cn z0 k).2.2 jn q)) := by
  show (match raM (n2S jn cn z0 k).1 cn (nI 0) with | none => _ | some q => _) = _
  rw [h]
theorem n2N_some {jn cn : Nat} {z0 : G3} {k q : Nat} (h : raM (n2S jn cn z0 k).1 cn (nI 0) = some q) : n2N jn cn z0 (k + 1) = n2N jn cn z0 k + 1 := by
  show (match raM (n2S jn cn z0 k).1 cn (nI 0) with | none => _ | some _ => _) = _
  rw [h]
theorem n2_stop {jn cn : Nat} {z0 : G3} {k : Nat} (h : raM (n2S jn cn z0 k).1 cn (nI 0) = none) : ∀ m, k ≤ m → n2S jn cn z0 m = n2S jn cn z0 k ∧ n2N jn cn z0 m = n2N jn cn z0 k
  | 0, q => by rw [Nat.le_zero.mp q]; exact ⟨rfl, rfl⟩
  | m + 1, q => by
    rcases Nat.lt_or_ge m k with r | r
    · rw [show m + 1 = k by omega]; exact ⟨rfl, rfl⟩
    · obtain ⟨e1, e2⟩ := n2_stop h m r
      have h2 : raM (n2S jn cn z0 m).1 cn (nI 0) = none := by rw [e1]; exact h
      constructor
      · show (match raM (n2S jn cn z0 m).1 cn (nI 0) with | none => _ | some q => _) = _
        rw [h2]; exact e1
      · show (match raM (n2S jn cn z0 m).1 cn (nI 0) with | none => _ | some _ => _) = _
        rw [h2]; exact e2
theorem n2S_lo {jn cn : Nat} {z0 : G3} {z : Nat} (hz : z < 8) (h4 : z ≠ 4) : ∀ k, (n2S jn cn z0 k).1 z = z0.1 z
  | 0 => rfl
  | k + 1 => by
    have ih := n2S_lo (jn := jn) (cn := cn) (z0 := z0) hz h4 k
    cases e : raM (n2S jn cn z0 k).1 cn (nI 0) with
    | none => rw [(n2_stop e (k + 1) (Nat.le_succ k)).1]; exact ih
    | some q => rw [n2S_some e]; show sy5 _ _ _ jn q z = _; rw [sy5_lo hz h4]; exact ih
def ngZ (f : Nat → Nat → Int32) (cn ton : Nat) : G3 := (n1S (nI (ton + 1)) (upd (f 0) 3 (nI (ton + 1))) cn, (f 6, f 7))
def ngM (x : Nat → Int32) (f : Nat → Nat → Int32) (jn cn clk ton : Nat) (w : Bool) (ch : Nat) : Int32 × MX := if ton = 99 then (nI 0, (refX x 1 (nI 8) (nI (fb_ct (rlM (f 0)) cn)), f)) else (nI (n2N jn cn (ngZ f cn ton) clk), (kpX2 x w ch, va_up (va_up (va_up (va_up f 0 ((n2S jn cn (ngZ f cn ton) clk).1)) 1 (kpK w (f 0) (f 1) ch)) 6 ((n2S jn cn (ngZ f cn ton) clk).2.1)) 7 ((n2S jn cn (ngZ f cn ton) clk).2.2)))

set_option maxHeartbeats 1000000 in
set_option maxRecDepth 100000 in
theorem c_X8_night (l : Launch) (D : va_G) (cA : Nat → ClassId) (A : Nat → Nat) (x : Nat → Int32) (f : Nat → Nat → Int32) (jn cn clk ton : Nat) (w : Bool) (ch : Nat) (hA : mInj A) (hj : f 0 0 = nI jn) (hjn : jn ≤ 9) (hc : f 0 1 = nI cn) (hcn : cn ≤ 10) (hclk : f 0 2 = nI clk) (hc4 : clk ≤ 4) (hton : f 0 3 = nI ton) (ht99 : ton ≤ 99) (hw : x 2 = b2i w) (hch : x 1 = nI ch) (hc8 : ch ≤ 8) : Met l yX8_night (gw yX8_night cX8_night 3 (some .int)) ({ frames := 4, cells := 0, slots := 0, locals := 91 } : Room) (gPc [.ref (A 0)] (fun H => va_P D vwCl (mw cA A x f) H) D cA) (wrI (fun r H => r = (ngM x f jn cn clk ton w ch).1 ∧ va_P D vwCl (mw cA A (ngM x f jn cn clk ton w ch).2.1 (ngM x f jn cn clk ton w ch).2.2) H) (MA A)) 0 0 (MA A) := by
  refine gOf (by decide) (Nat.le_of_ble_eq_true rfl) ?_
  intro p e s m below meth c ls hx hb hml hr hlk hown hts hnm hP hK hl
  have hl : lv_has ls 3 [(0, .ref (A 0))] := hl
  have hD : va_D (MA A) (mw cA A x f) := mD hA
  have hS : va_S (MA A) s.heap s.heap [] := va_S.rf
  refine lv_aload_n hx hb dX8_night_0 rfl (lv_at hl 0 rfl) ?_
  refine g_get (v := .ref (A 1)) hx hb hts hown hK hP 0 rfl rfl gu_wsX80 0 (by decide) gm_5_14 rfl dX8_night_1 ?_
  refine lv_iconst (v := nI (3)) hx hb dX8_night_4 gc_3 ?_
  refine g_iald (x := nI (ton)) hx hb hK hP 1 rfl (by omega) (by decide) hton dX8_night_5 ?_
  refine lv_bipush (v := nI (99)) hx hb dX8_night_6 gb_99 ?_
  refine g_icmp_ne (P := ton = 99) (tgt := 23) hx hb dX8_night_8 (by decide) (nI_eq (by omega) (by omega)) (fun c_1 => ?_) (fun c_1 => ?_)
  · refine lv_aload_n hx hb dX8_night_23 rfl (lv_at hl 0 rfl) ?_
    refine lv_aload_n hx hb dX8_night_24 rfl (lv_at hl 0 rfl) ?_
    refine g_get (v := .ref (A 1)) hx hb hts hown hK hP 0 rfl rfl gu_wsX80 0 (by decide) gm_5_14 rfl dX8_night_25 ?_
    refine wr_callv (va_runV (As := [.ref (A 1)]) (rest := []) ⟨hx, hb, hml, hown, hts⟩ (c_X8_keeps_0 l D cA A (x) (f) w ch hA hw hch hc8) (cwV 1 hts (gWV gm_9_11 gm_9_12 gm_9_13 gm_1_5 gm_9_14) rfl rfl rfl (by decide +kernel) ⟨Nat.le_of_ble_eq_true rfl, Nat.le_of_ble_eq_true rfl⟩) (gPreV hK (g_rf hK hP (ci := 10) (q0 := 0) rfl rfl) hP) rfl rfl hl.1 rfl (lv_room (Nat.le_of_ble_eq_true rfl)) dX8_night_28 ⟨by omega, by omega⟩) hS (fun q _ h => h) (fun q h => h) (fun H locs hP hz9 hk9 hS => ?_)
    have hP : va_P D vwCl (mw cA A (upd (upd (x) 1 (nI (kpC w ch))) 4 (nI (0))) (va_up (f) 1 (kpK w (f 0) (f 1) ch))) H := hP
    have hD : va_D (MA A) (mw cA A (upd (upd (x) 1 (nI (kpC w ch))) 4 (nI (0))) (va_up (f) 1 (kpK w (f 0) (f 1) ch))) := mD hA
    refine lv_aload_n hx hb dX8_night_31 rfl (lv_at hl 0 rfl) ?_
    refine g_get (v := .ref (A 1)) hx hb hts hown hK hP 0 rfl rfl gu_wsX80 0 (by decide) gm_5_14 rfl dX8_night_32 ?_
    refine lv_iconst (v := nI (3)) hx hb dX8_night_35 gc_3 ?_
    refine lv_dup2_11 hx hb dX8_night_36 rfl rfl ?_
    refine g_iald (x := nI (ton)) hx hb hK hP 1 rfl (by omega) (by decide) hton dX8_night_37 ?_
    refine lv_iconst (v := nI (1)) hx hb dX8_night_38 gc_1 ?_
    refine g_iadd hx hb dX8_night_39 ?_
    refine g_iast (ws' := mw cA A (upd (upd (x) 1 (nI (kpC w ch))) 4 (nI (0))) (va_up (va_up (f) 0 (upd (f 0) (3) (nI (ton + 1)))) 1 (kpK w (f 0) (f 1) ch))) hx hb hK hP hD hS 1 rfl (by omega) (by decide) rfl dX8_night_40 (fun H locs hP hD hS => ?_)
    have kg_2 : (upd (f 0) (3) (nI (ton + 1))) 0 = nI (jn) := (by rw [pk_un (by omega)]; exact hj)
    have kg_3 : (upd (f 0) (3) (nI (ton + 1))) 1 = nI (cn) := (by rw [pk_un (by omega)]; exact hc)
    have kg_4 : (upd (f 0) (3) (nI (ton + 1))) 2 = nI (clk) := (by rw [pk_un (by omega)]; exact hclk)
    refine lv_iconst (v := nI (0)) hx hb dX8_night_41 gc_0 ?_
    refine lv_istore_n (lv' := [(1, .int (nI (0))), (0, .ref (A 0))]) hx hb dX8_night_42 rfl hl (by decide) rfl (fun ls hl => ?_)
    have LP_9 : ∀ (n_6 i_5 : Nat) (x_7 : Int32) (F_8 : Nat → Int32) (H : Heap) (locs : List Loc), i_5 ≤ cn → cn + 1 ≤ i_5 + n_6 → x_7 = nI (i_5) → F_8 = n1S (nI (ton + 1)) (upd (f 0) (3) (nI (ton + 1))) i_5 → va_P D vwCl (mw cA A (upd (upd (x) 1 (nI (kpC w ch))) 4 (nI (0))) (va_up (va_up (f) 0 (F_8)) 1 (kpK w (f 0) (f 1) ch))) H → va_S (MA A) s.heap H locs → ∀ (ls : Array Slot), lv_has ls 3 [(1, .int (x_7)), (0, .ref (A 0))] → W p l e ({ frames := 4, cells := 0, slots := 0, locals := 91 } : Room) s m ([.ref (A 0)] : List Value).toArray below meth c H locs 0 0 (MQ below (wrI (fun r H => r = (ngM x f jn cn clk ton w ch).1 ∧ va_P D vwCl (mw cA A (ngM x f jn cn clk ton w ch).2.1 (ngM x f jn cn clk ton w ch).2.2) H) (MA A)) ([.ref (A 0)] : List Value).toArray s 0 0 (MA A)) (F0 m 43 ls []) := by
      intro n_6
      induction n_6 with
      | zero => intro i_5 x_7 F_8 H locs h1 h2; exact absurd h2 (by omega)
      | succ n_6 ih_10 =>
        intro i_5 x_7 F_8 H locs h_11 h_12 e_13 e_14  hP hS ls hl
        subst e_13
        subst e_14
        have hD : va_D (MA A) (mw cA A (upd (upd (x) 1 (nI (kpC w ch))) 4 (nI (0))) (va_up (va_up (f) 0 (n1S (nI (ton + 1)) (upd (f 0) (3) (nI (ton + 1))) i_5)) 1 (kpK w (f 0) (f 1) ch))) := mD hA
        have kg_15 : (n1S (nI (ton + 1)) (upd (f 0) (3) (nI (ton + 1))) i_5) 0 = nI (jn) := by rw [n1S_lo (by decide)]; exact kg_2
        have kg_16 : (n1S (nI (ton + 1)) (upd (f 0) (3) (nI (ton + 1))) i_5) 1 = nI (cn) := by rw [n1S_lo (by decide)]; exact kg_3
        have kg_17 : (n1S (nI (ton + 1)) (upd (f 0) (3) (nI (ton + 1))) i_5) 2 = nI (clk) := by rw [n1S_lo (by decide)]; exact kg_4
        have kg_18 : (n1S (nI (ton + 1)) (upd (f 0) (3) (nI (ton + 1))) i_5) 3 = nI (ton + 1) := by rw [n1S_lo (by decide)]; exact rfl
        refine lv_iload_n hx hb dX8_night_43 rfl (lv_at hl 0 rfl) ?_
        refine lv_aload_n hx hb dX8_night_44 rfl (lv_at hl 1 rfl) ?_
        refine g_get (v := .ref (A 1)) hx hb hts hown hK hP 0 rfl rfl gu_wsX80 0 (by decide) gm_5_14 rfl dX8_night_45 ?_
        refine lv_iconst (v := nI (1)) hx hb dX8_night_48 gc_1 ?_
        refine g_iald (x := nI (cn)) hx hb hK hP 1 rfl (by omega) (by decide) kg_16 dX8_night_49 ?_
        refine g_icmp_ge (P := cn ≤ i_5) (tgt := 105) hx hb dX8_night_50 (by decide) (nI_leI (by omega) (by omega)) (fun c_19 => ?_) (fun c_19 => ?_)
        · have d_19 : ¬ i_5 < cn := Nat.not_lt.mpr c_19
          have hN_20 : cn = i_5 := by omega
          subst hN_20
          refine lv_iconst (v := nI (0)) hx hb dX8_night_105 gc_0 ?_
          refine lv_istore_n (lv' := [(1, .int (nI (0))), (0, .ref (A 0))]) hx hb dX8_night_106 rfl hl (by decide) rfl (fun ls hl => ?_)
          refine lv_iconst (v := nI (0)) hx hb dX8_night_107 gc_0 ?_
          refine lv_istore_n (lv' := [(2, .int (nI (0))), (1, .int (nI (0))), (0, .ref (A 0))]) hx hb dX8_night_108 rfl hl (by decide) rfl (fun ls hl => ?_)
          have LP_28 : ∀ (n_22 i_21 : Nat) (x_23 x_24 : Int32) (F_25 F_26 F_27 : Nat → Int32) (H : Heap) (locs : List Loc), i_21 ≤ clk → clk + 1 ≤ i_21 + n_22 → x_23 = nI (i_21) → x_24 = nI (n2N jn cn (ngZ f cn ton) i_21) → F_25 = (n2S jn cn (ngZ f cn ton) i_21).1 → F_26 = (n2S jn cn (ngZ f cn ton) i_21).2.1 → F_27 = (n2S jn cn (ngZ f cn ton) i_21).2.2 → va_P D vwCl (mw cA A (upd (upd (x) 1 (nI (kpC w ch))) 4 (nI (0))) (va_up (va_up (va_up (va_up (f) 0 (F_25)) 1 (kpK w (f 0) (f 1) ch)) 6 (F_26)) 7 (F_27))) H → va_S (MA A) s.heap H locs → ∀ (ls : Array Slot), lv_has ls 3 [(2, .int (x_23)), (1, .int (x_24)), (0, .ref (A 0))] → W p l e ({ frames := 4, cells := 0, slots := 0, locals := 91 } : Room) s m ([.ref (A 0)] : List Value).toArray below meth c H locs 0 0 (MQ below (wrI (fun r H => r = (ngM x f jn cn clk ton w ch).1 ∧ va_P D vwCl (mw cA A (ngM x f jn cn clk ton w ch).2.1 (ngM x f jn cn clk ton w ch).2.2) H) (MA A)) ([.ref (A 0)] : List Value).toArray s 0 0 (MA A)) (F0 m 109 ls []) := by
            intro n_22
            induction n_22 with
            | zero => intro i_21 x_23 x_24 F_25 F_26 F_27 H locs h1 h2; exact absurd h2 (by omega)
            | succ n_22 ih_29 =>
              intro i_21 x_23 x_24 F_25 F_26 F_27 H locs h_30 h_31 e_32 e_33 e_34 e_35 e_36  hP hS ls hl
              subst e_32
              subst e_33
              subst e_34
              subst e_35
              subst e_36
              have hD : va_D (MA A) (mw cA A (upd (upd (x) 1 (nI (kpC w ch))) 4 (nI (0))) (va_up (va_up (va_up (va_up (f) 0 ((n2S jn cn (ngZ f cn ton) i_21).1)) 1 (kpK w (f 0) (f 1) ch)) 6 ((n2S jn cn (ngZ f cn ton) i_21).2.1)) 7 ((n2S jn cn (ngZ f cn ton) i_21).2.2))) := mD hA
              have kg_37 : ((n2S jn cn (ngZ f cn ton) i_21).1) 0 = nI (jn) := by rw [n2S_lo (by decide) (by decide)]; exact kg_15
              have kg_38 : ((n2S jn cn (ngZ f cn ton) i_21).1) 1 = nI (cn) := by rw [n2S_lo (by decide) (by decide)]; exact kg_16
              have kg_39 : ((n2S jn cn (ngZ f cn ton) i_21).1) 2 = nI (clk) := by rw [n2S_lo (by decide) (by decide)]; exact kg_17
              have kg_40 : ((n2S jn cn (ngZ f cn ton) i_21).1) 3 = nI (ton + 1) := by rw [n2S_lo (by decide) (by decide)]; exact kg_18
              refine lv_iload_n hx hb dX8_night_109 rfl (lv_at hl 0 rfl) ?_
              refine lv_aload_n hx hb dX8_night_110 rfl (lv_at hl 2 rfl) ?_
              refine g_get (v := .ref (A 1)) hx hb hts hown hK hP 0 rfl rfl gu_wsX80 0 (by decide) gm_5_14 rfl dX8_night_111 ?_
              refine lv_iconst (v := nI (2)) hx hb dX8_night_114 gc_2 ?_
              refine g_iald (x := nI (clk)) hx hb hK hP 1 rfl (by omega) (by decide) kg_39 dX8_night_115 ?_
              refine g_icmp_ge (P := clk ≤ i_21) (tgt := 153) hx hb dX8_night_116 (by decide) (nI_leI (by omega) (by omega)) (fun c_41 => ?_) (fun c_41 => ?_)
              · have d_41 : ¬ i_21 < clk := Nat.not_lt.mpr c_41
                have hN_42 : clk = i_21 := by omega
                subst hN_42
                refine lv_iload_n hx hb dX8_night_153 rfl (lv_at hl 1 rfl) ?_
                exact g_iretW (v := nI (n2N jn cn (ngZ f cn ton) (clk))) hx hb hr hlk hS dX8_night_154 (by rw [ngM, if_neg c_1]; exact ⟨rfl, hP⟩)
              · have d_41 : i_21 < clk := Nat.not_le.mp c_41
                refine lv_aload_n hx hb dX8_night_119 rfl (lv_at hl 2 rfl) ?_
                refine lv_iconst (v := nI (0)) hx hb dX8_night_120 gc_0 ?_
                refine rd_calle (va_runV (As := [.int (nI (0))]) (rest := []) ⟨hx, hb, hml, hown, hts⟩ (c_X8_rolledAt l D cA A (upd (upd (x) 1 (nI (kpC w ch))) 4 (nI (0))) (va_up (va_up (va_up (va_up (f) 0 ((n2S jn cn (ngZ f cn ton) i_21).1)) 1 (kpK w (f 0) (f 1) ch)) 6 ((n2S jn cn (ngZ f cn ton) i_21).2.1)) 7 ((n2S jn cn (ngZ f cn ton) i_21).2.2)) (nI (0)) cn kg_38 hcn) (cwV 1 hts (gWV gm_24_2 gm_24_3 gm_24_4 gm_1_5 gm_24_5) rfl rfl rfl (by decide +kernel) ⟨Nat.le_of_ble_eq_true rfl, Nat.le_of_ble_eq_true rfl⟩) (gPreV hK (g_rf hK hP (ci := 10) (q0 := 0) rfl rfl) hP) rfl rfl hl.1 rfl (lv_room (Nat.le_of_ble_eq_true rfl)) dX8_night_121 ⟨by omega, by omega⟩) ?_
                refine g_if_lt (P := raM ((n2S jn cn (ngZ f cn ton) i_21).1) cn (nI (0)) = none) (tgt := 153) hx hb dX8_night_124 (by decide) (oI_lt (fun b q => by have := raM_lt q; omega)) (fun c_43 => ?_) (fun c_43 => ?_)
                · refine lv_iload_n hx hb dX8_night_153 rfl (lv_at hl 1 rfl) ?_
                  exact g_iretW (v := nI (n2N jn cn (ngZ f cn ton) i_21)) hx hb hr hlk hS dX8_night_154 (by rw [ngM, if_neg c_1, (n2_stop c_43 clk (by omega)).1, (n2_stop c_43 clk (by omega)).2]; exact ⟨rfl, hP⟩)
                · obtain ⟨b_44, eb_45⟩ := o_some c_43
                  have hb_46 := raM_lt eb_45
                  refine lv_iload_n hx hb dX8_night_127 rfl (lv_at hl 1 rfl) ?_
                  refine lv_aload_n hx hb dX8_night_128 rfl (lv_at hl 2 rfl) ?_
                  refine lv_aload_n hx hb dX8_night_129 rfl (lv_at hl 2 rfl) ?_
                  refine lv_iconst (v := nI (0)) hx hb dX8_night_130 gc_0 ?_
                  refine rd_calle (va_runV (As := [.int (nI (0))]) (rest := [.ref (A 0), .int (nI (n2N jn cn (ngZ f cn ton) i_21))]) ⟨hx, hb, hml, hown, hts⟩ (c_X8_rolledAt l D cA A (upd (upd (x) 1 (nI (kpC w ch))) 4 (nI (0))) (va_up (va_up (va_up (va_up (f) 0 ((n2S jn cn (ngZ f cn ton) i_21).1)) 1 (kpK w (f 0) (f 1) ch)) 6 ((n2S jn cn (ngZ f cn ton) i_21).2.1)) 7 ((n2S jn cn (ngZ f cn ton) i_21).2.2)) (nI (0)) cn kg_38 hcn) (cwV 1 hts (gWV gm_24_2 gm_24_3 gm_24_4 gm_1_5 gm_24_5) rfl rfl rfl (by decide +kernel) ⟨Nat.le_of_ble_eq_true rfl, Nat.le_of_ble_eq_true rfl⟩) (gPreV hK (g_rf hK hP (ci := 10) (q0 := 0) rfl rfl) hP) rfl rfl hl.1 rfl (lv_room (Nat.le_of_ble_eq_true rfl)) dX8_night_131 ⟨by omega, by omega⟩) ?_
                  refine g_top (z := nI (b_44)) (by exact congrArg oI eb_45) ?_
                  refine wr_calli (va_runV (As := [.int (nI (b_44))]) (rest := [.int (nI (n2N jn cn (ngZ f cn ton) i_21))]) ⟨hx, hb, hml, hown, hts⟩ (c_X8_says l D cA A (upd (upd (x) 1 (nI (kpC w ch))) 4 (nI (0))) (va_up (va_up (va_up (va_up (f) 0 ((n2S jn cn (ngZ f cn ton) i_21).1)) 1 (kpK w (f 0) (f 1) ch)) 6 ((n2S jn cn (ngZ f cn ton) i_21).2.1)) 7 ((n2S jn cn (ngZ f cn ton) i_21).2.2)) (b_44) jn hA kg_37 hjn (by omega)) (cwV 1 hts (gWV gm_17_19 gm_17_20 gm_17_21 gm_1_5 gm_17_22) rfl rfl rfl (by decide +kernel) ⟨Nat.le_of_ble_eq_true rfl, Nat.le_of_ble_eq_true rfl⟩) (gPreV hK (g_rf hK hP (ci := 10) (q0 := 0) rfl rfl) hP) rfl rfl hl.1 rfl (lv_room (Nat.le_of_ble_eq_true rfl)) dX8_night_134 ⟨by omega, by omega⟩) hS (fun q _ h => h) (fun q h => h) (fun r H locs hw9 hz9 hk9 hS => ?_)
                  obtain ⟨rfl, hP⟩ := hw9
                  have hP : va_P D vwCl (mw cA A (upd (upd (x) 1 (nI (kpC w ch))) 4 (nI (0))) (va_up (va_up (va_up (va_up (f) 0 (sy5 ((n2S jn cn (ngZ f cn ton) i_21).1) ((n2S jn cn (ngZ f cn ton) i_21).2.1) ((n2S jn cn (ngZ f cn ton) i_21).2.2) jn (b_44))) 1 (kpK w (f 0) (f 1) ch)) 6 ((lmS ((n2S jn cn (ngZ f cn ton) i_21).1) ((n2S jn cn (ngZ f cn ton) i_21).2.1) ((n2S jn cn (ngZ f cn ton) i_21).2.2) jn).1)) 7 (syD ((n2S jn cn (ngZ f cn ton) i_21).1) ((n2S jn cn (ngZ f cn ton) i_21).2.1) ((n2S jn cn (ngZ f cn ton) i_21).2.2) jn (b_44)))) H := hP
                  have hD : va_D (MA A) (mw cA A (upd (upd (x) 1 (nI (kpC w ch))) 4 (nI (0))) (va_up (va_up (va_up (va_up (f) 0 (sy5 ((n2S jn cn (ngZ f cn ton) i_21).1) ((n2S jn cn (ngZ f cn ton) i_21).2.1) ((n2S jn cn (ngZ f cn ton) i_21).2.2) jn (b_44))) 1 (kpK w (f 0) (f 1) ch)) 6 ((lmS ((n2S jn cn (ngZ f cn ton) i_21).1) ((n2S jn cn (ngZ f cn ton) i_21).2.1) ((n2S jn cn (ngZ f cn ton) i_21).2.2) jn).1)) 7 (syD ((n2S jn cn (ngZ f cn ton) i_21).1) ((n2S jn cn (ngZ f cn ton) i_21).2.1) ((n2S jn cn (ngZ f cn ton) i_21).2.2) jn (b_44)))) := mD hA
                  have kg_47 : (sy5 ((n2S jn cn (ngZ f cn ton) i_21).1) ((n2S jn cn (ngZ f cn ton) i_21).2.1) ((n2S jn cn (ngZ f cn ton) i_21).2.2) jn (b_44)) 0 = nI (jn) := (by rw [sy5_lo (by decide) (by decide)]; exact kg_37)
                  have kg_48 : (sy5 ((n2S jn cn (ngZ f cn ton) i_21).1) ((n2S jn cn (ngZ f cn ton) i_21).2.1) ((n2S jn cn (ngZ f cn ton) i_21).2.2) jn (b_44)) 1 = nI (cn) := (by rw [sy5_lo (by decide) (by decide)]; exact kg_38)
                  have kg_49 : (sy5 ((n2S jn cn (ngZ f cn ton) i_21).1) ((n2S jn cn (ngZ f cn ton) i_21).2.1) ((n2S jn cn (ngZ f cn ton) i_21).2.2) jn (b_44)) 2 = nI (clk) := (by rw [sy5_lo (by decide) (by decide)]; exact kg_39)
                  have kg_50 : (sy5 ((n2S jn cn (ngZ f cn ton) i_21).1) ((n2S jn cn (ngZ f cn ton) i_21).2.1) ((n2S jn cn (ngZ f cn ton) i_21).2.2) jn (b_44)) 3 = nI (ton + 1) := (by rw [sy5_lo (by decide) (by decide)]; exact kg_40)
                  have hle_51 := syV_le (g := (n2S jn cn (ngZ f cn ton) i_21).1) (l := (n2S jn cn (ngZ f cn ton) i_21).2.1) (d := (n2S jn cn (ngZ f cn ton) i_21).2.2) (jn := jn) (q := b_44)
                  refine g_if_le (P := syV ((n2S jn cn (ngZ f cn ton) i_21).1) ((n2S jn cn (ngZ f cn ton) i_21).2.1) ((n2S jn cn (ngZ f cn ton) i_21).2.2) jn (b_44) = 0) (tgt := 144) hx hb dX8_night_137 (by decide) (nI_ez (a := syV ((n2S jn cn (ngZ f cn ton) i_21).1) ((n2S jn cn (ngZ f cn ton) i_21).2.1) ((n2S jn cn (ngZ f cn ton) i_21).2.2) jn (b_44)) (by omega)) (fun c_52 => ?_) (fun c_52 => ?_)
                  · exact absurd c_52 syV_ne
                  · refine lv_iconst (v := nI (1)) hx hb dX8_night_140 gc_1 ?_
                    refine lv_goto (tgt := 145) hx hb dX8_night_141 (by decide) ?_
                    refine g_iadd hx hb dX8_night_145 ?_
                    refine lv_istore_n (lv' := [(1, .int (nI ((n2N jn cn (ngZ f cn ton) i_21) + (1)))), (2, .int (nI (i_21))), (0, .ref (A 0))]) hx hb dX8_night_146 rfl hl (by decide) rfl (fun ls hl => ?_)
                    refine lv_iinc (v := nI (i_21 + 1)) (lv' := [(2, .int (nI (i_21 + 1))), (1, .int (nI ((n2N jn cn (ngZ f cn ton) i_21) + (1)))), (0, .ref (A 0))]) hx hb dX8_night_147 hl (k := 1) rfl (inc_1 _) (by decide) rfl (fun ls hl => ?_)
                    refine lv_goto (tgt := 109) hx hb dX8_night_150 (by decide) ?_
                    exact ih_29 (i_21 + 1) _ _ (sy5 ((n2S jn cn (ngZ f cn ton) i_21).1) ((n2S jn cn (ngZ f cn ton) i_21).2.1) ((n2S jn cn (ngZ f cn ton) i_21).2.2) jn (b_44)) ((lmS ((n2S jn cn (ngZ f cn ton) i_21).1) ((n2S jn cn (ngZ f cn ton) i_21).2.1) ((n2S jn cn (ngZ f cn ton) i_21).2.2) jn).1) (syD ((n2S jn cn (ngZ f cn ton) i_21).1) ((n2S jn cn (ngZ f cn ton) i_21).2.1) ((n2S jn cn (ngZ f cn ton) i_21).2.2) jn (b_44)) H locs (by omega) (by omega) rfl (by rw [n2N_some eb_45]) (by rw [n2S_some eb_45]) (by rw [n2S_some eb_45]) (by rw [n2S_some eb_45])  hP hS ls (lv_sub hl [0, 1, 2] rfl)
          exact LP_28 (clk + 1) 0 _ _ (n1S (nI (ton + 1)) (upd (f 0) (3) (nI (ton + 1))) (cn)) (f 6) (f 7) H locs (by omega) (by omega) rfl rfl rfl rfl rfl  hP hS ls (lv_sub hl [0, 1, 2] rfl)
        · have d_19 : i_5 < cn := Nat.not_le.mp c_19
          refine lv_aload_n hx hb dX8_night_53 rfl (lv_at hl 1 rfl) ?_
          refine lv_iload_n hx hb dX8_night_54 rfl (lv_at hl 0 rfl) ?_
          refine lv_iconst (v := nI (3)) hx hb dX8_night_55 gc_3 ?_
          refine rd_calle (va_runV (As := [.int (nI (i_5)), .int (nI (3))]) (rest := []) ⟨hx, hb, hml, hown, hts⟩ (c_X8_of l D cA A (upd (upd (x) 1 (nI (kpC w ch))) 4 (nI (0))) (va_up (va_up (f) 0 (n1S (nI (ton + 1)) (upd (f 0) (3) (nI (ton + 1))) i_5)) 1 (kpK w (f 0) (f 1) ch)) (i_5) (3) (by omega)) (cwV 2 hts (gWV gm_14_3 gm_14_4 gm_14_5 gm_1_5 gm_14_6) rfl rfl rfl (by decide +kernel) ⟨Nat.le_of_ble_eq_true rfl, Nat.le_of_ble_eq_true rfl⟩) (gPreV hK (g_rf hK hP (ci := 10) (q0 := 0) rfl rfl) hP) rfl rfl hl.1 rfl (lv_room (Nat.le_of_ble_eq_true rfl)) dX8_night_56 ⟨by omega, by omega⟩) ?_
          refine g_if_le (P := gof (n1S (nI (ton + 1)) (upd (f 0) (3) (nI (ton + 1))) i_5) (i_5) (3) ≤ 0) (tgt := 99) hx hb dX8_night_59 (by decide) Iff.rfl (fun c_53 => ?_) (fun c_53 => ?_)
          · have d_53 : ¬ 0 < gof (n1S (nI (ton + 1)) (upd (f 0) (3) (nI (ton + 1))) i_5) (i_5) (3) := Int32.not_lt.mpr c_53
            refine lv_iinc (v := nI (i_5 + 1)) (lv' := [(1, .int (nI (i_5 + 1))), (0, .ref (A 0))]) hx hb dX8_night_99 hl (k := 0) rfl (inc_1 _) (by decide) rfl (fun ls hl => ?_)
            refine lv_goto (tgt := 43) hx hb dX8_night_102 (by decide) ?_
            exact ih_10 (i_5 + 1) _ (n1S (nI (ton + 1)) (upd (f 0) (3) (nI (ton + 1))) i_5) H locs (by omega) (by omega) rfl (by simp [n1S, c_19, d_19, c_53, d_53])  hP hS ls (lv_sub hl [0, 1] rfl)
          · have d_53 : 0 < gof (n1S (nI (ton + 1)) (upd (f 0) (3) (nI (ton + 1))) i_5) (i_5) (3) := Int32.not_le.mp c_53
            refine lv_aload_n hx hb dX8_night_62 rfl (lv_at hl 1 rfl) ?_
            refine lv_iload_n hx hb dX8_night_63 rfl (lv_at hl 0 rfl) ?_
            refine rd_calle (va_runV (As := [.int (nI (i_5))]) (rest := []) ⟨hx, hb, hml, hown, hts⟩ (c_X8_isClosed l D cA A (upd (upd (x) 1 (nI (kpC w ch))) 4 (nI (0))) (va_up (va_up (f) 0 (n1S (nI (ton + 1)) (upd (f 0) (3) (nI (ton + 1))) i_5)) 1 (kpK w (f 0) (f 1) ch)) (i_5) (by omega)) (cwV 1 hts (gWV gm_14_17 gm_14_18 gm_14_19 gm_1_5 gm_14_20) rfl rfl rfl (by decide +kernel) ⟨Nat.le_of_ble_eq_true rfl, Nat.le_of_ble_eq_true rfl⟩) (gPreV hK (g_rf hK hP (ci := 10) (q0 := 0) rfl rfl) hP) rfl rfl hl.1 rfl (lv_room (Nat.le_of_ble_eq_true rfl)) dX8_night_64 ⟨by omega, by omega⟩) ?_
            refine g_if_ne (P := clM (n1S (nI (ton + 1)) (upd (f 0) (3) (nI (ton + 1))) i_5) (i_5) = false) (tgt := 99) hx hb dX8_night_67 (by decide) b2i_0 (fun c_54 => ?_) (fun c_54 => ?_)
            · have c_54 : clM (n1S (nI (ton + 1)) (upd (f 0) (3) (nI (ton + 1))) i_5) (i_5) = true := eq_true_of_ne_false c_54
              refine lv_iinc (v := nI (i_5 + 1)) (lv' := [(1, .int (nI (i_5 + 1))), (0, .ref (A 0))]) hx hb dX8_night_99 hl (k := 0) rfl (inc_1 _) (by decide) rfl (fun ls hl => ?_)
              refine lv_goto (tgt := 43) hx hb dX8_night_102 (by decide) ?_
              exact ih_10 (i_5 + 1) _ (n1S (nI (ton + 1)) (upd (f 0) (3) (nI (ton + 1))) i_5) H locs (by omega) (by omega) rfl (by simp [n1S, c_19, d_19, c_53, d_53, c_54])  hP hS ls (lv_sub hl [0, 1] rfl)
            · refine lv_aload_n hx hb dX8_night_70 rfl (lv_at hl 1 rfl) ?_
              refine g_get (v := .ref (A 1)) hx hb hts hown hK hP 0 rfl rfl gu_wsX80 0 (by decide) gm_5_14 rfl dX8_night_71 ?_
              refine lv_iconst (v := nI (3)) hx hb dX8_night_74 gc_3 ?_
              refine g_iald (x := nI (ton + 1)) hx hb hK hP 1 rfl (by omega) (by decide) kg_18 dX8_night_75 ?_
              refine lv_aload_n hx hb dX8_night_76 rfl (lv_at hl 1 rfl) ?_
              refine lv_iload_n hx hb dX8_night_77 rfl (lv_at hl 0 rfl) ?_
              refine lv_iconst (v := nI (4)) hx hb dX8_night_78 gc_4 ?_
              refine rd_calle (va_runV (As := [.int (nI (i_5)), .int (nI (4))]) (rest := [.int (nI (ton + 1))]) ⟨hx, hb, hml, hown, hts⟩ (c_X8_of l D cA A (upd (upd (x) 1 (nI (kpC w ch))) 4 (nI (0))) (va_up (va_up (f) 0 (n1S (nI (ton + 1)) (upd (f 0) (3) (nI (ton + 1))) i_5)) 1 (kpK w (f 0) (f 1) ch)) (i_5) (4) (by omega)) (cwV 2 hts (gWV gm_14_3 gm_14_4 gm_14_5 gm_1_5 gm_14_6) rfl rfl rfl (by decide +kernel) ⟨Nat.le_of_ble_eq_true rfl, Nat.le_of_ble_eq_true rfl⟩) (gPreV hK (g_rf hK hP (ci := 10) (q0 := 0) rfl rfl) hP) rfl rfl hl.1 rfl (lv_room (Nat.le_of_ble_eq_true rfl)) dX8_night_79 ⟨by omega, by omega⟩) ?_
              refine lv_isub hx hb dX8_night_82 ?_
              refine lv_iconst (v := nI (4)) hx hb dX8_night_83 gc_4 ?_
              refine g_icmp_lt (P := (nI (ton + 1)) - (gof (n1S (nI (ton + 1)) (upd (f 0) (3) (nI (ton + 1))) i_5) (i_5) (4)) < nI (4)) (tgt := 99) hx hb dX8_night_84 (by decide) Iff.rfl (fun c_55 => ?_) (fun c_55 => ?_)
              · have d_55 : ¬ nI (4) ≤ (nI (ton + 1)) - (gof (n1S (nI (ton + 1)) (upd (f 0) (3) (nI (ton + 1))) i_5) (i_5) (4)) := Int32.not_le.mpr c_55
                refine lv_iinc (v := nI (i_5 + 1)) (lv' := [(1, .int (nI (i_5 + 1))), (0, .ref (A 0))]) hx hb dX8_night_99 hl (k := 0) rfl (inc_1 _) (by decide) rfl (fun ls hl => ?_)
                refine lv_goto (tgt := 43) hx hb dX8_night_102 (by decide) ?_
                exact ih_10 (i_5 + 1) _ (n1S (nI (ton + 1)) (upd (f 0) (3) (nI (ton + 1))) i_5) H locs (by omega) (by omega) rfl (by simp [n1S, c_19, d_19, c_53, d_53, c_54, c_55, d_55])  hP hS ls (lv_sub hl [0, 1] rfl)
              · have d_55 : nI (4) ≤ (nI (ton + 1)) - (gof (n1S (nI (ton + 1)) (upd (f 0) (3) (nI (ton + 1))) i_5) (i_5) (4)) := Int32.not_lt.mp c_55
                refine lv_aload_n hx hb dX8_night_87 rfl (lv_at hl 1 rfl) ?_
                refine lv_iload_n hx hb dX8_night_88 rfl (lv_at hl 0 rfl) ?_
                refine lv_iconst (v := nI (5)) hx hb dX8_night_89 gc_5 ?_
                refine lv_aload_n hx hb dX8_night_90 rfl (lv_at hl 1 rfl) ?_
                refine g_get (v := .ref (A 1)) hx hb hts hown hK hP 0 rfl rfl gu_wsX80 0 (by decide) gm_5_14 rfl dX8_night_91 ?_
                refine lv_iconst (v := nI (3)) hx hb dX8_night_94 gc_3 ?_
                refine g_iald (x := nI (ton + 1)) hx hb hK hP 1 rfl (by omega) (by decide) kg_18 dX8_night_95 ?_
                refine wr_callv (va_runV (As := [.int (nI (i_5)), .int (nI (5)), .int (nI (ton + 1))]) (rest := []) ⟨hx, hb, hml, hown, hts⟩ (c_X8_lays l D cA A (upd (upd (x) 1 (nI (kpC w ch))) 4 (nI (0))) (va_up (va_up (f) 0 (n1S (nI (ton + 1)) (upd (f 0) (3) (nI (ton + 1))) i_5)) 1 (kpK w (f 0) (f 1) ch)) (i_5) (5) (nI (ton + 1))  hA (by omega)) (cwV 3 hts (gWV gm_11_1 gm_11_2 gm_11_3 gm_1_5 gm_11_4) rfl rfl rfl (by decide +kernel) ⟨Nat.le_of_ble_eq_true rfl, Nat.le_of_ble_eq_true rfl⟩) (gPreV hK (g_rf hK hP (ci := 10) (q0 := 0) rfl rfl) hP) rfl rfl hl.1 rfl (lv_room (Nat.le_of_ble_eq_true rfl)) dX8_night_96 ⟨by omega, by omega⟩) hS (fun q _ h => h) (fun q h => h) (fun H locs hP hz9 hk9 hS => ?_)
                have hP : va_P D vwCl (mw cA A (upd (upd (x) 1 (nI (kpC w ch))) 4 (nI (0))) (va_up (va_up (f) 0 (upd (n1S (nI (ton + 1)) (upd (f 0) (3) (nI (ton + 1))) i_5) (44 + 8 * (i_5) + (5)) (nI (ton + 1)))) 1 (kpK w (f 0) (f 1) ch))) H := hP
                have hD : va_D (MA A) (mw cA A (upd (upd (x) 1 (nI (kpC w ch))) 4 (nI (0))) (va_up (va_up (f) 0 (upd (n1S (nI (ton + 1)) (upd (f 0) (3) (nI (ton + 1))) i_5) (44 + 8 * (i_5) + (5)) (nI (ton + 1)))) 1 (kpK w (f 0) (f 1) ch))) := mD hA
                have kg_56 : (upd (n1S (nI (ton + 1)) (upd (f 0) (3) (nI (ton + 1))) i_5) (44 + 8 * (i_5) + (5)) (nI (ton + 1))) 0 = nI (jn) := (by rw [pk_un (by omega)]; exact kg_15)
                have kg_57 : (upd (n1S (nI (ton + 1)) (upd (f 0) (3) (nI (ton + 1))) i_5) (44 + 8 * (i_5) + (5)) (nI (ton + 1))) 1 = nI (cn) := (by rw [pk_un (by omega)]; exact kg_16)
                have kg_58 : (upd (n1S (nI (ton + 1)) (upd (f 0) (3) (nI (ton + 1))) i_5) (44 + 8 * (i_5) + (5)) (nI (ton + 1))) 2 = nI (clk) := (by rw [pk_un (by omega)]; exact kg_17)
                have kg_59 : (upd (n1S (nI (ton + 1)) (upd (f 0) (3) (nI (ton + 1))) i_5) (44 + 8 * (i_5) + (5)) (nI (ton + 1))) 3 = nI (ton + 1) := (by rw [pk_un (by omega)]; exact kg_18)
                refine lv_iinc (v := nI (i_5 + 1)) (lv' := [(1, .int (nI (i_5 + 1))), (0, .ref (A 0))]) hx hb dX8_night_99 hl (k := 0) rfl (inc_1 _) (by decide) rfl (fun ls hl => ?_)
                refine lv_goto (tgt := 43) hx hb dX8_night_102 (by decide) ?_
                exact ih_10 (i_5 + 1) _ (upd (n1S (nI (ton + 1)) (upd (f 0) (3) (nI (ton + 1))) i_5) (44 + 8 * (i_5) + (5)) (nI (ton + 1))) H locs (by omega) (by omega) rfl (by simp [n1S, c_19, d_19, c_53, d_53, c_54, c_55, d_55])  hP hS ls (lv_sub hl [0, 1] rfl)
    exact LP_9 (cn + 1) 0 _ (upd (f 0) (3) (nI (ton + 1))) H locs (by omega) (by omega) rfl rfl  hP hS ls (lv_sub hl [0, 1] rfl)
  · refine lv_aload_n hx hb dX8_night_11 rfl (lv_at hl 0 rfl) ?_
    refine lv_iconst (v := nI (1)) hx hb dX8_night_12 gc_1 ?_
    refine lv_bipush (v := nI (8)) hx hb dX8_night_13 gb_8 ?_
    refine lv_aload_n hx hb dX8_night_15 rfl (lv_at hl 0 rfl) ?_
    refine rd_calle (va_runV (As := []) (rest := [.int (nI (8)), .int (nI (1)), .ref (A 0)]) ⟨hx, hb, hml, hown, hts⟩ (c_X8_rolls l D cA A (x) (f)  cn hc hcn) (cwV 0 hts (gWV gm_23_18 gm_23_19 gm_23_20 gm_1_5 gm_23_21) rfl rfl rfl (by decide +kernel) ⟨Nat.le_of_ble_eq_true rfl, Nat.le_of_ble_eq_true rfl⟩) (gPreV hK (g_rf hK hP (ci := 10) (q0 := 0) rfl rfl) hP) rfl rfl hl.1 rfl (lv_room (Nat.le_of_ble_eq_true rfl)) dX8_night_16 ⟨by omega, by omega⟩) ?_
    refine wr_calli (va_runV (As := [.int (nI (1)), .int (nI (8)), .int (nI (fb_ct (rlM (f 0)) cn))]) (rest := []) ⟨hx, hb, hml, hown, hts⟩ (c_X8_refuses l D cA A (x) (f) (1) (nI (8)) (nI (fb_ct (rlM (f 0)) cn))  hA) (cwV 3 hts (gWV gm_9_5 gm_9_6 gm_9_7 gm_1_5 gm_9_8) rfl rfl rfl (by decide +kernel) ⟨Nat.le_of_ble_eq_true rfl, Nat.le_of_ble_eq_true rfl⟩) (gPreV hK (g_rf hK hP (ci := 10) (q0 := 0) rfl rfl) hP) rfl rfl hl.1 rfl (lv_room (Nat.le_of_ble_eq_true rfl)) dX8_night_19 ⟨by omega, by omega⟩) hS (fun q _ h => h) (fun q h => h) (fun r H locs hw9 hz9 hk9 hS => ?_)
    obtain ⟨rfl, hP⟩ := hw9
    have hP : va_P D vwCl (mw cA A (upd (upd (upd (upd (x) 3 (nI (1))) 4 (nI (1))) 5 (nI (8))) 6 (nI (fb_ct (rlM (f 0)) cn))) (f)) H := hP
    have hD : va_D (MA A) (mw cA A (upd (upd (upd (upd (x) 3 (nI (1))) 4 (nI (1))) 5 (nI (8))) 6 (nI (fb_ct (rlM (f 0)) cn))) (f)) := mD hA
    exact g_iretW (v := nI (0)) hx hb hr hlk hS dX8_night_22 (by rw [ngM, if_pos c_1]; exact ⟨rfl, hP⟩)

