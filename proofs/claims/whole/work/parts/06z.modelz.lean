def joM (x : Nat → Int32) (g : Nat → Int32) (jn cn : Nat) (v t : Int32) : Int32 × (Nat → Int32) := if isIx v jn = true then (if inB t (nI 0) (nI 4) = true then (if t = nI 2 then (nI (ldM g cn v.toNatClampNeg), failX x 0) else (if nI 2 ≤ t then (gby g v.toNatClampNeg (t.toNatClampNeg - 1), failX x 0) else (gby g v.toNatClampNeg t.toNatClampNeg, failX x 0))) else (nI 0, failX x 2)) else (nI 0, failX x 1)
def coM (x : Nat → Int32) (g : Nat → Int32) (cn : Nat) (v t : Int32) : Int32 × (Nat → Int32) := if isIx v cn = true then (if inB t (nI 0) (nI 7) = true then (if t = nI 5 then (if clM g v.toNatClampNeg = true then (nI 1, failX x 0) else (nI 0, failX x 0)) else (gof g v.toNatClampNeg t.toNatClampNeg, failX x 0)) else (nI 0, failX x 2)) else (nI 0, failX x 1)
theorem inB_n {t : Int32} {n : Nat} (h : inB t (nI 0) (nI n) = true) (hn : n < 2 ^ 30) : ∃ k : Nat, k ≤ n ∧ t = nI k := by
  have h0 : (nI 0).toInt = 0 := by decide +kernel
  have h1 : (nI n).toInt = (n : Int) := nI_toInt (by omega)
  simp only [inB, Int32.lt_iff_toInt_lt, h0, h1, decide_eq_true_eq] at h
  have hx : vp_in t (n + 1) := vp_in_iff.mpr ⟨by omega, by omega⟩
  obtain ⟨j, hj, e⟩ := vp_in_of hx (by omega)
  exact ⟨j, by omega, e⟩

set_option maxHeartbeats 1000000 in
set_option maxRecDepth 100000 in
theorem c_X8_jurorOf (l : Launch) (D : va_G) (cA : Nat → ClassId) (A : Nat → Nat) (x : Nat → Int32) (f : Nat → Nat → Int32) (v t : Int32) (jn cn : Nat) (hA : mInj A) (hj : f 0 0 = nI jn) (hjn : jn ≤ 9) (hc : f 0 1 = nI cn) (hcn : cn ≤ 10) : Met l yX8_jurorOf (gw yX8_jurorOf cX8_jurorOf 3 (some .int)) ({ frames := 3, cells := 0, slots := 0, locals := 66 } : Room) (gPc [.ref (A 0), .int (v), .int (t)] (fun H => va_P D vwCl (mw cA A x f) H) D cA) (wrI (fun r H => r = (joM x (f 0) jn cn v t).1 ∧ va_P D vwCl (mw cA A (joM x (f 0) jn cn v t).2 f) H) (MA A)) 0 0 (MA A) := by
  refine gOf (by decide) (Nat.le_of_ble_eq_true rfl) ?_
  intro p e s m below meth c ls hx hb hml hr hlk hown hts hnm hP hK hl
  have hl : lv_has ls 3 [(0, .ref (A 0)), (1, .int (v)), (2, .int (t))] := hl
  have hD : va_D (MA A) (mw cA A x f) := mD hA
  have hS : va_S (MA A) s.heap s.heap [] := va_S.rf
  refine lv_aload_n hx hb dX8_jurorOf_0 rfl (lv_at hl 0 rfl) ?_
  refine lv_aload_n hx hb dX8_jurorOf_1 rfl (lv_at hl 0 rfl) ?_
  refine lv_iload_n hx hb dX8_jurorOf_2 rfl (lv_at hl 1 rfl) ?_
  refine rd_calle (va_runV (As := [.int (v)]) (rest := [.ref (A 0)]) ⟨hx, hb, hml, hown, hts⟩ (c_X8_isJuror l D cA A (x) (f) (v) jn hj hjn) (cwV 1 hts (gWV gm_25_10 gm_25_11 gm_25_12 gm_1_5 gm_25_13) rfl rfl rfl (by decide +kernel) ⟨Nat.le_of_ble_eq_true rfl, Nat.le_of_ble_eq_true rfl⟩) (gPreV hK (g_rf hK hP (ci := 10) (q0 := 0) rfl rfl) hP) rfl rfl hl.1 rfl (lv_room (Nat.le_of_ble_eq_true rfl)) dX8_jurorOf_3 ⟨by omega, by omega⟩) ?_
  refine g_if_ne (P := isIx (v) jn = false) (tgt := 13) hx hb dX8_jurorOf_6 (by decide) b2i_0 (fun c_1 => ?_) (fun c_1 => ?_)
  · have c_1 : isIx (v) jn = true := eq_true_of_ne_false c_1
    obtain ⟨j_2, hj_4, ej_3⟩ := isIx_n c_1 (by omega)
    rw [ej_3] at hl
    have hl : lv_has ls 3 [(0, .ref (A 0)), (1, .int (nI (j_2))), (2, .int (t))] := hl
    refine lv_iload_n hx hb dX8_jurorOf_13 rfl (lv_at hl 2 rfl) ?_
    refine lv_iconst (v := nI (0)) hx hb dX8_jurorOf_14 gc_0 ?_
    refine lv_iconst (v := nI (4)) hx hb dX8_jurorOf_15 gc_4 ?_
    refine rd_calle (va_runS (As := [.int (t), .int (nI (0)), .int (nI (4))]) (rest := [.ref (A 0)]) ⟨hx, hb, hml, hown, hts⟩ (c_X8_in l D cA (t) (nI (0)) (nI (4))) (cwS 3 hts (gWS gm_8_20 gm_8_21 gm_1_5 gm_8_22) rfl rfl rfl (by decide +kernel) ⟨Nat.le_of_ble_eq_true rfl, Nat.le_of_ble_eq_true rfl⟩) (gPreS hK trivial) rfl rfl hl.1 rfl (lv_room (Nat.le_of_ble_eq_true rfl)) dX8_jurorOf_16 ⟨by omega, by omega⟩) ?_
    refine g_if_eq (P := inB (t) (nI (0)) (nI (4)) = false) (tgt := 26) hx hb dX8_jurorOf_19 (by decide) b2i_0 (fun c_5 => ?_) (fun c_5 => ?_)
    · refine lv_iconst (v := nI (2)) hx hb dX8_jurorOf_26 gc_2 ?_
      refine wr_calli (va_runV (As := [.int (nI (2))]) (rest := []) ⟨hx, hb, hml, hown, hts⟩ (c_X8_fails l D cA A (x) (f) (2)  hA (by decide)) (cwV 1 hts (gWV gm_8_23 gm_9_0 gm_9_1 gm_1_5 gm_9_2) rfl rfl rfl (by decide +kernel) ⟨Nat.le_of_ble_eq_true rfl, Nat.le_of_ble_eq_true rfl⟩) (gPreV hK (g_rf hK hP (ci := 10) (q0 := 0) rfl rfl) hP) rfl rfl hl.1 rfl (lv_room (Nat.le_of_ble_eq_true rfl)) dX8_jurorOf_27 ⟨by omega, by omega⟩) hS (fun q _ h => h) (fun q h => h) (fun r H locs hw9 hz9 hk9 hS => ?_)
      obtain ⟨rfl, hP⟩ := hw9
      have hP : va_P D vwCl (mw cA A (upd (upd (x) 3 (nI (0))) 4 (nI (2))) (f)) H := hP
      have hD : va_D (MA A) (mw cA A (upd (upd (x) 3 (nI (0))) 4 (nI (2))) (f)) := mD hA
      refine g_if_eq (P := true = false) (tgt := 35) hx hb dX8_jurorOf_30 (by decide) b2i_0 (fun c_6 => ?_) (fun c_6 => ?_)
      · exact absurd c_6 (by decide)
      · have c_6 : true = true := eq_true_of_ne_false c_6
        refine lv_iconst (v := nI (0)) hx hb dX8_jurorOf_33 gc_0 ?_
        exact g_iretW (v := nI (0)) hx hb hr hlk hS dX8_jurorOf_34 (by have hq9 : v.toNatClampNeg = j_2 := (by rw [ej_3, nI_clamp (by omega)]); rw [joM, if_pos c_1, if_neg (bnt c_5)]; (try rw [hq9]); exact ⟨rfl, hP⟩)
    · have c_5 : inB (t) (nI (0)) (nI (4)) = true := eq_true_of_ne_false c_5
      obtain ⟨k_7, hk_9, ek_8⟩ := inB_n c_5 (by decide)
      rw [ek_8] at hl
      have hl : lv_has ls 3 [(0, .ref (A 0)), (1, .int (nI (j_2))), (2, .int (nI (k_7)))] := hl
      refine lv_iconst (v := nI (0)) hx hb dX8_jurorOf_22 gc_0 ?_
      refine lv_goto (tgt := 27) hx hb dX8_jurorOf_23 (by decide) ?_
      refine wr_calli (va_runV (As := [.int (nI (0))]) (rest := []) ⟨hx, hb, hml, hown, hts⟩ (c_X8_fails l D cA A (x) (f) (0)  hA (by decide)) (cwV 1 hts (gWV gm_8_23 gm_9_0 gm_9_1 gm_1_5 gm_9_2) rfl rfl rfl (by decide +kernel) ⟨Nat.le_of_ble_eq_true rfl, Nat.le_of_ble_eq_true rfl⟩) (gPreV hK (g_rf hK hP (ci := 10) (q0 := 0) rfl rfl) hP) rfl rfl hl.1 rfl (lv_room (Nat.le_of_ble_eq_true rfl)) dX8_jurorOf_27 ⟨by omega, by omega⟩) hS (fun q _ h => h) (fun q h => h) (fun r H locs hw9 hz9 hk9 hS => ?_)
      obtain ⟨rfl, hP⟩ := hw9
      have hP : va_P D vwCl (mw cA A (upd (upd (x) 3 (nI (0))) 4 (nI (0))) (f)) H := hP
      have hD : va_D (MA A) (mw cA A (upd (upd (x) 3 (nI (0))) 4 (nI (0))) (f)) := mD hA
      refine g_if_eq (P := false = false) (tgt := 35) hx hb dX8_jurorOf_30 (by decide) b2i_0 (fun c_10 => ?_) (fun c_10 => ?_)
      · refine lv_iload_n hx hb dX8_jurorOf_35 rfl (lv_at hl 2 rfl) ?_
        refine lv_iconst (v := nI (2)) hx hb dX8_jurorOf_36 gc_2 ?_
        refine g_icmp_ne (P := k_7 = 2) (tgt := 48) hx hb dX8_jurorOf_37 (by decide) (nI_eq (by omega) (by omega)) (fun c_11 => ?_) (fun c_11 => ?_)
        · refine lv_aload_n hx hb dX8_jurorOf_48 rfl (lv_at hl 0 rfl) ?_
          refine lv_iload_n hx hb dX8_jurorOf_49 rfl (lv_at hl 1 rfl) ?_
          refine lv_iload_n hx hb dX8_jurorOf_50 rfl (lv_at hl 2 rfl) ?_
          refine lv_iconst (v := nI (2)) hx hb dX8_jurorOf_51 gc_2 ?_
          refine g_icmp_ge (P := 2 ≤ k_7) (tgt := 59) hx hb dX8_jurorOf_52 (by decide) (nI_leI (by omega) (by omega)) (fun c_12 => ?_) (fun c_12 => ?_)
          · have d_12 : ¬ k_7 < 2 := Nat.not_lt.mpr c_12
            refine lv_iload_n hx hb dX8_jurorOf_59 rfl (lv_at hl 2 rfl) ?_
            refine lv_iconst (v := nI (1)) hx hb dX8_jurorOf_60 gc_1 ?_
            refine g_isub hx hb (by omega) dX8_jurorOf_61 ?_
            refine rd_calle (va_runV (As := [.int (nI (j_2)), .int (nI ((k_7) - (1)))]) (rest := []) ⟨hx, hb, hml, hown, hts⟩ (c_X8_by l D cA A (upd (upd (x) 3 (nI (0))) 4 (nI (0))) (f) (j_2) ((k_7) - (1)) (by omega)) (cwV 2 hts (gWV gm_15_9 gm_15_10 gm_15_11 gm_1_5 gm_15_12) rfl rfl rfl (by decide +kernel) ⟨Nat.le_of_ble_eq_true rfl, Nat.le_of_ble_eq_true rfl⟩) (gPreV hK (g_rf hK hP (ci := 10) (q0 := 0) rfl rfl) hP) rfl rfl hl.1 rfl (lv_room (Nat.le_of_ble_eq_true rfl)) dX8_jurorOf_62 ⟨by omega, by omega⟩) ?_
            exact g_iretW (v := gby (f 0) (j_2) ((k_7) - (1))) hx hb hr hlk hS dX8_jurorOf_65 (by have hq9 : v.toNatClampNeg = j_2 := (by rw [ej_3, nI_clamp (by omega)]); have hk9 : t.toNatClampNeg = k_7 := (by rw [ek_8, nI_clamp (by omega)]); rw [joM, if_pos c_1, if_pos c_5, if_neg (show ¬ t = nI 2 by rw [ek_8]; exact fun h9 => c_11 ((nI_eq (by omega) (by omega)).mp h9)), if_pos (show nI 2 ≤ t by rw [ek_8]; exact (nI_leI (by omega) (by omega)).mpr c_12)]; (try rw [hq9]); (try rw [hk9]); exact ⟨rfl, hP⟩)
          · have d_12 : k_7 < 2 := Nat.not_le.mp c_12
            refine lv_iload_n hx hb dX8_jurorOf_55 rfl (lv_at hl 2 rfl) ?_
            refine lv_goto (tgt := 62) hx hb dX8_jurorOf_56 (by decide) ?_
            refine rd_calle (va_runV (As := [.int (nI (j_2)), .int (nI (k_7))]) (rest := []) ⟨hx, hb, hml, hown, hts⟩ (c_X8_by l D cA A (upd (upd (x) 3 (nI (0))) 4 (nI (0))) (f) (j_2) (k_7) (by omega)) (cwV 2 hts (gWV gm_15_9 gm_15_10 gm_15_11 gm_1_5 gm_15_12) rfl rfl rfl (by decide +kernel) ⟨Nat.le_of_ble_eq_true rfl, Nat.le_of_ble_eq_true rfl⟩) (gPreV hK (g_rf hK hP (ci := 10) (q0 := 0) rfl rfl) hP) rfl rfl hl.1 rfl (lv_room (Nat.le_of_ble_eq_true rfl)) dX8_jurorOf_62 ⟨by omega, by omega⟩) ?_
            exact g_iretW (v := gby (f 0) (j_2) (k_7)) hx hb hr hlk hS dX8_jurorOf_65 (by have hq9 : v.toNatClampNeg = j_2 := (by rw [ej_3, nI_clamp (by omega)]); have hk9 : t.toNatClampNeg = k_7 := (by rw [ek_8, nI_clamp (by omega)]); rw [joM, if_pos c_1, if_pos c_5, if_neg (show ¬ t = nI 2 by rw [ek_8]; exact fun h9 => c_11 ((nI_eq (by omega) (by omega)).mp h9)), if_neg (show ¬ nI 2 ≤ t by rw [ek_8]; exact fun h9 => c_12 ((nI_leI (by omega) (by omega)).mp h9))]; (try rw [hq9]); (try rw [hk9]); exact ⟨rfl, hP⟩)
        · refine lv_aload_n hx hb dX8_jurorOf_40 rfl (lv_at hl 0 rfl) ?_
          refine lv_iload_n hx hb dX8_jurorOf_41 rfl (lv_at hl 1 rfl) ?_
          refine rd_calle (va_runV (As := [.int (nI (j_2))]) (rest := []) ⟨hx, hb, hml, hown, hts⟩ (c_X8_loadOf l D cA A (upd (upd (x) 3 (nI (0))) 4 (nI (0))) (f) (j_2) cn hc hcn) (cwV 1 hts (gWV gm_14_13 gm_14_14 gm_14_15 gm_1_5 gm_14_16) rfl rfl rfl (by decide +kernel) ⟨Nat.le_of_ble_eq_true rfl, Nat.le_of_ble_eq_true rfl⟩) (gPreV hK (g_rf hK hP (ci := 10) (q0 := 0) rfl rfl) hP) rfl rfl hl.1 rfl (lv_room (Nat.le_of_ble_eq_true rfl)) dX8_jurorOf_42 ⟨by omega, by omega⟩) ?_
          refine lv_goto (tgt := 65) hx hb dX8_jurorOf_45 (by decide) ?_
          exact g_iretW (v := nI (ldM (f 0) cn (j_2))) hx hb hr hlk hS dX8_jurorOf_65 (by have hq9 : v.toNatClampNeg = j_2 := (by rw [ej_3, nI_clamp (by omega)]); have hk9 : t.toNatClampNeg = k_7 := (by rw [ek_8, nI_clamp (by omega)]); rw [joM, if_pos c_1, if_pos c_5, if_pos (show t = nI 2 by rw [ek_8]; exact (nI_eq (by omega) (by omega)).mpr c_11)]; (try rw [hq9]); (try rw [hk9]); exact ⟨rfl, hP⟩)
      · exact absurd c_10 (by decide)
  · refine lv_iconst (v := nI (1)) hx hb dX8_jurorOf_9 gc_1 ?_
    refine lv_goto (tgt := 27) hx hb dX8_jurorOf_10 (by decide) ?_
    refine wr_calli (va_runV (As := [.int (nI (1))]) (rest := []) ⟨hx, hb, hml, hown, hts⟩ (c_X8_fails l D cA A (x) (f) (1)  hA (by decide)) (cwV 1 hts (gWV gm_8_23 gm_9_0 gm_9_1 gm_1_5 gm_9_2) rfl rfl rfl (by decide +kernel) ⟨Nat.le_of_ble_eq_true rfl, Nat.le_of_ble_eq_true rfl⟩) (gPreV hK (g_rf hK hP (ci := 10) (q0 := 0) rfl rfl) hP) rfl rfl hl.1 rfl (lv_room (Nat.le_of_ble_eq_true rfl)) dX8_jurorOf_27 ⟨by omega, by omega⟩) hS (fun q _ h => h) (fun q h => h) (fun r H locs hw9 hz9 hk9 hS => ?_)
    obtain ⟨rfl, hP⟩ := hw9
    have hP : va_P D vwCl (mw cA A (upd (upd (x) 3 (nI (0))) 4 (nI (1))) (f)) H := hP
    have hD : va_D (MA A) (mw cA A (upd (upd (x) 3 (nI (0))) 4 (nI (1))) (f)) := mD hA
    refine g_if_eq (P := true = false) (tgt := 35) hx hb dX8_jurorOf_30 (by decide) b2i_0 (fun c_13 => ?_) (fun c_13 => ?_)
    · exact absurd c_13 (by decide)
    · have c_13 : true = true := eq_true_of_ne_false c_13
      refine lv_iconst (v := nI (0)) hx hb dX8_jurorOf_33 gc_0 ?_
      exact g_iretW (v := nI (0)) hx hb hr hlk hS dX8_jurorOf_34 (by rw [joM, if_neg (bnt c_1)]; exact ⟨rfl, hP⟩)

set_option maxHeartbeats 1000000 in
set_option maxRecDepth 100000 in
theorem c_X8_caseOf (l : Launch) (D : va_G) (cA : Nat → ClassId) (A : Nat → Nat) (x : Nat → Int32) (f : Nat → Nat → Int32) (v t : Int32) (cn : Nat) (hA : mInj A) (hc : f 0 1 = nI cn) (hcn : cn ≤ 10) : Met l yX8_caseOf (gw yX8_caseOf cX8_caseOf 3 (some .int)) ({ frames := 2, cells := 0, slots := 0, locals := 43 } : Room) (gPc [.ref (A 0), .int (v), .int (t)] (fun H => va_P D vwCl (mw cA A x f) H) D cA) (wrI (fun r H => r = (coM x (f 0) cn v t).1 ∧ va_P D vwCl (mw cA A (coM x (f 0) cn v t).2 f) H) (MA A)) 0 0 (MA A) := by
  refine gOf (by decide) (Nat.le_of_ble_eq_true rfl) ?_
  intro p e s m below meth c ls hx hb hml hr hlk hown hts hnm hP hK hl
  have hl : lv_has ls 3 [(0, .ref (A 0)), (1, .int (v)), (2, .int (t))] := hl
  have hD : va_D (MA A) (mw cA A x f) := mD hA
  have hS : va_S (MA A) s.heap s.heap [] := va_S.rf
  refine lv_aload_n hx hb dX8_caseOf_0 rfl (lv_at hl 0 rfl) ?_
  refine lv_aload_n hx hb dX8_caseOf_1 rfl (lv_at hl 0 rfl) ?_
  refine lv_iload_n hx hb dX8_caseOf_2 rfl (lv_at hl 1 rfl) ?_
  refine rd_calle (va_runV (As := [.int (v)]) (rest := [.ref (A 0)]) ⟨hx, hb, hml, hown, hts⟩ (c_X8_isCase l D cA A (x) (f) (v) cn hc hcn) (cwV 1 hts (gWV gm_13_23 gm_14_0 gm_14_1 gm_1_5 gm_14_2) rfl rfl rfl (by decide +kernel) ⟨Nat.le_of_ble_eq_true rfl, Nat.le_of_ble_eq_true rfl⟩) (gPreV hK (g_rf hK hP (ci := 10) (q0 := 0) rfl rfl) hP) rfl rfl hl.1 rfl (lv_room (Nat.le_of_ble_eq_true rfl)) dX8_caseOf_3 ⟨by omega, by omega⟩) ?_
  refine g_if_ne (P := isIx (v) cn = false) (tgt := 13) hx hb dX8_caseOf_6 (by decide) b2i_0 (fun c_1 => ?_) (fun c_1 => ?_)
  · have c_1 : isIx (v) cn = true := eq_true_of_ne_false c_1
    obtain ⟨j_2, hj_4, ej_3⟩ := isIx_n c_1 (by omega)
    rw [ej_3] at hl
    have hl : lv_has ls 3 [(0, .ref (A 0)), (1, .int (nI (j_2))), (2, .int (t))] := hl
    refine lv_iload_n hx hb dX8_caseOf_13 rfl (lv_at hl 2 rfl) ?_
    refine lv_iconst (v := nI (0)) hx hb dX8_caseOf_14 gc_0 ?_
    refine lv_bipush (v := nI (7)) hx hb dX8_caseOf_15 gb_7 ?_
    refine rd_calle (va_runS (As := [.int (t), .int (nI (0)), .int (nI (7))]) (rest := [.ref (A 0)]) ⟨hx, hb, hml, hown, hts⟩ (c_X8_in l D cA (t) (nI (0)) (nI (7))) (cwS 3 hts (gWS gm_8_20 gm_8_21 gm_1_5 gm_8_22) rfl rfl rfl (by decide +kernel) ⟨Nat.le_of_ble_eq_true rfl, Nat.le_of_ble_eq_true rfl⟩) (gPreS hK trivial) rfl rfl hl.1 rfl (lv_room (Nat.le_of_ble_eq_true rfl)) dX8_caseOf_17 ⟨by omega, by omega⟩) ?_
    refine g_if_eq (P := inB (t) (nI (0)) (nI (7)) = false) (tgt := 27) hx hb dX8_caseOf_20 (by decide) b2i_0 (fun c_5 => ?_) (fun c_5 => ?_)
    · refine lv_iconst (v := nI (2)) hx hb dX8_caseOf_27 gc_2 ?_
      refine wr_calli (va_runV (As := [.int (nI (2))]) (rest := []) ⟨hx, hb, hml, hown, hts⟩ (c_X8_fails l D cA A (x) (f) (2)  hA (by decide)) (cwV 1 hts (gWV gm_8_23 gm_9_0 gm_9_1 gm_1_5 gm_9_2) rfl rfl rfl (by decide +kernel) ⟨Nat.le_of_ble_eq_true rfl, Nat.le_of_ble_eq_true rfl⟩) (gPreV hK (g_rf hK hP (ci := 10) (q0 := 0) rfl rfl) hP) rfl rfl hl.1 rfl (lv_room (Nat.le_of_ble_eq_true rfl)) dX8_caseOf_28 ⟨by omega, by omega⟩) hS (fun q _ h => h) (fun q h => h) (fun r H locs hw9 hz9 hk9 hS => ?_)
      obtain ⟨rfl, hP⟩ := hw9
      have hP : va_P D vwCl (mw cA A (upd (upd (x) 3 (nI (0))) 4 (nI (2))) (f)) H := hP
      have hD : va_D (MA A) (mw cA A (upd (upd (x) 3 (nI (0))) 4 (nI (2))) (f)) := mD hA
      refine g_if_eq (P := true = false) (tgt := 36) hx hb dX8_caseOf_31 (by decide) b2i_0 (fun c_6 => ?_) (fun c_6 => ?_)
      · exact absurd c_6 (by decide)
      · have c_6 : true = true := eq_true_of_ne_false c_6
        refine lv_iconst (v := nI (0)) hx hb dX8_caseOf_34 gc_0 ?_
        exact g_iretW (v := nI (0)) hx hb hr hlk hS dX8_caseOf_35 (by have hq9 : v.toNatClampNeg = j_2 := (by rw [ej_3, nI_clamp (by omega)]); rw [coM, if_pos c_1, if_neg (bnt c_5)]; (try rw [hq9]); exact ⟨rfl, hP⟩)
    · have c_5 : inB (t) (nI (0)) (nI (7)) = true := eq_true_of_ne_false c_5
      obtain ⟨k_7, hk_9, ek_8⟩ := inB_n c_5 (by decide)
      rw [ek_8] at hl
      have hl : lv_has ls 3 [(0, .ref (A 0)), (1, .int (nI (j_2))), (2, .int (nI (k_7)))] := hl
      refine lv_iconst (v := nI (0)) hx hb dX8_caseOf_23 gc_0 ?_
      refine lv_goto (tgt := 28) hx hb dX8_caseOf_24 (by decide) ?_
      refine wr_calli (va_runV (As := [.int (nI (0))]) (rest := []) ⟨hx, hb, hml, hown, hts⟩ (c_X8_fails l D cA A (x) (f) (0)  hA (by decide)) (cwV 1 hts (gWV gm_8_23 gm_9_0 gm_9_1 gm_1_5 gm_9_2) rfl rfl rfl (by decide +kernel) ⟨Nat.le_of_ble_eq_true rfl, Nat.le_of_ble_eq_true rfl⟩) (gPreV hK (g_rf hK hP (ci := 10) (q0 := 0) rfl rfl) hP) rfl rfl hl.1 rfl (lv_room (Nat.le_of_ble_eq_true rfl)) dX8_caseOf_28 ⟨by omega, by omega⟩) hS (fun q _ h => h) (fun q h => h) (fun r H locs hw9 hz9 hk9 hS => ?_)
      obtain ⟨rfl, hP⟩ := hw9
      have hP : va_P D vwCl (mw cA A (upd (upd (x) 3 (nI (0))) 4 (nI (0))) (f)) H := hP
      have hD : va_D (MA A) (mw cA A (upd (upd (x) 3 (nI (0))) 4 (nI (0))) (f)) := mD hA
      refine g_if_eq (P := false = false) (tgt := 36) hx hb dX8_caseOf_31 (by decide) b2i_0 (fun c_10 => ?_) (fun c_10 => ?_)
      · refine lv_iload_n hx hb dX8_caseOf_36 rfl (lv_at hl 2 rfl) ?_
        refine lv_iconst (v := nI (5)) hx hb dX8_caseOf_37 gc_5 ?_
        refine g_icmp_ne (P := k_7 = 5) (tgt := 57) hx hb dX8_caseOf_38 (by decide) (nI_eq (by omega) (by omega)) (fun c_11 => ?_) (fun c_11 => ?_)
        · refine lv_aload_n hx hb dX8_caseOf_57 rfl (lv_at hl 0 rfl) ?_
          refine lv_iload_n hx hb dX8_caseOf_58 rfl (lv_at hl 1 rfl) ?_
          refine lv_iload_n hx hb dX8_caseOf_59 rfl (lv_at hl 2 rfl) ?_
          refine rd_calle (va_runV (As := [.int (nI (j_2)), .int (nI (k_7))]) (rest := []) ⟨hx, hb, hml, hown, hts⟩ (c_X8_of l D cA A (upd (upd (x) 3 (nI (0))) 4 (nI (0))) (f) (j_2) (k_7) (by omega)) (cwV 2 hts (gWV gm_14_3 gm_14_4 gm_14_5 gm_1_5 gm_14_6) rfl rfl rfl (by decide +kernel) ⟨Nat.le_of_ble_eq_true rfl, Nat.le_of_ble_eq_true rfl⟩) (gPreV hK (g_rf hK hP (ci := 10) (q0 := 0) rfl rfl) hP) rfl rfl hl.1 rfl (lv_room (Nat.le_of_ble_eq_true rfl)) dX8_caseOf_60 ⟨by omega, by omega⟩) ?_
          exact g_iretW (v := gof (f 0) (j_2) (k_7)) hx hb hr hlk hS dX8_caseOf_63 (by have hq9 : v.toNatClampNeg = j_2 := (by rw [ej_3, nI_clamp (by omega)]); have hk9 : t.toNatClampNeg = k_7 := (by rw [ek_8, nI_clamp (by omega)]); rw [coM, if_pos c_1, if_pos c_5, if_neg (show ¬ t = nI 5 by rw [ek_8]; exact fun h9 => c_11 ((nI_eq (by omega) (by omega)).mp h9))]; (try rw [hq9]); (try rw [hk9]); exact ⟨rfl, hP⟩)
        · refine lv_aload_n hx hb dX8_caseOf_41 rfl (lv_at hl 0 rfl) ?_
          refine lv_iload_n hx hb dX8_caseOf_42 rfl (lv_at hl 1 rfl) ?_
          refine rd_calle (va_runV (As := [.int (nI (j_2))]) (rest := []) ⟨hx, hb, hml, hown, hts⟩ (c_X8_isClosed l D cA A (upd (upd (x) 3 (nI (0))) 4 (nI (0))) (f) (j_2) (by omega)) (cwV 1 hts (gWV gm_14_17 gm_14_18 gm_14_19 gm_1_5 gm_14_20) rfl rfl rfl (by decide +kernel) ⟨Nat.le_of_ble_eq_true rfl, Nat.le_of_ble_eq_true rfl⟩) (gPreV hK (g_rf hK hP (ci := 10) (q0 := 0) rfl rfl) hP) rfl rfl hl.1 rfl (lv_room (Nat.le_of_ble_eq_true rfl)) dX8_caseOf_43 ⟨by omega, by omega⟩) ?_
          refine g_if_eq (P := clM (f 0) (j_2) = false) (tgt := 53) hx hb dX8_caseOf_46 (by decide) b2i_0 (fun c_12 => ?_) (fun c_12 => ?_)
          · refine lv_iconst (v := nI (0)) hx hb dX8_caseOf_53 gc_0 ?_
            refine lv_goto (tgt := 63) hx hb dX8_caseOf_54 (by decide) ?_
            exact g_iretW (v := nI (0)) hx hb hr hlk hS dX8_caseOf_63 (by have hq9 : v.toNatClampNeg = j_2 := (by rw [ej_3, nI_clamp (by omega)]); have hk9 : t.toNatClampNeg = k_7 := (by rw [ek_8, nI_clamp (by omega)]); rw [coM, if_pos c_1, if_pos c_5, if_pos (show t = nI 5 by rw [ek_8]; exact (nI_eq (by omega) (by omega)).mpr c_11)]; (try rw [hq9]); (try rw [hk9]); rw [if_neg (bnt c_12)]; exact ⟨rfl, hP⟩)
          · have c_12 : clM (f 0) (j_2) = true := eq_true_of_ne_false c_12
            refine lv_iconst (v := nI (1)) hx hb dX8_caseOf_49 gc_1 ?_
            refine lv_goto (tgt := 63) hx hb dX8_caseOf_50 (by decide) ?_
            exact g_iretW (v := nI (1)) hx hb hr hlk hS dX8_caseOf_63 (by have hq9 : v.toNatClampNeg = j_2 := (by rw [ej_3, nI_clamp (by omega)]); have hk9 : t.toNatClampNeg = k_7 := (by rw [ek_8, nI_clamp (by omega)]); rw [coM, if_pos c_1, if_pos c_5, if_pos (show t = nI 5 by rw [ek_8]; exact (nI_eq (by omega) (by omega)).mpr c_11)]; (try rw [hq9]); (try rw [hk9]); rw [if_pos c_12]; exact ⟨rfl, hP⟩)
      · exact absurd c_10 (by decide)
  · refine lv_iconst (v := nI (1)) hx hb dX8_caseOf_9 gc_1 ?_
    refine lv_goto (tgt := 28) hx hb dX8_caseOf_10 (by decide) ?_
    refine wr_calli (va_runV (As := [.int (nI (1))]) (rest := []) ⟨hx, hb, hml, hown, hts⟩ (c_X8_fails l D cA A (x) (f) (1)  hA (by decide)) (cwV 1 hts (gWV gm_8_23 gm_9_0 gm_9_1 gm_1_5 gm_9_2) rfl rfl rfl (by decide +kernel) ⟨Nat.le_of_ble_eq_true rfl, Nat.le_of_ble_eq_true rfl⟩) (gPreV hK (g_rf hK hP (ci := 10) (q0 := 0) rfl rfl) hP) rfl rfl hl.1 rfl (lv_room (Nat.le_of_ble_eq_true rfl)) dX8_caseOf_28 ⟨by omega, by omega⟩) hS (fun q _ h => h) (fun q h => h) (fun r H locs hw9 hz9 hk9 hS => ?_)
    obtain ⟨rfl, hP⟩ := hw9
    have hP : va_P D vwCl (mw cA A (upd (upd (x) 3 (nI (0))) 4 (nI (1))) (f)) H := hP
    have hD : va_D (MA A) (mw cA A (upd (upd (x) 3 (nI (0))) 4 (nI (1))) (f)) := mD hA
    refine g_if_eq (P := true = false) (tgt := 36) hx hb dX8_caseOf_31 (by decide) b2i_0 (fun c_13 => ?_) (fun c_13 => ?_)
    · exact absurd c_13 (by decide)
    · have c_13 : true = true := eq_true_of_ne_false c_13
      refine lv_iconst (v := nI (0)) hx hb dX8_caseOf_34 gc_0 ?_
      exact g_iretW (v := nI (0)) hx hb hr hlk hS dX8_caseOf_35 (by rw [coM, if_neg (bnt c_1)]; exact ⟨rfl, hP⟩)

