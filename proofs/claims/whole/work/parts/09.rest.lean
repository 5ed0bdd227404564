def joM (x : Nat → Int32) (g : Nat → Int32) (jn cn : Nat) (v t : Int32) : Int32 × (Nat → Int32) := if isIx v jn = true then (if inB t (nI 0) (nI 4) = true then (if t = nI 2 then (nI (ldM g cn v.toNatClampNeg), failX x 0) else (if nI 2 ≤ t then (gby g v.toNatClampNeg (t.toNatClampNeg - 1), failX x 0) else (gby g v.toNatClampNeg t.toNatClampNeg, failX x 0))) else (nI 0, failX x 2)) else (nI 0, failX x 1)
def coM (x : Nat → Int32) (g : Nat → Int32) (cn : Nat) (v t : Int32) : Int32 × (Nat → Int32) := if isIx v cn = true then (if inB t (nI 0) (nI 7) = true then (if t = nI 5 then (if clM g v.toNatClampNeg = true then (nI 1, failX x 0) else (nI 0, failX x 0)) else (gof g v.toNatClampNeg t.toNatClampNeg, failX x 0)) else (nI 0, failX x 2)) else (nI 0, failX x 1)
theorem inB_n {t : Int32} {n : Nat} (h : inB t (nI 0) (nI n) = true) (hn : n < 2 ^ 30) : ∃ k : Nat, k ≤ n ∧ t = nI k := by
  have h0 : (nI 0).toInt = 0 := by decide +kernel
  have h1 : (nI n).toInt = (n : Int) := nI_toInt (by omega)
  simp only [inB, Int32.lt_iff_toInt_lt, h0, h1, decide_eq_true_eq] at h
  have hx : vp_in t (n + 1) := vp_in_iff.mpr ⟨by omega, by omega⟩
  obtain ⟨j, hj, e⟩ := vp_in_of hx (by omega)
  exact ⟨j, by omega, e⟩

set_option maxHeartbeats 1000000 in
set_option maxRecDepth 100000 in
theorem c_X8_jurorOf (l : Launch) (D : va_G) (cA : Nat → ClassId) (A : Nat → Nat) (x : Nat → Int32) (f : Nat → Nat → Int32) (v t : Int32) (jn cn : Nat) (hA : mInj A) (hj : f 0 0 = nI jn) (hjn : jn ≤ 9) (hc : f 0 1 = nI cn) (hcn : cn ≤ 10) : Met l yX8_jurorOf (gw yX8_jurorOf cX8_jurorOf 3 (some .int)) ({ frames := 3, cells := 0, slots := 0, locals := 66 } : Room) (gPc [.ref (A 0), .int (v), .int (t)] (fun H => va_P D vwCl (mw cA A x f) H) D cA) (wrI (fun r H => r = (joM x (f 0) jn cn v t).1 ∧ va_P D vwCl (mw cA A (joM x (f 0) jn cn v t).2 f) H) (MA A)) 0 0 (MA A) := by
  refine gOf (by decide) (Nat.le_of_ble_eq_true rfl) ?_
  intro p e s m below meth c ls hx hb hml hr hlk hown hts hnm hP hK hl
  have hl : lv_has ls 3 [(0, .ref (A 0)), (1, .int (v)), (2, .int (t))] := hl
  have hD : va_D (MA A) (mw cA A x f) := mD hA
  have hS : va_S (MA A) s.heap s.heap [] := va_S.rf
  refine lv_aload_n hx hb dX8_jurorOf_0 rfl (lv_at hl 0 rfl) ?_
  refine lv_aload_n hx hb dX8_jurorOf_1 rfl (lv_at hl 0 rfl) ?_
  refine lv_iload_n hx hb dX8_jurorOf_2 rfl (lv_at hl 1 rfl) ?_
  refine rd_calle (va_runV (As := [.int (v)]) (rest := [.ref (A 0)]) ⟨hx, hb, hml, hown, hts⟩ (c_X8_isJuror l D cA A (x) (f) (v) jn hj hjn) (cwV 1 hts (gWV gm_25_10 gm_25_11 gm_25_12 gm_1_5 gm_25_13) rfl rfl rfl (by decide +kernel) ⟨Nat.le_of_ble_eq_true rfl, Nat.le_of_ble_eq_true rfl⟩) (gPreV hK (g_rf hK hP (ci := 10) (q0 := 0) rfl rfl) hP) rfl rfl hl.1 rfl (lv_room (Nat.le_of_ble_eq_true rfl)) dX8_jurorOf_3 ⟨by omega, by omega⟩) ?_
  refine g_if_ne (P := isIx (v) jn = false) (tgt := 13) hx hb dX8_jurorOf_6 (by decide) b2i_0 (fun c_1 => ?_) (fun c_1 => ?_)
  · have c_1 : isIx (v) jn = true := eq_true_of_ne_false c_1
    obtain ⟨j_2, hj_4, ej_3⟩ := isIx_n c_1 (by omega)
    rw [ej_3] at hl
    have hl : lv_has ls 3 [(0, .ref (A 0)), (1, .int (nI (j_2))), (2, .int (t))] := hl
    refine lv_iload_n hx hb dX8_jurorOf_13 rfl (lv_at hl 2 rfl) ?_
    refine lv_iconst (v := nI (0)) hx hb dX8_jurorOf_14 gc_0 ?_
    refine lv_iconst (v := nI (4)) hx hb dX8_jurorOf_15 gc_4 ?_
    refine rd_calle (va_runS (As := [.int (t), .int (nI (0)), .int (nI (4))]) (rest := [.ref (A 0)]) ⟨hx, hb, hml, hown, hts⟩ (c_X8_in l D cA (t) (nI (0)) (nI (4))) (cwS 3 hts (gWS gm_8_20 gm_8_21 gm_1_5 gm_8_22) rfl rfl rfl (by decide +kernel) ⟨Nat.le_of_ble_eq_true rfl, Nat.le_of_ble_eq_true rfl⟩) (gPreS hK trivial) rfl rfl hl.1 rfl (lv_room (Nat.le_of_ble_eq_true rfl)) dX8_jurorOf_16 ⟨by omega, by omega⟩) ?_
    refine g_if_eq (P := inB (t) (nI (0)) (nI (4)) = false) (tgt := 26) hx hb dX8_jurorOf_19 (by decide) b2i_0 (fun c_5 => ?_) (fun c_5 => ?_)
    · refine lv_iconst (v := nI (2)) hx hb dX8_jurorOf_26 gc_2 ?_
      refine wr_calli (va_runV (As := [.int (nI (2))]) (rest := []) ⟨hx, hb, hml, hown, hts⟩ (c_X8_fails l D cA A (x) (f) (2)  hA (by decide)) (cwV 1 hts (gWV gm_8_23 gm_9_0 gm_9_1 gm_1_5 gm_9_2) rfl rfl rfl (by decide +kernel) ⟨Nat.le_of_ble_eq_true rfl, Nat.le_of_ble_eq_true rfl⟩) (gPreV hK (g_rf hK hP (ci := 10) (q0 := 0) rfl rfl) hP) rfl rfl hl.1 rfl (lv_room (Nat.le_of_ble_eq_true rfl)) dX8_jurorOf_27 ⟨by omega, by omega⟩) hS (fun q _ h => h) (fun q h => h) (fun r H locs hw9 hz9 hk9 hS => ?_)
      obtain ⟨rfl, hP⟩ := hw9
      have hP : va_P D vwCl (mw cA A (upd (upd (x) 3 (nI (0))) 4 (nI (2))) (f)) H := hP
      have hD : va_D (MA A) (mw cA A (upd (upd (x) 3 (nI (0))) 4 (nI (2))) (f)) := mD hA
      refine g_if_eq (P := true = false) (tgt := 35) hx hb dX8_jurorOf_30 (by decide) b2i_0 (fun c_6 => ?_) (fun c_6 => ?_)
      · exact absurd c_6 (by decide)
      · have c_6 : true = true := eq_true_of_ne_false c_6
        refine lv_iconst (v := nI (0)) hx hb dX8_jurorOf_33 gc_0 ?_
        exact g_iretW (v := nI (0)) hx hb hr hlk hS dX8_jurorOf_34 (by have hq9 : v.toNatClampNeg = j_2 := (by rw [ej_3, nI_clamp (by omega)]); rw [joM, if_pos c_1, if_neg (bnt c_5)]; (try rw [hq9]); exact ⟨rfl, hP⟩)
    · have c_5 : inB (t) (nI (0)) (nI (4)) = true := eq_true_of_ne_false c_5
      obtain ⟨k_7, hk_9, ek_8⟩ := inB_n c_5 (by decide)
      rw [ek_8] at hl
      have hl : lv_has ls 3 [(0, .ref (A 0)), (1, .int (nI (j_2))), (2, .int (nI (k_7)))] := hl
      refine lv_iconst (v := nI (0)) hx hb dX8_jurorOf_22 gc_0 ?_
      refine lv_goto (tgt := 27) hx hb dX8_jurorOf_23 (by decide) ?_
      refine wr_calli (va_runV (As := [.int (nI (0))]) (rest := []) ⟨hx, hb, hml, hown, hts⟩ (c_X8_fails l D cA A (x) (f) (0)  hA (by decide)) (cwV 1 hts (gWV gm_8_23 gm_9_0 gm_9_1 gm_1_5 gm_9_2) rfl rfl rfl (by decide +kernel) ⟨Nat.le_of_ble_eq_true rfl, Nat.le_of_ble_eq_true rfl⟩) (gPreV hK (g_rf hK hP (ci := 10) (q0 := 0) rfl rfl) hP) rfl rfl hl.1 rfl (lv_room (Nat.le_of_ble_eq_true rfl)) dX8_jurorOf_27 ⟨by omega, by omega⟩) hS (fun q _ h => h) (fun q h => h) (fun r H locs hw9 hz9 hk9 hS => ?_)
      obtain ⟨rfl, hP⟩ := hw9
      have hP : va_P D vwCl (mw cA A (upd (upd (x) 3 (nI (0))) 4 (nI (0))) (f)) H := hP
      have hD : va_D (MA A) (mw cA A (upd (upd (x) 3 (nI (0))) 4 (nI (0))) (f)) := mD hA
      refine g_if_eq (P := false = false) (tgt := 35) hx hb dX8_jurorOf_30 (by decide) b2i_0 (fun c_10 => ?_) (fun c_10 => ?_)
      · refine lv_iload_n hx hb dX8_jurorOf_35 rfl (lv_at hl 2 rfl) ?_
        refine lv_iconst (v := nI (2)) hx hb dX8_jurorOf_36 gc_2 ?_
        refine g_icmp_ne (P := k_7 = 2) (tgt := 48) hx hb dX8_jurorOf_37 (by decide) (nI_eq (by omega) (by omega)) (fun c_11 => ?_) (fun c_11 => ?_)
        · refine lv_aload_n hx hb dX8_jurorOf_48 rfl (lv_at hl 0 rfl) ?_
          refine lv_iload_n hx hb dX8_jurorOf_49 rfl (lv_at hl 1 rfl) ?_
          refine lv_iload_n hx hb dX8_jurorOf_50 rfl (lv_at hl 2 rfl) ?_
          refine lv_iconst (v := nI (2)) hx hb dX8_jurorOf_51 gc_2 ?_
          refine g_icmp_ge (P := 2 ≤ k_7) (tgt := 59) hx hb dX8_jurorOf_52 (by decide) (nI_leI (by omega) (by omega)) (fun c_12 => ?_) (fun c_12 => ?_)
          · have d_12 : ¬ k_7 < 2 := Nat.not_lt.mpr c_12
            refine lv_iload_n hx hb dX8_jurorOf_59 rfl (lv_at hl 2 rfl) ?_
            refine lv_iconst (v := nI (1)) hx hb dX8_jurorOf_60 gc_1 ?_
            refine g_isub hx hb (by omega) dX8_jurorOf_61 ?_
            refine rd_calle (va_runV (As := [.int (nI (j_2)), .int (nI ((k_7) - (1)))]) (rest := []) ⟨hx, hb, hml, hown, hts⟩ (c_X8_by l D cA A (upd (upd (x) 3 (nI (0))) 4 (nI (0))) (f) (j_2) ((k_7) - (1)) (by omega)) (cwV 2 hts (gWV gm_15_9 gm_15_10 gm_15_11 gm_1_5 gm_15_12) rfl rfl rfl (by decide +kernel) ⟨Nat.le_of_ble_eq_true rfl, Nat.le_of_ble_eq_true rfl⟩) (gPreV hK (g_rf hK hP (ci := 10) (q0 := 0) rfl rfl) hP) rfl rfl hl.1 rfl (lv_room (Nat.le_of_ble_eq_true rfl)) dX8_jurorOf_62 ⟨by omega, by omega⟩) ?_
            exact g_iretW (v := gby (f 0) (j_2) ((k_7) - (1))) hx hb hr hlk hS dX8_jurorOf_65 (by have hq9 : v.toNatClampNeg = j_2 := (by rw [ej_3, nI_clamp (by omega)]); have hk9 : t.toNatClampNeg = k_7 := (by rw [ek_8, nI_clamp (by omega)]); rw [joM, if_pos c_1, if_pos c_5, if_neg (show ¬ t = nI 2 by rw [ek_8]; exact fun h9 => c_11 ((nI_eq (by omega) (by omega)).mp h9)), if_pos (show nI 2 ≤ t by rw [ek_8]; exact (nI_leI (by omega) (by omega)).mpr c_12)]; (try rw [hq9]); (try rw [hk9]); exact ⟨rfl, hP⟩)
          · have d_12 : k_7 < 2 := Nat.not_le.mp c_12
            refine lv_iload_n hx hb dX8_jurorOf_55 rfl (lv_at hl 2 rfl) ?_
            refine lv_goto (tgt := 62) hx hb dX8_jurorOf_56 (by decide) ?_
            refine rd_calle (va_runV (As := [.int (nI (j_2)), .int (nI (k_7))]) (rest := []) ⟨hx, hb, hml, hown, hts⟩ (c_X8_by l D cA A (upd (upd (x) 3 (nI (0))) 4 (nI (0))) (f) (j_2) (k_7) (by omega)) (cwV 2 hts (gWV gm_15_9 gm_15_10 gm_15_11 gm_1_5 gm_15_12) rfl rfl rfl (by decide +kernel) ⟨Nat.le_of_ble_eq_true rfl, Nat.le_of_ble_eq_true rfl⟩) (gPreV hK (g_rf hK hP (ci := 10) (q0 := 0) rfl rfl) hP) rfl rfl hl.1 rfl (lv_room (Nat.le_of_ble_eq_true rfl)) dX8_jurorOf_62 ⟨by omega, by omega⟩) ?_
            exact g_iretW (v := gby (f 0) (j_2) (k_7)) hx hb hr hlk hS dX8_jurorOf_65 (by have hq9 : v.toNatClampNeg = j_2 := (by rw [ej_3, nI_clamp (by omega)]); have hk9 : t.toNatClampNeg = k_7 := (by rw [ek_8, nI_clamp (by omega)]); rw [joM, if_pos c_1, if_pos c_5, if_neg (show ¬ t = nI 2 by rw [ek_8]; exact fun h9 => c_11 ((nI_eq (by omega) (by omega)).mp h9)), if_neg (show ¬ nI 2 ≤ t by rw [ek_8]; exact fun h9 => c_12 ((nI_leI (by omega) (by omega)).mp h9))]; (try rw [hq9]); (try rw [hk9]); exact ⟨rfl, hP⟩)
        · refine lv_aload_n hx hb dX8_jurorOf_40 rfl (lv_at hl 0 rfl) ?_
          refine lv_iload_n hx hb dX8_jurorOf_41 rfl (lv_at hl 1 rfl) ?_
          refine rd_calle (va_runV (As := [.int (nI (j_2))]) (rest := []) ⟨hx, hb, hml, hown, hts⟩ (c_X8_loadOf l D cA A (upd (upd (x) 3 (nI (0))) 4 (nI (0))) (f) (j_2) cn hc hcn) (cwV 1 hts (gWV gm_14_13 gm_14_14 gm_14_15 gm_1_5 gm_14_16) rfl rfl rfl (by decide +kernel) ⟨Nat.le_of_ble_eq_true rfl, Nat.le_of_ble_eq_true rfl⟩) (gPreV hK (g_rf hK hP (ci := 10) (q0 := 0) rfl rfl) hP) rfl rfl hl.1 rfl (lv_room (Nat.le_of_ble_eq_true rfl)) dX8_jurorOf_42 ⟨by omega, by omega⟩) ?_
          refine lv_goto (tgt := 65) hx hb dX8_jurorOf_45 (by decide) ?_
          exact g_iretW (v := nI (ldM (f 0) cn (j_2))) hx hb hr hlk hS dX8_jurorOf_65 (by have hq9 : v.toNatClampNeg = j_2 := (by rw [ej_3, nI_clamp (by omega)]); have hk9 : t.toNatClampNeg = k_7 := (by rw [ek_8, nI_clamp (by omega)]); rw [joM, if_pos c_1, if_pos c_5, if_pos (show t = nI 2 by rw [ek_8]; exact (nI_eq (by omega) (by omega)).mpr c_11)]; (try rw [hq9]); (try rw [hk9]); exact ⟨rfl, hP⟩)
      · exact absurd c_10 (by decide)
  · refine lv_iconst (v := nI (1)) hx hb dX8_jurorOf_9 gc_1 ?_
    refine lv_goto (tgt := 27) hx hb dX8_jurorOf_10 (by decide) ?_
    refine wr_calli (va_runV (As := [.int (nI (1))]) (rest := []) ⟨hx, hb, hml, hown, hts⟩ (c_X8_fails l D cA A (x) (f) (1)  hA (by decide)) (cwV 1 hts (gWV gm_8_23 gm_9_0 gm_9_1 gm_1_5 gm_9_2) rfl rfl rfl (by decide +kernel) ⟨Nat.le_of_ble_eq_true rfl, Nat.le_of_ble_eq_true rfl⟩) (gPreV hK (g_rf hK hP (ci := 10) (q0 := 0) rfl rfl) hP) rfl rfl hl.1 rfl (lv_room (Nat.le_of_ble_eq_true rfl)) dX8_jurorOf_27 ⟨by omega, by omega⟩) hS (fun q _ h => h) (fun q h => h) (fun r H locs hw9 hz9 hk9 hS => ?_)
    obtain ⟨rfl, hP⟩ := hw9
    have hP : va_P D vwCl (mw cA A (upd (upd (x) 3 (nI (0))) 4 (nI (1))) (f)) H := hP
    have hD : va_D (MA A) (mw cA A (upd (upd (x) 3 (nI (0))) 4 (nI (1))) (f)) := mD hA
    refine g_if_eq (P := true = false) (tgt := 35) hx hb dX8_jurorOf_30 (by decide) b2i_0 (fun c_13 => ?_) (fun c_13 => ?_)
    · exact absurd c_13 (by decide)
    · have c_13 : true = true := eq_true_of_ne_false c_13
      refine lv_iconst (v := nI (0)) hx hb dX8_jurorOf_33 gc_0 ?_
      exact g_iretW (v := nI (0)) hx hb hr hlk hS dX8_jurorOf_34 (by rw [joM, if_neg (bnt c_1)]; exact ⟨rfl, hP⟩)

set_option maxHeartbeats 1000000 in
set_option maxRecDepth 100000 in
theorem c_X8_caseOf (l : Launch) (D : va_G) (cA : Nat → ClassId) (A : Nat → Nat) (x : Nat → Int32) (f : Nat → Nat → Int32) (v t : Int32) (cn : Nat) (hA : mInj A) (hc : f 0 1 = nI cn) (hcn : cn ≤ 10) : Met l yX8_caseOf (gw yX8_caseOf cX8_caseOf 3 (some .int)) ({ frames := 2, cells := 0, slots := 0, locals := 43 } : Room) (gPc [.ref (A 0), .int (v), .int (t)] (fun H => va_P D vwCl (mw cA A x f) H) D cA) (wrI (fun r H => r = (coM x (f 0) cn v t).1 ∧ va_P D vwCl (mw cA A (coM x (f 0) cn v t).2 f) H) (MA A)) 0 0 (MA A) := by
  refine gOf (by decide) (Nat.le_of_ble_eq_true rfl) ?_
  intro p e s m below meth c ls hx hb hml hr hlk hown hts hnm hP hK hl
  have hl : lv_has ls 3 [(0, .ref (A 0)), (1, .int (v)), (2, .int (t))] := hl
  have hD : va_D (MA A) (mw cA A x f) := mD hA
  have hS : va_S (MA A) s.heap s.heap [] := va_S.rf
  refine lv_aload_n hx hb dX8_caseOf_0 rfl (lv_at hl 0 rfl) ?_
  refine lv_aload_n hx hb dX8_caseOf_1 rfl (lv_at hl 0 rfl) ?_
  refine lv_iload_n hx hb dX8_caseOf_2 rfl (lv_at hl 1 rfl) ?_
  refine rd_calle (va_runV (As := [.int (v)]) (rest := [.ref (A 0)]) ⟨hx, hb, hml, hown, hts⟩ (c_X8_isCase l D cA A (x) (f) (v) cn hc hcn) (cwV 1 hts (gWV gm_13_23 gm_14_0 gm_14_1 gm_1_5 gm_14_2) rfl rfl rfl (by decide +kernel) ⟨Nat.le_of_ble_eq_true rfl, Nat.le_of_ble_eq_true rfl⟩) (gPreV hK (g_rf hK hP (ci := 10) (q0 := 0) rfl rfl) hP) rfl rfl hl.1 rfl (lv_room (Nat.le_of_ble_eq_true rfl)) dX8_caseOf_3 ⟨by omega, by omega⟩) ?_
  refine g_if_ne (P := isIx (v) cn = false) (tgt := 13) hx hb dX8_caseOf_6 (by decide) b2i_0 (fun c_1 => ?_) (fun c_1 => ?_)
  · have c_1 : isIx (v) cn = true := eq_true_of_ne_false c_1
    obtain ⟨j_2, hj_4, ej_3⟩ := isIx_n c_1 (by omega)
    rw [ej_3] at hl
    have hl : lv_has ls 3 [(0, .ref (A 0)), (1, .int (nI (j_2))), (2, .int (t))] := hl
    refine lv_iload_n hx hb dX8_caseOf_13 rfl (lv_at hl 2 rfl) ?_
    refine lv_iconst (v := nI (0)) hx hb dX8_caseOf_14 gc_0 ?_
    refine lv_bipush (v := nI (7)) hx hb dX8_caseOf_15 gb_7 ?_
    refine rd_calle (va_runS (As := [.int (t), .int (nI (0)), .int (nI (7))]) (rest := [.ref (A 0)]) ⟨hx, hb, hml, hown, hts⟩ (c_X8_in l D cA (t) (nI (0)) (nI (7))) (cwS 3 hts (gWS gm_8_20 gm_8_21 gm_1_5 gm_8_22) rfl rfl rfl (by decide +kernel) ⟨Nat.le_of_ble_eq_true rfl, Nat.le_of_ble_eq_true rfl⟩) (gPreS hK trivial) rfl rfl hl.1 rfl (lv_room (Nat.le_of_ble_eq_true rfl)) dX8_caseOf_17 ⟨by omega, by omega⟩) ?_
    refine g_if_eq (P := inB (t) (nI (0)) (nI (7)) = false) (tgt := 27) hx hb dX8_caseOf_20 (by decide) b2i_0 (fun c_5 => ?_) (fun c_5 => ?_)
    · refine lv_iconst (v := nI (2)) hx hb dX8_caseOf_27 gc_2 ?_
      refine wr_calli (va_runV (As := [.int (nI (2))]) (rest := []) ⟨hx, hb, hml, hown, hts⟩ (c_X8_fails l D cA A (x) (f) (2)  hA (by decide)) (cwV 1 hts (gWV gm_8_23 gm_9_0 gm_9_1 gm_1_5 gm_9_2) rfl rfl rfl (by decide +kernel) ⟨Nat.le_of_ble_eq_true rfl, Nat.le_of_ble_eq_true rfl⟩) (gPreV hK (g_rf hK hP (ci := 10) (q0 := 0) rfl rfl) hP) rfl rfl hl.1 rfl (lv_room (Nat.le_of_ble_eq_true rfl)) dX8_caseOf_28 ⟨by omega, by omega⟩) hS (fun q _ h => h) (fun q h => h) (fun r H locs hw9 hz9 hk9 hS => ?_)
      obtain ⟨rfl, hP⟩ := hw9
      have hP : va_P D vwCl (mw cA A (upd (upd (x) 3 (nI (0))) 4 (nI (2))) (f)) H := hP
      have hD : va_D (MA A) (mw cA A (upd (upd (x) 3 (nI (0))) 4 (nI (2))) (f)) := mD hA
      refine g_if_eq (P := true = false) (tgt := 36) hx hb dX8_caseOf_31 (by decide) b2i_0 (fun c_6 => ?_) (fun c_6 => ?_)
      · exact absurd c_6 (by decide)
      · have c_6 : true = true := eq_true_of_ne_false c_6
        refine lv_iconst (v := nI (0)) hx hb dX8_caseOf_34 gc_0 ?_
        exact g_iretW (v := nI (0)) hx hb hr hlk hS dX8_caseOf_35 (by have hq9 : v.toNatClampNeg = j_2 := (by rw [ej_3, nI_clamp (by omega)]); rw [coM, if_pos c_1, if_neg (bnt c_5)]; (try rw [hq9]); exact ⟨rfl, hP⟩)
    · have c_5 : inB (t) (nI (0)) (nI (7)) = true := eq_true_of_ne_false c_5
      obtain ⟨k_7, hk_9, ek_8⟩ := inB_n c_5 (by decide)
      rw [ek_8] at hl
      have hl : lv_has ls 3 [(0, .ref (A 0)), (1, .int (nI (j_2))), (2, .int (nI (k_7)))] := hl
      refine lv_iconst (v := nI (0)) hx hb dX8_caseOf_23 gc_0 ?_
      refine lv_goto (tgt := 28) hx hb dX8_caseOf_24 (by decide) ?_
      refine wr_calli (va_runV (As := [.int (nI (0))]) (rest := []) ⟨hx, hb, hml, hown, hts⟩ (c_X8_fails l D cA A (x) (f) (0)  hA (by decide)) (cwV 1 hts (gWV gm_8_23 gm_9_0 gm_9_1 gm_1_5 gm_9_2) rfl rfl rfl (by decide +kernel) ⟨Nat.le_of_ble_eq_true rfl, Nat.le_of_ble_eq_true rfl⟩) (gPreV hK (g_rf hK hP (ci := 10) (q0 := 0) rfl rfl) hP) rfl rfl hl.1 rfl (lv_room (Nat.le_of_ble_eq_true rfl)) dX8_caseOf_28 ⟨by omega, by omega⟩) hS (fun q _ h => h) (fun q h => h) (fun r H locs hw9 hz9 hk9 hS => ?_)
      obtain ⟨rfl, hP⟩ := hw9
      have hP : va_P D vwCl (mw cA A (upd (upd (x) 3 (nI (0))) 4 (nI (0))) (f)) H := hP
      have hD : va_D (MA A) (mw cA A (upd (upd (x) 3 (nI (0))) 4 (nI (0))) (f)) := mD hA
      refine g_if_eq (P := false = false) (tgt := 36) hx hb dX8_caseOf_31 (by decide) b2i_0 (fun c_10 => ?_) (fun c_10 => ?_)
      · refine lv_iload_n hx hb dX8_caseOf_36 rfl (lv_at hl 2 rfl) ?_
        refine lv_iconst (v := nI (5)) hx hb dX8_caseOf_37 gc_5 ?_
        refine g_icmp_ne (P := k_7 = 5) (tgt := 57) hx hb dX8_caseOf_38 (by decide) (nI_eq (by omega) (by omega)) (fun c_11 => ?_) (fun c_11 => ?_)
        · refine lv_aload_n hx hb dX8_caseOf_57 rfl (lv_at hl 0 rfl) ?_
          refine lv_iload_n hx hb dX8_caseOf_58 rfl (lv_at hl 1 rfl) ?_
          refine lv_iload_n hx hb dX8_caseOf_59 rfl (lv_at hl 2 rfl) ?_
          refine rd_calle (va_runV (As := [.int (nI (j_2)), .int (nI (k_7))]) (rest := []) ⟨hx, hb, hml, hown, hts⟩ (c_X8_of l D cA A (upd (upd (x) 3 (nI (0))) 4 (nI (0))) (f) (j_2) (k_7) (by omega)) (cwV 2 hts (gWV gm_14_3 gm_14_4 gm_14_5 gm_1_5 gm_14_6) rfl rfl rfl (by decide +kernel) ⟨Nat.le_of_ble_eq_true rfl, Nat.le_of_ble_eq_true rfl⟩) (gPreV hK (g_rf hK hP (ci := 10) (q0 := 0) rfl rfl) hP) rfl rfl hl.1 rfl (lv_room (Nat.le_of_ble_eq_true rfl)) dX8_caseOf_60 ⟨by omega, by omega⟩) ?_
          exact g_iretW (v := gof (f 0) (j_2) (k_7)) hx hb hr hlk hS dX8_caseOf_63 (by have hq9 : v.toNatClampNeg = j_2 := (by rw [ej_3, nI_clamp (by omega)]); have hk9 : t.toNatClampNeg = k_7 := (by rw [ek_8, nI_clamp (by omega)]); rw [coM, if_pos c_1, if_pos c_5, if_neg (show ¬ t = nI 5 by rw [ek_8]; exact fun h9 => c_11 ((nI_eq (by omega) (by omega)).mp h9))]; (try rw [hq9]); (try rw [hk9]); exact ⟨rfl, hP⟩)
        · refine lv_aload_n hx hb dX8_caseOf_41 rfl (lv_at hl 0 rfl) ?_
          refine lv_iload_n hx hb dX8_caseOf_42 rfl (lv_at hl 1 rfl) ?_
          refine rd_calle (va_runV (As := [.int (nI (j_2))]) (rest := []) ⟨hx, hb, hml, hown, hts⟩ (c_X8_isClosed l D cA A (upd (upd (x) 3 (nI (0))) 4 (nI (0))) (f) (j_2) (by omega)) (cwV 1 hts (gWV gm_14_17 gm_14_18 gm_14_19 gm_1_5 gm_14_20) rfl rfl rfl (by decide +kernel) ⟨Nat.le_of_ble_eq_true rfl, Nat.le_of_ble_eq_true rfl⟩) (gPreV hK (g_rf hK hP (ci := 10) (q0 := 0) rfl rfl) hP) rfl rfl hl.1 rfl (lv_room (Nat.le_of_ble_eq_true rfl)) dX8_caseOf_43 ⟨by omega, by omega⟩) ?_
          refine g_if_eq (P := clM (f 0) (j_2) = false) (tgt := 53) hx hb dX8_caseOf_46 (by decide) b2i_0 (fun c_12 => ?_) (fun c_12 => ?_)
          · refine lv_iconst (v := nI (0)) hx hb dX8_caseOf_53 gc_0 ?_
            refine lv_goto (tgt := 63) hx hb dX8_caseOf_54 (by decide) ?_
            exact g_iretW (v := nI (0)) hx hb hr hlk hS dX8_caseOf_63 (by have hq9 : v.toNatClampNeg = j_2 := (by rw [ej_3, nI_clamp (by omega)]); have hk9 : t.toNatClampNeg = k_7 := (by rw [ek_8, nI_clamp (by omega)]); rw [coM, if_pos c_1, if_pos c_5, if_pos (show t = nI 5 by rw [ek_8]; exact (nI_eq (by omega) (by omega)).mpr c_11)]; (try rw [hq9]); (try rw [hk9]); rw [if_neg (bnt c_12)]; exact ⟨rfl, hP⟩)
          · have c_12 : clM (f 0) (j_2) = true := eq_true_of_ne_false c_12
            refine lv_iconst (v := nI (1)) hx hb dX8_caseOf_49 gc_1 ?_
            refine lv_goto (tgt := 63) hx hb dX8_caseOf_50 (by decide) ?_
            exact g_iretW (v := nI (1)) hx hb hr hlk hS dX8_caseOf_63 (by have hq9 : v.toNatClampNeg = j_2 := (by rw [ej_3, nI_clamp (by omega)]); have hk9 : t.toNatClampNeg = k_7 := (by rw [ek_8, nI_clamp (by omega)]); rw [coM, if_pos c_1, if_pos c_5, if_pos (show t = nI 5 by rw [ek_8]; exact (nI_eq (by omega) (by omega)).mpr c_11)]; (try rw [hq9]); (try rw [hk9]); rw [if_pos c_12]; exact ⟨rfl, hP⟩)
      · exact absurd c_10 (by decide)
  · refine lv_iconst (v := nI (1)) hx hb dX8_caseOf_9 gc_1 ?_
    refine lv_goto (tgt := 28) hx hb dX8_caseOf_10 (by decide) ?_
    refine wr_calli (va_runV (As := [.int (nI (1))]) (rest := []) ⟨hx, hb, hml, hown, hts⟩ (c_X8_fails l D cA A (x) (f) (1)  hA (by decide)) (cwV 1 hts (gWV gm_8_23 gm_9_0 gm_9_1 gm_1_5 gm_9_2) rfl rfl rfl (by decide +kernel) ⟨Nat.le_of_ble_eq_true rfl, Nat.le_of_ble_eq_true rfl⟩) (gPreV hK (g_rf hK hP (ci := 10) (q0 := 0) rfl rfl) hP) rfl rfl hl.1 rfl (lv_room (Nat.le_of_ble_eq_true rfl)) dX8_caseOf_28 ⟨by omega, by omega⟩) hS (fun q _ h => h) (fun q h => h) (fun r H locs hw9 hz9 hk9 hS => ?_)
    obtain ⟨rfl, hP⟩ := hw9
    have hP : va_P D vwCl (mw cA A (upd (upd (x) 3 (nI (0))) 4 (nI (1))) (f)) H := hP
    have hD : va_D (MA A) (mw cA A (upd (upd (x) 3 (nI (0))) 4 (nI (1))) (f)) := mD hA
    refine g_if_eq (P := true = false) (tgt := 36) hx hb dX8_caseOf_31 (by decide) b2i_0 (fun c_13 => ?_) (fun c_13 => ?_)
    · exact absurd c_13 (by decide)
    · have c_13 : true = true := eq_true_of_ne_false c_13
      refine lv_iconst (v := nI (0)) hx hb dX8_caseOf_34 gc_0 ?_
      exact g_iretW (v := nI (0)) hx hb hr hlk hS dX8_caseOf_35 (by rw [coM, if_neg (bnt c_1)]; exact ⟨rfl, hP⟩)

def vtM (x : Nat → Int32) (f : Nat → Nat → Int32) (jn cn : Nat) (v t : Int32) : Int32 × MX := if isIx v jn = true then (if isIx t cn = true then (if forB (gof (f 0) t.toNatClampNeg 0) ((lmS (f 0) (f 6) (f 7) jn).1 v.toNatClampNeg) ((lmS (f 0) (f 6) (f 7) jn).2 v.toNatClampNeg) = true then (nI 1, (failX x 0, va_up (va_up f 6 ((lmS (f 0) (f 6) (f 7) jn).1)) 7 ((lmS (f 0) (f 6) (f 7) jn).2))) else (nI 2, (failX x 0, va_up (va_up f 6 ((lmS (f 0) (f 6) (f 7) jn).1)) 7 ((lmS (f 0) (f 6) (f 7) jn).2)))) else (nI 0, (failX x 1, f))) else (nI 0, (failX x 1, f))
def npC (g : Nat → Int32) (cn : Nat) (v : Int32) : Nat := if isIx v cn = true then (if gof g v.toNatClampNeg 2 = 0 then 2 else 0) else 1
theorem npC_le {g : Nat → Int32} {cn : Nat} {v : Int32} : npC g cn v < 3 := by unfold npC; split <;> (try split) <;> omega
theorem npC_z {g : Nat → Int32} {cn : Nat} {v : Int32} (h : decide (0 < npC g cn v) = false) : isIx v cn = true ∧ ¬ gof g v.toNatClampNeg 2 = 0 := by
  unfold npC at h
  by_cases q : isIx v cn = true
  · by_cases z : gof g v.toNatClampNeg 2 = 0
    · simp [q, z] at h
    · exact ⟨q, z⟩
  · simp [q] at h
def wbM (x : Nat → Int32) (f : Nat → Nat → Int32) (jn cn : Nat) (v : Int32) : Int32 × MX := if decide (0 < npC (f 0) cn v) = true then (nI 0, (failX x (npC (f 0) cn v), f)) else (nI (vdM (f 0) (lmS (f 0) (f 6) (f 7) jn).1 (lmS (f 0) (f 6) (f 7) jn).2 jn (gof (f 0) v.toNatClampNeg 2) (gof (f 0) v.toNatClampNeg 0)), (failX x (npC (f 0) cn v), va_up (va_up f 6 ((lmS (f 0) (f 6) (f 7) jn).1)) 7 ((lmS (f 0) (f 6) (f 7) jn).2)))
def liM (x : Nat → Int32) (g : Nat → Int32) (jn cn : Nat) (v : Int32) : Int32 × (Nat → Int32) := if isIx v jn = true then (nI (ldM g cn v.toNatClampNeg), failX x 0) else (nI 0, failX x 1)
def cbO (x : Nat → Int32) (g : Nat → Int32) (jn cn : Nat) (v : Int32) : Int32 × (Nat → Int32) := if cldM g jn cn (nI 0) v = none then (nI 0, failX x 1) else (oI (cldM g jn cn (nI 0) v), failX x 0)
def onM (x : Nat → Int32) (g : Nat → Int32) (jn cn : Nat) (v t : Int32) : Int32 × (Nat → Int32) := if isIx v jn = true then (if isIx t cn = true then (if hs (gof g t.toNatClampNeg 2) v.toNatClampNeg = true then (nI 1, failX x 0) else (nI 0, failX x 0)) else (nI 0, failX x 1)) else (nI 0, failX x 1)
def roM (x : Nat → Int32) (g : Nat → Int32) (cn : Nat) (v : Int32) : Int32 × (Nat → Int32) := if raM g cn v = none then (nI 0, failX x 1) else (oI (raM g cn v), failX x 0)
def wtM (x : Nat → Int32) (g : Nat → Int32) (cn clk ton : Nat) (v : Int32) : Int32 × (Nat → Int32) := if isIx v cn = true then (if rlM g v.toNatClampNeg = true then (if ton + 1 + poM g cn v.toNatClampNeg / clk ≤ 99 then (nI (ton + 1 + poM g cn v.toNatClampNeg / clk), failX x 0) else (nI 0, failX x 2)) else (nI 0, failX x 2)) else (nI 0, failX x 1)
def odM (g : Nat → Int32) (cn : Nat) : Nat := fb_ct (fun k => rlM g k && decide (¬ g 3 ≤ gof g k 1)) cn
def tfM (g : Nat → Int32) (t : Int32) : Nat → Int32
  | 0 => -1
  | k + 1 => if rlM g k = true then (if gof g k 1 < t then tfM g t k else if tfM g t k < 0 then gof g k 1 else if tfM g t k ≤ gof g k 1 then tfM g t k else gof g k 1) else tfM g t k
def tmO (x : Nat → Int32) (g : Nat → Int32) (cn : Nat) (v : Int32) : Int32 × (Nat → Int32) := if inB v (nI 0) (nI 99) = true then (if 0 ≤ tfM g v cn then (tfM g v cn, failX x 0) else (nI 0, failX x 2)) else (nI 0, failX x 1)
def fiM (x : Nat → Int32) (g : Nat → Int32) (cn : Nat) (v : Int32) : Int32 × (Nat → Int32) := if isIx v cn = true then (if gof g v.toNatClampNeg 3 = 0 then (nI 0, failX x 2) else (if clM g v.toNatClampNeg = true then (gof g v.toNatClampNeg 5, failX x 0) else (gof g v.toNatClampNeg 4 + nI 4, failX x 0))) else (nI 0, failX x 1)
def dfM (x : Nat → Int32) (g : Nat → Int32) (jn : Nat) (v : Int32) : Int32 × (Nat → Int32) := match fnd (fun k => decide (nI (fb_ct (fun o => mdM g o k) jn) = v)) jn with
  | none => (nI 0, upd x 4 (nI 1))
  | some k => (nI k, upd x 4 (nI 0))
def rfM (x : Nat → Int32) (z : Bool) : Int32 × (Nat → Int32) := if x 5 = 0 then (nI 0, failX x 1) else (if z = true then (x 6, failX x 0) else (x 5, failX x 0))
def iwM (g : Nat → Int32) (jn cn : Nat) : Int32 := match fnd (fun k => decide (3 < ldM g cn k)) jn with
  | none => nI 1
  | some _ => nI 0
def cpF (a0 on : Nat) (from_ to_ : Nat → Int32) : Nat → Int32 := fb_put to_ (fun k => from_ (a0 + k)) on 124
def udM (x : Nat → Int32) (f : Nat → Nat → Int32) (ch : Nat) : Int32 × MX := if ch = 0 then (nI 0, (failX x 1, f)) else (nI (ch - 1), (upd (upd (upd x 1 (nI (ch - 1))) 3 (nI 0)) 4 (nI 0), va_up f 0 (fb_put (f 0) (fun k => f 1 ((124 * (ch - 1)) + k)) (0) 124)))
def reM (x : Nat → Int32) (f : Nat → Nat → Int32) (sv : Bool) : Int32 × MX := if sv = true then ((fb_put (f 0) (fun k => f 2 ((0) + k)) (0) 124) 1, (upd (upd (upd x 1 (nI 0)) 3 (nI 0)) 4 (nI 0), va_up f 0 (fb_put (f 0) (fun k => f 2 ((0) + k)) (0) 124))) else (nI 0, (failX x 1, f))
def apO (x : Nat → Int32) (f : Nat → Nat → Int32) (ln : Nat) (v : Int32) : Int32 × MX := if ln = 60 then (nI 0, (failX x 1, f)) else (nI (ln + 1), (upd (upd (upd x 3 (nI 0)) 4 (nI 0)) 7 (nI (ln + 1)), va_up f 4 (upd (f 4) (ln) v)))

set_option maxHeartbeats 1000000 in
set_option maxRecDepth 100000 in
theorem c_X8_thrown (l : Launch) (D : va_G) (cA : Nat → ClassId) (A : Nat → Nat) (x : Nat → Int32) (f : Nat → Nat → Int32) (cd : Nat) (hc4 : x 4 = nI cd) : Met l yX8_thrown (gw yX8_thrown cX8_thrown 1 (some .int)) ({ frames := 0, cells := 0, slots := 0, locals := 0 } : Room) (gPc [.ref (A 0)] (fun H => va_P D vwCl (mw cA A x f) H) D cA) (rdI (fun r => r = nI cd)) 0 0 nF := by
  refine gOf (by decide) (Nat.le_of_ble_eq_true rfl) ?_
  intro p e s m below meth c ls hx hb hml hr hlk hown hts hnm hP hK hl
  have hl : lv_has ls 1 [(0, .ref (A 0))] := hl
  refine lv_aload_n hx hb dX8_thrown_0 rfl (lv_at hl 0 rfl) ?_
  refine g_get (v := .int (x 4)) hx hb hts hown hK hP 0 rfl rfl gu_wsX80 8 (by decide) gm_9_3 rfl dX8_thrown_1 ?_
  refine g_top hc4 ?_
  exact g_iret (v := nI (cd)) hx hb hr hlk dX8_thrown_4 (rfl)

set_option maxHeartbeats 1000000 in
set_option maxRecDepth 100000 in
theorem c_X8_voteOf (l : Launch) (D : va_G) (cA : Nat → ClassId) (A : Nat → Nat) (x : Nat → Int32) (f : Nat → Nat → Int32) (v t : Int32) (jn cn : Nat) (hA : mInj A) (hj : f 0 0 = nI jn) (hjn : jn ≤ 9) (hc : f 0 1 = nI cn) (hcn : cn ≤ 10) : Met l yX8_voteOf (gw yX8_voteOf cX8_voteOf 3 (some .int)) ({ frames := 2, cells := 0, slots := 0, locals := 43 } : Room) (gPc [.ref (A 0), .int (v), .int (t)] (fun H => va_P D vwCl (mw cA A x f) H) D cA) (wrI (fun r H => r = (vtM x f jn cn v t).1 ∧ va_P D vwCl (mw cA A (vtM x f jn cn v t).2.1 (vtM x f jn cn v t).2.2) H) (MA A)) 0 0 (MA A) := by
  refine gOf (by decide) (Nat.le_of_ble_eq_true rfl) ?_
  intro p e s m below meth c ls hx hb hml hr hlk hown hts hnm hP hK hl
  have hl : lv_has ls 3 [(0, .ref (A 0)), (1, .int (v)), (2, .int (t))] := hl
  have hD : va_D (MA A) (mw cA A x f) := mD hA
  have hS : va_S (MA A) s.heap s.heap [] := va_S.rf
  refine lv_aload_n hx hb dX8_voteOf_0 rfl (lv_at hl 0 rfl) ?_
  refine lv_aload_n hx hb dX8_voteOf_1 rfl (lv_at hl 0 rfl) ?_
  refine lv_iload_n hx hb dX8_voteOf_2 rfl (lv_at hl 1 rfl) ?_
  refine rd_calle (va_runV (As := [.int (v)]) (rest := [.ref (A 0)]) ⟨hx, hb, hml, hown, hts⟩ (c_X8_isJuror l D cA A (x) (f) (v) jn hj hjn) (cwV 1 hts (gWV gm_25_10 gm_25_11 gm_25_12 gm_1_5 gm_25_13) rfl rfl rfl (by decide +kernel) ⟨Nat.le_of_ble_eq_true rfl, Nat.le_of_ble_eq_true rfl⟩) (gPreV hK (g_rf hK hP (ci := 10) (q0 := 0) rfl rfl) hP) rfl rfl hl.1 rfl (lv_room (Nat.le_of_ble_eq_true rfl)) dX8_voteOf_3 ⟨by omega, by omega⟩) ?_
  refine g_if_eq (P := isIx (v) jn = false) (tgt := 21) hx hb dX8_voteOf_6 (by decide) b2i_0 (fun c_1 => ?_) (fun c_1 => ?_)
  · refine lv_iconst (v := nI (1)) hx hb dX8_voteOf_21 gc_1 ?_
    refine wr_calli (va_runV (As := [.int (nI (1))]) (rest := []) ⟨hx, hb, hml, hown, hts⟩ (c_X8_fails l D cA A (x) (f) (1)  hA (by decide)) (cwV 1 hts (gWV gm_8_23 gm_9_0 gm_9_1 gm_1_5 gm_9_2) rfl rfl rfl (by decide +kernel) ⟨Nat.le_of_ble_eq_true rfl, Nat.le_of_ble_eq_true rfl⟩) (gPreV hK (g_rf hK hP (ci := 10) (q0 := 0) rfl rfl) hP) rfl rfl hl.1 rfl (lv_room (Nat.le_of_ble_eq_true rfl)) dX8_voteOf_22 ⟨by omega, by omega⟩) hS (fun q _ h => h) (fun q h => h) (fun r H locs hw9 hz9 hk9 hS => ?_)
    obtain ⟨rfl, hP⟩ := hw9
    have hP : va_P D vwCl (mw cA A (upd (upd (x) 3 (nI (0))) 4 (nI (1))) (f)) H := hP
    have hD : va_D (MA A) (mw cA A (upd (upd (x) 3 (nI (0))) 4 (nI (1))) (f)) := mD hA
    refine g_if_eq (P := true = false) (tgt := 30) hx hb dX8_voteOf_25 (by decide) b2i_0 (fun c_2 => ?_) (fun c_2 => ?_)
    · exact absurd c_2 (by decide)
    · have c_2 : true = true := eq_true_of_ne_false c_2
      refine lv_iconst (v := nI (0)) hx hb dX8_voteOf_28 gc_0 ?_
      exact g_iretW (v := nI (0)) hx hb hr hlk hS dX8_voteOf_29 (by rw [vtM, if_neg (bnt c_1)]; exact ⟨rfl, hP⟩)
  · have c_1 : isIx (v) jn = true := eq_true_of_ne_false c_1
    obtain ⟨j_3, hj_5, ej_4⟩ := isIx_n c_1 (by omega)
    rw [ej_4] at hl
    have hl : lv_has ls 3 [(0, .ref (A 0)), (1, .int (nI (j_3))), (2, .int (t))] := hl
    refine lv_aload_n hx hb dX8_voteOf_9 rfl (lv_at hl 0 rfl) ?_
    refine lv_iload_n hx hb dX8_voteOf_10 rfl (lv_at hl 2 rfl) ?_
    refine rd_calle (va_runV (As := [.int (t)]) (rest := [.ref (A 0)]) ⟨hx, hb, hml, hown, hts⟩ (c_X8_isCase l D cA A (x) (f) (t) cn hc hcn) (cwV 1 hts (gWV gm_13_23 gm_14_0 gm_14_1 gm_1_5 gm_14_2) rfl rfl rfl (by decide +kernel) ⟨Nat.le_of_ble_eq_true rfl, Nat.le_of_ble_eq_true rfl⟩) (gPreV hK (g_rf hK hP (ci := 10) (q0 := 0) rfl rfl) hP) rfl rfl hl.1 rfl (lv_room (Nat.le_of_ble_eq_true rfl)) dX8_voteOf_11 ⟨by omega, by omega⟩) ?_
    refine g_if_eq (P := isIx (t) cn = false) (tgt := 21) hx hb dX8_voteOf_14 (by decide) b2i_0 (fun c_6 => ?_) (fun c_6 => ?_)
    · refine lv_iconst (v := nI (1)) hx hb dX8_voteOf_21 gc_1 ?_
      refine wr_calli (va_runV (As := [.int (nI (1))]) (rest := []) ⟨hx, hb, hml, hown, hts⟩ (c_X8_fails l D cA A (x) (f) (1)  hA (by decide)) (cwV 1 hts (gWV gm_8_23 gm_9_0 gm_9_1 gm_1_5 gm_9_2) rfl rfl rfl (by decide +kernel) ⟨Nat.le_of_ble_eq_true rfl, Nat.le_of_ble_eq_true rfl⟩) (gPreV hK (g_rf hK hP (ci := 10) (q0 := 0) rfl rfl) hP) rfl rfl hl.1 rfl (lv_room (Nat.le_of_ble_eq_true rfl)) dX8_voteOf_22 ⟨by omega, by omega⟩) hS (fun q _ h => h) (fun q h => h) (fun r H locs hw9 hz9 hk9 hS => ?_)
      obtain ⟨rfl, hP⟩ := hw9
      have hP : va_P D vwCl (mw cA A (upd (upd (x) 3 (nI (0))) 4 (nI (1))) (f)) H := hP
      have hD : va_D (MA A) (mw cA A (upd (upd (x) 3 (nI (0))) 4 (nI (1))) (f)) := mD hA
      refine g_if_eq (P := true = false) (tgt := 30) hx hb dX8_voteOf_25 (by decide) b2i_0 (fun c_7 => ?_) (fun c_7 => ?_)
      · exact absurd c_7 (by decide)
      · have c_7 : true = true := eq_true_of_ne_false c_7
        refine lv_iconst (v := nI (0)) hx hb dX8_voteOf_28 gc_0 ?_
        exact g_iretW (v := nI (0)) hx hb hr hlk hS dX8_voteOf_29 (by have hq9v : v.toNatClampNeg = j_3 := (by rw [ej_4, nI_clamp (by omega)]); rw [vtM, hq9v, if_pos c_1, if_neg (bnt c_6)]; exact ⟨rfl, hP⟩)
    · have c_6 : isIx (t) cn = true := eq_true_of_ne_false c_6
      obtain ⟨j_8, hj_10, ej_9⟩ := isIx_n c_6 (by omega)
      rw [ej_9] at hl
      have hl : lv_has ls 3 [(0, .ref (A 0)), (1, .int (nI (j_3))), (2, .int (nI (j_8)))] := hl
      refine lv_iconst (v := nI (0)) hx hb dX8_voteOf_17 gc_0 ?_
      refine lv_goto (tgt := 22) hx hb dX8_voteOf_18 (by decide) ?_
      refine wr_calli (va_runV (As := [.int (nI (0))]) (rest := []) ⟨hx, hb, hml, hown, hts⟩ (c_X8_fails l D cA A (x) (f) (0)  hA (by decide)) (cwV 1 hts (gWV gm_8_23 gm_9_0 gm_9_1 gm_1_5 gm_9_2) rfl rfl rfl (by decide +kernel) ⟨Nat.le_of_ble_eq_true rfl, Nat.le_of_ble_eq_true rfl⟩) (gPreV hK (g_rf hK hP (ci := 10) (q0 := 0) rfl rfl) hP) rfl rfl hl.1 rfl (lv_room (Nat.le_of_ble_eq_true rfl)) dX8_voteOf_22 ⟨by omega, by omega⟩) hS (fun q _ h => h) (fun q h => h) (fun r H locs hw9 hz9 hk9 hS => ?_)
      obtain ⟨rfl, hP⟩ := hw9
      have hP : va_P D vwCl (mw cA A (upd (upd (x) 3 (nI (0))) 4 (nI (0))) (f)) H := hP
      have hD : va_D (MA A) (mw cA A (upd (upd (x) 3 (nI (0))) 4 (nI (0))) (f)) := mD hA
      refine g_if_eq (P := false = false) (tgt := 30) hx hb dX8_voteOf_25 (by decide) b2i_0 (fun c_11 => ?_) (fun c_11 => ?_)
      · refine lv_aload_n hx hb dX8_voteOf_30 rfl (lv_at hl 0 rfl) ?_
        refine wr_callv (va_runV (As := []) (rest := []) ⟨hx, hb, hml, hown, hts⟩ (c_X8_laysMinds l D cA A (upd (upd (x) 3 (nI (0))) 4 (nI (0))) (f)  jn hA hj hjn) (cwV 0 hts (gWV gm_17_23 gm_18_0 gm_18_1 gm_1_5 gm_18_2) rfl rfl rfl (by decide +kernel) ⟨Nat.le_of_ble_eq_true rfl, Nat.le_of_ble_eq_true rfl⟩) (gPreV hK (g_rf hK hP (ci := 10) (q0 := 0) rfl rfl) hP) rfl rfl hl.1 rfl (lv_room (Nat.le_of_ble_eq_true rfl)) dX8_voteOf_31 ⟨by omega, by omega⟩) hS (fun q _ h => h) (fun q h => h) (fun H locs hP hz9 hk9 hS => ?_)
        have hP : va_P D vwCl (mw cA A (upd (upd (x) 3 (nI (0))) 4 (nI (0))) (va_up (va_up (f) 6 ((lmS (f 0) (f 6) (f 7) jn).1)) 7 ((lmS (f 0) (f 6) (f 7) jn).2))) H := hP
        have hD : va_D (MA A) (mw cA A (upd (upd (x) 3 (nI (0))) 4 (nI (0))) (va_up (va_up (f) 6 ((lmS (f 0) (f 6) (f 7) jn).1)) 7 ((lmS (f 0) (f 6) (f 7) jn).2))) := mD hA
        refine lv_aload_n hx hb dX8_voteOf_34 rfl (lv_at hl 0 rfl) ?_
        refine lv_iload_n hx hb dX8_voteOf_35 rfl (lv_at hl 1 rfl) ?_
        refine lv_aload_n hx hb dX8_voteOf_36 rfl (lv_at hl 0 rfl) ?_
        refine lv_iload_n hx hb dX8_voteOf_37 rfl (lv_at hl 2 rfl) ?_
        refine lv_iconst (v := nI (0)) hx hb dX8_voteOf_38 gc_0 ?_
        refine rd_calle (va_runV (As := [.int (nI (j_8)), .int (nI (0))]) (rest := [.int (nI (j_3)), .ref (A 0)]) ⟨hx, hb, hml, hown, hts⟩ (c_X8_of l D cA A (upd (upd (x) 3 (nI (0))) 4 (nI (0))) (va_up (va_up (f) 6 ((lmS (f 0) (f 6) (f 7) jn).1)) 7 ((lmS (f 0) (f 6) (f 7) jn).2)) (j_8) (0) (by omega)) (cwV 2 hts (gWV gm_14_3 gm_14_4 gm_14_5 gm_1_5 gm_14_6) rfl rfl rfl (by decide +kernel) ⟨Nat.le_of_ble_eq_true rfl, Nat.le_of_ble_eq_true rfl⟩) (gPreV hK (g_rf hK hP (ci := 10) (q0 := 0) rfl rfl) hP) rfl rfl hl.1 rfl (lv_room (Nat.le_of_ble_eq_true rfl)) dX8_voteOf_39 ⟨by omega, by omega⟩) ?_
        refine rd_calle (va_runV (As := [.int (nI (j_3)), .int (gof (f 0) (j_8) (0))]) (rest := []) ⟨hx, hb, hml, hown, hts⟩ (c_X8_isFor l D cA A (upd (upd (x) 3 (nI (0))) 4 (nI (0))) (va_up (va_up (f) 6 ((lmS (f 0) (f 6) (f 7) jn).1)) 7 ((lmS (f 0) (f 6) (f 7) jn).2)) (j_3) (gof (f 0) (j_8) (0)) (by omega)) (cwV 2 hts (gWV gm_18_7 gm_18_8 gm_18_9 gm_1_5 gm_18_10) rfl rfl rfl (by decide +kernel) ⟨Nat.le_of_ble_eq_true rfl, Nat.le_of_ble_eq_true rfl⟩) (gPreV hK (g_rf hK hP (ci := 10) (q0 := 0) rfl rfl) hP) rfl rfl hl.1 rfl (lv_room (Nat.le_of_ble_eq_true rfl)) dX8_voteOf_42 ⟨by omega, by omega⟩) ?_
        refine g_if_eq (P := forB (gof (f 0) (j_8) (0)) ((lmS (f 0) (f 6) (f 7) jn).1 (j_3)) ((lmS (f 0) (f 6) (f 7) jn).2 (j_3)) = false) (tgt := 52) hx hb dX8_voteOf_45 (by decide) b2i_0 (fun c_12 => ?_) (fun c_12 => ?_)
        · refine lv_iconst (v := nI (2)) hx hb dX8_voteOf_52 gc_2 ?_
          exact g_iretW (v := nI (2)) hx hb hr hlk hS dX8_voteOf_53 (by have hq9v : v.toNatClampNeg = j_3 := (by rw [ej_4, nI_clamp (by omega)]); have hq9t : t.toNatClampNeg = j_8 := (by rw [ej_9, nI_clamp (by omega)]); rw [vtM, hq9v, hq9t, if_pos c_1, if_pos c_6, if_neg (bnt c_12)]; exact ⟨rfl, hP⟩)
        · have c_12 : forB (gof (f 0) (j_8) (0)) ((lmS (f 0) (f 6) (f 7) jn).1 (j_3)) ((lmS (f 0) (f 6) (f 7) jn).2 (j_3)) = true := eq_true_of_ne_false c_12
          refine lv_iconst (v := nI (1)) hx hb dX8_voteOf_48 gc_1 ?_
          refine lv_goto (tgt := 53) hx hb dX8_voteOf_49 (by decide) ?_
          exact g_iretW (v := nI (1)) hx hb hr hlk hS dX8_voteOf_53 (by have hq9v : v.toNatClampNeg = j_3 := (by rw [ej_4, nI_clamp (by omega)]); have hq9t : t.toNatClampNeg = j_8 := (by rw [ej_9, nI_clamp (by omega)]); rw [vtM, hq9v, hq9t, if_pos c_1, if_pos c_6, if_pos c_12]; exact ⟨rfl, hP⟩)
      · exact absurd c_11 (by decide)

set_option maxHeartbeats 1000000 in
set_option maxRecDepth 100000 in
theorem c_X8_isNoPanel (l : Launch) (D : va_G) (cA : Nat → ClassId) (A : Nat → Nat) (x : Nat → Int32) (f : Nat → Nat → Int32) (v : Int32) (cn : Nat) (hA : mInj A) (hc : f 0 1 = nI cn) (hcn : cn ≤ 10) : Met l yX8_isNoPanel (gw yX8_isNoPanel cX8_isNoPanel 2 (some .boolean)) ({ frames := 2, cells := 0, slots := 0, locals := 43 } : Room) (gPc [.ref (A 0), .int (v)] (fun H => va_P D vwCl (mw cA A x f) H) D cA) (wrI (fun r H => r = b2i (decide (0 < npC (f 0) cn v)) ∧ va_P D vwCl (mw cA A (failX x (npC (f 0) cn v)) (f)) H) (MA A)) 0 0 (MA A) := by
  refine gOf (by decide) (Nat.le_of_ble_eq_true rfl) ?_
  intro p e s m below meth c ls hx hb hml hr hlk hown hts hnm hP hK hl
  have hl : lv_has ls 2 [(0, .ref (A 0)), (1, .int (v))] := hl
  have hD : va_D (MA A) (mw cA A x f) := mD hA
  have hS : va_S (MA A) s.heap s.heap [] := va_S.rf
  refine lv_aload_n hx hb dX8_isNoPanel_0 rfl (lv_at hl 0 rfl) ?_
  refine lv_aload_n hx hb dX8_isNoPanel_1 rfl (lv_at hl 0 rfl) ?_
  refine lv_iload_n hx hb dX8_isNoPanel_2 rfl (lv_at hl 1 rfl) ?_
  refine rd_calle (va_runV (As := [.int (v)]) (rest := [.ref (A 0)]) ⟨hx, hb, hml, hown, hts⟩ (c_X8_isCase l D cA A (x) (f) (v) cn hc hcn) (cwV 1 hts (gWV gm_13_23 gm_14_0 gm_14_1 gm_1_5 gm_14_2) rfl rfl rfl (by decide +kernel) ⟨Nat.le_of_ble_eq_true rfl, Nat.le_of_ble_eq_true rfl⟩) (gPreV hK (g_rf hK hP (ci := 10) (q0 := 0) rfl rfl) hP) rfl rfl hl.1 rfl (lv_room (Nat.le_of_ble_eq_true rfl)) dX8_isNoPanel_3 ⟨by omega, by omega⟩) ?_
  refine g_if_ne (P := isIx (v) cn = false) (tgt := 13) hx hb dX8_isNoPanel_6 (by decide) b2i_0 (fun c_1 => ?_) (fun c_1 => ?_)
  · have c_1 : isIx (v) cn = true := eq_true_of_ne_false c_1
    obtain ⟨j_2, hj_4, ej_3⟩ := isIx_n c_1 (by omega)
    rw [ej_3] at hl
    have hl : lv_has ls 2 [(0, .ref (A 0)), (1, .int (nI (j_2)))] := hl
    refine lv_aload_n hx hb dX8_isNoPanel_13 rfl (lv_at hl 0 rfl) ?_
    refine lv_iload_n hx hb dX8_isNoPanel_14 rfl (lv_at hl 1 rfl) ?_
    refine lv_iconst (v := nI (2)) hx hb dX8_isNoPanel_15 gc_2 ?_
    refine rd_calle (va_runV (As := [.int (nI (j_2)), .int (nI (2))]) (rest := [.ref (A 0)]) ⟨hx, hb, hml, hown, hts⟩ (c_X8_of l D cA A (x) (f) (j_2) (2) (by omega)) (cwV 2 hts (gWV gm_14_3 gm_14_4 gm_14_5 gm_1_5 gm_14_6) rfl rfl rfl (by decide +kernel) ⟨Nat.le_of_ble_eq_true rfl, Nat.le_of_ble_eq_true rfl⟩) (gPreV hK (g_rf hK hP (ci := 10) (q0 := 0) rfl rfl) hP) rfl rfl hl.1 rfl (lv_room (Nat.le_of_ble_eq_true rfl)) dX8_isNoPanel_16 ⟨by omega, by omega⟩) ?_
    refine g_if_ne (P := gof (f 0) (j_2) (2) = 0) (tgt := 26) hx hb dX8_isNoPanel_19 (by decide) Iff.rfl (fun c_5 => ?_) (fun c_5 => ?_)
    · refine lv_iconst (v := nI (0)) hx hb dX8_isNoPanel_26 gc_0 ?_
      refine wr_calli (va_runV (As := [.int (nI (0))]) (rest := []) ⟨hx, hb, hml, hown, hts⟩ (c_X8_fails l D cA A (x) (f) (0)  hA (by decide)) (cwV 1 hts (gWV gm_8_23 gm_9_0 gm_9_1 gm_1_5 gm_9_2) rfl rfl rfl (by decide +kernel) ⟨Nat.le_of_ble_eq_true rfl, Nat.le_of_ble_eq_true rfl⟩) (gPreV hK (g_rf hK hP (ci := 10) (q0 := 0) rfl rfl) hP) rfl rfl hl.1 rfl (lv_room (Nat.le_of_ble_eq_true rfl)) dX8_isNoPanel_27 ⟨by omega, by omega⟩) hS (fun q _ h => h) (fun q h => h) (fun r H locs hw9 hz9 hk9 hS => ?_)
      obtain ⟨rfl, hP⟩ := hw9
      have hP : va_P D vwCl (mw cA A (upd (upd (x) 3 (nI (0))) 4 (nI (0))) (f)) H := hP
      have hD : va_D (MA A) (mw cA A (upd (upd (x) 3 (nI (0))) 4 (nI (0))) (f)) := mD hA
      exact g_zretW (v := b2i (false)) hx hb hr hlk b2i_n hS dX8_isNoPanel_30 (by have hq9v : v.toNatClampNeg = j_2 := (by rw [ej_3, nI_clamp (by omega)]); rw [npC, hq9v, if_pos c_1, if_neg c_5]; exact ⟨rfl, hP⟩)
    · refine lv_iconst (v := nI (2)) hx hb dX8_isNoPanel_22 gc_2 ?_
      refine lv_goto (tgt := 27) hx hb dX8_isNoPanel_23 (by decide) ?_
      refine wr_calli (va_runV (As := [.int (nI (2))]) (rest := []) ⟨hx, hb, hml, hown, hts⟩ (c_X8_fails l D cA A (x) (f) (2)  hA (by decide)) (cwV 1 hts (gWV gm_8_23 gm_9_0 gm_9_1 gm_1_5 gm_9_2) rfl rfl rfl (by decide +kernel) ⟨Nat.le_of_ble_eq_true rfl, Nat.le_of_ble_eq_true rfl⟩) (gPreV hK (g_rf hK hP (ci := 10) (q0 := 0) rfl rfl) hP) rfl rfl hl.1 rfl (lv_room (Nat.le_of_ble_eq_true rfl)) dX8_isNoPanel_27 ⟨by omega, by omega⟩) hS (fun q _ h => h) (fun q h => h) (fun r H locs hw9 hz9 hk9 hS => ?_)
      obtain ⟨rfl, hP⟩ := hw9
      have hP : va_P D vwCl (mw cA A (upd (upd (x) 3 (nI (0))) 4 (nI (2))) (f)) H := hP
      have hD : va_D (MA A) (mw cA A (upd (upd (x) 3 (nI (0))) 4 (nI (2))) (f)) := mD hA
      exact g_zretW (v := b2i (true)) hx hb hr hlk b2i_n hS dX8_isNoPanel_30 (by have hq9v : v.toNatClampNeg = j_2 := (by rw [ej_3, nI_clamp (by omega)]); rw [npC, hq9v, if_pos c_1, if_pos c_5]; exact ⟨rfl, hP⟩)
  · refine lv_iconst (v := nI (1)) hx hb dX8_isNoPanel_9 gc_1 ?_
    refine lv_goto (tgt := 27) hx hb dX8_isNoPanel_10 (by decide) ?_
    refine wr_calli (va_runV (As := [.int (nI (1))]) (rest := []) ⟨hx, hb, hml, hown, hts⟩ (c_X8_fails l D cA A (x) (f) (1)  hA (by decide)) (cwV 1 hts (gWV gm_8_23 gm_9_0 gm_9_1 gm_1_5 gm_9_2) rfl rfl rfl (by decide +kernel) ⟨Nat.le_of_ble_eq_true rfl, Nat.le_of_ble_eq_true rfl⟩) (gPreV hK (g_rf hK hP (ci := 10) (q0 := 0) rfl rfl) hP) rfl rfl hl.1 rfl (lv_room (Nat.le_of_ble_eq_true rfl)) dX8_isNoPanel_27 ⟨by omega, by omega⟩) hS (fun q _ h => h) (fun q h => h) (fun r H locs hw9 hz9 hk9 hS => ?_)
    obtain ⟨rfl, hP⟩ := hw9
    have hP : va_P D vwCl (mw cA A (upd (upd (x) 3 (nI (0))) 4 (nI (1))) (f)) H := hP
    have hD : va_D (MA A) (mw cA A (upd (upd (x) 3 (nI (0))) 4 (nI (1))) (f)) := mD hA
    exact g_zretW (v := b2i (true)) hx hb hr hlk b2i_n hS dX8_isNoPanel_30 (by rw [npC, if_neg (bnt c_1)]; exact ⟨rfl, hP⟩)

set_option maxHeartbeats 1000000 in
set_option maxRecDepth 100000 in
theorem c_X8_wouldBe (l : Launch) (D : va_G) (cA : Nat → ClassId) (A : Nat → Nat) (x : Nat → Int32) (f : Nat → Nat → Int32) (v : Int32) (z : Bool) (jn cn : Nat) (hA : mInj A) (hj : f 0 0 = nI jn) (hjn : jn ≤ 9) (hc : f 0 1 = nI cn) (hcn : cn ≤ 10) : Met l yX8_wouldBe (gw yX8_wouldBe cX8_wouldBe 3 (some .int)) ({ frames := 3, cells := 0, slots := 0, locals := 64 } : Room) (gPc [.ref (A 0), .int (v), .int (b2i (z))] (fun H => va_P D vwCl (mw cA A x f) H) D cA) (wrI (fun r H => r = (wbM x f jn cn v).1 ∧ va_P D vwCl (mw cA A (wbM x f jn cn v).2.1 (wbM x f jn cn v).2.2) H) (MA A)) 0 0 (MA A) := by
  refine gOf (by decide) (Nat.le_of_ble_eq_true rfl) ?_
  intro p e s m below meth c ls hx hb hml hr hlk hown hts hnm hP hK hl
  have hl : lv_has ls 3 [(0, .ref (A 0)), (1, .int (v)), (2, .int (b2i (z)))] := hl
  have hD : va_D (MA A) (mw cA A x f) := mD hA
  have hS : va_S (MA A) s.heap s.heap [] := va_S.rf
  refine lv_aload_n hx hb dX8_wouldBe_0 rfl (lv_at hl 0 rfl) ?_
  refine lv_iload_n hx hb dX8_wouldBe_1 rfl (lv_at hl 1 rfl) ?_
  refine wr_calli (va_runV (As := [.int (v)]) (rest := []) ⟨hx, hb, hml, hown, hts⟩ (c_X8_isNoPanel l D cA A (x) (f) (v) cn hA hc hcn) (cwV 1 hts (gWV gm_27_18 gm_27_19 gm_27_20 gm_1_5 gm_27_21) rfl rfl rfl (by decide +kernel) ⟨Nat.le_of_ble_eq_true rfl, Nat.le_of_ble_eq_true rfl⟩) (gPreV hK (g_rf hK hP (ci := 10) (q0 := 0) rfl rfl) hP) rfl rfl hl.1 rfl (lv_room (Nat.le_of_ble_eq_true rfl)) dX8_wouldBe_2 ⟨by omega, by omega⟩) hS (fun q _ h => h) (fun q h => h) (fun r H locs hw9 hz9 hk9 hS => ?_)
  obtain ⟨rfl, hP⟩ := hw9
  have hP : va_P D vwCl (mw cA A (upd (upd (x) 3 (nI (0))) 4 (nI (npC (f 0) cn (v)))) (f)) H := hP
  have hD : va_D (MA A) (mw cA A (upd (upd (x) 3 (nI (0))) 4 (nI (npC (f 0) cn (v)))) (f)) := mD hA
  have kg_1 : (f 0) 0 = nI (jn) := hj
  have kg_2 : (f 0) 1 = nI (cn) := hc
  refine g_if_eq (P := decide (0 < npC (f 0) cn (v)) = false) (tgt := 10) hx hb dX8_wouldBe_5 (by decide) b2i_0 (fun c_3 => ?_) (fun c_3 => ?_)
  · have hz_4 := npC_z c_3
    obtain ⟨j_5, hj_7, ej_6⟩ := isIx_n hz_4.1 (by omega)
    rw [ej_6] at hl
    have hl : lv_has ls 3 [(0, .ref (A 0)), (1, .int (nI (j_5))), (2, .int (b2i (z)))] := hl
    refine lv_aload_n hx hb dX8_wouldBe_10 rfl (lv_at hl 0 rfl) ?_
    refine wr_callv (va_runV (As := []) (rest := []) ⟨hx, hb, hml, hown, hts⟩ (c_X8_laysMinds l D cA A (upd (upd (x) 3 (nI (0))) 4 (nI (npC (f 0) cn (v)))) (f)  jn hA kg_1 hjn) (cwV 0 hts (gWV gm_17_23 gm_18_0 gm_18_1 gm_1_5 gm_18_2) rfl rfl rfl (by decide +kernel) ⟨Nat.le_of_ble_eq_true rfl, Nat.le_of_ble_eq_true rfl⟩) (gPreV hK (g_rf hK hP (ci := 10) (q0 := 0) rfl rfl) hP) rfl rfl hl.1 rfl (lv_room (Nat.le_of_ble_eq_true rfl)) dX8_wouldBe_11 ⟨by omega, by omega⟩) hS (fun q _ h => h) (fun q h => h) (fun H locs hP hz9 hk9 hS => ?_)
    have hP : va_P D vwCl (mw cA A (upd (upd (x) 3 (nI (0))) 4 (nI (npC (f 0) cn (v)))) (va_up (va_up (f) 6 ((lmS (f 0) (f 6) (f 7) jn).1)) 7 ((lmS (f 0) (f 6) (f 7) jn).2))) H := hP
    have hD : va_D (MA A) (mw cA A (upd (upd (x) 3 (nI (0))) 4 (nI (npC (f 0) cn (v)))) (va_up (va_up (f) 6 ((lmS (f 0) (f 6) (f 7) jn).1)) 7 ((lmS (f 0) (f 6) (f 7) jn).2))) := mD hA
    refine lv_aload_n hx hb dX8_wouldBe_14 rfl (lv_at hl 0 rfl) ?_
    refine lv_aload_n hx hb dX8_wouldBe_15 rfl (lv_at hl 0 rfl) ?_
    refine lv_iload_n hx hb dX8_wouldBe_16 rfl (lv_at hl 1 rfl) ?_
    refine lv_iconst (v := nI (2)) hx hb dX8_wouldBe_17 gc_2 ?_
    refine rd_calle (va_runV (As := [.int (nI (j_5)), .int (nI (2))]) (rest := [.ref (A 0)]) ⟨hx, hb, hml, hown, hts⟩ (c_X8_of l D cA A (upd (upd (x) 3 (nI (0))) 4 (nI (npC (f 0) cn (v)))) (va_up (va_up (f) 6 ((lmS (f 0) (f 6) (f 7) jn).1)) 7 ((lmS (f 0) (f 6) (f 7) jn).2)) (j_5) (2) (by omega)) (cwV 2 hts (gWV gm_14_3 gm_14_4 gm_14_5 gm_1_5 gm_14_6) rfl rfl rfl (by decide +kernel) ⟨Nat.le_of_ble_eq_true rfl, Nat.le_of_ble_eq_true rfl⟩) (gPreV hK (g_rf hK hP (ci := 10) (q0 := 0) rfl rfl) hP) rfl rfl hl.1 rfl (lv_room (Nat.le_of_ble_eq_true rfl)) dX8_wouldBe_18 ⟨by omega, by omega⟩) ?_
    refine lv_aload_n hx hb dX8_wouldBe_21 rfl (lv_at hl 0 rfl) ?_
    refine lv_iload_n hx hb dX8_wouldBe_22 rfl (lv_at hl 1 rfl) ?_
    refine lv_iconst (v := nI (0)) hx hb dX8_wouldBe_23 gc_0 ?_
    refine rd_calle (va_runV (As := [.int (nI (j_5)), .int (nI (0))]) (rest := [.int (gof (f 0) (j_5) (2)), .ref (A 0)]) ⟨hx, hb, hml, hown, hts⟩ (c_X8_of l D cA A (upd (upd (x) 3 (nI (0))) 4 (nI (npC (f 0) cn (v)))) (va_up (va_up (f) 6 ((lmS (f 0) (f 6) (f 7) jn).1)) 7 ((lmS (f 0) (f 6) (f 7) jn).2)) (j_5) (0) (by omega)) (cwV 2 hts (gWV gm_14_3 gm_14_4 gm_14_5 gm_1_5 gm_14_6) rfl rfl rfl (by decide +kernel) ⟨Nat.le_of_ble_eq_true rfl, Nat.le_of_ble_eq_true rfl⟩) (gPreV hK (g_rf hK hP (ci := 10) (q0 := 0) rfl rfl) hP) rfl rfl hl.1 rfl (lv_room (Nat.le_of_ble_eq_true rfl)) dX8_wouldBe_24 ⟨by omega, by omega⟩) ?_
    refine rd_calle (va_runV (As := [.int (gof (f 0) (j_5) (2)), .int (gof (f 0) (j_5) (0))]) (rest := []) ⟨hx, hb, hml, hown, hts⟩ (c_X8_verdictBy l D cA A (upd (upd (x) 3 (nI (0))) 4 (nI (npC (f 0) cn (v)))) (va_up (va_up (f) 6 ((lmS (f 0) (f 6) (f 7) jn).1)) 7 ((lmS (f 0) (f 6) (f 7) jn).2)) (gof (f 0) (j_5) (2)) (gof (f 0) (j_5) (0)) jn kg_1 hjn) (cwV 2 hts (gWV gm_18_3 gm_18_4 gm_18_5 gm_1_5 gm_18_6) rfl rfl rfl (by decide +kernel) ⟨Nat.le_of_ble_eq_true rfl, Nat.le_of_ble_eq_true rfl⟩) (gPreV hK (g_rf hK hP (ci := 10) (q0 := 0) rfl rfl) hP) rfl rfl hl.1 rfl (lv_room (Nat.le_of_ble_eq_true rfl)) dX8_wouldBe_27 ⟨by omega, by omega⟩) ?_
    exact g_iretW (v := nI (vdM (f 0) ((lmS (f 0) (f 6) (f 7) jn).1) ((lmS (f 0) (f 6) (f 7) jn).2) jn (gof (f 0) (j_5) (2)) (gof (f 0) (j_5) (0)))) hx hb hr hlk hS dX8_wouldBe_30 (by have hq9v : v.toNatClampNeg = j_5 := (by rw [ej_6, nI_clamp (by omega)]); rw [wbM, hq9v, if_neg (bnt c_3)]; exact ⟨rfl, hP⟩)
  · have c_3 : decide (0 < npC (f 0) cn (v)) = true := eq_true_of_ne_false c_3
    refine lv_iconst (v := nI (0)) hx hb dX8_wouldBe_8 gc_0 ?_
    exact g_iretW (v := nI (0)) hx hb hr hlk hS dX8_wouldBe_9 (by rw [wbM, if_pos c_3]; exact ⟨rfl, hP⟩)

set_option maxHeartbeats 1000000 in
set_option maxRecDepth 100000 in
theorem c_X8_load (l : Launch) (D : va_G) (cA : Nat → ClassId) (A : Nat → Nat) (x : Nat → Int32) (f : Nat → Nat → Int32) (v : Int32) (z : Bool) (jn cn : Nat) (hA : mInj A) (hj : f 0 0 = nI jn) (hjn : jn ≤ 9) (hc : f 0 1 = nI cn) (hcn : cn ≤ 10) : Met l yX8_load (gw yX8_load cX8_load 3 (some .int)) ({ frames := 3, cells := 0, slots := 0, locals := 66 } : Room) (gPc [.ref (A 0), .int (v), .int (b2i (z))] (fun H => va_P D vwCl (mw cA A x f) H) D cA) (wrI (fun r H => r = (liM x (f 0) jn cn v).1 ∧ va_P D vwCl (mw cA A (liM x (f 0) jn cn v).2 f) H) (MA A)) 0 0 (MA A) := by
  refine gOf (by decide) (Nat.le_of_ble_eq_true rfl) ?_
  intro p e s m below meth c ls hx hb hml hr hlk hown hts hnm hP hK hl
  have hl : lv_has ls 3 [(0, .ref (A 0)), (1, .int (v)), (2, .int (b2i (z)))] := hl
  have hD : va_D (MA A) (mw cA A x f) := mD hA
  have hS : va_S (MA A) s.heap s.heap [] := va_S.rf
  refine lv_aload_n hx hb dX8_load_0 rfl (lv_at hl 0 rfl) ?_
  refine lv_aload_n hx hb dX8_load_1 rfl (lv_at hl 0 rfl) ?_
  refine lv_iload_n hx hb dX8_load_2 rfl (lv_at hl 1 rfl) ?_
  refine rd_calle (va_runV (As := [.int (v)]) (rest := [.ref (A 0)]) ⟨hx, hb, hml, hown, hts⟩ (c_X8_isJuror l D cA A (x) (f) (v) jn hj hjn) (cwV 1 hts (gWV gm_25_10 gm_25_11 gm_25_12 gm_1_5 gm_25_13) rfl rfl rfl (by decide +kernel) ⟨Nat.le_of_ble_eq_true rfl, Nat.le_of_ble_eq_true rfl⟩) (gPreV hK (g_rf hK hP (ci := 10) (q0 := 0) rfl rfl) hP) rfl rfl hl.1 rfl (lv_room (Nat.le_of_ble_eq_true rfl)) dX8_load_3 ⟨by omega, by omega⟩) ?_
  refine g_if_eq (P := isIx (v) jn = false) (tgt := 13) hx hb dX8_load_6 (by decide) b2i_0 (fun c_1 => ?_) (fun c_1 => ?_)
  · refine lv_iconst (v := nI (1)) hx hb dX8_load_13 gc_1 ?_
    refine wr_calli (va_runV (As := [.int (nI (1))]) (rest := []) ⟨hx, hb, hml, hown, hts⟩ (c_X8_fails l D cA A (x) (f) (1)  hA (by decide)) (cwV 1 hts (gWV gm_8_23 gm_9_0 gm_9_1 gm_1_5 gm_9_2) rfl rfl rfl (by decide +kernel) ⟨Nat.le_of_ble_eq_true rfl, Nat.le_of_ble_eq_true rfl⟩) (gPreV hK (g_rf hK hP (ci := 10) (q0 := 0) rfl rfl) hP) rfl rfl hl.1 rfl (lv_room (Nat.le_of_ble_eq_true rfl)) dX8_load_14 ⟨by omega, by omega⟩) hS (fun q _ h => h) (fun q h => h) (fun r H locs hw9 hz9 hk9 hS => ?_)
    obtain ⟨rfl, hP⟩ := hw9
    have hP : va_P D vwCl (mw cA A (upd (upd (x) 3 (nI (0))) 4 (nI (1))) (f)) H := hP
    have hD : va_D (MA A) (mw cA A (upd (upd (x) 3 (nI (0))) 4 (nI (1))) (f)) := mD hA
    refine g_if_eq (P := true = false) (tgt := 24) hx hb dX8_load_17 (by decide) b2i_0 (fun c_2 => ?_) (fun c_2 => ?_)
    · exact absurd c_2 (by decide)
    · have c_2 : true = true := eq_true_of_ne_false c_2
      refine lv_iconst (v := nI (0)) hx hb dX8_load_20 gc_0 ?_
      refine lv_goto (tgt := 29) hx hb dX8_load_21 (by decide) ?_
      exact g_iretW (v := nI (0)) hx hb hr hlk hS dX8_load_29 (by rw [liM, if_neg (bnt c_1)]; exact ⟨rfl, hP⟩)
  · have c_1 : isIx (v) jn = true := eq_true_of_ne_false c_1
    obtain ⟨j_3, hj_5, ej_4⟩ := isIx_n c_1 (by omega)
    rw [ej_4] at hl
    have hl : lv_has ls 3 [(0, .ref (A 0)), (1, .int (nI (j_3))), (2, .int (b2i (z)))] := hl
    refine lv_iconst (v := nI (0)) hx hb dX8_load_9 gc_0 ?_
    refine lv_goto (tgt := 14) hx hb dX8_load_10 (by decide) ?_
    refine wr_calli (va_runV (As := [.int (nI (0))]) (rest := []) ⟨hx, hb, hml, hown, hts⟩ (c_X8_fails l D cA A (x) (f) (0)  hA (by decide)) (cwV 1 hts (gWV gm_8_23 gm_9_0 gm_9_1 gm_1_5 gm_9_2) rfl rfl rfl (by decide +kernel) ⟨Nat.le_of_ble_eq_true rfl, Nat.le_of_ble_eq_true rfl⟩) (gPreV hK (g_rf hK hP (ci := 10) (q0 := 0) rfl rfl) hP) rfl rfl hl.1 rfl (lv_room (Nat.le_of_ble_eq_true rfl)) dX8_load_14 ⟨by omega, by omega⟩) hS (fun q _ h => h) (fun q h => h) (fun r H locs hw9 hz9 hk9 hS => ?_)
    obtain ⟨rfl, hP⟩ := hw9
    have hP : va_P D vwCl (mw cA A (upd (upd (x) 3 (nI (0))) 4 (nI (0))) (f)) H := hP
    have hD : va_D (MA A) (mw cA A (upd (upd (x) 3 (nI (0))) 4 (nI (0))) (f)) := mD hA
    refine g_if_eq (P := false = false) (tgt := 24) hx hb dX8_load_17 (by decide) b2i_0 (fun c_6 => ?_) (fun c_6 => ?_)
    · refine lv_aload_n hx hb dX8_load_24 rfl (lv_at hl 0 rfl) ?_
      refine lv_iload_n hx hb dX8_load_25 rfl (lv_at hl 1 rfl) ?_
      refine rd_calle (va_runV (As := [.int (nI (j_3))]) (rest := []) ⟨hx, hb, hml, hown, hts⟩ (c_X8_loadOf l D cA A (upd (upd (x) 3 (nI (0))) 4 (nI (0))) (f) (j_3) cn hc hcn) (cwV 1 hts (gWV gm_14_13 gm_14_14 gm_14_15 gm_1_5 gm_14_16) rfl rfl rfl (by decide +kernel) ⟨Nat.le_of_ble_eq_true rfl, Nat.le_of_ble_eq_true rfl⟩) (gPreV hK (g_rf hK hP (ci := 10) (q0 := 0) rfl rfl) hP) rfl rfl hl.1 rfl (lv_room (Nat.le_of_ble_eq_true rfl)) dX8_load_26 ⟨by omega, by omega⟩) ?_
      exact g_iretW (v := nI (ldM (f 0) cn (j_3))) hx hb hr hlk hS dX8_load_29 (by have hq9v : v.toNatClampNeg = j_3 := (by rw [ej_4, nI_clamp (by omega)]); rw [liM, hq9v, if_pos c_1]; exact ⟨rfl, hP⟩)
    · exact absurd c_6 (by decide)

set_option maxHeartbeats 1000000 in
set_option maxRecDepth 100000 in
theorem c_X8_callable (l : Launch) (D : va_G) (cA : Nat → ClassId) (A : Nat → Nat) (x : Nat → Int32) (f : Nat → Nat → Int32) (v : Int32) (jn cn : Nat) (hA : mInj A) (hj : f 0 0 = nI jn) (hjn : jn ≤ 9) (hc : f 0 1 = nI cn) (hcn : cn ≤ 10) : Met l yX8_callable (gw yX8_callable cX8_callable 2 (some .int)) ({ frames := 5, cells := 0, slots := 0, locals := 115 } : Room) (gPc [.ref (A 0), .int (v)] (fun H => va_P D vwCl (mw cA A x f) H) D cA) (wrI (fun r H => r = (cbO x (f 0) jn cn v).1 ∧ va_P D vwCl (mw cA A (cbO x (f 0) jn cn v).2 f) H) (MA A)) 0 0 (MA A) := by
  refine gOf (by decide) (Nat.le_of_ble_eq_true rfl) ?_
  intro p e s m below meth c ls hx hb hml hr hlk hown hts hnm hP hK hl
  have hl : lv_has ls 2 [(0, .ref (A 0)), (1, .int (v))] := hl
  have hD : va_D (MA A) (mw cA A x f) := mD hA
  have hS : va_S (MA A) s.heap s.heap [] := va_S.rf
  refine lv_aload_n hx hb dX8_callable_0 rfl (lv_at hl 0 rfl) ?_
  refine lv_aload_n hx hb dX8_callable_1 rfl (lv_at hl 0 rfl) ?_
  refine lv_iload_n hx hb dX8_callable_2 rfl (lv_at hl 1 rfl) ?_
  refine lv_iconst (v := nI (0)) hx hb dX8_callable_3 gc_0 ?_
  refine rd_calle (va_runV (As := [.int (v), .int (nI (0))]) (rest := [.ref (A 0)]) ⟨hx, hb, hml, hown, hts⟩ (c_X8_called l D cA A (x) (f) (v) (nI (0)) jn cn hj hjn hc hcn) (cwV 2 hts (gWV gm_15_1 gm_15_2 gm_15_3 gm_1_5 gm_15_4) rfl rfl rfl (by decide +kernel) ⟨Nat.le_of_ble_eq_true rfl, Nat.le_of_ble_eq_true rfl⟩) (gPreV hK (g_rf hK hP (ci := 10) (q0 := 0) rfl rfl) hP) rfl rfl hl.1 rfl (lv_room (Nat.le_of_ble_eq_true rfl)) dX8_callable_4 ⟨by omega, by omega⟩) ?_
  refine g_if_ge (P := cldM (f 0) jn cn (nI (0)) (v) ≠ none) (tgt := 14) hx hb dX8_callable_7 (by decide) (oI_ge (fun b q => by have := fnd_lt q; omega)) (fun c_1 => ?_) (fun c_1 => ?_)
  · refine lv_iconst (v := nI (0)) hx hb dX8_callable_14 gc_0 ?_
    refine wr_calli (va_runV (As := [.int (nI (0))]) (rest := []) ⟨hx, hb, hml, hown, hts⟩ (c_X8_fails l D cA A (x) (f) (0)  hA (by decide)) (cwV 1 hts (gWV gm_8_23 gm_9_0 gm_9_1 gm_1_5 gm_9_2) rfl rfl rfl (by decide +kernel) ⟨Nat.le_of_ble_eq_true rfl, Nat.le_of_ble_eq_true rfl⟩) (gPreV hK (g_rf hK hP (ci := 10) (q0 := 0) rfl rfl) hP) rfl rfl hl.1 rfl (lv_room (Nat.le_of_ble_eq_true rfl)) dX8_callable_15 ⟨by omega, by omega⟩) hS (fun q _ h => h) (fun q h => h) (fun r H locs hw9 hz9 hk9 hS => ?_)
    obtain ⟨rfl, hP⟩ := hw9
    have hP : va_P D vwCl (mw cA A (upd (upd (x) 3 (nI (0))) 4 (nI (0))) (f)) H := hP
    have hD : va_D (MA A) (mw cA A (upd (upd (x) 3 (nI (0))) 4 (nI (0))) (f)) := mD hA
    refine g_if_eq (P := false = false) (tgt := 25) hx hb dX8_callable_18 (by decide) b2i_0 (fun c_2 => ?_) (fun c_2 => ?_)
    · refine lv_aload_n hx hb dX8_callable_25 rfl (lv_at hl 0 rfl) ?_
      refine lv_iload_n hx hb dX8_callable_26 rfl (lv_at hl 1 rfl) ?_
      refine lv_iconst (v := nI (0)) hx hb dX8_callable_27 gc_0 ?_
      refine rd_calle (va_runV (As := [.int (v), .int (nI (0))]) (rest := []) ⟨hx, hb, hml, hown, hts⟩ (c_X8_called l D cA A (upd (upd (x) 3 (nI (0))) 4 (nI (0))) (f) (v) (nI (0)) jn cn hj hjn hc hcn) (cwV 2 hts (gWV gm_15_1 gm_15_2 gm_15_3 gm_1_5 gm_15_4) rfl rfl rfl (by decide +kernel) ⟨Nat.le_of_ble_eq_true rfl, Nat.le_of_ble_eq_true rfl⟩) (gPreV hK (g_rf hK hP (ci := 10) (q0 := 0) rfl rfl) hP) rfl rfl hl.1 rfl (lv_room (Nat.le_of_ble_eq_true rfl)) dX8_callable_28 ⟨by omega, by omega⟩) ?_
      exact g_iretW (v := oI (cldM (f 0) jn cn (nI (0)) (v))) hx hb hr hlk hS dX8_callable_31 (by rw [cbO, if_neg c_1]; exact ⟨rfl, hP⟩)
    · exact absurd c_2 (by decide)
  · refine lv_iconst (v := nI (1)) hx hb dX8_callable_10 gc_1 ?_
    refine lv_goto (tgt := 15) hx hb dX8_callable_11 (by decide) ?_
    refine wr_calli (va_runV (As := [.int (nI (1))]) (rest := []) ⟨hx, hb, hml, hown, hts⟩ (c_X8_fails l D cA A (x) (f) (1)  hA (by decide)) (cwV 1 hts (gWV gm_8_23 gm_9_0 gm_9_1 gm_1_5 gm_9_2) rfl rfl rfl (by decide +kernel) ⟨Nat.le_of_ble_eq_true rfl, Nat.le_of_ble_eq_true rfl⟩) (gPreV hK (g_rf hK hP (ci := 10) (q0 := 0) rfl rfl) hP) rfl rfl hl.1 rfl (lv_room (Nat.le_of_ble_eq_true rfl)) dX8_callable_15 ⟨by omega, by omega⟩) hS (fun q _ h => h) (fun q h => h) (fun r H locs hw9 hz9 hk9 hS => ?_)
    obtain ⟨rfl, hP⟩ := hw9
    have hP : va_P D vwCl (mw cA A (upd (upd (x) 3 (nI (0))) 4 (nI (1))) (f)) H := hP
    have hD : va_D (MA A) (mw cA A (upd (upd (x) 3 (nI (0))) 4 (nI (1))) (f)) := mD hA
    refine g_if_eq (P := true = false) (tgt := 25) hx hb dX8_callable_18 (by decide) b2i_0 (fun c_3 => ?_) (fun c_3 => ?_)
    · exact absurd c_3 (by decide)
    · have c_3 : true = true := eq_true_of_ne_false c_3
      refine lv_iconst (v := nI (0)) hx hb dX8_callable_21 gc_0 ?_
      refine lv_goto (tgt := 31) hx hb dX8_callable_22 (by decide) ?_
      exact g_iretW (v := nI (0)) hx hb hr hlk hS dX8_callable_31 (by rw [cbO, if_pos (Classical.not_not.mp c_1)]; exact ⟨rfl, hP⟩)

set_option maxHeartbeats 1000000 in
set_option maxRecDepth 100000 in
theorem c_X8_isOn (l : Launch) (D : va_G) (cA : Nat → ClassId) (A : Nat → Nat) (x : Nat → Int32) (f : Nat → Nat → Int32) (v t : Int32) (jn cn : Nat) (hA : mInj A) (hj : f 0 0 = nI jn) (hjn : jn ≤ 9) (hc : f 0 1 = nI cn) (hcn : cn ≤ 10) : Met l yX8_isOn (gw yX8_isOn cX8_isOn 3 (some .boolean)) ({ frames := 2, cells := 0, slots := 0, locals := 43 } : Room) (gPc [.ref (A 0), .int (v), .int (t)] (fun H => va_P D vwCl (mw cA A x f) H) D cA) (wrI (fun r H => r = (onM x (f 0) jn cn v t).1 ∧ va_P D vwCl (mw cA A (onM x (f 0) jn cn v t).2 f) H) (MA A)) 0 0 (MA A) := by
  refine gOf (by decide) (Nat.le_of_ble_eq_true rfl) ?_
  intro p e s m below meth c ls hx hb hml hr hlk hown hts hnm hP hK hl
  have hl : lv_has ls 3 [(0, .ref (A 0)), (1, .int (v)), (2, .int (t))] := hl
  have hD : va_D (MA A) (mw cA A x f) := mD hA
  have hS : va_S (MA A) s.heap s.heap [] := va_S.rf
  refine lv_aload_n hx hb dX8_isOn_0 rfl (lv_at hl 0 rfl) ?_
  refine lv_aload_n hx hb dX8_isOn_1 rfl (lv_at hl 0 rfl) ?_
  refine lv_iload_n hx hb dX8_isOn_2 rfl (lv_at hl 1 rfl) ?_
  refine rd_calle (va_runV (As := [.int (v)]) (rest := [.ref (A 0)]) ⟨hx, hb, hml, hown, hts⟩ (c_X8_isJuror l D cA A (x) (f) (v) jn hj hjn) (cwV 1 hts (gWV gm_25_10 gm_25_11 gm_25_12 gm_1_5 gm_25_13) rfl rfl rfl (by decide +kernel) ⟨Nat.le_of_ble_eq_true rfl, Nat.le_of_ble_eq_true rfl⟩) (gPreV hK (g_rf hK hP (ci := 10) (q0 := 0) rfl rfl) hP) rfl rfl hl.1 rfl (lv_room (Nat.le_of_ble_eq_true rfl)) dX8_isOn_3 ⟨by omega, by omega⟩) ?_
  refine g_if_eq (P := isIx (v) jn = false) (tgt := 21) hx hb dX8_isOn_6 (by decide) b2i_0 (fun c_1 => ?_) (fun c_1 => ?_)
  · refine lv_iconst (v := nI (1)) hx hb dX8_isOn_21 gc_1 ?_
    refine wr_calli (va_runV (As := [.int (nI (1))]) (rest := []) ⟨hx, hb, hml, hown, hts⟩ (c_X8_fails l D cA A (x) (f) (1)  hA (by decide)) (cwV 1 hts (gWV gm_8_23 gm_9_0 gm_9_1 gm_1_5 gm_9_2) rfl rfl rfl (by decide +kernel) ⟨Nat.le_of_ble_eq_true rfl, Nat.le_of_ble_eq_true rfl⟩) (gPreV hK (g_rf hK hP (ci := 10) (q0 := 0) rfl rfl) hP) rfl rfl hl.1 rfl (lv_room (Nat.le_of_ble_eq_true rfl)) dX8_isOn_22 ⟨by omega, by omega⟩) hS (fun q _ h => h) (fun q h => h) (fun r H locs hw9 hz9 hk9 hS => ?_)
    obtain ⟨rfl, hP⟩ := hw9
    have hP : va_P D vwCl (mw cA A (upd (upd (x) 3 (nI (0))) 4 (nI (1))) (f)) H := hP
    have hD : va_D (MA A) (mw cA A (upd (upd (x) 3 (nI (0))) 4 (nI (1))) (f)) := mD hA
    refine g_if_ne (P := true = false) (tgt := 45) hx hb dX8_isOn_25 (by decide) b2i_0 (fun c_2 => ?_) (fun c_2 => ?_)
    · have c_2 : true = true := eq_true_of_ne_false c_2
      refine lv_iconst (v := nI (0)) hx hb dX8_isOn_45 gc_0 ?_
      exact g_zretW (v := nI (0)) hx hb hr hlk rfl hS dX8_isOn_46 (by rw [onM, if_neg (bnt c_1)]; exact ⟨rfl, hP⟩)
    · exact absurd c_2 (by decide)
  · have c_1 : isIx (v) jn = true := eq_true_of_ne_false c_1
    obtain ⟨j_3, hj_5, ej_4⟩ := isIx_n c_1 (by omega)
    rw [ej_4] at hl
    have hl : lv_has ls 3 [(0, .ref (A 0)), (1, .int (nI (j_3))), (2, .int (t))] := hl
    refine lv_aload_n hx hb dX8_isOn_9 rfl (lv_at hl 0 rfl) ?_
    refine lv_iload_n hx hb dX8_isOn_10 rfl (lv_at hl 2 rfl) ?_
    refine rd_calle (va_runV (As := [.int (t)]) (rest := [.ref (A 0)]) ⟨hx, hb, hml, hown, hts⟩ (c_X8_isCase l D cA A (x) (f) (t) cn hc hcn) (cwV 1 hts (gWV gm_13_23 gm_14_0 gm_14_1 gm_1_5 gm_14_2) rfl rfl rfl (by decide +kernel) ⟨Nat.le_of_ble_eq_true rfl, Nat.le_of_ble_eq_true rfl⟩) (gPreV hK (g_rf hK hP (ci := 10) (q0 := 0) rfl rfl) hP) rfl rfl hl.1 rfl (lv_room (Nat.le_of_ble_eq_true rfl)) dX8_isOn_11 ⟨by omega, by omega⟩) ?_
    refine g_if_eq (P := isIx (t) cn = false) (tgt := 21) hx hb dX8_isOn_14 (by decide) b2i_0 (fun c_6 => ?_) (fun c_6 => ?_)
    · refine lv_iconst (v := nI (1)) hx hb dX8_isOn_21 gc_1 ?_
      refine wr_calli (va_runV (As := [.int (nI (1))]) (rest := []) ⟨hx, hb, hml, hown, hts⟩ (c_X8_fails l D cA A (x) (f) (1)  hA (by decide)) (cwV 1 hts (gWV gm_8_23 gm_9_0 gm_9_1 gm_1_5 gm_9_2) rfl rfl rfl (by decide +kernel) ⟨Nat.le_of_ble_eq_true rfl, Nat.le_of_ble_eq_true rfl⟩) (gPreV hK (g_rf hK hP (ci := 10) (q0 := 0) rfl rfl) hP) rfl rfl hl.1 rfl (lv_room (Nat.le_of_ble_eq_true rfl)) dX8_isOn_22 ⟨by omega, by omega⟩) hS (fun q _ h => h) (fun q h => h) (fun r H locs hw9 hz9 hk9 hS => ?_)
      obtain ⟨rfl, hP⟩ := hw9
      have hP : va_P D vwCl (mw cA A (upd (upd (x) 3 (nI (0))) 4 (nI (1))) (f)) H := hP
      have hD : va_D (MA A) (mw cA A (upd (upd (x) 3 (nI (0))) 4 (nI (1))) (f)) := mD hA
      refine g_if_ne (P := true = false) (tgt := 45) hx hb dX8_isOn_25 (by decide) b2i_0 (fun c_7 => ?_) (fun c_7 => ?_)
      · have c_7 : true = true := eq_true_of_ne_false c_7
        refine lv_iconst (v := nI (0)) hx hb dX8_isOn_45 gc_0 ?_
        exact g_zretW (v := nI (0)) hx hb hr hlk rfl hS dX8_isOn_46 (by have hq9v : v.toNatClampNeg = j_3 := (by rw [ej_4, nI_clamp (by omega)]); rw [onM, hq9v, if_pos c_1, if_neg (bnt c_6)]; exact ⟨rfl, hP⟩)
      · exact absurd c_7 (by decide)
    · have c_6 : isIx (t) cn = true := eq_true_of_ne_false c_6
      obtain ⟨j_8, hj_10, ej_9⟩ := isIx_n c_6 (by omega)
      rw [ej_9] at hl
      have hl : lv_has ls 3 [(0, .ref (A 0)), (1, .int (nI (j_3))), (2, .int (nI (j_8)))] := hl
      refine lv_iconst (v := nI (0)) hx hb dX8_isOn_17 gc_0 ?_
      refine lv_goto (tgt := 22) hx hb dX8_isOn_18 (by decide) ?_
      refine wr_calli (va_runV (As := [.int (nI (0))]) (rest := []) ⟨hx, hb, hml, hown, hts⟩ (c_X8_fails l D cA A (x) (f) (0)  hA (by decide)) (cwV 1 hts (gWV gm_8_23 gm_9_0 gm_9_1 gm_1_5 gm_9_2) rfl rfl rfl (by decide +kernel) ⟨Nat.le_of_ble_eq_true rfl, Nat.le_of_ble_eq_true rfl⟩) (gPreV hK (g_rf hK hP (ci := 10) (q0 := 0) rfl rfl) hP) rfl rfl hl.1 rfl (lv_room (Nat.le_of_ble_eq_true rfl)) dX8_isOn_22 ⟨by omega, by omega⟩) hS (fun q _ h => h) (fun q h => h) (fun r H locs hw9 hz9 hk9 hS => ?_)
      obtain ⟨rfl, hP⟩ := hw9
      have hP : va_P D vwCl (mw cA A (upd (upd (x) 3 (nI (0))) 4 (nI (0))) (f)) H := hP
      have hD : va_D (MA A) (mw cA A (upd (upd (x) 3 (nI (0))) 4 (nI (0))) (f)) := mD hA
      refine g_if_ne (P := false = false) (tgt := 45) hx hb dX8_isOn_25 (by decide) b2i_0 (fun c_11 => ?_) (fun c_11 => ?_)
      · exact absurd c_11 (by decide)
      · refine lv_aload_n hx hb dX8_isOn_28 rfl (lv_at hl 0 rfl) ?_
        refine lv_iload_n hx hb dX8_isOn_29 rfl (lv_at hl 2 rfl) ?_
        refine lv_iconst (v := nI (2)) hx hb dX8_isOn_30 gc_2 ?_
        refine rd_calle (va_runV (As := [.int (nI (j_8)), .int (nI (2))]) (rest := []) ⟨hx, hb, hml, hown, hts⟩ (c_X8_of l D cA A (upd (upd (x) 3 (nI (0))) 4 (nI (0))) (f) (j_8) (2) (by omega)) (cwV 2 hts (gWV gm_14_3 gm_14_4 gm_14_5 gm_1_5 gm_14_6) rfl rfl rfl (by decide +kernel) ⟨Nat.le_of_ble_eq_true rfl, Nat.le_of_ble_eq_true rfl⟩) (gPreV hK (g_rf hK hP (ci := 10) (q0 := 0) rfl rfl) hP) rfl rfl hl.1 rfl (lv_room (Nat.le_of_ble_eq_true rfl)) dX8_isOn_31 ⟨by omega, by omega⟩) ?_
        refine lv_iload_n hx hb dX8_isOn_34 rfl (lv_at hl 1 rfl) ?_
        refine rd_calle (va_runS (As := [.int (gof (f 0) (j_8) (2)), .int (nI (j_3))]) (rest := []) ⟨hx, hb, hml, hown, hts⟩ (c_X8_has l D cA (gof (f 0) (j_8) (2)) (j_3)) (cwS 2 hts (gWS gm_14_10 gm_14_11 gm_1_5 gm_14_12) rfl rfl rfl (by decide +kernel) ⟨Nat.le_of_ble_eq_true rfl, Nat.le_of_ble_eq_true rfl⟩) (gPreS hK trivial) rfl rfl hl.1 rfl (lv_room (Nat.le_of_ble_eq_true rfl)) dX8_isOn_35 ⟨by omega, by omega⟩) ?_
        refine g_if_eq (P := hs (gof (f 0) (j_8) (2)) (j_3) = false) (tgt := 45) hx hb dX8_isOn_38 (by decide) b2i_0 (fun c_12 => ?_) (fun c_12 => ?_)
        · refine lv_iconst (v := nI (0)) hx hb dX8_isOn_45 gc_0 ?_
          exact g_zretW (v := nI (0)) hx hb hr hlk rfl hS dX8_isOn_46 (by have hq9v : v.toNatClampNeg = j_3 := (by rw [ej_4, nI_clamp (by omega)]); have hq9t : t.toNatClampNeg = j_8 := (by rw [ej_9, nI_clamp (by omega)]); rw [onM, hq9v, hq9t, if_pos c_1, if_pos c_6, if_neg (bnt c_12)]; exact ⟨rfl, hP⟩)
        · have c_12 : hs (gof (f 0) (j_8) (2)) (j_3) = true := eq_true_of_ne_false c_12
          refine lv_iconst (v := nI (1)) hx hb dX8_isOn_41 gc_1 ?_
          refine lv_goto (tgt := 46) hx hb dX8_isOn_42 (by decide) ?_
          exact g_zretW (v := nI (1)) hx hb hr hlk rfl hS dX8_isOn_46 (by have hq9v : v.toNatClampNeg = j_3 := (by rw [ej_4, nI_clamp (by omega)]); have hq9t : t.toNatClampNeg = j_8 := (by rw [ej_9, nI_clamp (by omega)]); rw [onM, hq9v, hq9t, if_pos c_1, if_pos c_6, if_pos c_12]; exact ⟨rfl, hP⟩)

set_option maxHeartbeats 1000000 in
set_option maxRecDepth 100000 in
theorem c_X8_roll (l : Launch) (D : va_G) (cA : Nat → ClassId) (A : Nat → Nat) (x : Nat → Int32) (f : Nat → Nat → Int32) (v : Int32) (z : Bool) (cn : Nat) (hA : mInj A) (hc : f 0 1 = nI cn) (hcn : cn ≤ 10) : Met l yX8_roll (gw yX8_roll cX8_roll 3 (some .int)) ({ frames := 4, cells := 0, slots := 0, locals := 91 } : Room) (gPc [.ref (A 0), .int (v), .int (b2i (z))] (fun H => va_P D vwCl (mw cA A x f) H) D cA) (wrI (fun r H => r = (roM x (f 0) cn v).1 ∧ va_P D vwCl (mw cA A (roM x (f 0) cn v).2 f) H) (MA A)) 0 0 (MA A) := by
  refine gOf (by decide) (Nat.le_of_ble_eq_true rfl) ?_
  intro p e s m below meth c ls hx hb hml hr hlk hown hts hnm hP hK hl
  have hl : lv_has ls 3 [(0, .ref (A 0)), (1, .int (v)), (2, .int (b2i (z)))] := hl
  have hD : va_D (MA A) (mw cA A x f) := mD hA
  have hS : va_S (MA A) s.heap s.heap [] := va_S.rf
  refine lv_aload_n hx hb dX8_roll_0 rfl (lv_at hl 0 rfl) ?_
  refine lv_aload_n hx hb dX8_roll_1 rfl (lv_at hl 0 rfl) ?_
  refine lv_iload_n hx hb dX8_roll_2 rfl (lv_at hl 1 rfl) ?_
  refine rd_calle (va_runV (As := [.int (v)]) (rest := [.ref (A 0)]) ⟨hx, hb, hml, hown, hts⟩ (c_X8_rolledAt l D cA A (x) (f) (v) cn hc hcn) (cwV 1 hts (gWV gm_24_2 gm_24_3 gm_24_4 gm_1_5 gm_24_5) rfl rfl rfl (by decide +kernel) ⟨Nat.le_of_ble_eq_true rfl, Nat.le_of_ble_eq_true rfl⟩) (gPreV hK (g_rf hK hP (ci := 10) (q0 := 0) rfl rfl) hP) rfl rfl hl.1 rfl (lv_room (Nat.le_of_ble_eq_true rfl)) dX8_roll_3 ⟨by omega, by omega⟩) ?_
  refine g_if_ge (P := raM (f 0) cn (v) ≠ none) (tgt := 13) hx hb dX8_roll_6 (by decide) (oI_ge (fun b q => by have := fnd_lt q; omega)) (fun c_1 => ?_) (fun c_1 => ?_)
  · refine lv_iconst (v := nI (0)) hx hb dX8_roll_13 gc_0 ?_
    refine wr_calli (va_runV (As := [.int (nI (0))]) (rest := []) ⟨hx, hb, hml, hown, hts⟩ (c_X8_fails l D cA A (x) (f) (0)  hA (by decide)) (cwV 1 hts (gWV gm_8_23 gm_9_0 gm_9_1 gm_1_5 gm_9_2) rfl rfl rfl (by decide +kernel) ⟨Nat.le_of_ble_eq_true rfl, Nat.le_of_ble_eq_true rfl⟩) (gPreV hK (g_rf hK hP (ci := 10) (q0 := 0) rfl rfl) hP) rfl rfl hl.1 rfl (lv_room (Nat.le_of_ble_eq_true rfl)) dX8_roll_14 ⟨by omega, by omega⟩) hS (fun q _ h => h) (fun q h => h) (fun r H locs hw9 hz9 hk9 hS => ?_)
    obtain ⟨rfl, hP⟩ := hw9
    have hP : va_P D vwCl (mw cA A (upd (upd (x) 3 (nI (0))) 4 (nI (0))) (f)) H := hP
    have hD : va_D (MA A) (mw cA A (upd (upd (x) 3 (nI (0))) 4 (nI (0))) (f)) := mD hA
    refine g_if_eq (P := false = false) (tgt := 24) hx hb dX8_roll_17 (by decide) b2i_0 (fun c_2 => ?_) (fun c_2 => ?_)
    · refine lv_aload_n hx hb dX8_roll_24 rfl (lv_at hl 0 rfl) ?_
      refine lv_iload_n hx hb dX8_roll_25 rfl (lv_at hl 1 rfl) ?_
      refine rd_calle (va_runV (As := [.int (v)]) (rest := []) ⟨hx, hb, hml, hown, hts⟩ (c_X8_rolledAt l D cA A (upd (upd (x) 3 (nI (0))) 4 (nI (0))) (f) (v) cn hc hcn) (cwV 1 hts (gWV gm_24_2 gm_24_3 gm_24_4 gm_1_5 gm_24_5) rfl rfl rfl (by decide +kernel) ⟨Nat.le_of_ble_eq_true rfl, Nat.le_of_ble_eq_true rfl⟩) (gPreV hK (g_rf hK hP (ci := 10) (q0 := 0) rfl rfl) hP) rfl rfl hl.1 rfl (lv_room (Nat.le_of_ble_eq_true rfl)) dX8_roll_26 ⟨by omega, by omega⟩) ?_
      exact g_iretW (v := oI (raM (f 0) cn (v))) hx hb hr hlk hS dX8_roll_29 (by rw [roM, if_neg c_1]; exact ⟨rfl, hP⟩)
    · exact absurd c_2 (by decide)
  · refine lv_iconst (v := nI (1)) hx hb dX8_roll_9 gc_1 ?_
    refine lv_goto (tgt := 14) hx hb dX8_roll_10 (by decide) ?_
    refine wr_calli (va_runV (As := [.int (nI (1))]) (rest := []) ⟨hx, hb, hml, hown, hts⟩ (c_X8_fails l D cA A (x) (f) (1)  hA (by decide)) (cwV 1 hts (gWV gm_8_23 gm_9_0 gm_9_1 gm_1_5 gm_9_2) rfl rfl rfl (by decide +kernel) ⟨Nat.le_of_ble_eq_true rfl, Nat.le_of_ble_eq_true rfl⟩) (gPreV hK (g_rf hK hP (ci := 10) (q0 := 0) rfl rfl) hP) rfl rfl hl.1 rfl (lv_room (Nat.le_of_ble_eq_true rfl)) dX8_roll_14 ⟨by omega, by omega⟩) hS (fun q _ h => h) (fun q h => h) (fun r H locs hw9 hz9 hk9 hS => ?_)
    obtain ⟨rfl, hP⟩ := hw9
    have hP : va_P D vwCl (mw cA A (upd (upd (x) 3 (nI (0))) 4 (nI (1))) (f)) H := hP
    have hD : va_D (MA A) (mw cA A (upd (upd (x) 3 (nI (0))) 4 (nI (1))) (f)) := mD hA
    refine g_if_eq (P := true = false) (tgt := 24) hx hb dX8_roll_17 (by decide) b2i_0 (fun c_3 => ?_) (fun c_3 => ?_)
    · exact absurd c_3 (by decide)
    · have c_3 : true = true := eq_true_of_ne_false c_3
      refine lv_iconst (v := nI (0)) hx hb dX8_roll_20 gc_0 ?_
      refine lv_goto (tgt := 29) hx hb dX8_roll_21 (by decide) ?_
      exact g_iretW (v := nI (0)) hx hb hr hlk hS dX8_roll_29 (by rw [roM, if_pos (Classical.not_not.mp c_1)]; exact ⟨rfl, hP⟩)

set_option maxHeartbeats 1000000 in
set_option maxRecDepth 100000 in
theorem c_X8_rolled (l : Launch) (D : va_G) (cA : Nat → ClassId) (A : Nat → Nat) (x : Nat → Int32) (f : Nat → Nat → Int32) (cn : Nat) (hA : mInj A) (hc : f 0 1 = nI cn) (hcn : cn ≤ 10) : Met l yX8_rolled (gw yX8_rolled cX8_rolled 1 (some .int)) ({ frames := 3, cells := 0, slots := 0, locals := 65 } : Room) (gPc [.ref (A 0)] (fun H => va_P D vwCl (mw cA A x f) H) D cA) (wrI (fun r H => r = nI (fb_ct (rlM (f 0)) cn) ∧ va_P D vwCl (mw cA A (upd x 4 (nI 0)) (f)) H) (MA A)) 0 0 (MA A) := by
  refine gOf (by decide) (Nat.le_of_ble_eq_true rfl) ?_
  intro p e s m below meth c ls hx hb hml hr hlk hown hts hnm hP hK hl
  have hl : lv_has ls 1 [(0, .ref (A 0))] := hl
  have hD : va_D (MA A) (mw cA A x f) := mD hA
  have hS : va_S (MA A) s.heap s.heap [] := va_S.rf
  refine lv_aload_n hx hb dX8_rolled_0 rfl (lv_at hl 0 rfl) ?_
  refine lv_iconst (v := nI (0)) hx hb dX8_rolled_1 gc_0 ?_
  refine g_put (ws' := mw cA A (upd (x) 4 (nI (0))) (f)) hx hb hts hown hK hP hD hS 0 rfl rfl gu_wsX80 tyX8_ok nmX8 8 (by decide) gm_9_3 rfl rfl rfl (Nat.le_of_ble_eq_true rfl) rfl dX8_rolled_2 (fun H locs hP hD hS => ?_)
  refine lv_aload_n hx hb dX8_rolled_5 rfl (lv_at hl 0 rfl) ?_
  refine rd_calle (va_runV (As := []) (rest := []) ⟨hx, hb, hml, hown, hts⟩ (c_X8_rolls l D cA A (upd (x) 4 (nI (0))) (f)  cn hc hcn) (cwV 0 hts (gWV gm_23_18 gm_23_19 gm_23_20 gm_1_5 gm_23_21) rfl rfl rfl (by decide +kernel) ⟨Nat.le_of_ble_eq_true rfl, Nat.le_of_ble_eq_true rfl⟩) (gPreV hK (g_rf hK hP (ci := 10) (q0 := 0) rfl rfl) hP) rfl rfl hl.1 rfl (lv_room (Nat.le_of_ble_eq_true rfl)) dX8_rolled_6 ⟨by omega, by omega⟩) ?_
  exact g_iretW (v := nI (fb_ct (rlM (f 0)) cn)) hx hb hr hlk hS dX8_rolled_9 (⟨rfl, hP⟩)

set_option maxHeartbeats 1000000 in
set_option maxRecDepth 100000 in
theorem c_X8_wouldTake (l : Launch) (D : va_G) (cA : Nat → ClassId) (A : Nat → Nat) (x : Nat → Int32) (f : Nat → Nat → Int32) (v : Int32) (cn clk ton : Nat) (hA : mInj A) (hc : f 0 1 = nI cn) (hcn : cn ≤ 10) (hclk : f 0 2 = nI clk) (hc1 : 1 ≤ clk) (hc4 : clk ≤ 4) (hton : f 0 3 = nI ton) (ht99 : ton ≤ 99) : Met l yX8_wouldTake (gw yX8_wouldTake cX8_wouldTake 3 (some .int)) ({ frames := 3, cells := 0, slots := 0, locals := 69 } : Room) (gPc [.ref (A 0), .int (v)] (fun H => va_P D vwCl (mw cA A x f) H) D cA) (wrI (fun r H => r = (wtM x (f 0) cn clk ton v).1 ∧ va_P D vwCl (mw cA A (wtM x (f 0) cn clk ton v).2 f) H) (MA A)) 0 0 (MA A) := by
  refine gOf (by decide) (Nat.le_of_ble_eq_true rfl) ?_
  intro p e s m below meth c ls hx hb hml hr hlk hown hts hnm hP hK hl
  have hl : lv_has ls 3 [(0, .ref (A 0)), (1, .int (v))] := hl
  have hD : va_D (MA A) (mw cA A x f) := mD hA
  have hS : va_S (MA A) s.heap s.heap [] := va_S.rf
  refine lv_aload_n hx hb dX8_wouldTake_0 rfl (lv_at hl 0 rfl) ?_
  refine lv_aload_n hx hb dX8_wouldTake_1 rfl (lv_at hl 0 rfl) ?_
  refine lv_iload_n hx hb dX8_wouldTake_2 rfl (lv_at hl 1 rfl) ?_
  refine rd_calle (va_runV (As := [.int (v)]) (rest := [.ref (A 0)]) ⟨hx, hb, hml, hown, hts⟩ (c_X8_isCase l D cA A (x) (f) (v) cn hc hcn) (cwV 1 hts (gWV gm_13_23 gm_14_0 gm_14_1 gm_1_5 gm_14_2) rfl rfl rfl (by decide +kernel) ⟨Nat.le_of_ble_eq_true rfl, Nat.le_of_ble_eq_true rfl⟩) (gPreV hK (g_rf hK hP (ci := 10) (q0 := 0) rfl rfl) hP) rfl rfl hl.1 rfl (lv_room (Nat.le_of_ble_eq_true rfl)) dX8_wouldTake_3 ⟨by omega, by omega⟩) ?_
  refine g_if_eq (P := isIx (v) cn = false) (tgt := 13) hx hb dX8_wouldTake_6 (by decide) b2i_0 (fun c_1 => ?_) (fun c_1 => ?_)
  · refine lv_iconst (v := nI (1)) hx hb dX8_wouldTake_13 gc_1 ?_
    refine wr_calli (va_runV (As := [.int (nI (1))]) (rest := []) ⟨hx, hb, hml, hown, hts⟩ (c_X8_fails l D cA A (x) (f) (1)  hA (by decide)) (cwV 1 hts (gWV gm_8_23 gm_9_0 gm_9_1 gm_1_5 gm_9_2) rfl rfl rfl (by decide +kernel) ⟨Nat.le_of_ble_eq_true rfl, Nat.le_of_ble_eq_true rfl⟩) (gPreV hK (g_rf hK hP (ci := 10) (q0 := 0) rfl rfl) hP) rfl rfl hl.1 rfl (lv_room (Nat.le_of_ble_eq_true rfl)) dX8_wouldTake_14 ⟨by omega, by omega⟩) hS (fun q _ h => h) (fun q h => h) (fun r H locs hw9 hz9 hk9 hS => ?_)
    obtain ⟨rfl, hP⟩ := hw9
    have hP : va_P D vwCl (mw cA A (upd (upd (x) 3 (nI (0))) 4 (nI (1))) (f)) H := hP
    have hD : va_D (MA A) (mw cA A (upd (upd (x) 3 (nI (0))) 4 (nI (1))) (f)) := mD hA
    refine g_if_eq (P := true = false) (tgt := 22) hx hb dX8_wouldTake_17 (by decide) b2i_0 (fun c_2 => ?_) (fun c_2 => ?_)
    · exact absurd c_2 (by decide)
    · have c_2 : true = true := eq_true_of_ne_false c_2
      refine lv_iconst (v := nI (0)) hx hb dX8_wouldTake_20 gc_0 ?_
      exact g_iretW (v := nI (0)) hx hb hr hlk hS dX8_wouldTake_21 (by rw [wtM, if_neg (bnt c_1)]; exact ⟨rfl, hP⟩)
  · have c_1 : isIx (v) cn = true := eq_true_of_ne_false c_1
    obtain ⟨j_3, hj_5, ej_4⟩ := isIx_n c_1 (by omega)
    rw [ej_4] at hl
    have hl : lv_has ls 3 [(0, .ref (A 0)), (1, .int (nI (j_3)))] := hl
    refine lv_iconst (v := nI (0)) hx hb dX8_wouldTake_9 gc_0 ?_
    refine lv_goto (tgt := 14) hx hb dX8_wouldTake_10 (by decide) ?_
    refine wr_calli (va_runV (As := [.int (nI (0))]) (rest := []) ⟨hx, hb, hml, hown, hts⟩ (c_X8_fails l D cA A (x) (f) (0)  hA (by decide)) (cwV 1 hts (gWV gm_8_23 gm_9_0 gm_9_1 gm_1_5 gm_9_2) rfl rfl rfl (by decide +kernel) ⟨Nat.le_of_ble_eq_true rfl, Nat.le_of_ble_eq_true rfl⟩) (gPreV hK (g_rf hK hP (ci := 10) (q0 := 0) rfl rfl) hP) rfl rfl hl.1 rfl (lv_room (Nat.le_of_ble_eq_true rfl)) dX8_wouldTake_14 ⟨by omega, by omega⟩) hS (fun q _ h => h) (fun q h => h) (fun r H locs hw9 hz9 hk9 hS => ?_)
    obtain ⟨rfl, hP⟩ := hw9
    have hP : va_P D vwCl (mw cA A (upd (upd (x) 3 (nI (0))) 4 (nI (0))) (f)) H := hP
    have hD : va_D (MA A) (mw cA A (upd (upd (x) 3 (nI (0))) 4 (nI (0))) (f)) := mD hA
    refine g_if_eq (P := false = false) (tgt := 22) hx hb dX8_wouldTake_17 (by decide) b2i_0 (fun c_6 => ?_) (fun c_6 => ?_)
    · refine lv_aload_n hx hb dX8_wouldTake_22 rfl (lv_at hl 0 rfl) ?_
      refine g_get (v := .ref (A 1)) hx hb hts hown hK hP 0 rfl rfl gu_wsX80 0 (by decide) gm_5_14 rfl dX8_wouldTake_23 ?_
      refine lv_iconst (v := nI (3)) hx hb dX8_wouldTake_26 gc_3 ?_
      refine g_iald (x := nI (ton)) hx hb hK hP 1 rfl (by omega) (by decide) hton dX8_wouldTake_27 ?_
      refine lv_iconst (v := nI (1)) hx hb dX8_wouldTake_28 gc_1 ?_
      refine g_iadd hx hb dX8_wouldTake_29 ?_
      refine lv_aload_n hx hb dX8_wouldTake_30 rfl (lv_at hl 0 rfl) ?_
      refine lv_iload_n hx hb dX8_wouldTake_31 rfl (lv_at hl 1 rfl) ?_
      refine rd_calle (va_runV (As := [.int (nI (j_3))]) (rest := [.int (nI (ton + 1))]) ⟨hx, hb, hml, hown, hts⟩ (c_X8_placeOf l D cA A (upd (upd (x) 3 (nI (0))) 4 (nI (0))) (f) (j_3) cn hc hcn (by omega)) (cwV 1 hts (gWV gm_24_6 gm_24_7 gm_24_8 gm_1_5 gm_24_9) rfl rfl rfl (by decide +kernel) ⟨Nat.le_of_ble_eq_true rfl, Nat.le_of_ble_eq_true rfl⟩) (gPreV hK (g_rf hK hP (ci := 10) (q0 := 0) rfl rfl) hP) rfl rfl hl.1 rfl (lv_room (Nat.le_of_ble_eq_true rfl)) dX8_wouldTake_32 ⟨by omega, by omega⟩) ?_
      have hle_7 : poM (f 0) cn (j_3) ≤ cn := fb_ct_le _ _
      have hle_8 := Nat.div_le_self (poM (f 0) cn (j_3)) clk
      refine lv_aload_n hx hb dX8_wouldTake_35 rfl (lv_at hl 0 rfl) ?_
      refine g_get (v := .ref (A 1)) hx hb hts hown hK hP 0 rfl rfl gu_wsX80 0 (by decide) gm_5_14 rfl dX8_wouldTake_36 ?_
      refine lv_iconst (v := nI (2)) hx hb dX8_wouldTake_39 gc_2 ?_
      refine g_iald (x := nI (clk)) hx hb hK hP 1 rfl (by omega) (by decide) hclk dX8_wouldTake_40 ?_
      refine g_idiv hx hb (by omega) (by omega) (by omega) dX8_wouldTake_41 ?_
      refine g_iadd hx hb dX8_wouldTake_42 ?_
      refine lv_istore_n (lv' := [(2, .int (nI ((ton + 1) + ((poM (f 0) cn (j_3)) / (clk))))), (0, .ref (A 0)), (1, .int (nI (j_3)))]) hx hb dX8_wouldTake_43 rfl hl (by decide) rfl (fun ls hl => ?_)
      refine lv_aload_n hx hb dX8_wouldTake_44 rfl (lv_at hl 1 rfl) ?_
      refine lv_aload_n hx hb dX8_wouldTake_45 rfl (lv_at hl 1 rfl) ?_
      refine lv_iload_n hx hb dX8_wouldTake_46 rfl (lv_at hl 2 rfl) ?_
      refine rd_calle (va_runV (As := [.int (nI (j_3))]) (rest := [.ref (A 0)]) ⟨hx, hb, hml, hown, hts⟩ (c_X8_isRolled l D cA A (upd (upd (x) 3 (nI (0))) 4 (nI (0))) (f) (j_3) (by omega)) (cwV 1 hts (gWV gm_23_22 gm_23_23 gm_24_0 gm_1_5 gm_24_1) rfl rfl rfl (by decide +kernel) ⟨Nat.le_of_ble_eq_true rfl, Nat.le_of_ble_eq_true rfl⟩) (gPreV hK (g_rf hK hP (ci := 10) (q0 := 0) rfl rfl) hP) rfl rfl hl.1 rfl (lv_room (Nat.le_of_ble_eq_true rfl)) dX8_wouldTake_47 ⟨by omega, by omega⟩) ?_
      refine g_if_eq (P := rlM (f 0) (j_3) = false) (tgt := 59) hx hb dX8_wouldTake_50 (by decide) b2i_0 (fun c_9 => ?_) (fun c_9 => ?_)
      · refine lv_iconst (v := nI (2)) hx hb dX8_wouldTake_59 gc_2 ?_
        refine lv_goto (tgt := 64) hx hb dX8_wouldTake_60 (by decide) ?_
        refine wr_calli (va_runV (As := [.int (nI (2))]) (rest := []) ⟨hx, hb, hml, hown, hts⟩ (c_X8_fails l D cA A (upd (upd (x) 3 (nI (0))) 4 (nI (0))) (f) (2)  hA (by decide)) (cwV 1 hts (gWV gm_8_23 gm_9_0 gm_9_1 gm_1_5 gm_9_2) rfl rfl rfl (by decide +kernel) ⟨Nat.le_of_ble_eq_true rfl, Nat.le_of_ble_eq_true rfl⟩) (gPreV hK (g_rf hK hP (ci := 10) (q0 := 0) rfl rfl) hP) rfl rfl hl.1 rfl (lv_room (Nat.le_of_ble_eq_true rfl)) dX8_wouldTake_64 ⟨by omega, by omega⟩) hS (fun q _ h => h) (fun q h => h) (fun r H locs hw9 hz9 hk9 hS => ?_)
        obtain ⟨rfl, hP⟩ := hw9
        have hP : va_P D vwCl (mw cA A (upd (upd (x) 3 (nI (0))) 4 (nI (2))) (f)) H := hP
        have hD : va_D (MA A) (mw cA A (upd (upd (x) 3 (nI (0))) 4 (nI (2))) (f)) := mD hA
        refine g_if_eq (P := true = false) (tgt := 74) hx hb dX8_wouldTake_67 (by decide) b2i_0 (fun c_10 => ?_) (fun c_10 => ?_)
        · exact absurd c_10 (by decide)
        · have c_10 : true = true := eq_true_of_ne_false c_10
          refine lv_iconst (v := nI (0)) hx hb dX8_wouldTake_70 gc_0 ?_
          refine lv_goto (tgt := 75) hx hb dX8_wouldTake_71 (by decide) ?_
          exact g_iretW (v := nI (0)) hx hb hr hlk hS dX8_wouldTake_75 (by have hq9v : v.toNatClampNeg = j_3 := (by rw [ej_4, nI_clamp (by omega)]); rw [wtM, hq9v, if_pos c_1, if_neg (bnt c_9)]; exact ⟨rfl, hP⟩)
      · have c_9 : rlM (f 0) (j_3) = true := eq_true_of_ne_false c_9
        refine lv_iload_n hx hb dX8_wouldTake_53 rfl (lv_at hl 0 rfl) ?_
        refine lv_bipush (v := nI (99)) hx hb dX8_wouldTake_54 gb_99 ?_
        refine g_icmp_le (P := (ton + 1) + ((poM (f 0) cn (j_3)) / (clk)) ≤ 99) (tgt := 63) hx hb dX8_wouldTake_56 (by decide) (nI_leI (by omega) (by omega)) (fun c_11 => ?_) (fun c_11 => ?_)
        · have d_11 : ¬ 99 < (ton + 1) + ((poM (f 0) cn (j_3)) / (clk)) := Nat.not_lt.mpr c_11
          refine lv_iconst (v := nI (0)) hx hb dX8_wouldTake_63 gc_0 ?_
          refine wr_calli (va_runV (As := [.int (nI (0))]) (rest := []) ⟨hx, hb, hml, hown, hts⟩ (c_X8_fails l D cA A (upd (upd (x) 3 (nI (0))) 4 (nI (0))) (f) (0)  hA (by decide)) (cwV 1 hts (gWV gm_8_23 gm_9_0 gm_9_1 gm_1_5 gm_9_2) rfl rfl rfl (by decide +kernel) ⟨Nat.le_of_ble_eq_true rfl, Nat.le_of_ble_eq_true rfl⟩) (gPreV hK (g_rf hK hP (ci := 10) (q0 := 0) rfl rfl) hP) rfl rfl hl.1 rfl (lv_room (Nat.le_of_ble_eq_true rfl)) dX8_wouldTake_64 ⟨by omega, by omega⟩) hS (fun q _ h => h) (fun q h => h) (fun r H locs hw9 hz9 hk9 hS => ?_)
          obtain ⟨rfl, hP⟩ := hw9
          have hP : va_P D vwCl (mw cA A (upd (upd (x) 3 (nI (0))) 4 (nI (0))) (f)) H := hP
          have hD : va_D (MA A) (mw cA A (upd (upd (x) 3 (nI (0))) 4 (nI (0))) (f)) := mD hA
          refine g_if_eq (P := false = false) (tgt := 74) hx hb dX8_wouldTake_67 (by decide) b2i_0 (fun c_12 => ?_) (fun c_12 => ?_)
          · refine lv_iload_n hx hb dX8_wouldTake_74 rfl (lv_at hl 0 rfl) ?_
            exact g_iretW (v := nI ((ton + 1) + ((poM (f 0) cn (j_3)) / (clk)))) hx hb hr hlk hS dX8_wouldTake_75 (by have hq9v : v.toNatClampNeg = j_3 := (by rw [ej_4, nI_clamp (by omega)]); rw [wtM, hq9v, if_pos c_1, if_pos c_9, if_pos c_11]; exact ⟨rfl, hP⟩)
          · exact absurd c_12 (by decide)
        · have d_11 : 99 < (ton + 1) + ((poM (f 0) cn (j_3)) / (clk)) := Nat.not_le.mp c_11
          refine lv_iconst (v := nI (2)) hx hb dX8_wouldTake_59 gc_2 ?_
          refine lv_goto (tgt := 64) hx hb dX8_wouldTake_60 (by decide) ?_
          refine wr_calli (va_runV (As := [.int (nI (2))]) (rest := []) ⟨hx, hb, hml, hown, hts⟩ (c_X8_fails l D cA A (upd (upd (x) 3 (nI (0))) 4 (nI (0))) (f) (2)  hA (by decide)) (cwV 1 hts (gWV gm_8_23 gm_9_0 gm_9_1 gm_1_5 gm_9_2) rfl rfl rfl (by decide +kernel) ⟨Nat.le_of_ble_eq_true rfl, Nat.le_of_ble_eq_true rfl⟩) (gPreV hK (g_rf hK hP (ci := 10) (q0 := 0) rfl rfl) hP) rfl rfl hl.1 rfl (lv_room (Nat.le_of_ble_eq_true rfl)) dX8_wouldTake_64 ⟨by omega, by omega⟩) hS (fun q _ h => h) (fun q h => h) (fun r H locs hw9 hz9 hk9 hS => ?_)
          obtain ⟨rfl, hP⟩ := hw9
          have hP : va_P D vwCl (mw cA A (upd (upd (x) 3 (nI (0))) 4 (nI (2))) (f)) H := hP
          have hD : va_D (MA A) (mw cA A (upd (upd (x) 3 (nI (0))) 4 (nI (2))) (f)) := mD hA
          refine g_if_eq (P := true = false) (tgt := 74) hx hb dX8_wouldTake_67 (by decide) b2i_0 (fun c_13 => ?_) (fun c_13 => ?_)
          · exact absurd c_13 (by decide)
          · have c_13 : true = true := eq_true_of_ne_false c_13
            refine lv_iconst (v := nI (0)) hx hb dX8_wouldTake_70 gc_0 ?_
            refine lv_goto (tgt := 75) hx hb dX8_wouldTake_71 (by decide) ?_
            exact g_iretW (v := nI (0)) hx hb hr hlk hS dX8_wouldTake_75 (by have hq9v : v.toNatClampNeg = j_3 := (by rw [ej_4, nI_clamp (by omega)]); rw [wtM, hq9v, if_pos c_1, if_pos c_9, if_neg c_11]; exact ⟨rfl, hP⟩)
    · exact absurd c_6 (by decide)

set_option maxHeartbeats 1000000 in
set_option maxRecDepth 100000 in
theorem c_X8_overdue (l : Launch) (D : va_G) (cA : Nat → ClassId) (A : Nat → Nat) (x : Nat → Int32) (f : Nat → Nat → Int32) (cn : Nat) (hA : mInj A) (hc : f 0 1 = nI cn) (hcn : cn ≤ 10) : Met l yX8_overdue (gw yX8_overdue cX8_overdue 3 (some .int)) ({ frames := 2, cells := 0, slots := 0, locals := 43 } : Room) (gPc [.ref (A 0)] (fun H => va_P D vwCl (mw cA A x f) H) D cA) (wrI (fun r H => r = nI (odM (f 0) cn) ∧ va_P D vwCl (mw cA A (upd x 4 (nI 0)) (f)) H) (MA A)) 0 0 (MA A) := by
  refine gOf (by decide) (Nat.le_of_ble_eq_true rfl) ?_
  intro p e s m below meth c ls hx hb hml hr hlk hown hts hnm hP hK hl
  have hl : lv_has ls 3 [(0, .ref (A 0))] := hl
  have hD : va_D (MA A) (mw cA A x f) := mD hA
  have hS : va_S (MA A) s.heap s.heap [] := va_S.rf
  refine lv_aload_n hx hb dX8_overdue_0 rfl (lv_at hl 0 rfl) ?_
  refine lv_iconst (v := nI (0)) hx hb dX8_overdue_1 gc_0 ?_
  refine g_put (ws' := mw cA A (upd (x) 4 (nI (0))) (f)) hx hb hts hown hK hP hD hS 0 rfl rfl gu_wsX80 tyX8_ok nmX8 8 (by decide) gm_9_3 rfl rfl rfl (Nat.le_of_ble_eq_true rfl) rfl dX8_overdue_2 (fun H locs hP hD hS => ?_)
  refine lv_iconst (v := nI (0)) hx hb dX8_overdue_5 gc_0 ?_
  refine lv_istore_n (lv' := [(1, .int (nI (0))), (0, .ref (A 0))]) hx hb dX8_overdue_6 rfl hl (by decide) rfl (fun ls hl => ?_)
  refine lv_iconst (v := nI (0)) hx hb dX8_overdue_7 gc_0 ?_
  refine lv_istore_n (lv' := [(2, .int (nI (0))), (1, .int (nI (0))), (0, .ref (A 0))]) hx hb dX8_overdue_8 rfl hl (by decide) rfl (fun ls hl => ?_)
  have LP_5 : ∀ (n_2 i_1 : Nat) (x_3 x_4 : Int32), i_1 ≤ cn → cn + 1 ≤ i_1 + n_2 → x_3 = nI (i_1) → x_4 = nI (fb_ct (fun k => rlM (f 0) k && decide (¬ f 0 3 ≤ gof (f 0) k 1)) i_1) → ∀ (ls : Array Slot), lv_has ls 3 [(2, .int (x_3)), (1, .int (x_4)), (0, .ref (A 0))] → W p l e ({ frames := 2, cells := 0, slots := 0, locals := 43 } : Room) s m ([.ref (A 0)] : List Value).toArray below meth c H locs 0 0 (MQ below (wrI (fun r H => r = nI (odM (f 0) cn) ∧ va_P D vwCl (mw cA A (upd x 4 (nI 0)) (f)) H) (MA A)) ([.ref (A 0)] : List Value).toArray s 0 0 (MA A)) (F0 m 9 ls []) := by
    intro n_2
    induction n_2 with
    | zero => intro i_1 x_3 x_4 h1 h2; exact absurd h2 (by omega)
    | succ n_2 ih_8 =>
      intro i_1 x_3 x_4 h_9 h_10 e_6 e_7  ls hl
      subst e_6
      subst e_7
      refine lv_iload_n hx hb dX8_overdue_9 rfl (lv_at hl 0 rfl) ?_
      refine lv_aload_n hx hb dX8_overdue_10 rfl (lv_at hl 2 rfl) ?_
      refine g_get (v := .ref (A 1)) hx hb hts hown hK hP 0 rfl rfl gu_wsX80 0 (by decide) gm_5_14 rfl dX8_overdue_11 ?_
      refine lv_iconst (v := nI (1)) hx hb dX8_overdue_14 gc_1 ?_
      refine g_iald (x := nI (cn)) hx hb hK hP 1 rfl (by omega) (by decide) hc dX8_overdue_15 ?_
      refine g_icmp_ge (P := cn ≤ i_1) (tgt := 56) hx hb dX8_overdue_16 (by decide) (nI_leI (by omega) (by omega)) (fun c_11 => ?_) (fun c_11 => ?_)
      · have d_11 : ¬ i_1 < cn := Nat.not_lt.mpr c_11
        have hN_12 : cn = i_1 := by omega
        subst hN_12
        refine lv_iload_n hx hb dX8_overdue_56 rfl (lv_at hl 1 rfl) ?_
        exact g_iretW (v := nI (fb_ct (fun k => rlM (f 0) k && decide (¬ f 0 3 ≤ gof (f 0) k 1)) (cn))) hx hb hr hlk hS dX8_overdue_57 (⟨rfl, hP⟩)
      · have d_11 : i_1 < cn := Nat.not_le.mp c_11
        refine lv_iload_n hx hb dX8_overdue_19 rfl (lv_at hl 1 rfl) ?_
        refine lv_aload_n hx hb dX8_overdue_20 rfl (lv_at hl 2 rfl) ?_
        refine lv_iload_n hx hb dX8_overdue_21 rfl (lv_at hl 0 rfl) ?_
        refine rd_calle (va_runV (As := [.int (nI (i_1))]) (rest := [.int (nI (fb_ct (fun k => rlM (f 0) k && decide (¬ f 0 3 ≤ gof (f 0) k 1)) i_1))]) ⟨hx, hb, hml, hown, hts⟩ (c_X8_isRolled l D cA A (upd (x) 4 (nI (0))) (f) (i_1) (by omega)) (cwV 1 hts (gWV gm_23_22 gm_23_23 gm_24_0 gm_1_5 gm_24_1) rfl rfl rfl (by decide +kernel) ⟨Nat.le_of_ble_eq_true rfl, Nat.le_of_ble_eq_true rfl⟩) (gPreV hK (g_rf hK hP (ci := 10) (q0 := 0) rfl rfl) hP) rfl rfl hl.1 rfl (lv_room (Nat.le_of_ble_eq_true rfl)) dX8_overdue_22 ⟨by omega, by omega⟩) ?_
        refine g_if_eq (P := rlM (f 0) (i_1) = false) (tgt := 47) hx hb dX8_overdue_25 (by decide) b2i_0 (fun c_13 => ?_) (fun c_13 => ?_)
        · refine lv_iconst (v := nI (0)) hx hb dX8_overdue_47 gc_0 ?_
          refine g_iadd hx hb dX8_overdue_48 ?_
          refine lv_istore_n (lv' := [(1, .int (nI ((fb_ct (fun k => rlM (f 0) k && decide (¬ f 0 3 ≤ gof (f 0) k 1)) i_1) + (0)))), (2, .int (nI (i_1))), (0, .ref (A 0))]) hx hb dX8_overdue_49 rfl hl (by decide) rfl (fun ls hl => ?_)
          refine lv_iinc (v := nI (i_1 + 1)) (lv' := [(2, .int (nI (i_1 + 1))), (1, .int (nI ((fb_ct (fun k => rlM (f 0) k && decide (¬ f 0 3 ≤ gof (f 0) k 1)) i_1) + (0)))), (0, .ref (A 0))]) hx hb dX8_overdue_50 hl (k := 1) rfl (inc_1 _) (by decide) rfl (fun ls hl => ?_)
          refine lv_goto (tgt := 9) hx hb dX8_overdue_53 (by decide) ?_
          exact ih_8 (i_1 + 1) _ _ (by omega) (by omega) rfl (by simp [fb_ct_succ, c_11, d_11, c_13])  ls (lv_sub hl [0, 1, 2] rfl)
        · have c_13 : rlM (f 0) (i_1) = true := eq_true_of_ne_false c_13
          refine lv_aload_n hx hb dX8_overdue_28 rfl (lv_at hl 2 rfl) ?_
          refine lv_iload_n hx hb dX8_overdue_29 rfl (lv_at hl 0 rfl) ?_
          refine lv_iconst (v := nI (1)) hx hb dX8_overdue_30 gc_1 ?_
          refine rd_calle (va_runV (As := [.int (nI (i_1)), .int (nI (1))]) (rest := [.int (nI (fb_ct (fun k => rlM (f 0) k && decide (¬ f 0 3 ≤ gof (f 0) k 1)) i_1))]) ⟨hx, hb, hml, hown, hts⟩ (c_X8_of l D cA A (upd (x) 4 (nI (0))) (f) (i_1) (1) (by omega)) (cwV 2 hts (gWV gm_14_3 gm_14_4 gm_14_5 gm_1_5 gm_14_6) rfl rfl rfl (by decide +kernel) ⟨Nat.le_of_ble_eq_true rfl, Nat.le_of_ble_eq_true rfl⟩) (gPreV hK (g_rf hK hP (ci := 10) (q0 := 0) rfl rfl) hP) rfl rfl hl.1 rfl (lv_room (Nat.le_of_ble_eq_true rfl)) dX8_overdue_31 ⟨by omega, by omega⟩) ?_
          refine lv_aload_n hx hb dX8_overdue_34 rfl (lv_at hl 2 rfl) ?_
          refine g_get (v := .ref (A 1)) hx hb hts hown hK hP 0 rfl rfl gu_wsX80 0 (by decide) gm_5_14 rfl dX8_overdue_35 ?_
          refine lv_iconst (v := nI (3)) hx hb dX8_overdue_38 gc_3 ?_
          refine g_iald (x := f 0 (3)) hx hb hK hP 1 rfl (by omega) (by decide) rfl dX8_overdue_39 ?_
          refine g_icmp_ge (P := f 0 (3) ≤ gof (f 0) (i_1) (1)) (tgt := 47) hx hb dX8_overdue_40 (by decide) Iff.rfl (fun c_14 => ?_) (fun c_14 => ?_)
          · have d_14 : ¬ gof (f 0) (i_1) (1) < f 0 (3) := Int32.not_lt.mpr c_14
            refine lv_iconst (v := nI (0)) hx hb dX8_overdue_47 gc_0 ?_
            refine g_iadd hx hb dX8_overdue_48 ?_
            refine lv_istore_n (lv' := [(1, .int (nI ((fb_ct (fun k => rlM (f 0) k && decide (¬ f 0 3 ≤ gof (f 0) k 1)) i_1) + (0)))), (2, .int (nI (i_1))), (0, .ref (A 0))]) hx hb dX8_overdue_49 rfl hl (by decide) rfl (fun ls hl => ?_)
            refine lv_iinc (v := nI (i_1 + 1)) (lv' := [(2, .int (nI (i_1 + 1))), (1, .int (nI ((fb_ct (fun k => rlM (f 0) k && decide (¬ f 0 3 ≤ gof (f 0) k 1)) i_1) + (0)))), (0, .ref (A 0))]) hx hb dX8_overdue_50 hl (k := 1) rfl (inc_1 _) (by decide) rfl (fun ls hl => ?_)
            refine lv_goto (tgt := 9) hx hb dX8_overdue_53 (by decide) ?_
            exact ih_8 (i_1 + 1) _ _ (by omega) (by omega) rfl (by simp [fb_ct_succ, c_11, d_11, c_13, c_14, d_14])  ls (lv_sub hl [0, 1, 2] rfl)
          · have d_14 : gof (f 0) (i_1) (1) < f 0 (3) := Int32.not_le.mp c_14
            refine lv_iconst (v := nI (1)) hx hb dX8_overdue_43 gc_1 ?_
            refine lv_goto (tgt := 48) hx hb dX8_overdue_44 (by decide) ?_
            refine g_iadd hx hb dX8_overdue_48 ?_
            refine lv_istore_n (lv' := [(1, .int (nI ((fb_ct (fun k => rlM (f 0) k && decide (¬ f 0 3 ≤ gof (f 0) k 1)) i_1) + (1)))), (2, .int (nI (i_1))), (0, .ref (A 0))]) hx hb dX8_overdue_49 rfl hl (by decide) rfl (fun ls hl => ?_)
            refine lv_iinc (v := nI (i_1 + 1)) (lv' := [(2, .int (nI (i_1 + 1))), (1, .int (nI ((fb_ct (fun k => rlM (f 0) k && decide (¬ f 0 3 ≤ gof (f 0) k 1)) i_1) + (1)))), (0, .ref (A 0))]) hx hb dX8_overdue_50 hl (k := 1) rfl (inc_1 _) (by decide) rfl (fun ls hl => ?_)
            refine lv_goto (tgt := 9) hx hb dX8_overdue_53 (by decide) ?_
            exact ih_8 (i_1 + 1) _ _ (by omega) (by omega) rfl (by simp [fb_ct_succ, c_11, d_11, c_13, c_14, d_14])  ls (lv_sub hl [0, 1, 2] rfl)
  exact LP_5 (cn + 1) 0 _ _ (by omega) (by omega) rfl rfl  ls (lv_sub hl [0, 1, 2] rfl)

set_option maxHeartbeats 1000000 in
set_option maxRecDepth 100000 in
theorem c_X8_termFrom (l : Launch) (D : va_G) (cA : Nat → ClassId) (A : Nat → Nat) (x : Nat → Int32) (f : Nat → Nat → Int32) (v : Int32) (cn : Nat) (hA : mInj A) (hc : f 0 1 = nI cn) (hcn : cn ≤ 10) : Met l yX8_termFrom (gw yX8_termFrom cX8_termFrom 4 (some .int)) ({ frames := 2, cells := 0, slots := 0, locals := 43 } : Room) (gPc [.ref (A 0), .int (v)] (fun H => va_P D vwCl (mw cA A x f) H) D cA) (wrI (fun r H => r = (tmO x (f 0) cn v).1 ∧ va_P D vwCl (mw cA A (tmO x (f 0) cn v).2 f) H) (MA A)) 0 0 (MA A) := by
  refine gOf (by decide) (Nat.le_of_ble_eq_true rfl) ?_
  intro p e s m below meth c ls hx hb hml hr hlk hown hts hnm hP hK hl
  have hl : lv_has ls 4 [(0, .ref (A 0)), (1, .int (v))] := hl
  have hD : va_D (MA A) (mw cA A x f) := mD hA
  have hS : va_S (MA A) s.heap s.heap [] := va_S.rf
  refine lv_aload_n hx hb dX8_termFrom_0 rfl (lv_at hl 0 rfl) ?_
  refine lv_iload_n hx hb dX8_termFrom_1 rfl (lv_at hl 1 rfl) ?_
  refine lv_iconst (v := nI (0)) hx hb dX8_termFrom_2 gc_0 ?_
  refine lv_bipush (v := nI (99)) hx hb dX8_termFrom_3 gb_99 ?_
  refine rd_calle (va_runS (As := [.int (v), .int (nI (0)), .int (nI (99))]) (rest := [.ref (A 0)]) ⟨hx, hb, hml, hown, hts⟩ (c_X8_in l D cA (v) (nI (0)) (nI (99))) (cwS 3 hts (gWS gm_8_20 gm_8_21 gm_1_5 gm_8_22) rfl rfl rfl (by decide +kernel) ⟨Nat.le_of_ble_eq_true rfl, Nat.le_of_ble_eq_true rfl⟩) (gPreS hK trivial) rfl rfl hl.1 rfl (lv_room (Nat.le_of_ble_eq_true rfl)) dX8_termFrom_5 ⟨by omega, by omega⟩) ?_
  refine g_if_eq (P := inB (v) (nI (0)) (nI (99)) = false) (tgt := 15) hx hb dX8_termFrom_8 (by decide) b2i_0 (fun c_1 => ?_) (fun c_1 => ?_)
  · refine lv_iconst (v := nI (1)) hx hb dX8_termFrom_15 gc_1 ?_
    refine wr_calli (va_runV (As := [.int (nI (1))]) (rest := []) ⟨hx, hb, hml, hown, hts⟩ (c_X8_fails l D cA A (x) (f) (1)  hA (by decide)) (cwV 1 hts (gWV gm_8_23 gm_9_0 gm_9_1 gm_1_5 gm_9_2) rfl rfl rfl (by decide +kernel) ⟨Nat.le_of_ble_eq_true rfl, Nat.le_of_ble_eq_true rfl⟩) (gPreV hK (g_rf hK hP (ci := 10) (q0 := 0) rfl rfl) hP) rfl rfl hl.1 rfl (lv_room (Nat.le_of_ble_eq_true rfl)) dX8_termFrom_16 ⟨by omega, by omega⟩) hS (fun q _ h => h) (fun q h => h) (fun r H locs hw9 hz9 hk9 hS => ?_)
    obtain ⟨rfl, hP⟩ := hw9
    have hP : va_P D vwCl (mw cA A (upd (upd (x) 3 (nI (0))) 4 (nI (1))) (f)) H := hP
    have hD : va_D (MA A) (mw cA A (upd (upd (x) 3 (nI (0))) 4 (nI (1))) (f)) := mD hA
    refine g_if_eq (P := true = false) (tgt := 24) hx hb dX8_termFrom_19 (by decide) b2i_0 (fun c_2 => ?_) (fun c_2 => ?_)
    · exact absurd c_2 (by decide)
    · have c_2 : true = true := eq_true_of_ne_false c_2
      refine lv_iconst (v := nI (0)) hx hb dX8_termFrom_22 gc_0 ?_
      exact g_iretW (v := nI (0)) hx hb hr hlk hS dX8_termFrom_23 (by rw [tmO, if_neg (bnt c_1)]; exact ⟨rfl, hP⟩)
  · have c_1 : inB (v) (nI (0)) (nI (99)) = true := eq_true_of_ne_false c_1
    refine lv_iconst (v := nI (0)) hx hb dX8_termFrom_11 gc_0 ?_
    refine lv_goto (tgt := 16) hx hb dX8_termFrom_12 (by decide) ?_
    refine wr_calli (va_runV (As := [.int (nI (0))]) (rest := []) ⟨hx, hb, hml, hown, hts⟩ (c_X8_fails l D cA A (x) (f) (0)  hA (by decide)) (cwV 1 hts (gWV gm_8_23 gm_9_0 gm_9_1 gm_1_5 gm_9_2) rfl rfl rfl (by decide +kernel) ⟨Nat.le_of_ble_eq_true rfl, Nat.le_of_ble_eq_true rfl⟩) (gPreV hK (g_rf hK hP (ci := 10) (q0 := 0) rfl rfl) hP) rfl rfl hl.1 rfl (lv_room (Nat.le_of_ble_eq_true rfl)) dX8_termFrom_16 ⟨by omega, by omega⟩) hS (fun q _ h => h) (fun q h => h) (fun r H locs hw9 hz9 hk9 hS => ?_)
    obtain ⟨rfl, hP⟩ := hw9
    have hP : va_P D vwCl (mw cA A (upd (upd (x) 3 (nI (0))) 4 (nI (0))) (f)) H := hP
    have hD : va_D (MA A) (mw cA A (upd (upd (x) 3 (nI (0))) 4 (nI (0))) (f)) := mD hA
    refine g_if_eq (P := false = false) (tgt := 24) hx hb dX8_termFrom_19 (by decide) b2i_0 (fun c_3 => ?_) (fun c_3 => ?_)
    · refine lv_iconst (v := -1) hx hb dX8_termFrom_24 gc_m1 ?_
      refine lv_istore_n (lv' := [(2, .int (-1)), (0, .ref (A 0)), (1, .int (v))]) hx hb dX8_termFrom_25 rfl hl (by decide) rfl (fun ls hl => ?_)
      refine lv_iconst (v := nI (0)) hx hb dX8_termFrom_26 gc_0 ?_
      refine lv_istore_n (lv' := [(3, .int (nI (0))), (2, .int (-1)), (0, .ref (A 0)), (1, .int (v))]) hx hb dX8_termFrom_27 rfl hl (by decide) rfl (fun ls hl => ?_)
      have LP_8 : ∀ (n_5 i_4 : Nat) (x_6 x_7 : Int32), i_4 ≤ cn → cn + 1 ≤ i_4 + n_5 → x_6 = nI (i_4) → x_7 = tfM (f 0) v i_4 → ∀ (ls : Array Slot), lv_has ls 4 [(3, .int (x_6)), (2, .int (x_7)), (0, .ref (A 0)), (1, .int (v))] → W p l e ({ frames := 2, cells := 0, slots := 0, locals := 43 } : Room) s m ([.ref (A 0), .int (v)] : List Value).toArray below meth c H locs 0 0 (MQ below (wrI (fun r H => r = (tmO x (f 0) cn v).1 ∧ va_P D vwCl (mw cA A (tmO x (f 0) cn v).2 f) H) (MA A)) ([.ref (A 0), .int (v)] : List Value).toArray s 0 0 (MA A)) (F0 m 28 ls []) := by
        intro n_5
        induction n_5 with
        | zero => intro i_4 x_6 x_7 h1 h2; exact absurd h2 (by omega)
        | succ n_5 ih_11 =>
          intro i_4 x_6 x_7 h_12 h_13 e_9 e_10  ls hl
          subst e_9
          subst e_10
          refine lv_iload_n hx hb dX8_termFrom_28 rfl (lv_at hl 0 rfl) ?_
          refine lv_aload_n hx hb dX8_termFrom_29 rfl (lv_at hl 2 rfl) ?_
          refine g_get (v := .ref (A 1)) hx hb hts hown hK hP 0 rfl rfl gu_wsX80 0 (by decide) gm_5_14 rfl dX8_termFrom_30 ?_
          refine lv_iconst (v := nI (1)) hx hb dX8_termFrom_33 gc_1 ?_
          refine g_iald (x := nI (cn)) hx hb hK hP 1 rfl (by omega) (by decide) hc dX8_termFrom_34 ?_
          refine g_icmp_ge (P := cn ≤ i_4) (tgt := 83) hx hb dX8_termFrom_35 (by decide) (nI_leI (by omega) (by omega)) (fun c_14 => ?_) (fun c_14 => ?_)
          · have d_14 : ¬ i_4 < cn := Nat.not_lt.mpr c_14
            have hN_15 : cn = i_4 := by omega
            subst hN_15
            refine lv_aload_n hx hb dX8_termFrom_83 rfl (lv_at hl 2 rfl) ?_
            refine lv_iload_n hx hb dX8_termFrom_84 rfl (lv_at hl 1 rfl) ?_
            refine g_if_ge (P := 0 ≤ tfM (f 0) v (cn)) (tgt := 92) hx hb dX8_termFrom_85 (by decide) Iff.rfl (fun c_16 => ?_) (fun c_16 => ?_)
            · have d_16 : ¬ tfM (f 0) v (cn) < 0 := Int32.not_lt.mpr c_16
              refine lv_iconst (v := nI (0)) hx hb dX8_termFrom_92 gc_0 ?_
              refine wr_calli (va_runV (As := [.int (nI (0))]) (rest := []) ⟨hx, hb, hml, hown, hts⟩ (c_X8_fails l D cA A (upd (upd (x) 3 (nI (0))) 4 (nI (0))) (f) (0)  hA (by decide)) (cwV 1 hts (gWV gm_8_23 gm_9_0 gm_9_1 gm_1_5 gm_9_2) rfl rfl rfl (by decide +kernel) ⟨Nat.le_of_ble_eq_true rfl, Nat.le_of_ble_eq_true rfl⟩) (gPreV hK (g_rf hK hP (ci := 10) (q0 := 0) rfl rfl) hP) rfl rfl hl.1 rfl (lv_room (Nat.le_of_ble_eq_true rfl)) dX8_termFrom_93 ⟨by omega, by omega⟩) hS (fun q _ h => h) (fun q h => h) (fun r H locs hw9 hz9 hk9 hS => ?_)
              obtain ⟨rfl, hP⟩ := hw9
              have hP : va_P D vwCl (mw cA A (upd (upd (x) 3 (nI (0))) 4 (nI (0))) (f)) H := hP
              have hD : va_D (MA A) (mw cA A (upd (upd (x) 3 (nI (0))) 4 (nI (0))) (f)) := mD hA
              refine g_if_eq (P := false = false) (tgt := 103) hx hb dX8_termFrom_96 (by decide) b2i_0 (fun c_17 => ?_) (fun c_17 => ?_)
              · refine lv_iload_n hx hb dX8_termFrom_103 rfl (lv_at hl 1 rfl) ?_
                exact g_iretW (v := tfM (f 0) v (cn)) hx hb hr hlk hS dX8_termFrom_104 (by rw [tmO, if_pos c_1, if_pos c_16]; exact ⟨rfl, hP⟩)
              · exact absurd c_17 (by decide)
            · have d_16 : tfM (f 0) v (cn) < 0 := Int32.not_le.mp c_16
              refine lv_iconst (v := nI (2)) hx hb dX8_termFrom_88 gc_2 ?_
              refine lv_goto (tgt := 93) hx hb dX8_termFrom_89 (by decide) ?_
              refine wr_calli (va_runV (As := [.int (nI (2))]) (rest := []) ⟨hx, hb, hml, hown, hts⟩ (c_X8_fails l D cA A (upd (upd (x) 3 (nI (0))) 4 (nI (0))) (f) (2)  hA (by decide)) (cwV 1 hts (gWV gm_8_23 gm_9_0 gm_9_1 gm_1_5 gm_9_2) rfl rfl rfl (by decide +kernel) ⟨Nat.le_of_ble_eq_true rfl, Nat.le_of_ble_eq_true rfl⟩) (gPreV hK (g_rf hK hP (ci := 10) (q0 := 0) rfl rfl) hP) rfl rfl hl.1 rfl (lv_room (Nat.le_of_ble_eq_true rfl)) dX8_termFrom_93 ⟨by omega, by omega⟩) hS (fun q _ h => h) (fun q h => h) (fun r H locs hw9 hz9 hk9 hS => ?_)
              obtain ⟨rfl, hP⟩ := hw9
              have hP : va_P D vwCl (mw cA A (upd (upd (x) 3 (nI (0))) 4 (nI (2))) (f)) H := hP
              have hD : va_D (MA A) (mw cA A (upd (upd (x) 3 (nI (0))) 4 (nI (2))) (f)) := mD hA
              refine g_if_eq (P := true = false) (tgt := 103) hx hb dX8_termFrom_96 (by decide) b2i_0 (fun c_18 => ?_) (fun c_18 => ?_)
              · exact absurd c_18 (by decide)
              · have c_18 : true = true := eq_true_of_ne_false c_18
                refine lv_iconst (v := nI (0)) hx hb dX8_termFrom_99 gc_0 ?_
                refine lv_goto (tgt := 104) hx hb dX8_termFrom_100 (by decide) ?_
                exact g_iretW (v := nI (0)) hx hb hr hlk hS dX8_termFrom_104 (by rw [tmO, if_pos c_1, if_neg c_16]; exact ⟨rfl, hP⟩)
          · have d_14 : i_4 < cn := Nat.not_le.mp c_14
            refine lv_aload_n hx hb dX8_termFrom_38 rfl (lv_at hl 2 rfl) ?_
            refine lv_iload_n hx hb dX8_termFrom_39 rfl (lv_at hl 0 rfl) ?_
            refine rd_calle (va_runV (As := [.int (nI (i_4))]) (rest := []) ⟨hx, hb, hml, hown, hts⟩ (c_X8_isRolled l D cA A (upd (upd (x) 3 (nI (0))) 4 (nI (0))) (f) (i_4) (by omega)) (cwV 1 hts (gWV gm_23_22 gm_23_23 gm_24_0 gm_1_5 gm_24_1) rfl rfl rfl (by decide +kernel) ⟨Nat.le_of_ble_eq_true rfl, Nat.le_of_ble_eq_true rfl⟩) (gPreV hK (g_rf hK hP (ci := 10) (q0 := 0) rfl rfl) hP) rfl rfl hl.1 rfl (lv_room (Nat.le_of_ble_eq_true rfl)) dX8_termFrom_40 ⟨by omega, by omega⟩) ?_
            refine g_if_eq (P := rlM (f 0) (i_4) = false) (tgt := 77) hx hb dX8_termFrom_43 (by decide) b2i_0 (fun c_19 => ?_) (fun c_19 => ?_)
            · refine lv_iinc (v := nI (i_4 + 1)) (lv' := [(3, .int (nI (i_4 + 1))), (2, .int (tfM (f 0) v i_4)), (0, .ref (A 0)), (1, .int (v))]) hx hb dX8_termFrom_77 hl (k := 0) rfl (inc_1 _) (by decide) rfl (fun ls hl => ?_)
              refine lv_goto (tgt := 28) hx hb dX8_termFrom_80 (by decide) ?_
              exact ih_11 (i_4 + 1) _ _ (by omega) (by omega) rfl (by simp [tfM, c_14, d_14, c_19])  ls (lv_sub hl [0, 1, 2, 3] rfl)
            · have c_19 : rlM (f 0) (i_4) = true := eq_true_of_ne_false c_19
              refine lv_aload_n hx hb dX8_termFrom_46 rfl (lv_at hl 2 rfl) ?_
              refine lv_iload_n hx hb dX8_termFrom_47 rfl (lv_at hl 0 rfl) ?_
              refine lv_iconst (v := nI (1)) hx hb dX8_termFrom_48 gc_1 ?_
              refine rd_calle (va_runV (As := [.int (nI (i_4)), .int (nI (1))]) (rest := []) ⟨hx, hb, hml, hown, hts⟩ (c_X8_of l D cA A (upd (upd (x) 3 (nI (0))) 4 (nI (0))) (f) (i_4) (1) (by omega)) (cwV 2 hts (gWV gm_14_3 gm_14_4 gm_14_5 gm_1_5 gm_14_6) rfl rfl rfl (by decide +kernel) ⟨Nat.le_of_ble_eq_true rfl, Nat.le_of_ble_eq_true rfl⟩) (gPreV hK (g_rf hK hP (ci := 10) (q0 := 0) rfl rfl) hP) rfl rfl hl.1 rfl (lv_room (Nat.le_of_ble_eq_true rfl)) dX8_termFrom_49 ⟨by omega, by omega⟩) ?_
              refine lv_iload_n hx hb dX8_termFrom_52 rfl (lv_at hl 3 rfl) ?_
              refine g_icmp_lt (P := gof (f 0) (i_4) (1) < v) (tgt := 77) hx hb dX8_termFrom_53 (by decide) Iff.rfl (fun c_20 => ?_) (fun c_20 => ?_)
              · have d_20 : ¬ v ≤ gof (f 0) (i_4) (1) := Int32.not_le.mpr c_20
                refine lv_iinc (v := nI (i_4 + 1)) (lv' := [(3, .int (nI (i_4 + 1))), (2, .int (tfM (f 0) v i_4)), (0, .ref (A 0)), (1, .int (v))]) hx hb dX8_termFrom_77 hl (k := 0) rfl (inc_1 _) (by decide) rfl (fun ls hl => ?_)
                refine lv_goto (tgt := 28) hx hb dX8_termFrom_80 (by decide) ?_
                exact ih_11 (i_4 + 1) _ _ (by omega) (by omega) rfl (by simp [tfM, c_14, d_14, c_19, c_20, d_20])  ls (lv_sub hl [0, 1, 2, 3] rfl)
              · have d_20 : v ≤ gof (f 0) (i_4) (1) := Int32.not_lt.mp c_20
                refine lv_iload_n hx hb dX8_termFrom_56 rfl (lv_at hl 1 rfl) ?_
                refine g_if_lt (P := tfM (f 0) v i_4 < 0) (tgt := 70) hx hb dX8_termFrom_57 (by decide) Iff.rfl (fun c_21 => ?_) (fun c_21 => ?_)
                · have d_21 : ¬ 0 ≤ tfM (f 0) v i_4 := Int32.not_le.mpr c_21
                  refine lv_aload_n hx hb dX8_termFrom_70 rfl (lv_at hl 2 rfl) ?_
                  refine lv_iload_n hx hb dX8_termFrom_71 rfl (lv_at hl 0 rfl) ?_
                  refine lv_iconst (v := nI (1)) hx hb dX8_termFrom_72 gc_1 ?_
                  refine rd_calle (va_runV (As := [.int (nI (i_4)), .int (nI (1))]) (rest := []) ⟨hx, hb, hml, hown, hts⟩ (c_X8_of l D cA A (upd (upd (x) 3 (nI (0))) 4 (nI (0))) (f) (i_4) (1) (by omega)) (cwV 2 hts (gWV gm_14_3 gm_14_4 gm_14_5 gm_1_5 gm_14_6) rfl rfl rfl (by decide +kernel) ⟨Nat.le_of_ble_eq_true rfl, Nat.le_of_ble_eq_true rfl⟩) (gPreV hK (g_rf hK hP (ci := 10) (q0 := 0) rfl rfl) hP) rfl rfl hl.1 rfl (lv_room (Nat.le_of_ble_eq_true rfl)) dX8_termFrom_73 ⟨by omega, by omega⟩) ?_
                  refine lv_istore_n (lv' := [(2, .int (gof (f 0) (i_4) (1))), (3, .int (nI (i_4))), (0, .ref (A 0)), (1, .int (v))]) hx hb dX8_termFrom_76 rfl hl (by decide) rfl (fun ls hl => ?_)
                  refine lv_iinc (v := nI (i_4 + 1)) (lv' := [(3, .int (nI (i_4 + 1))), (2, .int (gof (f 0) (i_4) (1))), (0, .ref (A 0)), (1, .int (v))]) hx hb dX8_termFrom_77 hl (k := 1) rfl (inc_1 _) (by decide) rfl (fun ls hl => ?_)
                  refine lv_goto (tgt := 28) hx hb dX8_termFrom_80 (by decide) ?_
                  exact ih_11 (i_4 + 1) _ _ (by omega) (by omega) rfl (by simp [tfM, c_14, d_14, c_19, c_20, d_20, c_21, d_21])  ls (lv_sub hl [0, 1, 2, 3] rfl)
                · have d_21 : 0 ≤ tfM (f 0) v i_4 := Int32.not_lt.mp c_21
                  refine lv_aload_n hx hb dX8_termFrom_60 rfl (lv_at hl 2 rfl) ?_
                  refine lv_iload_n hx hb dX8_termFrom_61 rfl (lv_at hl 0 rfl) ?_
                  refine lv_iconst (v := nI (1)) hx hb dX8_termFrom_62 gc_1 ?_
                  refine rd_calle (va_runV (As := [.int (nI (i_4)), .int (nI (1))]) (rest := []) ⟨hx, hb, hml, hown, hts⟩ (c_X8_of l D cA A (upd (upd (x) 3 (nI (0))) 4 (nI (0))) (f) (i_4) (1) (by omega)) (cwV 2 hts (gWV gm_14_3 gm_14_4 gm_14_5 gm_1_5 gm_14_6) rfl rfl rfl (by decide +kernel) ⟨Nat.le_of_ble_eq_true rfl, Nat.le_of_ble_eq_true rfl⟩) (gPreV hK (g_rf hK hP (ci := 10) (q0 := 0) rfl rfl) hP) rfl rfl hl.1 rfl (lv_room (Nat.le_of_ble_eq_true rfl)) dX8_termFrom_63 ⟨by omega, by omega⟩) ?_
                  refine lv_iload_n hx hb dX8_termFrom_66 rfl (lv_at hl 1 rfl) ?_
                  refine g_icmp_ge (P := tfM (f 0) v i_4 ≤ gof (f 0) (i_4) (1)) (tgt := 77) hx hb dX8_termFrom_67 (by decide) Iff.rfl (fun c_22 => ?_) (fun c_22 => ?_)
                  · have d_22 : ¬ gof (f 0) (i_4) (1) < tfM (f 0) v i_4 := Int32.not_lt.mpr c_22
                    refine lv_iinc (v := nI (i_4 + 1)) (lv' := [(3, .int (nI (i_4 + 1))), (2, .int (tfM (f 0) v i_4)), (0, .ref (A 0)), (1, .int (v))]) hx hb dX8_termFrom_77 hl (k := 0) rfl (inc_1 _) (by decide) rfl (fun ls hl => ?_)
                    refine lv_goto (tgt := 28) hx hb dX8_termFrom_80 (by decide) ?_
                    exact ih_11 (i_4 + 1) _ _ (by omega) (by omega) rfl (by simp [tfM, c_14, d_14, c_19, c_20, d_20, c_21, d_21, c_22, d_22])  ls (lv_sub hl [0, 1, 2, 3] rfl)
                  · have d_22 : gof (f 0) (i_4) (1) < tfM (f 0) v i_4 := Int32.not_le.mp c_22
                    refine lv_aload_n hx hb dX8_termFrom_70 rfl (lv_at hl 2 rfl) ?_
                    refine lv_iload_n hx hb dX8_termFrom_71 rfl (lv_at hl 0 rfl) ?_
                    refine lv_iconst (v := nI (1)) hx hb dX8_termFrom_72 gc_1 ?_
                    refine rd_calle (va_runV (As := [.int (nI (i_4)), .int (nI (1))]) (rest := []) ⟨hx, hb, hml, hown, hts⟩ (c_X8_of l D cA A (upd (upd (x) 3 (nI (0))) 4 (nI (0))) (f) (i_4) (1) (by omega)) (cwV 2 hts (gWV gm_14_3 gm_14_4 gm_14_5 gm_1_5 gm_14_6) rfl rfl rfl (by decide +kernel) ⟨Nat.le_of_ble_eq_true rfl, Nat.le_of_ble_eq_true rfl⟩) (gPreV hK (g_rf hK hP (ci := 10) (q0 := 0) rfl rfl) hP) rfl rfl hl.1 rfl (lv_room (Nat.le_of_ble_eq_true rfl)) dX8_termFrom_73 ⟨by omega, by omega⟩) ?_
                    refine lv_istore_n (lv' := [(2, .int (gof (f 0) (i_4) (1))), (3, .int (nI (i_4))), (0, .ref (A 0)), (1, .int (v))]) hx hb dX8_termFrom_76 rfl hl (by decide) rfl (fun ls hl => ?_)
                    refine lv_iinc (v := nI (i_4 + 1)) (lv' := [(3, .int (nI (i_4 + 1))), (2, .int (gof (f 0) (i_4) (1))), (0, .ref (A 0)), (1, .int (v))]) hx hb dX8_termFrom_77 hl (k := 1) rfl (inc_1 _) (by decide) rfl (fun ls hl => ?_)
                    refine lv_goto (tgt := 28) hx hb dX8_termFrom_80 (by decide) ?_
                    exact ih_11 (i_4 + 1) _ _ (by omega) (by omega) rfl (by simp [tfM, c_14, d_14, c_19, c_20, d_20, c_21, d_21, c_22, d_22])  ls (lv_sub hl [0, 1, 2, 3] rfl)
      exact LP_8 (cn + 1) 0 _ _ (by omega) (by omega) rfl rfl  ls (lv_sub hl [0, 1, 2, 3] rfl)
    · exact absurd c_3 (by decide)

set_option maxHeartbeats 1000000 in
set_option maxRecDepth 100000 in
theorem c_X8_finalIn (l : Launch) (D : va_G) (cA : Nat → ClassId) (A : Nat → Nat) (x : Nat → Int32) (f : Nat → Nat → Int32) (v : Int32) (cn : Nat) (hA : mInj A) (hc : f 0 1 = nI cn) (hcn : cn ≤ 10) : Met l yX8_finalIn (gw yX8_finalIn cX8_finalIn 2 (some .int)) ({ frames := 2, cells := 0, slots := 0, locals := 43 } : Room) (gPc [.ref (A 0), .int (v)] (fun H => va_P D vwCl (mw cA A x f) H) D cA) (wrI (fun r H => r = (fiM x (f 0) cn v).1 ∧ va_P D vwCl (mw cA A (fiM x (f 0) cn v).2 f) H) (MA A)) 0 0 (MA A) := by
  refine gOf (by decide) (Nat.le_of_ble_eq_true rfl) ?_
  intro p e s m below meth c ls hx hb hml hr hlk hown hts hnm hP hK hl
  have hl : lv_has ls 2 [(0, .ref (A 0)), (1, .int (v))] := hl
  have hD : va_D (MA A) (mw cA A x f) := mD hA
  have hS : va_S (MA A) s.heap s.heap [] := va_S.rf
  refine lv_aload_n hx hb dX8_finalIn_0 rfl (lv_at hl 0 rfl) ?_
  refine lv_aload_n hx hb dX8_finalIn_1 rfl (lv_at hl 0 rfl) ?_
  refine lv_iload_n hx hb dX8_finalIn_2 rfl (lv_at hl 1 rfl) ?_
  refine rd_calle (va_runV (As := [.int (v)]) (rest := [.ref (A 0)]) ⟨hx, hb, hml, hown, hts⟩ (c_X8_isCase l D cA A (x) (f) (v) cn hc hcn) (cwV 1 hts (gWV gm_13_23 gm_14_0 gm_14_1 gm_1_5 gm_14_2) rfl rfl rfl (by decide +kernel) ⟨Nat.le_of_ble_eq_true rfl, Nat.le_of_ble_eq_true rfl⟩) (gPreV hK (g_rf hK hP (ci := 10) (q0 := 0) rfl rfl) hP) rfl rfl hl.1 rfl (lv_room (Nat.le_of_ble_eq_true rfl)) dX8_finalIn_3 ⟨by omega, by omega⟩) ?_
  refine g_if_ne (P := isIx (v) cn = false) (tgt := 13) hx hb dX8_finalIn_6 (by decide) b2i_0 (fun c_1 => ?_) (fun c_1 => ?_)
  · have c_1 : isIx (v) cn = true := eq_true_of_ne_false c_1
    obtain ⟨j_2, hj_4, ej_3⟩ := isIx_n c_1 (by omega)
    rw [ej_3] at hl
    have hl : lv_has ls 2 [(0, .ref (A 0)), (1, .int (nI (j_2)))] := hl
    refine lv_aload_n hx hb dX8_finalIn_13 rfl (lv_at hl 0 rfl) ?_
    refine lv_iload_n hx hb dX8_finalIn_14 rfl (lv_at hl 1 rfl) ?_
    refine lv_iconst (v := nI (3)) hx hb dX8_finalIn_15 gc_3 ?_
    refine rd_calle (va_runV (As := [.int (nI (j_2)), .int (nI (3))]) (rest := [.ref (A 0)]) ⟨hx, hb, hml, hown, hts⟩ (c_X8_of l D cA A (x) (f) (j_2) (3) (by omega)) (cwV 2 hts (gWV gm_14_3 gm_14_4 gm_14_5 gm_1_5 gm_14_6) rfl rfl rfl (by decide +kernel) ⟨Nat.le_of_ble_eq_true rfl, Nat.le_of_ble_eq_true rfl⟩) (gPreV hK (g_rf hK hP (ci := 10) (q0 := 0) rfl rfl) hP) rfl rfl hl.1 rfl (lv_room (Nat.le_of_ble_eq_true rfl)) dX8_finalIn_16 ⟨by omega, by omega⟩) ?_
    refine g_if_ne (P := gof (f 0) (j_2) (3) = 0) (tgt := 26) hx hb dX8_finalIn_19 (by decide) Iff.rfl (fun c_5 => ?_) (fun c_5 => ?_)
    · refine lv_iconst (v := nI (0)) hx hb dX8_finalIn_26 gc_0 ?_
      refine wr_calli (va_runV (As := [.int (nI (0))]) (rest := []) ⟨hx, hb, hml, hown, hts⟩ (c_X8_fails l D cA A (x) (f) (0)  hA (by decide)) (cwV 1 hts (gWV gm_8_23 gm_9_0 gm_9_1 gm_1_5 gm_9_2) rfl rfl rfl (by decide +kernel) ⟨Nat.le_of_ble_eq_true rfl, Nat.le_of_ble_eq_true rfl⟩) (gPreV hK (g_rf hK hP (ci := 10) (q0 := 0) rfl rfl) hP) rfl rfl hl.1 rfl (lv_room (Nat.le_of_ble_eq_true rfl)) dX8_finalIn_27 ⟨by omega, by omega⟩) hS (fun q _ h => h) (fun q h => h) (fun r H locs hw9 hz9 hk9 hS => ?_)
      obtain ⟨rfl, hP⟩ := hw9
      have hP : va_P D vwCl (mw cA A (upd (upd (x) 3 (nI (0))) 4 (nI (0))) (f)) H := hP
      have hD : va_D (MA A) (mw cA A (upd (upd (x) 3 (nI (0))) 4 (nI (0))) (f)) := mD hA
      refine g_if_eq (P := false = false) (tgt := 35) hx hb dX8_finalIn_30 (by decide) b2i_0 (fun c_6 => ?_) (fun c_6 => ?_)
      · refine lv_aload_n hx hb dX8_finalIn_35 rfl (lv_at hl 0 rfl) ?_
        refine lv_iload_n hx hb dX8_finalIn_36 rfl (lv_at hl 1 rfl) ?_
        refine rd_calle (va_runV (As := [.int (nI (j_2))]) (rest := []) ⟨hx, hb, hml, hown, hts⟩ (c_X8_isClosed l D cA A (upd (upd (x) 3 (nI (0))) 4 (nI (0))) (f) (j_2) (by omega)) (cwV 1 hts (gWV gm_14_17 gm_14_18 gm_14_19 gm_1_5 gm_14_20) rfl rfl rfl (by decide +kernel) ⟨Nat.le_of_ble_eq_true rfl, Nat.le_of_ble_eq_true rfl⟩) (gPreV hK (g_rf hK hP (ci := 10) (q0 := 0) rfl rfl) hP) rfl rfl hl.1 rfl (lv_room (Nat.le_of_ble_eq_true rfl)) dX8_finalIn_37 ⟨by omega, by omega⟩) ?_
        refine g_if_eq (P := clM (f 0) (j_2) = false) (tgt := 52) hx hb dX8_finalIn_40 (by decide) b2i_0 (fun c_7 => ?_) (fun c_7 => ?_)
        · refine lv_aload_n hx hb dX8_finalIn_52 rfl (lv_at hl 0 rfl) ?_
          refine lv_iload_n hx hb dX8_finalIn_53 rfl (lv_at hl 1 rfl) ?_
          refine lv_iconst (v := nI (4)) hx hb dX8_finalIn_54 gc_4 ?_
          refine rd_calle (va_runV (As := [.int (nI (j_2)), .int (nI (4))]) (rest := []) ⟨hx, hb, hml, hown, hts⟩ (c_X8_of l D cA A (upd (upd (x) 3 (nI (0))) 4 (nI (0))) (f) (j_2) (4) (by omega)) (cwV 2 hts (gWV gm_14_3 gm_14_4 gm_14_5 gm_1_5 gm_14_6) rfl rfl rfl (by decide +kernel) ⟨Nat.le_of_ble_eq_true rfl, Nat.le_of_ble_eq_true rfl⟩) (gPreV hK (g_rf hK hP (ci := 10) (q0 := 0) rfl rfl) hP) rfl rfl hl.1 rfl (lv_room (Nat.le_of_ble_eq_true rfl)) dX8_finalIn_55 ⟨by omega, by omega⟩) ?_
          refine lv_iconst (v := nI (4)) hx hb dX8_finalIn_58 gc_4 ?_
          refine lv_iadd hx hb dX8_finalIn_59 ?_
          exact g_iretW (v := (gof (f 0) (j_2) (4)) + (nI (4))) hx hb hr hlk hS dX8_finalIn_60 (by have hq9v : v.toNatClampNeg = j_2 := (by rw [ej_3, nI_clamp (by omega)]); rw [fiM, hq9v, if_pos c_1, if_neg c_5, if_neg (bnt c_7)]; exact ⟨rfl, hP⟩)
        · have c_7 : clM (f 0) (j_2) = true := eq_true_of_ne_false c_7
          refine lv_aload_n hx hb dX8_finalIn_43 rfl (lv_at hl 0 rfl) ?_
          refine lv_iload_n hx hb dX8_finalIn_44 rfl (lv_at hl 1 rfl) ?_
          refine lv_iconst (v := nI (5)) hx hb dX8_finalIn_45 gc_5 ?_
          refine rd_calle (va_runV (As := [.int (nI (j_2)), .int (nI (5))]) (rest := []) ⟨hx, hb, hml, hown, hts⟩ (c_X8_of l D cA A (upd (upd (x) 3 (nI (0))) 4 (nI (0))) (f) (j_2) (5) (by omega)) (cwV 2 hts (gWV gm_14_3 gm_14_4 gm_14_5 gm_1_5 gm_14_6) rfl rfl rfl (by decide +kernel) ⟨Nat.le_of_ble_eq_true rfl, Nat.le_of_ble_eq_true rfl⟩) (gPreV hK (g_rf hK hP (ci := 10) (q0 := 0) rfl rfl) hP) rfl rfl hl.1 rfl (lv_room (Nat.le_of_ble_eq_true rfl)) dX8_finalIn_46 ⟨by omega, by omega⟩) ?_
          refine lv_goto (tgt := 60) hx hb dX8_finalIn_49 (by decide) ?_
          exact g_iretW (v := gof (f 0) (j_2) (5)) hx hb hr hlk hS dX8_finalIn_60 (by have hq9v : v.toNatClampNeg = j_2 := (by rw [ej_3, nI_clamp (by omega)]); rw [fiM, hq9v, if_pos c_1, if_neg c_5, if_pos c_7]; exact ⟨rfl, hP⟩)
      · exact absurd c_6 (by decide)
    · refine lv_iconst (v := nI (2)) hx hb dX8_finalIn_22 gc_2 ?_
      refine lv_goto (tgt := 27) hx hb dX8_finalIn_23 (by decide) ?_
      refine wr_calli (va_runV (As := [.int (nI (2))]) (rest := []) ⟨hx, hb, hml, hown, hts⟩ (c_X8_fails l D cA A (x) (f) (2)  hA (by decide)) (cwV 1 hts (gWV gm_8_23 gm_9_0 gm_9_1 gm_1_5 gm_9_2) rfl rfl rfl (by decide +kernel) ⟨Nat.le_of_ble_eq_true rfl, Nat.le_of_ble_eq_true rfl⟩) (gPreV hK (g_rf hK hP (ci := 10) (q0 := 0) rfl rfl) hP) rfl rfl hl.1 rfl (lv_room (Nat.le_of_ble_eq_true rfl)) dX8_finalIn_27 ⟨by omega, by omega⟩) hS (fun q _ h => h) (fun q h => h) (fun r H locs hw9 hz9 hk9 hS => ?_)
      obtain ⟨rfl, hP⟩ := hw9
      have hP : va_P D vwCl (mw cA A (upd (upd (x) 3 (nI (0))) 4 (nI (2))) (f)) H := hP
      have hD : va_D (MA A) (mw cA A (upd (upd (x) 3 (nI (0))) 4 (nI (2))) (f)) := mD hA
      refine g_if_eq (P := true = false) (tgt := 35) hx hb dX8_finalIn_30 (by decide) b2i_0 (fun c_8 => ?_) (fun c_8 => ?_)
      · exact absurd c_8 (by decide)
      · have c_8 : true = true := eq_true_of_ne_false c_8
        refine lv_iconst (v := nI (0)) hx hb dX8_finalIn_33 gc_0 ?_
        exact g_iretW (v := nI (0)) hx hb hr hlk hS dX8_finalIn_34 (by have hq9v : v.toNatClampNeg = j_2 := (by rw [ej_3, nI_clamp (by omega)]); rw [fiM, hq9v, if_pos c_1, if_pos c_5]; exact ⟨rfl, hP⟩)
  · refine lv_iconst (v := nI (1)) hx hb dX8_finalIn_9 gc_1 ?_
    refine lv_goto (tgt := 27) hx hb dX8_finalIn_10 (by decide) ?_
    refine wr_calli (va_runV (As := [.int (nI (1))]) (rest := []) ⟨hx, hb, hml, hown, hts⟩ (c_X8_fails l D cA A (x) (f) (1)  hA (by decide)) (cwV 1 hts (gWV gm_8_23 gm_9_0 gm_9_1 gm_1_5 gm_9_2) rfl rfl rfl (by decide +kernel) ⟨Nat.le_of_ble_eq_true rfl, Nat.le_of_ble_eq_true rfl⟩) (gPreV hK (g_rf hK hP (ci := 10) (q0 := 0) rfl rfl) hP) rfl rfl hl.1 rfl (lv_room (Nat.le_of_ble_eq_true rfl)) dX8_finalIn_27 ⟨by omega, by omega⟩) hS (fun q _ h => h) (fun q h => h) (fun r H locs hw9 hz9 hk9 hS => ?_)
    obtain ⟨rfl, hP⟩ := hw9
    have hP : va_P D vwCl (mw cA A (upd (upd (x) 3 (nI (0))) 4 (nI (1))) (f)) H := hP
    have hD : va_D (MA A) (mw cA A (upd (upd (x) 3 (nI (0))) 4 (nI (1))) (f)) := mD hA
    refine g_if_eq (P := true = false) (tgt := 35) hx hb dX8_finalIn_30 (by decide) b2i_0 (fun c_9 => ?_) (fun c_9 => ?_)
    · exact absurd c_9 (by decide)
    · have c_9 : true = true := eq_true_of_ne_false c_9
      refine lv_iconst (v := nI (0)) hx hb dX8_finalIn_33 gc_0 ?_
      exact g_iretW (v := nI (0)) hx hb hr hlk hS dX8_finalIn_34 (by rw [fiM, if_neg (bnt c_1)]; exact ⟨rfl, hP⟩)

set_option maxHeartbeats 1000000 in
set_option maxRecDepth 100000 in
theorem c_X8_doubtful (l : Launch) (D : va_G) (cA : Nat → ClassId) (A : Nat → Nat) (x : Nat → Int32) (f : Nat → Nat → Int32) (v : Int32) (jn : Nat) (hA : mInj A) (hj : f 0 0 = nI jn) (hjn : jn ≤ 9) : Met l yX8_doubtful (gw yX8_doubtful cX8_doubtful 5 (some .int)) ({ frames := 2, cells := 0, slots := 0, locals := 46 } : Room) (gPc [.ref (A 0), .int (v)] (fun H => va_P D vwCl (mw cA A x f) H) D cA) (wrI (fun r H => r = (dfM x (f 0) jn v).1 ∧ va_P D vwCl (mw cA A (dfM x (f 0) jn v).2 f) H) (MA A)) 0 0 (MA A) := by
  refine gOf (by decide) (Nat.le_of_ble_eq_true rfl) ?_
  intro p e s m below meth c ls hx hb hml hr hlk hown hts hnm hP hK hl
  have hl : lv_has ls 5 [(0, .ref (A 0)), (1, .int (v))] := hl
  have hD : va_D (MA A) (mw cA A x f) := mD hA
  have hS : va_S (MA A) s.heap s.heap [] := va_S.rf
  refine lv_iconst (v := nI (0)) hx hb dX8_doubtful_0 gc_0 ?_
  refine lv_istore_n (lv' := [(2, .int (nI (0))), (0, .ref (A 0)), (1, .int (v))]) hx hb dX8_doubtful_1 rfl hl (by decide) rfl (fun ls hl => ?_)
  have LP_4 : ∀ (n_2 i_1 : Nat) (x_3 : Int32), i_1 ≤ jn → jn + 1 ≤ i_1 + n_2 → x_3 = nI (i_1) → fnd (fun k => decide (nI (fb_ct (fun o => mdM (f 0) o k) jn) = v)) (i_1) = none → ∀ (ls : Array Slot), lv_has ls 5 [(2, .int (x_3)), (0, .ref (A 0)), (1, .int (v))] → W p l e ({ frames := 2, cells := 0, slots := 0, locals := 46 } : Room) s m ([.ref (A 0), .int (v)] : List Value).toArray below meth c s.heap [] 0 0 (MQ below (wrI (fun r H => r = (dfM x (f 0) jn v).1 ∧ va_P D vwCl (mw cA A (dfM x (f 0) jn v).2 f) H) (MA A)) ([.ref (A 0), .int (v)] : List Value).toArray s 0 0 (MA A)) (F0 m 2 ls []) := by
    intro n_2
    induction n_2 with
    | zero => intro i_1 x_3 h1 h2; exact absurd h2 (by omega)
    | succ n_2 ih_6 =>
      intro i_1 x_3 h_7 h_8 e_5 hv ls hl
      subst e_5
      refine lv_iload_n hx hb dX8_doubtful_2 rfl (lv_at hl 0 rfl) ?_
      refine lv_aload_n hx hb dX8_doubtful_3 rfl (lv_at hl 1 rfl) ?_
      refine g_get (v := .ref (A 1)) hx hb hts hown hK hP 0 rfl rfl gu_wsX80 0 (by decide) gm_5_14 rfl dX8_doubtful_4 ?_
      refine lv_iconst (v := nI (0)) hx hb dX8_doubtful_7 gc_0 ?_
      refine g_iald (x := nI (jn)) hx hb hK hP 1 rfl (by omega) (by decide) hj dX8_doubtful_8 ?_
      refine g_icmp_ge (P := jn ≤ i_1) (tgt := 73) hx hb dX8_doubtful_9 (by decide) (nI_leI (by omega) (by omega)) (fun c_9 => ?_) (fun c_9 => ?_)
      · have d_9 : ¬ i_1 < jn := Nat.not_lt.mpr c_9
        have hN_10 : jn = i_1 := by omega
        subst hN_10
        refine lv_aload_n hx hb dX8_doubtful_73 rfl (lv_at hl 1 rfl) ?_
        refine lv_iconst (v := nI (1)) hx hb dX8_doubtful_74 gc_1 ?_
        refine g_put (ws' := mw cA A (upd (x) 4 (nI (1))) (f)) hx hb hts hown hK hP hD hS 0 rfl rfl gu_wsX80 tyX8_ok nmX8 8 (by decide) gm_9_3 rfl rfl rfl (Nat.le_of_ble_eq_true rfl) rfl dX8_doubtful_75 (fun H locs hP hD hS => ?_)
        refine lv_iconst (v := nI (0)) hx hb dX8_doubtful_78 gc_0 ?_
        exact g_iretW (v := nI (0)) hx hb hr hlk hS dX8_doubtful_79 (by rw [dfM, hv]; exact ⟨rfl, hP⟩)
      · have d_9 : i_1 < jn := Nat.not_le.mp c_9
        refine lv_iconst (v := nI (0)) hx hb dX8_doubtful_12 gc_0 ?_
        refine lv_istore_n (lv' := [(3, .int (nI (0))), (2, .int (nI (i_1))), (0, .ref (A 0)), (1, .int (v))]) hx hb dX8_doubtful_13 rfl hl (by decide) rfl (fun ls hl => ?_)
        refine lv_iconst (v := nI (0)) hx hb dX8_doubtful_14 gc_0 ?_
        refine lv_istore (lv' := [(4, .int (nI (0))), (3, .int (nI (0))), (2, .int (nI (i_1))), (0, .ref (A 0)), (1, .int (v))]) hx hb dX8_doubtful_15 hl (by decide) rfl (fun ls hl => ?_)
        have LP_15 : ∀ (n_12 i_11 : Nat) (x_13 x_14 : Int32), i_11 ≤ jn → jn + 1 ≤ i_11 + n_12 → x_13 = nI (i_11) → x_14 = nI (fb_ct (fun o => mdM (f 0) o (i_1)) i_11) → ∀ (ls : Array Slot), lv_has ls 5 [(4, .int (x_13)), (3, .int (x_14)), (2, .int (nI (i_1))), (0, .ref (A 0)), (1, .int (v))] → W p l e ({ frames := 2, cells := 0, slots := 0, locals := 46 } : Room) s m ([.ref (A 0), .int (v)] : List Value).toArray below meth c s.heap [] 0 0 (MQ below (wrI (fun r H => r = (dfM x (f 0) jn v).1 ∧ va_P D vwCl (mw cA A (dfM x (f 0) jn v).2 f) H) (MA A)) ([.ref (A 0), .int (v)] : List Value).toArray s 0 0 (MA A)) (F0 m 17 ls []) := by
          intro n_12
          induction n_12 with
          | zero => intro i_11 x_13 x_14 h1 h2; exact absurd h2 (by omega)
          | succ n_12 ih_18 =>
            intro i_11 x_13 x_14 h_19 h_20 e_16 e_17  ls hl
            subst e_16
            subst e_17
            refine lv_iload hx hb dX8_doubtful_17 (lv_at hl 0 rfl) ?_
            refine lv_aload_n hx hb dX8_doubtful_19 rfl (lv_at hl 3 rfl) ?_
            refine g_get (v := .ref (A 1)) hx hb hts hown hK hP 0 rfl rfl gu_wsX80 0 (by decide) gm_5_14 rfl dX8_doubtful_20 ?_
            refine lv_iconst (v := nI (0)) hx hb dX8_doubtful_23 gc_0 ?_
            refine g_iald (x := nI (jn)) hx hb hK hP 1 rfl (by omega) (by decide) hj dX8_doubtful_24 ?_
            refine g_icmp_ge (P := jn ≤ i_11) (tgt := 52) hx hb dX8_doubtful_25 (by decide) (nI_leI (by omega) (by omega)) (fun c_21 => ?_) (fun c_21 => ?_)
            · have d_21 : ¬ i_11 < jn := Nat.not_lt.mpr c_21
              have hN_22 : jn = i_11 := by omega
              subst hN_22
              refine lv_iload_n hx hb dX8_doubtful_52 rfl (lv_at hl 1 rfl) ?_
              refine lv_iload_n hx hb dX8_doubtful_53 rfl (lv_at hl 4 rfl) ?_
              refine g_icmp_eq (P := nI (fb_ct (fun o => mdM (f 0) o (i_1)) (jn)) = v) (tgt := 60) hx hb dX8_doubtful_54 (by decide) Iff.rfl (fun c_23 => ?_) (fun c_23 => ?_)
              · refine lv_aload_n hx hb dX8_doubtful_60 rfl (lv_at hl 3 rfl) ?_
                refine lv_iconst (v := nI (0)) hx hb dX8_doubtful_61 gc_0 ?_
                refine g_put (ws' := mw cA A (upd (x) 4 (nI (0))) (f)) hx hb hts hown hK hP hD hS 0 rfl rfl gu_wsX80 tyX8_ok nmX8 8 (by decide) gm_9_3 rfl rfl rfl (Nat.le_of_ble_eq_true rfl) rfl dX8_doubtful_62 (fun H locs hP hD hS => ?_)
                refine lv_iload_n hx hb dX8_doubtful_65 rfl (lv_at hl 2 rfl) ?_
                exact g_iretW (v := nI (i_1)) hx hb hr hlk hS dX8_doubtful_66 (by rw [dfM, fnd_stop hv (by simp [c_23]) jn (by omega)]; exact ⟨rfl, hP⟩)
              · refine lv_goto (tgt := 67) hx hb dX8_doubtful_57 (by decide) ?_
                refine lv_iinc (v := nI (i_1 + 1)) (lv' := [(2, .int (nI (i_1 + 1))), (4, .int (nI ((jn)))), (3, .int (nI (fb_ct (fun o => mdM (f 0) o (i_1)) (jn)))), (0, .ref (A 0)), (1, .int (v))]) hx hb dX8_doubtful_67 hl (k := 2) rfl (inc_1 _) (by decide) rfl (fun ls hl => ?_)
                refine lv_goto (tgt := 2) hx hb dX8_doubtful_70 (by decide) ?_
                exact ih_6 (i_1 + 1) _ (by omega) (by omega) rfl (fnd_succ_none hv (by simp [c_9, c_21, c_23])) ls (lv_sub hl [0, 3, 4] rfl)
            · have d_21 : i_11 < jn := Nat.not_le.mp c_21
              refine lv_iload_n hx hb dX8_doubtful_28 rfl (lv_at hl 1 rfl) ?_
              refine lv_aload_n hx hb dX8_doubtful_29 rfl (lv_at hl 3 rfl) ?_
              refine lv_iload hx hb dX8_doubtful_30 (lv_at hl 0 rfl) ?_
              refine lv_iload_n hx hb dX8_doubtful_32 rfl (lv_at hl 2 rfl) ?_
              refine rd_calle (va_runV (As := [.int (nI (i_11)), .int (nI (i_1))]) (rest := [.int (nI (fb_ct (fun o => mdM (f 0) o (i_1)) i_11))]) ⟨hx, hb, hml, hown, hts⟩ (c_X8_isMoreDoubtful l D cA A (x) (f) (i_11) (i_1) (by omega) (by omega)) (cwV 2 hts (gWV gm_35_13 gm_35_14 gm_35_15 gm_1_5 gm_35_16) rfl rfl rfl (by decide +kernel) ⟨Nat.le_of_ble_eq_true rfl, Nat.le_of_ble_eq_true rfl⟩) (gPreV hK (g_rf hK hP (ci := 10) (q0 := 0) rfl rfl) hP) rfl rfl hl.1 rfl (lv_room (Nat.le_of_ble_eq_true rfl)) dX8_doubtful_33 ⟨by omega, by omega⟩) ?_
              refine g_if_eq (P := mdM (f 0) (i_11) (i_1) = false) (tgt := 43) hx hb dX8_doubtful_36 (by decide) b2i_0 (fun c_24 => ?_) (fun c_24 => ?_)
              · refine lv_iconst (v := nI (0)) hx hb dX8_doubtful_43 gc_0 ?_
                refine g_iadd hx hb dX8_doubtful_44 ?_
                refine lv_istore_n (lv' := [(3, .int (nI ((fb_ct (fun o => mdM (f 0) o (i_1)) i_11) + (0)))), (4, .int (nI (i_11))), (2, .int (nI (i_1))), (0, .ref (A 0)), (1, .int (v))]) hx hb dX8_doubtful_45 rfl hl (by decide) rfl (fun ls hl => ?_)
                refine lv_iinc (v := nI (i_11 + 1)) (lv' := [(4, .int (nI (i_11 + 1))), (3, .int (nI ((fb_ct (fun o => mdM (f 0) o (i_1)) i_11) + (0)))), (2, .int (nI (i_1))), (0, .ref (A 0)), (1, .int (v))]) hx hb dX8_doubtful_46 hl (k := 1) rfl (inc_1 _) (by decide) rfl (fun ls hl => ?_)
                refine lv_goto (tgt := 17) hx hb dX8_doubtful_49 (by decide) ?_
                exact ih_18 (i_11 + 1) _ _ (by omega) (by omega) rfl (by simp [fb_ct_succ, c_21, d_21, c_24])  ls (lv_sub hl [0, 1, 2, 3, 4] rfl)
              · have c_24 : mdM (f 0) (i_11) (i_1) = true := eq_true_of_ne_false c_24
                refine lv_iconst (v := nI (1)) hx hb dX8_doubtful_39 gc_1 ?_
                refine lv_goto (tgt := 44) hx hb dX8_doubtful_40 (by decide) ?_
                refine g_iadd hx hb dX8_doubtful_44 ?_
                refine lv_istore_n (lv' := [(3, .int (nI ((fb_ct (fun o => mdM (f 0) o (i_1)) i_11) + (1)))), (4, .int (nI (i_11))), (2, .int (nI (i_1))), (0, .ref (A 0)), (1, .int (v))]) hx hb dX8_doubtful_45 rfl hl (by decide) rfl (fun ls hl => ?_)
                refine lv_iinc (v := nI (i_11 + 1)) (lv' := [(4, .int (nI (i_11 + 1))), (3, .int (nI ((fb_ct (fun o => mdM (f 0) o (i_1)) i_11) + (1)))), (2, .int (nI (i_1))), (0, .ref (A 0)), (1, .int (v))]) hx hb dX8_doubtful_46 hl (k := 1) rfl (inc_1 _) (by decide) rfl (fun ls hl => ?_)
                refine lv_goto (tgt := 17) hx hb dX8_doubtful_49 (by decide) ?_
                exact ih_18 (i_11 + 1) _ _ (by omega) (by omega) rfl (by simp [fb_ct_succ, c_21, d_21, c_24])  ls (lv_sub hl [0, 1, 2, 3, 4] rfl)
        exact LP_15 (jn + 1) 0 _ _ (by omega) (by omega) rfl rfl  ls (lv_sub hl [0, 1, 2, 3, 4] rfl)
  exact LP_4 (jn + 1) 0 _ (by omega) (by omega) rfl rfl ls (lv_sub hl [0, 1, 2] rfl)

set_option maxHeartbeats 1000000 in
set_option maxRecDepth 100000 in
theorem c_X8_refusal (l : Launch) (D : va_G) (cA : Nat → ClassId) (A : Nat → Nat) (x : Nat → Int32) (f : Nat → Nat → Int32) (z : Bool) (hA : mInj A)  : Met l yX8_refusal (gw yX8_refusal cX8_refusal 2 (some .int)) ({ frames := 1, cells := 0, slots := 0, locals := 21 } : Room) (gPc [.ref (A 0), .int (b2i (z))] (fun H => va_P D vwCl (mw cA A x f) H) D cA) (wrI (fun r H => r = (rfM x z).1 ∧ va_P D vwCl (mw cA A (rfM x z).2 f) H) (MA A)) 0 0 (MA A) := by
  refine gOf (by decide) (Nat.le_of_ble_eq_true rfl) ?_
  intro p e s m below meth c ls hx hb hml hr hlk hown hts hnm hP hK hl
  have hl : lv_has ls 2 [(0, .ref (A 0)), (1, .int (b2i (z)))] := hl
  have hD : va_D (MA A) (mw cA A x f) := mD hA
  have hS : va_S (MA A) s.heap s.heap [] := va_S.rf
  refine lv_aload_n hx hb dX8_refusal_0 rfl (lv_at hl 0 rfl) ?_
  refine lv_aload_n hx hb dX8_refusal_1 rfl (lv_at hl 0 rfl) ?_
  refine g_get (v := .int (x 5)) hx hb hts hown hK hP 0 rfl rfl gu_wsX80 9 (by decide) gm_9_9 rfl dX8_refusal_2 ?_
  refine g_if_ne (P := x 5 = 0) (tgt := 12) hx hb dX8_refusal_5 (by decide) Iff.rfl (fun c_1 => ?_) (fun c_1 => ?_)
  · refine lv_iconst (v := nI (0)) hx hb dX8_refusal_12 gc_0 ?_
    refine wr_calli (va_runV (As := [.int (nI (0))]) (rest := []) ⟨hx, hb, hml, hown, hts⟩ (c_X8_fails l D cA A (x) (f) (0)  hA (by decide)) (cwV 1 hts (gWV gm_8_23 gm_9_0 gm_9_1 gm_1_5 gm_9_2) rfl rfl rfl (by decide +kernel) ⟨Nat.le_of_ble_eq_true rfl, Nat.le_of_ble_eq_true rfl⟩) (gPreV hK (g_rf hK hP (ci := 10) (q0 := 0) rfl rfl) hP) rfl rfl hl.1 rfl (lv_room (Nat.le_of_ble_eq_true rfl)) dX8_refusal_13 ⟨by omega, by omega⟩) hS (fun q _ h => h) (fun q h => h) (fun r H locs hw9 hz9 hk9 hS => ?_)
    obtain ⟨rfl, hP⟩ := hw9
    have hP : va_P D vwCl (mw cA A (upd (upd (x) 3 (nI (0))) 4 (nI (0))) (f)) H := hP
    have hD : va_D (MA A) (mw cA A (upd (upd (x) 3 (nI (0))) 4 (nI (0))) (f)) := mD hA
    refine g_if_eq (P := false = false) (tgt := 23) hx hb dX8_refusal_16 (by decide) b2i_0 (fun c_2 => ?_) (fun c_2 => ?_)
    · refine lv_iload_n hx hb dX8_refusal_23 rfl (lv_at hl 1 rfl) ?_
      refine g_if_eq (P := z = false) (tgt := 34) hx hb dX8_refusal_24 (by decide) b2i_0 (fun c_3 => ?_) (fun c_3 => ?_)
      · refine lv_aload_n hx hb dX8_refusal_34 rfl (lv_at hl 0 rfl) ?_
        refine g_get (v := .int (x 5)) hx hb hts hown hK hP 0 rfl rfl gu_wsX80 9 (by decide) gm_9_9 rfl dX8_refusal_35 ?_
        exact g_iretW (v := x 5) hx hb hr hlk hS dX8_refusal_38 (by rw [rfM, if_neg c_1, if_neg (bnt c_3)]; exact ⟨rfl, hP⟩)
      · have c_3 : z = true := eq_true_of_ne_false c_3
        refine lv_aload_n hx hb dX8_refusal_27 rfl (lv_at hl 0 rfl) ?_
        refine g_get (v := .int (x 6)) hx hb hts hown hK hP 0 rfl rfl gu_wsX80 10 (by decide) gm_9_10 rfl dX8_refusal_28 ?_
        refine lv_goto (tgt := 38) hx hb dX8_refusal_31 (by decide) ?_
        exact g_iretW (v := x 6) hx hb hr hlk hS dX8_refusal_38 (by rw [rfM, if_neg c_1, if_pos c_3]; exact ⟨rfl, hP⟩)
    · exact absurd c_2 (by decide)
  · refine lv_iconst (v := nI (1)) hx hb dX8_refusal_8 gc_1 ?_
    refine lv_goto (tgt := 13) hx hb dX8_refusal_9 (by decide) ?_
    refine wr_calli (va_runV (As := [.int (nI (1))]) (rest := []) ⟨hx, hb, hml, hown, hts⟩ (c_X8_fails l D cA A (x) (f) (1)  hA (by decide)) (cwV 1 hts (gWV gm_8_23 gm_9_0 gm_9_1 gm_1_5 gm_9_2) rfl rfl rfl (by decide +kernel) ⟨Nat.le_of_ble_eq_true rfl, Nat.le_of_ble_eq_true rfl⟩) (gPreV hK (g_rf hK hP (ci := 10) (q0 := 0) rfl rfl) hP) rfl rfl hl.1 rfl (lv_room (Nat.le_of_ble_eq_true rfl)) dX8_refusal_13 ⟨by omega, by omega⟩) hS (fun q _ h => h) (fun q h => h) (fun r H locs hw9 hz9 hk9 hS => ?_)
    obtain ⟨rfl, hP⟩ := hw9
    have hP : va_P D vwCl (mw cA A (upd (upd (x) 3 (nI (0))) 4 (nI (1))) (f)) H := hP
    have hD : va_D (MA A) (mw cA A (upd (upd (x) 3 (nI (0))) 4 (nI (1))) (f)) := mD hA
    refine g_if_eq (P := true = false) (tgt := 23) hx hb dX8_refusal_16 (by decide) b2i_0 (fun c_4 => ?_) (fun c_4 => ?_)
    · exact absurd c_4 (by decide)
    · have c_4 : true = true := eq_true_of_ne_false c_4
      refine lv_iconst (v := nI (0)) hx hb dX8_refusal_19 gc_0 ?_
      refine lv_goto (tgt := 38) hx hb dX8_refusal_20 (by decide) ?_
      exact g_iretW (v := nI (0)) hx hb hr hlk hS dX8_refusal_38 (by rw [rfM, if_pos c_1]; exact ⟨rfl, hP⟩)

set_option maxHeartbeats 1000000 in
set_option maxRecDepth 100000 in
theorem c_X8_errorPosition (l : Launch) (D : va_G) (cA : Nat → ClassId) (A : Nat → Nat) (x : Nat → Int32) (f : Nat → Nat → Int32) (hA : mInj A)  : Met l yX8_errorPosition (gw yX8_errorPosition cX8_errorPosition 1 (some .int)) ({ frames := 0, cells := 0, slots := 0, locals := 0 } : Room) (gPc [.ref (A 0)] (fun H => va_P D vwCl (mw cA A x f) H) D cA) (wrI (fun r H => r = x 8 ∧ va_P D vwCl (mw cA A (upd x 4 (nI 0)) (f)) H) (MA A)) 0 0 (MA A) := by
  refine gOf (by decide) (Nat.le_of_ble_eq_true rfl) ?_
  intro p e s m below meth c ls hx hb hml hr hlk hown hts hnm hP hK hl
  have hl : lv_has ls 1 [(0, .ref (A 0))] := hl
  have hD : va_D (MA A) (mw cA A x f) := mD hA
  have hS : va_S (MA A) s.heap s.heap [] := va_S.rf
  refine lv_aload_n hx hb dX8_errorPosition_0 rfl (lv_at hl 0 rfl) ?_
  refine lv_iconst (v := nI (0)) hx hb dX8_errorPosition_1 gc_0 ?_
  refine g_put (ws' := mw cA A (upd (x) 4 (nI (0))) (f)) hx hb hts hown hK hP hD hS 0 rfl rfl gu_wsX80 tyX8_ok nmX8 8 (by decide) gm_9_3 rfl rfl rfl (Nat.le_of_ble_eq_true rfl) rfl dX8_errorPosition_2 (fun H locs hP hD hS => ?_)
  refine lv_aload_n hx hb dX8_errorPosition_5 rfl (lv_at hl 0 rfl) ?_
  refine g_get (v := .int (x 8)) hx hb hts hown hK hP 0 rfl rfl gu_wsX80 13 (by decide) gm_5_19 rfl dX8_errorPosition_6 ?_
  exact g_iretW (v := x 8) hx hb hr hlk hS dX8_errorPosition_9 (⟨rfl, hP⟩)

set_option maxHeartbeats 1000000 in
set_option maxRecDepth 100000 in
theorem c_X8_isWell (l : Launch) (D : va_G) (cA : Nat → ClassId) (A : Nat → Nat) (x : Nat → Int32) (f : Nat → Nat → Int32) (jn cn : Nat) (hA : mInj A) (hj : f 0 0 = nI jn) (hjn : jn ≤ 9) (hc : f 0 1 = nI cn) (hcn : cn ≤ 10) : Met l yX8_isWell (gw yX8_isWell cX8_isWell 2 (some .boolean)) ({ frames := 3, cells := 0, slots := 0, locals := 66 } : Room) (gPc [.ref (A 0)] (fun H => va_P D vwCl (mw cA A x f) H) D cA) (wrI (fun r H => r = iwM (f 0) jn cn ∧ va_P D vwCl (mw cA A (upd x 4 (nI 0)) (f)) H) (MA A)) 0 0 (MA A) := by
  refine gOf (by decide) (Nat.le_of_ble_eq_true rfl) ?_
  intro p e s m below meth c ls hx hb hml hr hlk hown hts hnm hP hK hl
  have hl : lv_has ls 2 [(0, .ref (A 0))] := hl
  have hD : va_D (MA A) (mw cA A x f) := mD hA
  have hS : va_S (MA A) s.heap s.heap [] := va_S.rf
  refine lv_aload_n hx hb dX8_isWell_0 rfl (lv_at hl 0 rfl) ?_
  refine lv_iconst (v := nI (0)) hx hb dX8_isWell_1 gc_0 ?_
  refine g_put (ws' := mw cA A (upd (x) 4 (nI (0))) (f)) hx hb hts hown hK hP hD hS 0 rfl rfl gu_wsX80 tyX8_ok nmX8 8 (by decide) gm_9_3 rfl rfl rfl (Nat.le_of_ble_eq_true rfl) rfl dX8_isWell_2 (fun H locs hP hD hS => ?_)
  refine lv_iconst (v := nI (0)) hx hb dX8_isWell_5 gc_0 ?_
  refine lv_istore_n (lv' := [(1, .int (nI (0))), (0, .ref (A 0))]) hx hb dX8_isWell_6 rfl hl (by decide) rfl (fun ls hl => ?_)
  have LP_4 : ∀ (n_2 i_1 : Nat) (x_3 : Int32), i_1 ≤ jn → jn + 1 ≤ i_1 + n_2 → x_3 = nI (i_1) → fnd (fun k => decide (3 < ldM (f 0) cn k)) (i_1) = none → ∀ (ls : Array Slot), lv_has ls 2 [(1, .int (x_3)), (0, .ref (A 0))] → W p l e ({ frames := 3, cells := 0, slots := 0, locals := 66 } : Room) s m ([.ref (A 0)] : List Value).toArray below meth c H locs 0 0 (MQ below (wrI (fun r H => r = iwM (f 0) jn cn ∧ va_P D vwCl (mw cA A (upd x 4 (nI 0)) (f)) H) (MA A)) ([.ref (A 0)] : List Value).toArray s 0 0 (MA A)) (F0 m 7 ls []) := by
    intro n_2
    induction n_2 with
    | zero => intro i_1 x_3 h1 h2; exact absurd h2 (by omega)
    | succ n_2 ih_6 =>
      intro i_1 x_3 h_7 h_8 e_5 hv ls hl
      subst e_5
      refine lv_iload_n hx hb dX8_isWell_7 rfl (lv_at hl 0 rfl) ?_
      refine lv_aload_n hx hb dX8_isWell_8 rfl (lv_at hl 1 rfl) ?_
      refine g_get (v := .ref (A 1)) hx hb hts hown hK hP 0 rfl rfl gu_wsX80 0 (by decide) gm_5_14 rfl dX8_isWell_9 ?_
      refine lv_iconst (v := nI (0)) hx hb dX8_isWell_12 gc_0 ?_
      refine g_iald (x := nI (jn)) hx hb hK hP 1 rfl (by omega) (by decide) hj dX8_isWell_13 ?_
      refine g_icmp_ge (P := jn ≤ i_1) (tgt := 34) hx hb dX8_isWell_14 (by decide) (nI_leI (by omega) (by omega)) (fun c_9 => ?_) (fun c_9 => ?_)
      · have d_9 : ¬ i_1 < jn := Nat.not_lt.mpr c_9
        have hN_10 : jn = i_1 := by omega
        subst hN_10
        refine lv_iconst (v := nI (1)) hx hb dX8_isWell_34 gc_1 ?_
        exact g_zretW (v := nI (1)) hx hb hr hlk rfl hS dX8_isWell_35 (by rw [iwM, hv]; exact ⟨rfl, hP⟩)
      · have d_9 : i_1 < jn := Nat.not_le.mp c_9
        refine lv_aload_n hx hb dX8_isWell_17 rfl (lv_at hl 1 rfl) ?_
        refine lv_iload_n hx hb dX8_isWell_18 rfl (lv_at hl 0 rfl) ?_
        refine rd_calle (va_runV (As := [.int (nI (i_1))]) (rest := []) ⟨hx, hb, hml, hown, hts⟩ (c_X8_loadOf l D cA A (upd (x) 4 (nI (0))) (f) (i_1) cn hc hcn) (cwV 1 hts (gWV gm_14_13 gm_14_14 gm_14_15 gm_1_5 gm_14_16) rfl rfl rfl (by decide +kernel) ⟨Nat.le_of_ble_eq_true rfl, Nat.le_of_ble_eq_true rfl⟩) (gPreV hK (g_rf hK hP (ci := 10) (q0 := 0) rfl rfl) hP) rfl rfl hl.1 rfl (lv_room (Nat.le_of_ble_eq_true rfl)) dX8_isWell_19 ⟨by omega, by omega⟩) ?_
        have hle_11 := ldM_le (f 0) cn (i_1)
        refine lv_iconst (v := nI (3)) hx hb dX8_isWell_22 gc_3 ?_
        refine g_icmp_le (P := ldM (f 0) cn (i_1) ≤ 3) (tgt := 28) hx hb dX8_isWell_23 (by decide) (nI_leI (by omega) (by omega)) (fun c_12 => ?_) (fun c_12 => ?_)
        · have d_12 : ¬ 3 < ldM (f 0) cn (i_1) := Nat.not_lt.mpr c_12
          refine lv_iinc (v := nI (i_1 + 1)) (lv' := [(1, .int (nI (i_1 + 1))), (0, .ref (A 0))]) hx hb dX8_isWell_28 hl (k := 0) rfl (inc_1 _) (by decide) rfl (fun ls hl => ?_)
          refine lv_goto (tgt := 7) hx hb dX8_isWell_31 (by decide) ?_
          exact ih_6 (i_1 + 1) _ (by omega) (by omega) rfl (fnd_succ_none hv (by simp [c_9, c_12] <;> omega)) ls (lv_sub hl [0, 1] rfl)
        · have d_12 : 3 < ldM (f 0) cn (i_1) := Nat.not_le.mp c_12
          refine lv_iconst (v := nI (0)) hx hb dX8_isWell_26 gc_0 ?_
          exact g_zretW (v := nI (0)) hx hb hr hlk rfl hS dX8_isWell_27 (by rw [iwM, fnd_stop hv (by simp [c_12] <;> omega) jn (by omega)]; exact ⟨rfl, hP⟩)
  exact LP_4 (jn + 1) 0 _ (by omega) (by omega) rfl rfl ls (lv_sub hl [0, 1] rfl)

set_option maxHeartbeats 1000000 in
set_option maxRecDepth 100000 in
theorem c_X8_undo (l : Launch) (D : va_G) (cA : Nat → ClassId) (A : Nat → Nat) (x : Nat → Int32) (f : Nat → Nat → Int32) (ch : Nat) (hA : mInj A) (hch : x 1 = nI ch) (hc8 : ch ≤ 8) : Met l yX8_undo (gw yX8_undo cX8_undo 1 (some .int)) ({ frames := 1, cells := 0, slots := 0, locals := 24 } : Room) (gPc [.ref (A 0)] (fun H => va_P D vwCl (mw cA A x f) H) D cA) (wrI (fun r H => r = (udM x f ch).1 ∧ va_P D vwCl (mw cA A (udM x f ch).2.1 (udM x f ch).2.2) H) (MA A)) 0 0 (MA A) := by
  refine gOf (by decide) (Nat.le_of_ble_eq_true rfl) ?_
  intro p e s m below meth c ls hx hb hml hr hlk hown hts hnm hP hK hl
  have hl : lv_has ls 1 [(0, .ref (A 0))] := hl
  have hD : va_D (MA A) (mw cA A x f) := mD hA
  have hS : va_S (MA A) s.heap s.heap [] := va_S.rf
  refine lv_aload_n hx hb dX8_undo_0 rfl (lv_at hl 0 rfl) ?_
  refine lv_aload_n hx hb dX8_undo_1 rfl (lv_at hl 0 rfl) ?_
  refine g_get (v := .int (x 1)) hx hb hts hown hK hP 0 rfl rfl gu_wsX80 5 (by decide) gm_9_16 rfl dX8_undo_2 ?_
  refine g_top hch ?_
  refine g_if_ne (P := ch = 0) (tgt := 12) hx hb dX8_undo_5 (by decide) (nI_z (a := ch) (by omega)) (fun c_1 => ?_) (fun c_1 => ?_)
  · refine lv_iconst (v := nI (0)) hx hb dX8_undo_12 gc_0 ?_
    refine wr_calli (va_runV (As := [.int (nI (0))]) (rest := []) ⟨hx, hb, hml, hown, hts⟩ (c_X8_fails l D cA A (x) (f) (0)  hA (by decide)) (cwV 1 hts (gWV gm_8_23 gm_9_0 gm_9_1 gm_1_5 gm_9_2) rfl rfl rfl (by decide +kernel) ⟨Nat.le_of_ble_eq_true rfl, Nat.le_of_ble_eq_true rfl⟩) (gPreV hK (g_rf hK hP (ci := 10) (q0 := 0) rfl rfl) hP) rfl rfl hl.1 rfl (lv_room (Nat.le_of_ble_eq_true rfl)) dX8_undo_13 ⟨by omega, by omega⟩) hS (fun q _ h => h) (fun q h => h) (fun r H locs hw9 hz9 hk9 hS => ?_)
    obtain ⟨rfl, hP⟩ := hw9
    have hP : va_P D vwCl (mw cA A (upd (upd (x) 3 (nI (0))) 4 (nI (0))) (f)) H := hP
    have hD : va_D (MA A) (mw cA A (upd (upd (x) 3 (nI (0))) 4 (nI (0))) (f)) := mD hA
    refine g_if_eq (P := false = false) (tgt := 21) hx hb dX8_undo_16 (by decide) b2i_0 (fun c_2 => ?_) (fun c_2 => ?_)
    · refine lv_aload_n hx hb dX8_undo_21 rfl (lv_at hl 0 rfl) ?_
      refine lv_dup hx hb dX8_undo_22 rfl ?_
      refine g_get (v := .int (x 1)) hx hb hts hown hK hP 0 rfl rfl gu_wsX80 5 (by decide) gm_9_16 rfl dX8_undo_23 ?_
      refine g_top hch ?_
      refine lv_iconst (v := nI (1)) hx hb dX8_undo_26 gc_1 ?_
      refine g_isub hx hb (by omega) dX8_undo_27 ?_
      refine g_put (ws' := mw cA A (upd (upd (upd (x) 1 (nI (ch - 1))) 3 (nI (0))) 4 (nI (0))) (f)) hx hb hts hown hK hP hD hS 0 rfl rfl gu_wsX80 tyX8_ok nmX8 5 (by decide) gm_9_16 rfl rfl rfl (Nat.le_of_ble_eq_true rfl) rfl dX8_undo_28 (fun H locs hP hD hS => ?_)
      refine lv_aload_n hx hb dX8_undo_31 rfl (lv_at hl 0 rfl) ?_
      refine g_get (v := .ref (A 2)) hx hb hts hown hK hP 0 rfl rfl gu_wsX80 1 (by decide) gm_5_15 rfl dX8_undo_32 ?_
      refine lv_bipush (v := nI (124)) hx hb dX8_undo_35 gb_124 ?_
      refine lv_aload_n hx hb dX8_undo_37 rfl (lv_at hl 0 rfl) ?_
      refine g_get (v := .int (nI (ch - 1))) hx hb hts hown hK hP 0 rfl rfl gu_wsX80 5 (by decide) gm_9_16 rfl dX8_undo_38 ?_
      refine g_imul hx hb dX8_undo_41 ?_
      refine lv_aload_n hx hb dX8_undo_42 rfl (lv_at hl 0 rfl) ?_
      refine g_get (v := .ref (A 1)) hx hb hts hown hK hP 0 rfl rfl gu_wsX80 0 (by decide) gm_5_14 rfl dX8_undo_43 ?_
      refine lv_iconst (v := nI (0)) hx hb dX8_undo_46 gc_0 ?_
      refine wr_callv (va_runS (As := [.ref (A 2), .int (nI ((124) * (ch - 1))), .ref (A 1), .int (nI (0))]) (rest := []) ⟨hx, hb, hml, hown, hts⟩ (c_X8_copies_10 l D cA A (upd (upd (upd (x) 1 (nI (ch - 1))) 3 (nI (0))) 4 (nI (0))) (f) ((124) * (ch - 1)) (0) hA (by omega) (by omega)) (cwS 4 hts (gWS gm_9_17 gm_9_18 gm_1_5 gm_9_19) rfl rfl rfl (by decide +kernel) ⟨Nat.le_of_ble_eq_true rfl, Nat.le_of_ble_eq_true rfl⟩) (gPreS hK hP) rfl rfl hl.1 rfl (lv_room (Nat.le_of_ble_eq_true rfl)) dX8_undo_47 ⟨by omega, by omega⟩) hS (fun q _ h => h) (fun q h => h) (fun H locs hP hz9 hk9 hS => ?_)
      have hP : va_P D vwCl (mw cA A (upd (upd (upd (x) 1 (nI (ch - 1))) 3 (nI (0))) 4 (nI (0))) (va_up (f) 0 (fb_put (f 0) (fun k => f 1 (((124) * (ch - 1)) + k)) (0) 124))) H := hP
      have hD : va_D (MA A) (mw cA A (upd (upd (upd (x) 1 (nI (ch - 1))) 3 (nI (0))) 4 (nI (0))) (va_up (f) 0 (fb_put (f 0) (fun k => f 1 (((124) * (ch - 1)) + k)) (0) 124))) := mD hA
      refine lv_aload_n hx hb dX8_undo_50 rfl (lv_at hl 0 rfl) ?_
      refine g_get (v := .int (nI (ch - 1))) hx hb hts hown hK hP 0 rfl rfl gu_wsX80 5 (by decide) gm_9_16 rfl dX8_undo_51 ?_
      exact g_iretW (v := nI (ch - 1)) hx hb hr hlk hS dX8_undo_54 (by rw [udM, if_neg c_1]; exact ⟨rfl, hP⟩)
    · exact absurd c_2 (by decide)
  · refine lv_iconst (v := nI (1)) hx hb dX8_undo_8 gc_1 ?_
    refine lv_goto (tgt := 13) hx hb dX8_undo_9 (by decide) ?_
    refine wr_calli (va_runV (As := [.int (nI (1))]) (rest := []) ⟨hx, hb, hml, hown, hts⟩ (c_X8_fails l D cA A (x) (f) (1)  hA (by decide)) (cwV 1 hts (gWV gm_8_23 gm_9_0 gm_9_1 gm_1_5 gm_9_2) rfl rfl rfl (by decide +kernel) ⟨Nat.le_of_ble_eq_true rfl, Nat.le_of_ble_eq_true rfl⟩) (gPreV hK (g_rf hK hP (ci := 10) (q0 := 0) rfl rfl) hP) rfl rfl hl.1 rfl (lv_room (Nat.le_of_ble_eq_true rfl)) dX8_undo_13 ⟨by omega, by omega⟩) hS (fun q _ h => h) (fun q h => h) (fun r H locs hw9 hz9 hk9 hS => ?_)
    obtain ⟨rfl, hP⟩ := hw9
    have hP : va_P D vwCl (mw cA A (upd (upd (x) 3 (nI (0))) 4 (nI (1))) (f)) H := hP
    have hD : va_D (MA A) (mw cA A (upd (upd (x) 3 (nI (0))) 4 (nI (1))) (f)) := mD hA
    refine g_if_eq (P := true = false) (tgt := 21) hx hb dX8_undo_16 (by decide) b2i_0 (fun c_3 => ?_) (fun c_3 => ?_)
    · exact absurd c_3 (by decide)
    · have c_3 : true = true := eq_true_of_ne_false c_3
      refine lv_iconst (v := nI (0)) hx hb dX8_undo_19 gc_0 ?_
      exact g_iretW (v := nI (0)) hx hb hr hlk hS dX8_undo_20 (by rw [udM, if_pos c_1]; exact ⟨rfl, hP⟩)

set_option maxHeartbeats 1000000 in
set_option maxRecDepth 100000 in
theorem c_X8_save (l : Launch) (D : va_G) (cA : Nat → ClassId) (A : Nat → Nat) (x : Nat → Int32) (f : Nat → Nat → Int32) (cn : Nat) (hA : mInj A) (hc : f 0 1 = nI cn) (hcn : cn ≤ 10) : Met l yX8_save (gw yX8_save cX8_save 1 (some .int)) ({ frames := 1, cells := 0, slots := 0, locals := 24 } : Room) (gPc [.ref (A 0)] (fun H => va_P D vwCl (mw cA A x f) H) D cA) (wrI (fun r H => r = nI cn ∧ va_P D vwCl (mw cA A (upd (upd x 0 (nI 1)) 4 (nI 0)) (va_up f 2 (fb_put (f 2) (fun k => f 0 ((0) + k)) (0) 124))) H) (MA A)) 0 0 (MA A) := by
  refine gOf (by decide) (Nat.le_of_ble_eq_true rfl) ?_
  intro p e s m below meth c ls hx hb hml hr hlk hown hts hnm hP hK hl
  have hl : lv_has ls 1 [(0, .ref (A 0))] := hl
  have hD : va_D (MA A) (mw cA A x f) := mD hA
  have hS : va_S (MA A) s.heap s.heap [] := va_S.rf
  refine lv_aload_n hx hb dX8_save_0 rfl (lv_at hl 0 rfl) ?_
  refine lv_iconst (v := nI (0)) hx hb dX8_save_1 gc_0 ?_
  refine g_put (ws' := mw cA A (upd (x) 4 (nI (0))) (f)) hx hb hts hown hK hP hD hS 0 rfl rfl gu_wsX80 tyX8_ok nmX8 8 (by decide) gm_9_3 rfl rfl rfl (Nat.le_of_ble_eq_true rfl) rfl dX8_save_2 (fun H locs hP hD hS => ?_)
  refine lv_aload_n hx hb dX8_save_5 rfl (lv_at hl 0 rfl) ?_
  refine lv_iconst (v := nI (1)) hx hb dX8_save_6 gc_1 ?_
  refine g_put (ws' := mw cA A (upd (upd (x) 0 (nI (1))) 4 (nI (0))) (f)) hx hb hts hown hK hP hD hS 0 rfl rfl gu_wsX80 tyX8_ok nmX8 4 (by decide) gm_53_13 rfl rfl rfl (Nat.le_of_ble_eq_true rfl) rfl dX8_save_7 (fun H locs hP hD hS => ?_)
  refine lv_aload_n hx hb dX8_save_10 rfl (lv_at hl 0 rfl) ?_
  refine g_get (v := .ref (A 1)) hx hb hts hown hK hP 0 rfl rfl gu_wsX80 0 (by decide) gm_5_14 rfl dX8_save_11 ?_
  refine lv_iconst (v := nI (0)) hx hb dX8_save_14 gc_0 ?_
  refine lv_aload_n hx hb dX8_save_15 rfl (lv_at hl 0 rfl) ?_
  refine g_get (v := .ref (A 3)) hx hb hts hown hK hP 0 rfl rfl gu_wsX80 2 (by decide) gm_5_16 rfl dX8_save_16 ?_
  refine lv_iconst (v := nI (0)) hx hb dX8_save_19 gc_0 ?_
  refine wr_callv (va_runS (As := [.ref (A 1), .int (nI (0)), .ref (A 3), .int (nI (0))]) (rest := []) ⟨hx, hb, hml, hown, hts⟩ (c_X8_copies_02 l D cA A (upd (upd (x) 0 (nI (1))) 4 (nI (0))) (f) (0) (0) hA (by omega) (by omega)) (cwS 4 hts (gWS gm_9_17 gm_9_18 gm_1_5 gm_9_19) rfl rfl rfl (by decide +kernel) ⟨Nat.le_of_ble_eq_true rfl, Nat.le_of_ble_eq_true rfl⟩) (gPreS hK hP) rfl rfl hl.1 rfl (lv_room (Nat.le_of_ble_eq_true rfl)) dX8_save_20 ⟨by omega, by omega⟩) hS (fun q _ h => h) (fun q h => h) (fun H locs hP hz9 hk9 hS => ?_)
  have hP : va_P D vwCl (mw cA A (upd (upd (x) 0 (nI (1))) 4 (nI (0))) (va_up (f) 2 (fb_put (f 2) (fun k => f 0 ((0) + k)) (0) 124))) H := hP
  have hD : va_D (MA A) (mw cA A (upd (upd (x) 0 (nI (1))) 4 (nI (0))) (va_up (f) 2 (fb_put (f 2) (fun k => f 0 ((0) + k)) (0) 124))) := mD hA
  refine lv_aload_n hx hb dX8_save_23 rfl (lv_at hl 0 rfl) ?_
  refine g_get (v := .ref (A 1)) hx hb hts hown hK hP 0 rfl rfl gu_wsX80 0 (by decide) gm_5_14 rfl dX8_save_24 ?_
  refine lv_iconst (v := nI (1)) hx hb dX8_save_27 gc_1 ?_
  refine g_iald (x := nI (cn)) hx hb hK hP 1 rfl (by omega) (by decide) hc dX8_save_28 ?_
  exact g_iretW (v := nI (cn)) hx hb hr hlk hS dX8_save_29 (⟨rfl, hP⟩)

set_option maxHeartbeats 1000000 in
set_option maxRecDepth 100000 in
theorem c_X8_restore (l : Launch) (D : va_G) (cA : Nat → ClassId) (A : Nat → Nat) (x : Nat → Int32) (f : Nat → Nat → Int32) (sv : Bool) (hA : mInj A) (hsv : x 0 = b2i sv) : Met l yX8_restore (gw yX8_restore cX8_restore 1 (some .int)) ({ frames := 1, cells := 0, slots := 0, locals := 24 } : Room) (gPc [.ref (A 0)] (fun H => va_P D vwCl (mw cA A x f) H) D cA) (wrI (fun r H => r = (reM x f sv).1 ∧ va_P D vwCl (mw cA A (reM x f sv).2.1 (reM x f sv).2.2) H) (MA A)) 0 0 (MA A) := by
  refine gOf (by decide) (Nat.le_of_ble_eq_true rfl) ?_
  intro p e s m below meth c ls hx hb hml hr hlk hown hts hnm hP hK hl
  have hl : lv_has ls 1 [(0, .ref (A 0))] := hl
  have hD : va_D (MA A) (mw cA A x f) := mD hA
  have hS : va_S (MA A) s.heap s.heap [] := va_S.rf
  refine lv_aload_n hx hb dX8_restore_0 rfl (lv_at hl 0 rfl) ?_
  refine lv_aload_n hx hb dX8_restore_1 rfl (lv_at hl 0 rfl) ?_
  refine g_get (v := .int (x 0)) hx hb hts hown hK hP 0 rfl rfl gu_wsX80 4 (by decide) gm_53_13 rfl dX8_restore_2 ?_
  refine g_top hsv ?_
  refine g_if_eq (P := sv = false) (tgt := 12) hx hb dX8_restore_5 (by decide) b2i_0 (fun c_1 => ?_) (fun c_1 => ?_)
  · refine lv_iconst (v := nI (1)) hx hb dX8_restore_12 gc_1 ?_
    refine wr_calli (va_runV (As := [.int (nI (1))]) (rest := []) ⟨hx, hb, hml, hown, hts⟩ (c_X8_fails l D cA A (x) (f) (1)  hA (by decide)) (cwV 1 hts (gWV gm_8_23 gm_9_0 gm_9_1 gm_1_5 gm_9_2) rfl rfl rfl (by decide +kernel) ⟨Nat.le_of_ble_eq_true rfl, Nat.le_of_ble_eq_true rfl⟩) (gPreV hK (g_rf hK hP (ci := 10) (q0 := 0) rfl rfl) hP) rfl rfl hl.1 rfl (lv_room (Nat.le_of_ble_eq_true rfl)) dX8_restore_13 ⟨by omega, by omega⟩) hS (fun q _ h => h) (fun q h => h) (fun r H locs hw9 hz9 hk9 hS => ?_)
    obtain ⟨rfl, hP⟩ := hw9
    have hP : va_P D vwCl (mw cA A (upd (upd (x) 3 (nI (0))) 4 (nI (1))) (f)) H := hP
    have hD : va_D (MA A) (mw cA A (upd (upd (x) 3 (nI (0))) 4 (nI (1))) (f)) := mD hA
    refine g_if_eq (P := true = false) (tgt := 21) hx hb dX8_restore_16 (by decide) b2i_0 (fun c_2 => ?_) (fun c_2 => ?_)
    · exact absurd c_2 (by decide)
    · have c_2 : true = true := eq_true_of_ne_false c_2
      refine lv_iconst (v := nI (0)) hx hb dX8_restore_19 gc_0 ?_
      exact g_iretW (v := nI (0)) hx hb hr hlk hS dX8_restore_20 (by rw [reM, if_neg (bnt c_1)]; exact ⟨rfl, hP⟩)
  · have c_1 : sv = true := eq_true_of_ne_false c_1
    refine lv_iconst (v := nI (0)) hx hb dX8_restore_8 gc_0 ?_
    refine lv_goto (tgt := 13) hx hb dX8_restore_9 (by decide) ?_
    refine wr_calli (va_runV (As := [.int (nI (0))]) (rest := []) ⟨hx, hb, hml, hown, hts⟩ (c_X8_fails l D cA A (x) (f) (0)  hA (by decide)) (cwV 1 hts (gWV gm_8_23 gm_9_0 gm_9_1 gm_1_5 gm_9_2) rfl rfl rfl (by decide +kernel) ⟨Nat.le_of_ble_eq_true rfl, Nat.le_of_ble_eq_true rfl⟩) (gPreV hK (g_rf hK hP (ci := 10) (q0 := 0) rfl rfl) hP) rfl rfl hl.1 rfl (lv_room (Nat.le_of_ble_eq_true rfl)) dX8_restore_13 ⟨by omega, by omega⟩) hS (fun q _ h => h) (fun q h => h) (fun r H locs hw9 hz9 hk9 hS => ?_)
    obtain ⟨rfl, hP⟩ := hw9
    have hP : va_P D vwCl (mw cA A (upd (upd (x) 3 (nI (0))) 4 (nI (0))) (f)) H := hP
    have hD : va_D (MA A) (mw cA A (upd (upd (x) 3 (nI (0))) 4 (nI (0))) (f)) := mD hA
    refine g_if_eq (P := false = false) (tgt := 21) hx hb dX8_restore_16 (by decide) b2i_0 (fun c_3 => ?_) (fun c_3 => ?_)
    · refine lv_aload_n hx hb dX8_restore_21 rfl (lv_at hl 0 rfl) ?_
      refine g_get (v := .ref (A 3)) hx hb hts hown hK hP 0 rfl rfl gu_wsX80 2 (by decide) gm_5_16 rfl dX8_restore_22 ?_
      refine lv_iconst (v := nI (0)) hx hb dX8_restore_25 gc_0 ?_
      refine lv_aload_n hx hb dX8_restore_26 rfl (lv_at hl 0 rfl) ?_
      refine g_get (v := .ref (A 1)) hx hb hts hown hK hP 0 rfl rfl gu_wsX80 0 (by decide) gm_5_14 rfl dX8_restore_27 ?_
      refine lv_iconst (v := nI (0)) hx hb dX8_restore_30 gc_0 ?_
      refine wr_callv (va_runS (As := [.ref (A 3), .int (nI (0)), .ref (A 1), .int (nI (0))]) (rest := []) ⟨hx, hb, hml, hown, hts⟩ (c_X8_copies_20 l D cA A (upd (upd (x) 3 (nI (0))) 4 (nI (0))) (f) (0) (0) hA (by omega) (by omega)) (cwS 4 hts (gWS gm_9_17 gm_9_18 gm_1_5 gm_9_19) rfl rfl rfl (by decide +kernel) ⟨Nat.le_of_ble_eq_true rfl, Nat.le_of_ble_eq_true rfl⟩) (gPreS hK hP) rfl rfl hl.1 rfl (lv_room (Nat.le_of_ble_eq_true rfl)) dX8_restore_31 ⟨by omega, by omega⟩) hS (fun q _ h => h) (fun q h => h) (fun H locs hP hz9 hk9 hS => ?_)
      have hP : va_P D vwCl (mw cA A (upd (upd (x) 3 (nI (0))) 4 (nI (0))) (va_up (f) 0 (fb_put (f 0) (fun k => f 2 ((0) + k)) (0) 124))) H := hP
      have hD : va_D (MA A) (mw cA A (upd (upd (x) 3 (nI (0))) 4 (nI (0))) (va_up (f) 0 (fb_put (f 0) (fun k => f 2 ((0) + k)) (0) 124))) := mD hA
      refine lv_aload_n hx hb dX8_restore_34 rfl (lv_at hl 0 rfl) ?_
      refine lv_iconst (v := nI (0)) hx hb dX8_restore_35 gc_0 ?_
      refine g_put (ws' := mw cA A (upd (upd (upd (x) 1 (nI (0))) 3 (nI (0))) 4 (nI (0))) (va_up (f) 0 (fb_put (f 0) (fun k => f 2 ((0) + k)) (0) 124))) hx hb hts hown hK hP hD hS 0 rfl rfl gu_wsX80 tyX8_ok nmX8 5 (by decide) gm_9_16 rfl rfl rfl (Nat.le_of_ble_eq_true rfl) rfl dX8_restore_36 (fun H locs hP hD hS => ?_)
      refine lv_aload_n hx hb dX8_restore_39 rfl (lv_at hl 0 rfl) ?_
      refine g_get (v := .ref (A 1)) hx hb hts hown hK hP 0 rfl rfl gu_wsX80 0 (by decide) gm_5_14 rfl dX8_restore_40 ?_
      refine lv_iconst (v := nI (1)) hx hb dX8_restore_43 gc_1 ?_
      refine g_iald (x := fb_put (f 0) (fun k => f 2 ((0) + k)) (0) 124 (1)) hx hb hK hP 1 rfl (by omega) (by decide) rfl dX8_restore_44 ?_
      exact g_iretW (v := fb_put (f 0) (fun k => f 2 ((0) + k)) (0) 124 (1)) hx hb hr hlk hS dX8_restore_45 (by rw [reM, if_pos c_1]; exact ⟨rfl, hP⟩)
    · exact absurd c_3 (by decide)

set_option maxHeartbeats 1000000 in
set_option maxRecDepth 100000 in
theorem c_X8_append (l : Launch) (D : va_G) (cA : Nat → ClassId) (A : Nat → Nat) (x : Nat → Int32) (f : Nat → Nat → Int32) (v : Int32) (ln : Nat) (hA : mInj A) (hln : x 7 = nI ln) (hl6 : ln ≤ 60) : Met l yX8_append (gw yX8_append cX8_append 2 (some .int)) ({ frames := 1, cells := 0, slots := 0, locals := 21 } : Room) (gPc [.ref (A 0), .int (v)] (fun H => va_P D vwCl (mw cA A x f) H) D cA) (wrI (fun r H => r = (apO x f ln v).1 ∧ va_P D vwCl (mw cA A (apO x f ln v).2.1 (apO x f ln v).2.2) H) (MA A)) 0 0 (MA A) := by
  refine gOf (by decide) (Nat.le_of_ble_eq_true rfl) ?_
  intro p e s m below meth c ls hx hb hml hr hlk hown hts hnm hP hK hl
  have hl : lv_has ls 2 [(0, .ref (A 0)), (1, .int (v))] := hl
  have hD : va_D (MA A) (mw cA A x f) := mD hA
  have hS : va_S (MA A) s.heap s.heap [] := va_S.rf
  refine lv_aload_n hx hb dX8_append_0 rfl (lv_at hl 0 rfl) ?_
  refine lv_aload_n hx hb dX8_append_1 rfl (lv_at hl 0 rfl) ?_
  refine g_get (v := .int (x 7)) hx hb hts hown hK hP 0 rfl rfl gu_wsX80 12 (by decide) gm_39_10 rfl dX8_append_2 ?_
  refine g_top hln ?_
  refine lv_bipush (v := nI (60)) hx hb dX8_append_5 gb_60 ?_
  refine g_icmp_ne (P := ln = 60) (tgt := 14) hx hb dX8_append_7 (by decide) (nI_eq (by omega) (by omega)) (fun c_1 => ?_) (fun c_1 => ?_)
  · refine lv_iconst (v := nI (0)) hx hb dX8_append_14 gc_0 ?_
    refine wr_calli (va_runV (As := [.int (nI (0))]) (rest := []) ⟨hx, hb, hml, hown, hts⟩ (c_X8_fails l D cA A (x) (f) (0)  hA (by decide)) (cwV 1 hts (gWV gm_8_23 gm_9_0 gm_9_1 gm_1_5 gm_9_2) rfl rfl rfl (by decide +kernel) ⟨Nat.le_of_ble_eq_true rfl, Nat.le_of_ble_eq_true rfl⟩) (gPreV hK (g_rf hK hP (ci := 10) (q0 := 0) rfl rfl) hP) rfl rfl hl.1 rfl (lv_room (Nat.le_of_ble_eq_true rfl)) dX8_append_15 ⟨by omega, by omega⟩) hS (fun q _ h => h) (fun q h => h) (fun r H locs hw9 hz9 hk9 hS => ?_)
    obtain ⟨rfl, hP⟩ := hw9
    have hP : va_P D vwCl (mw cA A (upd (upd (x) 3 (nI (0))) 4 (nI (0))) (f)) H := hP
    have hD : va_D (MA A) (mw cA A (upd (upd (x) 3 (nI (0))) 4 (nI (0))) (f)) := mD hA
    refine g_if_eq (P := false = false) (tgt := 23) hx hb dX8_append_18 (by decide) b2i_0 (fun c_2 => ?_) (fun c_2 => ?_)
    · refine lv_aload_n hx hb dX8_append_23 rfl (lv_at hl 0 rfl) ?_
      refine g_get (v := .ref (A 5)) hx hb hts hown hK hP 0 rfl rfl gu_wsX80 11 (by decide) gm_5_18 rfl dX8_append_24 ?_
      refine lv_aload_n hx hb dX8_append_27 rfl (lv_at hl 0 rfl) ?_
      refine g_get (v := .int (x 7)) hx hb hts hown hK hP 0 rfl rfl gu_wsX80 12 (by decide) gm_39_10 rfl dX8_append_28 ?_
      refine g_top hln ?_
      refine lv_iload_n hx hb dX8_append_31 rfl (lv_at hl 1 rfl) ?_
      refine g_iast (ws' := mw cA A (upd (upd (x) 3 (nI (0))) 4 (nI (0))) (va_up (f) 4 (upd (f 4) (ln) (v)))) hx hb hK hP hD hS 5 rfl (by omega) (by decide) rfl dX8_append_32 (fun H locs hP hD hS => ?_)
      refine lv_aload_n hx hb dX8_append_33 rfl (lv_at hl 0 rfl) ?_
      refine lv_dup hx hb dX8_append_34 rfl ?_
      refine g_get (v := .int (x 7)) hx hb hts hown hK hP 0 rfl rfl gu_wsX80 12 (by decide) gm_39_10 rfl dX8_append_35 ?_
      refine g_top hln ?_
      refine lv_iconst (v := nI (1)) hx hb dX8_append_38 gc_1 ?_
      refine g_iadd hx hb dX8_append_39 ?_
      refine g_put (ws' := mw cA A (upd (upd (upd (x) 3 (nI (0))) 4 (nI (0))) 7 (nI (ln + 1))) (va_up (f) 4 (upd (f 4) (ln) (v)))) hx hb hts hown hK hP hD hS 0 rfl rfl gu_wsX80 tyX8_ok nmX8 12 (by decide) gm_39_10 rfl rfl rfl (Nat.le_of_ble_eq_true rfl) rfl dX8_append_40 (fun H locs hP hD hS => ?_)
      refine lv_aload_n hx hb dX8_append_43 rfl (lv_at hl 0 rfl) ?_
      refine g_get (v := .int (nI (ln + 1))) hx hb hts hown hK hP 0 rfl rfl gu_wsX80 12 (by decide) gm_39_10 rfl dX8_append_44 ?_
      exact g_iretW (v := nI (ln + 1)) hx hb hr hlk hS dX8_append_47 (by rw [apO, if_neg c_1]; exact ⟨rfl, hP⟩)
    · exact absurd c_2 (by decide)
  · refine lv_iconst (v := nI (1)) hx hb dX8_append_10 gc_1 ?_
    refine lv_goto (tgt := 15) hx hb dX8_append_11 (by decide) ?_
    refine wr_calli (va_runV (As := [.int (nI (1))]) (rest := []) ⟨hx, hb, hml, hown, hts⟩ (c_X8_fails l D cA A (x) (f) (1)  hA (by decide)) (cwV 1 hts (gWV gm_8_23 gm_9_0 gm_9_1 gm_1_5 gm_9_2) rfl rfl rfl (by decide +kernel) ⟨Nat.le_of_ble_eq_true rfl, Nat.le_of_ble_eq_true rfl⟩) (gPreV hK (g_rf hK hP (ci := 10) (q0 := 0) rfl rfl) hP) rfl rfl hl.1 rfl (lv_room (Nat.le_of_ble_eq_true rfl)) dX8_append_15 ⟨by omega, by omega⟩) hS (fun q _ h => h) (fun q h => h) (fun r H locs hw9 hz9 hk9 hS => ?_)
    obtain ⟨rfl, hP⟩ := hw9
    have hP : va_P D vwCl (mw cA A (upd (upd (x) 3 (nI (0))) 4 (nI (1))) (f)) H := hP
    have hD : va_D (MA A) (mw cA A (upd (upd (x) 3 (nI (0))) 4 (nI (1))) (f)) := mD hA
    refine g_if_eq (P := true = false) (tgt := 23) hx hb dX8_append_18 (by decide) b2i_0 (fun c_3 => ?_) (fun c_3 => ?_)
    · exact absurd c_3 (by decide)
    · have c_3 : true = true := eq_true_of_ne_false c_3
      refine lv_iconst (v := nI (0)) hx hb dX8_append_21 gc_0 ?_
      exact g_iretW (v := nI (0)) hx hb hr hlk hS dX8_append_22 (by rw [apO, if_pos c_1]; exact ⟨rfl, hP⟩)

theorem i2c_n {n : Nat} (h : n < 65536) : ((nI n).toUInt32 % 65536).toInt32 = nI n := by
  rw [pk_char]
  have e : (nI n).toBitVec.toNat = n := by
    show (BitVec.ofNat 32 n).toNat = n
    rw [BitVec.toNat_ofNat]
    omega
  rw [e, Nat.mod_eq_of_lt h]
def cN (x : Int32) : Nat := x.toBitVec.toNat % 65536
theorem cN_i (x : Int32) : (x.toUInt32 % 65536).toInt32 = nI (cN x) := pk_char x
theorem cN_lt (x : Int32) : cN x < 65536 := Nat.mod_lt _ (by decide)
section GK2
variable {p : Program} {l : Launch} {e : Env} {R : Room} {s : State} {m : MethodId} {args : Array Value} {below : List Frame} {meth : Method} {c : Code} {H : Heap} {locs : List Loc} {cells slots : Nat} {Q : State → Prop}
variable {cc : ByteArray} {pc : Nat} {ls : Array Slot} {rest : List Value} {H0 : Heap}
theorem g_cret {v : Int32} {post : Int32 → Prop} (hx : p.tables.exec = Jvm.exec) (hb : c.code = cc) (hr : meth.sig.returnType = some .char) (hlk : meth.locks = false) (hn : narrow .char (.int v) = .int v) (hdg : decode cc pc = .ok (.ireturn, 1)) (hp : post v) : W p l e R s m args below meth c s.heap [] cells slots (MQ below (rdI post) args s cells slots nF) (F0 m pc ls [.int v]) :=
  W.zret hx hb hr hn (fun t ht _ => ⟨⟨v, rfl, hp⟩, ht⟩) (fun _ h => nomatch h) hdg hlk
theorem g_cretW {v : Int32} {post : Int32 → Heap → Prop} {A : Nat → Prop} (hx : p.tables.exec = Jvm.exec) (hb : c.code = cc) (hr : meth.sig.returnType = some .char) (hlk : meth.locks = false) (hn : narrow .char (.int v) = .int v) (hS : va_S A s.heap H locs) (hdg : decode cc pc = .ok (.ireturn, 1)) (hp : post v H) : W p l e R s m args below meth c H locs cells slots (MQ below (wrI post A) args s cells slots A) (F0 m pc ls [.int v]) :=
  W.zret hx hb hr hn (fun t ht _ => ⟨⟨v, rfl, by rw [ht]; exact hp⟩, hS.F ht⟩) hS.2.2 hdg hlk
theorem g_cast {D : va_G} {cA : Nat → ClassId} {ws ws' : va_W} {o len i v : Nat} {f : Nat → Int32} {A : Nat → Prop} (hx : p.tables.exec = Jvm.exec) (hb : c.code = cc) (hK : gK D cA s) (hP : va_P D vwCl ws H) (hD : va_D A ws) (hS : va_S A H0 H locs) (q0 : Nat) (ha : ws[q0]? = some (o, .inl (cA 1, len, .inl f))) (hi : i < len) (hlen : len < 2 ^ 31) (hv : v < 65536) (hw : ws.set q0 (o, .inl (cA 1, len, .inl (upd f i (nI v)))) = ws') (hdg : decode cc pc = .ok (.castore, 1))
    (kk : ∀ (H1 : Heap) (locs1 : List Loc), va_P D vwCl ws' H1 → va_D A ws' → va_S A H0 H1 locs1 → W p l e R s m args below meth c H1 locs1 cells slots Q (F0 m (pc + 1) ls rest)) : W p l e R s m args below meth c H locs cells slots Q (F0 m pc ls (.int (nI v) :: .int (nI i) :: .ref o :: rest)) := by
  subst hw
  refine va_cast hx hb hK.1 hP hD hS q0 1 ha rfl (vp_in_nI hi hlen) hdg ?_
  rw [nI_clamp (Nat.lt_trans hi hlen), show vp_nar .char (nI v) = nI v from Value.int.inj (pk_charN hv).1]
  exact kk
end GK2
abbrev TS : Type := (Nat → Int32) × Nat
def tw (c : Nat) (ts : TS) : TS := (upd ts.1 ts.2 (nI c), ts.2 + 1)
def tn (n : Nat) (ts : TS) : TS := if h : 9 < n then tw (48 + n % 10) (tn (n / 10) ts) else tw (48 + n % 10) ts
termination_by n
decreasing_by omega
theorem tn_lo {n : Nat} {ts : TS} (h : n ≤ 9) : tn n ts = tw (48 + n % 10) ts := by rw [tn, dif_neg (by omega)]
theorem tn_hi {n : Nat} {ts : TS} (h : 9 < n) : tn n ts = tw (48 + n % 10) (tn (n / 10) ts) := by rw [tn, dif_pos h]
theorem tw_2 {c : Nat} {ts : TS} : (tw c ts).2 = ts.2 + 1 := rfl
theorem tn_29 {n : Nat} {ts : TS} (h : n ≤ 9) : (tn n ts).2 = ts.2 + 1 := by rw [tn_lo h]; rfl
theorem tn_2 {n : Nat} {ts : TS} (h : n ≤ 999) : ts.2 + 1 ≤ (tn n ts).2 ∧ (tn n ts).2 ≤ ts.2 + 3 := by
  by_cases h1 : 9 < n
  · rw [tn_hi h1, tw_2]
    by_cases h2 : 9 < n / 10
    · rw [tn_hi h2, tw_2, tn_29 (by omega)]; omega
    · rw [tn_29 (by omega)]; omega
  · rw [tn_29 (by omega)]; omega

set_option maxHeartbeats 1000000 in
set_option maxRecDepth 100000 in
theorem c_X8_writes (l : Launch) (D : va_G) (cA : Nat → ClassId) (A : Nat → Nat) (x : Nat → Int32) (f : Nat → Nat → Int32) (sm c : Nat) (hA : mInj A) (hsm : x 9 = nI sm) (hs6 : sm < 60) (hc6 : c < 65536) : Met l yX8_writes (gw yX8_writes cX8_writes 2 none) ({ frames := 0, cells := 0, slots := 0, locals := 0 } : Room) (gPc [.ref (A 0), .int (nI (c))] (fun H => va_P D vwCl (mw cA A x f) H) D cA) (wrV (fun H => va_P D vwCl (mw cA A (upd x 9 (nI (sm + 1))) (va_up f 5 (upd (f 5) (sm) (nI (c))))) H) (MA A)) 0 0 (MA A) := by
  refine gOf (by decide) (Nat.le_of_ble_eq_true rfl) ?_
  intro p e s m below meth c ls hx hb hml hr hlk hown hts hnm hP hK hl
  have hl : lv_has ls 2 [(0, .ref (A 0)), (1, .int (nI (c)))] := hl
  have hD : va_D (MA A) (mw cA A x f) := mD hA
  have hS : va_S (MA A) s.heap s.heap [] := va_S.rf
  refine lv_aload_n hx hb dX8_writes_0 rfl (lv_at hl 0 rfl) ?_
  refine g_get (v := .ref (A 6)) hx hb hts hown hK hP 0 rfl rfl gu_wsX80 14 (by decide) gm_5_20 rfl dX8_writes_1 ?_
  refine lv_aload_n hx hb dX8_writes_4 rfl (lv_at hl 0 rfl) ?_
  refine g_get (v := .int (x 9)) hx hb hts hown hK hP 0 rfl rfl gu_wsX80 15 (by decide) gm_37_4 rfl dX8_writes_5 ?_
  refine g_top hsm ?_
  refine lv_iload_n hx hb dX8_writes_8 rfl (lv_at hl 1 rfl) ?_
  refine lv_i2c (v := nI (c)) hx hb dX8_writes_9 (i2c_n (by omega)) ?_
  refine g_cast (ws' := mw cA A (x) (va_up (f) 5 (upd (f 5) (sm) (nI (c))))) hx hb hK hP hD hS 6 rfl (by omega) (by decide) (by omega) rfl dX8_writes_10 (fun H locs hP hD hS => ?_)
  refine lv_aload_n hx hb dX8_writes_11 rfl (lv_at hl 0 rfl) ?_
  refine lv_dup hx hb dX8_writes_12 rfl ?_
  refine g_get (v := .int (x 9)) hx hb hts hown hK hP 0 rfl rfl gu_wsX80 15 (by decide) gm_37_4 rfl dX8_writes_13 ?_
  refine g_top hsm ?_
  refine lv_iconst (v := nI (1)) hx hb dX8_writes_16 gc_1 ?_
  refine g_iadd hx hb dX8_writes_17 ?_
  refine g_put (ws' := mw cA A (upd (x) 9 (nI (sm + 1))) (va_up (f) 5 (upd (f 5) (sm) (nI (c))))) hx hb hts hown hK hP hD hS 0 rfl rfl gu_wsX80 tyX8_ok nmX8 15 (by decide) gm_37_4 rfl rfl rfl (Nat.le_of_ble_eq_true rfl) rfl dX8_writes_18 (fun H locs hP hD hS => ?_)
  exact g_vretW hx hb hr hlk hS dX8_writes_21 (hP)

set_option maxHeartbeats 1000000 in
set_option maxRecDepth 100000 in
theorem c_X8_writesNumber_1 (l : Launch) (D : va_G) (cA : Nat → ClassId) (A : Nat → Nat) (x : Nat → Int32) (f : Nat → Nat → Int32) (sm n : Nat) (hA : mInj A) (hsm : x 9 = nI sm) (hs6 : sm < 60) (hn : n ≤ 9) : Met l yX8_writesNumber (gw yX8_writesNumber cX8_writesNumber 2 none) ({ frames := 1, cells := 0, slots := 0, locals := 21 } : Room) (gPc [.ref (A 0), .int (nI (n))] (fun H => va_P D vwCl (mw cA A x f) H) D cA) (wrV (fun H => va_P D vwCl (mw cA A (upd x 9 (nI (tn n (f 5, sm)).2)) (va_up f 5 ((tn n (f 5, sm)).1))) H) (MA A)) 0 0 (MA A) := by
  refine gOf (by decide) (Nat.le_of_ble_eq_true rfl) ?_
  intro p e s m below meth c ls hx hb hml hr hlk hown hts hnm hP hK hl
  have hl : lv_has ls 2 [(0, .ref (A 0)), (1, .int (nI (n)))] := hl
  have hD : va_D (MA A) (mw cA A x f) := mD hA
  have hS : va_S (MA A) s.heap s.heap [] := va_S.rf
  refine lv_iload_n hx hb dX8_writesNumber_0 rfl (lv_at hl 1 rfl) ?_
  refine lv_bipush (v := nI (9)) hx hb dX8_writesNumber_1 gb_9 ?_
  refine g_icmp_le (P := n ≤ 9) (tgt := 14) hx hb dX8_writesNumber_3 (by decide) (nI_leI (by omega) (by omega)) (fun c_1 => ?_) (fun c_1 => ?_)
  · have d_1 : ¬ 9 < n := Nat.not_lt.mpr c_1
    refine lv_aload_n hx hb dX8_writesNumber_14 rfl (lv_at hl 0 rfl) ?_
    refine lv_bipush (v := nI (48)) hx hb dX8_writesNumber_15 gb_48 ?_
    refine lv_iload_n hx hb dX8_writesNumber_17 rfl (lv_at hl 1 rfl) ?_
    refine lv_bipush (v := nI (10)) hx hb dX8_writesNumber_18 gb_10 ?_
    refine g_irem hx hb (by omega) (by omega) (by omega) dX8_writesNumber_20 ?_
    refine g_iadd hx hb dX8_writesNumber_21 ?_
    refine wr_callv (va_runV (As := [.int (nI ((48) + (n % 10)))]) (rest := []) ⟨hx, hb, hml, hown, hts⟩ (c_X8_writes l D cA A (x) (f) sm ((48) + (n % 10)) hA hsm (by omega) (by omega)) (cwV 1 hts (gWV gm_37_9 gm_37_10 gm_37_11 gm_1_5 gm_37_12) rfl rfl rfl (by decide +kernel) ⟨Nat.le_of_ble_eq_true rfl, Nat.le_of_ble_eq_true rfl⟩) (gPreV hK (g_rf hK hP (ci := 10) (q0 := 0) rfl rfl) hP) rfl rfl hl.1 rfl (lv_room (Nat.le_of_ble_eq_true rfl)) dX8_writesNumber_22 ⟨by omega, by omega⟩) hS (fun q _ h => h) (fun q h => h) (fun H locs hP hz9 hk9 hS => ?_)
    have hP : va_P D vwCl (mw cA A (upd (x) 9 (nI ((tw ((48) + (n % 10)) (((f 5, sm) : TS))).2))) (va_up (f) 5 ((tw ((48) + (n % 10)) (((f 5, sm) : TS))).1))) H := hP
    have hD : va_D (MA A) (mw cA A (upd (x) 9 (nI ((tw ((48) + (n % 10)) (((f 5, sm) : TS))).2))) (va_up (f) 5 ((tw ((48) + (n % 10)) (((f 5, sm) : TS))).1))) := mD hA
    have hb_2 : (tw ((48) + (n % 10)) (((f 5, sm) : TS))).2 = (((f 5, sm) : TS)).2 + 1 := rfl
    exact g_vretW hx hb hr hlk hS dX8_writesNumber_25 (by rw [tn_lo (by omega)]; exact hP)
  · have d_1 : 9 < n := Nat.not_le.mp c_1
    exact absurd c_1 (by omega)

set_option maxHeartbeats 1000000 in
set_option maxRecDepth 100000 in
theorem c_X8_writesNumber_2 (l : Launch) (D : va_G) (cA : Nat → ClassId) (A : Nat → Nat) (x : Nat → Int32) (f : Nat → Nat → Int32) (sm n : Nat) (hA : mInj A) (hsm : x 9 = nI sm) (hs6 : sm < 59) (hn : n ≤ 99) : Met l yX8_writesNumber (gw yX8_writesNumber cX8_writesNumber 2 none) ({ frames := 2, cells := 0, slots := 0, locals := 42 } : Room) (gPc [.ref (A 0), .int (nI (n))] (fun H => va_P D vwCl (mw cA A x f) H) D cA) (wrV (fun H => va_P D vwCl (mw cA A (upd x 9 (nI (tn n (f 5, sm)).2)) (va_up f 5 ((tn n (f 5, sm)).1))) H) (MA A)) 0 0 (MA A) := by
  refine gOf (by decide) (Nat.le_of_ble_eq_true rfl) ?_
  intro p e s m below meth c ls hx hb hml hr hlk hown hts hnm hP hK hl
  have hl : lv_has ls 2 [(0, .ref (A 0)), (1, .int (nI (n)))] := hl
  have hD : va_D (MA A) (mw cA A x f) := mD hA
  have hS : va_S (MA A) s.heap s.heap [] := va_S.rf
  refine lv_iload_n hx hb dX8_writesNumber_0 rfl (lv_at hl 1 rfl) ?_
  refine lv_bipush (v := nI (9)) hx hb dX8_writesNumber_1 gb_9 ?_
  refine g_icmp_le (P := n ≤ 9) (tgt := 14) hx hb dX8_writesNumber_3 (by decide) (nI_leI (by omega) (by omega)) (fun c_1 => ?_) (fun c_1 => ?_)
  · have d_1 : ¬ 9 < n := Nat.not_lt.mpr c_1
    refine lv_aload_n hx hb dX8_writesNumber_14 rfl (lv_at hl 0 rfl) ?_
    refine lv_bipush (v := nI (48)) hx hb dX8_writesNumber_15 gb_48 ?_
    refine lv_iload_n hx hb dX8_writesNumber_17 rfl (lv_at hl 1 rfl) ?_
    refine lv_bipush (v := nI (10)) hx hb dX8_writesNumber_18 gb_10 ?_
    refine g_irem hx hb (by omega) (by omega) (by omega) dX8_writesNumber_20 ?_
    refine g_iadd hx hb dX8_writesNumber_21 ?_
    refine wr_callv (va_runV (As := [.int (nI ((48) + (n % 10)))]) (rest := []) ⟨hx, hb, hml, hown, hts⟩ (c_X8_writes l D cA A (x) (f) sm ((48) + (n % 10)) hA hsm (by omega) (by omega)) (cwV 1 hts (gWV gm_37_9 gm_37_10 gm_37_11 gm_1_5 gm_37_12) rfl rfl rfl (by decide +kernel) ⟨Nat.le_of_ble_eq_true rfl, Nat.le_of_ble_eq_true rfl⟩) (gPreV hK (g_rf hK hP (ci := 10) (q0 := 0) rfl rfl) hP) rfl rfl hl.1 rfl (lv_room (Nat.le_of_ble_eq_true rfl)) dX8_writesNumber_22 ⟨by omega, by omega⟩) hS (fun q _ h => h) (fun q h => h) (fun H locs hP hz9 hk9 hS => ?_)
    have hP : va_P D vwCl (mw cA A (upd (x) 9 (nI ((tw ((48) + (n % 10)) (((f 5, sm) : TS))).2))) (va_up (f) 5 ((tw ((48) + (n % 10)) (((f 5, sm) : TS))).1))) H := hP
    have hD : va_D (MA A) (mw cA A (upd (x) 9 (nI ((tw ((48) + (n % 10)) (((f 5, sm) : TS))).2))) (va_up (f) 5 ((tw ((48) + (n % 10)) (((f 5, sm) : TS))).1))) := mD hA
    have hb_2 : (tw ((48) + (n % 10)) (((f 5, sm) : TS))).2 = (((f 5, sm) : TS)).2 + 1 := rfl
    exact g_vretW hx hb hr hlk hS dX8_writesNumber_25 (by rw [tn_lo (by omega)]; exact hP)
  · have d_1 : 9 < n := Nat.not_le.mp c_1
    refine lv_aload_n hx hb dX8_writesNumber_6 rfl (lv_at hl 0 rfl) ?_
    refine lv_iload_n hx hb dX8_writesNumber_7 rfl (lv_at hl 1 rfl) ?_
    refine lv_bipush (v := nI (10)) hx hb dX8_writesNumber_8 gb_10 ?_
    refine g_idiv hx hb (by omega) (by omega) (by omega) dX8_writesNumber_10 ?_
    refine wr_callv (va_runV (As := [.int (nI (n / 10))]) (rest := []) ⟨hx, hb, hml, hown, hts⟩ (c_X8_writesNumber_1 l D cA A (x) (f) sm (n / 10) hA hsm (by omega) (by omega)) (cwV 1 hts (gWV gm_37_5 gm_37_6 gm_37_7 gm_1_5 gm_37_8) rfl rfl rfl (by decide +kernel) ⟨Nat.le_of_ble_eq_true rfl, Nat.le_of_ble_eq_true rfl⟩) (gPreV hK (g_rf hK hP (ci := 10) (q0 := 0) rfl rfl) hP) rfl rfl hl.1 rfl (lv_room (Nat.le_of_ble_eq_true rfl)) dX8_writesNumber_11 ⟨by omega, by omega⟩) hS (fun q _ h => h) (fun q h => h) (fun H locs hP hz9 hk9 hS => ?_)
    have hP : va_P D vwCl (mw cA A (upd (x) 9 (nI ((tn (n / 10) (((f 5, sm) : TS))).2))) (va_up (f) 5 ((tn (n / 10) (((f 5, sm) : TS))).1))) H := hP
    have hD : va_D (MA A) (mw cA A (upd (x) 9 (nI ((tn (n / 10) (((f 5, sm) : TS))).2))) (va_up (f) 5 ((tn (n / 10) (((f 5, sm) : TS))).1))) := mD hA
    have hb_3 := tn_29 (n := n / 10) (ts := ((f 5, sm) : TS)) (by omega)
    refine lv_aload_n hx hb dX8_writesNumber_14 rfl (lv_at hl 0 rfl) ?_
    refine lv_bipush (v := nI (48)) hx hb dX8_writesNumber_15 gb_48 ?_
    refine lv_iload_n hx hb dX8_writesNumber_17 rfl (lv_at hl 1 rfl) ?_
    refine lv_bipush (v := nI (10)) hx hb dX8_writesNumber_18 gb_10 ?_
    refine g_irem hx hb (by omega) (by omega) (by omega) dX8_writesNumber_20 ?_
    refine g_iadd hx hb dX8_writesNumber_21 ?_
    refine wr_callv (va_runV (As := [.int (nI ((48) + (n % 10)))]) (rest := []) ⟨hx, hb, hml, hown, hts⟩ (c_X8_writes l D cA A (upd (x) 9 (nI ((tn (n / 10) (((f 5, sm) : TS))).2))) (va_up (f) 5 ((tn (n / 10) (((f 5, sm) : TS))).1)) ((tn (n / 10) (((f 5, sm) : TS))).2) ((48) + (n % 10)) hA rfl (by omega) (by omega)) (cwV 1 hts (gWV gm_37_9 gm_37_10 gm_37_11 gm_1_5 gm_37_12) rfl rfl rfl (by decide +kernel) ⟨Nat.le_of_ble_eq_true rfl, Nat.le_of_ble_eq_true rfl⟩) (gPreV hK (g_rf hK hP (ci := 10) (q0 := 0) rfl rfl) hP) rfl rfl hl.1 rfl (lv_room (Nat.le_of_ble_eq_true rfl)) dX8_writesNumber_22 ⟨by omega, by omega⟩) hS (fun q _ h => h) (fun q h => h) (fun H locs hP hz9 hk9 hS => ?_)
    have hP : va_P D vwCl (mw cA A (upd (x) 9 (nI ((tw ((48) + (n % 10)) (tn (n / 10) (((f 5, sm) : TS)))).2))) (va_up (f) 5 ((tw ((48) + (n % 10)) (tn (n / 10) (((f 5, sm) : TS)))).1))) H := hP
    have hD : va_D (MA A) (mw cA A (upd (x) 9 (nI ((tw ((48) + (n % 10)) (tn (n / 10) (((f 5, sm) : TS)))).2))) (va_up (f) 5 ((tw ((48) + (n % 10)) (tn (n / 10) (((f 5, sm) : TS)))).1))) := mD hA
    have hb_4 : (tw ((48) + (n % 10)) (tn (n / 10) (((f 5, sm) : TS)))).2 = (tn (n / 10) (((f 5, sm) : TS))).2 + 1 := rfl
    exact g_vretW hx hb hr hlk hS dX8_writesNumber_25 (by rw [tn_hi (by omega)]; exact hP)

set_option maxHeartbeats 1000000 in
set_option maxRecDepth 100000 in
theorem c_X8_writesNumber_3 (l : Launch) (D : va_G) (cA : Nat → ClassId) (A : Nat → Nat) (x : Nat → Int32) (f : Nat → Nat → Int32) (sm n : Nat) (hA : mInj A) (hsm : x 9 = nI sm) (hs6 : sm < 58) (hn : n ≤ 999) : Met l yX8_writesNumber (gw yX8_writesNumber cX8_writesNumber 2 none) ({ frames := 3, cells := 0, slots := 0, locals := 63 } : Room) (gPc [.ref (A 0), .int (nI (n))] (fun H => va_P D vwCl (mw cA A x f) H) D cA) (wrV (fun H => va_P D vwCl (mw cA A (upd x 9 (nI (tn n (f 5, sm)).2)) (va_up f 5 ((tn n (f 5, sm)).1))) H) (MA A)) 0 0 (MA A) := by
  refine gOf (by decide) (Nat.le_of_ble_eq_true rfl) ?_
  intro p e s m below meth c ls hx hb hml hr hlk hown hts hnm hP hK hl
  have hl : lv_has ls 2 [(0, .ref (A 0)), (1, .int (nI (n)))] := hl
  have hD : va_D (MA A) (mw cA A x f) := mD hA
  have hS : va_S (MA A) s.heap s.heap [] := va_S.rf
  refine lv_iload_n hx hb dX8_writesNumber_0 rfl (lv_at hl 1 rfl) ?_
  refine lv_bipush (v := nI (9)) hx hb dX8_writesNumber_1 gb_9 ?_
  refine g_icmp_le (P := n ≤ 9) (tgt := 14) hx hb dX8_writesNumber_3 (by decide) (nI_leI (by omega) (by omega)) (fun c_1 => ?_) (fun c_1 => ?_)
  · have d_1 : ¬ 9 < n := Nat.not_lt.mpr c_1
    refine lv_aload_n hx hb dX8_writesNumber_14 rfl (lv_at hl 0 rfl) ?_
    refine lv_bipush (v := nI (48)) hx hb dX8_writesNumber_15 gb_48 ?_
    refine lv_iload_n hx hb dX8_writesNumber_17 rfl (lv_at hl 1 rfl) ?_
    refine lv_bipush (v := nI (10)) hx hb dX8_writesNumber_18 gb_10 ?_
    refine g_irem hx hb (by omega) (by omega) (by omega) dX8_writesNumber_20 ?_
    refine g_iadd hx hb dX8_writesNumber_21 ?_
    refine wr_callv (va_runV (As := [.int (nI ((48) + (n % 10)))]) (rest := []) ⟨hx, hb, hml, hown, hts⟩ (c_X8_writes l D cA A (x) (f) sm ((48) + (n % 10)) hA hsm (by omega) (by omega)) (cwV 1 hts (gWV gm_37_9 gm_37_10 gm_37_11 gm_1_5 gm_37_12) rfl rfl rfl (by decide +kernel) ⟨Nat.le_of_ble_eq_true rfl, Nat.le_of_ble_eq_true rfl⟩) (gPreV hK (g_rf hK hP (ci := 10) (q0 := 0) rfl rfl) hP) rfl rfl hl.1 rfl (lv_room (Nat.le_of_ble_eq_true rfl)) dX8_writesNumber_22 ⟨by omega, by omega⟩) hS (fun q _ h => h) (fun q h => h) (fun H locs hP hz9 hk9 hS => ?_)
    have hP : va_P D vwCl (mw cA A (upd (x) 9 (nI ((tw ((48) + (n % 10)) (((f 5, sm) : TS))).2))) (va_up (f) 5 ((tw ((48) + (n % 10)) (((f 5, sm) : TS))).1))) H := hP
    have hD : va_D (MA A) (mw cA A (upd (x) 9 (nI ((tw ((48) + (n % 10)) (((f 5, sm) : TS))).2))) (va_up (f) 5 ((tw ((48) + (n % 10)) (((f 5, sm) : TS))).1))) := mD hA
    have hb_2 : (tw ((48) + (n % 10)) (((f 5, sm) : TS))).2 = (((f 5, sm) : TS)).2 + 1 := rfl
    exact g_vretW hx hb hr hlk hS dX8_writesNumber_25 (by rw [tn_lo (by omega)]; exact hP)
  · have d_1 : 9 < n := Nat.not_le.mp c_1
    refine lv_aload_n hx hb dX8_writesNumber_6 rfl (lv_at hl 0 rfl) ?_
    refine lv_iload_n hx hb dX8_writesNumber_7 rfl (lv_at hl 1 rfl) ?_
    refine lv_bipush (v := nI (10)) hx hb dX8_writesNumber_8 gb_10 ?_
    refine g_idiv hx hb (by omega) (by omega) (by omega) dX8_writesNumber_10 ?_
    refine wr_callv (va_runV (As := [.int (nI (n / 10))]) (rest := []) ⟨hx, hb, hml, hown, hts⟩ (c_X8_writesNumber_2 l D cA A (x) (f) sm (n / 10) hA hsm (by omega) (by omega)) (cwV 1 hts (gWV gm_37_5 gm_37_6 gm_37_7 gm_1_5 gm_37_8) rfl rfl rfl (by decide +kernel) ⟨Nat.le_of_ble_eq_true rfl, Nat.le_of_ble_eq_true rfl⟩) (gPreV hK (g_rf hK hP (ci := 10) (q0 := 0) rfl rfl) hP) rfl rfl hl.1 rfl (lv_room (Nat.le_of_ble_eq_true rfl)) dX8_writesNumber_11 ⟨by omega, by omega⟩) hS (fun q _ h => h) (fun q h => h) (fun H locs hP hz9 hk9 hS => ?_)
    have hP : va_P D vwCl (mw cA A (upd (x) 9 (nI ((tn (n / 10) (((f 5, sm) : TS))).2))) (va_up (f) 5 ((tn (n / 10) (((f 5, sm) : TS))).1))) H := hP
    have hD : va_D (MA A) (mw cA A (upd (x) 9 (nI ((tn (n / 10) (((f 5, sm) : TS))).2))) (va_up (f) 5 ((tn (n / 10) (((f 5, sm) : TS))).1))) := mD hA
    have hb_3 := tn_2 (n := n / 10) (ts := ((f 5, sm) : TS)) (by omega)
    refine lv_aload_n hx hb dX8_writesNumber_14 rfl (lv_at hl 0 rfl) ?_
    refine lv_bipush (v := nI (48)) hx hb dX8_writesNumber_15 gb_48 ?_
    refine lv_iload_n hx hb dX8_writesNumber_17 rfl (lv_at hl 1 rfl) ?_
    refine lv_bipush (v := nI (10)) hx hb dX8_writesNumber_18 gb_10 ?_
    refine g_irem hx hb (by omega) (by omega) (by omega) dX8_writesNumber_20 ?_
    refine g_iadd hx hb dX8_writesNumber_21 ?_
    refine wr_callv (va_runV (As := [.int (nI ((48) + (n % 10)))]) (rest := []) ⟨hx, hb, hml, hown, hts⟩ (c_X8_writes l D cA A (upd (x) 9 (nI ((tn (n / 10) (((f 5, sm) : TS))).2))) (va_up (f) 5 ((tn (n / 10) (((f 5, sm) : TS))).1)) ((tn (n / 10) (((f 5, sm) : TS))).2) ((48) + (n % 10)) hA rfl (by omega) (by omega)) (cwV 1 hts (gWV gm_37_9 gm_37_10 gm_37_11 gm_1_5 gm_37_12) rfl rfl rfl (by decide +kernel) ⟨Nat.le_of_ble_eq_true rfl, Nat.le_of_ble_eq_true rfl⟩) (gPreV hK (g_rf hK hP (ci := 10) (q0 := 0) rfl rfl) hP) rfl rfl hl.1 rfl (lv_room (Nat.le_of_ble_eq_true rfl)) dX8_writesNumber_22 ⟨by omega, by omega⟩) hS (fun q _ h => h) (fun q h => h) (fun H locs hP hz9 hk9 hS => ?_)
    have hP : va_P D vwCl (mw cA A (upd (x) 9 (nI ((tw ((48) + (n % 10)) (tn (n / 10) (((f 5, sm) : TS)))).2))) (va_up (f) 5 ((tw ((48) + (n % 10)) (tn (n / 10) (((f 5, sm) : TS)))).1))) H := hP
    have hD : va_D (MA A) (mw cA A (upd (x) 9 (nI ((tw ((48) + (n % 10)) (tn (n / 10) (((f 5, sm) : TS)))).2))) (va_up (f) 5 ((tw ((48) + (n % 10)) (tn (n / 10) (((f 5, sm) : TS)))).1))) := mD hA
    have hb_4 : (tw ((48) + (n % 10)) (tn (n / 10) (((f 5, sm) : TS)))).2 = (tn (n / 10) (((f 5, sm) : TS))).2 + 1 := rfl
    exact g_vretW hx hb hr hlk hS dX8_writesNumber_25 (by rw [tn_hi (by omega)]; exact hP)

def chO (x : Nat → Int32) (s5 : Nat → Int32) (sm : Nat) (v : Int32) : Int32 × (Nat → Int32) := if isIx v sm = true then (s5 v.toNatClampNeg, failX x 0) else (nI 32, failX x 1)

set_option maxHeartbeats 1000000 in
set_option maxRecDepth 100000 in
theorem c_X8_character (l : Launch) (D : va_G) (cA : Nat → ClassId) (A : Nat → Nat) (x : Nat → Int32) (f : Nat → Nat → Int32) (v : Int32) (sm : Nat) (hA : mInj A) (hsm : x 9 = nI sm) (hs6 : sm ≤ 60) (hch : ∀ j, j < sm → ∃ c, c < 65536 ∧ f 5 j = nI c) : Met l yX8_character (gw yX8_character cX8_character 2 (some .char)) ({ frames := 1, cells := 0, slots := 0, locals := 22 } : Room) (gPc [.ref (A 0), .int (v)] (fun H => va_P D vwCl (mw cA A x f) H) D cA) (wrI (fun r H => r = (chO x (f 5) sm v).1 ∧ va_P D vwCl (mw cA A (chO x (f 5) sm v).2 f) H) (MA A)) 0 0 (MA A) := by
  refine gOf (by decide) (Nat.le_of_ble_eq_true rfl) ?_
  intro p e s m below meth c ls hx hb hml hr hlk hown hts hnm hP hK hl
  have hl : lv_has ls 2 [(0, .ref (A 0)), (1, .int (v))] := hl
  have hD : va_D (MA A) (mw cA A x f) := mD hA
  have hS : va_S (MA A) s.heap s.heap [] := va_S.rf
  refine lv_aload_n hx hb dX8_character_0 rfl (lv_at hl 0 rfl) ?_
  refine lv_iload_n hx hb dX8_character_1 rfl (lv_at hl 1 rfl) ?_
  refine lv_iconst (v := nI (0)) hx hb dX8_character_2 gc_0 ?_
  refine lv_aload_n hx hb dX8_character_3 rfl (lv_at hl 0 rfl) ?_
  refine g_get (v := .int (x 9)) hx hb hts hown hK hP 0 rfl rfl gu_wsX80 15 (by decide) gm_37_4 rfl dX8_character_4 ?_
  refine g_top hsm ?_
  refine lv_iconst (v := nI (1)) hx hb dX8_character_7 gc_1 ?_
  refine lv_isub hx hb dX8_character_8 ?_
  refine rd_calle (va_runS (As := [.int (v), .int (nI (0)), .int ((nI (sm)) - (nI (1)))]) (rest := [.ref (A 0)]) ⟨hx, hb, hml, hown, hts⟩ (c_X8_in l D cA (v) (nI (0)) ((nI (sm)) - (nI (1)))) (cwS 3 hts (gWS gm_8_20 gm_8_21 gm_1_5 gm_8_22) rfl rfl rfl (by decide +kernel) ⟨Nat.le_of_ble_eq_true rfl, Nat.le_of_ble_eq_true rfl⟩) (gPreS hK trivial) rfl rfl hl.1 rfl (lv_room (Nat.le_of_ble_eq_true rfl)) dX8_character_9 ⟨by omega, by omega⟩) ?_
  refine g_if_eq (P := inB (v) (nI (0)) ((nI (sm)) - (nI (1))) = false) (tgt := 19) hx hb dX8_character_12 (by decide) b2i_0 (fun c_1 => ?_) (fun c_1 => ?_)
  · rw [inB_ix v (by omega)] at c_1
    refine lv_iconst (v := nI (1)) hx hb dX8_character_19 gc_1 ?_
    refine wr_calli (va_runV (As := [.int (nI (1))]) (rest := []) ⟨hx, hb, hml, hown, hts⟩ (c_X8_fails l D cA A (x) (f) (1)  hA (by decide)) (cwV 1 hts (gWV gm_8_23 gm_9_0 gm_9_1 gm_1_5 gm_9_2) rfl rfl rfl (by decide +kernel) ⟨Nat.le_of_ble_eq_true rfl, Nat.le_of_ble_eq_true rfl⟩) (gPreV hK (g_rf hK hP (ci := 10) (q0 := 0) rfl rfl) hP) rfl rfl hl.1 rfl (lv_room (Nat.le_of_ble_eq_true rfl)) dX8_character_20 ⟨by omega, by omega⟩) hS (fun q _ h => h) (fun q h => h) (fun r H locs hw9 hz9 hk9 hS => ?_)
    obtain ⟨rfl, hP⟩ := hw9
    have hP : va_P D vwCl (mw cA A (upd (upd (x) 3 (nI (0))) 4 (nI (1))) (f)) H := hP
    have hD : va_D (MA A) (mw cA A (upd (upd (x) 3 (nI (0))) 4 (nI (1))) (f)) := mD hA
    refine g_if_eq (P := true = false) (tgt := 31) hx hb dX8_character_23 (by decide) b2i_0 (fun c_2 => ?_) (fun c_2 => ?_)
    · exact absurd c_2 (by decide)
    · have c_2 : true = true := eq_true_of_ne_false c_2
      refine lv_bipush (v := nI (32)) hx hb dX8_character_26 gb_32 ?_
      refine lv_goto (tgt := 37) hx hb dX8_character_28 (by decide) ?_
      exact g_cretW (v := nI (32)) hx hb hr hlk (pk_charN (by omega)).1 hS dX8_character_37 (by rw [chO, if_neg (bnt c_1)]; exact ⟨rfl, hP⟩)
  · have c_1 : inB (v) (nI (0)) ((nI (sm)) - (nI (1))) = true := eq_true_of_ne_false c_1
    rw [inB_ix v (by omega)] at c_1
    obtain ⟨j_3, hj_5, ej_4⟩ := isIx_n c_1 (by omega)
    rw [ej_4] at hl
    have hl : lv_has ls 2 [(0, .ref (A 0)), (1, .int (nI (j_3)))] := hl
    refine lv_iconst (v := nI (0)) hx hb dX8_character_15 gc_0 ?_
    refine lv_goto (tgt := 20) hx hb dX8_character_16 (by decide) ?_
    refine wr_calli (va_runV (As := [.int (nI (0))]) (rest := []) ⟨hx, hb, hml, hown, hts⟩ (c_X8_fails l D cA A (x) (f) (0)  hA (by decide)) (cwV 1 hts (gWV gm_8_23 gm_9_0 gm_9_1 gm_1_5 gm_9_2) rfl rfl rfl (by decide +kernel) ⟨Nat.le_of_ble_eq_true rfl, Nat.le_of_ble_eq_true rfl⟩) (gPreV hK (g_rf hK hP (ci := 10) (q0 := 0) rfl rfl) hP) rfl rfl hl.1 rfl (lv_room (Nat.le_of_ble_eq_true rfl)) dX8_character_20 ⟨by omega, by omega⟩) hS (fun q _ h => h) (fun q h => h) (fun r H locs hw9 hz9 hk9 hS => ?_)
    obtain ⟨rfl, hP⟩ := hw9
    have hP : va_P D vwCl (mw cA A (upd (upd (x) 3 (nI (0))) 4 (nI (0))) (f)) H := hP
    have hD : va_D (MA A) (mw cA A (upd (upd (x) 3 (nI (0))) 4 (nI (0))) (f)) := mD hA
    refine g_if_eq (P := false = false) (tgt := 31) hx hb dX8_character_23 (by decide) b2i_0 (fun c_6 => ?_) (fun c_6 => ?_)
    · refine lv_aload_n hx hb dX8_character_31 rfl (lv_at hl 0 rfl) ?_
      refine g_get (v := .ref (A 6)) hx hb hts hown hK hP 0 rfl rfl gu_wsX80 14 (by decide) gm_5_20 rfl dX8_character_32 ?_
      refine lv_iload_n hx hb dX8_character_35 rfl (lv_at hl 1 rfl) ?_
      obtain ⟨c9, hc9, ec9⟩ := hch (j_3) (by omega)
      refine g_cald (x := nI (c9)) hx hb hK hP 6 rfl (by omega) (by decide) ec9 dX8_character_36 ?_
      exact g_cretW (v := nI (c9)) hx hb hr hlk (pk_charN (by omega)).1 hS dX8_character_37 (by have hq9v : v.toNatClampNeg = j_3 := (by rw [ej_4, nI_clamp (by omega)]); rw [chO, hq9v, if_pos c_1, ec9]; exact ⟨rfl, hP⟩)
    · exact absurd c_6 (by decide)

def lpS (panel : Int32) (ts : TS) : Nat → TS
  | 0 => ts
  | k + 1 => if hs panel k = true then tn k (tw (if k = lowM panel then 91 else 44) (lpS panel ts k)) else lpS panel ts k
theorem lpS_2 {panel : Int32} {ts : TS} : ∀ k, k ≤ 10 → ts.2 ≤ (lpS panel ts k).2 ∧ (lpS panel ts k).2 ≤ ts.2 + 2 * k
  | 0, _ => by show ts.2 ≤ ts.2 ∧ ts.2 ≤ ts.2 + 0; omega
  | k + 1, h => by
    have ih := lpS_2 (panel := panel) (ts := ts) k (by omega)
    by_cases q : hs panel k = true
    · rw [lpS, if_pos q, tn_29 (by omega), tw_2]; omega
    · rw [lpS, if_neg q]; omega
def liA (s5 : Nat → Int32) (q mer ter : Nat) : TS := tn ter (tw 64 (tn mer (tw 58 (tn q (s5, 0)))))
def liB (panel : Int32) (s5 : Nat → Int32) (q mer ter jn : Nat) : TS := if panel = 0 then lpS panel (liA s5 q mer ter) jn else tw 93 (lpS panel (liA s5 q mer ter) jn)
def liC (vd : Int32) (ts : TS) : TS := if vd ≤ 0 then ts else if vd = nI 1 then tw 43 ts else tw 45 ts
def liD (cl : Bool) (ts : TS) : TS := if cl = true then tw 33 ts else ts
def lineT (g : Nat → Int32) (s5 : Nat → Int32) (jn q mer ter : Nat) : TS := liD (clM g q) (liC (gof g q 3) (liB (gof g q 2) s5 q mer ter jn))
def rlS (g : Nat → Int32) (cn : Nat) (s5 : Nat → Int32) : Nat → TS
  | 0 => (s5, 0)
  | k + 1 => tn ((raM g cn (nI k)).getD 0) (if k = 0 then rlS g cn s5 k else tw 32 (rlS g cn s5 k))
theorem raM_lt2 {g : Nat → Int32} {cn : Nat} {place : Int32} (h : cn ≤ 10) : (raM g cn place).getD 0 ≤ 9 := by
  cases e : raM g cn place with
  | none => exact Nat.zero_le 9
  | some b => have := raM_lt e; show b ≤ 9; omega
theorem rlS_2 {g : Nat → Int32} {cn : Nat} {s5 : Nat → Int32} (hc : cn ≤ 10) : ∀ k, (rlS g cn s5 k).2 ≤ 2 * k
  | 0 => Nat.le_refl 0
  | k + 1 => by
    have ih := rlS_2 (g := g) (cn := cn) (s5 := s5) hc k
    rw [rlS, tn_29 (raM_lt2 hc)]
    by_cases q : k = 0
    · rw [if_pos q]; omega
    · rw [if_neg q, tw_2]; omega
def lnX (x : Nat → Int32) (ts : TS) : Nat → Int32 := upd (upd (upd x 3 (nI 0)) 4 (nI 0)) 9 (nI ts.2)
def lnO (x : Nat → Int32) (f : Nat → Nat → Int32) (jn cn : Nat) (v : Int32) : Int32 × MX := if isIx v cn = true then (nI (lineT (f 0) (f 5) jn v.toNatClampNeg (gof (f 0) v.toNatClampNeg 0).toNatClampNeg (gof (f 0) v.toNatClampNeg 1).toNatClampNeg).2, (lnX x (lineT (f 0) (f 5) jn v.toNatClampNeg (gof (f 0) v.toNatClampNeg 0).toNatClampNeg (gof (f 0) v.toNatClampNeg 1).toNatClampNeg), va_up f 5 (lineT (f 0) (f 5) jn v.toNatClampNeg (gof (f 0) v.toNatClampNeg 0).toNatClampNeg (gof (f 0) v.toNatClampNeg 1).toNatClampNeg).1)) else (nI 0, (failX x 1, f))

def jw (cA : Nat → ClassId) (J : Nat → Nat) (jf : Nat → Nat → Int32) (jn : Nat) : va_W := [(J 0, .inr (5, [.ref (J 1), .ref (J 2), .ref (J 3), .ref (J 4), .int (nI jn)])), (J 1, .inl (cA 0, 9, .inl (jf 0))), (J 2, .inl (cA 0, 9, .inl (jf 1))), (J 3, .inl (cA 0, 9, .inl (jf 2))), (J 4, .inl (cA 0, 9, .inl (jf 3)))]
def kw (cA : Nat → ClassId) (K : Nat → Nat) (kf : Nat → Nat → Int32) (rw : Nat → Nat) (cn rl : Nat) : va_W := [(K 0, .inr (2, [.ref (K 1), .ref (K 2), .ref (K 3), .ref (K 4), .ref (K 5), .ref (K 6), .ref (K 7), .ref (K 8), .ref (K 9), .int (nI cn), .int (nI rl)])), (K 1, .inl (cA 0, 10, .inl (kf 0))), (K 2, .inl (cA 0, 10, .inl (kf 1))), (K 3, .inl (cA 0, 10, .inl (kf 2))), (K 4, .inl (cA 0, 10, .inl (kf 3))), (K 5, .inl (cA 0, 10, .inl (kf 4))), (K 6, .inl (cA 0, 10, .inl (kf 5))), (K 7, .inl (cA 0, 10, .inl (kf 6))), (K 8, .inl (cA 0, 10, .inl (kf 7))), (K 9, .inl (cA 0, 10, .inl (fun j => nI (rw j))))]
def cw (cA : Nat → ClassId) (A : Nat → Nat) (jf : Nat → Nat → Int32) (jn : Nat) (kf : Nat → Nat → Int32) (rw : Nat → Nat) (cn rl clk ton : Nat) (sd : Int32) : va_W := [(A 0, .inr (3, [.ref (A 1), .ref (A 6), .int (nI clk), .int (nI ton), .int sd])), (A 1, .inr (5, [.ref (A 2), .ref (A 3), .ref (A 4), .ref (A 5), .int (nI jn)])), (A 2, .inl (cA 0, 9, .inl (jf 0))), (A 3, .inl (cA 0, 9, .inl (jf 1))), (A 4, .inl (cA 0, 9, .inl (jf 2))), (A 5, .inl (cA 0, 9, .inl (jf 3))), (A 6, .inr (2, [.ref (A 7), .ref (A 8), .ref (A 9), .ref (A 10), .ref (A 11), .ref (A 12), .ref (A 13), .ref (A 14), .ref (A 15), .int (nI cn), .int (nI rl)])), (A 7, .inl (cA 0, 10, .inl (kf 0))), (A 8, .inl (cA 0, 10, .inl (kf 1))), (A 9, .inl (cA 0, 10, .inl (kf 2))), (A 10, .inl (cA 0, 10, .inl (kf 3))), (A 11, .inl (cA 0, 10, .inl (kf 4))), (A 12, .inl (cA 0, 10, .inl (kf 5))), (A 13, .inl (cA 0, 10, .inl (kf 6))), (A 14, .inl (cA 0, 10, .inl (kf 7))), (A 15, .inl (cA 0, 10, .inl (fun j => nI (rw j))))]

theorem isIx_code (v : Int32) {n : Nat} (hn : n < 2 ^ 31) : isIx v n = decide (0 ≤ v ∧ ¬ nI n ≤ v) := by
  have h1 : (nI n).toInt = (n : Int) := nI_toInt hn
  have h0 : (0 : Int32).toInt = 0 := by decide +kernel
  simp only [isIx, Int32.le_iff_toInt_le, h0, h1]
  congr 1
  apply propext
  omega
def opC (b : Bool) : Nat := if b = true then 1 else 2
theorem opC_le (b : Bool) : opC b ≤ 2 := by cases b <;> decide
theorem opC_1 (b : Bool) : opC b = 1 ↔ b = true := by cases b <;> decide
def vdF (l d : Nat → Int32) (jn : Nat) (panel merit : Int32) : Nat := if 1 < fb_ct (fun k => hs panel k && forB merit (l k) (d k)) jn then 1 else 2
theorem vdF_le (l d : Nat → Int32) (jn : Nat) (panel merit : Int32) : vdF l d jn panel merit ≤ 2 := by unfold vdF; split <;> omega

set_option maxHeartbeats 1000000 in
set_option maxRecDepth 100000 in
theorem c_X7_isIn (l : Launch) (D : va_G) (cA : Nat → ClassId) (v : Int32) (k : Nat)  : Met l yX7_isIn (gw yX7_isIn cX7_isIn 2 (some .boolean)) ({ frames := 0, cells := 0, slots := 0, locals := 0 } : Room) (gPc [.int (v), .int (nI (k))] (fun H => True) D cA) (rdI (fun r => r = b2i (hs v k))) 0 0 nF := by
  refine gOf (by decide) (Nat.le_of_ble_eq_true rfl) ?_
  intro p e s m below meth c ls hx hb hml hr hlk hown hts hnm hP hK hl
  have hl : lv_has ls 2 [(0, .int (v)), (1, .int (nI (k)))] := hl
  refine lv_iload_n hx hb dX7_isIn_0 rfl (lv_at hl 0 rfl) ?_
  refine lv_iload_n hx hb dX7_isIn_1 rfl (lv_at hl 1 rfl) ?_
  refine lv_ishr hx hb dX7_isIn_2 ?_
  refine lv_iconst (v := nI (1)) hx hb dX7_isIn_3 gc_1 ?_
  refine lv_iand hx hb dX7_isIn_4 ?_
  refine lv_iconst (v := nI (1)) hx hb dX7_isIn_5 gc_1 ?_
  refine g_icmp_ne (P := ((v) >>> ((nI (k)) &&& 31)) &&& (nI (1)) = nI (1)) (tgt := 13) hx hb dX7_isIn_6 (by decide) Iff.rfl (fun c_1 => ?_) (fun c_1 => ?_)
  · refine lv_iconst (v := nI (0)) hx hb dX7_isIn_13 gc_0 ?_
    exact g_zret (v := nI (0)) hx hb hr hlk rfl dX7_isIn_14 (by simp [hs, b2i, c_1])
  · refine lv_iconst (v := nI (1)) hx hb dX7_isIn_9 gc_1 ?_
    refine lv_goto (tgt := 14) hx hb dX7_isIn_10 (by decide) ?_
    exact g_zret (v := nI (1)) hx hb hr hlk rfl dX7_isIn_14 (by simp [hs, b2i, c_1])

set_option maxHeartbeats 1000000 in
set_option maxRecDepth 100000 in
theorem c_X3_has (l : Launch) (D : va_G) (cA : Nat → ClassId) (J : Nat → Nat) (jf : Nat → Nat → Int32) (jn : Nat) (v : Int32) (hjn : jn ≤ 9) : Met l yX3_has (gw yX3_has cX3_has 2 (some .boolean)) ({ frames := 0, cells := 0, slots := 0, locals := 0 } : Room) (gPc [.ref (J 0), .int (v)] (fun H => va_P D vwCl (jw cA J jf jn) H) D cA) (rdI (fun r => r = b2i (isIx v jn))) 0 0 nF := by
  refine gOf (by decide) (Nat.le_of_ble_eq_true rfl) ?_
  intro p e s m below meth c ls hx hb hml hr hlk hown hts hnm hP hK hl
  have hl : lv_has ls 2 [(0, .ref (J 0)), (1, .int (v))] := hl
  refine lv_iload_n hx hb dX3_has_0 rfl (lv_at hl 1 rfl) ?_
  refine g_if_lt (P := v < 0) (tgt := 16) hx hb dX3_has_1 (by decide) Iff.rfl (fun c_1 => ?_) (fun c_1 => ?_)
  · have d_1 : ¬ 0 ≤ v := Int32.not_le.mpr c_1
    refine lv_iconst (v := nI (0)) hx hb dX3_has_16 gc_0 ?_
    exact g_zret (v := nI (0)) hx hb hr hlk rfl dX3_has_17 (by rw [isIx_code v (by omega)]; simp [b2i, c_1, d_1])
  · have d_1 : 0 ≤ v := Int32.not_lt.mp c_1
    refine lv_iload_n hx hb dX3_has_4 rfl (lv_at hl 1 rfl) ?_
    refine lv_aload_n hx hb dX3_has_5 rfl (lv_at hl 0 rfl) ?_
    refine g_get (v := .int (nI (jn))) hx hb hts hown hK hP 0 rfl rfl gu_wsX30 4 (by decide) gm_3_13 rfl dX3_has_6 ?_
    refine g_icmp_ge (P := nI (jn) ≤ v) (tgt := 16) hx hb dX3_has_9 (by decide) Iff.rfl (fun c_2 => ?_) (fun c_2 => ?_)
    · have d_2 : ¬ v < nI (jn) := Int32.not_lt.mpr c_2
      refine lv_iconst (v := nI (0)) hx hb dX3_has_16 gc_0 ?_
      exact g_zret (v := nI (0)) hx hb hr hlk rfl dX3_has_17 (by rw [isIx_code v (by omega)]; simp [b2i, c_1, d_1, c_2, d_2])
    · have d_2 : v < nI (jn) := Int32.not_le.mp c_2
      refine lv_iconst (v := nI (1)) hx hb dX3_has_12 gc_1 ?_
      refine lv_goto (tgt := 17) hx hb dX3_has_13 (by decide) ?_
      exact g_zret (v := nI (1)) hx hb hr hlk rfl dX3_has_17 (by rw [isIx_code v (by omega)]; simp [b2i, c_1, d_1, c_2, d_2])

set_option maxHeartbeats 1000000 in
set_option maxRecDepth 100000 in
theorem c_X3_opinion (l : Launch) (D : va_G) (cA : Nat → ClassId) (J : Nat → Nat) (jf : Nat → Nat → Int32) (jn : Nat) (j : Nat) (merit : Int32) (hq : j < 9) : Met l yX3_opinion (gw yX3_opinion cX3_opinion 3 (some .int)) ({ frames := 0, cells := 0, slots := 0, locals := 0 } : Room) (gPc [.ref (J 0), .int (nI (j)), .int (merit)] (fun H => va_P D vwCl (jw cA J jf jn) H) D cA) (rdI (fun r => r = nI (opC (forB merit (jf 0 j) (jf 1 j))))) 0 0 nF := by
  refine gOf (by decide) (Nat.le_of_ble_eq_true rfl) ?_
  intro p e s m below meth c ls hx hb hml hr hlk hown hts hnm hP hK hl
  have hl : lv_has ls 3 [(0, .ref (J 0)), (1, .int (nI (j))), (2, .int (merit))] := hl
  refine lv_iload_n hx hb dX3_opinion_0 rfl (lv_at hl 2 rfl) ?_
  refine lv_iconst (v := nI (5)) hx hb dX3_opinion_1 gc_5 ?_
  refine lv_aload_n hx hb dX3_opinion_2 rfl (lv_at hl 0 rfl) ?_
  refine g_get (v := .ref (J 1)) hx hb hts hown hK hP 0 rfl rfl gu_wsX30 0 (by decide) gm_3_9 rfl dX3_opinion_3 ?_
  refine lv_iload_n hx hb dX3_opinion_6 rfl (lv_at hl 1 rfl) ?_
  refine g_iald (x := jf 0 (j)) hx hb hK hP 1 rfl (by omega) (by decide) rfl dX3_opinion_7 ?_
  refine lv_imul hx hb dX3_opinion_8 ?_
  refine lv_iadd hx hb dX3_opinion_9 ?_
  refine lv_aload_n hx hb dX3_opinion_10 rfl (lv_at hl 0 rfl) ?_
  refine g_get (v := .ref (J 2)) hx hb hts hown hK hP 0 rfl rfl gu_wsX30 1 (by decide) gm_3_10 rfl dX3_opinion_11 ?_
  refine lv_iload_n hx hb dX3_opinion_14 rfl (lv_at hl 1 rfl) ?_
  refine g_iald (x := jf 1 (j)) hx hb hK hP 2 rfl (by omega) (by decide) rfl dX3_opinion_15 ?_
  refine lv_isub hx hb dX3_opinion_16 ?_
  refine lv_bipush (v := nI (50)) hx hb dX3_opinion_17 gb_50 ?_
  refine g_icmp_lt (P := ((merit) + ((nI (5)) * (jf 0 (j)))) - (jf 1 (j)) < nI (50)) (tgt := 26) hx hb dX3_opinion_19 (by decide) Iff.rfl (fun c_1 => ?_) (fun c_1 => ?_)
  · have d_1 : ¬ nI (50) ≤ ((merit) + ((nI (5)) * (jf 0 (j)))) - (jf 1 (j)) := Int32.not_le.mpr c_1
    refine lv_iconst (v := nI (2)) hx hb dX3_opinion_26 gc_2 ?_
    exact g_iret (v := nI (2)) hx hb hr hlk dX3_opinion_27 (by simp [forB, opC, c_1, d_1])
  · have d_1 : nI (50) ≤ ((merit) + ((nI (5)) * (jf 0 (j)))) - (jf 1 (j)) := Int32.not_lt.mp c_1
    refine lv_iconst (v := nI (1)) hx hb dX3_opinion_22 gc_1 ?_
    refine lv_goto (tgt := 27) hx hb dX3_opinion_23 (by decide) ?_
    exact g_iret (v := nI (1)) hx hb hr hlk dX3_opinion_27 (by simp [forB, opC, c_1, d_1])

set_option maxHeartbeats 1000000 in
set_option maxRecDepth 100000 in
theorem c_X3_verdictByCount (l : Launch) (D : va_G) (cA : Nat → ClassId) (J : Nat → Nat) (jf : Nat → Nat → Int32) (jn : Nat) (panel merit : Int32) (hjn : jn ≤ 9) : Met l yX3_verdictByCount (gw yX3_verdictByCount cX3_verdictByCount 5 (some .int)) ({ frames := 1, cells := 0, slots := 0, locals := 22 } : Room) (gPc [.ref (J 0), .int (panel), .int (merit)] (fun H => va_P D vwCl (jw cA J jf jn) H) D cA) (rdI (fun r => r = nI (vdF (jf 0) (jf 1) jn panel merit))) 0 0 nF := by
  refine gOf (by decide) (Nat.le_of_ble_eq_true rfl) ?_
  intro p e s m below meth c ls hx hb hml hr hlk hown hts hnm hP hK hl
  have hl : lv_has ls 5 [(0, .ref (J 0)), (1, .int (panel)), (2, .int (merit))] := hl
  refine lv_iconst (v := nI (0)) hx hb dX3_verdictByCount_0 gc_0 ?_
  refine lv_istore_n (lv' := [(3, .int (nI (0))), (0, .ref (J 0)), (1, .int (panel)), (2, .int (merit))]) hx hb dX3_verdictByCount_1 rfl hl (by decide) rfl (fun ls hl => ?_)
  refine lv_iconst (v := nI (0)) hx hb dX3_verdictByCount_2 gc_0 ?_
  refine lv_istore (lv' := [(4, .int (nI (0))), (3, .int (nI (0))), (0, .ref (J 0)), (1, .int (panel)), (2, .int (merit))]) hx hb dX3_verdictByCount_3 hl (by decide) rfl (fun ls hl => ?_)
  have LP_5 : ∀ (n_2 i_1 : Nat) (x_3 x_4 : Int32), i_1 ≤ jn → jn + 1 ≤ i_1 + n_2 → x_3 = nI (i_1) → x_4 = nI (fb_ct (fun k => hs panel k && forB merit (jf 0 k) (jf 1 k)) i_1) → ∀ (ls : Array Slot), lv_has ls 5 [(4, .int (x_3)), (3, .int (x_4)), (0, .ref (J 0)), (1, .int (panel)), (2, .int (merit))] → W p l e ({ frames := 1, cells := 0, slots := 0, locals := 22 } : Room) s m ([.ref (J 0), .int (panel), .int (merit)] : List Value).toArray below meth c s.heap [] 0 0 (MQ below (rdI (fun r => r = nI (vdF (jf 0) (jf 1) jn panel merit))) ([.ref (J 0), .int (panel), .int (merit)] : List Value).toArray s 0 0 nF) (F0 m 5 ls []) := by
    intro n_2
    induction n_2 with
    | zero => intro i_1 x_3 x_4 h1 h2; exact absurd h2 (by omega)
    | succ n_2 ih_8 =>
      intro i_1 x_3 x_4 h_9 h_10 e_6 e_7  ls hl
      subst e_6
      subst e_7
      refine lv_iload hx hb dX3_verdictByCount_5 (lv_at hl 0 rfl) ?_
      refine lv_aload_n hx hb dX3_verdictByCount_7 rfl (lv_at hl 2 rfl) ?_
      refine g_get (v := .int (nI (jn))) hx hb hts hown hK hP 0 rfl rfl gu_wsX30 4 (by decide) gm_3_13 rfl dX3_verdictByCount_8 ?_
      refine g_icmp_ge (P := jn ≤ i_1) (tgt := 43) hx hb dX3_verdictByCount_11 (by decide) (nI_leI (by omega) (by omega)) (fun c_11 => ?_) (fun c_11 => ?_)
      · have d_11 : ¬ i_1 < jn := Nat.not_lt.mpr c_11
        have hN_12 : jn = i_1 := by omega
        subst hN_12
        refine lv_iload_n hx hb dX3_verdictByCount_43 rfl (lv_at hl 1 rfl) ?_
        refine lv_iconst (v := nI (2)) hx hb dX3_verdictByCount_44 gc_2 ?_
        have hle_13 := fb_ct_le (fun k => hs panel k && forB merit (jf 0 k) (jf 1 k)) jn
        refine g_icmp_lt (P := fb_ct (fun k => hs panel k && forB merit (jf 0 k) (jf 1 k)) (jn) < 2) (tgt := 52) hx hb dX3_verdictByCount_45 (by decide) (nI_ltI (by omega) (by omega)) (fun c_14 => ?_) (fun c_14 => ?_)
        · have d_14 : ¬ 2 ≤ fb_ct (fun k => hs panel k && forB merit (jf 0 k) (jf 1 k)) (jn) := Nat.not_le.mpr c_14
          refine lv_iconst (v := nI (2)) hx hb dX3_verdictByCount_52 gc_2 ?_
          exact g_iret (v := nI (2)) hx hb hr hlk dX3_verdictByCount_53 (by simp [vdF, c_11, d_11, c_14, d_14] <;> omega)
        · have d_14 : 2 ≤ fb_ct (fun k => hs panel k && forB merit (jf 0 k) (jf 1 k)) (jn) := Nat.not_lt.mp c_14
          refine lv_iconst (v := nI (1)) hx hb dX3_verdictByCount_48 gc_1 ?_
          refine lv_goto (tgt := 53) hx hb dX3_verdictByCount_49 (by decide) ?_
          exact g_iret (v := nI (1)) hx hb hr hlk dX3_verdictByCount_53 (by simp [vdF, c_11, d_11, c_14, d_14] <;> omega)
      · have d_11 : i_1 < jn := Nat.not_le.mp c_11
        refine lv_iload_n hx hb dX3_verdictByCount_14 rfl (lv_at hl 3 rfl) ?_
        refine lv_iload hx hb dX3_verdictByCount_15 (lv_at hl 0 rfl) ?_
        refine rd_calle (va_runSN (As := [.int (panel), .int (nI (i_1))]) (rest := []) ⟨hx, hb, hml, hown, hts⟩ (c_X7_isIn l D cA (panel) (i_1)) ⟨(va_cnB 2 hts (gWN gm_12_9) rfl rfl rfl (hK.2 _ (List.mem_of_getElem? (i := 10) rfl)) (hts _ (List.mem_cons_of_mem _ gm_1_2)) (by decide +kernel) ⟨Nat.le_of_ble_eq_true rfl, Nat.le_of_ble_eq_true rfl⟩), hts _ (List.mem_cons_of_mem _ gm_12_8), trivial⟩ (gPreS hK trivial) rfl rfl hl.1 rfl (lv_room (Nat.le_of_ble_eq_true rfl)) dX3_verdictByCount_17 ⟨by omega, by omega⟩) ?_
        refine g_if_eq (P := hs (panel) (i_1) = false) (tgt := 37) hx hb dX3_verdictByCount_20 (by decide) b2i_0 (fun c_15 => ?_) (fun c_15 => ?_)
        · refine lv_iinc (v := nI (i_1 + 1)) (lv' := [(4, .int (nI (i_1 + 1))), (3, .int (nI (fb_ct (fun k => hs panel k && forB merit (jf 0 k) (jf 1 k)) i_1))), (0, .ref (J 0)), (1, .int (panel)), (2, .int (merit))]) hx hb dX3_verdictByCount_37 hl (k := 0) rfl (inc_1 _) (by decide) rfl (fun ls hl => ?_)
          refine lv_goto (tgt := 5) hx hb dX3_verdictByCount_40 (by decide) ?_
          exact ih_8 (i_1 + 1) _ _ (by omega) (by omega) rfl (by rw [fb_ct_succ]; simp [c_11, d_11, c_15] <;> simp_all [opC_1])  ls (lv_sub hl [0, 1, 2, 3, 4] rfl)
        · have c_15 : hs (panel) (i_1) = true := eq_true_of_ne_false c_15
          refine lv_aload_n hx hb dX3_verdictByCount_23 rfl (lv_at hl 2 rfl) ?_
          refine lv_iload hx hb dX3_verdictByCount_24 (lv_at hl 0 rfl) ?_
          refine lv_iload_n hx hb dX3_verdictByCount_26 rfl (lv_at hl 4 rfl) ?_
          refine rd_calle (va_runV (As := [.int (nI (i_1)), .int (merit)]) (rest := []) ⟨hx, hb, hml, hown, hts⟩ (c_X3_opinion l D cA J jf jn (i_1) (merit) (by omega)) (cwV 2 hts (gWV gm_16_19 gm_16_20 gm_16_21 gm_2_5 gm_16_22) rfl rfl rfl (by decide +kernel) ⟨Nat.le_of_ble_eq_true rfl, Nat.le_of_ble_eq_true rfl⟩) (gPreV hK (g_rf hK hP (ci := 5) (q0 := 0) rfl rfl) hP) rfl rfl hl.1 rfl (lv_room (Nat.le_of_ble_eq_true rfl)) dX3_verdictByCount_27 ⟨by omega, by omega⟩) ?_
          refine lv_iconst (v := nI (1)) hx hb dX3_verdictByCount_30 gc_1 ?_
          have hle_16 := opC_le (forB merit (jf 0 (i_1)) (jf 1 (i_1)))
          refine g_icmp_ne (P := opC (forB (merit) (jf 0 (i_1)) (jf 1 (i_1))) = 1) (tgt := 37) hx hb dX3_verdictByCount_31 (by decide) (nI_eq (by omega) (by omega)) (fun c_17 => ?_) (fun c_17 => ?_)
          · refine lv_iinc (v := nI (i_1 + 1)) (lv' := [(4, .int (nI (i_1 + 1))), (3, .int (nI (fb_ct (fun k => hs panel k && forB merit (jf 0 k) (jf 1 k)) i_1))), (0, .ref (J 0)), (1, .int (panel)), (2, .int (merit))]) hx hb dX3_verdictByCount_37 hl (k := 0) rfl (inc_1 _) (by decide) rfl (fun ls hl => ?_)
            refine lv_goto (tgt := 5) hx hb dX3_verdictByCount_40 (by decide) ?_
            exact ih_8 (i_1 + 1) _ _ (by omega) (by omega) rfl (by rw [fb_ct_succ]; simp [c_11, d_11, c_15, c_17] <;> simp_all [opC_1])  ls (lv_sub hl [0, 1, 2, 3, 4] rfl)
          · refine lv_iinc (v := nI (fb_ct (fun k => hs panel k && forB merit (jf 0 k) (jf 1 k)) i_1 + 1)) (lv' := [(3, .int (nI (fb_ct (fun k => hs panel k && forB merit (jf 0 k) (jf 1 k)) i_1 + 1))), (4, .int (nI (i_1))), (0, .ref (J 0)), (1, .int (panel)), (2, .int (merit))]) hx hb dX3_verdictByCount_34 hl (k := 1) rfl (inc_1 _) (by decide) rfl (fun ls hl => ?_)
            refine lv_iinc (v := nI (i_1 + 1)) (lv' := [(4, .int (nI (i_1 + 1))), (3, .int (nI (fb_ct (fun k => hs panel k && forB merit (jf 0 k) (jf 1 k)) i_1 + 1))), (0, .ref (J 0)), (1, .int (panel)), (2, .int (merit))]) hx hb dX3_verdictByCount_37 hl (k := 1) rfl (inc_1 _) (by decide) rfl (fun ls hl => ?_)
            refine lv_goto (tgt := 5) hx hb dX3_verdictByCount_40 (by decide) ?_
            exact ih_8 (i_1 + 1) _ _ (by omega) (by omega) rfl (by rw [fb_ct_succ]; simp [c_11, d_11, c_15, c_17] <;> simp_all [opC_1])  ls (lv_sub hl [0, 1, 2, 3, 4] rfl)
  exact LP_5 (jn + 1) 0 _ _ (by omega) (by omega) rfl rfl  ls (lv_sub hl [0, 1, 2, 3, 4] rfl)

set_option maxHeartbeats 1000000 in
set_option maxRecDepth 100000 in
theorem c_X3_lowestOf (l : Launch) (D : va_G) (cA : Nat → ClassId) (J : Nat → Nat) (jf : Nat → Nat → Int32) (jn : Nat) (panel : Int32) (hjn : jn ≤ 9) : Met l yX3_lowestOf (gw yX3_lowestOf cX3_lowestOf 3 (some .int)) ({ frames := 1, cells := 0, slots := 0, locals := 21 } : Room) (gPc [.ref (J 0), .int (panel)] (fun H => va_P D vwCl (jw cA J jf jn) H) D cA) (rdI (fun r => r = oI (fnd (hs panel) jn))) 0 0 nF := by
  refine gOf (by decide) (Nat.le_of_ble_eq_true rfl) ?_
  intro p e s m below meth c ls hx hb hml hr hlk hown hts hnm hP hK hl
  have hl : lv_has ls 3 [(0, .ref (J 0)), (1, .int (panel))] := hl
  refine lv_iconst (v := nI (0)) hx hb dX3_lowestOf_0 gc_0 ?_
  refine lv_istore_n (lv' := [(2, .int (nI (0))), (0, .ref (J 0)), (1, .int (panel))]) hx hb dX3_lowestOf_1 rfl hl (by decide) rfl (fun ls hl => ?_)
  have LP_4 : ∀ (n_2 i_1 : Nat) (x_3 : Int32), i_1 ≤ jn → jn + 1 ≤ i_1 + n_2 → x_3 = nI (i_1) → fnd (hs panel) (i_1) = none → ∀ (ls : Array Slot), lv_has ls 3 [(2, .int (x_3)), (0, .ref (J 0)), (1, .int (panel))] → W p l e ({ frames := 1, cells := 0, slots := 0, locals := 21 } : Room) s m ([.ref (J 0), .int (panel)] : List Value).toArray below meth c s.heap [] 0 0 (MQ below (rdI (fun r => r = oI (fnd (hs panel) jn))) ([.ref (J 0), .int (panel)] : List Value).toArray s 0 0 nF) (F0 m 2 ls []) := by
    intro n_2
    induction n_2 with
    | zero => intro i_1 x_3 h1 h2; exact absurd h2 (by omega)
    | succ n_2 ih_6 =>
      intro i_1 x_3 h_7 h_8 e_5 hv ls hl
      subst e_5
      refine lv_iload_n hx hb dX3_lowestOf_2 rfl (lv_at hl 0 rfl) ?_
      refine lv_aload_n hx hb dX3_lowestOf_3 rfl (lv_at hl 1 rfl) ?_
      refine g_get (v := .int (nI (jn))) hx hb hts hown hK hP 0 rfl rfl gu_wsX30 4 (by decide) gm_3_13 rfl dX3_lowestOf_4 ?_
      refine g_icmp_ge (P := jn ≤ i_1) (tgt := 26) hx hb dX3_lowestOf_7 (by decide) (nI_leI (by omega) (by omega)) (fun c_9 => ?_) (fun c_9 => ?_)
      · have d_9 : ¬ i_1 < jn := Nat.not_lt.mpr c_9
        have hN_10 : jn = i_1 := by omega
        subst hN_10
        refine lv_iconst (v := -1) hx hb dX3_lowestOf_26 gc_m1 ?_
        exact g_iret (v := -1) hx hb hr hlk dX3_lowestOf_27 (by rw [hv]; rfl)
      · have d_9 : i_1 < jn := Nat.not_le.mp c_9
        refine lv_iload_n hx hb dX3_lowestOf_10 rfl (lv_at hl 2 rfl) ?_
        refine lv_iload_n hx hb dX3_lowestOf_11 rfl (lv_at hl 0 rfl) ?_
        refine rd_calle (va_runSN (As := [.int (panel), .int (nI (i_1))]) (rest := []) ⟨hx, hb, hml, hown, hts⟩ (c_X7_isIn l D cA (panel) (i_1)) ⟨(va_cnB 2 hts (gWN gm_12_9) rfl rfl rfl (hK.2 _ (List.mem_of_getElem? (i := 10) rfl)) (hts _ (List.mem_cons_of_mem _ gm_1_2)) (by decide +kernel) ⟨Nat.le_of_ble_eq_true rfl, Nat.le_of_ble_eq_true rfl⟩), hts _ (List.mem_cons_of_mem _ gm_12_8), trivial⟩ (gPreS hK trivial) rfl rfl hl.1 rfl (lv_room (Nat.le_of_ble_eq_true rfl)) dX3_lowestOf_12 ⟨by omega, by omega⟩) ?_
        refine g_if_eq (P := hs (panel) (i_1) = false) (tgt := 20) hx hb dX3_lowestOf_15 (by decide) b2i_0 (fun c_11 => ?_) (fun c_11 => ?_)
        · refine lv_iinc (v := nI (i_1 + 1)) (lv' := [(2, .int (nI (i_1 + 1))), (0, .ref (J 0)), (1, .int (panel))]) hx hb dX3_lowestOf_20 hl (k := 0) rfl (inc_1 _) (by decide) rfl (fun ls hl => ?_)
          refine lv_goto (tgt := 2) hx hb dX3_lowestOf_23 (by decide) ?_
          exact ih_6 (i_1 + 1) _ (by omega) (by omega) rfl (fnd_succ_none hv (by simp [c_9, d_9, c_11] <;> omega)) ls (lv_sub hl [0, 1, 2] rfl)
        · have c_11 : hs (panel) (i_1) = true := eq_true_of_ne_false c_11
          refine lv_iload_n hx hb dX3_lowestOf_18 rfl (lv_at hl 0 rfl) ?_
          exact g_iret (v := nI (i_1)) hx hb hr hlk dX3_lowestOf_19 (by rw [fnd_stop hv (by simp [c_9, d_9, c_11]) jn (by omega)]; rfl)
  exact LP_4 (jn + 1) 0 _ (by omega) (by omega) rfl rfl ls (lv_sub hl [0, 1, 2] rfl)

def dbF (d : Nat → Int32) (jn : Nat) (panel : Int32) : Option Nat := bst (hs panel) (fun k b => decide (¬ d k ≤ d b)) jn
def mdF (l d : Nat → Int32) (a b : Nat) : Bool := if d a = d b then decide (¬ l a ≤ l b) else decide (¬ d a ≤ d b)
def fdF (l d : Nat → Int32) (jn : Nat) (out : Int32) : Option Nat := bst (fun k => !hs out k) (mdF l d) jn

set_option maxHeartbeats 1000000 in
set_option maxRecDepth 100000 in
theorem c_X3_mostDoubtfulOf (l : Launch) (D : va_G) (cA : Nat → ClassId) (J : Nat → Nat) (jf : Nat → Nat → Int32) (jn : Nat) (panel : Int32) (hjn : jn ≤ 9) : Met l yX3_mostDoubtfulOf (gw yX3_mostDoubtfulOf cX3_mostDoubtfulOf 4 (some .int)) ({ frames := 1, cells := 0, slots := 0, locals := 21 } : Room) (gPc [.ref (J 0), .int (panel)] (fun H => va_P D vwCl (jw cA J jf jn) H) D cA) (rdI (fun r => r = oI (dbF (jf 1) jn panel))) 0 0 nF := by
  refine gOf (by decide) (Nat.le_of_ble_eq_true rfl) ?_
  intro p e s m below meth c ls hx hb hml hr hlk hown hts hnm hP hK hl
  have hl : lv_has ls 4 [(0, .ref (J 0)), (1, .int (panel))] := hl
  refine lv_iconst (v := -1) hx hb dX3_mostDoubtfulOf_0 gc_m1 ?_
  refine lv_istore_n (lv' := [(2, .int (-1)), (0, .ref (J 0)), (1, .int (panel))]) hx hb dX3_mostDoubtfulOf_1 rfl hl (by decide) rfl (fun ls hl => ?_)
  refine lv_iconst (v := nI (0)) hx hb dX3_mostDoubtfulOf_2 gc_0 ?_
  refine lv_istore_n (lv' := [(3, .int (nI (0))), (2, .int (-1)), (0, .ref (J 0)), (1, .int (panel))]) hx hb dX3_mostDoubtfulOf_3 rfl hl (by decide) rfl (fun ls hl => ?_)
  have LP_5 : ∀ (n_2 i_1 : Nat) (x_3 x_4 : Int32), i_1 ≤ jn → jn + 1 ≤ i_1 + n_2 → x_3 = nI (i_1) → x_4 = oI (bst (hs panel) (fun k b => decide (¬ jf 1 k ≤ jf 1 b)) i_1) → ∀ (ls : Array Slot), lv_has ls 4 [(3, .int (x_3)), (2, .int (x_4)), (0, .ref (J 0)), (1, .int (panel))] → W p l e ({ frames := 1, cells := 0, slots := 0, locals := 21 } : Room) s m ([.ref (J 0), .int (panel)] : List Value).toArray below meth c s.heap [] 0 0 (MQ below (rdI (fun r => r = oI (dbF (jf 1) jn panel))) ([.ref (J 0), .int (panel)] : List Value).toArray s 0 0 nF) (F0 m 4 ls []) := by
    intro n_2
    induction n_2 with
    | zero => intro i_1 x_3 x_4 h1 h2; exact absurd h2 (by omega)
    | succ n_2 ih_8 =>
      intro i_1 x_3 x_4 h_9 h_10 e_6 e_7  ls hl
      subst e_6
      subst e_7
      refine lv_iload_n hx hb dX3_mostDoubtfulOf_4 rfl (lv_at hl 0 rfl) ?_
      refine lv_aload_n hx hb dX3_mostDoubtfulOf_5 rfl (lv_at hl 2 rfl) ?_
      refine g_get (v := .int (nI (jn))) hx hb hts hown hK hP 0 rfl rfl gu_wsX30 4 (by decide) gm_3_13 rfl dX3_mostDoubtfulOf_6 ?_
      refine g_icmp_ge (P := jn ≤ i_1) (tgt := 48) hx hb dX3_mostDoubtfulOf_9 (by decide) (nI_leI (by omega) (by omega)) (fun c_11 => ?_) (fun c_11 => ?_)
      · have d_11 : ¬ i_1 < jn := Nat.not_lt.mpr c_11
        have hN_12 : jn = i_1 := by omega
        subst hN_12
        refine lv_iload_n hx hb dX3_mostDoubtfulOf_48 rfl (lv_at hl 1 rfl) ?_
        exact g_iret (v := oI (bst (hs panel) (fun k b => decide (¬ jf 1 k ≤ jf 1 b)) (jn))) hx hb hr hlk dX3_mostDoubtfulOf_49 (rfl)
      · have d_11 : i_1 < jn := Nat.not_le.mp c_11
        refine lv_iload_n hx hb dX3_mostDoubtfulOf_12 rfl (lv_at hl 3 rfl) ?_
        refine lv_iload_n hx hb dX3_mostDoubtfulOf_13 rfl (lv_at hl 0 rfl) ?_
        refine rd_calle (va_runSN (As := [.int (panel), .int (nI (i_1))]) (rest := []) ⟨hx, hb, hml, hown, hts⟩ (c_X7_isIn l D cA (panel) (i_1)) ⟨(va_cnB 2 hts (gWN gm_12_9) rfl rfl rfl (hK.2 _ (List.mem_of_getElem? (i := 10) rfl)) (hts _ (List.mem_cons_of_mem _ gm_1_2)) (by decide +kernel) ⟨Nat.le_of_ble_eq_true rfl, Nat.le_of_ble_eq_true rfl⟩), hts _ (List.mem_cons_of_mem _ gm_12_8), trivial⟩ (gPreS hK trivial) rfl rfl hl.1 rfl (lv_room (Nat.le_of_ble_eq_true rfl)) dX3_mostDoubtfulOf_14 ⟨by omega, by omega⟩) ?_
        refine g_if_eq (P := hs (panel) (i_1) = false) (tgt := 42) hx hb dX3_mostDoubtfulOf_17 (by decide) b2i_0 (fun c_13 => ?_) (fun c_13 => ?_)
        · refine lv_iinc (v := nI (i_1 + 1)) (lv' := [(3, .int (nI (i_1 + 1))), (2, .int (oI (bst (hs panel) (fun k b => decide (¬ jf 1 k ≤ jf 1 b)) i_1))), (0, .ref (J 0)), (1, .int (panel))]) hx hb dX3_mostDoubtfulOf_42 hl (k := 0) rfl (inc_1 _) (by decide) rfl (fun ls hl => ?_)
          refine lv_goto (tgt := 4) hx hb dX3_mostDoubtfulOf_45 (by decide) ?_
          exact ih_8 (i_1 + 1) _ _ (by omega) (by omega) rfl (by rw [bst_no (by simp [c_13])])  ls (lv_sub hl [0, 1, 2, 3] rfl)
        · have c_13 : hs (panel) (i_1) = true := eq_true_of_ne_false c_13
          refine lv_iload_n hx hb dX3_mostDoubtfulOf_20 rfl (lv_at hl 1 rfl) ?_
          refine lv_iconst (v := -1) hx hb dX3_mostDoubtfulOf_21 gc_m1 ?_
          refine g_icmp_eq (P := bst (hs panel) (fun k b => decide (¬ jf 1 k ≤ jf 1 b)) i_1 = none) (tgt := 40) hx hb dX3_mostDoubtfulOf_22 (by decide) (oI_m1 (fun b q => by have := bst_lt q; omega)) (fun c_14 => ?_) (fun c_14 => ?_)
          · refine lv_iload_n hx hb dX3_mostDoubtfulOf_40 rfl (lv_at hl 0 rfl) ?_
            refine lv_istore_n (lv' := [(2, .int (nI (i_1))), (3, .int (nI (i_1))), (0, .ref (J 0)), (1, .int (panel))]) hx hb dX3_mostDoubtfulOf_41 rfl hl (by decide) rfl (fun ls hl => ?_)
            refine lv_iinc (v := nI (i_1 + 1)) (lv' := [(3, .int (nI (i_1 + 1))), (2, .int (nI (i_1))), (0, .ref (J 0)), (1, .int (panel))]) hx hb dX3_mostDoubtfulOf_42 hl (k := 1) rfl (inc_1 _) (by decide) rfl (fun ls hl => ?_)
            refine lv_goto (tgt := 4) hx hb dX3_mostDoubtfulOf_45 (by decide) ?_
            exact ih_8 (i_1 + 1) _ _ (by omega) (by omega) rfl (by rw [bst_new (by simp [c_13]) c_14]; rfl)  ls (lv_sub hl [0, 1, 2, 3] rfl)
          · obtain ⟨b_15, eb_16⟩ := o_some c_14
            have hb_17 := bst_lt eb_16
            rw [eb_16] at hl
            have hl : lv_has ls 4 [(3, .int (nI (i_1))), (2, .int (nI (b_15))), (0, .ref (J 0)), (1, .int (panel))] := hl
            refine lv_aload_n hx hb dX3_mostDoubtfulOf_25 rfl (lv_at hl 2 rfl) ?_
            refine g_get (v := .ref (J 2)) hx hb hts hown hK hP 0 rfl rfl gu_wsX30 1 (by decide) gm_3_10 rfl dX3_mostDoubtfulOf_26 ?_
            refine lv_iload_n hx hb dX3_mostDoubtfulOf_29 rfl (lv_at hl 0 rfl) ?_
            refine g_iald (x := jf 1 (i_1)) hx hb hK hP 2 rfl (by omega) (by decide) rfl dX3_mostDoubtfulOf_30 ?_
            refine lv_aload_n hx hb dX3_mostDoubtfulOf_31 rfl (lv_at hl 2 rfl) ?_
            refine g_get (v := .ref (J 2)) hx hb hts hown hK hP 0 rfl rfl gu_wsX30 1 (by decide) gm_3_10 rfl dX3_mostDoubtfulOf_32 ?_
            refine lv_iload_n hx hb dX3_mostDoubtfulOf_35 rfl (lv_at hl 1 rfl) ?_
            refine g_iald (x := jf 1 (b_15)) hx hb hK hP 2 rfl (by omega) (by decide) rfl dX3_mostDoubtfulOf_36 ?_
            refine g_icmp_le (P := jf 1 (i_1) ≤ jf 1 (b_15)) (tgt := 42) hx hb dX3_mostDoubtfulOf_37 (by decide) Iff.rfl (fun c_18 => ?_) (fun c_18 => ?_)
            · have d_18 : ¬ jf 1 (b_15) < jf 1 (i_1) := Int32.not_lt.mpr c_18
              refine lv_iinc (v := nI (i_1 + 1)) (lv' := [(3, .int (nI (i_1 + 1))), (2, .int (nI (b_15))), (0, .ref (J 0)), (1, .int (panel))]) hx hb dX3_mostDoubtfulOf_42 hl (k := 0) rfl (inc_1 _) (by decide) rfl (fun ls hl => ?_)
              refine lv_goto (tgt := 4) hx hb dX3_mostDoubtfulOf_45 (by decide) ?_
              exact ih_8 (i_1 + 1) _ _ (by omega) (by omega) rfl (by rw [bst_lose (by simp [c_13]) eb_16 (by simp [c_18])]; rfl)  ls (lv_sub hl [0, 1, 2, 3] rfl)
            · have d_18 : jf 1 (b_15) < jf 1 (i_1) := Int32.not_le.mp c_18
              refine lv_iload_n hx hb dX3_mostDoubtfulOf_40 rfl (lv_at hl 0 rfl) ?_
              refine lv_istore_n (lv' := [(2, .int (nI (i_1))), (3, .int (nI (i_1))), (0, .ref (J 0)), (1, .int (panel))]) hx hb dX3_mostDoubtfulOf_41 rfl hl (by decide) rfl (fun ls hl => ?_)
              refine lv_iinc (v := nI (i_1 + 1)) (lv' := [(3, .int (nI (i_1 + 1))), (2, .int (nI (i_1))), (0, .ref (J 0)), (1, .int (panel))]) hx hb dX3_mostDoubtfulOf_42 hl (k := 1) rfl (inc_1 _) (by decide) rfl (fun ls hl => ?_)
              refine lv_goto (tgt := 4) hx hb dX3_mostDoubtfulOf_45 (by decide) ?_
              exact ih_8 (i_1 + 1) _ _ (by omega) (by omega) rfl (by rw [bst_win (by simp [c_13]) eb_16 (by simp [c_18])]; rfl)  ls (lv_sub hl [0, 1, 2, 3] rfl)
  exact LP_5 (jn + 1) 0 _ _ (by omega) (by omega) rfl rfl  ls (lv_sub hl [0, 1, 2, 3] rfl)

set_option maxHeartbeats 1000000 in
set_option maxRecDepth 100000 in
theorem c_X3_isMoreDoubtful (l : Launch) (D : va_G) (cA : Nat → ClassId) (J : Nat → Nat) (jf : Nat → Nat → Int32) (jn : Nat) (a b : Nat) (ha : a < 9) (hb_ : b < 9) : Met l yX3_isMoreDoubtful (gw yX3_isMoreDoubtful cX3_isMoreDoubtful 3 (some .boolean)) ({ frames := 0, cells := 0, slots := 0, locals := 0 } : Room) (gPc [.ref (J 0), .int (nI (a)), .int (nI (b))] (fun H => va_P D vwCl (jw cA J jf jn) H) D cA) (rdI (fun r => r = b2i (mdF (jf 0) (jf 1) a b))) 0 0 nF := by
  refine gOf (by decide) (Nat.le_of_ble_eq_true rfl) ?_
  intro p e s m below meth c ls hx hb hml hr hlk hown hts hnm hP hK hl
  have hl : lv_has ls 3 [(0, .ref (J 0)), (1, .int (nI (a))), (2, .int (nI (b)))] := hl
  refine lv_aload_n hx hb dX3_isMoreDoubtful_0 rfl (lv_at hl 0 rfl) ?_
  refine g_get (v := .ref (J 2)) hx hb hts hown hK hP 0 rfl rfl gu_wsX30 1 (by decide) gm_3_10 rfl dX3_isMoreDoubtful_1 ?_
  refine lv_iload_n hx hb dX3_isMoreDoubtful_4 rfl (lv_at hl 1 rfl) ?_
  refine g_iald (x := jf 1 (a)) hx hb hK hP 2 rfl (by omega) (by decide) rfl dX3_isMoreDoubtful_5 ?_
  refine lv_aload_n hx hb dX3_isMoreDoubtful_6 rfl (lv_at hl 0 rfl) ?_
  refine g_get (v := .ref (J 2)) hx hb hts hown hK hP 0 rfl rfl gu_wsX30 1 (by decide) gm_3_10 rfl dX3_isMoreDoubtful_7 ?_
  refine lv_iload_n hx hb dX3_isMoreDoubtful_10 rfl (lv_at hl 2 rfl) ?_
  refine g_iald (x := jf 1 (b)) hx hb hK hP 2 rfl (by omega) (by decide) rfl dX3_isMoreDoubtful_11 ?_
  refine g_icmp_eq (P := jf 1 (a) = jf 1 (b)) (tgt := 36) hx hb dX3_isMoreDoubtful_12 (by decide) Iff.rfl (fun c_1 => ?_) (fun c_1 => ?_)
  · refine lv_aload_n hx hb dX3_isMoreDoubtful_36 rfl (lv_at hl 0 rfl) ?_
    refine g_get (v := .ref (J 1)) hx hb hts hown hK hP 0 rfl rfl gu_wsX30 0 (by decide) gm_3_9 rfl dX3_isMoreDoubtful_37 ?_
    refine lv_iload_n hx hb dX3_isMoreDoubtful_40 rfl (lv_at hl 1 rfl) ?_
    refine g_iald (x := jf 0 (a)) hx hb hK hP 1 rfl (by omega) (by decide) rfl dX3_isMoreDoubtful_41 ?_
    refine lv_aload_n hx hb dX3_isMoreDoubtful_42 rfl (lv_at hl 0 rfl) ?_
    refine g_get (v := .ref (J 1)) hx hb hts hown hK hP 0 rfl rfl gu_wsX30 0 (by decide) gm_3_9 rfl dX3_isMoreDoubtful_43 ?_
    refine lv_iload_n hx hb dX3_isMoreDoubtful_46 rfl (lv_at hl 2 rfl) ?_
    refine g_iald (x := jf 0 (b)) hx hb hK hP 1 rfl (by omega) (by decide) rfl dX3_isMoreDoubtful_47 ?_
    refine g_icmp_le (P := jf 0 (a) ≤ jf 0 (b)) (tgt := 55) hx hb dX3_isMoreDoubtful_48 (by decide) Iff.rfl (fun c_2 => ?_) (fun c_2 => ?_)
    · have d_2 : ¬ jf 0 (b) < jf 0 (a) := Int32.not_lt.mpr c_2
      refine lv_iconst (v := nI (0)) hx hb dX3_isMoreDoubtful_55 gc_0 ?_
      exact g_zret (v := nI (0)) hx hb hr hlk rfl dX3_isMoreDoubtful_56 (by simp [mdF, b2i, c_1, c_2, d_2])
    · have d_2 : jf 0 (b) < jf 0 (a) := Int32.not_le.mp c_2
      refine lv_iconst (v := nI (1)) hx hb dX3_isMoreDoubtful_51 gc_1 ?_
      refine lv_goto (tgt := 56) hx hb dX3_isMoreDoubtful_52 (by decide) ?_
      exact g_zret (v := nI (1)) hx hb hr hlk rfl dX3_isMoreDoubtful_56 (by simp [mdF, b2i, c_1, c_2, d_2])
  · refine lv_aload_n hx hb dX3_isMoreDoubtful_15 rfl (lv_at hl 0 rfl) ?_
    refine g_get (v := .ref (J 2)) hx hb hts hown hK hP 0 rfl rfl gu_wsX30 1 (by decide) gm_3_10 rfl dX3_isMoreDoubtful_16 ?_
    refine lv_iload_n hx hb dX3_isMoreDoubtful_19 rfl (lv_at hl 1 rfl) ?_
    refine g_iald (x := jf 1 (a)) hx hb hK hP 2 rfl (by omega) (by decide) rfl dX3_isMoreDoubtful_20 ?_
    refine lv_aload_n hx hb dX3_isMoreDoubtful_21 rfl (lv_at hl 0 rfl) ?_
    refine g_get (v := .ref (J 2)) hx hb hts hown hK hP 0 rfl rfl gu_wsX30 1 (by decide) gm_3_10 rfl dX3_isMoreDoubtful_22 ?_
    refine lv_iload_n hx hb dX3_isMoreDoubtful_25 rfl (lv_at hl 2 rfl) ?_
    refine g_iald (x := jf 1 (b)) hx hb hK hP 2 rfl (by omega) (by decide) rfl dX3_isMoreDoubtful_26 ?_
    refine g_icmp_le (P := jf 1 (a) ≤ jf 1 (b)) (tgt := 34) hx hb dX3_isMoreDoubtful_27 (by decide) Iff.rfl (fun c_3 => ?_) (fun c_3 => ?_)
    · have d_3 : ¬ jf 1 (b) < jf 1 (a) := Int32.not_lt.mpr c_3
      refine lv_iconst (v := nI (0)) hx hb dX3_isMoreDoubtful_34 gc_0 ?_
      exact g_zret (v := nI (0)) hx hb hr hlk rfl dX3_isMoreDoubtful_35 (by simp [mdF, b2i, c_1, c_3, d_3])
    · have d_3 : jf 1 (b) < jf 1 (a) := Int32.not_le.mp c_3
      refine lv_iconst (v := nI (1)) hx hb dX3_isMoreDoubtful_30 gc_1 ?_
      refine lv_goto (tgt := 35) hx hb dX3_isMoreDoubtful_31 (by decide) ?_
      exact g_zret (v := nI (1)) hx hb hr hlk rfl dX3_isMoreDoubtful_35 (by simp [mdF, b2i, c_1, c_3, d_3])

set_option maxHeartbeats 1000000 in
set_option maxRecDepth 100000 in
theorem c_X3_firstDoubtful (l : Launch) (D : va_G) (cA : Nat → ClassId) (J : Nat → Nat) (jf : Nat → Nat → Int32) (jn : Nat) (out : Int32) (hjn : jn ≤ 9) : Met l yX3_firstDoubtful (gw yX3_firstDoubtful cX3_firstDoubtful 4 (some .int)) ({ frames := 1, cells := 0, slots := 0, locals := 22 } : Room) (gPc [.ref (J 0), .int (out)] (fun H => va_P D vwCl (jw cA J jf jn) H) D cA) (rdI (fun r => r = oI (fdF (jf 0) (jf 1) jn out))) 0 0 nF := by
  refine gOf (by decide) (Nat.le_of_ble_eq_true rfl) ?_
  intro p e s m below meth c ls hx hb hml hr hlk hown hts hnm hP hK hl
  have hl : lv_has ls 4 [(0, .ref (J 0)), (1, .int (out))] := hl
  refine lv_iconst (v := -1) hx hb dX3_firstDoubtful_0 gc_m1 ?_
  refine lv_istore_n (lv' := [(2, .int (-1)), (0, .ref (J 0)), (1, .int (out))]) hx hb dX3_firstDoubtful_1 rfl hl (by decide) rfl (fun ls hl => ?_)
  refine lv_iconst (v := nI (0)) hx hb dX3_firstDoubtful_2 gc_0 ?_
  refine lv_istore_n (lv' := [(3, .int (nI (0))), (2, .int (-1)), (0, .ref (J 0)), (1, .int (out))]) hx hb dX3_firstDoubtful_3 rfl hl (by decide) rfl (fun ls hl => ?_)
  have LP_5 : ∀ (n_2 i_1 : Nat) (x_3 x_4 : Int32), i_1 ≤ jn → jn + 1 ≤ i_1 + n_2 → x_3 = nI (i_1) → x_4 = oI (bst (fun k => !hs out k) (mdF (jf 0) (jf 1)) i_1) → ∀ (ls : Array Slot), lv_has ls 4 [(3, .int (x_3)), (2, .int (x_4)), (0, .ref (J 0)), (1, .int (out))] → W p l e ({ frames := 1, cells := 0, slots := 0, locals := 22 } : Room) s m ([.ref (J 0), .int (out)] : List Value).toArray below meth c s.heap [] 0 0 (MQ below (rdI (fun r => r = oI (fdF (jf 0) (jf 1) jn out))) ([.ref (J 0), .int (out)] : List Value).toArray s 0 0 nF) (F0 m 4 ls []) := by
    intro n_2
    induction n_2 with
    | zero => intro i_1 x_3 x_4 h1 h2; exact absurd h2 (by omega)
    | succ n_2 ih_8 =>
      intro i_1 x_3 x_4 h_9 h_10 e_6 e_7  ls hl
      subst e_6
      subst e_7
      refine lv_iload_n hx hb dX3_firstDoubtful_4 rfl (lv_at hl 0 rfl) ?_
      refine lv_aload_n hx hb dX3_firstDoubtful_5 rfl (lv_at hl 2 rfl) ?_
      refine g_get (v := .int (nI (jn))) hx hb hts hown hK hP 0 rfl rfl gu_wsX30 4 (by decide) gm_3_13 rfl dX3_firstDoubtful_6 ?_
      refine g_icmp_ge (P := jn ≤ i_1) (tgt := 42) hx hb dX3_firstDoubtful_9 (by decide) (nI_leI (by omega) (by omega)) (fun c_11 => ?_) (fun c_11 => ?_)
      · have d_11 : ¬ i_1 < jn := Nat.not_lt.mpr c_11
        have hN_12 : jn = i_1 := by omega
        subst hN_12
        refine lv_iload_n hx hb dX3_firstDoubtful_42 rfl (lv_at hl 1 rfl) ?_
        exact g_iret (v := oI (bst (fun k => !hs out k) (mdF (jf 0) (jf 1)) (jn))) hx hb hr hlk dX3_firstDoubtful_43 (rfl)
      · have d_11 : i_1 < jn := Nat.not_le.mp c_11
        refine lv_iload_n hx hb dX3_firstDoubtful_12 rfl (lv_at hl 3 rfl) ?_
        refine lv_iload_n hx hb dX3_firstDoubtful_13 rfl (lv_at hl 0 rfl) ?_
        refine rd_calle (va_runSN (As := [.int (out), .int (nI (i_1))]) (rest := []) ⟨hx, hb, hml, hown, hts⟩ (c_X7_isIn l D cA (out) (i_1)) ⟨(va_cnB 2 hts (gWN gm_12_9) rfl rfl rfl (hK.2 _ (List.mem_of_getElem? (i := 10) rfl)) (hts _ (List.mem_cons_of_mem _ gm_1_2)) (by decide +kernel) ⟨Nat.le_of_ble_eq_true rfl, Nat.le_of_ble_eq_true rfl⟩), hts _ (List.mem_cons_of_mem _ gm_12_8), trivial⟩ (gPreS hK trivial) rfl rfl hl.1 rfl (lv_room (Nat.le_of_ble_eq_true rfl)) dX3_firstDoubtful_14 ⟨by omega, by omega⟩) ?_
        refine g_if_ne (P := hs (out) (i_1) = false) (tgt := 36) hx hb dX3_firstDoubtful_17 (by decide) b2i_0 (fun c_13 => ?_) (fun c_13 => ?_)
        · have c_13 : hs (out) (i_1) = true := eq_true_of_ne_false c_13
          refine lv_iinc (v := nI (i_1 + 1)) (lv' := [(3, .int (nI (i_1 + 1))), (2, .int (oI (bst (fun k => !hs out k) (mdF (jf 0) (jf 1)) i_1))), (0, .ref (J 0)), (1, .int (out))]) hx hb dX3_firstDoubtful_36 hl (k := 0) rfl (inc_1 _) (by decide) rfl (fun ls hl => ?_)
          refine lv_goto (tgt := 4) hx hb dX3_firstDoubtful_39 (by decide) ?_
          exact ih_8 (i_1 + 1) _ _ (by omega) (by omega) rfl (by rw [bst_no (by simp [c_13])])  ls (lv_sub hl [0, 1, 2, 3] rfl)
        · refine lv_iload_n hx hb dX3_firstDoubtful_20 rfl (lv_at hl 1 rfl) ?_
          refine lv_iconst (v := -1) hx hb dX3_firstDoubtful_21 gc_m1 ?_
          refine g_icmp_eq (P := bst (fun k => !hs out k) (mdF (jf 0) (jf 1)) i_1 = none) (tgt := 34) hx hb dX3_firstDoubtful_22 (by decide) (oI_m1 (fun b q => by have := bst_lt q; omega)) (fun c_14 => ?_) (fun c_14 => ?_)
          · refine lv_iload_n hx hb dX3_firstDoubtful_34 rfl (lv_at hl 0 rfl) ?_
            refine lv_istore_n (lv' := [(2, .int (nI (i_1))), (3, .int (nI (i_1))), (0, .ref (J 0)), (1, .int (out))]) hx hb dX3_firstDoubtful_35 rfl hl (by decide) rfl (fun ls hl => ?_)
            refine lv_iinc (v := nI (i_1 + 1)) (lv' := [(3, .int (nI (i_1 + 1))), (2, .int (nI (i_1))), (0, .ref (J 0)), (1, .int (out))]) hx hb dX3_firstDoubtful_36 hl (k := 1) rfl (inc_1 _) (by decide) rfl (fun ls hl => ?_)
            refine lv_goto (tgt := 4) hx hb dX3_firstDoubtful_39 (by decide) ?_
            exact ih_8 (i_1 + 1) _ _ (by omega) (by omega) rfl (by rw [bst_new (by simp [c_13]) c_14]; rfl)  ls (lv_sub hl [0, 1, 2, 3] rfl)
          · obtain ⟨b_15, eb_16⟩ := o_some c_14
            have hb_17 := bst_lt eb_16
            rw [eb_16] at hl
            have hl : lv_has ls 4 [(3, .int (nI (i_1))), (2, .int (nI (b_15))), (0, .ref (J 0)), (1, .int (out))] := hl
            refine lv_aload_n hx hb dX3_firstDoubtful_25 rfl (lv_at hl 2 rfl) ?_
            refine lv_iload_n hx hb dX3_firstDoubtful_26 rfl (lv_at hl 0 rfl) ?_
            refine lv_iload_n hx hb dX3_firstDoubtful_27 rfl (lv_at hl 1 rfl) ?_
            refine rd_calle (va_runV (As := [.int (nI (i_1)), .int (nI (b_15))]) (rest := []) ⟨hx, hb, hml, hown, hts⟩ (c_X3_isMoreDoubtful l D cA J jf jn (i_1) (b_15) (by omega) (by omega)) (cwV 2 hts (gWV gm_35_5 gm_35_6 gm_35_7 gm_2_5 gm_35_8) rfl rfl rfl (by decide +kernel) ⟨Nat.le_of_ble_eq_true rfl, Nat.le_of_ble_eq_true rfl⟩) (gPreV hK (g_rf hK hP (ci := 5) (q0 := 0) rfl rfl) hP) rfl rfl hl.1 rfl (lv_room (Nat.le_of_ble_eq_true rfl)) dX3_firstDoubtful_28 ⟨by omega, by omega⟩) ?_
            refine g_if_eq (P := mdF (jf 0) (jf 1) (i_1) (b_15) = false) (tgt := 36) hx hb dX3_firstDoubtful_31 (by decide) b2i_0 (fun c_18 => ?_) (fun c_18 => ?_)
            · refine lv_iinc (v := nI (i_1 + 1)) (lv' := [(3, .int (nI (i_1 + 1))), (2, .int (nI (b_15))), (0, .ref (J 0)), (1, .int (out))]) hx hb dX3_firstDoubtful_36 hl (k := 0) rfl (inc_1 _) (by decide) rfl (fun ls hl => ?_)
              refine lv_goto (tgt := 4) hx hb dX3_firstDoubtful_39 (by decide) ?_
              exact ih_8 (i_1 + 1) _ _ (by omega) (by omega) rfl (by rw [bst_lose (by simp [c_13]) eb_16 (by simp [c_18])]; rfl)  ls (lv_sub hl [0, 1, 2, 3] rfl)
            · have c_18 : mdF (jf 0) (jf 1) (i_1) (b_15) = true := eq_true_of_ne_false c_18
              refine lv_iload_n hx hb dX3_firstDoubtful_34 rfl (lv_at hl 0 rfl) ?_
              refine lv_istore_n (lv' := [(2, .int (nI (i_1))), (3, .int (nI (i_1))), (0, .ref (J 0)), (1, .int (out))]) hx hb dX3_firstDoubtful_35 rfl hl (by decide) rfl (fun ls hl => ?_)
              refine lv_iinc (v := nI (i_1 + 1)) (lv' := [(3, .int (nI (i_1 + 1))), (2, .int (nI (i_1))), (0, .ref (J 0)), (1, .int (out))]) hx hb dX3_firstDoubtful_36 hl (k := 1) rfl (inc_1 _) (by decide) rfl (fun ls hl => ?_)
              refine lv_goto (tgt := 4) hx hb dX3_firstDoubtful_39 (by decide) ?_
              exact ih_8 (i_1 + 1) _ _ (by omega) (by omega) rfl (by rw [bst_win (by simp [c_13]) eb_16 (by simp [c_18])]; rfl)  ls (lv_sub hl [0, 1, 2, 3] rfl)
  exact LP_5 (jn + 1) 0 _ _ (by omega) (by omega) rfl rfl  ls (lv_sub hl [0, 1, 2, 3] rfl)

set_option maxHeartbeats 1000000 in
set_option maxRecDepth 100000 in
theorem c_X0_has (l : Launch) (D : va_G) (cA : Nat → ClassId) (K : Nat → Nat) (kf : Nat → Nat → Int32) (rw : Nat → Nat) (cn rl : Nat) (v : Int32) (hcn : cn ≤ 10) : Met l yX0_has (gw yX0_has cX0_has 2 (some .boolean)) ({ frames := 0, cells := 0, slots := 0, locals := 0 } : Room) (gPc [.ref (K 0), .int (v)] (fun H => va_P D vwCl (kw cA K kf rw cn rl) H) D cA) (rdI (fun r => r = b2i (isIx v cn))) 0 0 nF := by
  refine gOf (by decide) (Nat.le_of_ble_eq_true rfl) ?_
  intro p e s m below meth c ls hx hb hml hr hlk hown hts hnm hP hK hl
  have hl : lv_has ls 2 [(0, .ref (K 0)), (1, .int (v))] := hl
  refine lv_iload_n hx hb dX0_has_0 rfl (lv_at hl 1 rfl) ?_
  refine g_if_lt (P := v < 0) (tgt := 16) hx hb dX0_has_1 (by decide) Iff.rfl (fun c_1 => ?_) (fun c_1 => ?_)
  · have d_1 : ¬ 0 ≤ v := Int32.not_le.mpr c_1
    refine lv_iconst (v := nI (0)) hx hb dX0_has_16 gc_0 ?_
    exact g_zret (v := nI (0)) hx hb hr hlk rfl dX0_has_17 (by rw [isIx_code v (by omega)]; simp [b2i, c_1, d_1])
  · have d_1 : 0 ≤ v := Int32.not_lt.mp c_1
    refine lv_iload_n hx hb dX0_has_4 rfl (lv_at hl 1 rfl) ?_
    refine lv_aload_n hx hb dX0_has_5 rfl (lv_at hl 0 rfl) ?_
    refine g_get (v := .int (nI (cn))) hx hb hts hown hK hP 0 rfl rfl gu_wsX00 9 (by decide) gm_4_2 rfl dX0_has_6 ?_
    refine g_icmp_ge (P := nI (cn) ≤ v) (tgt := 16) hx hb dX0_has_9 (by decide) Iff.rfl (fun c_2 => ?_) (fun c_2 => ?_)
    · have d_2 : ¬ v < nI (cn) := Int32.not_lt.mpr c_2
      refine lv_iconst (v := nI (0)) hx hb dX0_has_16 gc_0 ?_
      exact g_zret (v := nI (0)) hx hb hr hlk rfl dX0_has_17 (by rw [isIx_code v (by omega)]; simp [b2i, c_1, d_1, c_2, d_2])
    · have d_2 : v < nI (cn) := Int32.not_le.mp c_2
      refine lv_iconst (v := nI (1)) hx hb dX0_has_12 gc_1 ?_
      refine lv_goto (tgt := 17) hx hb dX0_has_13 (by decide) ?_
      exact g_zret (v := nI (1)) hx hb hr hlk rfl dX0_has_17 (by rw [isIx_code v (by omega)]; simp [b2i, c_1, d_1, c_2, d_2])

def clF (k : Nat → Nat → Int32) (c : Nat) : Bool := !decide (k 5 c = -1)
def hpF (k : Nat → Nat → Int32) (c : Nat) : Bool := !decide (k 2 c = 0)
def hvF (k : Nat → Nat → Int32) (c : Nat) : Bool := !decide (k 3 c = 0)
def hdF (k : Nat → Nat → Int32) (c : Nat) : Bool := hpF k c && !hvF k c
def rpF (k : Nat → Nat → Int32) (c : Nat) (night : Int32) : Bool := hvF k c && !clF k c && decide (¬ night - nI 4 < k 4 c)
def cbF (k : Nat → Nat → Int32) (a b : Nat) : Bool := if k 1 a = k 1 b then (if k 0 a = k 0 b then decide (a < b) else decide (k 0 a < k 0 b)) else decide (k 1 a < k 1 b)
def fhF (k : Nat → Nat → Int32) (cn : Nat) (out : Int32) : Option Nat := bst (fun c => hdF k c && !hs out c) (cbF k) cn

set_option maxHeartbeats 1000000 in
set_option maxRecDepth 100000 in
theorem c_X0_hasPanel (l : Launch) (D : va_G) (cA : Nat → ClassId) (K : Nat → Nat) (kf : Nat → Nat → Int32) (rw : Nat → Nat) (cn rl : Nat) (q : Nat) (hq : q < 10) : Met l yX0_hasPanel (gw yX0_hasPanel cX0_hasPanel 2 (some .boolean)) ({ frames := 0, cells := 0, slots := 0, locals := 0 } : Room) (gPc [.ref (K 0), .int (nI (q))] (fun H => va_P D vwCl (kw cA K kf rw cn rl) H) D cA) (rdI (fun r => r = b2i (hpF kf q))) 0 0 nF := by
  refine gOf (by decide) (Nat.le_of_ble_eq_true rfl) ?_
  intro p e s m below meth c ls hx hb hml hr hlk hown hts hnm hP hK hl
  have hl : lv_has ls 2 [(0, .ref (K 0)), (1, .int (nI (q)))] := hl
  refine lv_aload_n hx hb dX0_hasPanel_0 rfl (lv_at hl 0 rfl) ?_
  refine g_get (v := .ref (K 3)) hx hb hts hown hK hP 0 rfl rfl gu_wsX00 2 (by decide) gm_3_19 rfl dX0_hasPanel_1 ?_
  refine lv_iload_n hx hb dX0_hasPanel_4 rfl (lv_at hl 1 rfl) ?_
  refine g_iald (x := kf 2 (q)) hx hb hK hP 3 rfl (by omega) (by decide) rfl dX0_hasPanel_5 ?_
  refine g_if_eq (P := kf 2 (q) = 0) (tgt := 13) hx hb dX0_hasPanel_6 (by decide) Iff.rfl (fun c_1 => ?_) (fun c_1 => ?_)
  · refine lv_iconst (v := nI (0)) hx hb dX0_hasPanel_13 gc_0 ?_
    exact g_zret (v := nI (0)) hx hb hr hlk rfl dX0_hasPanel_14 (by simp [hpF, b2i, c_1])
  · refine lv_iconst (v := nI (1)) hx hb dX0_hasPanel_9 gc_1 ?_
    refine lv_goto (tgt := 14) hx hb dX0_hasPanel_10 (by decide) ?_
    exact g_zret (v := nI (1)) hx hb hr hlk rfl dX0_hasPanel_14 (by simp [hpF, b2i, c_1])

set_option maxHeartbeats 1000000 in
set_option maxRecDepth 100000 in
theorem c_X0_hasVerdict (l : Launch) (D : va_G) (cA : Nat → ClassId) (K : Nat → Nat) (kf : Nat → Nat → Int32) (rw : Nat → Nat) (cn rl : Nat) (q : Nat) (hq : q < 10) : Met l yX0_hasVerdict (gw yX0_hasVerdict cX0_hasVerdict 2 (some .boolean)) ({ frames := 0, cells := 0, slots := 0, locals := 0 } : Room) (gPc [.ref (K 0), .int (nI (q))] (fun H => va_P D vwCl (kw cA K kf rw cn rl) H) D cA) (rdI (fun r => r = b2i (hvF kf q))) 0 0 nF := by
  refine gOf (by decide) (Nat.le_of_ble_eq_true rfl) ?_
  intro p e s m below meth c ls hx hb hml hr hlk hown hts hnm hP hK hl
  have hl : lv_has ls 2 [(0, .ref (K 0)), (1, .int (nI (q)))] := hl
  refine lv_aload_n hx hb dX0_hasVerdict_0 rfl (lv_at hl 0 rfl) ?_
  refine g_get (v := .ref (K 4)) hx hb hts hown hK hP 0 rfl rfl gu_wsX00 3 (by decide) gm_3_20 rfl dX0_hasVerdict_1 ?_
  refine lv_iload_n hx hb dX0_hasVerdict_4 rfl (lv_at hl 1 rfl) ?_
  refine g_iald (x := kf 3 (q)) hx hb hK hP 4 rfl (by omega) (by decide) rfl dX0_hasVerdict_5 ?_
  refine g_if_eq (P := kf 3 (q) = 0) (tgt := 13) hx hb dX0_hasVerdict_6 (by decide) Iff.rfl (fun c_1 => ?_) (fun c_1 => ?_)
  · refine lv_iconst (v := nI (0)) hx hb dX0_hasVerdict_13 gc_0 ?_
    exact g_zret (v := nI (0)) hx hb hr hlk rfl dX0_hasVerdict_14 (by simp [hvF, b2i, c_1])
  · refine lv_iconst (v := nI (1)) hx hb dX0_hasVerdict_9 gc_1 ?_
    refine lv_goto (tgt := 14) hx hb dX0_hasVerdict_10 (by decide) ?_
    exact g_zret (v := nI (1)) hx hb hr hlk rfl dX0_hasVerdict_14 (by simp [hvF, b2i, c_1])

set_option maxHeartbeats 1000000 in
set_option maxRecDepth 100000 in
theorem c_X0_isClosed (l : Launch) (D : va_G) (cA : Nat → ClassId) (K : Nat → Nat) (kf : Nat → Nat → Int32) (rw : Nat → Nat) (cn rl : Nat) (q : Nat) (hq : q < 10) : Met l yX0_isClosed (gw yX0_isClosed cX0_isClosed 2 (some .boolean)) ({ frames := 0, cells := 0, slots := 0, locals := 0 } : Room) (gPc [.ref (K 0), .int (nI (q))] (fun H => va_P D vwCl (kw cA K kf rw cn rl) H) D cA) (rdI (fun r => r = b2i (clF kf q))) 0 0 nF := by
  refine gOf (by decide) (Nat.le_of_ble_eq_true rfl) ?_
  intro p e s m below meth c ls hx hb hml hr hlk hown hts hnm hP hK hl
  have hl : lv_has ls 2 [(0, .ref (K 0)), (1, .int (nI (q)))] := hl
  refine lv_aload_n hx hb dX0_isClosed_0 rfl (lv_at hl 0 rfl) ?_
  refine g_get (v := .ref (K 6)) hx hb hts hown hK hP 0 rfl rfl gu_wsX00 5 (by decide) gm_3_22 rfl dX0_isClosed_1 ?_
  refine lv_iload_n hx hb dX0_isClosed_4 rfl (lv_at hl 1 rfl) ?_
  refine g_iald (x := kf 5 (q)) hx hb hK hP 6 rfl (by omega) (by decide) rfl dX0_isClosed_5 ?_
  refine lv_iconst (v := -1) hx hb dX0_isClosed_6 gc_m1 ?_
  refine g_icmp_eq (P := kf 5 (q) = -1) (tgt := 14) hx hb dX0_isClosed_7 (by decide) Iff.rfl (fun c_1 => ?_) (fun c_1 => ?_)
  · refine lv_iconst (v := nI (0)) hx hb dX0_isClosed_14 gc_0 ?_
    exact g_zret (v := nI (0)) hx hb hr hlk rfl dX0_isClosed_15 (by simp [clF, b2i, c_1])
  · refine lv_iconst (v := nI (1)) hx hb dX0_isClosed_10 gc_1 ?_
    refine lv_goto (tgt := 15) hx hb dX0_isClosed_11 (by decide) ?_
    exact g_zret (v := nI (1)) hx hb hr hlk rfl dX0_isClosed_15 (by simp [clF, b2i, c_1])

set_option maxHeartbeats 1000000 in
set_option maxRecDepth 100000 in
theorem c_X0_isHeard (l : Launch) (D : va_G) (cA : Nat → ClassId) (K : Nat → Nat) (kf : Nat → Nat → Int32) (rw : Nat → Nat) (cn rl : Nat) (q : Nat) (hq : q < 10) : Met l yX0_isHeard (gw yX0_isHeard cX0_isHeard 2 (some .boolean)) ({ frames := 1, cells := 0, slots := 0, locals := 21 } : Room) (gPc [.ref (K 0), .int (nI (q))] (fun H => va_P D vwCl (kw cA K kf rw cn rl) H) D cA) (rdI (fun r => r = b2i (hdF kf q))) 0 0 nF := by
  refine gOf (by decide) (Nat.le_of_ble_eq_true rfl) ?_
  intro p e s m below meth c ls hx hb hml hr hlk hown hts hnm hP hK hl
  have hl : lv_has ls 2 [(0, .ref (K 0)), (1, .int (nI (q)))] := hl
  refine lv_aload_n hx hb dX0_isHeard_0 rfl (lv_at hl 0 rfl) ?_
  refine lv_iload_n hx hb dX0_isHeard_1 rfl (lv_at hl 1 rfl) ?_
  refine rd_calle (va_runV (As := [.int (nI (q))]) (rest := []) ⟨hx, hb, hml, hown, hts⟩ (c_X0_hasPanel l D cA K kf rw cn rl (q) (by omega)) (cwV 1 hts (gWV gm_31_10 gm_12_1 gm_12_2 gm_3_0 gm_12_3) rfl rfl rfl (by decide +kernel) ⟨Nat.le_of_ble_eq_true rfl, Nat.le_of_ble_eq_true rfl⟩) (gPreV hK (g_rf hK hP (ci := 2) (q0 := 0) rfl rfl) hP) rfl rfl hl.1 rfl (lv_room (Nat.le_of_ble_eq_true rfl)) dX0_isHeard_2 ⟨by omega, by omega⟩) ?_
  refine g_if_eq (P := hpF kf (q) = false) (tgt := 20) hx hb dX0_isHeard_5 (by decide) b2i_0 (fun c_1 => ?_) (fun c_1 => ?_)
  · refine lv_iconst (v := nI (0)) hx hb dX0_isHeard_20 gc_0 ?_
    exact g_zret (v := nI (0)) hx hb hr hlk rfl dX0_isHeard_21 (by simp [hdF, b2i, c_1])
  · have c_1 : hpF kf (q) = true := eq_true_of_ne_false c_1
    refine lv_aload_n hx hb dX0_isHeard_8 rfl (lv_at hl 0 rfl) ?_
    refine lv_iload_n hx hb dX0_isHeard_9 rfl (lv_at hl 1 rfl) ?_
    refine rd_calle (va_runV (As := [.int (nI (q))]) (rest := []) ⟨hx, hb, hml, hown, hts⟩ (c_X0_hasVerdict l D cA K kf rw cn rl (q) (by omega)) (cwV 1 hts (gWV gm_23_12 gm_16_5 gm_16_6 gm_3_0 gm_16_7) rfl rfl rfl (by decide +kernel) ⟨Nat.le_of_ble_eq_true rfl, Nat.le_of_ble_eq_true rfl⟩) (gPreV hK (g_rf hK hP (ci := 2) (q0 := 0) rfl rfl) hP) rfl rfl hl.1 rfl (lv_room (Nat.le_of_ble_eq_true rfl)) dX0_isHeard_10 ⟨by omega, by omega⟩) ?_
    refine g_if_ne (P := hvF kf (q) = false) (tgt := 20) hx hb dX0_isHeard_13 (by decide) b2i_0 (fun c_2 => ?_) (fun c_2 => ?_)
    · have c_2 : hvF kf (q) = true := eq_true_of_ne_false c_2
      refine lv_iconst (v := nI (0)) hx hb dX0_isHeard_20 gc_0 ?_
      exact g_zret (v := nI (0)) hx hb hr hlk rfl dX0_isHeard_21 (by simp [hdF, b2i, c_1, c_2])
    · refine lv_iconst (v := nI (1)) hx hb dX0_isHeard_16 gc_1 ?_
      refine lv_goto (tgt := 21) hx hb dX0_isHeard_17 (by decide) ?_
      exact g_zret (v := nI (1)) hx hb hr hlk rfl dX0_isHeard_21 (by simp [hdF, b2i, c_1, c_2])

set_option maxHeartbeats 1000000 in
set_option maxRecDepth 100000 in
theorem c_X0_isRipe (l : Launch) (D : va_G) (cA : Nat → ClassId) (K : Nat → Nat) (kf : Nat → Nat → Int32) (rw : Nat → Nat) (cn rl : Nat) (q : Nat) (night : Int32) (hq : q < 10) : Met l yX0_isRipe (gw yX0_isRipe cX0_isRipe 3 (some .boolean)) ({ frames := 1, cells := 0, slots := 0, locals := 21 } : Room) (gPc [.ref (K 0), .int (nI (q)), .int (night)] (fun H => va_P D vwCl (kw cA K kf rw cn rl) H) D cA) (rdI (fun r => r = b2i (rpF kf q night))) 0 0 nF := by
  refine gOf (by decide) (Nat.le_of_ble_eq_true rfl) ?_
  intro p e s m below meth c ls hx hb hml hr hlk hown hts hnm hP hK hl
  have hl : lv_has ls 3 [(0, .ref (K 0)), (1, .int (nI (q))), (2, .int (night))] := hl
  refine lv_aload_n hx hb dX0_isRipe_0 rfl (lv_at hl 0 rfl) ?_
  refine lv_iload_n hx hb dX0_isRipe_1 rfl (lv_at hl 1 rfl) ?_
  refine rd_calle (va_runV (As := [.int (nI (q))]) (rest := []) ⟨hx, hb, hml, hown, hts⟩ (c_X0_hasVerdict l D cA K kf rw cn rl (q) (by omega)) (cwV 1 hts (gWV gm_23_12 gm_16_5 gm_16_6 gm_3_0 gm_16_7) rfl rfl rfl (by decide +kernel) ⟨Nat.le_of_ble_eq_true rfl, Nat.le_of_ble_eq_true rfl⟩) (gPreV hK (g_rf hK hP (ci := 2) (q0 := 0) rfl rfl) hP) rfl rfl hl.1 rfl (lv_room (Nat.le_of_ble_eq_true rfl)) dX0_isRipe_2 ⟨by omega, by omega⟩) ?_
  refine g_if_eq (P := hvF kf (q) = false) (tgt := 32) hx hb dX0_isRipe_5 (by decide) b2i_0 (fun c_1 => ?_) (fun c_1 => ?_)
  · refine lv_iconst (v := nI (0)) hx hb dX0_isRipe_32 gc_0 ?_
    exact g_zret (v := nI (0)) hx hb hr hlk rfl dX0_isRipe_33 (by simp [rpF, b2i, c_1])
  · have c_1 : hvF kf (q) = true := eq_true_of_ne_false c_1
    refine lv_aload_n hx hb dX0_isRipe_8 rfl (lv_at hl 0 rfl) ?_
    refine lv_iload_n hx hb dX0_isRipe_9 rfl (lv_at hl 1 rfl) ?_
    refine rd_calle (va_runV (As := [.int (nI (q))]) (rest := []) ⟨hx, hb, hml, hown, hts⟩ (c_X0_isClosed l D cA K kf rw cn rl (q) (by omega)) (cwV 1 hts (gWV gm_23_13 gm_12_17 gm_12_18 gm_3_0 gm_12_19) rfl rfl rfl (by decide +kernel) ⟨Nat.le_of_ble_eq_true rfl, Nat.le_of_ble_eq_true rfl⟩) (gPreV hK (g_rf hK hP (ci := 2) (q0 := 0) rfl rfl) hP) rfl rfl hl.1 rfl (lv_room (Nat.le_of_ble_eq_true rfl)) dX0_isRipe_10 ⟨by omega, by omega⟩) ?_
    refine g_if_ne (P := clF kf (q) = false) (tgt := 32) hx hb dX0_isRipe_13 (by decide) b2i_0 (fun c_2 => ?_) (fun c_2 => ?_)
    · have c_2 : clF kf (q) = true := eq_true_of_ne_false c_2
      refine lv_iconst (v := nI (0)) hx hb dX0_isRipe_32 gc_0 ?_
      exact g_zret (v := nI (0)) hx hb hr hlk rfl dX0_isRipe_33 (by simp [rpF, b2i, c_1, c_2])
    · refine lv_aload_n hx hb dX0_isRipe_16 rfl (lv_at hl 0 rfl) ?_
      refine g_get (v := .ref (K 5)) hx hb hts hown hK hP 0 rfl rfl gu_wsX00 4 (by decide) gm_3_21 rfl dX0_isRipe_17 ?_
      refine lv_iload_n hx hb dX0_isRipe_20 rfl (lv_at hl 1 rfl) ?_
      refine g_iald (x := kf 4 (q)) hx hb hK hP 5 rfl (by omega) (by decide) rfl dX0_isRipe_21 ?_
      refine lv_iload_n hx hb dX0_isRipe_22 rfl (lv_at hl 2 rfl) ?_
      refine lv_iconst (v := nI (4)) hx hb dX0_isRipe_23 gc_4 ?_
      refine lv_isub hx hb dX0_isRipe_24 ?_
      refine g_icmp_gt (P := (night) - (nI (4)) < kf 4 (q)) (tgt := 32) hx hb dX0_isRipe_25 (by decide) Iff.rfl (fun c_3 => ?_) (fun c_3 => ?_)
      · have d_3 : ¬ kf 4 (q) ≤ (night) - (nI (4)) := Int32.not_le.mpr c_3
        refine lv_iconst (v := nI (0)) hx hb dX0_isRipe_32 gc_0 ?_
        exact g_zret (v := nI (0)) hx hb hr hlk rfl dX0_isRipe_33 (by simp [rpF, b2i, c_1, c_2, c_3, d_3])
      · have d_3 : kf 4 (q) ≤ (night) - (nI (4)) := Int32.not_lt.mp c_3
        refine lv_iconst (v := nI (1)) hx hb dX0_isRipe_28 gc_1 ?_
        refine lv_goto (tgt := 33) hx hb dX0_isRipe_29 (by decide) ?_
        exact g_zret (v := nI (1)) hx hb hr hlk rfl dX0_isRipe_33 (by simp [rpF, b2i, c_1, c_2, c_3, d_3])

set_option maxHeartbeats 1000000 in
set_option maxRecDepth 100000 in
theorem c_X0_comesBefore (l : Launch) (D : va_G) (cA : Nat → ClassId) (K : Nat → Nat) (kf : Nat → Nat → Int32) (rw : Nat → Nat) (cn rl : Nat) (a b : Nat) (ha : a < 10) (hb_ : b < 10) : Met l yX0_comesBefore (gw yX0_comesBefore cX0_comesBefore 3 (some .boolean)) ({ frames := 0, cells := 0, slots := 0, locals := 0 } : Room) (gPc [.ref (K 0), .int (nI (a)), .int (nI (b))] (fun H => va_P D vwCl (kw cA K kf rw cn rl) H) D cA) (rdI (fun r => r = b2i (cbF kf a b))) 0 0 nF := by
  refine gOf (by decide) (Nat.le_of_ble_eq_true rfl) ?_
  intro p e s m below meth c ls hx hb hml hr hlk hown hts hnm hP hK hl
  have hl : lv_has ls 3 [(0, .ref (K 0)), (1, .int (nI (a))), (2, .int (nI (b)))] := hl
  refine lv_aload_n hx hb dX0_comesBefore_0 rfl (lv_at hl 0 rfl) ?_
  refine g_get (v := .ref (K 2)) hx hb hts hown hK hP 0 rfl rfl gu_wsX00 1 (by decide) gm_3_18 rfl dX0_comesBefore_1 ?_
  refine lv_iload_n hx hb dX0_comesBefore_4 rfl (lv_at hl 1 rfl) ?_
  refine g_iald (x := kf 1 (a)) hx hb hK hP 2 rfl (by omega) (by decide) rfl dX0_comesBefore_5 ?_
  refine lv_aload_n hx hb dX0_comesBefore_6 rfl (lv_at hl 0 rfl) ?_
  refine g_get (v := .ref (K 2)) hx hb hts hown hK hP 0 rfl rfl gu_wsX00 1 (by decide) gm_3_18 rfl dX0_comesBefore_7 ?_
  refine lv_iload_n hx hb dX0_comesBefore_10 rfl (lv_at hl 2 rfl) ?_
  refine g_iald (x := kf 1 (b)) hx hb hK hP 2 rfl (by omega) (by decide) rfl dX0_comesBefore_11 ?_
  refine g_icmp_eq (P := kf 1 (a) = kf 1 (b)) (tgt := 36) hx hb dX0_comesBefore_12 (by decide) Iff.rfl (fun c_1 => ?_) (fun c_1 => ?_)
  · refine lv_aload_n hx hb dX0_comesBefore_36 rfl (lv_at hl 0 rfl) ?_
    refine g_get (v := .ref (K 1)) hx hb hts hown hK hP 0 rfl rfl gu_wsX00 0 (by decide) gm_3_17 rfl dX0_comesBefore_37 ?_
    refine lv_iload_n hx hb dX0_comesBefore_40 rfl (lv_at hl 1 rfl) ?_
    refine g_iald (x := kf 0 (a)) hx hb hK hP 1 rfl (by omega) (by decide) rfl dX0_comesBefore_41 ?_
    refine lv_aload_n hx hb dX0_comesBefore_42 rfl (lv_at hl 0 rfl) ?_
    refine g_get (v := .ref (K 1)) hx hb hts hown hK hP 0 rfl rfl gu_wsX00 0 (by decide) gm_3_17 rfl dX0_comesBefore_43 ?_
    refine lv_iload_n hx hb dX0_comesBefore_46 rfl (lv_at hl 2 rfl) ?_
    refine g_iald (x := kf 0 (b)) hx hb hK hP 1 rfl (by omega) (by decide) rfl dX0_comesBefore_47 ?_
    refine g_icmp_eq (P := kf 0 (a) = kf 0 (b)) (tgt := 72) hx hb dX0_comesBefore_48 (by decide) Iff.rfl (fun c_2 => ?_) (fun c_2 => ?_)
    · refine lv_iload_n hx hb dX0_comesBefore_72 rfl (lv_at hl 1 rfl) ?_
      refine lv_iload_n hx hb dX0_comesBefore_73 rfl (lv_at hl 2 rfl) ?_
      refine g_icmp_ge (P := b ≤ a) (tgt := 81) hx hb dX0_comesBefore_74 (by decide) (nI_leI (by omega) (by omega)) (fun c_3 => ?_) (fun c_3 => ?_)
      · have d_3 : ¬ a < b := Nat.not_lt.mpr c_3
        refine lv_iconst (v := nI (0)) hx hb dX0_comesBefore_81 gc_0 ?_
        exact g_zret (v := nI (0)) hx hb hr hlk rfl dX0_comesBefore_82 (by simp [cbF, b2i, c_1, c_2, c_3, d_3] <;> omega)
      · have d_3 : a < b := Nat.not_le.mp c_3
        refine lv_iconst (v := nI (1)) hx hb dX0_comesBefore_77 gc_1 ?_
        refine lv_goto (tgt := 82) hx hb dX0_comesBefore_78 (by decide) ?_
        exact g_zret (v := nI (1)) hx hb hr hlk rfl dX0_comesBefore_82 (by simp [cbF, b2i, c_1, c_2, c_3, d_3] <;> omega)
    · refine lv_aload_n hx hb dX0_comesBefore_51 rfl (lv_at hl 0 rfl) ?_
      refine g_get (v := .ref (K 1)) hx hb hts hown hK hP 0 rfl rfl gu_wsX00 0 (by decide) gm_3_17 rfl dX0_comesBefore_52 ?_
      refine lv_iload_n hx hb dX0_comesBefore_55 rfl (lv_at hl 1 rfl) ?_
      refine g_iald (x := kf 0 (a)) hx hb hK hP 1 rfl (by omega) (by decide) rfl dX0_comesBefore_56 ?_
      refine lv_aload_n hx hb dX0_comesBefore_57 rfl (lv_at hl 0 rfl) ?_
      refine g_get (v := .ref (K 1)) hx hb hts hown hK hP 0 rfl rfl gu_wsX00 0 (by decide) gm_3_17 rfl dX0_comesBefore_58 ?_
      refine lv_iload_n hx hb dX0_comesBefore_61 rfl (lv_at hl 2 rfl) ?_
      refine g_iald (x := kf 0 (b)) hx hb hK hP 1 rfl (by omega) (by decide) rfl dX0_comesBefore_62 ?_
      refine g_icmp_ge (P := kf 0 (b) ≤ kf 0 (a)) (tgt := 70) hx hb dX0_comesBefore_63 (by decide) Iff.rfl (fun c_4 => ?_) (fun c_4 => ?_)
      · have d_4 : ¬ kf 0 (a) < kf 0 (b) := Int32.not_lt.mpr c_4
        refine lv_iconst (v := nI (0)) hx hb dX0_comesBefore_70 gc_0 ?_
        exact g_zret (v := nI (0)) hx hb hr hlk rfl dX0_comesBefore_71 (by simp [cbF, b2i, c_1, c_2, c_4, d_4] <;> omega)
      · have d_4 : kf 0 (a) < kf 0 (b) := Int32.not_le.mp c_4
        refine lv_iconst (v := nI (1)) hx hb dX0_comesBefore_66 gc_1 ?_
        refine lv_goto (tgt := 71) hx hb dX0_comesBefore_67 (by decide) ?_
        exact g_zret (v := nI (1)) hx hb hr hlk rfl dX0_comesBefore_71 (by simp [cbF, b2i, c_1, c_2, c_4, d_4] <;> omega)
  · refine lv_aload_n hx hb dX0_comesBefore_15 rfl (lv_at hl 0 rfl) ?_
    refine g_get (v := .ref (K 2)) hx hb hts hown hK hP 0 rfl rfl gu_wsX00 1 (by decide) gm_3_18 rfl dX0_comesBefore_16 ?_
    refine lv_iload_n hx hb dX0_comesBefore_19 rfl (lv_at hl 1 rfl) ?_
    refine g_iald (x := kf 1 (a)) hx hb hK hP 2 rfl (by omega) (by decide) rfl dX0_comesBefore_20 ?_
    refine lv_aload_n hx hb dX0_comesBefore_21 rfl (lv_at hl 0 rfl) ?_
    refine g_get (v := .ref (K 2)) hx hb hts hown hK hP 0 rfl rfl gu_wsX00 1 (by decide) gm_3_18 rfl dX0_comesBefore_22 ?_
    refine lv_iload_n hx hb dX0_comesBefore_25 rfl (lv_at hl 2 rfl) ?_
    refine g_iald (x := kf 1 (b)) hx hb hK hP 2 rfl (by omega) (by decide) rfl dX0_comesBefore_26 ?_
    refine g_icmp_ge (P := kf 1 (b) ≤ kf 1 (a)) (tgt := 34) hx hb dX0_comesBefore_27 (by decide) Iff.rfl (fun c_5 => ?_) (fun c_5 => ?_)
    · have d_5 : ¬ kf 1 (a) < kf 1 (b) := Int32.not_lt.mpr c_5
      refine lv_iconst (v := nI (0)) hx hb dX0_comesBefore_34 gc_0 ?_
      exact g_zret (v := nI (0)) hx hb hr hlk rfl dX0_comesBefore_35 (by simp [cbF, b2i, c_1, c_5, d_5] <;> omega)
    · have d_5 : kf 1 (a) < kf 1 (b) := Int32.not_le.mp c_5
      refine lv_iconst (v := nI (1)) hx hb dX0_comesBefore_30 gc_1 ?_
      refine lv_goto (tgt := 35) hx hb dX0_comesBefore_31 (by decide) ?_
      exact g_zret (v := nI (1)) hx hb hr hlk rfl dX0_comesBefore_35 (by simp [cbF, b2i, c_1, c_5, d_5] <;> omega)

set_option maxHeartbeats 1000000 in
set_option maxRecDepth 100000 in
theorem c_X0_firstHeard (l : Launch) (D : va_G) (cA : Nat → ClassId) (K : Nat → Nat) (kf : Nat → Nat → Int32) (rw : Nat → Nat) (cn rl : Nat) (out : Int32) (hcn : cn ≤ 10) : Met l yX0_firstHeard (gw yX0_firstHeard cX0_firstHeard 4 (some .int)) ({ frames := 2, cells := 0, slots := 0, locals := 42 } : Room) (gPc [.ref (K 0), .int (out)] (fun H => va_P D vwCl (kw cA K kf rw cn rl) H) D cA) (rdI (fun r => r = oI (fhF kf cn out))) 0 0 nF := by
  refine gOf (by decide) (Nat.le_of_ble_eq_true rfl) ?_
  intro p e s m below meth c ls hx hb hml hr hlk hown hts hnm hP hK hl
  have hl : lv_has ls 4 [(0, .ref (K 0)), (1, .int (out))] := hl
  refine lv_iconst (v := -1) hx hb dX0_firstHeard_0 gc_m1 ?_
  refine lv_istore_n (lv' := [(2, .int (-1)), (0, .ref (K 0)), (1, .int (out))]) hx hb dX0_firstHeard_1 rfl hl (by decide) rfl (fun ls hl => ?_)
  refine lv_iconst (v := nI (0)) hx hb dX0_firstHeard_2 gc_0 ?_
  refine lv_istore_n (lv' := [(3, .int (nI (0))), (2, .int (-1)), (0, .ref (K 0)), (1, .int (out))]) hx hb dX0_firstHeard_3 rfl hl (by decide) rfl (fun ls hl => ?_)
  have LP_5 : ∀ (n_2 i_1 : Nat) (x_3 x_4 : Int32), i_1 ≤ cn → cn + 1 ≤ i_1 + n_2 → x_3 = nI (i_1) → x_4 = oI (bst (fun c => hdF kf c && !hs out c) (cbF kf) i_1) → ∀ (ls : Array Slot), lv_has ls 4 [(3, .int (x_3)), (2, .int (x_4)), (0, .ref (K 0)), (1, .int (out))] → W p l e ({ frames := 2, cells := 0, slots := 0, locals := 42 } : Room) s m ([.ref (K 0), .int (out)] : List Value).toArray below meth c s.heap [] 0 0 (MQ below (rdI (fun r => r = oI (fhF kf cn out))) ([.ref (K 0), .int (out)] : List Value).toArray s 0 0 nF) (F0 m 4 ls []) := by
    intro n_2
    induction n_2 with
    | zero => intro i_1 x_3 x_4 h1 h2; exact absurd h2 (by omega)
    | succ n_2 ih_8 =>
      intro i_1 x_3 x_4 h_9 h_10 e_6 e_7  ls hl
      subst e_6
      subst e_7
      refine lv_iload_n hx hb dX0_firstHeard_4 rfl (lv_at hl 0 rfl) ?_
      refine lv_aload_n hx hb dX0_firstHeard_5 rfl (lv_at hl 2 rfl) ?_
      refine g_get (v := .int (nI (cn))) hx hb hts hown hK hP 0 rfl rfl gu_wsX00 9 (by decide) gm_4_2 rfl dX0_firstHeard_6 ?_
      refine g_icmp_ge (P := cn ≤ i_1) (tgt := 50) hx hb dX0_firstHeard_9 (by decide) (nI_leI (by omega) (by omega)) (fun c_11 => ?_) (fun c_11 => ?_)
      · have d_11 : ¬ i_1 < cn := Nat.not_lt.mpr c_11
        have hN_12 : cn = i_1 := by omega
        subst hN_12
        refine lv_iload_n hx hb dX0_firstHeard_50 rfl (lv_at hl 1 rfl) ?_
        exact g_iret (v := oI (bst (fun c => hdF kf c && !hs out c) (cbF kf) (cn))) hx hb hr hlk dX0_firstHeard_51 (rfl)
      · have d_11 : i_1 < cn := Nat.not_le.mp c_11
        refine lv_aload_n hx hb dX0_firstHeard_12 rfl (lv_at hl 2 rfl) ?_
        refine lv_iload_n hx hb dX0_firstHeard_13 rfl (lv_at hl 0 rfl) ?_
        refine rd_calle (va_runV (As := [.int (nI (i_1))]) (rest := []) ⟨hx, hb, hml, hown, hts⟩ (c_X0_isHeard l D cA K kf rw cn rl (i_1) (by omega)) (cwV 1 hts (gWV gm_31_6 gm_31_7 gm_31_8 gm_3_0 gm_31_9) rfl rfl rfl (by decide +kernel) ⟨Nat.le_of_ble_eq_true rfl, Nat.le_of_ble_eq_true rfl⟩) (gPreV hK (g_rf hK hP (ci := 2) (q0 := 0) rfl rfl) hP) rfl rfl hl.1 rfl (lv_room (Nat.le_of_ble_eq_true rfl)) dX0_firstHeard_14 ⟨by omega, by omega⟩) ?_
        refine g_if_eq (P := hdF kf (i_1) = false) (tgt := 44) hx hb dX0_firstHeard_17 (by decide) b2i_0 (fun c_13 => ?_) (fun c_13 => ?_)
        · refine lv_iinc (v := nI (i_1 + 1)) (lv' := [(3, .int (nI (i_1 + 1))), (2, .int (oI (bst (fun c => hdF kf c && !hs out c) (cbF kf) i_1))), (0, .ref (K 0)), (1, .int (out))]) hx hb dX0_firstHeard_44 hl (k := 0) rfl (inc_1 _) (by decide) rfl (fun ls hl => ?_)
          refine lv_goto (tgt := 4) hx hb dX0_firstHeard_47 (by decide) ?_
          exact ih_8 (i_1 + 1) _ _ (by omega) (by omega) rfl (by rw [bst_no (by simp [c_13])])  ls (lv_sub hl [0, 1, 2, 3] rfl)
        · have c_13 : hdF kf (i_1) = true := eq_true_of_ne_false c_13
          refine lv_iload_n hx hb dX0_firstHeard_20 rfl (lv_at hl 3 rfl) ?_
          refine lv_iload_n hx hb dX0_firstHeard_21 rfl (lv_at hl 0 rfl) ?_
          refine rd_calle (va_runSN (As := [.int (out), .int (nI (i_1))]) (rest := []) ⟨hx, hb, hml, hown, hts⟩ (c_X7_isIn l D cA (out) (i_1)) ⟨(va_cnB 2 hts (gWN gm_12_9) rfl rfl rfl (hK.2 _ (List.mem_of_getElem? (i := 9) rfl)) (hts _ (List.mem_cons_of_mem _ gm_1_2)) (by decide +kernel) ⟨Nat.le_of_ble_eq_true rfl, Nat.le_of_ble_eq_true rfl⟩), hts _ (List.mem_cons_of_mem _ gm_12_8), trivial⟩ (gPreS hK trivial) rfl rfl hl.1 rfl (lv_room (Nat.le_of_ble_eq_true rfl)) dX0_firstHeard_22 ⟨by omega, by omega⟩) ?_
          refine g_if_ne (P := hs (out) (i_1) = false) (tgt := 44) hx hb dX0_firstHeard_25 (by decide) b2i_0 (fun c_14 => ?_) (fun c_14 => ?_)
          · have c_14 : hs (out) (i_1) = true := eq_true_of_ne_false c_14
            refine lv_iinc (v := nI (i_1 + 1)) (lv' := [(3, .int (nI (i_1 + 1))), (2, .int (oI (bst (fun c => hdF kf c && !hs out c) (cbF kf) i_1))), (0, .ref (K 0)), (1, .int (out))]) hx hb dX0_firstHeard_44 hl (k := 0) rfl (inc_1 _) (by decide) rfl (fun ls hl => ?_)
            refine lv_goto (tgt := 4) hx hb dX0_firstHeard_47 (by decide) ?_
            exact ih_8 (i_1 + 1) _ _ (by omega) (by omega) rfl (by rw [bst_no (by simp [c_13, c_14])])  ls (lv_sub hl [0, 1, 2, 3] rfl)
          · refine lv_iload_n hx hb dX0_firstHeard_28 rfl (lv_at hl 1 rfl) ?_
            refine lv_iconst (v := -1) hx hb dX0_firstHeard_29 gc_m1 ?_
            refine g_icmp_eq (P := bst (fun c => hdF kf c && !hs out c) (cbF kf) i_1 = none) (tgt := 42) hx hb dX0_firstHeard_30 (by decide) (oI_m1 (fun b q => by have := bst_lt q; omega)) (fun c_15 => ?_) (fun c_15 => ?_)
            · refine lv_iload_n hx hb dX0_firstHeard_42 rfl (lv_at hl 0 rfl) ?_
              refine lv_istore_n (lv' := [(2, .int (nI (i_1))), (3, .int (nI (i_1))), (0, .ref (K 0)), (1, .int (out))]) hx hb dX0_firstHeard_43 rfl hl (by decide) rfl (fun ls hl => ?_)
              refine lv_iinc (v := nI (i_1 + 1)) (lv' := [(3, .int (nI (i_1 + 1))), (2, .int (nI (i_1))), (0, .ref (K 0)), (1, .int (out))]) hx hb dX0_firstHeard_44 hl (k := 1) rfl (inc_1 _) (by decide) rfl (fun ls hl => ?_)
              refine lv_goto (tgt := 4) hx hb dX0_firstHeard_47 (by decide) ?_
              exact ih_8 (i_1 + 1) _ _ (by omega) (by omega) rfl (by rw [bst_new (by simp [c_13, c_14]) c_15]; rfl)  ls (lv_sub hl [0, 1, 2, 3] rfl)
            · obtain ⟨b_16, eb_17⟩ := o_some c_15
              have hb_18 := bst_lt eb_17
              rw [eb_17] at hl
              have hl : lv_has ls 4 [(3, .int (nI (i_1))), (2, .int (nI (b_16))), (0, .ref (K 0)), (1, .int (out))] := hl
              refine lv_aload_n hx hb dX0_firstHeard_33 rfl (lv_at hl 2 rfl) ?_
              refine lv_iload_n hx hb dX0_firstHeard_34 rfl (lv_at hl 0 rfl) ?_
              refine lv_iload_n hx hb dX0_firstHeard_35 rfl (lv_at hl 1 rfl) ?_
              refine rd_calle (va_runV (As := [.int (nI (i_1)), .int (nI (b_16))]) (rest := []) ⟨hx, hb, hml, hown, hts⟩ (c_X0_comesBefore l D cA K kf rw cn rl (i_1) (b_16) (by omega) (by omega)) (cwV 2 hts (gWV gm_13_15 gm_13_16 gm_13_17 gm_3_0 gm_13_18) rfl rfl rfl (by decide +kernel) ⟨Nat.le_of_ble_eq_true rfl, Nat.le_of_ble_eq_true rfl⟩) (gPreV hK (g_rf hK hP (ci := 2) (q0 := 0) rfl rfl) hP) rfl rfl hl.1 rfl (lv_room (Nat.le_of_ble_eq_true rfl)) dX0_firstHeard_36 ⟨by omega, by omega⟩) ?_
              refine g_if_eq (P := cbF kf (i_1) (b_16) = false) (tgt := 44) hx hb dX0_firstHeard_39 (by decide) b2i_0 (fun c_19 => ?_) (fun c_19 => ?_)
              · refine lv_iinc (v := nI (i_1 + 1)) (lv' := [(3, .int (nI (i_1 + 1))), (2, .int (nI (b_16))), (0, .ref (K 0)), (1, .int (out))]) hx hb dX0_firstHeard_44 hl (k := 0) rfl (inc_1 _) (by decide) rfl (fun ls hl => ?_)
                refine lv_goto (tgt := 4) hx hb dX0_firstHeard_47 (by decide) ?_
                exact ih_8 (i_1 + 1) _ _ (by omega) (by omega) rfl (by rw [bst_lose (by simp [c_13, c_14]) eb_17 (by simp [c_19])]; rfl)  ls (lv_sub hl [0, 1, 2, 3] rfl)
              · have c_19 : cbF kf (i_1) (b_16) = true := eq_true_of_ne_false c_19
                refine lv_iload_n hx hb dX0_firstHeard_42 rfl (lv_at hl 0 rfl) ?_
                refine lv_istore_n (lv' := [(2, .int (nI (i_1))), (3, .int (nI (i_1))), (0, .ref (K 0)), (1, .int (out))]) hx hb dX0_firstHeard_43 rfl hl (by decide) rfl (fun ls hl => ?_)
                refine lv_iinc (v := nI (i_1 + 1)) (lv' := [(3, .int (nI (i_1 + 1))), (2, .int (nI (i_1))), (0, .ref (K 0)), (1, .int (out))]) hx hb dX0_firstHeard_44 hl (k := 1) rfl (inc_1 _) (by decide) rfl (fun ls hl => ?_)
                refine lv_goto (tgt := 4) hx hb dX0_firstHeard_47 (by decide) ?_
                exact ih_8 (i_1 + 1) _ _ (by omega) (by omega) rfl (by rw [bst_win (by simp [c_13, c_14]) eb_17 (by simp [c_19])]; rfl)  ls (lv_sub hl [0, 1, 2, 3] rfl)
  exact LP_5 (cn + 1) 0 _ _ (by omega) (by omega) rfl rfl  ls (lv_sub hl [0, 1, 2, 3] rfl)

set_option maxHeartbeats 1000000 in
set_option maxRecDepth 100000 in
theorem c_X0_placeOnRoll (l : Launch) (D : va_G) (cA : Nat → ClassId) (K : Nat → Nat) (kf : Nat → Nat → Int32) (rw : Nat → Nat) (cn rl : Nat) (q : Nat) (hrl : rl ≤ 10) (hrw : ∀ k, k < rl → rw k < 10) (hq : q < 10) : Met l yX0_placeOnRoll (gw yX0_placeOnRoll cX0_placeOnRoll 3 (some .int)) ({ frames := 0, cells := 0, slots := 0, locals := 0 } : Room) (gPc [.ref (K 0), .int (nI (q))] (fun H => va_P D vwCl (kw cA K kf rw cn rl) H) D cA) (rdI (fun r => r = oI (fnd (fun k => decide (rw k = q)) rl))) 0 0 nF := by
  refine gOf (by decide) (Nat.le_of_ble_eq_true rfl) ?_
  intro p e s m below meth c ls hx hb hml hr hlk hown hts hnm hP hK hl
  have hl : lv_has ls 3 [(0, .ref (K 0)), (1, .int (nI (q)))] := hl
  refine lv_iconst (v := nI (0)) hx hb dX0_placeOnRoll_0 gc_0 ?_
  refine lv_istore_n (lv' := [(2, .int (nI (0))), (0, .ref (K 0)), (1, .int (nI (q)))]) hx hb dX0_placeOnRoll_1 rfl hl (by decide) rfl (fun ls hl => ?_)
  have LP_4 : ∀ (n_2 i_1 : Nat) (x_3 : Int32), i_1 ≤ rl → rl + 1 ≤ i_1 + n_2 → x_3 = nI (i_1) → fnd (fun k => decide (rw k = q)) (i_1) = none → ∀ (ls : Array Slot), lv_has ls 3 [(2, .int (x_3)), (0, .ref (K 0)), (1, .int (nI (q)))] → W p l e ({ frames := 0, cells := 0, slots := 0, locals := 0 } : Room) s m ([.ref (K 0), .int (nI (q))] : List Value).toArray below meth c s.heap [] 0 0 (MQ below (rdI (fun r => r = oI (fnd (fun k => decide (rw k = q)) rl))) ([.ref (K 0), .int (nI (q))] : List Value).toArray s 0 0 nF) (F0 m 2 ls []) := by
    intro n_2
    induction n_2 with
    | zero => intro i_1 x_3 h1 h2; exact absurd h2 (by omega)
    | succ n_2 ih_6 =>
      intro i_1 x_3 h_7 h_8 e_5 hv ls hl
      subst e_5
      refine lv_iload_n hx hb dX0_placeOnRoll_2 rfl (lv_at hl 0 rfl) ?_
      refine lv_aload_n hx hb dX0_placeOnRoll_3 rfl (lv_at hl 1 rfl) ?_
      refine g_get (v := .int (nI (rl))) hx hb hts hown hK hP 0 rfl rfl gu_wsX00 10 (by decide) gm_4_3 rfl dX0_placeOnRoll_4 ?_
      refine g_icmp_ge (P := rl ≤ i_1) (tgt := 28) hx hb dX0_placeOnRoll_7 (by decide) (nI_leI (by omega) (by omega)) (fun c_9 => ?_) (fun c_9 => ?_)
      · have d_9 : ¬ i_1 < rl := Nat.not_lt.mpr c_9
        have hN_10 : rl = i_1 := by omega
        subst hN_10
        refine lv_iconst (v := -1) hx hb dX0_placeOnRoll_28 gc_m1 ?_
        exact g_iret (v := -1) hx hb hr hlk dX0_placeOnRoll_29 (by rw [hv]; rfl)
      · have d_9 : i_1 < rl := Nat.not_le.mp c_9
        refine lv_aload_n hx hb dX0_placeOnRoll_10 rfl (lv_at hl 1 rfl) ?_
        refine g_get (v := .ref (K 9)) hx hb hts hown hK hP 0 rfl rfl gu_wsX00 8 (by decide) gm_4_1 rfl dX0_placeOnRoll_11 ?_
        refine lv_iload_n hx hb dX0_placeOnRoll_14 rfl (lv_at hl 0 rfl) ?_
        refine g_iald (x := nI (rw (i_1))) hx hb hK hP 9 rfl (by omega) (by decide) rfl dX0_placeOnRoll_15 ?_
        refine lv_iload_n hx hb dX0_placeOnRoll_16 rfl (lv_at hl 2 rfl) ?_
        have hrk_11 := hrw (i_1) (by omega)
        refine g_icmp_ne (P := rw (i_1) = q) (tgt := 22) hx hb dX0_placeOnRoll_17 (by decide) (nI_eq (by omega) (by omega)) (fun c_12 => ?_) (fun c_12 => ?_)
        · refine lv_iinc (v := nI (i_1 + 1)) (lv' := [(2, .int (nI (i_1 + 1))), (0, .ref (K 0)), (1, .int (nI (q)))]) hx hb dX0_placeOnRoll_22 hl (k := 0) rfl (inc_1 _) (by decide) rfl (fun ls hl => ?_)
          refine lv_goto (tgt := 2) hx hb dX0_placeOnRoll_25 (by decide) ?_
          exact ih_6 (i_1 + 1) _ (by omega) (by omega) rfl (fnd_succ_none hv (by simp [c_9, d_9, c_12] <;> omega)) ls (lv_sub hl [0, 1, 2] rfl)
        · refine lv_iload_n hx hb dX0_placeOnRoll_20 rfl (lv_at hl 0 rfl) ?_
          exact g_iret (v := nI (i_1)) hx hb hr hlk dX0_placeOnRoll_21 (by rw [fnd_stop hv (by simp [c_9, d_9, c_12]) rl (by omega)]; rfl)
  exact LP_4 (rl + 1) 0 _ (by omega) (by omega) rfl rfl ls (lv_sub hl [0, 1, 2] rfl)

def nthS (first : Int32 → Option Nat) : Nat → Int32 × Option Nat
  | 0 => (nI 0, first (nI 0))
  | k + 1 => match (nthS first k).2 with
    | none => nthS first k
    | some b => ((nthS first k).1 ||| (nI 1 <<< (nI b &&& 31)), first ((nthS first k).1 ||| (nI 1 <<< (nI b &&& 31))))
theorem nthS_some {first : Int32 → Option Nat} {k b : Nat} (h : (nthS first k).2 = some b) : nthS first (k + 1) = ((nthS first k).1 ||| (nI 1 <<< (nI b &&& 31)), first ((nthS first k).1 ||| (nI 1 <<< (nI b &&& 31)))) := by
  show (match (nthS first k).2 with | none => _ | some b => _) = _
  rw [h]
theorem nthS_none {first : Int32 → Option Nat} {k : Nat} (h : (nthS first k).2 = none) : ∀ m, k ≤ m → nthS first m = nthS first k
  | 0, q => by rw [Nat.le_zero.mp q]
  | m + 1, q => by
    rcases Nat.lt_or_ge m k with r | r
    · rw [show m + 1 = k by omega]
    · have e := nthS_none h m r
      show (match (nthS first m).2 with | none => _ | some b => _) = _
      rw [e, h]
def nthV (first : Int32 → Option Nat) (n : Nat) (v : Int32) : Option Nat := if isIx v n = true then (nthS first v.toNatClampNeg).2 else none
theorem nthV_in {first : Int32 → Option Nat} {n j : Nat} {v : Int32} (hj : j < n) (hn : n < 2 ^ 31) (e : v = nI j) : nthV first n v = (nthS first j).2 := by
  rw [nthV, e, if_pos (isIx_t hj hn), nI_clamp (Nat.lt_trans hj hn)]
theorem nthV_out {first : Int32 → Option Nat} {n : Nat} {v : Int32} (h : isIx v n = false) : nthV first n v = none := by
  rw [nthV, if_neg (by rw [h]; decide)]
theorem nthS_lt {first : Int32 → Option Nat} {n : Nat} (h : ∀ o b, first o = some b → b < n) : ∀ k b, (nthS first k).2 = some b → b < n
  | 0, b, q => h _ b q
  | k + 1, b, q => by
    cases e : (nthS first k).2 with
    | none =>
      rw [nthS_none e (k + 1) (Nat.le_succ k)] at q
      exact nthS_lt h k b q
    | some z =>
      rw [nthS_some e] at q
      exact h _ b q
theorem fdF_lt {l d : Nat → Int32} {n : Nat} (o : Int32) (b : Nat) (h : fdF l d n o = some b) : b < n := bst_lt h
theorem fhF_lt {k : Nat → Nat → Int32} {n : Nat} (o : Int32) (b : Nat) (h : fhF k n o = some b) : b < n := bst_lt h

set_option maxHeartbeats 1000000 in
set_option maxRecDepth 100000 in
theorem c_X3_doubtfulAt (l : Launch) (D : va_G) (cA : Nat → ClassId) (J : Nat → Nat) (jf : Nat → Nat → Int32) (jn : Nat) (v : Int32) (hjn : jn ≤ 9) : Met l yX3_doubtfulAt (gw yX3_doubtfulAt cX3_doubtfulAt 5 (some .int)) ({ frames := 2, cells := 0, slots := 0, locals := 45 } : Room) (gPc [.ref (J 0), .int (v)] (fun H => va_P D vwCl (jw cA J jf jn) H) D cA) (rdI (fun r => r = oI (nthV (fdF (jf 0) (jf 1) jn) jn v))) 0 0 nF := by
  refine gOf (by decide) (Nat.le_of_ble_eq_true rfl) ?_
  intro p e s m below meth c ls hx hb hml hr hlk hown hts hnm hP hK hl
  have hl : lv_has ls 5 [(0, .ref (J 0)), (1, .int (v))] := hl
  refine lv_aload_n hx hb dX3_doubtfulAt_0 rfl (lv_at hl 0 rfl) ?_
  refine lv_iload_n hx hb dX3_doubtfulAt_1 rfl (lv_at hl 1 rfl) ?_
  refine rd_calle (va_runV (As := [.int (v)]) (rest := []) ⟨hx, hb, hml, hown, hts⟩ (c_X3_has l D cA J jf jn (v) hjn) (cwV 1 hts (gWV gm_35_0 gm_25_2 gm_25_3 gm_2_5 gm_25_4) rfl rfl rfl (by decide +kernel) ⟨Nat.le_of_ble_eq_true rfl, Nat.le_of_ble_eq_true rfl⟩) (gPreV hK (g_rf hK hP (ci := 5) (q0 := 0) rfl rfl) hP) rfl rfl hl.1 rfl (lv_room (Nat.le_of_ble_eq_true rfl)) dX3_doubtfulAt_2 ⟨by omega, by omega⟩) ?_
  refine g_if_ne (P := isIx (v) jn = false) (tgt := 10) hx hb dX3_doubtfulAt_5 (by decide) b2i_0 (fun c_1 => ?_) (fun c_1 => ?_)
  · have c_1 : isIx (v) jn = true := eq_true_of_ne_false c_1
    obtain ⟨j_2, hj_4, ej_3⟩ := isIx_n c_1 (by omega)
    rw [ej_3] at hl
    have hl : lv_has ls 5 [(0, .ref (J 0)), (1, .int (nI (j_2)))] := hl
    refine lv_iconst (v := nI (0)) hx hb dX3_doubtfulAt_10 gc_0 ?_
    refine lv_istore_n (lv' := [(2, .int (nI (0))), (0, .ref (J 0)), (1, .int (nI (j_2)))]) hx hb dX3_doubtfulAt_11 rfl hl (by decide) rfl (fun ls hl => ?_)
    refine lv_aload_n hx hb dX3_doubtfulAt_12 rfl (lv_at hl 1 rfl) ?_
    refine lv_iload_n hx hb dX3_doubtfulAt_13 rfl (lv_at hl 0 rfl) ?_
    refine rd_calle (va_runV (As := [.int (nI (0))]) (rest := []) ⟨hx, hb, hml, hown, hts⟩ (c_X3_firstDoubtful l D cA J jf jn (nI (0)) hjn) (cwV 1 hts (gWV gm_35_1 gm_35_2 gm_35_3 gm_2_5 gm_35_4) rfl rfl rfl (by decide +kernel) ⟨Nat.le_of_ble_eq_true rfl, Nat.le_of_ble_eq_true rfl⟩) (gPreV hK (g_rf hK hP (ci := 5) (q0 := 0) rfl rfl) hP) rfl rfl hl.1 rfl (lv_room (Nat.le_of_ble_eq_true rfl)) dX3_doubtfulAt_14 ⟨by omega, by omega⟩) ?_
    refine lv_istore_n (lv' := [(3, .int (oI (fdF (jf 0) (jf 1) jn (nI (0))))), (2, .int (nI (0))), (0, .ref (J 0)), (1, .int (nI (j_2)))]) hx hb dX3_doubtfulAt_17 rfl hl (by decide) rfl (fun ls hl => ?_)
    refine lv_iconst (v := nI (0)) hx hb dX3_doubtfulAt_18 gc_0 ?_
    refine lv_istore (lv' := [(4, .int (nI (0))), (3, .int (oI (fdF (jf 0) (jf 1) jn (nI (0))))), (2, .int (nI (0))), (0, .ref (J 0)), (1, .int (nI (j_2)))]) hx hb dX3_doubtfulAt_19 hl (by decide) rfl (fun ls hl => ?_)
    have LP_10 : ∀ (n_6 i_5 : Nat) (x_7 x_8 x_9 : Int32), i_5 ≤ j_2 → j_2 + 1 ≤ i_5 + n_6 → x_7 = nI (i_5) → x_8 = oI ((nthS (fdF (jf 0) (jf 1) jn) i_5).2) → x_9 = (nthS (fdF (jf 0) (jf 1) jn) i_5).1 → ∀ (ls : Array Slot), lv_has ls 5 [(4, .int (x_7)), (3, .int (x_8)), (2, .int (x_9)), (0, .ref (J 0)), (1, .int (nI (j_2)))] → W p l e ({ frames := 2, cells := 0, slots := 0, locals := 45 } : Room) s m ([.ref (J 0), .int (v)] : List Value).toArray below meth c s.heap [] 0 0 (MQ below (rdI (fun r => r = oI (nthV (fdF (jf 0) (jf 1) jn) jn v))) ([.ref (J 0), .int (v)] : List Value).toArray s 0 0 nF) (F0 m 21 ls []) := by
      intro n_6
      induction n_6 with
      | zero => intro i_5 x_7 x_8 x_9 h1 h2; exact absurd h2 (by omega)
      | succ n_6 ih_14 =>
        intro i_5 x_7 x_8 x_9 h_15 h_16 e_11 e_12 e_13  ls hl
        subst e_11
        subst e_12
        subst e_13
        refine lv_iload hx hb dX3_doubtfulAt_21 (lv_at hl 0 rfl) ?_
        refine lv_iload_n hx hb dX3_doubtfulAt_23 rfl (lv_at hl 4 rfl) ?_
        refine g_icmp_ge (P := j_2 ≤ i_5) (tgt := 50) hx hb dX3_doubtfulAt_24 (by decide) (nI_leI (by omega) (by omega)) (fun c_17 => ?_) (fun c_17 => ?_)
        · have d_17 : ¬ i_5 < j_2 := Nat.not_lt.mpr c_17
          have hN_18 : j_2 = i_5 := by omega
          subst hN_18
          refine lv_iload_n hx hb dX3_doubtfulAt_50 rfl (lv_at hl 1 rfl) ?_
          exact g_iret (v := oI ((nthS (fdF (jf 0) (jf 1) jn) (j_2)).2)) hx hb hr hlk dX3_doubtfulAt_51 (by rw [nthV_in hj_4 (by omega) ej_3])
        · have d_17 : i_5 < j_2 := Nat.not_le.mp c_17
          refine lv_iload_n hx hb dX3_doubtfulAt_27 rfl (lv_at hl 1 rfl) ?_
          refine lv_iconst (v := -1) hx hb dX3_doubtfulAt_28 gc_m1 ?_
          refine g_icmp_eq (P := (nthS (fdF (jf 0) (jf 1) jn) i_5).2 = none) (tgt := 50) hx hb dX3_doubtfulAt_29 (by decide) (oI_m1 (fun b q => by have := nthS_lt fdF_lt _ _ q; omega)) (fun c_19 => ?_) (fun c_19 => ?_)
          · refine lv_iload_n hx hb dX3_doubtfulAt_50 rfl (lv_at hl 1 rfl) ?_
            exact g_iret (v := oI ((nthS (fdF (jf 0) (jf 1) jn) i_5).2)) hx hb hr hlk dX3_doubtfulAt_51 (by rw [nthV_in hj_4 (by omega) ej_3, nthS_none c_19 j_2 (by omega)])
          · obtain ⟨b_20, eb_21⟩ := o_some c_19
            have hb_22 := nthS_lt fdF_lt _ _ eb_21
            rw [eb_21] at hl
            have hl : lv_has ls 5 [(4, .int (nI (i_5))), (3, .int (nI (b_20))), (2, .int ((nthS (fdF (jf 0) (jf 1) jn) i_5).1)), (0, .ref (J 0)), (1, .int (nI (j_2)))] := hl
            refine lv_iload_n hx hb dX3_doubtfulAt_32 rfl (lv_at hl 2 rfl) ?_
            refine lv_iconst (v := nI (1)) hx hb dX3_doubtfulAt_33 gc_1 ?_
            refine lv_iload_n hx hb dX3_doubtfulAt_34 rfl (lv_at hl 1 rfl) ?_
            refine lv_ishl hx hb dX3_doubtfulAt_35 ?_
            refine lv_ior hx hb dX3_doubtfulAt_36 ?_
            refine lv_istore_n (lv' := [(2, .int (((nthS (fdF (jf 0) (jf 1) jn) i_5).1) ||| ((nI (1)) <<< ((nI (b_20)) &&& 31)))), (4, .int (nI (i_5))), (3, .int (nI (b_20))), (0, .ref (J 0)), (1, .int (nI (j_2)))]) hx hb dX3_doubtfulAt_37 rfl hl (by decide) rfl (fun ls hl => ?_)
            refine lv_aload_n hx hb dX3_doubtfulAt_38 rfl (lv_at hl 3 rfl) ?_
            refine lv_iload_n hx hb dX3_doubtfulAt_39 rfl (lv_at hl 0 rfl) ?_
            refine rd_calle (va_runV (As := [.int (((nthS (fdF (jf 0) (jf 1) jn) i_5).1) ||| ((nI (1)) <<< ((nI (b_20)) &&& 31)))]) (rest := []) ⟨hx, hb, hml, hown, hts⟩ (c_X3_firstDoubtful l D cA J jf jn (((nthS (fdF (jf 0) (jf 1) jn) i_5).1) ||| ((nI (1)) <<< ((nI (b_20)) &&& 31))) hjn) (cwV 1 hts (gWV gm_35_1 gm_35_2 gm_35_3 gm_2_5 gm_35_4) rfl rfl rfl (by decide +kernel) ⟨Nat.le_of_ble_eq_true rfl, Nat.le_of_ble_eq_true rfl⟩) (gPreV hK (g_rf hK hP (ci := 5) (q0 := 0) rfl rfl) hP) rfl rfl hl.1 rfl (lv_room (Nat.le_of_ble_eq_true rfl)) dX3_doubtfulAt_40 ⟨by omega, by omega⟩) ?_
            refine lv_istore_n (lv' := [(3, .int (oI (fdF (jf 0) (jf 1) jn (((nthS (fdF (jf 0) (jf 1) jn) i_5).1) ||| ((nI (1)) <<< ((nI (b_20)) &&& 31)))))), (2, .int (((nthS (fdF (jf 0) (jf 1) jn) i_5).1) ||| ((nI (1)) <<< ((nI (b_20)) &&& 31)))), (4, .int (nI (i_5))), (0, .ref (J 0)), (1, .int (nI (j_2)))]) hx hb dX3_doubtfulAt_43 rfl hl (by decide) rfl (fun ls hl => ?_)
            refine lv_iinc (v := nI (i_5 + 1)) (lv' := [(4, .int (nI (i_5 + 1))), (3, .int (oI (fdF (jf 0) (jf 1) jn (((nthS (fdF (jf 0) (jf 1) jn) i_5).1) ||| ((nI (1)) <<< ((nI (b_20)) &&& 31)))))), (2, .int (((nthS (fdF (jf 0) (jf 1) jn) i_5).1) ||| ((nI (1)) <<< ((nI (b_20)) &&& 31)))), (0, .ref (J 0)), (1, .int (nI (j_2)))]) hx hb dX3_doubtfulAt_44 hl (k := 2) rfl (inc_1 _) (by decide) rfl (fun ls hl => ?_)
            refine lv_goto (tgt := 21) hx hb dX3_doubtfulAt_47 (by decide) ?_
            exact ih_14 (i_5 + 1) _ _ _ (by omega) (by omega) rfl (by rw [nthS_some eb_21]) (by rw [nthS_some eb_21])  ls (lv_sub hl [0, 1, 2, 3, 4] rfl)
    exact LP_10 (j_2 + 1) 0 _ _ _ (by omega) (by omega) rfl rfl rfl  ls (lv_sub hl [0, 1, 2, 3, 4] rfl)
  · refine lv_iconst (v := -1) hx hb dX3_doubtfulAt_8 gc_m1 ?_
    exact g_iret (v := -1) hx hb hr hlk dX3_doubtfulAt_9 (by rw [nthV_out c_1]; rfl)

set_option maxHeartbeats 1000000 in
set_option maxRecDepth 100000 in
theorem c_X0_takenOutAt (l : Launch) (D : va_G) (cA : Nat → ClassId) (K : Nat → Nat) (kf : Nat → Nat → Int32) (rw : Nat → Nat) (cn rl : Nat) (v : Int32) (hcn : cn ≤ 10) : Met l yX0_takenOutAt (gw yX0_takenOutAt cX0_takenOutAt 5 (some .int)) ({ frames := 3, cells := 0, slots := 0, locals := 65 } : Room) (gPc [.ref (K 0), .int (v)] (fun H => va_P D vwCl (kw cA K kf rw cn rl) H) D cA) (rdI (fun r => r = oI (nthV (fhF kf cn) cn v))) 0 0 nF := by
  refine gOf (by decide) (Nat.le_of_ble_eq_true rfl) ?_
  intro p e s m below meth c ls hx hb hml hr hlk hown hts hnm hP hK hl
  have hl : lv_has ls 5 [(0, .ref (K 0)), (1, .int (v))] := hl
  refine lv_aload_n hx hb dX0_takenOutAt_0 rfl (lv_at hl 0 rfl) ?_
  refine lv_iload_n hx hb dX0_takenOutAt_1 rfl (lv_at hl 1 rfl) ?_
  refine rd_calle (va_runV (As := [.int (v)]) (rest := []) ⟨hx, hb, hml, hown, hts⟩ (c_X0_has l D cA K kf rw cn rl (v) hcn) (cwV 1 hts (gWV gm_31_1 gm_11_16 gm_11_17 gm_3_0 gm_11_18) rfl rfl rfl (by decide +kernel) ⟨Nat.le_of_ble_eq_true rfl, Nat.le_of_ble_eq_true rfl⟩) (gPreV hK (g_rf hK hP (ci := 2) (q0 := 0) rfl rfl) hP) rfl rfl hl.1 rfl (lv_room (Nat.le_of_ble_eq_true rfl)) dX0_takenOutAt_2 ⟨by omega, by omega⟩) ?_
  refine g_if_ne (P := isIx (v) cn = false) (tgt := 10) hx hb dX0_takenOutAt_5 (by decide) b2i_0 (fun c_1 => ?_) (fun c_1 => ?_)
  · have c_1 : isIx (v) cn = true := eq_true_of_ne_false c_1
    obtain ⟨j_2, hj_4, ej_3⟩ := isIx_n c_1 (by omega)
    rw [ej_3] at hl
    have hl : lv_has ls 5 [(0, .ref (K 0)), (1, .int (nI (j_2)))] := hl
    refine lv_iconst (v := nI (0)) hx hb dX0_takenOutAt_10 gc_0 ?_
    refine lv_istore_n (lv' := [(2, .int (nI (0))), (0, .ref (K 0)), (1, .int (nI (j_2)))]) hx hb dX0_takenOutAt_11 rfl hl (by decide) rfl (fun ls hl => ?_)
    refine lv_aload_n hx hb dX0_takenOutAt_12 rfl (lv_at hl 1 rfl) ?_
    refine lv_iload_n hx hb dX0_takenOutAt_13 rfl (lv_at hl 0 rfl) ?_
    refine rd_calle (va_runV (As := [.int (nI (0))]) (rest := []) ⟨hx, hb, hml, hown, hts⟩ (c_X0_firstHeard l D cA K kf rw cn rl (nI (0)) hcn) (cwV 1 hts (gWV gm_31_2 gm_31_3 gm_31_4 gm_3_0 gm_31_5) rfl rfl rfl (by decide +kernel) ⟨Nat.le_of_ble_eq_true rfl, Nat.le_of_ble_eq_true rfl⟩) (gPreV hK (g_rf hK hP (ci := 2) (q0 := 0) rfl rfl) hP) rfl rfl hl.1 rfl (lv_room (Nat.le_of_ble_eq_true rfl)) dX0_takenOutAt_14 ⟨by omega, by omega⟩) ?_
    refine lv_istore_n (lv' := [(3, .int (oI (fhF kf cn (nI (0))))), (2, .int (nI (0))), (0, .ref (K 0)), (1, .int (nI (j_2)))]) hx hb dX0_takenOutAt_17 rfl hl (by decide) rfl (fun ls hl => ?_)
    refine lv_iconst (v := nI (0)) hx hb dX0_takenOutAt_18 gc_0 ?_
    refine lv_istore (lv' := [(4, .int (nI (0))), (3, .int (oI (fhF kf cn (nI (0))))), (2, .int (nI (0))), (0, .ref (K 0)), (1, .int (nI (j_2)))]) hx hb dX0_takenOutAt_19 hl (by decide) rfl (fun ls hl => ?_)
    have LP_10 : ∀ (n_6 i_5 : Nat) (x_7 x_8 x_9 : Int32), i_5 ≤ j_2 → j_2 + 1 ≤ i_5 + n_6 → x_7 = nI (i_5) → x_8 = oI ((nthS (fhF kf cn) i_5).2) → x_9 = (nthS (fhF kf cn) i_5).1 → ∀ (ls : Array Slot), lv_has ls 5 [(4, .int (x_7)), (3, .int (x_8)), (2, .int (x_9)), (0, .ref (K 0)), (1, .int (nI (j_2)))] → W p l e ({ frames := 3, cells := 0, slots := 0, locals := 65 } : Room) s m ([.ref (K 0), .int (v)] : List Value).toArray below meth c s.heap [] 0 0 (MQ below (rdI (fun r => r = oI (nthV (fhF kf cn) cn v))) ([.ref (K 0), .int (v)] : List Value).toArray s 0 0 nF) (F0 m 21 ls []) := by
      intro n_6
      induction n_6 with
      | zero => intro i_5 x_7 x_8 x_9 h1 h2; exact absurd h2 (by omega)
      | succ n_6 ih_14 =>
        intro i_5 x_7 x_8 x_9 h_15 h_16 e_11 e_12 e_13  ls hl
        subst e_11
        subst e_12
        subst e_13
        refine lv_iload hx hb dX0_takenOutAt_21 (lv_at hl 0 rfl) ?_
        refine lv_iload_n hx hb dX0_takenOutAt_23 rfl (lv_at hl 4 rfl) ?_
        refine g_icmp_ge (P := j_2 ≤ i_5) (tgt := 50) hx hb dX0_takenOutAt_24 (by decide) (nI_leI (by omega) (by omega)) (fun c_17 => ?_) (fun c_17 => ?_)
        · have d_17 : ¬ i_5 < j_2 := Nat.not_lt.mpr c_17
          have hN_18 : j_2 = i_5 := by omega
          subst hN_18
          refine lv_iload_n hx hb dX0_takenOutAt_50 rfl (lv_at hl 1 rfl) ?_
          exact g_iret (v := oI ((nthS (fhF kf cn) (j_2)).2)) hx hb hr hlk dX0_takenOutAt_51 (by rw [nthV_in hj_4 (by omega) ej_3])
        · have d_17 : i_5 < j_2 := Nat.not_le.mp c_17
          refine lv_iload_n hx hb dX0_takenOutAt_27 rfl (lv_at hl 1 rfl) ?_
          refine lv_iconst (v := -1) hx hb dX0_takenOutAt_28 gc_m1 ?_
          refine g_icmp_eq (P := (nthS (fhF kf cn) i_5).2 = none) (tgt := 50) hx hb dX0_takenOutAt_29 (by decide) (oI_m1 (fun b q => by have := nthS_lt fhF_lt _ _ q; omega)) (fun c_19 => ?_) (fun c_19 => ?_)
          · refine lv_iload_n hx hb dX0_takenOutAt_50 rfl (lv_at hl 1 rfl) ?_
            exact g_iret (v := oI ((nthS (fhF kf cn) i_5).2)) hx hb hr hlk dX0_takenOutAt_51 (by rw [nthV_in hj_4 (by omega) ej_3, nthS_none c_19 j_2 (by omega)])
          · obtain ⟨b_20, eb_21⟩ := o_some c_19
            have hb_22 := nthS_lt fhF_lt _ _ eb_21
            rw [eb_21] at hl
            have hl : lv_has ls 5 [(4, .int (nI (i_5))), (3, .int (nI (b_20))), (2, .int ((nthS (fhF kf cn) i_5).1)), (0, .ref (K 0)), (1, .int (nI (j_2)))] := hl
            refine lv_iload_n hx hb dX0_takenOutAt_32 rfl (lv_at hl 2 rfl) ?_
            refine lv_iconst (v := nI (1)) hx hb dX0_takenOutAt_33 gc_1 ?_
            refine lv_iload_n hx hb dX0_takenOutAt_34 rfl (lv_at hl 1 rfl) ?_
            refine lv_ishl hx hb dX0_takenOutAt_35 ?_
            refine lv_ior hx hb dX0_takenOutAt_36 ?_
            refine lv_istore_n (lv' := [(2, .int (((nthS (fhF kf cn) i_5).1) ||| ((nI (1)) <<< ((nI (b_20)) &&& 31)))), (4, .int (nI (i_5))), (3, .int (nI (b_20))), (0, .ref (K 0)), (1, .int (nI (j_2)))]) hx hb dX0_takenOutAt_37 rfl hl (by decide) rfl (fun ls hl => ?_)
            refine lv_aload_n hx hb dX0_takenOutAt_38 rfl (lv_at hl 3 rfl) ?_
            refine lv_iload_n hx hb dX0_takenOutAt_39 rfl (lv_at hl 0 rfl) ?_
            refine rd_calle (va_runV (As := [.int (((nthS (fhF kf cn) i_5).1) ||| ((nI (1)) <<< ((nI (b_20)) &&& 31)))]) (rest := []) ⟨hx, hb, hml, hown, hts⟩ (c_X0_firstHeard l D cA K kf rw cn rl (((nthS (fhF kf cn) i_5).1) ||| ((nI (1)) <<< ((nI (b_20)) &&& 31))) hcn) (cwV 1 hts (gWV gm_31_2 gm_31_3 gm_31_4 gm_3_0 gm_31_5) rfl rfl rfl (by decide +kernel) ⟨Nat.le_of_ble_eq_true rfl, Nat.le_of_ble_eq_true rfl⟩) (gPreV hK (g_rf hK hP (ci := 2) (q0 := 0) rfl rfl) hP) rfl rfl hl.1 rfl (lv_room (Nat.le_of_ble_eq_true rfl)) dX0_takenOutAt_40 ⟨by omega, by omega⟩) ?_
            refine lv_istore_n (lv' := [(3, .int (oI (fhF kf cn (((nthS (fhF kf cn) i_5).1) ||| ((nI (1)) <<< ((nI (b_20)) &&& 31)))))), (2, .int (((nthS (fhF kf cn) i_5).1) ||| ((nI (1)) <<< ((nI (b_20)) &&& 31)))), (4, .int (nI (i_5))), (0, .ref (K 0)), (1, .int (nI (j_2)))]) hx hb dX0_takenOutAt_43 rfl hl (by decide) rfl (fun ls hl => ?_)
            refine lv_iinc (v := nI (i_5 + 1)) (lv' := [(4, .int (nI (i_5 + 1))), (3, .int (oI (fhF kf cn (((nthS (fhF kf cn) i_5).1) ||| ((nI (1)) <<< ((nI (b_20)) &&& 31)))))), (2, .int (((nthS (fhF kf cn) i_5).1) ||| ((nI (1)) <<< ((nI (b_20)) &&& 31)))), (0, .ref (K 0)), (1, .int (nI (j_2)))]) hx hb dX0_takenOutAt_44 hl (k := 2) rfl (inc_1 _) (by decide) rfl (fun ls hl => ?_)
            refine lv_goto (tgt := 21) hx hb dX0_takenOutAt_47 (by decide) ?_
            exact ih_14 (i_5 + 1) _ _ _ (by omega) (by omega) rfl (by rw [nthS_some eb_21]) (by rw [nthS_some eb_21])  ls (lv_sub hl [0, 1, 2, 3, 4] rfl)
    exact LP_10 (j_2 + 1) 0 _ _ _ (by omega) (by omega) rfl rfl rfl  ls (lv_sub hl [0, 1, 2, 3, 4] rfl)
  · refine lv_iconst (v := -1) hx hb dX0_takenOutAt_8 gc_m1 ?_
    exact g_iret (v := -1) hx hb hr hlk dX0_takenOutAt_9 (by rw [nthV_out c_1]; rfl)

def ldF (k : Nat → Nat → Int32) (cn j : Nat) : Nat := fb_ct (fun c => !clF k c && hs (k 2 c) j) cn
theorem ldF_le (k : Nat → Nat → Int32) (cn j : Nat) : ldF k cn j ≤ cn := fb_ct_le _ _
def cdF (k : Nat → Nat → Int32) (cn : Nat) (but : Int32) (j : Nat) : Bool := !hs but j && decide (ldF k cn j < 3)
def cwF (k : Nat → Nat → Int32) (cn jn : Nat) (but : Int32) : Nat := fb_ct (cdF k cn but) jn
def fcl (k : Nat → Nat → Int32) (cn : Nat) (but : Int32) (j : Nat) : Nat := if hs but j = true then 3 else ldF k cn j
def fcS (d : Nat → Int32) (k : Nat → Nat → Int32) (cn : Nat) (but : Int32) : Nat → Option Nat × Nat
  | 0 => (none, 3)
  | n + 1 => if fcl k cn but n < (fcS d k cn but n).2 then (some n, fcl k cn but n)
    else if fcl k cn but n = (fcS d k cn but n).2 then (match (fcS d k cn but n).1 with
      | none => fcS d k cn but n
      | some b => if d b ≤ d n then fcS d k cn but n else (some n, fcl k cn but n))
    else fcS d k cn but n
theorem fcS_win {d : Nat → Int32} {k : Nat → Nat → Int32} {cn n : Nat} {but : Int32} (h : fcl k cn but n < (fcS d k cn but n).2) : fcS d k cn but (n + 1) = (some n, fcl k cn but n) := by rw [fcS, if_pos h]
theorem fcS_keep1 {d : Nat → Int32} {k : Nat → Nat → Int32} {cn n : Nat} {but : Int32} (h : ¬ fcl k cn but n < (fcS d k cn but n).2) (h2 : ¬ fcl k cn but n = (fcS d k cn but n).2) : fcS d k cn but (n + 1) = fcS d k cn but n := by rw [fcS, if_neg h, if_neg h2]
theorem fcS_none {d : Nat → Int32} {k : Nat → Nat → Int32} {cn n : Nat} {but : Int32} (h2 : fcl k cn but n = (fcS d k cn but n).2) (h3 : (fcS d k cn but n).1 = none) : fcS d k cn but (n + 1) = fcS d k cn but n := by rw [fcS, if_neg (by omega), if_pos h2, h3]
theorem fcS_keep {d : Nat → Int32} {k : Nat → Nat → Int32} {cn n b : Nat} {but : Int32} (h2 : fcl k cn but n = (fcS d k cn but n).2) (h3 : (fcS d k cn but n).1 = some b) (h4 : d b ≤ d n) : fcS d k cn but (n + 1) = fcS d k cn but n := by rw [fcS, if_neg (by omega), if_pos h2, h3]; exact if_pos h4
theorem fcS_twin {d : Nat → Int32} {k : Nat → Nat → Int32} {cn n b : Nat} {but : Int32} (h2 : fcl k cn but n = (fcS d k cn but n).2) (h3 : (fcS d k cn but n).1 = some b) (h4 : ¬ d b ≤ d n) : fcS d k cn but (n + 1) = (some n, fcl k cn but n) := by rw [fcS, if_neg (by omega), if_pos h2, h3]; exact if_neg h4
theorem fcS_le (d : Nat → Int32) (k : Nat → Nat → Int32) (cn : Nat) (but : Int32) : ∀ n, (fcS d k cn but n).2 ≤ 3
  | 0 => Nat.le_refl 3
  | n + 1 => by
    have h := fcS_le d k cn but n
    unfold fcS
    split
    · show fcl k cn but n ≤ 3; omega
    · split
      · split
        · exact h
        · split
          · exact h
          · show fcl k cn but n ≤ 3; omega
      · exact h
theorem fcS_lt (d : Nat → Int32) (k : Nat → Nat → Int32) (cn : Nat) (but : Int32) : ∀ n b, (fcS d k cn but n).1 = some b → b < n
  | 0, b, h => by cases h
  | n + 1, b, h => by
    have ih := fcS_lt d k cn but n
    unfold fcS at h
    split at h
    · cases h; omega
    · split at h
      · split at h
        · have := ih b h; omega
        · split at h
          · have := ih b h; omega
          · cases h; omega
      · have := ih b h; omega
theorem fcl_le (k : Nat → Nat → Int32) (cn : Nat) (but : Int32) (j : Nat) (h : cn ≤ 10) : fcl k cn but j ≤ 10 := by
  unfold fcl
  split
  · omega
  · have := ldF_le k cn j; omega
def fcF (d : Nat → Int32) (k : Nat → Nat → Int32) (jn cn : Nat) (but : Int32) : Option Nat := (fcS d k cn but jn).1
theorem fcF_lt {d : Nat → Int32} {k : Nat → Nat → Int32} {jn cn : Nat} (but : Int32) (b : Nat) (h : fcF d k jn cn but = some b) : b < jn := fcS_lt d k cn but jn b h
def tkF (k : Nat → Nat → Int32) (rw : Nat → Nat) (rl clk ton q : Nat) : Option Nat := match fnd (fun j => decide (rw j = q)) rl with
  | none => none
  | some j => if clk < 1 then none else if 99 < ton + 1 + j / clk then none else some (ton + 1 + j / clk)

set_option maxHeartbeats 1000000 in
set_option maxRecDepth 100000 in
theorem c_X1_loadOf (l : Launch) (D : va_G) (cA : Nat → ClassId) (A : Nat → Nat) (jf : Nat → Nat → Int32) (jn : Nat) (kf : Nat → Nat → Int32) (rw : Nat → Nat) (cn rl clk ton : Nat) (sd : Int32) (j : Nat) (hcn : cn ≤ 10) : Met l yX1_loadOf (gw yX1_loadOf cX1_loadOf 4 (some .int)) ({ frames := 1, cells := 0, slots := 0, locals := 21 } : Room) (gPc [.ref (A 0), .int (nI (j))] (fun H => va_P D vwCl (cw cA A jf jn kf rw cn rl clk ton sd) H) D cA) (rdI (fun r => r = nI (ldF kf cn j))) 0 0 nF := by
  refine gOf (by decide) (Nat.le_of_ble_eq_true rfl) ?_
  intro p e s m below meth c ls hx hb hml hr hlk hown hts hnm hP hK hl
  have hl : lv_has ls 4 [(0, .ref (A 0)), (1, .int (nI (j)))] := hl
  refine lv_iconst (v := nI (0)) hx hb dX1_loadOf_0 gc_0 ?_
  refine lv_istore_n (lv' := [(2, .int (nI (0))), (0, .ref (A 0)), (1, .int (nI (j)))]) hx hb dX1_loadOf_1 rfl hl (by decide) rfl (fun ls hl => ?_)
  refine lv_iconst (v := nI (0)) hx hb dX1_loadOf_2 gc_0 ?_
  refine lv_istore_n (lv' := [(3, .int (nI (0))), (2, .int (nI (0))), (0, .ref (A 0)), (1, .int (nI (j)))]) hx hb dX1_loadOf_3 rfl hl (by decide) rfl (fun ls hl => ?_)
  have LP_5 : ∀ (n_2 i_1 : Nat) (x_3 x_4 : Int32), i_1 ≤ cn → cn + 1 ≤ i_1 + n_2 → x_3 = nI (i_1) → x_4 = nI (fb_ct (fun c => !clF kf c && hs (kf 2 c) j) i_1) → ∀ (ls : Array Slot), lv_has ls 4 [(3, .int (x_3)), (2, .int (x_4)), (0, .ref (A 0)), (1, .int (nI (j)))] → W p l e ({ frames := 1, cells := 0, slots := 0, locals := 21 } : Room) s m ([.ref (A 0), .int (nI (j))] : List Value).toArray below meth c s.heap [] 0 0 (MQ below (rdI (fun r => r = nI (ldF kf cn j))) ([.ref (A 0), .int (nI (j))] : List Value).toArray s 0 0 nF) (F0 m 4 ls []) := by
    intro n_2
    induction n_2 with
    | zero => intro i_1 x_3 x_4 h1 h2; exact absurd h2 (by omega)
    | succ n_2 ih_8 =>
      intro i_1 x_3 x_4 h_9 h_10 e_6 e_7  ls hl
      subst e_6
      subst e_7
      refine lv_iload_n hx hb dX1_loadOf_4 rfl (lv_at hl 0 rfl) ?_
      refine lv_aload_n hx hb dX1_loadOf_5 rfl (lv_at hl 2 rfl) ?_
      refine g_get (v := .ref (A 6)) hx hb hts hown hK hP 0 rfl rfl gu_wsX10 1 (by decide) gm_3_1 rfl dX1_loadOf_6 ?_
      refine g_get (v := .int (nI (cn))) hx hb hts hown hK hP 6 rfl rfl gu_wsX00 9 (by decide) gm_12_14 rfl dX1_loadOf_9 ?_
      refine g_icmp_ge (P := cn ≤ i_1) (tgt := 51) hx hb dX1_loadOf_12 (by decide) (nI_leI (by omega) (by omega)) (fun c_11 => ?_) (fun c_11 => ?_)
      · have d_11 : ¬ i_1 < cn := Nat.not_lt.mpr c_11
        have hN_12 : cn = i_1 := by omega
        subst hN_12
        refine lv_iload_n hx hb dX1_loadOf_51 rfl (lv_at hl 1 rfl) ?_
        exact g_iret (v := nI (fb_ct (fun c => !clF kf c && hs (kf 2 c) j) (cn))) hx hb hr hlk dX1_loadOf_52 (rfl)
      · have d_11 : i_1 < cn := Nat.not_le.mp c_11
        refine lv_aload_n hx hb dX1_loadOf_15 rfl (lv_at hl 2 rfl) ?_
        refine g_get (v := .ref (A 6)) hx hb hts hown hK hP 0 rfl rfl gu_wsX10 1 (by decide) gm_3_1 rfl dX1_loadOf_16 ?_
        refine lv_iload_n hx hb dX1_loadOf_19 rfl (lv_at hl 0 rfl) ?_
        refine rd_calle (va_runV (As := [.int (nI (i_1))]) (rest := []) ⟨hx, hb, hml, hown, hts⟩ (c_X0_isClosed l D cA (fun k => A (k + 6)) kf rw cn rl (i_1) (by omega)) (cwV 1 hts (gWV gm_12_16 gm_12_17 gm_12_18 gm_3_0 gm_12_19) rfl rfl rfl (by decide +kernel) ⟨Nat.le_of_ble_eq_true rfl, Nat.le_of_ble_eq_true rfl⟩) (gPreV hK (g_rf hK hP (ci := 2) (q0 := 6) rfl rfl) (hP.sub [6, 7, 8, 9, 10, 11, 12, 13, 14, 15] rfl)) rfl rfl hl.1 rfl (lv_room (Nat.le_of_ble_eq_true rfl)) dX1_loadOf_20 ⟨by omega, by omega⟩) ?_
        refine g_if_ne (P := clF kf (i_1) = false) (tgt := 45) hx hb dX1_loadOf_23 (by decide) b2i_0 (fun c_13 => ?_) (fun c_13 => ?_)
        · have c_13 : clF kf (i_1) = true := eq_true_of_ne_false c_13
          refine lv_iinc (v := nI (i_1 + 1)) (lv' := [(3, .int (nI (i_1 + 1))), (2, .int (nI (fb_ct (fun c => !clF kf c && hs (kf 2 c) j) i_1))), (0, .ref (A 0)), (1, .int (nI (j)))]) hx hb dX1_loadOf_45 hl (k := 0) rfl (inc_1 _) (by decide) rfl (fun ls hl => ?_)
          refine lv_goto (tgt := 4) hx hb dX1_loadOf_48 (by decide) ?_
          exact ih_8 (i_1 + 1) _ _ (by omega) (by omega) rfl (by simp [fb_ct_succ, c_11, d_11, c_13])  ls (lv_sub hl [0, 1, 2, 3] rfl)
        · refine lv_aload_n hx hb dX1_loadOf_26 rfl (lv_at hl 2 rfl) ?_
          refine g_get (v := .ref (A 6)) hx hb hts hown hK hP 0 rfl rfl gu_wsX10 1 (by decide) gm_3_1 rfl dX1_loadOf_27 ?_
          refine g_get (v := .ref (A 9)) hx hb hts hown hK hP 6 rfl rfl gu_wsX00 2 (by decide) gm_12_15 rfl dX1_loadOf_30 ?_
          refine lv_iload_n hx hb dX1_loadOf_33 rfl (lv_at hl 0 rfl) ?_
          refine g_iald (x := kf 2 (i_1)) hx hb hK hP 9 rfl (by omega) (by decide) rfl dX1_loadOf_34 ?_
          refine lv_iload_n hx hb dX1_loadOf_35 rfl (lv_at hl 3 rfl) ?_
          refine rd_calle (va_runSN (As := [.int (kf 2 (i_1)), .int (nI (j))]) (rest := []) ⟨hx, hb, hml, hown, hts⟩ (c_X7_isIn l D cA (kf 2 (i_1)) (j)) ⟨(va_cnB 2 hts (gWN gm_12_9) rfl rfl rfl (hK.2 _ (List.mem_of_getElem? (i := 8) rfl)) (hts _ (List.mem_cons_of_mem _ gm_1_2)) (by decide +kernel) ⟨Nat.le_of_ble_eq_true rfl, Nat.le_of_ble_eq_true rfl⟩), hts _ (List.mem_cons_of_mem _ gm_12_8), trivial⟩ (gPreS hK trivial) rfl rfl hl.1 rfl (lv_room (Nat.le_of_ble_eq_true rfl)) dX1_loadOf_36 ⟨by omega, by omega⟩) ?_
          refine g_if_eq (P := hs (kf 2 (i_1)) (j) = false) (tgt := 45) hx hb dX1_loadOf_39 (by decide) b2i_0 (fun c_14 => ?_) (fun c_14 => ?_)
          · refine lv_iinc (v := nI (i_1 + 1)) (lv' := [(3, .int (nI (i_1 + 1))), (2, .int (nI (fb_ct (fun c => !clF kf c && hs (kf 2 c) j) i_1))), (0, .ref (A 0)), (1, .int (nI (j)))]) hx hb dX1_loadOf_45 hl (k := 0) rfl (inc_1 _) (by decide) rfl (fun ls hl => ?_)
            refine lv_goto (tgt := 4) hx hb dX1_loadOf_48 (by decide) ?_
            exact ih_8 (i_1 + 1) _ _ (by omega) (by omega) rfl (by simp [fb_ct_succ, c_11, d_11, c_13, c_14])  ls (lv_sub hl [0, 1, 2, 3] rfl)
          · have c_14 : hs (kf 2 (i_1)) (j) = true := eq_true_of_ne_false c_14
            refine lv_iinc (v := nI (fb_ct (fun c => !clF kf c && hs (kf 2 c) j) i_1 + 1)) (lv' := [(2, .int (nI (fb_ct (fun c => !clF kf c && hs (kf 2 c) j) i_1 + 1))), (3, .int (nI (i_1))), (0, .ref (A 0)), (1, .int (nI (j)))]) hx hb dX1_loadOf_42 hl (k := 1) rfl (inc_1 _) (by decide) rfl (fun ls hl => ?_)
            refine lv_iinc (v := nI (i_1 + 1)) (lv' := [(3, .int (nI (i_1 + 1))), (2, .int (nI (fb_ct (fun c => !clF kf c && hs (kf 2 c) j) i_1 + 1))), (0, .ref (A 0)), (1, .int (nI (j)))]) hx hb dX1_loadOf_45 hl (k := 1) rfl (inc_1 _) (by decide) rfl (fun ls hl => ?_)
            refine lv_goto (tgt := 4) hx hb dX1_loadOf_48 (by decide) ?_
            exact ih_8 (i_1 + 1) _ _ (by omega) (by omega) rfl (by simp [fb_ct_succ, c_11, d_11, c_13, c_14])  ls (lv_sub hl [0, 1, 2, 3] rfl)
  exact LP_5 (cn + 1) 0 _ _ (by omega) (by omega) rfl rfl  ls (lv_sub hl [0, 1, 2, 3] rfl)

set_option maxHeartbeats 1000000 in
set_option maxRecDepth 100000 in
theorem c_X1_callableWithout (l : Launch) (D : va_G) (cA : Nat → ClassId) (A : Nat → Nat) (jf : Nat → Nat → Int32) (jn : Nat) (kf : Nat → Nat → Int32) (rw : Nat → Nat) (cn rl clk ton : Nat) (sd : Int32) (but : Int32) (hjn : jn ≤ 9) (hcn : cn ≤ 10) : Met l yX1_callableWithout (gw yX1_callableWithout cX1_callableWithout 4 (some .int)) ({ frames := 2, cells := 0, slots := 0, locals := 44 } : Room) (gPc [.ref (A 0), .int (but)] (fun H => va_P D vwCl (cw cA A jf jn kf rw cn rl clk ton sd) H) D cA) (rdI (fun r => r = nI (cwF kf cn jn but))) 0 0 nF := by
  refine gOf (by decide) (Nat.le_of_ble_eq_true rfl) ?_
  intro p e s m below meth c ls hx hb hml hr hlk hown hts hnm hP hK hl
  have hl : lv_has ls 4 [(0, .ref (A 0)), (1, .int (but))] := hl
  refine lv_iconst (v := nI (0)) hx hb dX1_callableWithout_0 gc_0 ?_
  refine lv_istore_n (lv' := [(2, .int (nI (0))), (0, .ref (A 0)), (1, .int (but))]) hx hb dX1_callableWithout_1 rfl hl (by decide) rfl (fun ls hl => ?_)
  refine lv_iconst (v := nI (0)) hx hb dX1_callableWithout_2 gc_0 ?_
  refine lv_istore_n (lv' := [(3, .int (nI (0))), (2, .int (nI (0))), (0, .ref (A 0)), (1, .int (but))]) hx hb dX1_callableWithout_3 rfl hl (by decide) rfl (fun ls hl => ?_)
  have LP_5 : ∀ (n_2 i_1 : Nat) (x_3 x_4 : Int32), i_1 ≤ jn → jn + 1 ≤ i_1 + n_2 → x_3 = nI (i_1) → x_4 = nI (fb_ct (cdF kf cn but) i_1) → ∀ (ls : Array Slot), lv_has ls 4 [(3, .int (x_3)), (2, .int (x_4)), (0, .ref (A 0)), (1, .int (but))] → W p l e ({ frames := 2, cells := 0, slots := 0, locals := 44 } : Room) s m ([.ref (A 0), .int (but)] : List Value).toArray below meth c s.heap [] 0 0 (MQ below (rdI (fun r => r = nI (cwF kf cn jn but))) ([.ref (A 0), .int (but)] : List Value).toArray s 0 0 nF) (F0 m 4 ls []) := by
    intro n_2
    induction n_2 with
    | zero => intro i_1 x_3 x_4 h1 h2; exact absurd h2 (by omega)
    | succ n_2 ih_8 =>
      intro i_1 x_3 x_4 h_9 h_10 e_6 e_7  ls hl
      subst e_6
      subst e_7
      refine lv_iload_n hx hb dX1_callableWithout_4 rfl (lv_at hl 0 rfl) ?_
      refine lv_aload_n hx hb dX1_callableWithout_5 rfl (lv_at hl 2 rfl) ?_
      refine g_get (v := .ref (A 1)) hx hb hts hown hK hP 0 rfl rfl gu_wsX10 0 (by decide) gm_2_21 rfl dX1_callableWithout_6 ?_
      refine g_get (v := .int (nI (jn))) hx hb hts hown hK hP 1 rfl rfl gu_wsX30 4 (by decide) gm_13_0 rfl dX1_callableWithout_9 ?_
      refine g_icmp_ge (P := jn ≤ i_1) (tgt := 46) hx hb dX1_callableWithout_12 (by decide) (nI_leI (by omega) (by omega)) (fun c_11 => ?_) (fun c_11 => ?_)
      · have d_11 : ¬ i_1 < jn := Nat.not_lt.mpr c_11
        have hN_12 : jn = i_1 := by omega
        subst hN_12
        refine lv_iload_n hx hb dX1_callableWithout_46 rfl (lv_at hl 1 rfl) ?_
        exact g_iret (v := nI (fb_ct (cdF kf cn but) (jn))) hx hb hr hlk dX1_callableWithout_47 (rfl)
      · have d_11 : i_1 < jn := Nat.not_le.mp c_11
        refine lv_iload_n hx hb dX1_callableWithout_15 rfl (lv_at hl 1 rfl) ?_
        refine lv_iload_n hx hb dX1_callableWithout_16 rfl (lv_at hl 3 rfl) ?_
        refine lv_iload_n hx hb dX1_callableWithout_17 rfl (lv_at hl 0 rfl) ?_
        refine rd_calle (va_runSN (As := [.int (but), .int (nI (i_1))]) (rest := [.int (nI (fb_ct (cdF kf cn but) i_1))]) ⟨hx, hb, hml, hown, hts⟩ (c_X7_isIn l D cA (but) (i_1)) ⟨(va_cnB 2 hts (gWN gm_12_9) rfl rfl rfl (hK.2 _ (List.mem_of_getElem? (i := 8) rfl)) (hts _ (List.mem_cons_of_mem _ gm_1_2)) (by decide +kernel) ⟨Nat.le_of_ble_eq_true rfl, Nat.le_of_ble_eq_true rfl⟩), hts _ (List.mem_cons_of_mem _ gm_12_8), trivial⟩ (gPreS hK trivial) rfl rfl hl.1 rfl (lv_room (Nat.le_of_ble_eq_true rfl)) dX1_callableWithout_18 ⟨by omega, by omega⟩) ?_
        refine g_if_ne (P := hs (but) (i_1) = false) (tgt := 37) hx hb dX1_callableWithout_21 (by decide) b2i_0 (fun c_13 => ?_) (fun c_13 => ?_)
        · have c_13 : hs (but) (i_1) = true := eq_true_of_ne_false c_13
          refine lv_iconst (v := nI (0)) hx hb dX1_callableWithout_37 gc_0 ?_
          refine g_iadd hx hb dX1_callableWithout_38 ?_
          refine lv_istore_n (lv' := [(2, .int (nI ((fb_ct (cdF kf cn but) i_1) + (0)))), (3, .int (nI (i_1))), (0, .ref (A 0)), (1, .int (but))]) hx hb dX1_callableWithout_39 rfl hl (by decide) rfl (fun ls hl => ?_)
          refine lv_iinc (v := nI (i_1 + 1)) (lv' := [(3, .int (nI (i_1 + 1))), (2, .int (nI ((fb_ct (cdF kf cn but) i_1) + (0)))), (0, .ref (A 0)), (1, .int (but))]) hx hb dX1_callableWithout_40 hl (k := 1) rfl (inc_1 _) (by decide) rfl (fun ls hl => ?_)
          refine lv_goto (tgt := 4) hx hb dX1_callableWithout_43 (by decide) ?_
          exact ih_8 (i_1 + 1) _ _ (by omega) (by omega) rfl (by simp [fb_ct_succ, cdF, c_11, d_11, c_13] <;> omega)  ls (lv_sub hl [0, 1, 2, 3] rfl)
        · refine lv_aload_n hx hb dX1_callableWithout_24 rfl (lv_at hl 2 rfl) ?_
          refine lv_iload_n hx hb dX1_callableWithout_25 rfl (lv_at hl 0 rfl) ?_
          refine rd_calle (va_runV (As := [.int (nI (i_1))]) (rest := [.int (nI (fb_ct (cdF kf cn but) i_1))]) ⟨hx, hb, hml, hown, hts⟩ (c_X1_loadOf l D cA A jf jn kf rw cn rl clk ton sd (i_1) hcn) (cwV 1 hts (gWV gm_13_1 gm_12_11 gm_12_12 gm_1_16 gm_12_13) rfl rfl rfl (by decide +kernel) ⟨Nat.le_of_ble_eq_true rfl, Nat.le_of_ble_eq_true rfl⟩) (gPreV hK (g_rf hK hP (ci := 3) (q0 := 0) rfl rfl) hP) rfl rfl hl.1 rfl (lv_room (Nat.le_of_ble_eq_true rfl)) dX1_callableWithout_26 ⟨by omega, by omega⟩) ?_
          refine lv_iconst (v := nI (3)) hx hb dX1_callableWithout_29 gc_3 ?_
          have hle_14 := ldF_le kf cn (i_1)
          refine g_icmp_ge (P := 3 ≤ ldF kf cn (i_1)) (tgt := 37) hx hb dX1_callableWithout_30 (by decide) (nI_leI (by omega) (by omega)) (fun c_15 => ?_) (fun c_15 => ?_)
          · have d_15 : ¬ ldF kf cn (i_1) < 3 := Nat.not_lt.mpr c_15
            refine lv_iconst (v := nI (0)) hx hb dX1_callableWithout_37 gc_0 ?_
            refine g_iadd hx hb dX1_callableWithout_38 ?_
            refine lv_istore_n (lv' := [(2, .int (nI ((fb_ct (cdF kf cn but) i_1) + (0)))), (3, .int (nI (i_1))), (0, .ref (A 0)), (1, .int (but))]) hx hb dX1_callableWithout_39 rfl hl (by decide) rfl (fun ls hl => ?_)
            refine lv_iinc (v := nI (i_1 + 1)) (lv' := [(3, .int (nI (i_1 + 1))), (2, .int (nI ((fb_ct (cdF kf cn but) i_1) + (0)))), (0, .ref (A 0)), (1, .int (but))]) hx hb dX1_callableWithout_40 hl (k := 1) rfl (inc_1 _) (by decide) rfl (fun ls hl => ?_)
            refine lv_goto (tgt := 4) hx hb dX1_callableWithout_43 (by decide) ?_
            exact ih_8 (i_1 + 1) _ _ (by omega) (by omega) rfl (by simp [fb_ct_succ, cdF, c_11, d_11, c_13, c_15, d_15] <;> omega)  ls (lv_sub hl [0, 1, 2, 3] rfl)
          · have d_15 : ldF kf cn (i_1) < 3 := Nat.not_le.mp c_15
            refine lv_iconst (v := nI (1)) hx hb dX1_callableWithout_33 gc_1 ?_
            refine lv_goto (tgt := 38) hx hb dX1_callableWithout_34 (by decide) ?_
            refine g_iadd hx hb dX1_callableWithout_38 ?_
            refine lv_istore_n (lv' := [(2, .int (nI ((fb_ct (cdF kf cn but) i_1) + (1)))), (3, .int (nI (i_1))), (0, .ref (A 0)), (1, .int (but))]) hx hb dX1_callableWithout_39 rfl hl (by decide) rfl (fun ls hl => ?_)
            refine lv_iinc (v := nI (i_1 + 1)) (lv' := [(3, .int (nI (i_1 + 1))), (2, .int (nI ((fb_ct (cdF kf cn but) i_1) + (1)))), (0, .ref (A 0)), (1, .int (but))]) hx hb dX1_callableWithout_40 hl (k := 1) rfl (inc_1 _) (by decide) rfl (fun ls hl => ?_)
            refine lv_goto (tgt := 4) hx hb dX1_callableWithout_43 (by decide) ?_
            exact ih_8 (i_1 + 1) _ _ (by omega) (by omega) rfl (by simp [fb_ct_succ, cdF, c_11, d_11, c_13, c_15, d_15] <;> omega)  ls (lv_sub hl [0, 1, 2, 3] rfl)
  exact LP_5 (jn + 1) 0 _ _ (by omega) (by omega) rfl rfl  ls (lv_sub hl [0, 1, 2, 3] rfl)

set_option maxHeartbeats 1000000 in
set_option maxRecDepth 100000 in
theorem c_X1_firstCallable (l : Launch) (D : va_G) (cA : Nat → ClassId) (A : Nat → Nat) (jf : Nat → Nat → Int32) (jn : Nat) (kf : Nat → Nat → Int32) (rw : Nat → Nat) (cn rl clk ton : Nat) (sd : Int32) (but : Int32) (hjn : jn ≤ 9) (hcn : cn ≤ 10) : Met l yX1_firstCallable (gw yX1_firstCallable cX1_firstCallable 7 (some .int)) ({ frames := 2, cells := 0, slots := 0, locals := 44 } : Room) (gPc [.ref (A 0), .int (but)] (fun H => va_P D vwCl (cw cA A jf jn kf rw cn rl clk ton sd) H) D cA) (rdI (fun r => r = oI (fcF (jf 1) kf jn cn but))) 0 0 nF := by
  refine gOf (by decide) (Nat.le_of_ble_eq_true rfl) ?_
  intro p e s m below meth c ls hx hb hml hr hlk hown hts hnm hP hK hl
  have hl : lv_has ls 7 [(0, .ref (A 0)), (1, .int (but))] := hl
  refine lv_iconst (v := -1) hx hb dX1_firstCallable_0 gc_m1 ?_
  refine lv_istore_n (lv' := [(2, .int (-1)), (0, .ref (A 0)), (1, .int (but))]) hx hb dX1_firstCallable_1 rfl hl (by decide) rfl (fun ls hl => ?_)
  refine lv_iconst (v := nI (3)) hx hb dX1_firstCallable_2 gc_3 ?_
  refine lv_istore_n (lv' := [(3, .int (nI (3))), (2, .int (-1)), (0, .ref (A 0)), (1, .int (but))]) hx hb dX1_firstCallable_3 rfl hl (by decide) rfl (fun ls hl => ?_)
  refine lv_iconst (v := nI (0)) hx hb dX1_firstCallable_4 gc_0 ?_
  refine lv_istore (lv' := [(4, .int (nI (0))), (3, .int (nI (3))), (2, .int (-1)), (0, .ref (A 0)), (1, .int (but))]) hx hb dX1_firstCallable_5 hl (by decide) rfl (fun ls hl => ?_)
  have LP_6 : ∀ (n_2 i_1 : Nat) (x_3 x_4 x_5 : Int32), i_1 ≤ jn → jn + 1 ≤ i_1 + n_2 → x_3 = nI (i_1) → x_4 = nI ((fcS (jf 1) kf cn but i_1).2) → x_5 = oI ((fcS (jf 1) kf cn but i_1).1) → ∀ (ls : Array Slot), lv_has ls 7 [(4, .int (x_3)), (3, .int (x_4)), (2, .int (x_5)), (0, .ref (A 0)), (1, .int (but))] → W p l e ({ frames := 2, cells := 0, slots := 0, locals := 44 } : Room) s m ([.ref (A 0), .int (but)] : List Value).toArray below meth c s.heap [] 0 0 (MQ below (rdI (fun r => r = oI (fcF (jf 1) kf jn cn but))) ([.ref (A 0), .int (but)] : List Value).toArray s 0 0 nF) (F0 m 7 ls []) := by
    intro n_2
    induction n_2 with
    | zero => intro i_1 x_3 x_4 x_5 h1 h2; exact absurd h2 (by omega)
    | succ n_2 ih_10 =>
      intro i_1 x_3 x_4 x_5 h_11 h_12 e_7 e_8 e_9  ls hl
      subst e_7
      subst e_8
      subst e_9
      refine lv_iload hx hb dX1_firstCallable_7 (lv_at hl 0 rfl) ?_
      refine lv_aload_n hx hb dX1_firstCallable_9 rfl (lv_at hl 3 rfl) ?_
      refine g_get (v := .ref (A 1)) hx hb hts hown hK hP 0 rfl rfl gu_wsX10 0 (by decide) gm_2_21 rfl dX1_firstCallable_10 ?_
      refine g_get (v := .int (nI (jn))) hx hb hts hown hK hP 1 rfl rfl gu_wsX30 4 (by decide) gm_13_0 rfl dX1_firstCallable_13 ?_
      refine g_icmp_ge (P := jn ≤ i_1) (tgt := 103) hx hb dX1_firstCallable_16 (by decide) (nI_leI (by omega) (by omega)) (fun c_13 => ?_) (fun c_13 => ?_)
      · have d_13 : ¬ i_1 < jn := Nat.not_lt.mpr c_13
        have hN_14 : jn = i_1 := by omega
        subst hN_14
        refine lv_iload_n hx hb dX1_firstCallable_103 rfl (lv_at hl 2 rfl) ?_
        exact g_iret (v := oI ((fcS (jf 1) kf cn but (jn)).1)) hx hb hr hlk dX1_firstCallable_104 (rfl)
      · have d_13 : i_1 < jn := Nat.not_le.mp c_13
        refine lv_iload_n hx hb dX1_firstCallable_19 rfl (lv_at hl 4 rfl) ?_
        refine lv_iload hx hb dX1_firstCallable_20 (lv_at hl 0 rfl) ?_
        refine rd_calle (va_runSN (As := [.int (but), .int (nI (i_1))]) (rest := []) ⟨hx, hb, hml, hown, hts⟩ (c_X7_isIn l D cA (but) (i_1)) ⟨(va_cnB 2 hts (gWN gm_12_9) rfl rfl rfl (hK.2 _ (List.mem_of_getElem? (i := 8) rfl)) (hts _ (List.mem_cons_of_mem _ gm_1_2)) (by decide +kernel) ⟨Nat.le_of_ble_eq_true rfl, Nat.le_of_ble_eq_true rfl⟩), hts _ (List.mem_cons_of_mem _ gm_12_8), trivial⟩ (gPreS hK trivial) rfl rfl hl.1 rfl (lv_room (Nat.le_of_ble_eq_true rfl)) dX1_firstCallable_22 ⟨by omega, by omega⟩) ?_
        refine g_if_eq (P := hs (but) (i_1) = false) (tgt := 32) hx hb dX1_firstCallable_25 (by decide) b2i_0 (fun c_15 => ?_) (fun c_15 => ?_)
        · refine lv_aload_n hx hb dX1_firstCallable_32 rfl (lv_at hl 3 rfl) ?_
          refine lv_iload hx hb dX1_firstCallable_33 (lv_at hl 0 rfl) ?_
          refine rd_calle (va_runV (As := [.int (nI (i_1))]) (rest := []) ⟨hx, hb, hml, hown, hts⟩ (c_X1_loadOf l D cA A jf jn kf rw cn rl clk ton sd (i_1) hcn) (cwV 1 hts (gWV gm_13_1 gm_12_11 gm_12_12 gm_1_16 gm_12_13) rfl rfl rfl (by decide +kernel) ⟨Nat.le_of_ble_eq_true rfl, Nat.le_of_ble_eq_true rfl⟩) (gPreV hK (g_rf hK hP (ci := 3) (q0 := 0) rfl rfl) hP) rfl rfl hl.1 rfl (lv_room (Nat.le_of_ble_eq_true rfl)) dX1_firstCallable_35 ⟨by omega, by omega⟩) ?_
          refine g_top (z := nI (fcl kf cn but (i_1))) (by simp [fcl, c_13, d_13, c_15]) ?_
          have hle_16 := fcl_le kf cn but (i_1) hcn
          have hle_17 := fcS_le (jf 1) kf cn but (i_1)
          refine lv_istore (lv' := [(5, .int (nI (fcl kf cn but (i_1)))), (4, .int (nI (i_1))), (3, .int (nI ((fcS (jf 1) kf cn but i_1).2))), (2, .int (oI ((fcS (jf 1) kf cn but i_1).1))), (0, .ref (A 0)), (1, .int (but))]) hx hb dX1_firstCallable_38 hl (by decide) rfl (fun ls hl => ?_)
          refine lv_iload hx hb dX1_firstCallable_40 (lv_at hl 0 rfl) ?_
          refine lv_iload_n hx hb dX1_firstCallable_42 rfl (lv_at hl 2 rfl) ?_
          refine g_icmp_ne (P := fcl kf cn but (i_1) = (fcS (jf 1) kf cn but i_1).2) (tgt := 77) hx hb dX1_firstCallable_43 (by decide) (nI_eq (by omega) (by omega)) (fun c_18 => ?_) (fun c_18 => ?_)
          · refine lv_iconst (v := nI (0)) hx hb dX1_firstCallable_77 gc_0 ?_
            refine lv_istore (lv' := [(6, .int (nI (0))), (5, .int (nI (fcl kf cn but (i_1)))), (4, .int (nI (i_1))), (3, .int (nI ((fcS (jf 1) kf cn but i_1).2))), (2, .int (oI ((fcS (jf 1) kf cn but i_1).1))), (0, .ref (A 0)), (1, .int (but))]) hx hb dX1_firstCallable_78 hl (by decide) rfl (fun ls hl => ?_)
            refine lv_iload hx hb dX1_firstCallable_80 (lv_at hl 1 rfl) ?_
            refine lv_iload_n hx hb dX1_firstCallable_82 rfl (lv_at hl 3 rfl) ?_
            refine g_icmp_lt (P := fcl kf cn but (i_1) < (fcS (jf 1) kf cn but i_1).2) (tgt := 91) hx hb dX1_firstCallable_83 (by decide) (nI_ltI (by omega) (by omega)) (fun c_19 => ?_) (fun c_19 => ?_)
            · have d_19 : ¬ (fcS (jf 1) kf cn but i_1).2 ≤ fcl kf cn but (i_1) := Nat.not_le.mpr c_19
              refine lv_iload hx hb dX1_firstCallable_91 (lv_at hl 2 rfl) ?_
              refine lv_istore_n (lv' := [(2, .int (nI (i_1))), (6, .int (nI (0))), (5, .int (nI (fcl kf cn but (i_1)))), (4, .int (nI (i_1))), (3, .int (nI ((fcS (jf 1) kf cn but i_1).2))), (0, .ref (A 0)), (1, .int (but))]) hx hb dX1_firstCallable_93 rfl hl (by decide) rfl (fun ls hl => ?_)
              refine lv_iload hx hb dX1_firstCallable_94 (lv_at hl 2 rfl) ?_
              refine lv_istore_n (lv' := [(3, .int (nI (fcl kf cn but (i_1)))), (2, .int (nI (i_1))), (6, .int (nI (0))), (5, .int (nI (fcl kf cn but (i_1)))), (4, .int (nI (i_1))), (0, .ref (A 0)), (1, .int (but))]) hx hb dX1_firstCallable_96 rfl hl (by decide) rfl (fun ls hl => ?_)
              refine lv_iinc (v := nI (i_1 + 1)) (lv' := [(4, .int (nI (i_1 + 1))), (3, .int (nI (fcl kf cn but (i_1)))), (2, .int (nI (i_1))), (6, .int (nI (0))), (5, .int (nI (fcl kf cn but (i_1)))), (0, .ref (A 0)), (1, .int (but))]) hx hb dX1_firstCallable_97 hl (k := 4) rfl (inc_1 _) (by decide) rfl (fun ls hl => ?_)
              refine lv_goto (tgt := 7) hx hb dX1_firstCallable_100 (by decide) ?_
              exact ih_10 (i_1 + 1) _ _ _ (by omega) (by omega) rfl (by rw [fcS_win c_19]; rfl) (by rw [fcS_win c_19]; rfl)  ls (lv_sub hl [0, 1, 2, 5, 6] rfl)
            · have d_19 : (fcS (jf 1) kf cn but i_1).2 ≤ fcl kf cn but (i_1) := Nat.not_lt.mp c_19
              refine lv_iload hx hb dX1_firstCallable_86 (lv_at hl 0 rfl) ?_
              refine g_if_eq (P := 0 = 0) (tgt := 97) hx hb dX1_firstCallable_88 (by decide) (nI_z (a := 0) (by omega)) (fun c_20 => ?_) (fun c_20 => ?_)
              · refine lv_iinc (v := nI (i_1 + 1)) (lv' := [(4, .int (nI (i_1 + 1))), (6, .int (nI (0))), (5, .int (nI (fcl kf cn but (i_1)))), (3, .int (nI ((fcS (jf 1) kf cn but i_1).2))), (2, .int (oI ((fcS (jf 1) kf cn but i_1).1))), (0, .ref (A 0)), (1, .int (but))]) hx hb dX1_firstCallable_97 hl (k := 2) rfl (inc_1 _) (by decide) rfl (fun ls hl => ?_)
                refine lv_goto (tgt := 7) hx hb dX1_firstCallable_100 (by decide) ?_
                exact ih_10 (i_1 + 1) _ _ _ (by omega) (by omega) rfl (by rw [fcS_keep1 c_19 c_18]) (by rw [fcS_keep1 c_19 c_18])  ls (lv_sub hl [0, 3, 4, 5, 6] rfl)
              · exact absurd c_20 (by decide)
          · refine lv_iload_n hx hb dX1_firstCallable_46 rfl (lv_at hl 3 rfl) ?_
            refine lv_iconst (v := -1) hx hb dX1_firstCallable_47 gc_m1 ?_
            refine g_icmp_eq (P := (fcS (jf 1) kf cn but i_1).1 = none) (tgt := 77) hx hb dX1_firstCallable_48 (by decide) (oI_m1 (fun b q => by have := fcS_lt _ _ _ _ _ _ q; omega)) (fun c_21 => ?_) (fun c_21 => ?_)
            · refine lv_iconst (v := nI (0)) hx hb dX1_firstCallable_77 gc_0 ?_
              refine lv_istore (lv' := [(6, .int (nI (0))), (5, .int (nI (fcl kf cn but (i_1)))), (4, .int (nI (i_1))), (3, .int (nI ((fcS (jf 1) kf cn but i_1).2))), (2, .int (oI ((fcS (jf 1) kf cn but i_1).1))), (0, .ref (A 0)), (1, .int (but))]) hx hb dX1_firstCallable_78 hl (by decide) rfl (fun ls hl => ?_)
              refine lv_iload hx hb dX1_firstCallable_80 (lv_at hl 1 rfl) ?_
              refine lv_iload_n hx hb dX1_firstCallable_82 rfl (lv_at hl 3 rfl) ?_
              refine g_icmp_lt (P := fcl kf cn but (i_1) < (fcS (jf 1) kf cn but i_1).2) (tgt := 91) hx hb dX1_firstCallable_83 (by decide) (nI_ltI (by omega) (by omega)) (fun c_22 => ?_) (fun c_22 => ?_)
              · have d_22 : ¬ (fcS (jf 1) kf cn but i_1).2 ≤ fcl kf cn but (i_1) := Nat.not_le.mpr c_22
                refine lv_iload hx hb dX1_firstCallable_91 (lv_at hl 2 rfl) ?_
                refine lv_istore_n (lv' := [(2, .int (nI (i_1))), (6, .int (nI (0))), (5, .int (nI (fcl kf cn but (i_1)))), (4, .int (nI (i_1))), (3, .int (nI ((fcS (jf 1) kf cn but i_1).2))), (0, .ref (A 0)), (1, .int (but))]) hx hb dX1_firstCallable_93 rfl hl (by decide) rfl (fun ls hl => ?_)
                refine lv_iload hx hb dX1_firstCallable_94 (lv_at hl 2 rfl) ?_
                refine lv_istore_n (lv' := [(3, .int (nI (fcl kf cn but (i_1)))), (2, .int (nI (i_1))), (6, .int (nI (0))), (5, .int (nI (fcl kf cn but (i_1)))), (4, .int (nI (i_1))), (0, .ref (A 0)), (1, .int (but))]) hx hb dX1_firstCallable_96 rfl hl (by decide) rfl (fun ls hl => ?_)
                refine lv_iinc (v := nI (i_1 + 1)) (lv' := [(4, .int (nI (i_1 + 1))), (3, .int (nI (fcl kf cn but (i_1)))), (2, .int (nI (i_1))), (6, .int (nI (0))), (5, .int (nI (fcl kf cn but (i_1)))), (0, .ref (A 0)), (1, .int (but))]) hx hb dX1_firstCallable_97 hl (k := 4) rfl (inc_1 _) (by decide) rfl (fun ls hl => ?_)
                refine lv_goto (tgt := 7) hx hb dX1_firstCallable_100 (by decide) ?_
                exact ih_10 (i_1 + 1) _ _ _ (by omega) (by omega) rfl (by exfalso; omega) (by exfalso; omega)  ls (lv_sub hl [0, 1, 2, 5, 6] rfl)
              · have d_22 : (fcS (jf 1) kf cn but i_1).2 ≤ fcl kf cn but (i_1) := Nat.not_lt.mp c_22
                refine lv_iload hx hb dX1_firstCallable_86 (lv_at hl 0 rfl) ?_
                refine g_if_eq (P := 0 = 0) (tgt := 97) hx hb dX1_firstCallable_88 (by decide) (nI_z (a := 0) (by omega)) (fun c_23 => ?_) (fun c_23 => ?_)
                · refine lv_iinc (v := nI (i_1 + 1)) (lv' := [(4, .int (nI (i_1 + 1))), (6, .int (nI (0))), (5, .int (nI (fcl kf cn but (i_1)))), (3, .int (nI ((fcS (jf 1) kf cn but i_1).2))), (2, .int (oI ((fcS (jf 1) kf cn but i_1).1))), (0, .ref (A 0)), (1, .int (but))]) hx hb dX1_firstCallable_97 hl (k := 2) rfl (inc_1 _) (by decide) rfl (fun ls hl => ?_)
                  refine lv_goto (tgt := 7) hx hb dX1_firstCallable_100 (by decide) ?_
                  exact ih_10 (i_1 + 1) _ _ _ (by omega) (by omega) rfl (by rw [fcS_none c_18 c_21]) (by rw [fcS_none c_18 c_21])  ls (lv_sub hl [0, 3, 4, 5, 6] rfl)
                · exact absurd c_23 (by decide)
            · obtain ⟨b_24, eb_25⟩ := o_some c_21
              have hb_26 := fcS_lt _ _ _ _ _ _ eb_25
              rw [eb_25] at hl
              have hl : lv_has ls 7 [(5, .int (nI (fcl kf cn but (i_1)))), (4, .int (nI (i_1))), (3, .int (nI ((fcS (jf 1) kf cn but i_1).2))), (2, .int (nI (b_24))), (0, .ref (A 0)), (1, .int (but))] := hl
              refine lv_aload_n hx hb dX1_firstCallable_51 rfl (lv_at hl 4 rfl) ?_
              refine g_get (v := .ref (A 1)) hx hb hts hown hK hP 0 rfl rfl gu_wsX10 0 (by decide) gm_2_21 rfl dX1_firstCallable_52 ?_
              refine g_get (v := .ref (A 3)) hx hb hts hown hK hP 1 rfl rfl gu_wsX30 1 (by decide) gm_13_10 rfl dX1_firstCallable_55 ?_
              refine lv_iload hx hb dX1_firstCallable_58 (lv_at hl 1 rfl) ?_
              refine g_iald (x := jf 1 (i_1)) hx hb hK hP 3 rfl (by omega) (by decide) rfl dX1_firstCallable_60 ?_
              refine lv_aload_n hx hb dX1_firstCallable_61 rfl (lv_at hl 4 rfl) ?_
              refine g_get (v := .ref (A 1)) hx hb hts hown hK hP 0 rfl rfl gu_wsX10 0 (by decide) gm_2_21 rfl dX1_firstCallable_62 ?_
              refine g_get (v := .ref (A 3)) hx hb hts hown hK hP 1 rfl rfl gu_wsX30 1 (by decide) gm_13_10 rfl dX1_firstCallable_65 ?_
              refine lv_iload_n hx hb dX1_firstCallable_68 rfl (lv_at hl 3 rfl) ?_
              refine g_iald (x := jf 1 (b_24)) hx hb hK hP 3 rfl (by omega) (by decide) rfl dX1_firstCallable_69 ?_
              refine g_icmp_ge (P := jf 1 (b_24) ≤ jf 1 (i_1)) (tgt := 77) hx hb dX1_firstCallable_70 (by decide) Iff.rfl (fun c_27 => ?_) (fun c_27 => ?_)
              · have d_27 : ¬ jf 1 (i_1) < jf 1 (b_24) := Int32.not_lt.mpr c_27
                refine lv_iconst (v := nI (0)) hx hb dX1_firstCallable_77 gc_0 ?_
                refine lv_istore (lv' := [(6, .int (nI (0))), (5, .int (nI (fcl kf cn but (i_1)))), (4, .int (nI (i_1))), (3, .int (nI ((fcS (jf 1) kf cn but i_1).2))), (2, .int (nI (b_24))), (0, .ref (A 0)), (1, .int (but))]) hx hb dX1_firstCallable_78 hl (by decide) rfl (fun ls hl => ?_)
                refine lv_iload hx hb dX1_firstCallable_80 (lv_at hl 1 rfl) ?_
                refine lv_iload_n hx hb dX1_firstCallable_82 rfl (lv_at hl 3 rfl) ?_
                refine g_icmp_lt (P := fcl kf cn but (i_1) < (fcS (jf 1) kf cn but i_1).2) (tgt := 91) hx hb dX1_firstCallable_83 (by decide) (nI_ltI (by omega) (by omega)) (fun c_28 => ?_) (fun c_28 => ?_)
                · have d_28 : ¬ (fcS (jf 1) kf cn but i_1).2 ≤ fcl kf cn but (i_1) := Nat.not_le.mpr c_28
                  refine lv_iload hx hb dX1_firstCallable_91 (lv_at hl 2 rfl) ?_
                  refine lv_istore_n (lv' := [(2, .int (nI (i_1))), (6, .int (nI (0))), (5, .int (nI (fcl kf cn but (i_1)))), (4, .int (nI (i_1))), (3, .int (nI ((fcS (jf 1) kf cn but i_1).2))), (0, .ref (A 0)), (1, .int (but))]) hx hb dX1_firstCallable_93 rfl hl (by decide) rfl (fun ls hl => ?_)
                  refine lv_iload hx hb dX1_firstCallable_94 (lv_at hl 2 rfl) ?_
                  refine lv_istore_n (lv' := [(3, .int (nI (fcl kf cn but (i_1)))), (2, .int (nI (i_1))), (6, .int (nI (0))), (5, .int (nI (fcl kf cn but (i_1)))), (4, .int (nI (i_1))), (0, .ref (A 0)), (1, .int (but))]) hx hb dX1_firstCallable_96 rfl hl (by decide) rfl (fun ls hl => ?_)
                  refine lv_iinc (v := nI (i_1 + 1)) (lv' := [(4, .int (nI (i_1 + 1))), (3, .int (nI (fcl kf cn but (i_1)))), (2, .int (nI (i_1))), (6, .int (nI (0))), (5, .int (nI (fcl kf cn but (i_1)))), (0, .ref (A 0)), (1, .int (but))]) hx hb dX1_firstCallable_97 hl (k := 4) rfl (inc_1 _) (by decide) rfl (fun ls hl => ?_)
                  refine lv_goto (tgt := 7) hx hb dX1_firstCallable_100 (by decide) ?_
                  exact ih_10 (i_1 + 1) _ _ _ (by omega) (by omega) rfl (by exfalso; omega) (by exfalso; omega)  ls (lv_sub hl [0, 1, 2, 5, 6] rfl)
                · have d_28 : (fcS (jf 1) kf cn but i_1).2 ≤ fcl kf cn but (i_1) := Nat.not_lt.mp c_28
                  refine lv_iload hx hb dX1_firstCallable_86 (lv_at hl 0 rfl) ?_
                  refine g_if_eq (P := 0 = 0) (tgt := 97) hx hb dX1_firstCallable_88 (by decide) (nI_z (a := 0) (by omega)) (fun c_29 => ?_) (fun c_29 => ?_)
                  · refine lv_iinc (v := nI (i_1 + 1)) (lv' := [(4, .int (nI (i_1 + 1))), (6, .int (nI (0))), (5, .int (nI (fcl kf cn but (i_1)))), (3, .int (nI ((fcS (jf 1) kf cn but i_1).2))), (2, .int (nI (b_24))), (0, .ref (A 0)), (1, .int (but))]) hx hb dX1_firstCallable_97 hl (k := 2) rfl (inc_1 _) (by decide) rfl (fun ls hl => ?_)
                    refine lv_goto (tgt := 7) hx hb dX1_firstCallable_100 (by decide) ?_
                    exact ih_10 (i_1 + 1) _ _ _ (by omega) (by omega) rfl (by rw [fcS_keep c_18 eb_25 c_27]) (by rw [fcS_keep c_18 eb_25 c_27]; rw [eb_25]; rfl)  ls (lv_sub hl [0, 3, 4, 5, 6] rfl)
                  · exact absurd c_29 (by decide)
              · have d_27 : jf 1 (i_1) < jf 1 (b_24) := Int32.not_le.mp c_27
                refine lv_iconst (v := nI (1)) hx hb dX1_firstCallable_73 gc_1 ?_
                refine lv_goto (tgt := 78) hx hb dX1_firstCallable_74 (by decide) ?_
                refine lv_istore (lv' := [(6, .int (nI (1))), (5, .int (nI (fcl kf cn but (i_1)))), (4, .int (nI (i_1))), (3, .int (nI ((fcS (jf 1) kf cn but i_1).2))), (2, .int (nI (b_24))), (0, .ref (A 0)), (1, .int (but))]) hx hb dX1_firstCallable_78 hl (by decide) rfl (fun ls hl => ?_)
                refine lv_iload hx hb dX1_firstCallable_80 (lv_at hl 1 rfl) ?_
                refine lv_iload_n hx hb dX1_firstCallable_82 rfl (lv_at hl 3 rfl) ?_
                refine g_icmp_lt (P := fcl kf cn but (i_1) < (fcS (jf 1) kf cn but i_1).2) (tgt := 91) hx hb dX1_firstCallable_83 (by decide) (nI_ltI (by omega) (by omega)) (fun c_30 => ?_) (fun c_30 => ?_)
                · have d_30 : ¬ (fcS (jf 1) kf cn but i_1).2 ≤ fcl kf cn but (i_1) := Nat.not_le.mpr c_30
                  refine lv_iload hx hb dX1_firstCallable_91 (lv_at hl 2 rfl) ?_
                  refine lv_istore_n (lv' := [(2, .int (nI (i_1))), (6, .int (nI (1))), (5, .int (nI (fcl kf cn but (i_1)))), (4, .int (nI (i_1))), (3, .int (nI ((fcS (jf 1) kf cn but i_1).2))), (0, .ref (A 0)), (1, .int (but))]) hx hb dX1_firstCallable_93 rfl hl (by decide) rfl (fun ls hl => ?_)
                  refine lv_iload hx hb dX1_firstCallable_94 (lv_at hl 2 rfl) ?_
                  refine lv_istore_n (lv' := [(3, .int (nI (fcl kf cn but (i_1)))), (2, .int (nI (i_1))), (6, .int (nI (1))), (5, .int (nI (fcl kf cn but (i_1)))), (4, .int (nI (i_1))), (0, .ref (A 0)), (1, .int (but))]) hx hb dX1_firstCallable_96 rfl hl (by decide) rfl (fun ls hl => ?_)
                  refine lv_iinc (v := nI (i_1 + 1)) (lv' := [(4, .int (nI (i_1 + 1))), (3, .int (nI (fcl kf cn but (i_1)))), (2, .int (nI (i_1))), (6, .int (nI (1))), (5, .int (nI (fcl kf cn but (i_1)))), (0, .ref (A 0)), (1, .int (but))]) hx hb dX1_firstCallable_97 hl (k := 4) rfl (inc_1 _) (by decide) rfl (fun ls hl => ?_)
                  refine lv_goto (tgt := 7) hx hb dX1_firstCallable_100 (by decide) ?_
                  exact ih_10 (i_1 + 1) _ _ _ (by omega) (by omega) rfl (by exfalso; omega) (by exfalso; omega)  ls (lv_sub hl [0, 1, 2, 5, 6] rfl)
                · have d_30 : (fcS (jf 1) kf cn but i_1).2 ≤ fcl kf cn but (i_1) := Nat.not_lt.mp c_30
                  refine lv_iload hx hb dX1_firstCallable_86 (lv_at hl 0 rfl) ?_
                  refine g_if_eq (P := 1 = 0) (tgt := 97) hx hb dX1_firstCallable_88 (by decide) (nI_z (a := 1) (by omega)) (fun c_31 => ?_) (fun c_31 => ?_)
                  · exact absurd c_31 (by decide)
                  · refine lv_iload hx hb dX1_firstCallable_91 (lv_at hl 2 rfl) ?_
                    refine lv_istore_n (lv' := [(2, .int (nI (i_1))), (6, .int (nI (1))), (5, .int (nI (fcl kf cn but (i_1)))), (4, .int (nI (i_1))), (3, .int (nI ((fcS (jf 1) kf cn but i_1).2))), (0, .ref (A 0)), (1, .int (but))]) hx hb dX1_firstCallable_93 rfl hl (by decide) rfl (fun ls hl => ?_)
                    refine lv_iload hx hb dX1_firstCallable_94 (lv_at hl 2 rfl) ?_
                    refine lv_istore_n (lv' := [(3, .int (nI (fcl kf cn but (i_1)))), (2, .int (nI (i_1))), (6, .int (nI (1))), (5, .int (nI (fcl kf cn but (i_1)))), (4, .int (nI (i_1))), (0, .ref (A 0)), (1, .int (but))]) hx hb dX1_firstCallable_96 rfl hl (by decide) rfl (fun ls hl => ?_)
                    refine lv_iinc (v := nI (i_1 + 1)) (lv' := [(4, .int (nI (i_1 + 1))), (3, .int (nI (fcl kf cn but (i_1)))), (2, .int (nI (i_1))), (6, .int (nI (1))), (5, .int (nI (fcl kf cn but (i_1)))), (0, .ref (A 0)), (1, .int (but))]) hx hb dX1_firstCallable_97 hl (k := 4) rfl (inc_1 _) (by decide) rfl (fun ls hl => ?_)
                    refine lv_goto (tgt := 7) hx hb dX1_firstCallable_100 (by decide) ?_
                    exact ih_10 (i_1 + 1) _ _ _ (by omega) (by omega) rfl (by rw [fcS_twin c_18 eb_25 c_27]; rfl) (by rw [fcS_twin c_18 eb_25 c_27]; rfl)  ls (lv_sub hl [0, 1, 2, 5, 6] rfl)
        · have c_15 : hs (but) (i_1) = true := eq_true_of_ne_false c_15
          refine lv_iconst (v := nI (3)) hx hb dX1_firstCallable_28 gc_3 ?_
          refine lv_goto (tgt := 38) hx hb dX1_firstCallable_29 (by decide) ?_
          refine g_top (z := nI (fcl kf cn but (i_1))) (by simp [fcl, c_13, d_13, c_15]) ?_
          have hle_32 := fcl_le kf cn but (i_1) hcn
          have hle_33 := fcS_le (jf 1) kf cn but (i_1)
          refine lv_istore (lv' := [(5, .int (nI (fcl kf cn but (i_1)))), (4, .int (nI (i_1))), (3, .int (nI ((fcS (jf 1) kf cn but i_1).2))), (2, .int (oI ((fcS (jf 1) kf cn but i_1).1))), (0, .ref (A 0)), (1, .int (but))]) hx hb dX1_firstCallable_38 hl (by decide) rfl (fun ls hl => ?_)
          refine lv_iload hx hb dX1_firstCallable_40 (lv_at hl 0 rfl) ?_
          refine lv_iload_n hx hb dX1_firstCallable_42 rfl (lv_at hl 2 rfl) ?_
          refine g_icmp_ne (P := fcl kf cn but (i_1) = (fcS (jf 1) kf cn but i_1).2) (tgt := 77) hx hb dX1_firstCallable_43 (by decide) (nI_eq (by omega) (by omega)) (fun c_34 => ?_) (fun c_34 => ?_)
          · refine lv_iconst (v := nI (0)) hx hb dX1_firstCallable_77 gc_0 ?_
            refine lv_istore (lv' := [(6, .int (nI (0))), (5, .int (nI (fcl kf cn but (i_1)))), (4, .int (nI (i_1))), (3, .int (nI ((fcS (jf 1) kf cn but i_1).2))), (2, .int (oI ((fcS (jf 1) kf cn but i_1).1))), (0, .ref (A 0)), (1, .int (but))]) hx hb dX1_firstCallable_78 hl (by decide) rfl (fun ls hl => ?_)
            refine lv_iload hx hb dX1_firstCallable_80 (lv_at hl 1 rfl) ?_
            refine lv_iload_n hx hb dX1_firstCallable_82 rfl (lv_at hl 3 rfl) ?_
            refine g_icmp_lt (P := fcl kf cn but (i_1) < (fcS (jf 1) kf cn but i_1).2) (tgt := 91) hx hb dX1_firstCallable_83 (by decide) (nI_ltI (by omega) (by omega)) (fun c_35 => ?_) (fun c_35 => ?_)
            · have d_35 : ¬ (fcS (jf 1) kf cn but i_1).2 ≤ fcl kf cn but (i_1) := Nat.not_le.mpr c_35
              refine lv_iload hx hb dX1_firstCallable_91 (lv_at hl 2 rfl) ?_
              refine lv_istore_n (lv' := [(2, .int (nI (i_1))), (6, .int (nI (0))), (5, .int (nI (fcl kf cn but (i_1)))), (4, .int (nI (i_1))), (3, .int (nI ((fcS (jf 1) kf cn but i_1).2))), (0, .ref (A 0)), (1, .int (but))]) hx hb dX1_firstCallable_93 rfl hl (by decide) rfl (fun ls hl => ?_)
              refine lv_iload hx hb dX1_firstCallable_94 (lv_at hl 2 rfl) ?_
              refine lv_istore_n (lv' := [(3, .int (nI (fcl kf cn but (i_1)))), (2, .int (nI (i_1))), (6, .int (nI (0))), (5, .int (nI (fcl kf cn but (i_1)))), (4, .int (nI (i_1))), (0, .ref (A 0)), (1, .int (but))]) hx hb dX1_firstCallable_96 rfl hl (by decide) rfl (fun ls hl => ?_)
              refine lv_iinc (v := nI (i_1 + 1)) (lv' := [(4, .int (nI (i_1 + 1))), (3, .int (nI (fcl kf cn but (i_1)))), (2, .int (nI (i_1))), (6, .int (nI (0))), (5, .int (nI (fcl kf cn but (i_1)))), (0, .ref (A 0)), (1, .int (but))]) hx hb dX1_firstCallable_97 hl (k := 4) rfl (inc_1 _) (by decide) rfl (fun ls hl => ?_)
              refine lv_goto (tgt := 7) hx hb dX1_firstCallable_100 (by decide) ?_
              exact ih_10 (i_1 + 1) _ _ _ (by omega) (by omega) rfl (by rw [fcS_win c_35]; rfl) (by rw [fcS_win c_35]; rfl)  ls (lv_sub hl [0, 1, 2, 5, 6] rfl)
            · have d_35 : (fcS (jf 1) kf cn but i_1).2 ≤ fcl kf cn but (i_1) := Nat.not_lt.mp c_35
              refine lv_iload hx hb dX1_firstCallable_86 (lv_at hl 0 rfl) ?_
              refine g_if_eq (P := 0 = 0) (tgt := 97) hx hb dX1_firstCallable_88 (by decide) (nI_z (a := 0) (by omega)) (fun c_36 => ?_) (fun c_36 => ?_)
              · refine lv_iinc (v := nI (i_1 + 1)) (lv' := [(4, .int (nI (i_1 + 1))), (6, .int (nI (0))), (5, .int (nI (fcl kf cn but (i_1)))), (3, .int (nI ((fcS (jf 1) kf cn but i_1).2))), (2, .int (oI ((fcS (jf 1) kf cn but i_1).1))), (0, .ref (A 0)), (1, .int (but))]) hx hb dX1_firstCallable_97 hl (k := 2) rfl (inc_1 _) (by decide) rfl (fun ls hl => ?_)
                refine lv_goto (tgt := 7) hx hb dX1_firstCallable_100 (by decide) ?_
                exact ih_10 (i_1 + 1) _ _ _ (by omega) (by omega) rfl (by rw [fcS_keep1 c_35 c_34]) (by rw [fcS_keep1 c_35 c_34])  ls (lv_sub hl [0, 3, 4, 5, 6] rfl)
              · exact absurd c_36 (by decide)
          · refine lv_iload_n hx hb dX1_firstCallable_46 rfl (lv_at hl 3 rfl) ?_
            refine lv_iconst (v := -1) hx hb dX1_firstCallable_47 gc_m1 ?_
            refine g_icmp_eq (P := (fcS (jf 1) kf cn but i_1).1 = none) (tgt := 77) hx hb dX1_firstCallable_48 (by decide) (oI_m1 (fun b q => by have := fcS_lt _ _ _ _ _ _ q; omega)) (fun c_37 => ?_) (fun c_37 => ?_)
            · refine lv_iconst (v := nI (0)) hx hb dX1_firstCallable_77 gc_0 ?_
              refine lv_istore (lv' := [(6, .int (nI (0))), (5, .int (nI (fcl kf cn but (i_1)))), (4, .int (nI (i_1))), (3, .int (nI ((fcS (jf 1) kf cn but i_1).2))), (2, .int (oI ((fcS (jf 1) kf cn but i_1).1))), (0, .ref (A 0)), (1, .int (but))]) hx hb dX1_firstCallable_78 hl (by decide) rfl (fun ls hl => ?_)
              refine lv_iload hx hb dX1_firstCallable_80 (lv_at hl 1 rfl) ?_
              refine lv_iload_n hx hb dX1_firstCallable_82 rfl (lv_at hl 3 rfl) ?_
              refine g_icmp_lt (P := fcl kf cn but (i_1) < (fcS (jf 1) kf cn but i_1).2) (tgt := 91) hx hb dX1_firstCallable_83 (by decide) (nI_ltI (by omega) (by omega)) (fun c_38 => ?_) (fun c_38 => ?_)
              · have d_38 : ¬ (fcS (jf 1) kf cn but i_1).2 ≤ fcl kf cn but (i_1) := Nat.not_le.mpr c_38
                refine lv_iload hx hb dX1_firstCallable_91 (lv_at hl 2 rfl) ?_
                refine lv_istore_n (lv' := [(2, .int (nI (i_1))), (6, .int (nI (0))), (5, .int (nI (fcl kf cn but (i_1)))), (4, .int (nI (i_1))), (3, .int (nI ((fcS (jf 1) kf cn but i_1).2))), (0, .ref (A 0)), (1, .int (but))]) hx hb dX1_firstCallable_93 rfl hl (by decide) rfl (fun ls hl => ?_)
                refine lv_iload hx hb dX1_firstCallable_94 (lv_at hl 2 rfl) ?_
                refine lv_istore_n (lv' := [(3, .int (nI (fcl kf cn but (i_1)))), (2, .int (nI (i_1))), (6, .int (nI (0))), (5, .int (nI (fcl kf cn but (i_1)))), (4, .int (nI (i_1))), (0, .ref (A 0)), (1, .int (but))]) hx hb dX1_firstCallable_96 rfl hl (by decide) rfl (fun ls hl => ?_)
                refine lv_iinc (v := nI (i_1 + 1)) (lv' := [(4, .int (nI (i_1 + 1))), (3, .int (nI (fcl kf cn but (i_1)))), (2, .int (nI (i_1))), (6, .int (nI (0))), (5, .int (nI (fcl kf cn but (i_1)))), (0, .ref (A 0)), (1, .int (but))]) hx hb dX1_firstCallable_97 hl (k := 4) rfl (inc_1 _) (by decide) rfl (fun ls hl => ?_)
                refine lv_goto (tgt := 7) hx hb dX1_firstCallable_100 (by decide) ?_
                exact ih_10 (i_1 + 1) _ _ _ (by omega) (by omega) rfl (by exfalso; omega) (by exfalso; omega)  ls (lv_sub hl [0, 1, 2, 5, 6] rfl)
              · have d_38 : (fcS (jf 1) kf cn but i_1).2 ≤ fcl kf cn but (i_1) := Nat.not_lt.mp c_38
                refine lv_iload hx hb dX1_firstCallable_86 (lv_at hl 0 rfl) ?_
                refine g_if_eq (P := 0 = 0) (tgt := 97) hx hb dX1_firstCallable_88 (by decide) (nI_z (a := 0) (by omega)) (fun c_39 => ?_) (fun c_39 => ?_)
                · refine lv_iinc (v := nI (i_1 + 1)) (lv' := [(4, .int (nI (i_1 + 1))), (6, .int (nI (0))), (5, .int (nI (fcl kf cn but (i_1)))), (3, .int (nI ((fcS (jf 1) kf cn but i_1).2))), (2, .int (oI ((fcS (jf 1) kf cn but i_1).1))), (0, .ref (A 0)), (1, .int (but))]) hx hb dX1_firstCallable_97 hl (k := 2) rfl (inc_1 _) (by decide) rfl (fun ls hl => ?_)
                  refine lv_goto (tgt := 7) hx hb dX1_firstCallable_100 (by decide) ?_
                  exact ih_10 (i_1 + 1) _ _ _ (by omega) (by omega) rfl (by rw [fcS_none c_34 c_37]) (by rw [fcS_none c_34 c_37])  ls (lv_sub hl [0, 3, 4, 5, 6] rfl)
                · exact absurd c_39 (by decide)
            · obtain ⟨b_40, eb_41⟩ := o_some c_37
              have hb_42 := fcS_lt _ _ _ _ _ _ eb_41
              rw [eb_41] at hl
              have hl : lv_has ls 7 [(5, .int (nI (fcl kf cn but (i_1)))), (4, .int (nI (i_1))), (3, .int (nI ((fcS (jf 1) kf cn but i_1).2))), (2, .int (nI (b_40))), (0, .ref (A 0)), (1, .int (but))] := hl
              refine lv_aload_n hx hb dX1_firstCallable_51 rfl (lv_at hl 4 rfl) ?_
              refine g_get (v := .ref (A 1)) hx hb hts hown hK hP 0 rfl rfl gu_wsX10 0 (by decide) gm_2_21 rfl dX1_firstCallable_52 ?_
              refine g_get (v := .ref (A 3)) hx hb hts hown hK hP 1 rfl rfl gu_wsX30 1 (by decide) gm_13_10 rfl dX1_firstCallable_55 ?_
              refine lv_iload hx hb dX1_firstCallable_58 (lv_at hl 1 rfl) ?_
              refine g_iald (x := jf 1 (i_1)) hx hb hK hP 3 rfl (by omega) (by decide) rfl dX1_firstCallable_60 ?_
              refine lv_aload_n hx hb dX1_firstCallable_61 rfl (lv_at hl 4 rfl) ?_
              refine g_get (v := .ref (A 1)) hx hb hts hown hK hP 0 rfl rfl gu_wsX10 0 (by decide) gm_2_21 rfl dX1_firstCallable_62 ?_
              refine g_get (v := .ref (A 3)) hx hb hts hown hK hP 1 rfl rfl gu_wsX30 1 (by decide) gm_13_10 rfl dX1_firstCallable_65 ?_
              refine lv_iload_n hx hb dX1_firstCallable_68 rfl (lv_at hl 3 rfl) ?_
              refine g_iald (x := jf 1 (b_40)) hx hb hK hP 3 rfl (by omega) (by decide) rfl dX1_firstCallable_69 ?_
              refine g_icmp_ge (P := jf 1 (b_40) ≤ jf 1 (i_1)) (tgt := 77) hx hb dX1_firstCallable_70 (by decide) Iff.rfl (fun c_43 => ?_) (fun c_43 => ?_)
              · have d_43 : ¬ jf 1 (i_1) < jf 1 (b_40) := Int32.not_lt.mpr c_43
                refine lv_iconst (v := nI (0)) hx hb dX1_firstCallable_77 gc_0 ?_
                refine lv_istore (lv' := [(6, .int (nI (0))), (5, .int (nI (fcl kf cn but (i_1)))), (4, .int (nI (i_1))), (3, .int (nI ((fcS (jf 1) kf cn but i_1).2))), (2, .int (nI (b_40))), (0, .ref (A 0)), (1, .int (but))]) hx hb dX1_firstCallable_78 hl (by decide) rfl (fun ls hl => ?_)
                refine lv_iload hx hb dX1_firstCallable_80 (lv_at hl 1 rfl) ?_
                refine lv_iload_n hx hb dX1_firstCallable_82 rfl (lv_at hl 3 rfl) ?_
                refine g_icmp_lt (P := fcl kf cn but (i_1) < (fcS (jf 1) kf cn but i_1).2) (tgt := 91) hx hb dX1_firstCallable_83 (by decide) (nI_ltI (by omega) (by omega)) (fun c_44 => ?_) (fun c_44 => ?_)
                · have d_44 : ¬ (fcS (jf 1) kf cn but i_1).2 ≤ fcl kf cn but (i_1) := Nat.not_le.mpr c_44
                  refine lv_iload hx hb dX1_firstCallable_91 (lv_at hl 2 rfl) ?_
                  refine lv_istore_n (lv' := [(2, .int (nI (i_1))), (6, .int (nI (0))), (5, .int (nI (fcl kf cn but (i_1)))), (4, .int (nI (i_1))), (3, .int (nI ((fcS (jf 1) kf cn but i_1).2))), (0, .ref (A 0)), (1, .int (but))]) hx hb dX1_firstCallable_93 rfl hl (by decide) rfl (fun ls hl => ?_)
                  refine lv_iload hx hb dX1_firstCallable_94 (lv_at hl 2 rfl) ?_
                  refine lv_istore_n (lv' := [(3, .int (nI (fcl kf cn but (i_1)))), (2, .int (nI (i_1))), (6, .int (nI (0))), (5, .int (nI (fcl kf cn but (i_1)))), (4, .int (nI (i_1))), (0, .ref (A 0)), (1, .int (but))]) hx hb dX1_firstCallable_96 rfl hl (by decide) rfl (fun ls hl => ?_)
                  refine lv_iinc (v := nI (i_1 + 1)) (lv' := [(4, .int (nI (i_1 + 1))), (3, .int (nI (fcl kf cn but (i_1)))), (2, .int (nI (i_1))), (6, .int (nI (0))), (5, .int (nI (fcl kf cn but (i_1)))), (0, .ref (A 0)), (1, .int (but))]) hx hb dX1_firstCallable_97 hl (k := 4) rfl (inc_1 _) (by decide) rfl (fun ls hl => ?_)
                  refine lv_goto (tgt := 7) hx hb dX1_firstCallable_100 (by decide) ?_
                  exact ih_10 (i_1 + 1) _ _ _ (by omega) (by omega) rfl (by exfalso; omega) (by exfalso; omega)  ls (lv_sub hl [0, 1, 2, 5, 6] rfl)
                · have d_44 : (fcS (jf 1) kf cn but i_1).2 ≤ fcl kf cn but (i_1) := Nat.not_lt.mp c_44
                  refine lv_iload hx hb dX1_firstCallable_86 (lv_at hl 0 rfl) ?_
                  refine g_if_eq (P := 0 = 0) (tgt := 97) hx hb dX1_firstCallable_88 (by decide) (nI_z (a := 0) (by omega)) (fun c_45 => ?_) (fun c_45 => ?_)
                  · refine lv_iinc (v := nI (i_1 + 1)) (lv' := [(4, .int (nI (i_1 + 1))), (6, .int (nI (0))), (5, .int (nI (fcl kf cn but (i_1)))), (3, .int (nI ((fcS (jf 1) kf cn but i_1).2))), (2, .int (nI (b_40))), (0, .ref (A 0)), (1, .int (but))]) hx hb dX1_firstCallable_97 hl (k := 2) rfl (inc_1 _) (by decide) rfl (fun ls hl => ?_)
                    refine lv_goto (tgt := 7) hx hb dX1_firstCallable_100 (by decide) ?_
                    exact ih_10 (i_1 + 1) _ _ _ (by omega) (by omega) rfl (by rw [fcS_keep c_34 eb_41 c_43]) (by rw [fcS_keep c_34 eb_41 c_43]; rw [eb_41]; rfl)  ls (lv_sub hl [0, 3, 4, 5, 6] rfl)
                  · exact absurd c_45 (by decide)
              · have d_43 : jf 1 (i_1) < jf 1 (b_40) := Int32.not_le.mp c_43
                refine lv_iconst (v := nI (1)) hx hb dX1_firstCallable_73 gc_1 ?_
                refine lv_goto (tgt := 78) hx hb dX1_firstCallable_74 (by decide) ?_
                refine lv_istore (lv' := [(6, .int (nI (1))), (5, .int (nI (fcl kf cn but (i_1)))), (4, .int (nI (i_1))), (3, .int (nI ((fcS (jf 1) kf cn but i_1).2))), (2, .int (nI (b_40))), (0, .ref (A 0)), (1, .int (but))]) hx hb dX1_firstCallable_78 hl (by decide) rfl (fun ls hl => ?_)
                refine lv_iload hx hb dX1_firstCallable_80 (lv_at hl 1 rfl) ?_
                refine lv_iload_n hx hb dX1_firstCallable_82 rfl (lv_at hl 3 rfl) ?_
                refine g_icmp_lt (P := fcl kf cn but (i_1) < (fcS (jf 1) kf cn but i_1).2) (tgt := 91) hx hb dX1_firstCallable_83 (by decide) (nI_ltI (by omega) (by omega)) (fun c_46 => ?_) (fun c_46 => ?_)
                · have d_46 : ¬ (fcS (jf 1) kf cn but i_1).2 ≤ fcl kf cn but (i_1) := Nat.not_le.mpr c_46
                  refine lv_iload hx hb dX1_firstCallable_91 (lv_at hl 2 rfl) ?_
                  refine lv_istore_n (lv' := [(2, .int (nI (i_1))), (6, .int (nI (1))), (5, .int (nI (fcl kf cn but (i_1)))), (4, .int (nI (i_1))), (3, .int (nI ((fcS (jf 1) kf cn but i_1).2))), (0, .ref (A 0)), (1, .int (but))]) hx hb dX1_firstCallable_93 rfl hl (by decide) rfl (fun ls hl => ?_)
                  refine lv_iload hx hb dX1_firstCallable_94 (lv_at hl 2 rfl) ?_
                  refine lv_istore_n (lv' := [(3, .int (nI (fcl kf cn but (i_1)))), (2, .int (nI (i_1))), (6, .int (nI (1))), (5, .int (nI (fcl kf cn but (i_1)))), (4, .int (nI (i_1))), (0, .ref (A 0)), (1, .int (but))]) hx hb dX1_firstCallable_96 rfl hl (by decide) rfl (fun ls hl => ?_)
                  refine lv_iinc (v := nI (i_1 + 1)) (lv' := [(4, .int (nI (i_1 + 1))), (3, .int (nI (fcl kf cn but (i_1)))), (2, .int (nI (i_1))), (6, .int (nI (1))), (5, .int (nI (fcl kf cn but (i_1)))), (0, .ref (A 0)), (1, .int (but))]) hx hb dX1_firstCallable_97 hl (k := 4) rfl (inc_1 _) (by decide) rfl (fun ls hl => ?_)
                  refine lv_goto (tgt := 7) hx hb dX1_firstCallable_100 (by decide) ?_
                  exact ih_10 (i_1 + 1) _ _ _ (by omega) (by omega) rfl (by exfalso; omega) (by exfalso; omega)  ls (lv_sub hl [0, 1, 2, 5, 6] rfl)
                · have d_46 : (fcS (jf 1) kf cn but i_1).2 ≤ fcl kf cn but (i_1) := Nat.not_lt.mp c_46
                  refine lv_iload hx hb dX1_firstCallable_86 (lv_at hl 0 rfl) ?_
                  refine g_if_eq (P := 1 = 0) (tgt := 97) hx hb dX1_firstCallable_88 (by decide) (nI_z (a := 1) (by omega)) (fun c_47 => ?_) (fun c_47 => ?_)
                  · exact absurd c_47 (by decide)
                  · refine lv_iload hx hb dX1_firstCallable_91 (lv_at hl 2 rfl) ?_
                    refine lv_istore_n (lv' := [(2, .int (nI (i_1))), (6, .int (nI (1))), (5, .int (nI (fcl kf cn but (i_1)))), (4, .int (nI (i_1))), (3, .int (nI ((fcS (jf 1) kf cn but i_1).2))), (0, .ref (A 0)), (1, .int (but))]) hx hb dX1_firstCallable_93 rfl hl (by decide) rfl (fun ls hl => ?_)
                    refine lv_iload hx hb dX1_firstCallable_94 (lv_at hl 2 rfl) ?_
                    refine lv_istore_n (lv' := [(3, .int (nI (fcl kf cn but (i_1)))), (2, .int (nI (i_1))), (6, .int (nI (1))), (5, .int (nI (fcl kf cn but (i_1)))), (4, .int (nI (i_1))), (0, .ref (A 0)), (1, .int (but))]) hx hb dX1_firstCallable_96 rfl hl (by decide) rfl (fun ls hl => ?_)
                    refine lv_iinc (v := nI (i_1 + 1)) (lv' := [(4, .int (nI (i_1 + 1))), (3, .int (nI (fcl kf cn but (i_1)))), (2, .int (nI (i_1))), (6, .int (nI (1))), (5, .int (nI (fcl kf cn but (i_1)))), (0, .ref (A 0)), (1, .int (but))]) hx hb dX1_firstCallable_97 hl (k := 4) rfl (inc_1 _) (by decide) rfl (fun ls hl => ?_)
                    refine lv_goto (tgt := 7) hx hb dX1_firstCallable_100 (by decide) ?_
                    exact ih_10 (i_1 + 1) _ _ _ (by omega) (by omega) rfl (by rw [fcS_twin c_34 eb_41 c_43]; rfl) (by rw [fcS_twin c_34 eb_41 c_43]; rfl)  ls (lv_sub hl [0, 1, 2, 5, 6] rfl)
  exact LP_6 (jn + 1) 0 _ _ _ (by omega) (by omega) rfl rfl rfl  ls (lv_sub hl [0, 1, 2, 3, 4] rfl)

set_option maxHeartbeats 1000000 in
set_option maxRecDepth 100000 in
theorem c_X1_callableAt (l : Launch) (D : va_G) (cA : Nat → ClassId) (A : Nat → Nat) (jf : Nat → Nat → Int32) (jn : Nat) (kf : Nat → Nat → Int32) (rw : Nat → Nat) (cn rl clk ton : Nat) (sd : Int32) (v : Int32) (hjn : jn ≤ 9) (hcn : cn ≤ 10) : Met l yX1_callableAt (gw yX1_callableAt cX1_callableAt 5 (some .int)) ({ frames := 3, cells := 0, slots := 0, locals := 70 } : Room) (gPc [.ref (A 0), .int (v)] (fun H => va_P D vwCl (cw cA A jf jn kf rw cn rl clk ton sd) H) D cA) (rdI (fun r => r = oI (nthV (fcF (jf 1) kf jn cn) jn v))) 0 0 nF := by
  refine gOf (by decide) (Nat.le_of_ble_eq_true rfl) ?_
  intro p e s m below meth c ls hx hb hml hr hlk hown hts hnm hP hK hl
  have hl : lv_has ls 5 [(0, .ref (A 0)), (1, .int (v))] := hl
  refine lv_aload_n hx hb dX1_callableAt_0 rfl (lv_at hl 0 rfl) ?_
  refine g_get (v := .ref (A 1)) hx hb hts hown hK hP 0 rfl rfl gu_wsX10 0 (by decide) gm_2_21 rfl dX1_callableAt_1 ?_
  refine lv_iload_n hx hb dX1_callableAt_4 rfl (lv_at hl 1 rfl) ?_
  refine rd_calle (va_runV (As := [.int (v)]) (rest := []) ⟨hx, hb, hml, hown, hts⟩ (c_X3_has l D cA (fun k => A (k + 1)) jf jn (v) hjn) (cwV 1 hts (gWV gm_29_2 gm_25_2 gm_25_3 gm_2_5 gm_25_4) rfl rfl rfl (by decide +kernel) ⟨Nat.le_of_ble_eq_true rfl, Nat.le_of_ble_eq_true rfl⟩) (gPreV hK (g_rf hK hP (ci := 5) (q0 := 1) rfl rfl) (hP.sub [1, 2, 3, 4, 5] rfl)) rfl rfl hl.1 rfl (lv_room (Nat.le_of_ble_eq_true rfl)) dX1_callableAt_5 ⟨by omega, by omega⟩) ?_
  refine g_if_ne (P := isIx (v) jn = false) (tgt := 13) hx hb dX1_callableAt_8 (by decide) b2i_0 (fun c_1 => ?_) (fun c_1 => ?_)
  · have c_1 : isIx (v) jn = true := eq_true_of_ne_false c_1
    obtain ⟨j_2, hj_4, ej_3⟩ := isIx_n c_1 (by omega)
    rw [ej_3] at hl
    have hl : lv_has ls 5 [(0, .ref (A 0)), (1, .int (nI (j_2)))] := hl
    refine lv_iconst (v := nI (0)) hx hb dX1_callableAt_13 gc_0 ?_
    refine lv_istore_n (lv' := [(2, .int (nI (0))), (0, .ref (A 0)), (1, .int (nI (j_2)))]) hx hb dX1_callableAt_14 rfl hl (by decide) rfl (fun ls hl => ?_)
    refine lv_aload_n hx hb dX1_callableAt_15 rfl (lv_at hl 1 rfl) ?_
    refine lv_iload_n hx hb dX1_callableAt_16 rfl (lv_at hl 0 rfl) ?_
    refine rd_calle (va_runV (As := [.int (nI (0))]) (rest := []) ⟨hx, hb, hml, hown, hts⟩ (c_X1_firstCallable l D cA A jf jn kf rw cn rl clk ton sd (nI (0)) hjn hcn) (cwV 1 hts (gWV gm_13_6 gm_13_7 gm_13_8 gm_1_16 gm_13_9) rfl rfl rfl (by decide +kernel) ⟨Nat.le_of_ble_eq_true rfl, Nat.le_of_ble_eq_true rfl⟩) (gPreV hK (g_rf hK hP (ci := 3) (q0 := 0) rfl rfl) hP) rfl rfl hl.1 rfl (lv_room (Nat.le_of_ble_eq_true rfl)) dX1_callableAt_17 ⟨by omega, by omega⟩) ?_
    refine lv_istore_n (lv' := [(3, .int (oI (fcF (jf 1) kf jn cn (nI (0))))), (2, .int (nI (0))), (0, .ref (A 0)), (1, .int (nI (j_2)))]) hx hb dX1_callableAt_20 rfl hl (by decide) rfl (fun ls hl => ?_)
    refine lv_iconst (v := nI (0)) hx hb dX1_callableAt_21 gc_0 ?_
    refine lv_istore (lv' := [(4, .int (nI (0))), (3, .int (oI (fcF (jf 1) kf jn cn (nI (0))))), (2, .int (nI (0))), (0, .ref (A 0)), (1, .int (nI (j_2)))]) hx hb dX1_callableAt_22 hl (by decide) rfl (fun ls hl => ?_)
    have LP_10 : ∀ (n_6 i_5 : Nat) (x_7 x_8 x_9 : Int32), i_5 ≤ j_2 → j_2 + 1 ≤ i_5 + n_6 → x_7 = nI (i_5) → x_8 = oI ((nthS (fcF (jf 1) kf jn cn) i_5).2) → x_9 = (nthS (fcF (jf 1) kf jn cn) i_5).1 → ∀ (ls : Array Slot), lv_has ls 5 [(4, .int (x_7)), (3, .int (x_8)), (2, .int (x_9)), (0, .ref (A 0)), (1, .int (nI (j_2)))] → W p l e ({ frames := 3, cells := 0, slots := 0, locals := 70 } : Room) s m ([.ref (A 0), .int (v)] : List Value).toArray below meth c s.heap [] 0 0 (MQ below (rdI (fun r => r = oI (nthV (fcF (jf 1) kf jn cn) jn v))) ([.ref (A 0), .int (v)] : List Value).toArray s 0 0 nF) (F0 m 24 ls []) := by
      intro n_6
      induction n_6 with
      | zero => intro i_5 x_7 x_8 x_9 h1 h2; exact absurd h2 (by omega)
      | succ n_6 ih_14 =>
        intro i_5 x_7 x_8 x_9 h_15 h_16 e_11 e_12 e_13  ls hl
        subst e_11
        subst e_12
        subst e_13
        refine lv_iload hx hb dX1_callableAt_24 (lv_at hl 0 rfl) ?_
        refine lv_iload_n hx hb dX1_callableAt_26 rfl (lv_at hl 4 rfl) ?_
        refine g_icmp_ge (P := j_2 ≤ i_5) (tgt := 53) hx hb dX1_callableAt_27 (by decide) (nI_leI (by omega) (by omega)) (fun c_17 => ?_) (fun c_17 => ?_)
        · have d_17 : ¬ i_5 < j_2 := Nat.not_lt.mpr c_17
          have hN_18 : j_2 = i_5 := by omega
          subst hN_18
          refine lv_iload_n hx hb dX1_callableAt_53 rfl (lv_at hl 1 rfl) ?_
          exact g_iret (v := oI ((nthS (fcF (jf 1) kf jn cn) (j_2)).2)) hx hb hr hlk dX1_callableAt_54 (by rw [nthV_in hj_4 (by omega) ej_3])
        · have d_17 : i_5 < j_2 := Nat.not_le.mp c_17
          refine lv_iload_n hx hb dX1_callableAt_30 rfl (lv_at hl 1 rfl) ?_
          refine lv_iconst (v := -1) hx hb dX1_callableAt_31 gc_m1 ?_
          refine g_icmp_eq (P := (nthS (fcF (jf 1) kf jn cn) i_5).2 = none) (tgt := 53) hx hb dX1_callableAt_32 (by decide) (oI_m1 (fun b q => by have := nthS_lt fcF_lt _ _ q; omega)) (fun c_19 => ?_) (fun c_19 => ?_)
          · refine lv_iload_n hx hb dX1_callableAt_53 rfl (lv_at hl 1 rfl) ?_
            exact g_iret (v := oI ((nthS (fcF (jf 1) kf jn cn) i_5).2)) hx hb hr hlk dX1_callableAt_54 (by rw [nthV_in hj_4 (by omega) ej_3, nthS_none c_19 j_2 (by omega)])
          · obtain ⟨b_20, eb_21⟩ := o_some c_19
            have hb_22 := nthS_lt fcF_lt _ _ eb_21
            rw [eb_21] at hl
            have hl : lv_has ls 5 [(4, .int (nI (i_5))), (3, .int (nI (b_20))), (2, .int ((nthS (fcF (jf 1) kf jn cn) i_5).1)), (0, .ref (A 0)), (1, .int (nI (j_2)))] := hl
            refine lv_iload_n hx hb dX1_callableAt_35 rfl (lv_at hl 2 rfl) ?_
            refine lv_iconst (v := nI (1)) hx hb dX1_callableAt_36 gc_1 ?_
            refine lv_iload_n hx hb dX1_callableAt_37 rfl (lv_at hl 1 rfl) ?_
            refine lv_ishl hx hb dX1_callableAt_38 ?_
            refine lv_ior hx hb dX1_callableAt_39 ?_
            refine lv_istore_n (lv' := [(2, .int (((nthS (fcF (jf 1) kf jn cn) i_5).1) ||| ((nI (1)) <<< ((nI (b_20)) &&& 31)))), (4, .int (nI (i_5))), (3, .int (nI (b_20))), (0, .ref (A 0)), (1, .int (nI (j_2)))]) hx hb dX1_callableAt_40 rfl hl (by decide) rfl (fun ls hl => ?_)
            refine lv_aload_n hx hb dX1_callableAt_41 rfl (lv_at hl 3 rfl) ?_
            refine lv_iload_n hx hb dX1_callableAt_42 rfl (lv_at hl 0 rfl) ?_
            refine rd_calle (va_runV (As := [.int (((nthS (fcF (jf 1) kf jn cn) i_5).1) ||| ((nI (1)) <<< ((nI (b_20)) &&& 31)))]) (rest := []) ⟨hx, hb, hml, hown, hts⟩ (c_X1_firstCallable l D cA A jf jn kf rw cn rl clk ton sd (((nthS (fcF (jf 1) kf jn cn) i_5).1) ||| ((nI (1)) <<< ((nI (b_20)) &&& 31))) hjn hcn) (cwV 1 hts (gWV gm_13_6 gm_13_7 gm_13_8 gm_1_16 gm_13_9) rfl rfl rfl (by decide +kernel) ⟨Nat.le_of_ble_eq_true rfl, Nat.le_of_ble_eq_true rfl⟩) (gPreV hK (g_rf hK hP (ci := 3) (q0 := 0) rfl rfl) hP) rfl rfl hl.1 rfl (lv_room (Nat.le_of_ble_eq_true rfl)) dX1_callableAt_43 ⟨by omega, by omega⟩) ?_
            refine lv_istore_n (lv' := [(3, .int (oI (fcF (jf 1) kf jn cn (((nthS (fcF (jf 1) kf jn cn) i_5).1) ||| ((nI (1)) <<< ((nI (b_20)) &&& 31)))))), (2, .int (((nthS (fcF (jf 1) kf jn cn) i_5).1) ||| ((nI (1)) <<< ((nI (b_20)) &&& 31)))), (4, .int (nI (i_5))), (0, .ref (A 0)), (1, .int (nI (j_2)))]) hx hb dX1_callableAt_46 rfl hl (by decide) rfl (fun ls hl => ?_)
            refine lv_iinc (v := nI (i_5 + 1)) (lv' := [(4, .int (nI (i_5 + 1))), (3, .int (oI (fcF (jf 1) kf jn cn (((nthS (fcF (jf 1) kf jn cn) i_5).1) ||| ((nI (1)) <<< ((nI (b_20)) &&& 31)))))), (2, .int (((nthS (fcF (jf 1) kf jn cn) i_5).1) ||| ((nI (1)) <<< ((nI (b_20)) &&& 31)))), (0, .ref (A 0)), (1, .int (nI (j_2)))]) hx hb dX1_callableAt_47 hl (k := 2) rfl (inc_1 _) (by decide) rfl (fun ls hl => ?_)
            refine lv_goto (tgt := 24) hx hb dX1_callableAt_50 (by decide) ?_
            exact ih_14 (i_5 + 1) _ _ _ (by omega) (by omega) rfl (by rw [nthS_some eb_21]) (by rw [nthS_some eb_21])  ls (lv_sub hl [0, 1, 2, 3, 4] rfl)
    exact LP_10 (j_2 + 1) 0 _ _ _ (by omega) (by omega) rfl rfl rfl  ls (lv_sub hl [0, 1, 2, 3, 4] rfl)
  · refine lv_iconst (v := -1) hx hb dX1_callableAt_11 gc_m1 ?_
    exact g_iret (v := -1) hx hb hr hlk dX1_callableAt_12 (by rw [nthV_out c_1]; rfl)

set_option maxHeartbeats 1000000 in
set_option maxRecDepth 100000 in
theorem c_X0_rowAt (l : Launch) (D : va_G) (cA : Nat → ClassId) (K : Nat → Nat) (kf : Nat → Nat → Int32) (rw : Nat → Nat) (cn rl : Nat) (v : Int32) (hrl : rl ≤ 10) (hrw : ∀ k, k < rl → rw k < 10) : Met l yX0_rowAt (gw yX0_rowAt cX0_rowAt 2 (some .int)) ({ frames := 0, cells := 0, slots := 0, locals := 0 } : Room) (gPc [.ref (K 0), .int (v)] (fun H => va_P D vwCl (kw cA K kf rw cn rl) H) D cA) (rdI (fun r => r = oI (if isIx v rl = true then some (rw v.toNatClampNeg) else none))) 0 0 nF := by
  refine gOf (by decide) (Nat.le_of_ble_eq_true rfl) ?_
  intro p e s m below meth c ls hx hb hml hr hlk hown hts hnm hP hK hl
  have hl : lv_has ls 2 [(0, .ref (K 0)), (1, .int (v))] := hl
  refine lv_iload_n hx hb dX0_rowAt_0 rfl (lv_at hl 1 rfl) ?_
  refine g_if_lt (P := v < 0) (tgt := 21) hx hb dX0_rowAt_1 (by decide) Iff.rfl (fun c_1 => ?_) (fun c_1 => ?_)
  · have d_1 : ¬ 0 ≤ v := Int32.not_le.mpr c_1
    refine lv_iconst (v := -1) hx hb dX0_rowAt_21 gc_m1 ?_
    exact g_iret (v := -1) hx hb hr hlk dX0_rowAt_22 (by rw [isIx_code v (by omega)]; simp [c_1, d_1, oI])
  · have d_1 : 0 ≤ v := Int32.not_lt.mp c_1
    refine lv_iload_n hx hb dX0_rowAt_4 rfl (lv_at hl 1 rfl) ?_
    refine lv_aload_n hx hb dX0_rowAt_5 rfl (lv_at hl 0 rfl) ?_
    refine g_get (v := .int (nI (rl))) hx hb hts hown hK hP 0 rfl rfl gu_wsX00 10 (by decide) gm_4_3 rfl dX0_rowAt_6 ?_
    refine g_icmp_ge (P := nI (rl) ≤ v) (tgt := 21) hx hb dX0_rowAt_9 (by decide) Iff.rfl (fun c_2 => ?_) (fun c_2 => ?_)
    · have d_2 : ¬ v < nI (rl) := Int32.not_lt.mpr c_2
      refine lv_iconst (v := -1) hx hb dX0_rowAt_21 gc_m1 ?_
      exact g_iret (v := -1) hx hb hr hlk dX0_rowAt_22 (by rw [isIx_code v (by omega)]; simp [c_1, d_1, c_2, d_2, oI])
    · have d_2 : v < nI (rl) := Int32.not_le.mp c_2
      obtain ⟨j_3, hj_4, ej_5⟩ := isIx_n (by rw [isIx_code v (by omega)]; simp [c_1, d_1, c_2, d_2, c_2] : isIx v rl = true) (by omega)
      rw [ej_5] at hl
      have hl : lv_has ls 2 [(0, .ref (K 0)), (1, .int (nI (j_3)))] := hl
      refine lv_aload_n hx hb dX0_rowAt_12 rfl (lv_at hl 0 rfl) ?_
      refine g_get (v := .ref (K 9)) hx hb hts hown hK hP 0 rfl rfl gu_wsX00 8 (by decide) gm_4_1 rfl dX0_rowAt_13 ?_
      refine lv_iload_n hx hb dX0_rowAt_16 rfl (lv_at hl 1 rfl) ?_
      refine g_iald (x := nI (rw (j_3))) hx hb hK hP 9 rfl (by omega) (by decide) rfl dX0_rowAt_17 ?_
      refine lv_goto (tgt := 22) hx hb dX0_rowAt_18 (by decide) ?_
      exact g_iret (v := nI (rw (j_3))) hx hb hr hlk dX0_rowAt_22 (by rw [if_pos (by rw [ej_5]; exact isIx_t hj_4 (by omega)), ej_5, nI_clamp (by omega)]; rfl)

