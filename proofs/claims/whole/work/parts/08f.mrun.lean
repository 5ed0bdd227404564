theorem itR_le {inp : Nat → Int32} {ln : Nat} {td0 : Nat → Int32} : (itR inp ln td0).2.2.1 ≤ 16 := by
  cases h : fnd (itQ inp ln td0) 16 with
  | none => rw [itR, h]; exact Nat.zero_le _
  | some k =>
    have hk := fnd_lt h
    rw [itR, h]
    show (itX inp ln td0 k).2.2.1 ≤ 16
    unfold itX
    split
    · show k + 1 ≤ 16; omega
    · show k ≤ 16; omega
abbrev mj (s : MX) : Nat := (s.2 0 0).toNatClampNeg
abbrev mc9 (s : MX) : Nat := (s.2 0 1).toNatClampNeg
abbrev mk9 (s : MX) : Nat := (s.2 0 2).toNatClampNeg
abbrev mt9 (s : MX) : Nat := (s.2 0 3).toNatClampNeg
abbrev mh9 (s : MX) : Nat := (s.1 1).toNatClampNeg
/-- what the model must be for an order to be carried out in it -/
def mOk (s : MX) : Prop := s.2 0 0 = nI (mj s) ∧ mj s ≤ 9 ∧ s.2 0 1 = nI (mc9 s) ∧ mc9 s ≤ 10 ∧ s.2 0 2 = nI (mk9 s) ∧ mk9 s ≤ 4 ∧ s.2 0 3 = nI (mt9 s) ∧ mt9 s ≤ 99 ∧ s.1 2 = b2i true ∧ s.1 1 = nI (mh9 s) ∧ mh9 s ≤ 8 ∧ ∀ q, q < mc9 s → ¬ gof (s.2 0) q 2 = 0 → ∃ j, fnd (hs (gof (s.2 0) q 2)) 9 = some j
def crC (p k : Nat) (s : MX) : Int32 × MX := crM s.1 s.2 (mj s) (mc9 s) (mk9 s) (mt9 s) true (mh9 s) p k
def crY (s0 : MX) : Nat → Int32 × MX
  | 0 => (nI 0, s0)
  | k + 1 => if (crY s0 k).2.1 4 = 0 then crC (3 * k) ((crY s0 k).2.2 8 (3 * k)).toNatClampNeg (crY s0 k).2 else crY s0 k
theorem crY_0 {s0 : MX} : crY s0 0 = (nI 0, s0) := by rw [crY]
theorem crY_1 {s0 : MX} {k w : Nat} (h : (crY s0 k).2.1 4 = 0) (hw : (crY s0 k).2.2 8 (3 * k) = nI w) (h7 : w ≤ 7) : crY s0 (k + 1) = crC (3 * k) w (crY s0 k).2 := by rw [crY, if_pos h, hw, nI_clamp (by omega)]
theorem crY_2 {s0 : MX} {k : Nat} (h : ¬ (crY s0 k).2.1 4 = 0) : crY s0 (k + 1) = crY s0 k := by rw [crY, if_neg h]
theorem crY_stop {s0 : MX} {k : Nat} (h : ¬ (crY s0 k).2.1 4 = 0) : ∀ m, k ≤ m → crY s0 m = crY s0 k
  | 0, q => by rw [show k = 0 by omega]
  | m + 1, q => by
    rcases Nat.lt_or_ge m k with z | z
    · rw [show m + 1 = k by omega]
    · have e := crY_stop h m z
      rw [crY_2 (by rw [e]; exact h), e]
def rn0 (x : Nat → Int32) (f : Nat → Nat → Int32) (ln : Nat) : MX := (upd (upd (upd (upd (upd (upd (upd x 2 (nI 1)) 3 (nI 0)) 4 (nI 0)) 7 (nI 0)) 8 (-1)) 10 (nI (itR (f 4) ln (f 8)).2.1)) 11 (nI (itR (f 4) ln (f 8)).2.2.1), va_up (va_up f 3 (fb_put (f 3) (fun k => f 0 (0 + k)) 0 124)) 8 (itR (f 4) ln (f 8)).2.2.2)
def rnF (x : Nat → Int32) (f : Nat → Nat → Int32) (ln : Nat) : MX := (upd (upd (upd (upd (upd (upd x 3 (nI 0)) 4 (nI 1)) 7 (nI 0)) 8 (nI (itR (f 4) ln (f 8)).2.1)) 10 (nI (itR (f 4) ln (f 8)).2.1)) 11 (nI (itR (f 4) ln (f 8)).2.2.1), va_up f 8 (itR (f 4) ln (f 8)).2.2.2)
def rnE (y : Int32 × MX) (tm : Nat) : Int32 × MX := if y.2.1 4 = 0 then (nI tm, (upd (upd (upd y.2.1 1 (nI (kpC false (mh9 y.2)))) 2 (nI 0)) 4 (nI 0), va_up y.2.2 1 (kpK false (y.2.2 3) (y.2.2 1) (mh9 y.2)))) else (if y.1 ≤ 0 then y.1 else nI 0, (upd (upd y.2.1 2 (nI 0)) 4 (if y.2.1 3 = 0 then nI 1 else nI 2), va_up y.2.2 0 (fb_put (y.2.2 0) (fun k => y.2.2 3 (0 + k)) 0 124)))
def rnM (x : Nat → Int32) (f : Nat → Nat → Int32) (ln : Nat) : Int32 × MX := if (itR (f 4) ln (f 8)).1 = true then rnE (crY (rn0 x f ln) (itR (f 4) ln (f 8)).2.2.1) (itR (f 4) ln (f 8)).2.2.1 else (nI 0, rnF x f ln)

set_option maxHeartbeats 1000000 in
set_option maxRecDepth 100000 in
theorem c_X8_run (l : Launch) (D : va_G) (cA : Nat → ClassId) (AE : Nat → Prop) (adK adV sa : Nat → Nat) (A : Nat → Nat) (x : Nat → Int32) (f : Nat → Nat → Int32) (ln : Nat) (hA : mInj A) (hl7 : x 7 = nI ln) (hl60 : ln ≤ 60) (hok : ∀ k, k ≤ (itR (f 4) ln (f 8)).2.2.1 → (crY (rn0 x f ln) k).2.1 4 = 0 → mOk (crY (rn0 x f ln) k).2) (hpar : ∀ k, k < (itR (f 4) ln (f 8)).2.2.1 → (crY (rn0 x f ln) k).2.1 4 = 0 → ∃ w : Nat, w ≤ 7 ∧ (crY (rn0 x f ln) k).2.2 8 (3 * k) = nI w) (htm : ∀ k, k ≤ (itR (f 4) ln (f 8)).2.2.1 → (crY (rn0 x f ln) k).2.1 11 = nI (itR (f 4) ln (f 8)).2.2.1) (hcd : ∀ k, k ≤ (itR (f 4) ln (f 8)).2.2.1 → (crY (rn0 x f ln) k).2.1 4 ≤ 0 → (crY (rn0 x f ln) k).2.1 4 = 0) (hFA : ∀ q, (MA A) q → AE q) : Met l yX8_run (gw yX8_run cX8_run 4 (some .int)) ({ frames := 7, cells := 0, slots := 0, locals := 184 } : Room) (gPx [.ref (A 0)] (fun H => va_P D vwCl (mw cA A x f) H) D cA AE adK adV sa) (wrI (fun r H => r = (rnM x f ln).1 ∧ va_P D vwCl (mw cA A ((rnM x f ln).2.1) ((rnM x f ln).2.2)) H) (MA A)) 0 0 (MA A) := by
  refine gOfx (by decide) (Nat.le_of_ble_eq_true rfl) ?_
  intro p e s m below meth c ls hx hb hml hr hlk hown hts hnm hP hK hE hl
  have hl : lv_has ls 4 [(0, .ref (A 0))] := hl
  have hD : va_D (MA A) (mw cA A x f) := mD hA
  have hS : va_S (MA A) s.heap s.heap [] := va_S.rf
  refine lv_aload_n hx hb dX8_run_0 rfl (lv_at hl 0 rfl) ?_
  refine wr_calli (va_runV (As := []) (rest := []) ⟨hx, hb, hml, hown, hts⟩ (c_X8_isText l D cA AE adK adV sa A (x) (f) (ln) hA hl7 hl60 hFA) (cwV 0 hts (gWV gm_45_19 gm_45_20 gm_45_21 gm_1_5 gm_45_22) rfl rfl rfl (by decide +kernel) ⟨Nat.le_of_ble_eq_true rfl, Nat.le_of_ble_eq_true rfl⟩) (gPreVx hK hE hS hFA (g_rf hK hP (ci := 10) (q0 := 0) rfl rfl) hP) rfl rfl hl.1 rfl (lv_room (Nat.le_of_ble_eq_true rfl)) dX8_run_1 ⟨by omega, by omega⟩) hS (fun q _ h => h) (fun q h => h) (fun r H locs hw9 hz9 hk9 hS => ?_)
  obtain ⟨rfl, hP⟩ := hw9
  have hP : va_P D vwCl (mw cA A (upd (upd (x) 10 (nI ((itR (f 4) ln (f 8)).2.1))) 11 (nI ((itR (f 4) ln (f 8)).2.2.1))) (va_up (f) 8 ((itR (f 4) ln (f 8)).2.2.2))) H := hP
  have hD : va_D (MA A) (mw cA A (upd (upd (x) 10 (nI ((itR (f 4) ln (f 8)).2.1))) 11 (nI ((itR (f 4) ln (f 8)).2.2.1))) (va_up (f) 8 ((itR (f 4) ln (f 8)).2.2.2))) := mD hA
  have htl9 := itR_le (inp := f 4) (ln := ln) (td0 := f 8)
  refine lv_istore_n (lv' := [(1, .int (b2i ((itR (f 4) ln (f 8)).1))), (0, .ref (A 0))]) hx hb dX8_run_4 rfl hl (by decide) rfl (fun ls hl => ?_)
  refine lv_aload_n hx hb dX8_run_5 rfl (lv_at hl 1 rfl) ?_
  refine lv_iload_n hx hb dX8_run_6 rfl (lv_at hl 0 rfl) ?_
  refine g_if_eq (P := (itR (f 4) ln (f 8)).1 = false) (tgt := 14) hx hb dX8_run_7 (by decide) b2i_0 (fun c_1 => ?_) (fun c_1 => ?_)
  · rw [c_1] at hl
    have hl : lv_has ls 4 [(1, .int (b2i (false))), (0, .ref (A 0))] := hl
    refine lv_aload_n hx hb dX8_run_14 rfl (lv_at hl 1 rfl) ?_
    refine g_get (v := .int (nI ((itR (f 4) ln (f 8)).2.1))) hx hb hts hown hK hP 0 rfl rfl gu_wsX80 18 (by decide) gm_45_17 rfl dX8_run_15 ?_
    refine g_put (ws' := mw cA A (upd (upd (upd (x) 8 (nI ((itR (f 4) ln (f 8)).2.1))) 10 (nI ((itR (f 4) ln (f 8)).2.1))) 11 (nI ((itR (f 4) ln (f 8)).2.2.1))) (va_up (f) 8 ((itR (f 4) ln (f 8)).2.2.2))) hx hb hts hown hK hP hD hS 0 rfl rfl gu_wsX80 tyX8_ok nmX8 13 (by decide) gm_5_19 rfl rfl rfl (Nat.le_of_ble_eq_true rfl) rfl dX8_run_18 (fun H locs hP hD hS => ?_)
    refine lv_aload_n hx hb dX8_run_21 rfl (lv_at hl 1 rfl) ?_
    refine lv_iconst (v := nI (0)) hx hb dX8_run_22 gc_0 ?_
    refine g_put (ws' := mw cA A (upd (upd (upd (upd (x) 7 (nI (0))) 8 (nI ((itR (f 4) ln (f 8)).2.1))) 10 (nI ((itR (f 4) ln (f 8)).2.1))) 11 (nI ((itR (f 4) ln (f 8)).2.2.1))) (va_up (f) 8 ((itR (f 4) ln (f 8)).2.2.2))) hx hb hts hown hK hP hD hS 0 rfl rfl gu_wsX80 tyX8_ok nmX8 12 (by decide) gm_39_10 rfl rfl rfl (Nat.le_of_ble_eq_true rfl) rfl dX8_run_23 (fun H locs hP hD hS => ?_)
    refine lv_aload_n hx hb dX8_run_26 rfl (lv_at hl 1 rfl) ?_
    refine lv_iload_n hx hb dX8_run_27 rfl (lv_at hl 0 rfl) ?_
    refine g_if_eq (P := false = false) (tgt := 35) hx hb dX8_run_28 (by decide) b2i_0 (fun c_2 => ?_) (fun c_2 => ?_)
    · refine lv_iconst (v := nI (1)) hx hb dX8_run_35 gc_1 ?_
      refine wr_calli (va_runV (As := [.int (nI (1))]) (rest := []) ⟨hx, hb, hml, hown, hts⟩ (c_X8_fails l D cA A (upd (upd (upd (upd (x) 7 (nI (0))) 8 (nI ((itR (f 4) ln (f 8)).2.1))) 10 (nI ((itR (f 4) ln (f 8)).2.1))) 11 (nI ((itR (f 4) ln (f 8)).2.2.1))) (va_up (f) 8 ((itR (f 4) ln (f 8)).2.2.2)) (1)  hA (by decide)) (cwV 1 hts (gWV gm_8_23 gm_9_0 gm_9_1 gm_1_5 gm_9_2) rfl rfl rfl (by decide +kernel) ⟨Nat.le_of_ble_eq_true rfl, Nat.le_of_ble_eq_true rfl⟩) (gPreV hK (g_rf hK hP (ci := 10) (q0 := 0) rfl rfl) hP) rfl rfl hl.1 rfl (lv_room (Nat.le_of_ble_eq_true rfl)) dX8_run_36 ⟨by omega, by omega⟩) hS (fun q _ h => h) (fun q h => h) (fun r H locs hw9 hz9 hk9 hS => ?_)
      obtain ⟨rfl, hP⟩ := hw9
      have hP : va_P D vwCl (mw cA A (upd (upd (upd (upd (upd (upd (x) 3 (nI (0))) 4 (nI (1))) 7 (nI (0))) 8 (nI ((itR (f 4) ln (f 8)).2.1))) 10 (nI ((itR (f 4) ln (f 8)).2.1))) 11 (nI ((itR (f 4) ln (f 8)).2.2.1))) (va_up (f) 8 ((itR (f 4) ln (f 8)).2.2.2))) H := hP
      have hD : va_D (MA A) (mw cA A (upd (upd (upd (upd (upd (upd (x) 3 (nI (0))) 4 (nI (1))) 7 (nI (0))) 8 (nI ((itR (f 4) ln (f 8)).2.1))) 10 (nI ((itR (f 4) ln (f 8)).2.1))) 11 (nI ((itR (f 4) ln (f 8)).2.2.1))) (va_up (f) 8 ((itR (f 4) ln (f 8)).2.2.2))) := mD hA
      refine g_if_eq (P := true = false) (tgt := 44) hx hb dX8_run_39 (by decide) b2i_0 (fun c_3 => ?_) (fun c_3 => ?_)
      · exact absurd c_3 (by decide)
      · have c_3 : true = true := eq_true_of_ne_false c_3
        refine lv_iconst (v := nI (0)) hx hb dX8_run_42 gc_0 ?_
        exact g_iretW (v := nI (0)) hx hb hr hlk hS dX8_run_43 (by rw [rnM, if_neg (bnt c_1)]; exact ⟨rfl, hP⟩)
    · exact absurd c_2 (by decide)
  · have c_1 : (itR (f 4) ln (f 8)).1 = true := eq_true_of_ne_false c_1
    rw [c_1] at hl
    have hl : lv_has ls 4 [(1, .int (b2i (true))), (0, .ref (A 0))] := hl
    refine lv_iconst (v := -1) hx hb dX8_run_10 gc_m1 ?_
    refine lv_goto (tgt := 18) hx hb dX8_run_11 (by decide) ?_
    refine g_put (ws' := mw cA A (upd (upd (upd (x) 8 (-1)) 10 (nI ((itR (f 4) ln (f 8)).2.1))) 11 (nI ((itR (f 4) ln (f 8)).2.2.1))) (va_up (f) 8 ((itR (f 4) ln (f 8)).2.2.2))) hx hb hts hown hK hP hD hS 0 rfl rfl gu_wsX80 tyX8_ok nmX8 13 (by decide) gm_5_19 rfl rfl rfl (Nat.le_of_ble_eq_true rfl) rfl dX8_run_18 (fun H locs hP hD hS => ?_)
    refine lv_aload_n hx hb dX8_run_21 rfl (lv_at hl 1 rfl) ?_
    refine lv_iconst (v := nI (0)) hx hb dX8_run_22 gc_0 ?_
    refine g_put (ws' := mw cA A (upd (upd (upd (upd (x) 7 (nI (0))) 8 (-1)) 10 (nI ((itR (f 4) ln (f 8)).2.1))) 11 (nI ((itR (f 4) ln (f 8)).2.2.1))) (va_up (f) 8 ((itR (f 4) ln (f 8)).2.2.2))) hx hb hts hown hK hP hD hS 0 rfl rfl gu_wsX80 tyX8_ok nmX8 12 (by decide) gm_39_10 rfl rfl rfl (Nat.le_of_ble_eq_true rfl) rfl dX8_run_23 (fun H locs hP hD hS => ?_)
    refine lv_aload_n hx hb dX8_run_26 rfl (lv_at hl 1 rfl) ?_
    refine lv_iload_n hx hb dX8_run_27 rfl (lv_at hl 0 rfl) ?_
    refine g_if_eq (P := true = false) (tgt := 35) hx hb dX8_run_28 (by decide) b2i_0 (fun c_4 => ?_) (fun c_4 => ?_)
    · exact absurd c_4 (by decide)
    · have c_4 : true = true := eq_true_of_ne_false c_4
      refine lv_iconst (v := nI (0)) hx hb dX8_run_31 gc_0 ?_
      refine lv_goto (tgt := 36) hx hb dX8_run_32 (by decide) ?_
      refine wr_calli (va_runV (As := [.int (nI (0))]) (rest := []) ⟨hx, hb, hml, hown, hts⟩ (c_X8_fails l D cA A (upd (upd (upd (upd (x) 7 (nI (0))) 8 (-1)) 10 (nI ((itR (f 4) ln (f 8)).2.1))) 11 (nI ((itR (f 4) ln (f 8)).2.2.1))) (va_up (f) 8 ((itR (f 4) ln (f 8)).2.2.2)) (0)  hA (by decide)) (cwV 1 hts (gWV gm_8_23 gm_9_0 gm_9_1 gm_1_5 gm_9_2) rfl rfl rfl (by decide +kernel) ⟨Nat.le_of_ble_eq_true rfl, Nat.le_of_ble_eq_true rfl⟩) (gPreV hK (g_rf hK hP (ci := 10) (q0 := 0) rfl rfl) hP) rfl rfl hl.1 rfl (lv_room (Nat.le_of_ble_eq_true rfl)) dX8_run_36 ⟨by omega, by omega⟩) hS (fun q _ h => h) (fun q h => h) (fun r H locs hw9 hz9 hk9 hS => ?_)
      obtain ⟨rfl, hP⟩ := hw9
      have hP : va_P D vwCl (mw cA A (upd (upd (upd (upd (upd (upd (x) 3 (nI (0))) 4 (nI (0))) 7 (nI (0))) 8 (-1)) 10 (nI ((itR (f 4) ln (f 8)).2.1))) 11 (nI ((itR (f 4) ln (f 8)).2.2.1))) (va_up (f) 8 ((itR (f 4) ln (f 8)).2.2.2))) H := hP
      have hD : va_D (MA A) (mw cA A (upd (upd (upd (upd (upd (upd (x) 3 (nI (0))) 4 (nI (0))) 7 (nI (0))) 8 (-1)) 10 (nI ((itR (f 4) ln (f 8)).2.1))) 11 (nI ((itR (f 4) ln (f 8)).2.2.1))) (va_up (f) 8 ((itR (f 4) ln (f 8)).2.2.2))) := mD hA
      refine g_if_eq (P := false = false) (tgt := 44) hx hb dX8_run_39 (by decide) b2i_0 (fun c_5 => ?_) (fun c_5 => ?_)
      · refine lv_aload_n hx hb dX8_run_44 rfl (lv_at hl 1 rfl) ?_
        refine g_get (v := .ref (A 1)) hx hb hts hown hK hP 0 rfl rfl gu_wsX80 0 (by decide) gm_5_14 rfl dX8_run_45 ?_
        refine lv_iconst (v := nI (0)) hx hb dX8_run_48 gc_0 ?_
        refine lv_aload_n hx hb dX8_run_49 rfl (lv_at hl 1 rfl) ?_
        refine g_get (v := .ref (A 4)) hx hb hts hown hK hP 0 rfl rfl gu_wsX80 3 (by decide) gm_5_17 rfl dX8_run_50 ?_
        refine lv_iconst (v := nI (0)) hx hb dX8_run_53 gc_0 ?_
        refine wr_callv (va_runS (As := [.ref (A 1), .int (nI (0)), .ref (A 4), .int (nI (0))]) (rest := []) ⟨hx, hb, hml, hown, hts⟩ (c_X8_copies_03 l D cA A (upd (upd (upd (upd (upd (upd (x) 3 (nI (0))) 4 (nI (0))) 7 (nI (0))) 8 (-1)) 10 (nI ((itR (f 4) ln (f 8)).2.1))) 11 (nI ((itR (f 4) ln (f 8)).2.2.1))) (va_up (f) 8 ((itR (f 4) ln (f 8)).2.2.2)) (0) (0) hA (by omega) (by omega)) (cwS 4 hts (gWS gm_9_17 gm_9_18 gm_1_5 gm_9_19) rfl rfl rfl (by decide +kernel) ⟨Nat.le_of_ble_eq_true rfl, Nat.le_of_ble_eq_true rfl⟩) (gPreS hK hP) rfl rfl hl.1 rfl (lv_room (Nat.le_of_ble_eq_true rfl)) dX8_run_54 ⟨by omega, by omega⟩) hS (fun q _ h => h) (fun q h => h) (fun H locs hP hz9 hk9 hS => ?_)
        have hP : va_P D vwCl (mw cA A (upd (upd (upd (upd (upd (upd (x) 3 (nI (0))) 4 (nI (0))) 7 (nI (0))) 8 (-1)) 10 (nI ((itR (f 4) ln (f 8)).2.1))) 11 (nI ((itR (f 4) ln (f 8)).2.2.1))) (va_up (va_up (f) 3 (fb_put (f 3) (fun k => f 0 ((0) + k)) (0) 124)) 8 ((itR (f 4) ln (f 8)).2.2.2))) H := hP
        have hD : va_D (MA A) (mw cA A (upd (upd (upd (upd (upd (upd (x) 3 (nI (0))) 4 (nI (0))) 7 (nI (0))) 8 (-1)) 10 (nI ((itR (f 4) ln (f 8)).2.1))) 11 (nI ((itR (f 4) ln (f 8)).2.2.1))) (va_up (va_up (f) 3 (fb_put (f 3) (fun k => f 0 ((0) + k)) (0) 124)) 8 ((itR (f 4) ln (f 8)).2.2.2))) := mD hA
        refine lv_aload_n hx hb dX8_run_57 rfl (lv_at hl 1 rfl) ?_
        refine lv_iconst (v := nI (1)) hx hb dX8_run_58 gc_1 ?_
        refine g_put (ws' := mw cA A (upd (upd (upd (upd (upd (upd (upd (x) 2 (nI (1))) 3 (nI (0))) 4 (nI (0))) 7 (nI (0))) 8 (-1)) 10 (nI ((itR (f 4) ln (f 8)).2.1))) 11 (nI ((itR (f 4) ln (f 8)).2.2.1))) (va_up (va_up (f) 3 (fb_put (f 3) (fun k => f 0 ((0) + k)) (0) 124)) 8 ((itR (f 4) ln (f 8)).2.2.2))) hx hb hts hown hK hP hD hS 0 rfl rfl gu_wsX80 tyX8_ok nmX8 6 (by decide) gm_9_15 rfl rfl rfl (Nat.le_of_ble_eq_true rfl) rfl dX8_run_59 (fun H locs hP hD hS => ?_)
        refine lv_iconst (v := nI (0)) hx hb dX8_run_62 gc_0 ?_
        refine lv_istore_n (lv' := [(2, .int (nI (0))), (1, .int (b2i (true))), (0, .ref (A 0))]) hx hb dX8_run_63 rfl hl (by decide) rfl (fun ls hl => ?_)
        refine lv_iconst (v := nI (0)) hx hb dX8_run_64 gc_0 ?_
        refine lv_istore_n (lv' := [(3, .int (nI (0))), (2, .int (nI (0))), (1, .int (b2i (true))), (0, .ref (A 0))]) hx hb dX8_run_65 rfl hl (by decide) rfl (fun ls hl => ?_)
        have hP : va_P D vwCl (mw cA A ((rn0 x f ln).1) ((rn0 x f ln).2)) H := hP
        have LP : ∀ (n9 k9 : Nat) (H : Heap) (locs : List Loc), k9 ≤ (itR (f 4) ln (f 8)).2.2.1 → (itR (f 4) ln (f 8)).2.2.1 + 1 ≤ k9 + n9 → (crY (rn0 x f ln) k9).2.1 4 = 0 → va_P D vwCl (mw cA A ((crY (rn0 x f ln) k9).2.1) ((crY (rn0 x f ln) k9).2.2)) H → va_S (MA A) s.heap H locs → ∀ (ls : Array Slot), lv_has ls 4 [(3, .int (crY (rn0 x f ln) k9).1), (2, .int (nI k9)), (0, .ref (A 0))] → W p l e ({ frames := 7, cells := 0, slots := 0, locals := 184 } : Room) s m ([.ref (A 0)] : List Value).toArray below meth c H locs 0 0 (MQ below (wrI (fun r H => r = (rnM x f ln).1 ∧ va_P D vwCl (mw cA A ((rnM x f ln).2.1) ((rnM x f ln).2.2)) H) (MA A)) ([.ref (A 0)] : List Value).toArray s 0 0 (MA A)) (F0 m 66 ls []) := by
          intro n9
          induction n9 with
          | zero => intro k9 H locs h1 h2; exact absurd h2 (by omega)
          | succ n9 ih =>
            intro k9 H locs hk1 hk2 hv hP hS ls hl
            have hD : va_D (MA A) (mw cA A ((crY (rn0 x f ln) k9).2.1) ((crY (rn0 x f ln) k9).2.2)) := mD hA
            obtain ⟨hj, hjn, hc, hcn, hclk, hc4, hton, ht99, hw, hch, hc8, hlow⟩ := hok k9 hk1 hv
            refine lv_iload_n hx hb dX8_run_66 rfl (lv_at hl 1 rfl) ?_
            refine lv_aload_n hx hb dX8_run_67 rfl (lv_at hl 2 rfl) ?_
            refine g_get (v := .int (((crY (rn0 x f ln) k9).2.1) 11)) hx hb hts hown hK hP 0 rfl rfl gu_wsX80 20 (by decide) gm_45_18 rfl dX8_run_68 ?_
            refine g_top (htm k9 (by omega)) ?_
            refine g_icmp_ge (P := (itR (f 4) ln (f 8)).2.2.1 ≤ k9) (tgt := 102) hx hb dX8_run_71 (by decide) (nI_leI (by omega) (by omega)) (fun c_6 => ?_) (fun c_6 => ?_)
            · have d_6 : ¬ k9 < (itR (f 4) ln (f 8)).2.2.1 := Nat.not_lt.mpr c_6
              have hkt : k9 = (itR (f 4) ln (f 8)).2.2.1 := by omega
              refine lv_aload_n hx hb dX8_run_102 rfl (lv_at hl 2 rfl) ?_
              refine lv_iconst (v := nI (0)) hx hb dX8_run_103 gc_0 ?_
              refine g_put (ws' := mw cA A (upd ((crY (rn0 x f ln) k9).2.1) 2 (nI (0))) ((crY (rn0 x f ln) k9).2.2)) hx hb hts hown hK hP hD hS 0 rfl rfl gu_wsX80 tyX8_ok nmX8 6 (by decide) gm_9_15 rfl rfl rfl (Nat.le_of_ble_eq_true rfl) rfl dX8_run_104 (fun H locs hP hD hS => ?_)
              refine lv_aload_n hx hb dX8_run_107 rfl (lv_at hl 2 rfl) ?_
              refine g_get (v := .int (((crY (rn0 x f ln) k9).2.1) 4)) hx hb hts hown hK hP 0 rfl rfl gu_wsX80 8 (by decide) gm_9_3 rfl dX8_run_108 ?_
              refine g_if_le (P := ((crY (rn0 x f ln) k9).2.1) 4 ≤ 0) (tgt := 153) hx hb dX8_run_111 (by decide) Iff.rfl (fun c_7 => ?_) (fun c_7 => ?_)
              · have d_7 : ¬ 0 < ((crY (rn0 x f ln) k9).2.1) 4 := Int32.not_lt.mpr c_7
                refine lv_aload_n hx hb dX8_run_153 rfl (lv_at hl 2 rfl) ?_
                refine lv_aload_n hx hb dX8_run_154 rfl (lv_at hl 2 rfl) ?_
                refine g_get (v := .ref (A 4)) hx hb hts hown hK hP 0 rfl rfl gu_wsX80 3 (by decide) gm_5_17 rfl dX8_run_155 ?_
                refine wr_callv (va_runV (As := [.ref (A 4)]) (rest := []) ⟨hx, hb, hml, hown, hts⟩ (c_X8_keeps_3 l D cA A (upd ((crY (rn0 x f ln) k9).2.1) 2 (nI (0))) ((crY (rn0 x f ln) k9).2.2) false (mh9 (crY (rn0 x f ln) k9).2) hA ((pk_us).trans (by decide +kernel)) ((pk_un (by decide)).trans hch) hc8) (cwV 1 hts (gWV gm_9_11 gm_9_12 gm_9_13 gm_1_5 gm_9_14) rfl rfl rfl (by decide +kernel) ⟨Nat.le_of_ble_eq_true rfl, Nat.le_of_ble_eq_true rfl⟩) (gPreV hK (g_rf hK hP (ci := 10) (q0 := 0) rfl rfl) hP) rfl rfl hl.1 rfl (lv_room (Nat.le_of_ble_eq_true rfl)) dX8_run_158 ⟨by omega, by omega⟩) hS (fun q _ h => h) (fun q h => h) (fun H locs hP hz9 hk9 hS => ?_)
                have hP : va_P D vwCl (mw cA A (upd (upd (upd ((crY (rn0 x f ln) k9).2.1) 1 (nI (kpC false (mh9 (crY (rn0 x f ln) k9).2)))) 2 (nI (0))) 4 (nI (0))) (va_up ((crY (rn0 x f ln) k9).2.2) 1 (kpK false (((crY (rn0 x f ln) k9).2.2) 3) (((crY (rn0 x f ln) k9).2.2) 1) (mh9 (crY (rn0 x f ln) k9).2)))) H := hP
                have hD : va_D (MA A) (mw cA A (upd (upd (upd ((crY (rn0 x f ln) k9).2.1) 1 (nI (kpC false (mh9 (crY (rn0 x f ln) k9).2)))) 2 (nI (0))) 4 (nI (0))) (va_up ((crY (rn0 x f ln) k9).2.2) 1 (kpK false (((crY (rn0 x f ln) k9).2.2) 3) (((crY (rn0 x f ln) k9).2.2) 1) (mh9 (crY (rn0 x f ln) k9).2)))) := mD hA
                refine lv_aload_n hx hb dX8_run_161 rfl (lv_at hl 2 rfl) ?_
                refine g_get (v := .int (((crY (rn0 x f ln) k9).2.1) 11)) hx hb hts hown hK hP 0 rfl rfl gu_wsX80 20 (by decide) gm_45_18 rfl dX8_run_162 ?_
                refine g_top (htm k9 (by omega)) ?_
                exact g_iretW (v := nI ((itR (f 4) ln (f 8)).2.2.1)) hx hb hr hlk hS dX8_run_165 (by have e9 : crY (rn0 x f ln) (itR (f 4) ln (f 8)).2.2.1 = (crY (rn0 x f ln) k9) := (by rw [hkt]); rw [rnM, if_pos c_1, e9, rnE, if_pos hv]; exact ⟨rfl, hP⟩)
              · have d_7 : 0 < ((crY (rn0 x f ln) k9).2.1) 4 := Int32.not_le.mp c_7
                exact absurd (Int32.le_of_eq hv) c_7
            · have d_6 : k9 < (itR (f 4) ln (f 8)).2.2.1 := Nat.not_le.mp c_6
              refine lv_aload_n hx hb dX8_run_74 rfl (lv_at hl 2 rfl) ?_
              refine g_get (v := .int (((crY (rn0 x f ln) k9).2.1) 4)) hx hb hts hown hK hP 0 rfl rfl gu_wsX80 8 (by decide) gm_9_3 rfl dX8_run_75 ?_
              refine g_if_ne (P := ((crY (rn0 x f ln) k9).2.1) 4 = 0) (tgt := 102) hx hb dX8_run_78 (by decide) Iff.rfl (fun c_8 => ?_) (fun c_8 => ?_)
              · exact absurd hv c_8
              · obtain ⟨w9, hw9, hwe⟩ := hpar k9 (by omega) hv
                refine lv_aload_n hx hb dX8_run_81 rfl (lv_at hl 2 rfl) ?_
                refine lv_iconst (v := nI (3)) hx hb dX8_run_82 gc_3 ?_
                refine lv_iload_n hx hb dX8_run_83 rfl (lv_at hl 1 rfl) ?_
                refine g_imul hx hb dX8_run_84 ?_
                refine wr_calli (va_runV (As := [.int (nI (3 * k9))]) (rest := []) ⟨hx, hb, hml, hown, hts⟩ (c_X8_carries l D cA A (crY (rn0 x f ln) k9).2.1 (crY (rn0 x f ln) k9).2.2 (mj (crY (rn0 x f ln) k9).2) (mc9 (crY (rn0 x f ln) k9).2) (mk9 (crY (rn0 x f ln) k9).2) (mt9 (crY (rn0 x f ln) k9).2) true (mh9 (crY (rn0 x f ln) k9).2) (3 * k9) w9 hA hj hjn hc hcn hclk hc4 hton ht99 hw hch hc8 hlow (by omega) hwe hw9) (cwV 1 hts (gWV gm_47_5 gm_47_6 gm_47_7 gm_1_5 gm_47_8) rfl rfl rfl (by decide +kernel) ⟨Nat.le_of_ble_eq_true rfl, Nat.le_of_ble_eq_true rfl⟩) (gPreV hK (g_rf hK hP (ci := 10) (q0 := 0) rfl rfl) hP) rfl rfl hl.1 rfl (lv_room (Nat.le_of_ble_eq_true rfl)) dX8_run_85 ⟨by omega, by omega⟩) hS (fun q _ h => h) (fun q h => h) (fun r H locs hw8 hz9 hk9 hS => ?_)
                obtain ⟨rfl, hP⟩ := hw8
                have e9 : crM (crY (rn0 x f ln) k9).2.1 (crY (rn0 x f ln) k9).2.2 (mj (crY (rn0 x f ln) k9).2) (mc9 (crY (rn0 x f ln) k9).2) (mk9 (crY (rn0 x f ln) k9).2) (mt9 (crY (rn0 x f ln) k9).2) true (mh9 (crY (rn0 x f ln) k9).2) (3 * k9) w9 = (crY (rn0 x f ln) (k9 + 1)) := (crY_1 hv hwe hw9).symm
                rw [e9] at hP ⊢
                have hP : va_P D vwCl (mw cA A ((crY (rn0 x f ln) (k9 + 1)).2.1) ((crY (rn0 x f ln) (k9 + 1)).2.2)) H := hP
                have hD : va_D (MA A) (mw cA A ((crY (rn0 x f ln) (k9 + 1)).2.1) ((crY (rn0 x f ln) (k9 + 1)).2.2)) := mD hA
                refine lv_istore_n (lv' := [(3, .int ((crY (rn0 x f ln) (k9 + 1)).1)), (2, .int (nI (k9))), (0, .ref (A 0))]) hx hb dX8_run_88 rfl hl (by decide) rfl (fun ls hl => ?_)
                refine lv_aload_n hx hb dX8_run_89 rfl (lv_at hl 2 rfl) ?_
                refine g_get (v := .int (((crY (rn0 x f ln) (k9 + 1)).2.1) 4)) hx hb hts hown hK hP 0 rfl rfl gu_wsX80 8 (by decide) gm_9_3 rfl dX8_run_90 ?_
                refine g_if_ne (P := ((crY (rn0 x f ln) (k9 + 1)).2.1) 4 = 0) (tgt := 66) hx hb dX8_run_93 (by decide) Iff.rfl (fun c_9 => ?_) (fun c_9 => ?_)
                · refine lv_iload_n hx hb dX8_run_66 rfl (lv_at hl 1 rfl) ?_
                  refine lv_aload_n hx hb dX8_run_67 rfl (lv_at hl 2 rfl) ?_
                  refine g_get (v := .int (((crY (rn0 x f ln) (k9 + 1)).2.1) 11)) hx hb hts hown hK hP 0 rfl rfl gu_wsX80 20 (by decide) gm_45_18 rfl dX8_run_68 ?_
                  refine g_top (htm (k9 + 1) (by omega)) ?_
                  refine g_icmp_ge (P := (itR (f 4) ln (f 8)).2.2.1 ≤ k9) (tgt := 102) hx hb dX8_run_71 (by decide) (nI_leI (by omega) (by omega)) (fun c_10 => ?_) (fun c_10 => ?_)
                  · have d_10 : ¬ k9 < (itR (f 4) ln (f 8)).2.2.1 := Nat.not_lt.mpr c_10
                    exact absurd c_10 (by omega)
                  · have d_10 : k9 < (itR (f 4) ln (f 8)).2.2.1 := Nat.not_le.mp c_10
                    refine lv_aload_n hx hb dX8_run_74 rfl (lv_at hl 2 rfl) ?_
                    refine g_get (v := .int (((crY (rn0 x f ln) (k9 + 1)).2.1) 4)) hx hb hts hown hK hP 0 rfl rfl gu_wsX80 8 (by decide) gm_9_3 rfl dX8_run_75 ?_
                    refine g_if_ne (P := ((crY (rn0 x f ln) (k9 + 1)).2.1) 4 = 0) (tgt := 102) hx hb dX8_run_78 (by decide) Iff.rfl (fun c_11 => ?_) (fun c_11 => ?_)
                    · refine lv_aload_n hx hb dX8_run_102 rfl (lv_at hl 2 rfl) ?_
                      refine lv_iconst (v := nI (0)) hx hb dX8_run_103 gc_0 ?_
                      refine g_put (ws' := mw cA A (upd ((crY (rn0 x f ln) (k9 + 1)).2.1) 2 (nI (0))) ((crY (rn0 x f ln) (k9 + 1)).2.2)) hx hb hts hown hK hP hD hS 0 rfl rfl gu_wsX80 tyX8_ok nmX8 6 (by decide) gm_9_15 rfl rfl rfl (Nat.le_of_ble_eq_true rfl) rfl dX8_run_104 (fun H locs hP hD hS => ?_)
                      refine lv_aload_n hx hb dX8_run_107 rfl (lv_at hl 2 rfl) ?_
                      refine g_get (v := .int (((crY (rn0 x f ln) (k9 + 1)).2.1) 4)) hx hb hts hown hK hP 0 rfl rfl gu_wsX80 8 (by decide) gm_9_3 rfl dX8_run_108 ?_
                      refine g_if_le (P := ((crY (rn0 x f ln) (k9 + 1)).2.1) 4 ≤ 0) (tgt := 153) hx hb dX8_run_111 (by decide) Iff.rfl (fun c_12 => ?_) (fun c_12 => ?_)
                      · have d_12 : ¬ 0 < ((crY (rn0 x f ln) (k9 + 1)).2.1) 4 := Int32.not_lt.mpr c_12
                        exact absurd (hcd (k9 + 1) (by omega) c_12) c_9
                      · have d_12 : 0 < ((crY (rn0 x f ln) (k9 + 1)).2.1) 4 := Int32.not_le.mp c_12
                        refine lv_aload_n hx hb dX8_run_114 rfl (lv_at hl 2 rfl) ?_
                        refine g_get (v := .ref (A 4)) hx hb hts hown hK hP 0 rfl rfl gu_wsX80 3 (by decide) gm_5_17 rfl dX8_run_115 ?_
                        refine lv_iconst (v := nI (0)) hx hb dX8_run_118 gc_0 ?_
                        refine lv_aload_n hx hb dX8_run_119 rfl (lv_at hl 2 rfl) ?_
                        refine g_get (v := .ref (A 1)) hx hb hts hown hK hP 0 rfl rfl gu_wsX80 0 (by decide) gm_5_14 rfl dX8_run_120 ?_
                        refine lv_iconst (v := nI (0)) hx hb dX8_run_123 gc_0 ?_
                        refine wr_callv (va_runS (As := [.ref (A 4), .int (nI (0)), .ref (A 1), .int (nI (0))]) (rest := []) ⟨hx, hb, hml, hown, hts⟩ (c_X8_copies_30 l D cA A (upd ((crY (rn0 x f ln) (k9 + 1)).2.1) 2 (nI (0))) ((crY (rn0 x f ln) (k9 + 1)).2.2) (0) (0) hA (by omega) (by omega)) (cwS 4 hts (gWS gm_9_17 gm_9_18 gm_1_5 gm_9_19) rfl rfl rfl (by decide +kernel) ⟨Nat.le_of_ble_eq_true rfl, Nat.le_of_ble_eq_true rfl⟩) (gPreS hK hP) rfl rfl hl.1 rfl (lv_room (Nat.le_of_ble_eq_true rfl)) dX8_run_124 ⟨by omega, by omega⟩) hS (fun q _ h => h) (fun q h => h) (fun H locs hP hz9 hk9 hS => ?_)
                        have hP : va_P D vwCl (mw cA A (upd ((crY (rn0 x f ln) (k9 + 1)).2.1) 2 (nI (0))) (va_up ((crY (rn0 x f ln) (k9 + 1)).2.2) 0 (fb_put (((crY (rn0 x f ln) (k9 + 1)).2.2) 0) (fun k => ((crY (rn0 x f ln) (k9 + 1)).2.2) 3 ((0) + k)) (0) 124))) H := hP
                        have hD : va_D (MA A) (mw cA A (upd ((crY (rn0 x f ln) (k9 + 1)).2.1) 2 (nI (0))) (va_up ((crY (rn0 x f ln) (k9 + 1)).2.2) 0 (fb_put (((crY (rn0 x f ln) (k9 + 1)).2.2) 0) (fun k => ((crY (rn0 x f ln) (k9 + 1)).2.2) 3 ((0) + k)) (0) 124))) := mD hA
                        refine lv_aload_n hx hb dX8_run_127 rfl (lv_at hl 2 rfl) ?_
                        refine lv_aload_n hx hb dX8_run_128 rfl (lv_at hl 2 rfl) ?_
                        refine g_get (v := .int (((crY (rn0 x f ln) (k9 + 1)).2.1) 3)) hx hb hts hown hK hP 0 rfl rfl gu_wsX80 7 (by decide) gm_9_4 rfl dX8_run_129 ?_
                        refine g_if_eq (P := ((crY (rn0 x f ln) (k9 + 1)).2.1) 3 = 0) (tgt := 139) hx hb dX8_run_132 (by decide) Iff.rfl (fun c_13 => ?_) (fun c_13 => ?_)
                        · refine lv_iconst (v := nI (1)) hx hb dX8_run_139 gc_1 ?_
                          refine g_put (ws' := mw cA A (upd (upd ((crY (rn0 x f ln) (k9 + 1)).2.1) 2 (nI (0))) 4 (nI (1))) (va_up ((crY (rn0 x f ln) (k9 + 1)).2.2) 0 (fb_put (((crY (rn0 x f ln) (k9 + 1)).2.2) 0) (fun k => ((crY (rn0 x f ln) (k9 + 1)).2.2) 3 ((0) + k)) (0) 124))) hx hb hts hown hK hP hD hS 0 rfl rfl gu_wsX80 tyX8_ok nmX8 8 (by decide) gm_9_3 rfl rfl rfl (Nat.le_of_ble_eq_true rfl) rfl dX8_run_140 (fun H locs hP hD hS => ?_)
                          refine lv_iload_n hx hb dX8_run_143 rfl (lv_at hl 0 rfl) ?_
                          refine g_if_le (P := (crY (rn0 x f ln) (k9 + 1)).1 ≤ 0) (tgt := 151) hx hb dX8_run_144 (by decide) Iff.rfl (fun c_14 => ?_) (fun c_14 => ?_)
                          · have d_14 : ¬ 0 < (crY (rn0 x f ln) (k9 + 1)).1 := Int32.not_lt.mpr c_14
                            refine lv_iload_n hx hb dX8_run_151 rfl (lv_at hl 0 rfl) ?_
                            exact g_iretW (v := (crY (rn0 x f ln) (k9 + 1)).1) hx hb hr hlk hS dX8_run_152 (by have e9 : crY (rn0 x f ln) (itR (f 4) ln (f 8)).2.2.1 = (crY (rn0 x f ln) (k9 + 1)) := crY_stop c_9 _ (by omega); rw [rnM, if_pos c_1, e9, rnE, if_neg c_9, if_pos c_14, if_pos c_13]; exact ⟨rfl, hP⟩)
                          · have d_14 : 0 < (crY (rn0 x f ln) (k9 + 1)).1 := Int32.not_le.mp c_14
                            refine lv_iconst (v := nI (0)) hx hb dX8_run_147 gc_0 ?_
                            refine lv_goto (tgt := 152) hx hb dX8_run_148 (by decide) ?_
                            exact g_iretW (v := nI (0)) hx hb hr hlk hS dX8_run_152 (by have e9 : crY (rn0 x f ln) (itR (f 4) ln (f 8)).2.2.1 = (crY (rn0 x f ln) (k9 + 1)) := crY_stop c_9 _ (by omega); rw [rnM, if_pos c_1, e9, rnE, if_neg c_9, if_neg c_14, if_pos c_13]; exact ⟨rfl, hP⟩)
                        · refine lv_iconst (v := nI (2)) hx hb dX8_run_135 gc_2 ?_
                          refine lv_goto (tgt := 140) hx hb dX8_run_136 (by decide) ?_
                          refine g_put (ws' := mw cA A (upd (upd ((crY (rn0 x f ln) (k9 + 1)).2.1) 2 (nI (0))) 4 (nI (2))) (va_up ((crY (rn0 x f ln) (k9 + 1)).2.2) 0 (fb_put (((crY (rn0 x f ln) (k9 + 1)).2.2) 0) (fun k => ((crY (rn0 x f ln) (k9 + 1)).2.2) 3 ((0) + k)) (0) 124))) hx hb hts hown hK hP hD hS 0 rfl rfl gu_wsX80 tyX8_ok nmX8 8 (by decide) gm_9_3 rfl rfl rfl (Nat.le_of_ble_eq_true rfl) rfl dX8_run_140 (fun H locs hP hD hS => ?_)
                          refine lv_iload_n hx hb dX8_run_143 rfl (lv_at hl 0 rfl) ?_
                          refine g_if_le (P := (crY (rn0 x f ln) (k9 + 1)).1 ≤ 0) (tgt := 151) hx hb dX8_run_144 (by decide) Iff.rfl (fun c_15 => ?_) (fun c_15 => ?_)
                          · have d_15 : ¬ 0 < (crY (rn0 x f ln) (k9 + 1)).1 := Int32.not_lt.mpr c_15
                            refine lv_iload_n hx hb dX8_run_151 rfl (lv_at hl 0 rfl) ?_
                            exact g_iretW (v := (crY (rn0 x f ln) (k9 + 1)).1) hx hb hr hlk hS dX8_run_152 (by have e9 : crY (rn0 x f ln) (itR (f 4) ln (f 8)).2.2.1 = (crY (rn0 x f ln) (k9 + 1)) := crY_stop c_9 _ (by omega); rw [rnM, if_pos c_1, e9, rnE, if_neg c_9, if_pos c_15, if_neg c_13]; exact ⟨rfl, hP⟩)
                          · have d_15 : 0 < (crY (rn0 x f ln) (k9 + 1)).1 := Int32.not_le.mp c_15
                            refine lv_iconst (v := nI (0)) hx hb dX8_run_147 gc_0 ?_
                            refine lv_goto (tgt := 152) hx hb dX8_run_148 (by decide) ?_
                            exact g_iretW (v := nI (0)) hx hb hr hlk hS dX8_run_152 (by have e9 : crY (rn0 x f ln) (itR (f 4) ln (f 8)).2.2.1 = (crY (rn0 x f ln) (k9 + 1)) := crY_stop c_9 _ (by omega); rw [rnM, if_pos c_1, e9, rnE, if_neg c_9, if_neg c_15, if_neg c_13]; exact ⟨rfl, hP⟩)
                    · exact absurd c_11 c_9
                · refine lv_iinc (v := nI (k9 + 1)) (lv' := [(2, .int (nI (k9 + 1))), (3, .int ((crY (rn0 x f ln) (k9 + 1)).1)), (0, .ref (A 0))]) hx hb dX8_run_96 hl (k := 1) rfl (inc_1 _) (by decide) rfl (fun ls hl => ?_)
                  refine lv_goto (tgt := 66) hx hb dX8_run_99 (by decide) ?_
                  exact ih (k9 + 1) H locs (by omega) (by omega) c_9 hP hS ls (lv_sub hl [1, 0, 2] rfl)
        exact LP ((itR (f 4) ln (f 8)).2.2.1 + 1) 0 H locs (by omega) (by omega) (by rw [crY_0]; rfl) (by rw [crY_0]; exact hP) hS ls (by rw [crY_0]; exact lv_sub hl [0, 1, 3] rfl)
      · exact absurd c_5 (by decide)

