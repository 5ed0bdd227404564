def hrM (inp : Nat → Int32) (ln q : Nat) : Int32 := if q < ln then inp q else -1
def dgM (inp : Nat → Int32) (ln q : Nat) : Bool := inB (hrM inp ln q) (nI 48) (nI 57)
theorem m1_dg : inB (-1) (nI 48) (nI 57) = false := by decide +kernel
theorem dgM_lt {inp : Nat → Int32} {ln q : Nat} (h : dgM inp ln q = true) : q < ln := by
  rcases Nat.lt_or_ge q ln with z | z
  · exact z
  · rw [dgM, hrM, if_neg (by omega), m1_dg] at h; cases h
def skO (inp : Nat → Int32) (ln q c : Nat) : Bool × Nat := if hrM inp ln q = nI c then (true, q + 1) else (false, q)
theorem nI_nm1 {c : Nat} (h : c < 2 ^ 31) : ¬ (-1 : Int32) = nI c := fun e => by
  have h1 : (nI c).toInt = (c : Int) := nI_toInt h
  have h2 : (-1 : Int32).toInt = -1 := by decide +kernel
  rw [← e] at h1
  omega
theorem skO_le {inp : Nat → Int32} {ln q c : Nat} (hc : c < 65536) (h : q ≤ ln) : (skO inp ln q c).2 ≤ ln := by
  unfold skO
  split
  · rename_i e
    rcases Nat.lt_or_ge q ln with z | z
    · exact z
    · rw [hrM, if_neg (by omega)] at e; exact absurd e (nI_nm1 (by omega))
  · exact h
def fgV (inp : Nat → Int32) (ln q : Nat) : Nat → Int32
  | 0 => nI 0
  | k + 1 => (nI 10 * fgV inp ln q k + hrM inp ln (q + k)) - nI 48
def fgN (inp : Nat → Int32) (ln q mo : Nat) : Nat := (fnd (fun k => !dgM inp ln (q + k)) mo).getD mo
theorem fnd_all {p : Nat → Bool} : ∀ {n : Nat}, fnd p n = none → ∀ i, i < n → p i = false := fun h i hi => fnd_some.fnd_no h i hi
theorem fgN_le {inp : Nat → Int32} {ln q mo : Nat} (h : q ≤ ln) : q + fgN inp ln q mo ≤ ln ∨ fgN inp ln q mo = 0 := by
  unfold fgN
  have key : ∀ n : Nat, 0 < n → (∀ i, i < n → (!dgM inp ln (q + i)) = false) → q + n ≤ ln := fun n hn hh => by
    have := hh (n - 1) (by omega)
    have h2 : dgM inp ln (q + (n - 1)) = true := by simpa using this
    have := dgM_lt h2
    omega
  cases e : fnd (fun k => !dgM inp ln (q + k)) mo with
  | none =>
    rcases Nat.eq_zero_or_pos mo with z | z
    · right; exact z
    · left; exact key mo z (fnd_all e)
  | some k =>
    rcases Nat.eq_zero_or_pos k with z | z
    · right; exact z
    · left; exact key k z (fnd_some e).2
def fgO (inp : Nat → Int32) (ln q : Nat) (td : Nat → Int32) (pl mo : Nat) : Bool × (Nat × (Nat → Int32)) := if dgM inp ln q = true then (true, (q + fgN inp ln q mo, upd td pl (fgV inp ln q (fgN inp ln q mo)))) else (false, (q, td))
theorem fgO_le {inp : Nat → Int32} {ln q : Nat} {td : Nat → Int32} {pl mo : Nat} (h : q ≤ ln) : (fgO inp ln q td pl mo).2.1 ≤ ln := by
  unfold fgO
  split
  · show q + fgN inp ln q mo ≤ ln
    rcases fgN_le (inp := inp) (mo := mo) h with z | z
    · exact z
    · omega
  · exact h
def lhO (inp : Nat → Int32) (ln q : Nat) (td : Nat → Int32) (pl : Nat) : Bool × (Nat × (Nat → Int32)) := if (fgO inp ln (skO inp ln q 45).2 td pl 1).1 = true then (true, ((fgO inp ln (skO inp ln q 45).2 td pl 1).2.1, upd (fgO inp ln (skO inp ln q 45).2 td pl 1).2.2 pl (if (skO inp ln q 45).1 = true then -((fgO inp ln (skO inp ln q 45).2 td pl 1).2.2 pl) else (fgO inp ln (skO inp ln q 45).2 td pl 1).2.2 pl))) else (false, (fgO inp ln (skO inp ln q 45).2 td pl 1).2)
theorem lhO_le {inp : Nat → Int32} {ln q : Nat} {td : Nat → Int32} {pl : Nat} (h : q ≤ ln) : (lhO inp ln q td pl).2.1 ≤ ln := by
  unfold lhO
  split
  · exact fgO_le (skO_le (by decide) h)
  · exact fgO_le (skO_le (by decide) h)
theorem upd2 {x : Nat → Int32} {k : Nat} {a b : Int32} : upd (upd x k a) k b = upd x k b := by
  funext j
  by_cases e : j = k
  · subst e; rw [pk_us, pk_us]
  · rw [pk_un e, pk_un e, pk_un e]

set_option maxHeartbeats 1000000 in
set_option maxRecDepth 100000 in
theorem c_X8_here (l : Launch) (D : va_G) (cA : Nat → ClassId) (A : Nat → Nat) (x : Nat → Int32) (f : Nat → Nat → Int32) (ln at_ : Nat) (hl7 : x 7 = nI ln) (hat : x 10 = nI at_) (hl60 : ln ≤ 60) (ha6 : at_ ≤ ln) : Met l yX8_here (gw yX8_here cX8_here 1 (some .int)) ({ frames := 0, cells := 0, slots := 0, locals := 0 } : Room) (gPc [.ref (A 0)] (fun H => va_P D vwCl (mw cA A x f) H) D cA) (rdI (fun r => r = hrM (f 4) ln at_)) 0 0 nF := by
  refine gOf (by decide) (Nat.le_of_ble_eq_true rfl) ?_
  intro p e s m below meth c ls hx hb hml hr hlk hown hts hnm hP hK hl
  have hl : lv_has ls 1 [(0, .ref (A 0))] := hl
  refine lv_aload_n hx hb dX8_here_0 rfl (lv_at hl 0 rfl) ?_
  refine g_get (v := .int (x 10)) hx hb hts hown hK hP 0 rfl rfl gu_wsX80 18 (by decide) gm_45_17 rfl dX8_here_1 ?_
  refine g_top hat ?_
  refine lv_aload_n hx hb dX8_here_4 rfl (lv_at hl 0 rfl) ?_
  refine g_get (v := .int (x 7)) hx hb hts hown hK hP 0 rfl rfl gu_wsX80 12 (by decide) gm_39_10 rfl dX8_here_5 ?_
  refine g_top hl7 ?_
  refine g_icmp_ge (P := ln ≤ at_) (tgt := 23) hx hb dX8_here_8 (by decide) (nI_leI (by omega) (by omega)) (fun c_1 => ?_) (fun c_1 => ?_)
  · have d_1 : ¬ at_ < ln := Nat.not_lt.mpr c_1
    refine lv_iconst (v := -1) hx hb dX8_here_23 gc_m1 ?_
    exact g_iret (v := -1) hx hb hr hlk dX8_here_24 (by simp [hrM, c_1, d_1])
  · have d_1 : at_ < ln := Nat.not_le.mp c_1
    refine lv_aload_n hx hb dX8_here_11 rfl (lv_at hl 0 rfl) ?_
    refine g_get (v := .ref (A 5)) hx hb hts hown hK hP 0 rfl rfl gu_wsX80 11 (by decide) gm_5_18 rfl dX8_here_12 ?_
    refine lv_aload_n hx hb dX8_here_15 rfl (lv_at hl 0 rfl) ?_
    refine g_get (v := .int (x 10)) hx hb hts hown hK hP 0 rfl rfl gu_wsX80 18 (by decide) gm_45_17 rfl dX8_here_16 ?_
    refine g_top hat ?_
    refine g_iald (x := f 4 (at_)) hx hb hK hP 5 rfl (by omega) (by decide) rfl dX8_here_19 ?_
    refine lv_goto (tgt := 24) hx hb dX8_here_20 (by decide) ?_
    exact g_iret (v := f 4 (at_)) hx hb hr hlk dX8_here_24 (by simp [hrM, c_1, d_1])

set_option maxHeartbeats 1000000 in
set_option maxRecDepth 100000 in
theorem c_X8_skips (l : Launch) (D : va_G) (cA : Nat → ClassId) (A : Nat → Nat) (x : Nat → Int32) (f : Nat → Nat → Int32) (c9 ln at_ : Nat) (hA : mInj A) (hl7 : x 7 = nI ln) (hat : x 10 = nI at_) (hl60 : ln ≤ 60) (ha6 : at_ ≤ ln) (hc6 : c9 < 65536) : Met l yX8_skips (gw yX8_skips cX8_skips 2 (some .boolean)) ({ frames := 1, cells := 0, slots := 0, locals := 20 } : Room) (gPc [.ref (A 0), .int (nI (c9))] (fun H => va_P D vwCl (mw cA A x f) H) D cA) (wrI (fun r H => r = b2i (skO (f 4) ln at_ c9).1 ∧ va_P D vwCl (mw cA A (upd x 10 (nI (skO (f 4) ln at_ c9).2)) (f)) H) (MA A)) 0 0 (MA A) := by
  refine gOf (by decide) (Nat.le_of_ble_eq_true rfl) ?_
  intro p e s m below meth c ls hx hb hml hr hlk hown hts hnm hP hK hl
  have hl : lv_has ls 2 [(0, .ref (A 0)), (1, .int (nI (c9)))] := hl
  have hD : va_D (MA A) (mw cA A x f) := mD hA
  have hS : va_S (MA A) s.heap s.heap [] := va_S.rf
  refine lv_aload_n hx hb dX8_skips_0 rfl (lv_at hl 0 rfl) ?_
  refine rd_calle (va_runV (As := []) (rest := []) ⟨hx, hb, hml, hown, hts⟩ (c_X8_here l D cA A (x) (f) (ln) (at_) hl7 hat (by omega) (by omega)) (cwV 0 hts (gWV gm_46_7 gm_46_8 gm_46_9 gm_1_5 gm_46_10) rfl rfl rfl (by decide +kernel) ⟨Nat.le_of_ble_eq_true rfl, Nat.le_of_ble_eq_true rfl⟩) (gPreV hK (g_rf hK hP (ci := 10) (q0 := 0) rfl rfl) hP) rfl rfl hl.1 rfl (lv_room (Nat.le_of_ble_eq_true rfl)) dX8_skips_1 ⟨by omega, by omega⟩) ?_
  refine lv_iload_n hx hb dX8_skips_4 rfl (lv_at hl 1 rfl) ?_
  refine g_icmp_eq (P := hrM (f 4) (ln) (at_) = nI (c9)) (tgt := 10) hx hb dX8_skips_5 (by decide) Iff.rfl (fun c_1 => ?_) (fun c_1 => ?_)
  · refine lv_aload_n hx hb dX8_skips_10 rfl (lv_at hl 0 rfl) ?_
    refine lv_dup hx hb dX8_skips_11 rfl ?_
    refine g_get (v := .int (x 10)) hx hb hts hown hK hP 0 rfl rfl gu_wsX80 18 (by decide) gm_45_17 rfl dX8_skips_12 ?_
    refine g_top hat ?_
    refine lv_iconst (v := nI (1)) hx hb dX8_skips_15 gc_1 ?_
    refine g_iadd hx hb dX8_skips_16 ?_
    refine g_put (ws' := mw cA A (upd (x) 10 (nI ((at_) + (1)))) (f)) hx hb hts hown hK hP hD hS 0 rfl rfl gu_wsX80 tyX8_ok nmX8 18 (by decide) gm_45_17 rfl rfl rfl (Nat.le_of_ble_eq_true rfl) rfl dX8_skips_17 (fun H locs hP hD hS => ?_)
    refine lv_iconst (v := nI (1)) hx hb dX8_skips_20 gc_1 ?_
    exact g_zretW (v := nI (1)) hx hb hr hlk rfl hS dX8_skips_21 (by rw [skO, if_pos c_1]; exact ⟨rfl, hP⟩)
  · refine lv_iconst (v := nI (0)) hx hb dX8_skips_8 gc_0 ?_
    exact g_zretW (v := nI (0)) hx hb hr hlk rfl hS dX8_skips_9 (by rw [skO, if_neg c_1]; exact ⟨rfl, (by rw [upd_id hat]; exact hP)⟩)

set_option maxHeartbeats 1000000 in
set_option maxRecDepth 100000 in
theorem c_X8_figures (l : Launch) (D : va_G) (cA : Nat → ClassId) (A : Nat → Nat) (x : Nat → Int32) (f : Nat → Nat → Int32) (pl mo ln at_ : Nat) (hA : mInj A) (hl7 : x 7 = nI ln) (hat : x 10 = nI at_) (hl60 : ln ≤ 60) (ha6 : at_ ≤ ln) (hpl : pl < 93) (hmo : mo ≤ 3) : Met l yX8_figures (gw yX8_figures cX8_figures 4 (some .boolean)) ({ frames := 1, cells := 0, slots := 0, locals := 22 } : Room) (gPc [.ref (A 0), .int (nI (pl)), .int (nI (mo))] (fun H => va_P D vwCl (mw cA A x f) H) D cA) (wrI (fun r H => r = b2i (fgO (f 4) ln at_ (f 8) pl mo).1 ∧ va_P D vwCl (mw cA A (upd x 10 (nI (fgO (f 4) ln at_ (f 8) pl mo).2.1)) (va_up f 8 (fgO (f 4) ln at_ (f 8) pl mo).2.2)) H) (MA A)) 0 0 (MA A) := by
  refine gOf (by decide) (Nat.le_of_ble_eq_true rfl) ?_
  intro p e s m below meth c ls hx hb hml hr hlk hown hts hnm hP hK hl
  have hl : lv_has ls 4 [(0, .ref (A 0)), (1, .int (nI (pl))), (2, .int (nI (mo)))] := hl
  have hD : va_D (MA A) (mw cA A x f) := mD hA
  have hS : va_S (MA A) s.heap s.heap [] := va_S.rf
  refine lv_aload_n hx hb dX8_figures_0 rfl (lv_at hl 0 rfl) ?_
  refine rd_calle (va_runV (As := []) (rest := []) ⟨hx, hb, hml, hown, hts⟩ (c_X8_here l D cA A (x) (f) (ln) (at_) hl7 hat (by omega) (by omega)) (cwV 0 hts (gWV gm_46_7 gm_46_8 gm_46_9 gm_1_5 gm_46_10) rfl rfl rfl (by decide +kernel) ⟨Nat.le_of_ble_eq_true rfl, Nat.le_of_ble_eq_true rfl⟩) (gPreV hK (g_rf hK hP (ci := 10) (q0 := 0) rfl rfl) hP) rfl rfl hl.1 rfl (lv_room (Nat.le_of_ble_eq_true rfl)) dX8_figures_1 ⟨by omega, by omega⟩) ?_
  refine lv_bipush (v := nI (48)) hx hb dX8_figures_4 gb_48 ?_
  refine lv_bipush (v := nI (57)) hx hb dX8_figures_6 gb_57 ?_
  refine rd_calle (va_runS (As := [.int (hrM (f 4) (ln) (at_)), .int (nI (48)), .int (nI (57))]) (rest := []) ⟨hx, hb, hml, hown, hts⟩ (c_X8_in l D cA (hrM (f 4) (ln) (at_)) (nI (48)) (nI (57))) (cwS 3 hts (gWS gm_8_20 gm_8_21 gm_1_5 gm_8_22) rfl rfl rfl (by decide +kernel) ⟨Nat.le_of_ble_eq_true rfl, Nat.le_of_ble_eq_true rfl⟩) (gPreS hK trivial) rfl rfl hl.1 rfl (lv_room (Nat.le_of_ble_eq_true rfl)) dX8_figures_8 ⟨by omega, by omega⟩) ?_
  refine g_if_ne (P := inB (hrM (f 4) (ln) (at_)) (nI (48)) (nI (57)) = false) (tgt := 16) hx hb dX8_figures_11 (by decide) b2i_0 (fun c_1 => ?_) (fun c_1 => ?_)
  · have c_1 : inB (hrM (f 4) (ln) (at_)) (nI (48)) (nI (57)) = true := eq_true_of_ne_false c_1
    refine lv_aload_n hx hb dX8_figures_16 rfl (lv_at hl 0 rfl) ?_
    refine g_get (v := .ref (A 9)) hx hb hts hown hK hP 0 rfl rfl gu_wsX80 19 (by decide) gm_5_23 rfl dX8_figures_17 ?_
    refine lv_iload_n hx hb dX8_figures_20 rfl (lv_at hl 1 rfl) ?_
    refine lv_iconst (v := nI (0)) hx hb dX8_figures_21 gc_0 ?_
    refine g_iast (ws' := mw cA A (x) (va_up (f) 8 (upd (f 8) (pl) (nI (0))))) hx hb hK hP hD hS 9 rfl (by omega) (by decide) rfl dX8_figures_22 (fun H locs hP hD hS => ?_)
    refine lv_iconst (v := nI (0)) hx hb dX8_figures_23 gc_0 ?_
    refine lv_istore_n (lv' := [(3, .int (nI (0))), (0, .ref (A 0)), (1, .int (nI (pl))), (2, .int (nI (mo)))]) hx hb dX8_figures_24 rfl hl (by decide) rfl (fun ls hl => ?_)
    have LP_7 : ∀ (n_3 i_2 : Nat) (x_4 X_5 : Int32) (F_6 : Nat → Int32) (H : Heap) (locs : List Loc), i_2 ≤ mo → mo + 1 ≤ i_2 + n_3 → x_4 = nI (i_2) → X_5 = nI (at_ + i_2) → F_6 = upd (f 8) pl (fgV (f 4) ln at_ i_2) → (fnd (fun k => !dgM (f 4) ln (at_ + k)) (i_2) = none) → (∀ j, j < i_2 → (!dgM (f 4) ln (at_ + j)) = false) → va_P D vwCl (mw cA A (upd (x) 10 (X_5)) (va_up (f) 8 (F_6))) H → va_S (MA A) s.heap H locs → ∀ (ls : Array Slot), lv_has ls 4 [(3, .int (x_4)), (0, .ref (A 0)), (1, .int (nI (pl))), (2, .int (nI (mo)))] → W p l e ({ frames := 1, cells := 0, slots := 0, locals := 22 } : Room) s m ([.ref (A 0), .int (nI (pl)), .int (nI (mo))] : List Value).toArray below meth c H locs 0 0 (MQ below (wrI (fun r H => r = b2i (fgO (f 4) ln at_ (f 8) pl mo).1 ∧ va_P D vwCl (mw cA A (upd x 10 (nI (fgO (f 4) ln at_ (f 8) pl mo).2.1)) (va_up f 8 (fgO (f 4) ln at_ (f 8) pl mo).2.2)) H) (MA A)) ([.ref (A 0), .int (nI (pl)), .int (nI (mo))] : List Value).toArray s 0 0 (MA A)) (F0 m 25 ls []) := by
      intro n_3
      induction n_3 with
      | zero => intro i_2 x_4 X_5 F_6 H locs h1 h2; exact absurd h2 (by omega)
      | succ n_3 ih_8 =>
        intro i_2 x_4 X_5 F_6 H locs h_9 h_10 e_11 e_12 e_13 hv hv9 hP hS ls hl
        subst e_11
        subst e_12
        subst e_13
        have hD : va_D (MA A) (mw cA A (upd (x) 10 (nI (at_ + i_2))) (va_up (f) 8 (upd (f 8) pl (fgV (f 4) ln at_ i_2)))) := mD hA
        have hxb_14 : at_ + i_2 ≤ ln := by rcases Nat.eq_zero_or_pos i_2 with z9 | z9; exact (by omega); have q9 := hv9 (i_2 - 1) (by omega); have q8 := dgM_lt (show dgM (f 4) ln (at_ + (i_2 - 1)) = true by simpa using q9); omega
        refine lv_iload_n hx hb dX8_figures_25 rfl (lv_at hl 0 rfl) ?_
        refine lv_iload_n hx hb dX8_figures_26 rfl (lv_at hl 3 rfl) ?_
        refine g_icmp_ge (P := mo ≤ i_2) (tgt := 83) hx hb dX8_figures_27 (by decide) (nI_leI (by omega) (by omega)) (fun c_15 => ?_) (fun c_15 => ?_)
        · have d_15 : ¬ i_2 < mo := Nat.not_lt.mpr c_15
          have hN_16 : mo = i_2 := by omega
          subst hN_16
          refine lv_iconst (v := nI (1)) hx hb dX8_figures_83 gc_1 ?_
          exact g_zretW (v := nI (1)) hx hb hr hlk rfl hS dX8_figures_84 (by have e9 : fgN (f 4) ln at_ mo = mo := (by rw [fgN, hv]; rfl); have c9 : dgM (f 4) ln at_ = true := c_1; rw [fgO, if_pos c9, e9]; exact ⟨rfl, hP⟩)
        · have d_15 : i_2 < mo := Nat.not_le.mp c_15
          refine lv_aload_n hx hb dX8_figures_30 rfl (lv_at hl 1 rfl) ?_
          refine rd_calle (va_runV (As := []) (rest := []) ⟨hx, hb, hml, hown, hts⟩ (c_X8_here l D cA A (upd (x) 10 (nI (at_ + i_2))) (va_up (f) 8 (upd (f 8) pl (fgV (f 4) ln at_ i_2))) (ln) (at_ + i_2) hl7 (by rfl) (by omega) (by omega)) (cwV 0 hts (gWV gm_46_7 gm_46_8 gm_46_9 gm_1_5 gm_46_10) rfl rfl rfl (by decide +kernel) ⟨Nat.le_of_ble_eq_true rfl, Nat.le_of_ble_eq_true rfl⟩) (gPreV hK (g_rf hK hP (ci := 10) (q0 := 0) rfl rfl) hP) rfl rfl hl.1 rfl (lv_room (Nat.le_of_ble_eq_true rfl)) dX8_figures_31 ⟨by omega, by omega⟩) ?_
          refine lv_bipush (v := nI (48)) hx hb dX8_figures_34 gb_48 ?_
          refine lv_bipush (v := nI (57)) hx hb dX8_figures_36 gb_57 ?_
          refine rd_calle (va_runS (As := [.int (hrM (f 4) (ln) (at_ + i_2)), .int (nI (48)), .int (nI (57))]) (rest := []) ⟨hx, hb, hml, hown, hts⟩ (c_X8_in l D cA (hrM (f 4) (ln) (at_ + i_2)) (nI (48)) (nI (57))) (cwS 3 hts (gWS gm_8_20 gm_8_21 gm_1_5 gm_8_22) rfl rfl rfl (by decide +kernel) ⟨Nat.le_of_ble_eq_true rfl, Nat.le_of_ble_eq_true rfl⟩) (gPreS hK trivial) rfl rfl hl.1 rfl (lv_room (Nat.le_of_ble_eq_true rfl)) dX8_figures_38 ⟨by omega, by omega⟩) ?_
          refine g_if_eq (P := inB (hrM (f 4) (ln) (at_ + i_2)) (nI (48)) (nI (57)) = false) (tgt := 83) hx hb dX8_figures_41 (by decide) b2i_0 (fun c_17 => ?_) (fun c_17 => ?_)
          · refine lv_iconst (v := nI (1)) hx hb dX8_figures_83 gc_1 ?_
            exact g_zretW (v := nI (1)) hx hb hr hlk rfl hS dX8_figures_84 (by have e9 : fgN (f 4) ln at_ mo = i_2 := (by rw [fgN, fnd_stop hv (by simp only [dgM]; rw [c_17]; rfl) mo (by omega)]; rfl); have c9 : dgM (f 4) ln at_ = true := c_1; rw [fgO, if_pos c9, e9]; exact ⟨rfl, hP⟩)
          · have c_17 : inB (hrM (f 4) (ln) (at_ + i_2)) (nI (48)) (nI (57)) = true := eq_true_of_ne_false c_17
            refine lv_aload_n hx hb dX8_figures_44 rfl (lv_at hl 1 rfl) ?_
            refine g_get (v := .ref (A 9)) hx hb hts hown hK hP 0 rfl rfl gu_wsX80 19 (by decide) gm_5_23 rfl dX8_figures_45 ?_
            refine lv_iload_n hx hb dX8_figures_48 rfl (lv_at hl 2 rfl) ?_
            refine lv_bipush (v := nI (10)) hx hb dX8_figures_49 gb_10 ?_
            refine lv_aload_n hx hb dX8_figures_51 rfl (lv_at hl 1 rfl) ?_
            refine g_get (v := .ref (A 9)) hx hb hts hown hK hP 0 rfl rfl gu_wsX80 19 (by decide) gm_5_23 rfl dX8_figures_52 ?_
            refine lv_iload_n hx hb dX8_figures_55 rfl (lv_at hl 2 rfl) ?_
            refine g_iald (x := fgV (f 4) ln at_ i_2) hx hb hK hP 9 rfl (by omega) (by decide) pk_us dX8_figures_56 ?_
            refine lv_imul hx hb dX8_figures_57 ?_
            refine lv_aload_n hx hb dX8_figures_58 rfl (lv_at hl 1 rfl) ?_
            refine rd_calle (va_runV (As := []) (rest := [.int ((nI (10)) * (fgV (f 4) ln at_ i_2)), .int (nI (pl)), .ref (A 9)]) ⟨hx, hb, hml, hown, hts⟩ (c_X8_here l D cA A (upd (x) 10 (nI (at_ + i_2))) (va_up (f) 8 (upd (f 8) pl (fgV (f 4) ln at_ i_2))) (ln) (at_ + i_2) hl7 (by rfl) (by omega) (by omega)) (cwV 0 hts (gWV gm_46_7 gm_46_8 gm_46_9 gm_1_5 gm_46_10) rfl rfl rfl (by decide +kernel) ⟨Nat.le_of_ble_eq_true rfl, Nat.le_of_ble_eq_true rfl⟩) (gPreV hK (g_rf hK hP (ci := 10) (q0 := 0) rfl rfl) hP) rfl rfl hl.1 rfl (lv_room (Nat.le_of_ble_eq_true rfl)) dX8_figures_59 ⟨by omega, by omega⟩) ?_
            refine lv_iadd hx hb dX8_figures_62 ?_
            refine lv_bipush (v := nI (48)) hx hb dX8_figures_63 gb_48 ?_
            refine lv_isub hx hb dX8_figures_65 ?_
            refine g_iast (ws' := mw cA A (upd (x) 10 (nI (at_ + i_2))) (va_up (f) 8 (upd (upd (f 8) pl (fgV (f 4) ln at_ i_2)) (pl) ((((nI (10)) * (fgV (f 4) ln at_ i_2)) + (hrM (f 4) (ln) (at_ + i_2))) - (nI (48)))))) hx hb hK hP hD hS 9 rfl (by omega) (by decide) rfl dX8_figures_66 (fun H locs hP hD hS => ?_)
            refine lv_aload_n hx hb dX8_figures_67 rfl (lv_at hl 1 rfl) ?_
            refine lv_dup hx hb dX8_figures_68 rfl ?_
            refine g_get (v := .int (nI (at_ + i_2))) hx hb hts hown hK hP 0 rfl rfl gu_wsX80 18 (by decide) gm_45_17 rfl dX8_figures_69 ?_
            refine lv_iconst (v := nI (1)) hx hb dX8_figures_72 gc_1 ?_
            refine g_iadd hx hb dX8_figures_73 ?_
            refine g_put (ws' := mw cA A (upd (x) 10 (nI ((at_ + i_2) + (1)))) (va_up (f) 8 (upd (upd (f 8) pl (fgV (f 4) ln at_ i_2)) (pl) ((((nI (10)) * (fgV (f 4) ln at_ i_2)) + (hrM (f 4) (ln) (at_ + i_2))) - (nI (48)))))) hx hb hts hown hK hP hD hS 0 rfl rfl gu_wsX80 tyX8_ok nmX8 18 (by decide) gm_45_17 rfl rfl rfl (Nat.le_of_ble_eq_true rfl) rfl dX8_figures_74 (fun H locs hP hD hS => ?_)
            refine lv_iinc (v := nI (i_2 + 1)) (lv' := [(3, .int (nI (i_2 + 1))), (0, .ref (A 0)), (1, .int (nI (pl))), (2, .int (nI (mo)))]) hx hb dX8_figures_77 hl (k := 0) rfl (inc_1 _) (by decide) rfl (fun ls hl => ?_)
            refine lv_goto (tgt := 25) hx hb dX8_figures_80 (by decide) ?_
            exact ih_8 (i_2 + 1) _ (nI ((at_ + i_2) + (1))) (upd (upd (f 8) pl (fgV (f 4) ln at_ i_2)) (pl) ((((nI (10)) * (fgV (f 4) ln at_ i_2)) + (hrM (f 4) (ln) (at_ + i_2))) - (nI (48)))) H locs (by omega) (by omega) rfl rfl (by rw [upd2]; rfl) (fnd_succ_none hv (by simp only [dgM]; rw [c_17]; rfl)) (fnd_all (fnd_succ_none hv (by simp only [dgM]; rw [c_17]; rfl))) hP hS ls (lv_sub hl [0, 1, 2, 3] rfl)
    exact LP_7 (mo + 1) 0 _ (x 10) (upd (f 8) (pl) (nI (0))) H locs (by omega) (by omega) rfl hat rfl rfl (fun _ h => absurd h (Nat.not_lt_zero _)) hP hS ls (lv_sub hl [0, 1, 2, 3] rfl)
  · refine lv_iconst (v := nI (0)) hx hb dX8_figures_14 gc_0 ?_
    exact g_zretW (v := nI (0)) hx hb hr hlk rfl hS dX8_figures_15 (by rw [fgO, if_neg (show ¬ dgM (f 4) ln at_ = true from bnt c_1)]; exact ⟨rfl, (by rw [upd_id hat, vup_id rfl]; exact hP)⟩)

set_option maxHeartbeats 1000000 in
set_option maxRecDepth 100000 in
theorem c_X8_leaningHere (l : Launch) (D : va_G) (cA : Nat → ClassId) (A : Nat → Nat) (x : Nat → Int32) (f : Nat → Nat → Int32) (pl ln at_ : Nat) (hA : mInj A) (hl7 : x 7 = nI ln) (hat : x 10 = nI at_) (hl60 : ln ≤ 60) (ha6 : at_ ≤ ln) (hpl : pl < 93) : Met l yX8_leaningHere (gw yX8_leaningHere cX8_leaningHere 3 (some .boolean)) ({ frames := 2, cells := 0, slots := 0, locals := 45 } : Room) (gPc [.ref (A 0), .int (nI (pl))] (fun H => va_P D vwCl (mw cA A x f) H) D cA) (wrI (fun r H => r = b2i (lhO (f 4) ln at_ (f 8) pl).1 ∧ va_P D vwCl (mw cA A (upd x 10 (nI (lhO (f 4) ln at_ (f 8) pl).2.1)) (va_up f 8 (lhO (f 4) ln at_ (f 8) pl).2.2)) H) (MA A)) 0 0 (MA A) := by
  refine gOf (by decide) (Nat.le_of_ble_eq_true rfl) ?_
  intro p e s m below meth c ls hx hb hml hr hlk hown hts hnm hP hK hl
  have hl : lv_has ls 3 [(0, .ref (A 0)), (1, .int (nI (pl)))] := hl
  have hD : va_D (MA A) (mw cA A x f) := mD hA
  have hS : va_S (MA A) s.heap s.heap [] := va_S.rf
  refine lv_aload_n hx hb dX8_leaningHere_0 rfl (lv_at hl 0 rfl) ?_
  refine lv_bipush (v := nI (45)) hx hb dX8_leaningHere_1 gb_45 ?_
  refine wr_calli (va_runV (As := [.int (nI (45))]) (rest := []) ⟨hx, hb, hml, hown, hts⟩ (c_X8_skips l D cA A (x) (f) (45) (ln) (at_) hA hl7 hat (by omega) (by omega) (by omega)) (cwV 1 hts (gWV gm_46_3 gm_46_4 gm_46_5 gm_1_5 gm_46_6) rfl rfl rfl (by decide +kernel) ⟨Nat.le_of_ble_eq_true rfl, Nat.le_of_ble_eq_true rfl⟩) (gPreV hK (g_rf hK hP (ci := 10) (q0 := 0) rfl rfl) hP) rfl rfl hl.1 rfl (lv_room (Nat.le_of_ble_eq_true rfl)) dX8_leaningHere_3 ⟨by omega, by omega⟩) hS (fun q _ h => h) (fun q h => h) (fun r H locs hw9 hz9 hk9 hS => ?_)
  obtain ⟨rfl, hP⟩ := hw9
  have hP : va_P D vwCl (mw cA A (upd (x) 10 (nI ((skO (f 4) (ln) (at_) (45)).2))) (f)) H := hP
  have hD : va_D (MA A) (mw cA A (upd (x) 10 (nI ((skO (f 4) (ln) (at_) (45)).2))) (f)) := mD hA
  have hxb_1 : (skO (f 4) (ln) (at_) (45)).2 ≤ ln := skO_le (by omega) (by omega)
  refine lv_istore_n (lv' := [(2, .int (b2i ((skO (f 4) (ln) (at_) (45)).1))), (0, .ref (A 0)), (1, .int (nI (pl)))]) hx hb dX8_leaningHere_6 rfl hl (by decide) rfl (fun ls hl => ?_)
  refine lv_aload_n hx hb dX8_leaningHere_7 rfl (lv_at hl 1 rfl) ?_
  refine lv_iload_n hx hb dX8_leaningHere_8 rfl (lv_at hl 2 rfl) ?_
  refine lv_iconst (v := nI (1)) hx hb dX8_leaningHere_9 gc_1 ?_
  refine wr_calli (va_runV (As := [.int (nI (pl)), .int (nI (1))]) (rest := []) ⟨hx, hb, hml, hown, hts⟩ (c_X8_figures l D cA A (upd (x) 10 (nI ((skO (f 4) (ln) (at_) (45)).2))) (f) (pl) (1) (ln) ((skO (f 4) (ln) (at_) (45)).2) hA hl7 (by rfl) (by omega) (by omega) (by omega) (by omega)) (cwV 2 hts (gWV gm_47_1 gm_47_2 gm_47_3 gm_1_5 gm_47_4) rfl rfl rfl (by decide +kernel) ⟨Nat.le_of_ble_eq_true rfl, Nat.le_of_ble_eq_true rfl⟩) (gPreV hK (g_rf hK hP (ci := 10) (q0 := 0) rfl rfl) hP) rfl rfl hl.1 rfl (lv_room (Nat.le_of_ble_eq_true rfl)) dX8_leaningHere_10 ⟨by omega, by omega⟩) hS (fun q _ h => h) (fun q h => h) (fun r H locs hw9 hz9 hk9 hS => ?_)
  obtain ⟨rfl, hP⟩ := hw9
  have hP : va_P D vwCl (mw cA A (upd (x) 10 (nI ((fgO (f 4) (ln) ((skO (f 4) (ln) (at_) (45)).2) (f 8) (pl) (1)).2.1))) (va_up (f) 8 ((fgO (f 4) (ln) ((skO (f 4) (ln) (at_) (45)).2) (f 8) (pl) (1)).2.2))) H := hP
  have hD : va_D (MA A) (mw cA A (upd (x) 10 (nI ((fgO (f 4) (ln) ((skO (f 4) (ln) (at_) (45)).2) (f 8) (pl) (1)).2.1))) (va_up (f) 8 ((fgO (f 4) (ln) ((skO (f 4) (ln) (at_) (45)).2) (f 8) (pl) (1)).2.2))) := mD hA
  have hxb_2 : (fgO (f 4) (ln) ((skO (f 4) (ln) (at_) (45)).2) (f 8) (pl) (1)).2.1 ≤ ln := fgO_le (by omega)
  refine g_if_ne (P := (fgO (f 4) (ln) ((skO (f 4) (ln) (at_) (45)).2) (f 8) (pl) (1)).1 = false) (tgt := 18) hx hb dX8_leaningHere_13 (by decide) b2i_0 (fun c_3 => ?_) (fun c_3 => ?_)
  · have c_3 : (fgO (f 4) (ln) ((skO (f 4) (ln) (at_) (45)).2) (f 8) (pl) (1)).1 = true := eq_true_of_ne_false c_3
    refine lv_aload_n hx hb dX8_leaningHere_18 rfl (lv_at hl 1 rfl) ?_
    refine g_get (v := .ref (A 9)) hx hb hts hown hK hP 0 rfl rfl gu_wsX80 19 (by decide) gm_5_23 rfl dX8_leaningHere_19 ?_
    refine lv_iload_n hx hb dX8_leaningHere_22 rfl (lv_at hl 2 rfl) ?_
    refine lv_iload_n hx hb dX8_leaningHere_23 rfl (lv_at hl 0 rfl) ?_
    refine g_if_eq (P := (skO (f 4) (ln) (at_) (45)).1 = false) (tgt := 37) hx hb dX8_leaningHere_24 (by decide) b2i_0 (fun c_4 => ?_) (fun c_4 => ?_)
    · refine lv_aload_n hx hb dX8_leaningHere_37 rfl (lv_at hl 1 rfl) ?_
      refine g_get (v := .ref (A 9)) hx hb hts hown hK hP 0 rfl rfl gu_wsX80 19 (by decide) gm_5_23 rfl dX8_leaningHere_38 ?_
      refine lv_iload_n hx hb dX8_leaningHere_41 rfl (lv_at hl 2 rfl) ?_
      refine g_iald (x := (fgO (f 4) (ln) ((skO (f 4) (ln) (at_) (45)).2) (f 8) (pl) (1)).2.2 (pl)) hx hb hK hP 9 rfl (by omega) (by decide) rfl dX8_leaningHere_42 ?_
      refine g_iast (ws' := mw cA A (upd (x) 10 (nI ((fgO (f 4) (ln) ((skO (f 4) (ln) (at_) (45)).2) (f 8) (pl) (1)).2.1))) (va_up (f) 8 (upd ((fgO (f 4) (ln) ((skO (f 4) (ln) (at_) (45)).2) (f 8) (pl) (1)).2.2) (pl) ((fgO (f 4) (ln) ((skO (f 4) (ln) (at_) (45)).2) (f 8) (pl) (1)).2.2 (pl))))) hx hb hK hP hD hS 9 rfl (by omega) (by decide) rfl dX8_leaningHere_43 (fun H locs hP hD hS => ?_)
      refine lv_iconst (v := nI (1)) hx hb dX8_leaningHere_44 gc_1 ?_
      exact g_zretW (v := nI (1)) hx hb hr hlk rfl hS dX8_leaningHere_45 (by rw [lhO, if_pos c_3, if_neg (bnt c_4)]; exact ⟨rfl, hP⟩)
    · have c_4 : (skO (f 4) (ln) (at_) (45)).1 = true := eq_true_of_ne_false c_4
      refine lv_aload_n hx hb dX8_leaningHere_27 rfl (lv_at hl 1 rfl) ?_
      refine g_get (v := .ref (A 9)) hx hb hts hown hK hP 0 rfl rfl gu_wsX80 19 (by decide) gm_5_23 rfl dX8_leaningHere_28 ?_
      refine lv_iload_n hx hb dX8_leaningHere_31 rfl (lv_at hl 2 rfl) ?_
      refine g_iald (x := (fgO (f 4) (ln) ((skO (f 4) (ln) (at_) (45)).2) (f 8) (pl) (1)).2.2 (pl)) hx hb hK hP 9 rfl (by omega) (by decide) rfl dX8_leaningHere_32 ?_
      refine lv_ineg hx hb dX8_leaningHere_33 ?_
      refine lv_goto (tgt := 43) hx hb dX8_leaningHere_34 (by decide) ?_
      refine g_iast (ws' := mw cA A (upd (x) 10 (nI ((fgO (f 4) (ln) ((skO (f 4) (ln) (at_) (45)).2) (f 8) (pl) (1)).2.1))) (va_up (f) 8 (upd ((fgO (f 4) (ln) ((skO (f 4) (ln) (at_) (45)).2) (f 8) (pl) (1)).2.2) (pl) (-((fgO (f 4) (ln) ((skO (f 4) (ln) (at_) (45)).2) (f 8) (pl) (1)).2.2 (pl)))))) hx hb hK hP hD hS 9 rfl (by omega) (by decide) rfl dX8_leaningHere_43 (fun H locs hP hD hS => ?_)
      refine lv_iconst (v := nI (1)) hx hb dX8_leaningHere_44 gc_1 ?_
      exact g_zretW (v := nI (1)) hx hb hr hlk rfl hS dX8_leaningHere_45 (by rw [lhO, if_pos c_3, if_pos c_4]; exact ⟨rfl, hP⟩)
  · refine lv_iconst (v := nI (0)) hx hb dX8_leaningHere_16 gc_0 ?_
    exact g_zretW (v := nI (0)) hx hb hr hlk rfl hS dX8_leaningHere_17 (by rw [lhO, if_neg (bnt c_3)]; exact ⟨rfl, hP⟩)

set_option maxHeartbeats 1000000 in
set_option maxRecDepth 100000 in
theorem c_X8_hasOrder (l : Launch) (D : va_G) (cA : Nat → ClassId) (A : Nat → Nat) (x : Nat → Int32) (f : Nat → Nat → Int32) (wh tm : Nat) (hA : mInj A) (htm : x 11 = nI tm) (ht31 : tm ≤ 30) : Met l yX8_hasOrder (gw yX8_hasOrder cX8_hasOrder 2 (some .boolean)) ({ frames := 0, cells := 0, slots := 0, locals := 0 } : Room) (gPc [.ref (A 0), .int (nI (wh))] (fun H => va_P D vwCl (mw cA A x f) H) D cA) (wrI (fun r H => r = b2i true ∧ va_P D vwCl (mw cA A (x) (va_up f 8 (upd (f 8) (3 * tm) (nI wh)))) H) (MA A)) 0 0 (MA A) := by
  refine gOf (by decide) (Nat.le_of_ble_eq_true rfl) ?_
  intro p e s m below meth c ls hx hb hml hr hlk hown hts hnm hP hK hl
  have hl : lv_has ls 2 [(0, .ref (A 0)), (1, .int (nI (wh)))] := hl
  have hD : va_D (MA A) (mw cA A x f) := mD hA
  have hS : va_S (MA A) s.heap s.heap [] := va_S.rf
  refine lv_aload_n hx hb dX8_hasOrder_0 rfl (lv_at hl 0 rfl) ?_
  refine g_get (v := .ref (A 9)) hx hb hts hown hK hP 0 rfl rfl gu_wsX80 19 (by decide) gm_5_23 rfl dX8_hasOrder_1 ?_
  refine lv_iconst (v := nI (3)) hx hb dX8_hasOrder_4 gc_3 ?_
  refine lv_aload_n hx hb dX8_hasOrder_5 rfl (lv_at hl 0 rfl) ?_
  refine g_get (v := .int (x 11)) hx hb hts hown hK hP 0 rfl rfl gu_wsX80 20 (by decide) gm_45_18 rfl dX8_hasOrder_6 ?_
  refine g_top htm ?_
  refine g_imul hx hb dX8_hasOrder_9 ?_
  refine lv_iload_n hx hb dX8_hasOrder_10 rfl (lv_at hl 1 rfl) ?_
  refine g_iast (ws' := mw cA A (x) (va_up (f) 8 (upd (f 8) (3 * tm) (nI (wh))))) hx hb hK hP hD hS 9 rfl (by omega) (by decide) rfl dX8_hasOrder_11 (fun H locs hP hD hS => ?_)
  refine lv_iconst (v := nI (1)) hx hb dX8_hasOrder_12 gc_1 ?_
  exact g_zretW (v := nI (1)) hx hb hr hlk rfl hS dX8_hasOrder_13 (⟨rfl, hP⟩)

