theorem uw_toH {D : va_G} {cA : Nat → ClassId} {U : Nat → Nat} {rg : Nat → Option Nat} {c z : CS} {rz : Nat → CS} {hd ct : Nat} {rs dt : Int32} {mf : Nat → Nat → Int32} {mn : Nat} {tc : Nat → Nat} {tl to : Nat} {kd fi se : Int32} {ta : Nat} {nu : Int32} {lc : Nat → Int32} {ln : Nat} {sv : Bool} {er : Int32} {H : Heap} (_ : aInj 189 U) (h8 : hd ≤ 8) (hP : va_P D vwCl (uw cA U rg c z rz hd ct rs dt mf mn tc tl to kd fi se ta nu lc ln sv er) H) : va_P D vwCl (hnw cA (fun k => U (uHf hd k)) rg hd ct (rz hd) c) H := by
  obtain ⟨p0, pc, pz, ph, pr, pm, pt, pl, pg⟩ := uw_split hP
  have h := ph.app ((rgW_at 9 pg hd (by omega)).app pc)
  exact h
theorem uw_toG {D : va_G} {cA : Nat → ClassId} {U : Nat → Nat} {rg : Nat → Option Nat} {c z : CS} {rz : Nat → CS} {hd ct j9 : Nat} {rs dt : Int32} {mf : Nat → Nat → Int32} {mn : Nat} {tc : Nat → Nat} {tl to : Nat} {kd fi se : Int32} {ta : Nat} {nu : Int32} {lc : Nat → Int32} {ln : Nat} {sv : Bool} {er : Int32} {H : Heap} (_ : aInj 189 U) (h8 : j9 ≤ 8) (hP : va_P D vwCl (uw cA U rg c z rz hd ct rs dt mf mn tc tl to kd fi se ta nu lc ln sv er) H) : va_P D vwCl (hnw cA (fun k => U (uHg j9 k)) rg hd ct c (rz j9)) H := by
  obtain ⟨p0, pc, pz, ph, pr, pm, pt, pl, pg⟩ := uw_split hP
  have h := ph.app (pc.app (rgW_at 9 pg j9 (by omega)))
  exact h

theorem lt9_of {jn : Nat} (h : rfJ jn = none) : jn < 9 := by unfold rfJ at h; split at h <;> first | assumption | cases h
theorem lt10_of {cn : Nat} (h : rfK cn = none) : cn < 10 := by unfold rfK at h; split at h <;> first | assumption | cases h
theorem lt99_of {t rl : Nat} (h : rfNt t rl = none) : t < 99 := by unfold rfNt at h; split at h <;> first | assumption | cases h

set_option maxHeartbeats 1000000 in
set_option maxRecDepth 100000 in
theorem c_X7_juror (l : Launch) (hlt : l.stackTraces = false) (D : va_G) (cA : Nat → ClassId) (AE : Nat → Prop) (adK adV sa : Nat → Nat) (U : Nat → Nat) (rg : Nat → Option Nat) (c z : CS) (rz : Nat → CS) (hd ct : Nat) (rs dt : Int32) (mf : Nat → Nat → Int32) (mn : Nat) (tc : Nat → Nat) (tl to : Nat) (kd fi se : Int32) (ta : Nat) (nu : Int32) (lc : Nat → Int32) (ln : Nat) (sv : Bool) (er : Int32) (a b : Int32) (hA : aInj 189 U) (hFA : ∀ q, aS 189 U q → AE q) (hz : zOk c) (hrg : uRg U rg) (hh8 : hd ≤ 8) (hc8 : ct ≤ 8) : vx_Met l yX7_juror (gw yX7_juror cX7_juror 3 (some .int)) ({ frames := 6, cells := 1, slots := 6, locals := 144 } : Room) (gPx [.ref (U 0), .int (a), .int (b)] (fun H => va_P D vwCl (uw cA U rg c z rz hd ct rs dt mf mn tc tl to kd fi se ta nu lc ln sv er) H) D cA AE adK adV sa) (wrI (fun r H => jrr a b = true ∧ rfJ (zjn c) = none ∧ r = nI (zjn c) ∧ va_P D vwCl (uw cA U rg (zAddJ c a b) z (va_up rz hd c) (hUp hd) (hCt ct) rs dt mf mn tc tl to kd fi se ta nu lc ln sv er) H) (aS 189 U)) (gXC (fun E H => (E = xIAE ∧ jrr a b = false ∧ va_P D vwCl (uw cA U rg c z rz hd ct rs dt mf mn tc tl to kd fi se ta nu lc ln sv er) H) ∨ (E = xUOE ∧ jrr a b = true ∧ (rfJ (zjn c)).isSome = true ∧ va_P D vwCl (uw cA U rg c z rz hd ct (((rfJ (zjn c)).getD (rs, dt)).1) (((rfJ (zjn c)).getD (rs, dt)).2) mf mn tc tl to kd fi se ta nu lc ln sv er) H)) (aS 189 U)) 1 6 (aS 189 U) := by
  refine gOfv (by decide) (Nat.le_of_ble_eq_true rfl) ?_
  intro p e s m below meth c9 ls hx hb hml hr hlk hown hts hte hP hK hE hl
  have hl : lv_has ls 3 [(0, .ref (U 0)), (1, .int (a)), (2, .int (b))] := hl
  have hz9 := hz
  obtain ⟨hjn, hcn, hrl, hrw, hck, htn⟩ := hz
  have hD : va_D (aS 189 U) (uw cA U rg c z rz hd ct rs dt mf mn tc tl to kd fi se ta nu lc ln sv er) := uwD hA
  have hS : va_S (aS 189 U) s.heap s.heap [] := va_S.rf
  skip
  refine lv_iload_n hx hb dX7_juror_0 rfl (lv_at hl 1 rfl) ?_
  refine lv_iload_n hx hb dX7_juror_1 rfl (lv_at hl 2 rfl) ?_
  refine rd_calle (va_runS (As := [.int (a), .int (b)]) (rest := []) ⟨hx, hb, hml, hown, hts⟩ (c_X7_isJurorRight l D cA (a) (b)) (cwS 2 hts (gWS gm_6_14 gm_6_15 gm_1_2 gm_6_16) rfl rfl rfl (by decide +kernel) ⟨Nat.le_of_ble_eq_true rfl, Nat.le_of_ble_eq_true rfl⟩) (gPreS hK trivial) rfl rfl hl.1 rfl (lv_room (Nat.le_of_ble_eq_true rfl)) dX7_juror_2 ⟨by omega, by omega⟩) ?_
  refine g_if_ne (P := jrr (a) (b) = false) (tgt := 18) hx hb dX7_juror_5 (by decide) b2i_0 (fun c_1 => ?_) (fun c_1 => ?_)
  · have c_1 : jrr (a) (b) = true := eq_true_of_ne_false c_1
    refine lv_aload_n hx hb dX7_juror_18 rfl (lv_at hl 0 rfl) ?_
    refine g_get (v := .ref (U 35)) hx hb hts hown hK hP 0 rfl rfl gu_wsX70 3 (by decide) gm_2_2 rfl dX7_juror_19 ?_
    refine lv_aload_n hx hb dX7_juror_22 rfl (lv_at hl 0 rfl) ?_
    refine g_get (v := .ref (U 1)) hx hb hts hown hK hP 0 rfl rfl gu_wsX70 0 (by decide) gm_1_17 rfl dX7_juror_23 ?_
    refine wr_calli (va_runV (As := [.ref (U 1)]) (rest := []) ⟨hx, hb, hml, hown, hts⟩ (c_X5_ofJuror l D cA (fun k => U (uRf k)) rs dt (zJ c) (zjn c) (zK c) (zrw c) (zcn c) (zrl c) (zck c) (ztn c) (zsd c) (aInj_m hA uRf uRf_lt uRf_in) hjn) (cwV 1 hts (gWV gm_6_17 gm_6_18 gm_6_19 gm_2_1 gm_6_20) rfl rfl rfl (by decide +kernel) ⟨Nat.le_of_ble_eq_true rfl, Nat.le_of_ble_eq_true rfl⟩) (gPreV hK (g_rf hK hP (ci := 7) (q0 := 35) rfl rfl) (hP.sub [35, 1, 2, 3, 4, 5, 6, 7, 8, 9, 10, 11, 12, 13, 14, 15, 16] rfl)) rfl rfl hl.1 rfl (lv_room (Nat.le_of_ble_eq_true rfl)) dX7_juror_26 ⟨by omega, by omega⟩) hS (fun q _ h => aS_m uRf_lt h) (fun q h => aS_m uRf_lt h) (fun r H locs hw9 hz9 hk9 hS => ?_)
    obtain ⟨rfl, hPn⟩ := hw9
    have hP : va_P D vwCl (uw cA U rg c z rz hd ct (((rfJ (zjn c)).getD (rs, dt)).1) (((rfJ (zjn c)).getD (rs, dt)).2) mf mn tc tl to kd fi se ta nu lc ln sv er) H := uw_R hA hP hPn hk9
    have hD : va_D (aS 189 U) (uw cA U rg c z rz hd ct (((rfJ (zjn c)).getD (rs, dt)).1) (((rfJ (zjn c)).getD (rs, dt)).2) mf mn tc tl to kd fi se ta nu lc ln sv er) := uwD hA
    refine g_if_eq (P := (rfJ (zjn c)).isSome = false) (tgt := 42) hx hb dX7_juror_29 (by decide) b2i_0 (fun c_2 => ?_) (fun c_2 => ?_)
    · have hno_3 : rfJ (zjn c) = none := Option.not_isSome_iff_eq_none.mp (by rw [c_2]; decide)
      rw [hno_3] at hP
      have hP : va_P D vwCl (uw cA U rg c z rz hd ct rs dt mf mn tc tl to kd fi se ta nu lc ln sv er) H := hP
      have hD : va_D (aS 189 U) (uw cA U rg c z rz hd ct rs dt mf mn tc tl to kd fi se ta nu lc ln sv er) := uwD hA
      have hj9 := lt9_of hno_3
      refine lv_aload_n hx hb dX7_juror_42 rfl (lv_at hl 0 rfl) ?_
      refine g_get (v := .ref (U 33)) hx hb hts hown hK hP 0 rfl rfl gu_wsX70 2 (by decide) gm_1_22 rfl dX7_juror_43 ?_
      refine lv_aload_n hx hb dX7_juror_46 rfl (lv_at hl 0 rfl) ?_
      refine g_get (v := .ref (U 1)) hx hb hts hown hK hP 0 rfl rfl gu_wsX70 0 (by decide) gm_1_17 rfl dX7_juror_47 ?_
      refine wr_callv (va_runV (As := [.ref (U 1)]) (rest := []) ⟨hx, hb, hml, hown, hts⟩ (c_X2_keep l D cA (fun k => U (uHf hd k)) rg hd ct (rz hd) c (aInj_m hA (uHf hd) (uHf_lt (by omega)) (uHf_in (by omega))) hh8 (hrg _ (by omega)) hc8) (cwV 1 hts (gWV gm_7_3 gm_7_4 gm_7_5 gm_1_21 gm_7_6) rfl rfl rfl (by decide +kernel) ⟨Nat.le_of_ble_eq_true rfl, Nat.le_of_ble_eq_true rfl⟩) (gPreV hK (g_rf hK hP (ci := 4) (q0 := 33) rfl rfl) (uw_toH hA (by omega) hP)) rfl rfl hl.1 rfl (lv_room (Nat.le_of_ble_eq_true rfl)) dX7_juror_50 ⟨by omega, by omega⟩) hS (fun q _ h => aS_m (uHf_lt (by omega)) h) (fun q h => aS_m (uHf_lt (by omega)) h) (fun H locs hPn hz9 hk9 hS => ?_)
      have hP : va_P D vwCl (uw cA U rg c z (va_up rz hd c) (hUp hd) (hCt ct) rs dt mf mn tc tl to kd fi se ta nu lc ln sv er) H := uw_H hA (by omega) hP hPn hk9
      have hD : va_D (aS 189 U) (uw cA U rg c z (va_up rz hd c) (hUp hd) (hCt ct) rs dt mf mn tc tl to kd fi se ta nu lc ln sv er) := uwD hA
      refine lv_aload_n hx hb dX7_juror_53 rfl (lv_at hl 0 rfl) ?_
      refine g_get (v := .ref (U 1)) hx hb hts hown hK hP 0 rfl rfl gu_wsX70 0 (by decide) gm_1_17 rfl dX7_juror_54 ?_
      refine g_get (v := .ref (U 2)) hx hb hts hown hK hP 1 rfl rfl gu_wsX10 0 (by decide) gm_6_13 rfl dX7_juror_57 ?_
      refine lv_iload_n hx hb dX7_juror_60 rfl (lv_at hl 1 rfl) ?_
      refine lv_iload_n hx hb dX7_juror_61 rfl (lv_at hl 2 rfl) ?_
      refine wr_calli (va_runV (As := [.int (a), .int (b)]) (rest := []) ⟨hx, hb, hml, hown, hts⟩ (c_X3_add l D cA (fun k => U (k + 2)) (zJ c) (zjn c) (a) (b) (aInj_s hA 2 (by decide)) (by omega)) (cwV 2 hts (gWV gm_8_12 gm_8_13 gm_8_14 gm_2_5 gm_8_15) rfl rfl rfl (by decide +kernel) ⟨Nat.le_of_ble_eq_true rfl, Nat.le_of_ble_eq_true rfl⟩) (gPreV hK (g_rf hK hP (ci := 5) (q0 := 2) rfl rfl) (hP.sub [2, 3, 4, 5, 6] rfl)) rfl rfl hl.1 rfl (lv_room (Nat.le_of_ble_eq_true rfl)) dX7_juror_62 ⟨by omega, by omega⟩) hS (fun q _ h => aS_up (m := 5) (a := 2) (by decide) h) (fun q h => aS_up (m := 5) (a := 2) (by decide) h) (fun r H locs hw9 hz9 hk9 hS => ?_)
      obtain ⟨rfl, hPn⟩ := hw9
      have hP : va_P D vwCl (uw cA U rg (zAddJ c a b) z (va_up rz hd c) (hUp hd) (hCt ct) rs dt mf mn tc tl to kd fi se ta nu lc ln sv er) H := uw_J hA hP hPn hk9
      have hD : va_D (aS 189 U) (uw cA U rg (zAddJ c a b) z (va_up rz hd c) (hUp hd) (hCt ct) rs dt mf mn tc tl to kd fi se ta nu lc ln sv er) := uwD hA
      exact vx_ret (W.widen (k := 1) (n := 6) (by decide) (by decide) (g_iretW (v := nI (zjn c)) hx hb hr hlk hS dX7_juror_65 (⟨c_1, hno_3, rfl, hP⟩)))
    · have c_2 : (rfJ (zjn c)).isSome = true := eq_true_of_ne_false c_2
      exact g_throwS hx hb hlt hE hFA hown (by decide +kernel) th_UOE (List.mem_of_getElem? (i := 1) rfl) hS (hl.1.trans hml.symm) dX7_juror_32 dX7_juror_35 dX7_juror_36 dX7_juror_38 dX7_juror_41 hte (by decide) (by decide) (by decide) (by decide) hlk (fun H1 hz8 hk8 => Or.inr (⟨rfl, c_1, c_2, vP_grow hP hk8⟩)) (by decide) (by decide)
  · exact g_throwS hx hb hlt hE hFA hown (by decide +kernel) th_IAE (List.mem_of_getElem? (i := 0) rfl) hS (hl.1.trans hml.symm) dX7_juror_8 dX7_juror_11 dX7_juror_12 dX7_juror_14 dX7_juror_17 hte (by decide) (by decide) (by decide) (by decide) hlk (fun H1 hz8 hk8 => Or.inl ⟨rfl, c_1, vP_grow hP hk8⟩) (by decide) (by decide)

set_option maxHeartbeats 1000000 in
set_option maxRecDepth 100000 in
theorem c_X7_bring (l : Launch) (hlt : l.stackTraces = false) (D : va_G) (cA : Nat → ClassId) (AE : Nat → Prop) (adK adV sa : Nat → Nat) (U : Nat → Nat) (rg : Nat → Option Nat) (c z : CS) (rz : Nat → CS) (hd ct : Nat) (rs dt : Int32) (mf : Nat → Nat → Int32) (mn : Nat) (tc : Nat → Nat) (tl to : Nat) (kd fi se : Int32) (ta : Nat) (nu : Int32) (lc : Nat → Int32) (ln : Nat) (sv : Bool) (er : Int32) (a b : Int32) (hA : aInj 189 U) (hFA : ∀ q, aS 189 U q → AE q) (hz : zOk c) (hrg : uRg U rg) (hh8 : hd ≤ 8) (hc8 : ct ≤ 8) : vx_Met l yX7_bring (gw yX7_bring cX7_bring 3 (some .int)) ({ frames := 6, cells := 1, slots := 6, locals := 144 } : Room) (gPx [.ref (U 0), .int (a), .int (b)] (fun H => va_P D vwCl (uw cA U rg c z rz hd ct rs dt mf mn tc tl to kd fi se ta nu lc ln sv er) H) D cA AE adK adV sa) (wrI (fun r H => csr a b = true ∧ rfK (zcn c) = none ∧ r = nI (zcn c) ∧ va_P D vwCl (uw cA U rg (zAddK c a b) z (va_up rz hd c) (hUp hd) (hCt ct) rs dt mf mn tc tl to kd fi se ta nu lc ln sv er) H) (aS 189 U)) (gXC (fun E H => (E = xIAE ∧ csr a b = false ∧ va_P D vwCl (uw cA U rg c z rz hd ct rs dt mf mn tc tl to kd fi se ta nu lc ln sv er) H) ∨ (E = xUOE ∧ csr a b = true ∧ (rfK (zcn c)).isSome = true ∧ va_P D vwCl (uw cA U rg c z rz hd ct (((rfK (zcn c)).getD (rs, dt)).1) (((rfK (zcn c)).getD (rs, dt)).2) mf mn tc tl to kd fi se ta nu lc ln sv er) H)) (aS 189 U)) 1 6 (aS 189 U) := by
  refine gOfv (by decide) (Nat.le_of_ble_eq_true rfl) ?_
  intro p e s m below meth c9 ls hx hb hml hr hlk hown hts hte hP hK hE hl
  have hl : lv_has ls 3 [(0, .ref (U 0)), (1, .int (a)), (2, .int (b))] := hl
  have hz9 := hz
  obtain ⟨hjn, hcn, hrl, hrw, hck, htn⟩ := hz
  have hD : va_D (aS 189 U) (uw cA U rg c z rz hd ct rs dt mf mn tc tl to kd fi se ta nu lc ln sv er) := uwD hA
  have hS : va_S (aS 189 U) s.heap s.heap [] := va_S.rf
  skip
  refine lv_iload_n hx hb dX7_bring_0 rfl (lv_at hl 1 rfl) ?_
  refine lv_iload_n hx hb dX7_bring_1 rfl (lv_at hl 2 rfl) ?_
  refine rd_calle (va_runS (As := [.int (a), .int (b)]) (rest := []) ⟨hx, hb, hml, hown, hts⟩ (c_X7_isCaseRight l D cA (a) (b)) (cwS 2 hts (gWS gm_10_8 gm_10_9 gm_1_2 gm_10_10) rfl rfl rfl (by decide +kernel) ⟨Nat.le_of_ble_eq_true rfl, Nat.le_of_ble_eq_true rfl⟩) (gPreS hK trivial) rfl rfl hl.1 rfl (lv_room (Nat.le_of_ble_eq_true rfl)) dX7_bring_2 ⟨by omega, by omega⟩) ?_
  refine g_if_ne (P := csr (a) (b) = false) (tgt := 18) hx hb dX7_bring_5 (by decide) b2i_0 (fun c_1 => ?_) (fun c_1 => ?_)
  · have c_1 : csr (a) (b) = true := eq_true_of_ne_false c_1
    refine lv_aload_n hx hb dX7_bring_18 rfl (lv_at hl 0 rfl) ?_
    refine g_get (v := .ref (U 35)) hx hb hts hown hK hP 0 rfl rfl gu_wsX70 3 (by decide) gm_2_2 rfl dX7_bring_19 ?_
    refine lv_aload_n hx hb dX7_bring_22 rfl (lv_at hl 0 rfl) ?_
    refine g_get (v := .ref (U 1)) hx hb hts hown hK hP 0 rfl rfl gu_wsX70 0 (by decide) gm_1_17 rfl dX7_bring_23 ?_
    refine wr_calli (va_runV (As := [.ref (U 1)]) (rest := []) ⟨hx, hb, hml, hown, hts⟩ (c_X5_ofCase l D cA (fun k => U (uRf k)) rs dt (zJ c) (zjn c) (zK c) (zrw c) (zcn c) (zrl c) (zck c) (ztn c) (zsd c) (aInj_m hA uRf uRf_lt uRf_in) hcn) (cwV 1 hts (gWV gm_10_11 gm_10_12 gm_10_13 gm_2_1 gm_10_14) rfl rfl rfl (by decide +kernel) ⟨Nat.le_of_ble_eq_true rfl, Nat.le_of_ble_eq_true rfl⟩) (gPreV hK (g_rf hK hP (ci := 7) (q0 := 35) rfl rfl) (hP.sub [35, 1, 2, 3, 4, 5, 6, 7, 8, 9, 10, 11, 12, 13, 14, 15, 16] rfl)) rfl rfl hl.1 rfl (lv_room (Nat.le_of_ble_eq_true rfl)) dX7_bring_26 ⟨by omega, by omega⟩) hS (fun q _ h => aS_m uRf_lt h) (fun q h => aS_m uRf_lt h) (fun r H locs hw9 hz9 hk9 hS => ?_)
    obtain ⟨rfl, hPn⟩ := hw9
    have hP : va_P D vwCl (uw cA U rg c z rz hd ct (((rfK (zcn c)).getD (rs, dt)).1) (((rfK (zcn c)).getD (rs, dt)).2) mf mn tc tl to kd fi se ta nu lc ln sv er) H := uw_R hA hP hPn hk9
    have hD : va_D (aS 189 U) (uw cA U rg c z rz hd ct (((rfK (zcn c)).getD (rs, dt)).1) (((rfK (zcn c)).getD (rs, dt)).2) mf mn tc tl to kd fi se ta nu lc ln sv er) := uwD hA
    refine g_if_eq (P := (rfK (zcn c)).isSome = false) (tgt := 42) hx hb dX7_bring_29 (by decide) b2i_0 (fun c_2 => ?_) (fun c_2 => ?_)
    · have hno_3 : rfK (zcn c) = none := Option.not_isSome_iff_eq_none.mp (by rw [c_2]; decide)
      rw [hno_3] at hP
      have hP : va_P D vwCl (uw cA U rg c z rz hd ct rs dt mf mn tc tl to kd fi se ta nu lc ln sv er) H := hP
      have hD : va_D (aS 189 U) (uw cA U rg c z rz hd ct rs dt mf mn tc tl to kd fi se ta nu lc ln sv er) := uwD hA
      have hj9 := lt10_of hno_3
      refine lv_aload_n hx hb dX7_bring_42 rfl (lv_at hl 0 rfl) ?_
      refine g_get (v := .ref (U 33)) hx hb hts hown hK hP 0 rfl rfl gu_wsX70 2 (by decide) gm_1_22 rfl dX7_bring_43 ?_
      refine lv_aload_n hx hb dX7_bring_46 rfl (lv_at hl 0 rfl) ?_
      refine g_get (v := .ref (U 1)) hx hb hts hown hK hP 0 rfl rfl gu_wsX70 0 (by decide) gm_1_17 rfl dX7_bring_47 ?_
      refine wr_callv (va_runV (As := [.ref (U 1)]) (rest := []) ⟨hx, hb, hml, hown, hts⟩ (c_X2_keep l D cA (fun k => U (uHf hd k)) rg hd ct (rz hd) c (aInj_m hA (uHf hd) (uHf_lt (by omega)) (uHf_in (by omega))) hh8 (hrg _ (by omega)) hc8) (cwV 1 hts (gWV gm_7_3 gm_7_4 gm_7_5 gm_1_21 gm_7_6) rfl rfl rfl (by decide +kernel) ⟨Nat.le_of_ble_eq_true rfl, Nat.le_of_ble_eq_true rfl⟩) (gPreV hK (g_rf hK hP (ci := 4) (q0 := 33) rfl rfl) (uw_toH hA (by omega) hP)) rfl rfl hl.1 rfl (lv_room (Nat.le_of_ble_eq_true rfl)) dX7_bring_50 ⟨by omega, by omega⟩) hS (fun q _ h => aS_m (uHf_lt (by omega)) h) (fun q h => aS_m (uHf_lt (by omega)) h) (fun H locs hPn hz9 hk9 hS => ?_)
      have hP : va_P D vwCl (uw cA U rg c z (va_up rz hd c) (hUp hd) (hCt ct) rs dt mf mn tc tl to kd fi se ta nu lc ln sv er) H := uw_H hA (by omega) hP hPn hk9
      have hD : va_D (aS 189 U) (uw cA U rg c z (va_up rz hd c) (hUp hd) (hCt ct) rs dt mf mn tc tl to kd fi se ta nu lc ln sv er) := uwD hA
      refine lv_aload_n hx hb dX7_bring_53 rfl (lv_at hl 0 rfl) ?_
      refine g_get (v := .ref (U 1)) hx hb hts hown hK hP 0 rfl rfl gu_wsX70 0 (by decide) gm_1_17 rfl dX7_bring_54 ?_
      refine g_get (v := .ref (U 7)) hx hb hts hown hK hP 1 rfl rfl gu_wsX10 1 (by decide) gm_10_7 rfl dX7_bring_57 ?_
      refine lv_iload_n hx hb dX7_bring_60 rfl (lv_at hl 1 rfl) ?_
      refine lv_iload_n hx hb dX7_bring_61 rfl (lv_at hl 2 rfl) ?_
      refine wr_calli (va_runV (As := [.int (a), .int (b)]) (rest := []) ⟨hx, hb, hml, hown, hts⟩ (c_X0_add l D cA (fun k => U (k + 7)) (zK c) (zrw c) (zcn c) (zrl c) (a) (b) (aInj_s hA 7 (by decide)) (by omega)) (cwV 2 hts (gWV gm_10_17 gm_10_18 gm_10_19 gm_3_0 gm_10_20) rfl rfl rfl (by decide +kernel) ⟨Nat.le_of_ble_eq_true rfl, Nat.le_of_ble_eq_true rfl⟩) (gPreV hK (g_rf hK hP (ci := 2) (q0 := 7) rfl rfl) (hP.sub [7, 8, 9, 10, 11, 12, 13, 14, 15, 16] rfl)) rfl rfl hl.1 rfl (lv_room (Nat.le_of_ble_eq_true rfl)) dX7_bring_62 ⟨by omega, by omega⟩) hS (fun q _ h => aS_up (m := 10) (a := 7) (by decide) h) (fun q h => aS_up (m := 10) (a := 7) (by decide) h) (fun r H locs hw9 hz9 hk9 hS => ?_)
      obtain ⟨rfl, hPn⟩ := hw9
      have hP : va_P D vwCl (uw cA U rg (zAddK c a b) z (va_up rz hd c) (hUp hd) (hCt ct) rs dt mf mn tc tl to kd fi se ta nu lc ln sv er) H := uw_K hA hP hPn hk9
      have hD : va_D (aS 189 U) (uw cA U rg (zAddK c a b) z (va_up rz hd c) (hUp hd) (hCt ct) rs dt mf mn tc tl to kd fi se ta nu lc ln sv er) := uwD hA
      exact vx_ret (W.widen (k := 1) (n := 6) (by decide) (by decide) (g_iretW (v := nI (zcn c)) hx hb hr hlk hS dX7_bring_65 (⟨c_1, hno_3, rfl, hP⟩)))
    · have c_2 : (rfK (zcn c)).isSome = true := eq_true_of_ne_false c_2
      exact g_throwS hx hb hlt hE hFA hown (by decide +kernel) th_UOE (List.mem_of_getElem? (i := 3) rfl) hS (hl.1.trans hml.symm) dX7_bring_32 dX7_bring_35 dX7_bring_36 dX7_bring_38 dX7_bring_41 hte (by decide) (by decide) (by decide) (by decide) hlk (fun H1 hz8 hk8 => Or.inr (⟨rfl, c_1, c_2, vP_grow hP hk8⟩)) (by decide) (by decide)
  · exact g_throwS hx hb hlt hE hFA hown (by decide +kernel) th_IAE (List.mem_of_getElem? (i := 2) rfl) hS (hl.1.trans hml.symm) dX7_bring_8 dX7_bring_11 dX7_bring_12 dX7_bring_14 dX7_bring_17 hte (by decide) (by decide) (by decide) (by decide) hlk (fun H1 hz8 hk8 => Or.inl ⟨rfl, c_1, vP_grow hP hk8⟩) (by decide) (by decide)

set_option maxHeartbeats 1000000 in
set_option maxRecDepth 100000 in
theorem c_X7_call (l : Launch) (hlt : l.stackTraces = false) (D : va_G) (cA : Nat → ClassId) (AE : Nat → Prop) (adK adV sa : Nat → Nat) (U : Nat → Nat) (rg : Nat → Option Nat) (c z : CS) (rz : Nat → CS) (hd ct : Nat) (rs dt : Int32) (mf : Nat → Nat → Int32) (mn : Nat) (tc : Nat → Nat) (tl to : Nat) (kd fi se : Int32) (ta : Nat) (nu : Int32) (lc : Nat → Int32) (ln : Nat) (sv : Bool) (er : Int32) (v : Int32) (hA : aInj 189 U) (hFA : ∀ q, aS 189 U q → AE q) (hz : zOk c) (hrg : uRg U rg) (hh8 : hd ≤ 8) (hc8 : ct ≤ 8) (hlo : ∀ q, q < zcn c → hpF (zK c) q = true → fnd (hs (zK c 2 q)) (zjn c) ≠ none) (hr9 : ∀ q, q < zcn c → rfCall (zK c) (zjn c) (zcn c) q = none → zrl c ≤ 9) : vx_Met l yX7_call (gw yX7_call cX7_call 2 (some .int)) ({ frames := 6, cells := 1, slots := 6, locals := 144 } : Room) (gPx [.ref (U 0), .int (v)] (fun H => va_P D vwCl (uw cA U rg c z rz hd ct rs dt mf mn tc tl to kd fi se ta nu lc ln sv er) H) D cA AE adK adV sa) (wrI (fun r H => ∃ q : Nat, q < zcn c ∧ v = nI q ∧ rfCall (zK c) (zjn c) (zcn c) q = none ∧ r = zPan c ∧ va_P D vwCl (uw cA U rg (zCall c q) z (va_up rz hd c) (hUp hd) (hCt ct) rs dt mf mn tc tl to kd fi se ta nu lc ln sv er) H) (aS 189 U)) (gXC (fun E H => (E = xIOB ∧ isIx v (zcn c) = false ∧ va_P D vwCl (uw cA U rg c z rz hd ct rs dt mf mn tc tl to kd fi se ta nu lc ln sv er) H) ∨ (E = xUOE ∧ ∃ q : Nat, q < zcn c ∧ v = nI q ∧ (rfCall (zK c) (zjn c) (zcn c) q).isSome = true ∧ va_P D vwCl (uw cA U rg c z rz hd ct (((rfCall (zK c) (zjn c) (zcn c) q).getD (rs, dt)).1) (((rfCall (zK c) (zjn c) (zcn c) q).getD (rs, dt)).2) mf mn tc tl to kd fi se ta nu lc ln sv er) H)) (aS 189 U)) 1 6 (aS 189 U) := by
  refine gOfv (by decide) (Nat.le_of_ble_eq_true rfl) ?_
  intro p e s m below meth c9 ls hx hb hml hr hlk hown hts hte hP hK hE hl
  have hl : lv_has ls 2 [(0, .ref (U 0)), (1, .int (v))] := hl
  have hz9 := hz
  obtain ⟨hjn, hcn, hrl, hrw, hck, htn⟩ := hz
  have hD : va_D (aS 189 U) (uw cA U rg c z rz hd ct rs dt mf mn tc tl to kd fi se ta nu lc ln sv er) := uwD hA
  have hS : va_S (aS 189 U) s.heap s.heap [] := va_S.rf
  skip
  refine lv_aload_n hx hb dX7_call_0 rfl (lv_at hl 0 rfl) ?_
  refine g_get (v := .ref (U 1)) hx hb hts hown hK hP 0 rfl rfl gu_wsX70 0 (by decide) gm_1_17 rfl dX7_call_1 ?_
  refine g_get (v := .ref (U 7)) hx hb hts hown hK hP 1 rfl rfl gu_wsX10 1 (by decide) gm_10_7 rfl dX7_call_4 ?_
  refine lv_iload_n hx hb dX7_call_7 rfl (lv_at hl 1 rfl) ?_
  refine rd_calle (va_runV (As := [.int (v)]) (rest := []) ⟨hx, hb, hml, hown, hts⟩ (c_X0_has l D cA (fun k => U (k + 7)) (zK c) (zrw c) (zcn c) (zrl c) (v) hcn) (cwV 1 hts (gWV gm_11_15 gm_11_16 gm_11_17 gm_3_0 gm_11_18) rfl rfl rfl (by decide +kernel) ⟨Nat.le_of_ble_eq_true rfl, Nat.le_of_ble_eq_true rfl⟩) (gPreV hK (g_rf hK hP (ci := 2) (q0 := 7) rfl rfl) (hP.sub [7, 8, 9, 10, 11, 12, 13, 14, 15, 16] rfl)) rfl rfl hl.1 rfl (lv_room (Nat.le_of_ble_eq_true rfl)) dX7_call_8 ⟨by omega, by omega⟩) ?_
  refine g_if_ne (P := isIx (v) (zcn c) = false) (tgt := 24) hx hb dX7_call_11 (by decide) b2i_0 (fun c_1 => ?_) (fun c_1 => ?_)
  · have c_1 : isIx (v) (zcn c) = true := eq_true_of_ne_false c_1
    obtain ⟨j_2, hj_4, ej_3⟩ := isIx_n c_1 (by omega)
    rw [ej_3] at hl
    have hl : lv_has ls 2 [(0, .ref (U 0)), (1, .int (nI (j_2)))] := hl
    refine lv_aload_n hx hb dX7_call_24 rfl (lv_at hl 0 rfl) ?_
    refine g_get (v := .ref (U 35)) hx hb hts hown hK hP 0 rfl rfl gu_wsX70 3 (by decide) gm_2_2 rfl dX7_call_25 ?_
    refine lv_aload_n hx hb dX7_call_28 rfl (lv_at hl 0 rfl) ?_
    refine g_get (v := .ref (U 1)) hx hb hts hown hK hP 0 rfl rfl gu_wsX70 0 (by decide) gm_1_17 rfl dX7_call_29 ?_
    refine lv_iload_n hx hb dX7_call_32 rfl (lv_at hl 1 rfl) ?_
    refine wr_calli (va_runV (As := [.ref (U 1), .int (nI (j_2))]) (rest := []) ⟨hx, hb, hml, hown, hts⟩ (c_X5_ofCall l D cA (fun k => U (uRf k)) rs dt (zJ c) (zjn c) (zK c) (zrw c) (zcn c) (zrl c) (zck c) (ztn c) (zsd c) (j_2) (aInj_m hA uRf uRf_lt uRf_in) hjn hcn (by omega) (hlo j_2 (by assumption))) (cwV 2 hts (gWV gm_11_19 gm_11_20 gm_11_21 gm_2_1 gm_11_22) rfl rfl rfl (by decide +kernel) ⟨Nat.le_of_ble_eq_true rfl, Nat.le_of_ble_eq_true rfl⟩) (gPreV hK (g_rf hK hP (ci := 7) (q0 := 35) rfl rfl) (hP.sub [35, 1, 2, 3, 4, 5, 6, 7, 8, 9, 10, 11, 12, 13, 14, 15, 16] rfl)) rfl rfl hl.1 rfl (lv_room (Nat.le_of_ble_eq_true rfl)) dX7_call_33 ⟨by omega, by omega⟩) hS (fun q _ h => aS_m uRf_lt h) (fun q h => aS_m uRf_lt h) (fun r H locs hw9 hz9 hk9 hS => ?_)
    obtain ⟨rfl, hPn⟩ := hw9
    have hP : va_P D vwCl (uw cA U rg c z rz hd ct (((rfCall (zK c) (zjn c) (zcn c) (j_2)).getD (rs, dt)).1) (((rfCall (zK c) (zjn c) (zcn c) (j_2)).getD (rs, dt)).2) mf mn tc tl to kd fi se ta nu lc ln sv er) H := uw_R hA hP hPn hk9
    have hD : va_D (aS 189 U) (uw cA U rg c z rz hd ct (((rfCall (zK c) (zjn c) (zcn c) (j_2)).getD (rs, dt)).1) (((rfCall (zK c) (zjn c) (zcn c) (j_2)).getD (rs, dt)).2) mf mn tc tl to kd fi se ta nu lc ln sv er) := uwD hA
    refine g_if_eq (P := (rfCall (zK c) (zjn c) (zcn c) (j_2)).isSome = false) (tgt := 49) hx hb dX7_call_36 (by decide) b2i_0 (fun c_5 => ?_) (fun c_5 => ?_)
    · have hno_6 : rfCall (zK c) (zjn c) (zcn c) (j_2) = none := Option.not_isSome_iff_eq_none.mp (by rw [c_5]; decide)
      rw [hno_6] at hP
      have hP : va_P D vwCl (uw cA U rg c z rz hd ct rs dt mf mn tc tl to kd fi se ta nu lc ln sv er) H := hP
      have hD : va_D (aS 189 U) (uw cA U rg c z rz hd ct rs dt mf mn tc tl to kd fi se ta nu lc ln sv er) := uwD hA
      have hr8 := hr9 j_2 hj_4 hno_6
      refine lv_aload_n hx hb dX7_call_49 rfl (lv_at hl 0 rfl) ?_
      refine g_get (v := .ref (U 33)) hx hb hts hown hK hP 0 rfl rfl gu_wsX70 2 (by decide) gm_1_22 rfl dX7_call_50 ?_
      refine lv_aload_n hx hb dX7_call_53 rfl (lv_at hl 0 rfl) ?_
      refine g_get (v := .ref (U 1)) hx hb hts hown hK hP 0 rfl rfl gu_wsX70 0 (by decide) gm_1_17 rfl dX7_call_54 ?_
      refine wr_callv (va_runV (As := [.ref (U 1)]) (rest := []) ⟨hx, hb, hml, hown, hts⟩ (c_X2_keep l D cA (fun k => U (uHf hd k)) rg hd ct (rz hd) c (aInj_m hA (uHf hd) (uHf_lt (by omega)) (uHf_in (by omega))) hh8 (hrg _ (by omega)) hc8) (cwV 1 hts (gWV gm_7_3 gm_7_4 gm_7_5 gm_1_21 gm_7_6) rfl rfl rfl (by decide +kernel) ⟨Nat.le_of_ble_eq_true rfl, Nat.le_of_ble_eq_true rfl⟩) (gPreV hK (g_rf hK hP (ci := 4) (q0 := 33) rfl rfl) (uw_toH hA (by omega) hP)) rfl rfl hl.1 rfl (lv_room (Nat.le_of_ble_eq_true rfl)) dX7_call_57 ⟨by omega, by omega⟩) hS (fun q _ h => aS_m (uHf_lt (by omega)) h) (fun q h => aS_m (uHf_lt (by omega)) h) (fun H locs hPn hz9 hk9 hS => ?_)
      have hP : va_P D vwCl (uw cA U rg c z (va_up rz hd c) (hUp hd) (hCt ct) rs dt mf mn tc tl to kd fi se ta nu lc ln sv er) H := uw_H hA (by omega) hP hPn hk9
      have hD : va_D (aS 189 U) (uw cA U rg c z (va_up rz hd c) (hUp hd) (hCt ct) rs dt mf mn tc tl to kd fi se ta nu lc ln sv er) := uwD hA
      refine lv_aload_n hx hb dX7_call_60 rfl (lv_at hl 0 rfl) ?_
      refine g_get (v := .ref (U 1)) hx hb hts hown hK hP 0 rfl rfl gu_wsX70 0 (by decide) gm_1_17 rfl dX7_call_61 ?_
      refine lv_iload_n hx hb dX7_call_64 rfl (lv_at hl 1 rfl) ?_
      refine wr_calli (va_runV (As := [.int (nI (j_2))]) (rest := []) ⟨hx, hb, hml, hown, hts⟩ (c_X1_callPanel l D cA (fun k => U (k + 1)) (zJ c) (zjn c) (zK c) (zrw c) (zcn c) (zrl c) (zck c) (ztn c) (zsd c) (j_2) (aInj_s hA 1 (by decide)) hjn hcn (by omega) hrw (by omega)) (cwV 1 hts (gWV gm_13_2 gm_13_3 gm_13_4 gm_1_16 gm_13_5) rfl rfl rfl (by decide +kernel) ⟨Nat.le_of_ble_eq_true rfl, Nat.le_of_ble_eq_true rfl⟩) (gPreV hK (g_rf hK hP (ci := 3) (q0 := 1) rfl rfl) (hP.sub [1, 2, 3, 4, 5, 6, 7, 8, 9, 10, 11, 12, 13, 14, 15, 16] rfl)) rfl rfl hl.1 rfl (lv_room (Nat.le_of_ble_eq_true rfl)) dX7_call_65 ⟨by omega, by omega⟩) hS (fun q _ h => aS_up (m := 16) (a := 1) (by decide) h) (fun q h => aS_up (m := 16) (a := 1) (by decide) h) (fun r H locs hw9 hz9 hk9 hS => ?_)
      obtain ⟨rfl, hPn⟩ := hw9
      have hP : va_P D vwCl (uw cA U rg (zCall c j_2) z (va_up rz hd c) (hUp hd) (hCt ct) rs dt mf mn tc tl to kd fi se ta nu lc ln sv er) H := uw_C hA hP hPn hk9
      have hD : va_D (aS 189 U) (uw cA U rg (zCall c j_2) z (va_up rz hd c) (hUp hd) (hCt ct) rs dt mf mn tc tl to kd fi se ta nu lc ln sv er) := uwD hA
      exact vx_ret (W.widen (k := 1) (n := 6) (by decide) (by decide) (g_iretW (v := zPan c) hx hb hr hlk hS dX7_call_68 (⟨j_2, hj_4, ej_3, hno_6, rfl, hP⟩)))
    · have c_5 : (rfCall (zK c) (zjn c) (zcn c) (j_2)).isSome = true := eq_true_of_ne_false c_5
      exact g_throwS hx hb hlt hE hFA hown (by decide +kernel) th_UOE (List.mem_of_getElem? (i := 5) rfl) hS (hl.1.trans hml.symm) dX7_call_39 dX7_call_42 dX7_call_43 dX7_call_45 dX7_call_48 hte (by decide) (by decide) (by decide) (by decide) hlk (fun H1 hz8 hk8 => Or.inr (⟨rfl, j_2, hj_4, ej_3, c_5, vP_grow hP hk8⟩)) (by decide) (by decide)
  · exact g_throwS hx hb hlt hE hFA hown (by decide +kernel) th_IOB (List.mem_of_getElem? (i := 4) rfl) hS (hl.1.trans hml.symm) dX7_call_14 dX7_call_17 dX7_call_18 dX7_call_20 dX7_call_23 hte (by decide) (by decide) (by decide) (by decide) hlk (fun H1 hz8 hk8 => Or.inl ⟨rfl, c_1, vP_grow hP hk8⟩) (by decide) (by decide)

set_option maxHeartbeats 1000000 in
set_option maxRecDepth 100000 in
theorem c_X7_vote (l : Launch) (hlt : l.stackTraces = false) (D : va_G) (cA : Nat → ClassId) (AE : Nat → Prop) (adK adV sa : Nat → Nat) (U : Nat → Nat) (rg : Nat → Option Nat) (c z : CS) (rz : Nat → CS) (hd ct : Nat) (rs dt : Int32) (mf : Nat → Nat → Int32) (mn : Nat) (tc : Nat → Nat) (tl to : Nat) (kd fi se : Int32) (ta : Nat) (nu : Int32) (lc : Nat → Int32) (ln : Nat) (sv : Bool) (er : Int32) (v : Int32) (hA : aInj 189 U) (hFA : ∀ q, aS 189 U q → AE q) (hz : zOk c) (hrg : uRg U rg) (hh8 : hd ≤ 8) (hc8 : ct ≤ 8) : vx_Met l yX7_vote (gw yX7_vote cX7_vote 2 (some .int)) ({ frames := 6, cells := 1, slots := 6, locals := 144 } : Room) (gPx [.ref (U 0), .int (v)] (fun H => va_P D vwCl (uw cA U rg c z rz hd ct rs dt mf mn tc tl to kd fi se ta nu lc ln sv er) H) D cA AE adK adV sa) (wrI (fun r H => ∃ q : Nat, q < zcn c ∧ v = nI q ∧ rfVote (zK c) q = none ∧ r = nI (zVd c q) ∧ va_P D vwCl (uw cA U rg (zSay c q) z (va_up rz hd c) (hUp hd) (hCt ct) rs dt mf mn tc tl to kd fi se ta nu lc ln sv er) H) (aS 189 U)) (gXC (fun E H => (E = xIOB ∧ isIx v (zcn c) = false ∧ va_P D vwCl (uw cA U rg c z rz hd ct rs dt mf mn tc tl to kd fi se ta nu lc ln sv er) H) ∨ (E = xUOE ∧ ∃ q : Nat, q < zcn c ∧ v = nI q ∧ (rfVote (zK c) q).isSome = true ∧ va_P D vwCl (uw cA U rg c z rz hd ct (((rfVote (zK c) q).getD (rs, dt)).1) (((rfVote (zK c) q).getD (rs, dt)).2) mf mn tc tl to kd fi se ta nu lc ln sv er) H)) (aS 189 U)) 1 6 (aS 189 U) := by
  refine gOfv (by decide) (Nat.le_of_ble_eq_true rfl) ?_
  intro p e s m below meth c9 ls hx hb hml hr hlk hown hts hte hP hK hE hl
  have hl : lv_has ls 2 [(0, .ref (U 0)), (1, .int (v))] := hl
  have hz9 := hz
  obtain ⟨hjn, hcn, hrl, hrw, hck, htn⟩ := hz
  have hD : va_D (aS 189 U) (uw cA U rg c z rz hd ct rs dt mf mn tc tl to kd fi se ta nu lc ln sv er) := uwD hA
  have hS : va_S (aS 189 U) s.heap s.heap [] := va_S.rf
  skip
  refine lv_aload_n hx hb dX7_vote_0 rfl (lv_at hl 0 rfl) ?_
  refine g_get (v := .ref (U 1)) hx hb hts hown hK hP 0 rfl rfl gu_wsX70 0 (by decide) gm_1_17 rfl dX7_vote_1 ?_
  refine g_get (v := .ref (U 7)) hx hb hts hown hK hP 1 rfl rfl gu_wsX10 1 (by decide) gm_10_7 rfl dX7_vote_4 ?_
  refine lv_iload_n hx hb dX7_vote_7 rfl (lv_at hl 1 rfl) ?_
  refine rd_calle (va_runV (As := [.int (v)]) (rest := []) ⟨hx, hb, hml, hown, hts⟩ (c_X0_has l D cA (fun k => U (k + 7)) (zK c) (zrw c) (zcn c) (zrl c) (v) hcn) (cwV 1 hts (gWV gm_11_15 gm_11_16 gm_11_17 gm_3_0 gm_11_18) rfl rfl rfl (by decide +kernel) ⟨Nat.le_of_ble_eq_true rfl, Nat.le_of_ble_eq_true rfl⟩) (gPreV hK (g_rf hK hP (ci := 2) (q0 := 7) rfl rfl) (hP.sub [7, 8, 9, 10, 11, 12, 13, 14, 15, 16] rfl)) rfl rfl hl.1 rfl (lv_room (Nat.le_of_ble_eq_true rfl)) dX7_vote_8 ⟨by omega, by omega⟩) ?_
  refine g_if_ne (P := isIx (v) (zcn c) = false) (tgt := 24) hx hb dX7_vote_11 (by decide) b2i_0 (fun c_1 => ?_) (fun c_1 => ?_)
  · have c_1 : isIx (v) (zcn c) = true := eq_true_of_ne_false c_1
    obtain ⟨j_2, hj_4, ej_3⟩ := isIx_n c_1 (by omega)
    rw [ej_3] at hl
    have hl : lv_has ls 2 [(0, .ref (U 0)), (1, .int (nI (j_2)))] := hl
    refine lv_aload_n hx hb dX7_vote_24 rfl (lv_at hl 0 rfl) ?_
    refine g_get (v := .ref (U 35)) hx hb hts hown hK hP 0 rfl rfl gu_wsX70 3 (by decide) gm_2_2 rfl dX7_vote_25 ?_
    refine lv_aload_n hx hb dX7_vote_28 rfl (lv_at hl 0 rfl) ?_
    refine g_get (v := .ref (U 1)) hx hb hts hown hK hP 0 rfl rfl gu_wsX70 0 (by decide) gm_1_17 rfl dX7_vote_29 ?_
    refine lv_iload_n hx hb dX7_vote_32 rfl (lv_at hl 1 rfl) ?_
    refine wr_calli (va_runV (As := [.ref (U 1), .int (nI (j_2))]) (rest := []) ⟨hx, hb, hml, hown, hts⟩ (c_X5_ofVote l D cA (fun k => U (uRf k)) rs dt (zJ c) (zjn c) (zK c) (zrw c) (zcn c) (zrl c) (zck c) (ztn c) (zsd c) (j_2) (aInj_m hA uRf uRf_lt uRf_in) (by omega)) (cwV 2 hts (gWV gm_15_20 gm_15_21 gm_15_22 gm_2_1 gm_15_23) rfl rfl rfl (by decide +kernel) ⟨Nat.le_of_ble_eq_true rfl, Nat.le_of_ble_eq_true rfl⟩) (gPreV hK (g_rf hK hP (ci := 7) (q0 := 35) rfl rfl) (hP.sub [35, 1, 2, 3, 4, 5, 6, 7, 8, 9, 10, 11, 12, 13, 14, 15, 16] rfl)) rfl rfl hl.1 rfl (lv_room (Nat.le_of_ble_eq_true rfl)) dX7_vote_33 ⟨by omega, by omega⟩) hS (fun q _ h => aS_m uRf_lt h) (fun q h => aS_m uRf_lt h) (fun r H locs hw9 hz9 hk9 hS => ?_)
    obtain ⟨rfl, hPn⟩ := hw9
    have hP : va_P D vwCl (uw cA U rg c z rz hd ct (((rfVote (zK c) (j_2)).getD (rs, dt)).1) (((rfVote (zK c) (j_2)).getD (rs, dt)).2) mf mn tc tl to kd fi se ta nu lc ln sv er) H := uw_R hA hP hPn hk9
    have hD : va_D (aS 189 U) (uw cA U rg c z rz hd ct (((rfVote (zK c) (j_2)).getD (rs, dt)).1) (((rfVote (zK c) (j_2)).getD (rs, dt)).2) mf mn tc tl to kd fi se ta nu lc ln sv er) := uwD hA
    refine g_if_eq (P := (rfVote (zK c) (j_2)).isSome = false) (tgt := 49) hx hb dX7_vote_36 (by decide) b2i_0 (fun c_5 => ?_) (fun c_5 => ?_)
    · have hno_6 : rfVote (zK c) (j_2) = none := Option.not_isSome_iff_eq_none.mp (by rw [c_5]; decide)
      rw [hno_6] at hP
      have hP : va_P D vwCl (uw cA U rg c z rz hd ct rs dt mf mn tc tl to kd fi se ta nu lc ln sv er) H := hP
      have hD : va_D (aS 189 U) (uw cA U rg c z rz hd ct rs dt mf mn tc tl to kd fi se ta nu lc ln sv er) := uwD hA
      refine lv_aload_n hx hb dX7_vote_49 rfl (lv_at hl 0 rfl) ?_
      refine g_get (v := .ref (U 33)) hx hb hts hown hK hP 0 rfl rfl gu_wsX70 2 (by decide) gm_1_22 rfl dX7_vote_50 ?_
      refine lv_aload_n hx hb dX7_vote_53 rfl (lv_at hl 0 rfl) ?_
      refine g_get (v := .ref (U 1)) hx hb hts hown hK hP 0 rfl rfl gu_wsX70 0 (by decide) gm_1_17 rfl dX7_vote_54 ?_
      refine wr_callv (va_runV (As := [.ref (U 1)]) (rest := []) ⟨hx, hb, hml, hown, hts⟩ (c_X2_keep l D cA (fun k => U (uHf hd k)) rg hd ct (rz hd) c (aInj_m hA (uHf hd) (uHf_lt (by omega)) (uHf_in (by omega))) hh8 (hrg _ (by omega)) hc8) (cwV 1 hts (gWV gm_7_3 gm_7_4 gm_7_5 gm_1_21 gm_7_6) rfl rfl rfl (by decide +kernel) ⟨Nat.le_of_ble_eq_true rfl, Nat.le_of_ble_eq_true rfl⟩) (gPreV hK (g_rf hK hP (ci := 4) (q0 := 33) rfl rfl) (uw_toH hA (by omega) hP)) rfl rfl hl.1 rfl (lv_room (Nat.le_of_ble_eq_true rfl)) dX7_vote_57 ⟨by omega, by omega⟩) hS (fun q _ h => aS_m (uHf_lt (by omega)) h) (fun q h => aS_m (uHf_lt (by omega)) h) (fun H locs hPn hz9 hk9 hS => ?_)
      have hP : va_P D vwCl (uw cA U rg c z (va_up rz hd c) (hUp hd) (hCt ct) rs dt mf mn tc tl to kd fi se ta nu lc ln sv er) H := uw_H hA (by omega) hP hPn hk9
      have hD : va_D (aS 189 U) (uw cA U rg c z (va_up rz hd c) (hUp hd) (hCt ct) rs dt mf mn tc tl to kd fi se ta nu lc ln sv er) := uwD hA
      refine lv_aload_n hx hb dX7_vote_60 rfl (lv_at hl 0 rfl) ?_
      refine g_get (v := .ref (U 1)) hx hb hts hown hK hP 0 rfl rfl gu_wsX70 0 (by decide) gm_1_17 rfl dX7_vote_61 ?_
      refine lv_iload_n hx hb dX7_vote_64 rfl (lv_at hl 1 rfl) ?_
      refine wr_calli (va_runV (As := [.int (nI (j_2))]) (rest := []) ⟨hx, hb, hml, hown, hts⟩ (c_X1_sayVerdict l D cA (fun k => U (k + 1)) (zJ c) (zjn c) (zK c) (zrw c) (zcn c) (zrl c) (zck c) (ztn c) (zsd c) (j_2) (aInj_s hA 1 (by decide)) hjn hcn hrl hrw (by omega)) (cwV 1 hts (gWV gm_16_8 gm_16_9 gm_16_10 gm_1_16 gm_16_11) rfl rfl rfl (by decide +kernel) ⟨Nat.le_of_ble_eq_true rfl, Nat.le_of_ble_eq_true rfl⟩) (gPreV hK (g_rf hK hP (ci := 3) (q0 := 1) rfl rfl) (hP.sub [1, 2, 3, 4, 5, 6, 7, 8, 9, 10, 11, 12, 13, 14, 15, 16] rfl)) rfl rfl hl.1 rfl (lv_room (Nat.le_of_ble_eq_true rfl)) dX7_vote_65 ⟨by omega, by omega⟩) hS (fun q _ h => aS_up (m := 16) (a := 1) (by decide) h) (fun q h => aS_up (m := 16) (a := 1) (by decide) h) (fun r H locs hw9 hz9 hk9 hS => ?_)
      obtain ⟨rfl, hPn⟩ := hw9
      have hP : va_P D vwCl (uw cA U rg (zSay c j_2) z (va_up rz hd c) (hUp hd) (hCt ct) rs dt mf mn tc tl to kd fi se ta nu lc ln sv er) H := uw_C hA hP hPn hk9
      have hD : va_D (aS 189 U) (uw cA U rg (zSay c j_2) z (va_up rz hd c) (hUp hd) (hCt ct) rs dt mf mn tc tl to kd fi se ta nu lc ln sv er) := uwD hA
      exact vx_ret (W.widen (k := 1) (n := 6) (by decide) (by decide) (g_iretW (v := nI (zVd c j_2)) hx hb hr hlk hS dX7_vote_68 (⟨j_2, hj_4, ej_3, hno_6, rfl, hP⟩)))
    · have c_5 : (rfVote (zK c) (j_2)).isSome = true := eq_true_of_ne_false c_5
      exact g_throwS hx hb hlt hE hFA hown (by decide +kernel) th_UOE (List.mem_of_getElem? (i := 6) rfl) hS (hl.1.trans hml.symm) dX7_vote_39 dX7_vote_42 dX7_vote_43 dX7_vote_45 dX7_vote_48 hte (by decide) (by decide) (by decide) (by decide) hlk (fun H1 hz8 hk8 => Or.inr (⟨rfl, j_2, hj_4, ej_3, c_5, vP_grow hP hk8⟩)) (by decide) (by decide)
  · exact g_throwS hx hb hlt hE hFA hown (by decide +kernel) th_IOB (List.mem_of_getElem? (i := 4) rfl) hS (hl.1.trans hml.symm) dX7_vote_14 dX7_vote_17 dX7_vote_18 dX7_vote_20 dX7_vote_23 hte (by decide) (by decide) (by decide) (by decide) hlk (fun H1 hz8 hk8 => Or.inl ⟨rfl, c_1, vP_grow hP hk8⟩) (by decide) (by decide)

set_option maxHeartbeats 1000000 in
set_option maxRecDepth 100000 in
theorem c_X7_unsay (l : Launch) (hlt : l.stackTraces = false) (D : va_G) (cA : Nat → ClassId) (AE : Nat → Prop) (adK adV sa : Nat → Nat) (U : Nat → Nat) (rg : Nat → Option Nat) (c z : CS) (rz : Nat → CS) (hd ct : Nat) (rs dt : Int32) (mf : Nat → Nat → Int32) (mn : Nat) (tc : Nat → Nat) (tl to : Nat) (kd fi se : Int32) (ta : Nat) (nu : Int32) (lc : Nat → Int32) (ln : Nat) (sv : Bool) (er : Int32) (v : Int32) (hA : aInj 189 U) (hFA : ∀ q, aS 189 U q → AE q) (hz : zOk c) (hrg : uRg U rg) (hh8 : hd ≤ 8) (hc8 : ct ≤ 8) (hr9 : ∀ q, q < zcn c → rfUns (zK c) q = none → zrl c ≤ 9) : vx_Met l yX7_unsay (gw yX7_unsay cX7_unsay 2 (some .int)) ({ frames := 6, cells := 1, slots := 6, locals := 144 } : Room) (gPx [.ref (U 0), .int (v)] (fun H => va_P D vwCl (uw cA U rg c z rz hd ct rs dt mf mn tc tl to kd fi se ta nu lc ln sv er) H) D cA AE adK adV sa) (wrI (fun r H => ∃ q : Nat, q < zcn c ∧ v = nI q ∧ rfUns (zK c) q = none ∧ r = nI (zTo c q).1 ∧ va_P D vwCl (uw cA U rg (zUns c q) z (va_up rz hd c) (hUp hd) (hCt ct) rs dt mf mn tc tl to kd fi se ta nu lc ln sv er) H) (aS 189 U)) (gXC (fun E H => (E = xIOB ∧ isIx v (zcn c) = false ∧ va_P D vwCl (uw cA U rg c z rz hd ct rs dt mf mn tc tl to kd fi se ta nu lc ln sv er) H) ∨ (E = xUOE ∧ ∃ q : Nat, q < zcn c ∧ v = nI q ∧ (rfUns (zK c) q).isSome = true ∧ va_P D vwCl (uw cA U rg c z rz hd ct (((rfUns (zK c) q).getD (rs, dt)).1) (((rfUns (zK c) q).getD (rs, dt)).2) mf mn tc tl to kd fi se ta nu lc ln sv er) H)) (aS 189 U)) 1 6 (aS 189 U) := by
  refine gOfv (by decide) (Nat.le_of_ble_eq_true rfl) ?_
  intro p e s m below meth c9 ls hx hb hml hr hlk hown hts hte hP hK hE hl
  have hl : lv_has ls 2 [(0, .ref (U 0)), (1, .int (v))] := hl
  have hz9 := hz
  obtain ⟨hjn, hcn, hrl, hrw, hck, htn⟩ := hz
  have hD : va_D (aS 189 U) (uw cA U rg c z rz hd ct rs dt mf mn tc tl to kd fi se ta nu lc ln sv er) := uwD hA
  have hS : va_S (aS 189 U) s.heap s.heap [] := va_S.rf
  skip
  refine lv_aload_n hx hb dX7_unsay_0 rfl (lv_at hl 0 rfl) ?_
  refine g_get (v := .ref (U 1)) hx hb hts hown hK hP 0 rfl rfl gu_wsX70 0 (by decide) gm_1_17 rfl dX7_unsay_1 ?_
  refine g_get (v := .ref (U 7)) hx hb hts hown hK hP 1 rfl rfl gu_wsX10 1 (by decide) gm_10_7 rfl dX7_unsay_4 ?_
  refine lv_iload_n hx hb dX7_unsay_7 rfl (lv_at hl 1 rfl) ?_
  refine rd_calle (va_runV (As := [.int (v)]) (rest := []) ⟨hx, hb, hml, hown, hts⟩ (c_X0_has l D cA (fun k => U (k + 7)) (zK c) (zrw c) (zcn c) (zrl c) (v) hcn) (cwV 1 hts (gWV gm_11_15 gm_11_16 gm_11_17 gm_3_0 gm_11_18) rfl rfl rfl (by decide +kernel) ⟨Nat.le_of_ble_eq_true rfl, Nat.le_of_ble_eq_true rfl⟩) (gPreV hK (g_rf hK hP (ci := 2) (q0 := 7) rfl rfl) (hP.sub [7, 8, 9, 10, 11, 12, 13, 14, 15, 16] rfl)) rfl rfl hl.1 rfl (lv_room (Nat.le_of_ble_eq_true rfl)) dX7_unsay_8 ⟨by omega, by omega⟩) ?_
  refine g_if_ne (P := isIx (v) (zcn c) = false) (tgt := 24) hx hb dX7_unsay_11 (by decide) b2i_0 (fun c_1 => ?_) (fun c_1 => ?_)
  · have c_1 : isIx (v) (zcn c) = true := eq_true_of_ne_false c_1
    obtain ⟨j_2, hj_4, ej_3⟩ := isIx_n c_1 (by omega)
    rw [ej_3] at hl
    have hl : lv_has ls 2 [(0, .ref (U 0)), (1, .int (nI (j_2)))] := hl
    refine lv_aload_n hx hb dX7_unsay_24 rfl (lv_at hl 0 rfl) ?_
    refine g_get (v := .ref (U 35)) hx hb hts hown hK hP 0 rfl rfl gu_wsX70 3 (by decide) gm_2_2 rfl dX7_unsay_25 ?_
    refine lv_aload_n hx hb dX7_unsay_28 rfl (lv_at hl 0 rfl) ?_
    refine g_get (v := .ref (U 1)) hx hb hts hown hK hP 0 rfl rfl gu_wsX70 0 (by decide) gm_1_17 rfl dX7_unsay_29 ?_
    refine lv_iload_n hx hb dX7_unsay_32 rfl (lv_at hl 1 rfl) ?_
    refine wr_calli (va_runV (As := [.ref (U 1), .int (nI (j_2))]) (rest := []) ⟨hx, hb, hml, hown, hts⟩ (c_X5_ofUnsay l D cA (fun k => U (uRf k)) rs dt (zJ c) (zjn c) (zK c) (zrw c) (zcn c) (zrl c) (zck c) (ztn c) (zsd c) (j_2) (aInj_m hA uRf uRf_lt uRf_in) (by omega)) (cwV 2 hts (gWV gm_19_5 gm_19_6 gm_19_7 gm_2_1 gm_19_8) rfl rfl rfl (by decide +kernel) ⟨Nat.le_of_ble_eq_true rfl, Nat.le_of_ble_eq_true rfl⟩) (gPreV hK (g_rf hK hP (ci := 7) (q0 := 35) rfl rfl) (hP.sub [35, 1, 2, 3, 4, 5, 6, 7, 8, 9, 10, 11, 12, 13, 14, 15, 16] rfl)) rfl rfl hl.1 rfl (lv_room (Nat.le_of_ble_eq_true rfl)) dX7_unsay_33 ⟨by omega, by omega⟩) hS (fun q _ h => aS_m uRf_lt h) (fun q h => aS_m uRf_lt h) (fun r H locs hw9 hz9 hk9 hS => ?_)
    obtain ⟨rfl, hPn⟩ := hw9
    have hP : va_P D vwCl (uw cA U rg c z rz hd ct (((rfUns (zK c) (j_2)).getD (rs, dt)).1) (((rfUns (zK c) (j_2)).getD (rs, dt)).2) mf mn tc tl to kd fi se ta nu lc ln sv er) H := uw_R hA hP hPn hk9
    have hD : va_D (aS 189 U) (uw cA U rg c z rz hd ct (((rfUns (zK c) (j_2)).getD (rs, dt)).1) (((rfUns (zK c) (j_2)).getD (rs, dt)).2) mf mn tc tl to kd fi se ta nu lc ln sv er) := uwD hA
    refine g_if_eq (P := (rfUns (zK c) (j_2)).isSome = false) (tgt := 49) hx hb dX7_unsay_36 (by decide) b2i_0 (fun c_5 => ?_) (fun c_5 => ?_)
    · have hno_6 : rfUns (zK c) (j_2) = none := Option.not_isSome_iff_eq_none.mp (by rw [c_5]; decide)
      rw [hno_6] at hP
      have hP : va_P D vwCl (uw cA U rg c z rz hd ct rs dt mf mn tc tl to kd fi se ta nu lc ln sv er) H := hP
      have hD : va_D (aS 189 U) (uw cA U rg c z rz hd ct rs dt mf mn tc tl to kd fi se ta nu lc ln sv er) := uwD hA
      have hr8 := hr9 j_2 hj_4 hno_6
      refine lv_aload_n hx hb dX7_unsay_49 rfl (lv_at hl 0 rfl) ?_
      refine g_get (v := .ref (U 33)) hx hb hts hown hK hP 0 rfl rfl gu_wsX70 2 (by decide) gm_1_22 rfl dX7_unsay_50 ?_
      refine lv_aload_n hx hb dX7_unsay_53 rfl (lv_at hl 0 rfl) ?_
      refine g_get (v := .ref (U 1)) hx hb hts hown hK hP 0 rfl rfl gu_wsX70 0 (by decide) gm_1_17 rfl dX7_unsay_54 ?_
      refine wr_callv (va_runV (As := [.ref (U 1)]) (rest := []) ⟨hx, hb, hml, hown, hts⟩ (c_X2_keep l D cA (fun k => U (uHf hd k)) rg hd ct (rz hd) c (aInj_m hA (uHf hd) (uHf_lt (by omega)) (uHf_in (by omega))) hh8 (hrg _ (by omega)) hc8) (cwV 1 hts (gWV gm_7_3 gm_7_4 gm_7_5 gm_1_21 gm_7_6) rfl rfl rfl (by decide +kernel) ⟨Nat.le_of_ble_eq_true rfl, Nat.le_of_ble_eq_true rfl⟩) (gPreV hK (g_rf hK hP (ci := 4) (q0 := 33) rfl rfl) (uw_toH hA (by omega) hP)) rfl rfl hl.1 rfl (lv_room (Nat.le_of_ble_eq_true rfl)) dX7_unsay_57 ⟨by omega, by omega⟩) hS (fun q _ h => aS_m (uHf_lt (by omega)) h) (fun q h => aS_m (uHf_lt (by omega)) h) (fun H locs hPn hz9 hk9 hS => ?_)
      have hP : va_P D vwCl (uw cA U rg c z (va_up rz hd c) (hUp hd) (hCt ct) rs dt mf mn tc tl to kd fi se ta nu lc ln sv er) H := uw_H hA (by omega) hP hPn hk9
      have hD : va_D (aS 189 U) (uw cA U rg c z (va_up rz hd c) (hUp hd) (hCt ct) rs dt mf mn tc tl to kd fi se ta nu lc ln sv er) := uwD hA
      refine lv_aload_n hx hb dX7_unsay_60 rfl (lv_at hl 0 rfl) ?_
      refine g_get (v := .ref (U 1)) hx hb hts hown hK hP 0 rfl rfl gu_wsX70 0 (by decide) gm_1_17 rfl dX7_unsay_61 ?_
      refine lv_iload_n hx hb dX7_unsay_64 rfl (lv_at hl 1 rfl) ?_
      refine wr_calli (va_runV (As := [.int (nI (j_2))]) (rest := []) ⟨hx, hb, hml, hown, hts⟩ (c_X1_unsayVerdict l D cA (fun k => U (k + 1)) (zJ c) (zjn c) (zK c) (zrw c) (zcn c) (zrl c) (zck c) (ztn c) (zsd c) (j_2) (aInj_s hA 1 (by decide)) hjn hcn (by omega) hrw (by omega)) (cwV 1 hts (gWV gm_19_10 gm_19_11 gm_19_12 gm_1_16 gm_19_13) rfl rfl rfl (by decide +kernel) ⟨Nat.le_of_ble_eq_true rfl, Nat.le_of_ble_eq_true rfl⟩) (gPreV hK (g_rf hK hP (ci := 3) (q0 := 1) rfl rfl) (hP.sub [1, 2, 3, 4, 5, 6, 7, 8, 9, 10, 11, 12, 13, 14, 15, 16] rfl)) rfl rfl hl.1 rfl (lv_room (Nat.le_of_ble_eq_true rfl)) dX7_unsay_65 ⟨by omega, by omega⟩) hS (fun q _ h => aS_up (m := 16) (a := 1) (by decide) h) (fun q h => aS_up (m := 16) (a := 1) (by decide) h) (fun r H locs hw9 hz9 hk9 hS => ?_)
      obtain ⟨rfl, hPn⟩ := hw9
      have hP : va_P D vwCl (uw cA U rg (zUns c j_2) z (va_up rz hd c) (hUp hd) (hCt ct) rs dt mf mn tc tl to kd fi se ta nu lc ln sv er) H := uw_C hA hP hPn hk9
      have hD : va_D (aS 189 U) (uw cA U rg (zUns c j_2) z (va_up rz hd c) (hUp hd) (hCt ct) rs dt mf mn tc tl to kd fi se ta nu lc ln sv er) := uwD hA
      exact vx_ret (W.widen (k := 1) (n := 6) (by decide) (by decide) (g_iretW (v := nI ((zTo c j_2).1)) hx hb hr hlk hS dX7_unsay_68 (⟨j_2, hj_4, ej_3, hno_6, rfl, hP⟩)))
    · have c_5 : (rfUns (zK c) (j_2)).isSome = true := eq_true_of_ne_false c_5
      exact g_throwS hx hb hlt hE hFA hown (by decide +kernel) th_UOE (List.mem_of_getElem? (i := 7) rfl) hS (hl.1.trans hml.symm) dX7_unsay_39 dX7_unsay_42 dX7_unsay_43 dX7_unsay_45 dX7_unsay_48 hte (by decide) (by decide) (by decide) (by decide) hlk (fun H1 hz8 hk8 => Or.inr (⟨rfl, j_2, hj_4, ej_3, c_5, vP_grow hP hk8⟩)) (by decide) (by decide)
  · exact g_throwS hx hb hlt hE hFA hown (by decide +kernel) th_IOB (List.mem_of_getElem? (i := 4) rfl) hS (hl.1.trans hml.symm) dX7_unsay_14 dX7_unsay_17 dX7_unsay_18 dX7_unsay_20 dX7_unsay_23 hte (by decide) (by decide) (by decide) (by decide) hlk (fun H1 hz8 hk8 => Or.inl ⟨rfl, c_1, vP_grow hP hk8⟩) (by decide) (by decide)

set_option maxHeartbeats 1000000 in
set_option maxRecDepth 100000 in
theorem c_X7_appeal (l : Launch) (hlt : l.stackTraces = false) (D : va_G) (cA : Nat → ClassId) (AE : Nat → Prop) (adK adV sa : Nat → Nat) (U : Nat → Nat) (rg : Nat → Option Nat) (c z : CS) (rz : Nat → CS) (hd ct : Nat) (rs dt : Int32) (mf : Nat → Nat → Int32) (mn : Nat) (tc : Nat → Nat) (tl to : Nat) (kd fi se : Int32) (ta : Nat) (nu : Int32) (lc : Nat → Int32) (ln : Nat) (sv : Bool) (er : Int32) (v : Int32) (hA : aInj 189 U) (hFA : ∀ q, aS 189 U q → AE q) (hz : zOk c) (hrg : uRg U rg) (hh8 : hd ≤ 8) (hc8 : ct ≤ 8) (hap : ∀ q, q < zcn c → rfApp (zK c) (zjn c) (zcn c) q = none → ¬ zOut c q = none ∧ ¬ zIn c q = none) : vx_Met l yX7_appeal (gw yX7_appeal cX7_appeal 2 (some .int)) ({ frames := 6, cells := 1, slots := 6, locals := 144 } : Room) (gPx [.ref (U 0), .int (v)] (fun H => va_P D vwCl (uw cA U rg c z rz hd ct rs dt mf mn tc tl to kd fi se ta nu lc ln sv er) H) D cA AE adK adV sa) (wrI (fun r H => ∃ q : Nat, q < zcn c ∧ v = nI q ∧ rfApp (zK c) (zjn c) (zcn c) q = none ∧ r = nI (zVd (zAp c q) q) ∧ va_P D vwCl (uw cA U rg (zSay (zAp c q) q) z (va_up rz hd c) (hUp hd) (hCt ct) rs dt mf mn tc tl to kd fi se ta nu lc ln sv er) H) (aS 189 U)) (gXC (fun E H => (E = xIOB ∧ isIx v (zcn c) = false ∧ va_P D vwCl (uw cA U rg c z rz hd ct rs dt mf mn tc tl to kd fi se ta nu lc ln sv er) H) ∨ (E = xUOE ∧ ∃ q : Nat, q < zcn c ∧ v = nI q ∧ (rfApp (zK c) (zjn c) (zcn c) q).isSome = true ∧ va_P D vwCl (uw cA U rg c z rz hd ct (((rfApp (zK c) (zjn c) (zcn c) q).getD (rs, dt)).1) (((rfApp (zK c) (zjn c) (zcn c) q).getD (rs, dt)).2) mf mn tc tl to kd fi se ta nu lc ln sv er) H)) (aS 189 U)) 1 6 (aS 189 U) := by
  refine gOfv (by decide) (Nat.le_of_ble_eq_true rfl) ?_
  intro p e s m below meth c9 ls hx hb hml hr hlk hown hts hte hP hK hE hl
  have hl : lv_has ls 2 [(0, .ref (U 0)), (1, .int (v))] := hl
  have hz9 := hz
  obtain ⟨hjn, hcn, hrl, hrw, hck, htn⟩ := hz
  have hD : va_D (aS 189 U) (uw cA U rg c z rz hd ct rs dt mf mn tc tl to kd fi se ta nu lc ln sv er) := uwD hA
  have hS : va_S (aS 189 U) s.heap s.heap [] := va_S.rf
  skip
  refine lv_aload_n hx hb dX7_appeal_0 rfl (lv_at hl 0 rfl) ?_
  refine g_get (v := .ref (U 1)) hx hb hts hown hK hP 0 rfl rfl gu_wsX70 0 (by decide) gm_1_17 rfl dX7_appeal_1 ?_
  refine g_get (v := .ref (U 7)) hx hb hts hown hK hP 1 rfl rfl gu_wsX10 1 (by decide) gm_10_7 rfl dX7_appeal_4 ?_
  refine lv_iload_n hx hb dX7_appeal_7 rfl (lv_at hl 1 rfl) ?_
  refine rd_calle (va_runV (As := [.int (v)]) (rest := []) ⟨hx, hb, hml, hown, hts⟩ (c_X0_has l D cA (fun k => U (k + 7)) (zK c) (zrw c) (zcn c) (zrl c) (v) hcn) (cwV 1 hts (gWV gm_11_15 gm_11_16 gm_11_17 gm_3_0 gm_11_18) rfl rfl rfl (by decide +kernel) ⟨Nat.le_of_ble_eq_true rfl, Nat.le_of_ble_eq_true rfl⟩) (gPreV hK (g_rf hK hP (ci := 2) (q0 := 7) rfl rfl) (hP.sub [7, 8, 9, 10, 11, 12, 13, 14, 15, 16] rfl)) rfl rfl hl.1 rfl (lv_room (Nat.le_of_ble_eq_true rfl)) dX7_appeal_8 ⟨by omega, by omega⟩) ?_
  refine g_if_ne (P := isIx (v) (zcn c) = false) (tgt := 24) hx hb dX7_appeal_11 (by decide) b2i_0 (fun c_1 => ?_) (fun c_1 => ?_)
  · have c_1 : isIx (v) (zcn c) = true := eq_true_of_ne_false c_1
    obtain ⟨j_2, hj_4, ej_3⟩ := isIx_n c_1 (by omega)
    rw [ej_3] at hl
    have hl : lv_has ls 2 [(0, .ref (U 0)), (1, .int (nI (j_2)))] := hl
    refine lv_aload_n hx hb dX7_appeal_24 rfl (lv_at hl 0 rfl) ?_
    refine g_get (v := .ref (U 35)) hx hb hts hown hK hP 0 rfl rfl gu_wsX70 3 (by decide) gm_2_2 rfl dX7_appeal_25 ?_
    refine lv_aload_n hx hb dX7_appeal_28 rfl (lv_at hl 0 rfl) ?_
    refine g_get (v := .ref (U 1)) hx hb hts hown hK hP 0 rfl rfl gu_wsX70 0 (by decide) gm_1_17 rfl dX7_appeal_29 ?_
    refine lv_iload_n hx hb dX7_appeal_32 rfl (lv_at hl 1 rfl) ?_
    refine wr_calli (va_runV (As := [.ref (U 1), .int (nI (j_2))]) (rest := []) ⟨hx, hb, hml, hown, hts⟩ (c_X5_ofAppeal l D cA (fun k => U (uRf k)) rs dt (zJ c) (zjn c) (zK c) (zrw c) (zcn c) (zrl c) (zck c) (ztn c) (zsd c) (j_2) (aInj_m hA uRf uRf_lt uRf_in) hjn hcn (by omega)) (cwV 2 hts (gWV gm_20_10 gm_20_11 gm_20_12 gm_2_1 gm_20_13) rfl rfl rfl (by decide +kernel) ⟨Nat.le_of_ble_eq_true rfl, Nat.le_of_ble_eq_true rfl⟩) (gPreV hK (g_rf hK hP (ci := 7) (q0 := 35) rfl rfl) (hP.sub [35, 1, 2, 3, 4, 5, 6, 7, 8, 9, 10, 11, 12, 13, 14, 15, 16] rfl)) rfl rfl hl.1 rfl (lv_room (Nat.le_of_ble_eq_true rfl)) dX7_appeal_33 ⟨by omega, by omega⟩) hS (fun q _ h => aS_m uRf_lt h) (fun q h => aS_m uRf_lt h) (fun r H locs hw9 hz9 hk9 hS => ?_)
    obtain ⟨rfl, hPn⟩ := hw9
    have hP : va_P D vwCl (uw cA U rg c z rz hd ct (((rfApp (zK c) (zjn c) (zcn c) (j_2)).getD (rs, dt)).1) (((rfApp (zK c) (zjn c) (zcn c) (j_2)).getD (rs, dt)).2) mf mn tc tl to kd fi se ta nu lc ln sv er) H := uw_R hA hP hPn hk9
    have hD : va_D (aS 189 U) (uw cA U rg c z rz hd ct (((rfApp (zK c) (zjn c) (zcn c) (j_2)).getD (rs, dt)).1) (((rfApp (zK c) (zjn c) (zcn c) (j_2)).getD (rs, dt)).2) mf mn tc tl to kd fi se ta nu lc ln sv er) := uwD hA
    refine g_if_eq (P := (rfApp (zK c) (zjn c) (zcn c) (j_2)).isSome = false) (tgt := 49) hx hb dX7_appeal_36 (by decide) b2i_0 (fun c_5 => ?_) (fun c_5 => ?_)
    · have hno_6 : rfApp (zK c) (zjn c) (zcn c) (j_2) = none := Option.not_isSome_iff_eq_none.mp (by rw [c_5]; decide)
      rw [hno_6] at hP
      have hP : va_P D vwCl (uw cA U rg c z rz hd ct rs dt mf mn tc tl to kd fi se ta nu lc ln sv er) H := hP
      have hD : va_D (aS 189 U) (uw cA U rg c z rz hd ct rs dt mf mn tc tl to kd fi se ta nu lc ln sv er) := uwD hA
      have hap9 := hap j_2 hj_4 hno_6
      refine lv_aload_n hx hb dX7_appeal_49 rfl (lv_at hl 0 rfl) ?_
      refine g_get (v := .ref (U 33)) hx hb hts hown hK hP 0 rfl rfl gu_wsX70 2 (by decide) gm_1_22 rfl dX7_appeal_50 ?_
      refine lv_aload_n hx hb dX7_appeal_53 rfl (lv_at hl 0 rfl) ?_
      refine g_get (v := .ref (U 1)) hx hb hts hown hK hP 0 rfl rfl gu_wsX70 0 (by decide) gm_1_17 rfl dX7_appeal_54 ?_
      refine wr_callv (va_runV (As := [.ref (U 1)]) (rest := []) ⟨hx, hb, hml, hown, hts⟩ (c_X2_keep l D cA (fun k => U (uHf hd k)) rg hd ct (rz hd) c (aInj_m hA (uHf hd) (uHf_lt (by omega)) (uHf_in (by omega))) hh8 (hrg _ (by omega)) hc8) (cwV 1 hts (gWV gm_7_3 gm_7_4 gm_7_5 gm_1_21 gm_7_6) rfl rfl rfl (by decide +kernel) ⟨Nat.le_of_ble_eq_true rfl, Nat.le_of_ble_eq_true rfl⟩) (gPreV hK (g_rf hK hP (ci := 4) (q0 := 33) rfl rfl) (uw_toH hA (by omega) hP)) rfl rfl hl.1 rfl (lv_room (Nat.le_of_ble_eq_true rfl)) dX7_appeal_57 ⟨by omega, by omega⟩) hS (fun q _ h => aS_m (uHf_lt (by omega)) h) (fun q h => aS_m (uHf_lt (by omega)) h) (fun H locs hPn hz9 hk9 hS => ?_)
      have hP : va_P D vwCl (uw cA U rg c z (va_up rz hd c) (hUp hd) (hCt ct) rs dt mf mn tc tl to kd fi se ta nu lc ln sv er) H := uw_H hA (by omega) hP hPn hk9
      have hD : va_D (aS 189 U) (uw cA U rg c z (va_up rz hd c) (hUp hd) (hCt ct) rs dt mf mn tc tl to kd fi se ta nu lc ln sv er) := uwD hA
      refine lv_aload_n hx hb dX7_appeal_60 rfl (lv_at hl 0 rfl) ?_
      refine g_get (v := .ref (U 1)) hx hb hts hown hK hP 0 rfl rfl gu_wsX70 0 (by decide) gm_1_17 rfl dX7_appeal_61 ?_
      refine lv_iload_n hx hb dX7_appeal_64 rfl (lv_at hl 1 rfl) ?_
      refine wr_calli (va_runV (As := [.int (nI (j_2))]) (rest := []) ⟨hx, hb, hml, hown, hts⟩ (c_X1_voteAnew l D cA (fun k => U (k + 1)) (zJ c) (zjn c) (zK c) (zrw c) (zcn c) (zrl c) (zck c) (ztn c) (zsd c) (j_2) (aInj_s hA 1 (by decide)) hjn hcn hrl hrw (by omega) hap9.1 hap9.2) (cwV 1 hts (gWV gm_20_16 gm_20_17 gm_20_18 gm_1_16 gm_20_19) rfl rfl rfl (by decide +kernel) ⟨Nat.le_of_ble_eq_true rfl, Nat.le_of_ble_eq_true rfl⟩) (gPreV hK (g_rf hK hP (ci := 3) (q0 := 1) rfl rfl) (hP.sub [1, 2, 3, 4, 5, 6, 7, 8, 9, 10, 11, 12, 13, 14, 15, 16] rfl)) rfl rfl hl.1 rfl (lv_room (Nat.le_of_ble_eq_true rfl)) dX7_appeal_65 ⟨by omega, by omega⟩) hS (fun q _ h => aS_up (m := 16) (a := 1) (by decide) h) (fun q h => aS_up (m := 16) (a := 1) (by decide) h) (fun r H locs hw9 hz9 hk9 hS => ?_)
      obtain ⟨rfl, hPn⟩ := hw9
      have hP : va_P D vwCl (uw cA U rg (zSay (zAp c j_2) j_2) z (va_up rz hd c) (hUp hd) (hCt ct) rs dt mf mn tc tl to kd fi se ta nu lc ln sv er) H := uw_C hA hP hPn hk9
      have hD : va_D (aS 189 U) (uw cA U rg (zSay (zAp c j_2) j_2) z (va_up rz hd c) (hUp hd) (hCt ct) rs dt mf mn tc tl to kd fi se ta nu lc ln sv er) := uwD hA
      exact vx_ret (W.widen (k := 1) (n := 6) (by decide) (by decide) (g_iretW (v := nI (zVd (zAp c j_2) j_2)) hx hb hr hlk hS dX7_appeal_68 (⟨j_2, hj_4, ej_3, hno_6, rfl, hP⟩)))
    · have c_5 : (rfApp (zK c) (zjn c) (zcn c) (j_2)).isSome = true := eq_true_of_ne_false c_5
      exact g_throwS hx hb hlt hE hFA hown (by decide +kernel) th_UOE (List.mem_of_getElem? (i := 8) rfl) hS (hl.1.trans hml.symm) dX7_appeal_39 dX7_appeal_42 dX7_appeal_43 dX7_appeal_45 dX7_appeal_48 hte (by decide) (by decide) (by decide) (by decide) hlk (fun H1 hz8 hk8 => Or.inr (⟨rfl, j_2, hj_4, ej_3, c_5, vP_grow hP hk8⟩)) (by decide) (by decide)
  · exact g_throwS hx hb hlt hE hFA hown (by decide +kernel) th_IOB (List.mem_of_getElem? (i := 4) rfl) hS (hl.1.trans hml.symm) dX7_appeal_14 dX7_appeal_17 dX7_appeal_18 dX7_appeal_20 dX7_appeal_23 hte (by decide) (by decide) (by decide) (by decide) hlk (fun H1 hz8 hk8 => Or.inl ⟨rfl, c_1, vP_grow hP hk8⟩) (by decide) (by decide)

set_option maxHeartbeats 1000000 in
set_option maxRecDepth 100000 in
theorem c_X7_clerk (l : Launch) (hlt : l.stackTraces = false) (D : va_G) (cA : Nat → ClassId) (AE : Nat → Prop) (adK adV sa : Nat → Nat) (U : Nat → Nat) (rg : Nat → Option Nat) (c z : CS) (rz : Nat → CS) (hd ct : Nat) (rs dt : Int32) (mf : Nat → Nat → Int32) (mn : Nat) (tc : Nat → Nat) (tl to : Nat) (kd fi se : Int32) (ta : Nat) (nu : Int32) (lc : Nat → Int32) (ln : Nat) (sv : Bool) (er : Int32) (hA : aInj 189 U) (hFA : ∀ q, aS 189 U q → AE q) (hz : zOk c) (hrg : uRg U rg) (hh8 : hd ≤ 8) (hc8 : ct ≤ 8) : vx_Met l yX7_clerk (gw yX7_clerk cX7_clerk 1 (some .int)) ({ frames := 6, cells := 1, slots := 6, locals := 144 } : Room) (gPx [.ref (U 0)] (fun H => va_P D vwCl (uw cA U rg c z rz hd ct rs dt mf mn tc tl to kd fi se ta nu lc ln sv er) H) D cA AE adK adV sa) (wrI (fun r H => rfClk (zck c) = none ∧ r = nI (zck c + 1) ∧ va_P D vwCl (uw cA U rg (mkz (zJ c) (zjn c) (zK c) (zrw c) (zcn c) (zrl c) (zck c + 1) (ztn c) (zsd c)) z (va_up rz hd c) (hUp hd) (hCt ct) rs dt mf mn tc tl to kd fi se ta nu lc ln sv er) H) (aS 189 U)) (gXC (fun E H => (E = xUOE ∧ (rfClk (zck c)).isSome = true ∧ va_P D vwCl (uw cA U rg c z rz hd ct (((rfClk (zck c)).getD (rs, dt)).1) (((rfClk (zck c)).getD (rs, dt)).2) mf mn tc tl to kd fi se ta nu lc ln sv er) H)) (aS 189 U)) 1 6 (aS 189 U) := by
  refine gOfv (by decide) (Nat.le_of_ble_eq_true rfl) ?_
  intro p e s m below meth c9 ls hx hb hml hr hlk hown hts hte hP hK hE hl
  have hl : lv_has ls 1 [(0, .ref (U 0))] := hl
  have hz9 := hz
  obtain ⟨hjn, hcn, hrl, hrw, hck, htn⟩ := hz
  have hD : va_D (aS 189 U) (uw cA U rg c z rz hd ct rs dt mf mn tc tl to kd fi se ta nu lc ln sv er) := uwD hA
  have hS : va_S (aS 189 U) s.heap s.heap [] := va_S.rf
  skip
  refine lv_aload_n hx hb dX7_clerk_0 rfl (lv_at hl 0 rfl) ?_
  refine g_get (v := .ref (U 35)) hx hb hts hown hK hP 0 rfl rfl gu_wsX70 3 (by decide) gm_2_2 rfl dX7_clerk_1 ?_
  refine lv_aload_n hx hb dX7_clerk_4 rfl (lv_at hl 0 rfl) ?_
  refine g_get (v := .ref (U 1)) hx hb hts hown hK hP 0 rfl rfl gu_wsX70 0 (by decide) gm_1_17 rfl dX7_clerk_5 ?_
  refine wr_calli (va_runV (As := [.ref (U 1)]) (rest := []) ⟨hx, hb, hml, hown, hts⟩ (c_X5_ofClerk l D cA (fun k => U (uRf k)) rs dt (zJ c) (zjn c) (zK c) (zrw c) (zcn c) (zrl c) (zck c) (ztn c) (zsd c) (aInj_m hA uRf uRf_lt uRf_in) hck) (cwV 1 hts (gWV gm_21_20 gm_21_21 gm_21_22 gm_2_1 gm_21_23) rfl rfl rfl (by decide +kernel) ⟨Nat.le_of_ble_eq_true rfl, Nat.le_of_ble_eq_true rfl⟩) (gPreV hK (g_rf hK hP (ci := 7) (q0 := 35) rfl rfl) (hP.sub [35, 1, 2, 3, 4, 5, 6, 7, 8, 9, 10, 11, 12, 13, 14, 15, 16] rfl)) rfl rfl hl.1 rfl (lv_room (Nat.le_of_ble_eq_true rfl)) dX7_clerk_8 ⟨by omega, by omega⟩) hS (fun q _ h => aS_m uRf_lt h) (fun q h => aS_m uRf_lt h) (fun r H locs hw9 hz9 hk9 hS => ?_)
  obtain ⟨rfl, hPn⟩ := hw9
  have hP : va_P D vwCl (uw cA U rg c z rz hd ct (((rfClk (zck c)).getD (rs, dt)).1) (((rfClk (zck c)).getD (rs, dt)).2) mf mn tc tl to kd fi se ta nu lc ln sv er) H := uw_R hA hP hPn hk9
  have hD : va_D (aS 189 U) (uw cA U rg c z rz hd ct (((rfClk (zck c)).getD (rs, dt)).1) (((rfClk (zck c)).getD (rs, dt)).2) mf mn tc tl to kd fi se ta nu lc ln sv er) := uwD hA
  refine g_if_eq (P := (rfClk (zck c)).isSome = false) (tgt := 24) hx hb dX7_clerk_11 (by decide) b2i_0 (fun c_1 => ?_) (fun c_1 => ?_)
  · have hno_2 : rfClk (zck c) = none := Option.not_isSome_iff_eq_none.mp (by rw [c_1]; decide)
    rw [hno_2] at hP
    have hP : va_P D vwCl (uw cA U rg c z rz hd ct rs dt mf mn tc tl to kd fi se ta nu lc ln sv er) H := hP
    have hD : va_D (aS 189 U) (uw cA U rg c z rz hd ct rs dt mf mn tc tl to kd fi se ta nu lc ln sv er) := uwD hA
    refine lv_aload_n hx hb dX7_clerk_24 rfl (lv_at hl 0 rfl) ?_
    refine g_get (v := .ref (U 33)) hx hb hts hown hK hP 0 rfl rfl gu_wsX70 2 (by decide) gm_1_22 rfl dX7_clerk_25 ?_
    refine lv_aload_n hx hb dX7_clerk_28 rfl (lv_at hl 0 rfl) ?_
    refine g_get (v := .ref (U 1)) hx hb hts hown hK hP 0 rfl rfl gu_wsX70 0 (by decide) gm_1_17 rfl dX7_clerk_29 ?_
    refine wr_callv (va_runV (As := [.ref (U 1)]) (rest := []) ⟨hx, hb, hml, hown, hts⟩ (c_X2_keep l D cA (fun k => U (uHf hd k)) rg hd ct (rz hd) c (aInj_m hA (uHf hd) (uHf_lt (by omega)) (uHf_in (by omega))) hh8 (hrg _ (by omega)) hc8) (cwV 1 hts (gWV gm_7_3 gm_7_4 gm_7_5 gm_1_21 gm_7_6) rfl rfl rfl (by decide +kernel) ⟨Nat.le_of_ble_eq_true rfl, Nat.le_of_ble_eq_true rfl⟩) (gPreV hK (g_rf hK hP (ci := 4) (q0 := 33) rfl rfl) (uw_toH hA (by omega) hP)) rfl rfl hl.1 rfl (lv_room (Nat.le_of_ble_eq_true rfl)) dX7_clerk_32 ⟨by omega, by omega⟩) hS (fun q _ h => aS_m (uHf_lt (by omega)) h) (fun q h => aS_m (uHf_lt (by omega)) h) (fun H locs hPn hz9 hk9 hS => ?_)
    have hP : va_P D vwCl (uw cA U rg c z (va_up rz hd c) (hUp hd) (hCt ct) rs dt mf mn tc tl to kd fi se ta nu lc ln sv er) H := uw_H hA (by omega) hP hPn hk9
    have hD : va_D (aS 189 U) (uw cA U rg c z (va_up rz hd c) (hUp hd) (hCt ct) rs dt mf mn tc tl to kd fi se ta nu lc ln sv er) := uwD hA
    refine lv_aload_n hx hb dX7_clerk_35 rfl (lv_at hl 0 rfl) ?_
    refine g_get (v := .ref (U 1)) hx hb hts hown hK hP 0 rfl rfl gu_wsX70 0 (by decide) gm_1_17 rfl dX7_clerk_36 ?_
    refine wr_calli (va_runV (As := []) (rest := []) ⟨hx, hb, hml, hown, hts⟩ (c_X1_addClerk l D cA (fun k => U (k + 1)) (zJ c) (zjn c) (zK c) (zrw c) (zcn c) (zrl c) (zck c) (ztn c) (zsd c) (aInj_s hA 1 (by decide))) (cwV 0 hts (gWV gm_22_1 gm_22_2 gm_22_3 gm_1_16 gm_22_4) rfl rfl rfl (by decide +kernel) ⟨Nat.le_of_ble_eq_true rfl, Nat.le_of_ble_eq_true rfl⟩) (gPreV hK (g_rf hK hP (ci := 3) (q0 := 1) rfl rfl) (hP.sub [1, 2, 3, 4, 5, 6, 7, 8, 9, 10, 11, 12, 13, 14, 15, 16] rfl)) rfl rfl hl.1 rfl (lv_room (Nat.le_of_ble_eq_true rfl)) dX7_clerk_39 ⟨by omega, by omega⟩) hS (fun q _ h => aS_up (m := 16) (a := 1) (by decide) h) (fun q h => aS_up (m := 16) (a := 1) (by decide) h) (fun r H locs hw9 hz9 hk9 hS => ?_)
    obtain ⟨rfl, hPn⟩ := hw9
    have hP : va_P D vwCl (uw cA U rg (mkz (zJ c) (zjn c) (zK c) (zrw c) (zcn c) (zrl c) (zck c + 1) (ztn c) (zsd c)) z (va_up rz hd c) (hUp hd) (hCt ct) rs dt mf mn tc tl to kd fi se ta nu lc ln sv er) H := uw_C hA hP hPn hk9
    have hD : va_D (aS 189 U) (uw cA U rg (mkz (zJ c) (zjn c) (zK c) (zrw c) (zcn c) (zrl c) (zck c + 1) (ztn c) (zsd c)) z (va_up rz hd c) (hUp hd) (hCt ct) rs dt mf mn tc tl to kd fi se ta nu lc ln sv er) := uwD hA
    exact vx_ret (W.widen (k := 1) (n := 6) (by decide) (by decide) (g_iretW (v := nI (zck c + 1)) hx hb hr hlk hS dX7_clerk_42 (⟨hno_2, rfl, hP⟩)))
  · have c_1 : (rfClk (zck c)).isSome = true := eq_true_of_ne_false c_1
    exact g_throwS hx hb hlt hE hFA hown (by decide +kernel) th_UOE (List.mem_of_getElem? (i := 9) rfl) hS (hl.1.trans hml.symm) dX7_clerk_14 dX7_clerk_17 dX7_clerk_18 dX7_clerk_20 dX7_clerk_23 hte (by decide) (by decide) (by decide) (by decide) hlk (fun H1 hz8 hk8 => ⟨rfl, c_1, vP_grow hP hk8⟩) (by decide) (by decide)

set_option maxHeartbeats 1000000 in
set_option maxRecDepth 100000 in
theorem c_X7_night (l : Launch) (hlt : l.stackTraces = false) (D : va_G) (cA : Nat → ClassId) (AE : Nat → Prop) (adK adV sa : Nat → Nat) (U : Nat → Nat) (rg : Nat → Option Nat) (c z : CS) (rz : Nat → CS) (hd ct : Nat) (rs dt : Int32) (mf : Nat → Nat → Int32) (mn : Nat) (tc : Nat → Nat) (tl to : Nat) (kd fi se : Int32) (ta : Nat) (nu : Int32) (lc : Nat → Int32) (ln : Nat) (sv : Bool) (er : Int32) (hA : aInj 189 U) (hFA : ∀ q, aS 189 U q → AE q) (hz : zOk c) (hrg : uRg U rg) (hh8 : hd ≤ 8) (hc8 : ct ≤ 8) : vx_Met l yX7_night (gw yX7_night cX7_night 1 (some .int)) ({ frames := 6, cells := 1, slots := 6, locals := 144 } : Room) (gPx [.ref (U 0)] (fun H => va_P D vwCl (uw cA U rg c z rz hd ct rs dt mf mn tc tl to kd fi se ta nu lc ln sv er) H) D cA AE adK adV sa) (wrI (fun r H => rfNt (ztn c) (zrl c) = none ∧ r = nI (zTk c) ∧ va_P D vwCl (uw cA U rg (zNs c (zTk c)) z (va_up rz hd c) (hUp hd) (hCt ct) rs dt mf mn tc tl to kd fi se ta nu lc ln sv er) H) (aS 189 U)) (gXC (fun E H => (E = xUOE ∧ (rfNt (ztn c) (zrl c)).isSome = true ∧ va_P D vwCl (uw cA U rg c z rz hd ct (((rfNt (ztn c) (zrl c)).getD (rs, dt)).1) (((rfNt (ztn c) (zrl c)).getD (rs, dt)).2) mf mn tc tl to kd fi se ta nu lc ln sv er) H)) (aS 189 U)) 1 6 (aS 189 U) := by
  refine gOfv (by decide) (Nat.le_of_ble_eq_true rfl) ?_
  intro p e s m below meth c9 ls hx hb hml hr hlk hown hts hte hP hK hE hl
  have hl : lv_has ls 1 [(0, .ref (U 0))] := hl
  have hz9 := hz
  obtain ⟨hjn, hcn, hrl, hrw, hck, htn⟩ := hz
  have hD : va_D (aS 189 U) (uw cA U rg c z rz hd ct rs dt mf mn tc tl to kd fi se ta nu lc ln sv er) := uwD hA
  have hS : va_S (aS 189 U) s.heap s.heap [] := va_S.rf
  skip
  refine lv_aload_n hx hb dX7_night_0 rfl (lv_at hl 0 rfl) ?_
  refine g_get (v := .ref (U 35)) hx hb hts hown hK hP 0 rfl rfl gu_wsX70 3 (by decide) gm_2_2 rfl dX7_night_1 ?_
  refine lv_aload_n hx hb dX7_night_4 rfl (lv_at hl 0 rfl) ?_
  refine g_get (v := .ref (U 1)) hx hb hts hown hK hP 0 rfl rfl gu_wsX70 0 (by decide) gm_1_17 rfl dX7_night_5 ?_
  refine wr_calli (va_runV (As := [.ref (U 1)]) (rest := []) ⟨hx, hb, hml, hown, hts⟩ (c_X5_ofNight l D cA (fun k => U (uRf k)) rs dt (zJ c) (zjn c) (zK c) (zrw c) (zcn c) (zrl c) (zck c) (ztn c) (zsd c) (aInj_m hA uRf uRf_lt uRf_in) htn) (cwV 1 hts (gWV gm_22_16 gm_22_17 gm_22_18 gm_2_1 gm_22_19) rfl rfl rfl (by decide +kernel) ⟨Nat.le_of_ble_eq_true rfl, Nat.le_of_ble_eq_true rfl⟩) (gPreV hK (g_rf hK hP (ci := 7) (q0 := 35) rfl rfl) (hP.sub [35, 1, 2, 3, 4, 5, 6, 7, 8, 9, 10, 11, 12, 13, 14, 15, 16] rfl)) rfl rfl hl.1 rfl (lv_room (Nat.le_of_ble_eq_true rfl)) dX7_night_8 ⟨by omega, by omega⟩) hS (fun q _ h => aS_m uRf_lt h) (fun q h => aS_m uRf_lt h) (fun r H locs hw9 hz9 hk9 hS => ?_)
  obtain ⟨rfl, hPn⟩ := hw9
  have hP : va_P D vwCl (uw cA U rg c z rz hd ct (((rfNt (ztn c) (zrl c)).getD (rs, dt)).1) (((rfNt (ztn c) (zrl c)).getD (rs, dt)).2) mf mn tc tl to kd fi se ta nu lc ln sv er) H := uw_R hA hP hPn hk9
  have hD : va_D (aS 189 U) (uw cA U rg c z rz hd ct (((rfNt (ztn c) (zrl c)).getD (rs, dt)).1) (((rfNt (ztn c) (zrl c)).getD (rs, dt)).2) mf mn tc tl to kd fi se ta nu lc ln sv er) := uwD hA
  refine g_if_eq (P := (rfNt (ztn c) (zrl c)).isSome = false) (tgt := 24) hx hb dX7_night_11 (by decide) b2i_0 (fun c_1 => ?_) (fun c_1 => ?_)
  · have hno_2 : rfNt (ztn c) (zrl c) = none := Option.not_isSome_iff_eq_none.mp (by rw [c_1]; decide)
    rw [hno_2] at hP
    have hP : va_P D vwCl (uw cA U rg c z rz hd ct rs dt mf mn tc tl to kd fi se ta nu lc ln sv er) H := hP
    have hD : va_D (aS 189 U) (uw cA U rg c z rz hd ct rs dt mf mn tc tl to kd fi se ta nu lc ln sv er) := uwD hA
    have hj9 := lt99_of hno_2
    refine lv_aload_n hx hb dX7_night_24 rfl (lv_at hl 0 rfl) ?_
    refine g_get (v := .ref (U 33)) hx hb hts hown hK hP 0 rfl rfl gu_wsX70 2 (by decide) gm_1_22 rfl dX7_night_25 ?_
    refine lv_aload_n hx hb dX7_night_28 rfl (lv_at hl 0 rfl) ?_
    refine g_get (v := .ref (U 1)) hx hb hts hown hK hP 0 rfl rfl gu_wsX70 0 (by decide) gm_1_17 rfl dX7_night_29 ?_
    refine wr_callv (va_runV (As := [.ref (U 1)]) (rest := []) ⟨hx, hb, hml, hown, hts⟩ (c_X2_keep l D cA (fun k => U (uHf hd k)) rg hd ct (rz hd) c (aInj_m hA (uHf hd) (uHf_lt (by omega)) (uHf_in (by omega))) hh8 (hrg _ (by omega)) hc8) (cwV 1 hts (gWV gm_7_3 gm_7_4 gm_7_5 gm_1_21 gm_7_6) rfl rfl rfl (by decide +kernel) ⟨Nat.le_of_ble_eq_true rfl, Nat.le_of_ble_eq_true rfl⟩) (gPreV hK (g_rf hK hP (ci := 4) (q0 := 33) rfl rfl) (uw_toH hA (by omega) hP)) rfl rfl hl.1 rfl (lv_room (Nat.le_of_ble_eq_true rfl)) dX7_night_32 ⟨by omega, by omega⟩) hS (fun q _ h => aS_m (uHf_lt (by omega)) h) (fun q h => aS_m (uHf_lt (by omega)) h) (fun H locs hPn hz9 hk9 hS => ?_)
    have hP : va_P D vwCl (uw cA U rg c z (va_up rz hd c) (hUp hd) (hCt ct) rs dt mf mn tc tl to kd fi se ta nu lc ln sv er) H := uw_H hA (by omega) hP hPn hk9
    have hD : va_D (aS 189 U) (uw cA U rg c z (va_up rz hd c) (hUp hd) (hCt ct) rs dt mf mn tc tl to kd fi se ta nu lc ln sv er) := uwD hA
    refine lv_aload_n hx hb dX7_night_35 rfl (lv_at hl 0 rfl) ?_
    refine g_get (v := .ref (U 1)) hx hb hts hown hK hP 0 rfl rfl gu_wsX70 0 (by decide) gm_1_17 rfl dX7_night_36 ?_
    refine wr_calli (va_runV (As := []) (rest := []) ⟨hx, hb, hml, hown, hts⟩ (c_X1_passNight l D cA (fun k => U (k + 1)) (zJ c) (zjn c) (zK c) (zrw c) (zcn c) (zrl c) (zck c) (ztn c) (zsd c) (aInj_s hA 1 (by decide)) hjn hcn hrl hrw hck (by omega)) (cwV 0 hts (gWV gm_22_22 gm_22_23 gm_23_0 gm_1_16 gm_23_1) rfl rfl rfl (by decide +kernel) ⟨Nat.le_of_ble_eq_true rfl, Nat.le_of_ble_eq_true rfl⟩) (gPreV hK (g_rf hK hP (ci := 3) (q0 := 1) rfl rfl) (hP.sub [1, 2, 3, 4, 5, 6, 7, 8, 9, 10, 11, 12, 13, 14, 15, 16] rfl)) rfl rfl hl.1 rfl (lv_room (Nat.le_of_ble_eq_true rfl)) dX7_night_39 ⟨by omega, by omega⟩) hS (fun q _ h => aS_up (m := 16) (a := 1) (by decide) h) (fun q h => aS_up (m := 16) (a := 1) (by decide) h) (fun r H locs hw9 hz9 hk9 hS => ?_)
    obtain ⟨rfl, hPn⟩ := hw9
    have hP : va_P D vwCl (uw cA U rg (zNs c (zTk c)) z (va_up rz hd c) (hUp hd) (hCt ct) rs dt mf mn tc tl to kd fi se ta nu lc ln sv er) H := uw_C hA hP hPn hk9
    have hD : va_D (aS 189 U) (uw cA U rg (zNs c (zTk c)) z (va_up rz hd c) (hUp hd) (hCt ct) rs dt mf mn tc tl to kd fi se ta nu lc ln sv er) := uwD hA
    exact vx_ret (W.widen (k := 1) (n := 6) (by decide) (by decide) (g_iretW (v := nI (zTk c)) hx hb hr hlk hS dX7_night_42 (⟨hno_2, rfl, hP⟩)))
  · have c_1 : (rfNt (ztn c) (zrl c)).isSome = true := eq_true_of_ne_false c_1
    exact g_throwS hx hb hlt hE hFA hown (by decide +kernel) th_UOE (List.mem_of_getElem? (i := 10) rfl) hS (hl.1.trans hml.symm) dX7_night_14 dX7_night_17 dX7_night_18 dX7_night_20 dX7_night_23 hte (by decide) (by decide) (by decide) (by decide) hlk (fun H1 hz8 hk8 => ⟨rfl, c_1, vP_grow hP hk8⟩) (by decide) (by decide)

theorem nthV_31 {first : Int32 → Option Nat} {n : Nat} {v : Int32} (hn : n ≤ 10) (h : ∀ o b, first o = some b → b < n) : ∀ b, nthV first n v = some b → b < 2 ^ 31 := by
  intro b e
  unfold nthV at e
  split at e
  · have := nthS_lt h _ b e; omega
  · cases e
theorem rowA_31 {rl : Nat} {rw9 : Nat → Nat} {v : Int32} (h : ∀ k, k < rl → rw9 k < 10) (hr : rl ≤ 10) : ∀ b, (if isIx v rl = true then some (rw9 v.toNatClampNeg) else none) = some b → b < 2 ^ 31 := by
  intro b e
  split at e
  · obtain ⟨j, hj, e9⟩ := isIx_n (by assumption) (by omega : rl < 2 ^ 31)
    rw [e9, nI_clamp (by omega)] at e
    have := h j hj
    cases e
    omega
  · cases e
def joF (c : CS) (j k : Nat) : Int32 := match k with
  | 0 => zJ c 0 j
  | 1 => zJ c 1 j
  | 2 => nI (ldF (zK c) (zcn c) j)
  | 3 => zJ c 2 j
  | _ => zJ c 3 j
def coF (c : CS) (q k : Nat) : Int32 := match k with
  | 5 => if clF (zK c) q = true then nI 1 else nI 0
  | k => zK c k q
def acF (c : CS) (tl ct k : Nat) : Int32 := match k with
  | 0 => nI (zjn c)
  | 1 => nI (zcn c)
  | 2 => nI (zck c)
  | 3 => nI (ztn c)
  | 4 => nI (fb_ct (fun q => !hpF (zK c) q) (zcn c))
  | 5 => nI (fb_ct (fun q => clF (zK c) q) (zcn c))
  | 6 => zsd c
  | 7 => isum (zK c 6) (zcn c)
  | 8 => isum (zK c 7) (zcn c)
  | 9 => isum (zJ c 1) (zjn c)
  | 10 => nI tl
  | _ => nI ct
def wlF (c : CS) : Bool := (fnd (fun j => !decide (nI (ldF (zK c) (zcn c) j) = lrF (zK c) (zcn c) j) || decide (3 < ldF (zK c) (zcn c) j)) (zjn c)).isNone && (fnd (fun k => !decide (oI (if isIx (nI k) (zrl c) = true then some (zrw c (nI k).toNatClampNeg) else none) = oI (nthV (fhF (zK c) (zcn c)) (zcn c) (nI k)))) (zrl c + 1)).isNone && (fnd (fun c9 => !decide (zK c 2 c9 = 0) && !decide (vdF (zJ c 0) (zJ c 1) (zjn c) (zK c 2 c9) (zK c 0 c9) = vmF (zJ c 0) (zJ c 1) (zjn c) (zK c 2 c9) (zK c 0 c9))) (zcn c)).isNone && (fnd (fun c9 => rpF (zK c) c9 (nI (ztn c))) (zcn c)).isNone
theorem inB_lo {v : Int32} {n : Nat} (h : v < 0) : inB v (nI 0) (nI n) = false := by rw [inB, nI_0]; simp [h]
theorem inB_hi {v : Int32} {n : Nat} (h : ¬ v ≤ nI n) : inB v (nI 0) (nI n) = false := by rw [inB]; exact decide_eq_false (fun q => h (Int32.not_lt.mp q.2))
theorem inB_in {v : Int32} {n : Nat} (h1 : ¬ v < 0) (h2 : v ≤ nI n) : inB v (nI 0) (nI n) = true := by rw [inB, nI_0]; exact decide_eq_true ⟨h1, Int32.not_lt.mpr h2⟩
def wrD (post : UInt64 → Heap → Prop) (A : Nat → Prop) : Array Value → State → Outcome → State → Prop := fun _ st oc t => (∃ r : UInt64, oc = .returned (some (.double r)) ∧ post r t.heap) ∧ va_F A st t
def wrF (post : UInt32 → Heap → Prop) (A : Nat → Prop) : Array Value → State → Outcome → State → Prop := fun _ st oc t => (∃ r : UInt32, oc = .returned (some (.float r)) ∧ post r t.heap) ∧ va_F A st t
section GK7
variable {p : Program} {l : Launch} {e : Env} {R : Room} {s : State} {m : MethodId} {args : Array Value} {below : List Frame} {meth : Method} {c : Code} {H : Heap} {locs : List Loc} {cells slots : Nat} {cc : ByteArray} {pc : Nat} {ls : Array Slot}
theorem g_dretW {v : UInt64} {post : UInt64 → Heap → Prop} {A : Nat → Prop} (hx : p.tables.exec = Jvm.exec) (hb : c.code = cc) (hr : meth.sig.returnType = some .double) (hlk : meth.locks = false) (hS : va_S A s.heap H locs) (hdg : decode cc pc = .ok (.dreturn, 1)) (hp : post v H) : W p l e R s m args below meth c H locs cells slots (MQ below (wrD post A) args s cells slots A) (F0 m pc ls [.double v]) :=
  W.dret hx hb hr (fun t ht _ => ⟨⟨v, rfl, by rw [ht]; exact hp⟩, hS.F ht⟩) hS.2.2 hdg hlk
theorem g_fretW {v : UInt32} {post : UInt32 → Heap → Prop} {A : Nat → Prop} (hx : p.tables.exec = Jvm.exec) (hb : c.code = cc) (hr : meth.sig.returnType = some .float) (hlk : meth.locks = false) (hS : va_S A s.heap H locs) (hdg : decode cc pc = .ok (.freturn, 1)) (hp : post v H) : W p l e R s m args below meth c H locs cells slots (MQ below (wrF post A) args s cells slots A) (F0 m pc ls [.float v]) :=
  W.fret hx hb hr (fun t ht _ => ⟨⟨v, rfl, by rw [ht]; exact hp⟩, hS.F ht⟩) hS.2.2 hdg hlk
end GK7

set_option maxHeartbeats 1000000 in
set_option maxRecDepth 100000 in
theorem c_X7_jurorOf (l : Launch) (hlt : l.stackTraces = false) (D : va_G) (cA : Nat → ClassId) (AE : Nat → Prop) (adK adV sa : Nat → Nat) (U : Nat → Nat) (rg : Nat → Option Nat) (c z : CS) (rz : Nat → CS) (hd ct : Nat) (rs dt : Int32) (mf : Nat → Nat → Int32) (mn : Nat) (tc : Nat → Nat) (tl to : Nat) (kd fi se : Int32) (ta : Nat) (nu : Int32) (lc : Nat → Int32) (ln : Nat) (sv : Bool) (er : Int32) (v t : Int32) (hA : aInj 189 U) (hFA : ∀ q, aS 189 U q → AE q) (hz : zOk c)  : vx_Met l yX7_jurorOf (gw yX7_jurorOf cX7_jurorOf 3 (some .int)) ({ frames := 6, cells := 1, slots := 6, locals := 82 } : Room) (gPx [.ref (U 0), .int (v), .int (t)] (fun H => va_P D vwCl (uw cA U rg c z rz hd ct rs dt mf mn tc tl to kd fi se ta nu lc ln sv er) H) D cA AE adK adV sa) (wrI (fun r H => ∃ j k : Nat, j < zjn c ∧ k ≤ 4 ∧ v = nI j ∧ t = nI k ∧ r = joF c j k ∧ va_P D vwCl (uw cA U rg c z rz hd ct rs dt mf mn tc tl to kd fi se ta nu lc ln sv er) H) (aS 189 U)) (gXC (fun E H => (E = xIOB ∧ isIx v (zjn c) = false ∧ va_P D vwCl (uw cA U rg c z rz hd ct rs dt mf mn tc tl to kd fi se ta nu lc ln sv er) H) ∨ (E = xIAE ∧ ∃ j : Nat, j < zjn c ∧ v = nI j ∧ inB t (nI 0) (nI 4) = false ∧ va_P D vwCl (uw cA U rg c z rz hd ct rs dt mf mn tc tl to kd fi se ta nu lc ln sv er) H)) (aS 189 U)) 1 6 (aS 189 U) := by
  refine gOfv (by decide) (Nat.le_of_ble_eq_true rfl) ?_
  intro p e s m below meth c9 ls hx hb hml hr hlk hown hts hte hP hK hE hl
  have hl : lv_has ls 3 [(0, .ref (U 0)), (1, .int (v)), (2, .int (t))] := hl
  have hz9 := hz
  obtain ⟨hjn, hcn, hrl, hrw, hck, htn⟩ := hz
  have hD : va_D (aS 189 U) (uw cA U rg c z rz hd ct rs dt mf mn tc tl to kd fi se ta nu lc ln sv er) := uwD hA
  have hS : va_S (aS 189 U) s.heap s.heap [] := va_S.rf
  skip
  refine lv_aload_n hx hb dX7_jurorOf_0 rfl (lv_at hl 0 rfl) ?_
  refine g_get (v := .ref (U 1)) hx hb hts hown hK hP 0 rfl rfl gu_wsX70 0 (by decide) gm_1_17 rfl dX7_jurorOf_1 ?_
  refine g_get (v := .ref (U 2)) hx hb hts hown hK hP 1 rfl rfl gu_wsX10 0 (by decide) gm_6_13 rfl dX7_jurorOf_4 ?_
  refine lv_iload_n hx hb dX7_jurorOf_7 rfl (lv_at hl 1 rfl) ?_
  refine rd_calle (va_runV (As := [.int (v)]) (rest := []) ⟨hx, hb, hml, hown, hts⟩ (c_X3_has l D cA (fun k => U (k + 2)) (zJ c) (zjn c) (v) hjn) (cwV 1 hts (gWV gm_25_1 gm_25_2 gm_25_3 gm_2_5 gm_25_4) rfl rfl rfl (by decide +kernel) ⟨Nat.le_of_ble_eq_true rfl, Nat.le_of_ble_eq_true rfl⟩) (gPreV hK (g_rf hK hP (ci := 5) (q0 := 2) rfl rfl) (hP.sub [2, 3, 4, 5, 6] rfl)) rfl rfl hl.1 rfl (lv_room (Nat.le_of_ble_eq_true rfl)) dX7_jurorOf_8 ⟨by omega, by omega⟩) ?_
  refine g_if_ne (P := isIx (v) (zjn c) = false) (tgt := 24) hx hb dX7_jurorOf_11 (by decide) b2i_0 (fun c_1 => ?_) (fun c_1 => ?_)
  · have c_1 : isIx (v) (zjn c) = true := eq_true_of_ne_false c_1
    obtain ⟨j_2, hj_4, ej_3⟩ := isIx_n c_1 (by omega)
    rw [ej_3] at hl
    have hl : lv_has ls 3 [(0, .ref (U 0)), (1, .int (nI (j_2))), (2, .int (t))] := hl
    by_cases csw_5 : inB (t) (nI 0) (nI 4) = true
    · obtain ⟨k_6, hk_7, ek_8⟩ := inB_n csw_5 (by decide)
      rw [ek_8] at hl
      have hl : lv_has ls 3 [(0, .ref (U 0)), (1, .int (nI (j_2))), (2, .int (nI (k_6)))] := hl
      refine lv_iload_n hx hb dX7_jurorOf_24 rfl (lv_at hl 2 rfl) ?_
      have hsw_9 : k_6 = 0 ∨ k_6 = 1 ∨ k_6 = 2 ∨ k_6 = 3 ∨ k_6 = 4 := by omega
      rcases hsw_9 with rfl | rfl | rfl | rfl | rfl
      · refine lv_tableIn (off := 35) (tgt := 60) hx hb dX7_jurorOf_25 (by decide +kernel) (by decide +kernel) (by decide +kernel) (by decide) ?_
        refine lv_aload_n hx hb dX7_jurorOf_60 rfl (lv_at hl 0 rfl) ?_
        refine g_get (v := .ref (U 1)) hx hb hts hown hK hP 0 rfl rfl gu_wsX70 0 (by decide) gm_1_17 rfl dX7_jurorOf_61 ?_
        refine g_get (v := .ref (U 2)) hx hb hts hown hK hP 1 rfl rfl gu_wsX10 0 (by decide) gm_6_13 rfl dX7_jurorOf_64 ?_
        refine g_get (v := .ref (U 3)) hx hb hts hown hK hP 2 rfl rfl gu_wsX30 0 (by decide) gm_24_21 rfl dX7_jurorOf_67 ?_
        refine lv_iload_n hx hb dX7_jurorOf_70 rfl (lv_at hl 1 rfl) ?_
        refine g_iald (x := (zJ c 0) (j_2)) hx hb hK hP 3 rfl (by omega) (by decide) rfl dX7_jurorOf_71 ?_
        exact vx_ret (W.widen (k := 1) (n := 6) (by decide) (by decide) (g_iretW (v := (zJ c 0) (j_2)) hx hb hr hlk hS dX7_jurorOf_72 (⟨j_2, 0, hj_4, by decide, ej_3, ek_8, rfl, hP⟩)))
      · refine lv_tableIn (off := 48) (tgt := 73) hx hb dX7_jurorOf_25 (by decide +kernel) (by decide +kernel) (by decide +kernel) (by decide) ?_
        refine lv_aload_n hx hb dX7_jurorOf_73 rfl (lv_at hl 0 rfl) ?_
        refine g_get (v := .ref (U 1)) hx hb hts hown hK hP 0 rfl rfl gu_wsX70 0 (by decide) gm_1_17 rfl dX7_jurorOf_74 ?_
        refine g_get (v := .ref (U 2)) hx hb hts hown hK hP 1 rfl rfl gu_wsX10 0 (by decide) gm_6_13 rfl dX7_jurorOf_77 ?_
        refine g_get (v := .ref (U 4)) hx hb hts hown hK hP 2 rfl rfl gu_wsX30 1 (by decide) gm_24_22 rfl dX7_jurorOf_80 ?_
        refine lv_iload_n hx hb dX7_jurorOf_83 rfl (lv_at hl 1 rfl) ?_
        refine g_iald (x := (zJ c 1) (j_2)) hx hb hK hP 4 rfl (by omega) (by decide) rfl dX7_jurorOf_84 ?_
        exact vx_ret (W.widen (k := 1) (n := 6) (by decide) (by decide) (g_iretW (v := (zJ c 1) (j_2)) hx hb hr hlk hS dX7_jurorOf_85 (⟨j_2, 1, hj_4, by decide, ej_3, ek_8, rfl, hP⟩)))
      · refine lv_tableIn (off := 61) (tgt := 86) hx hb dX7_jurorOf_25 (by decide +kernel) (by decide +kernel) (by decide +kernel) (by decide) ?_
        refine lv_aload_n hx hb dX7_jurorOf_86 rfl (lv_at hl 0 rfl) ?_
        refine g_get (v := .ref (U 1)) hx hb hts hown hK hP 0 rfl rfl gu_wsX70 0 (by decide) gm_1_17 rfl dX7_jurorOf_87 ?_
        refine lv_iload_n hx hb dX7_jurorOf_90 rfl (lv_at hl 1 rfl) ?_
        refine rd_calle (va_runV (As := [.int (nI (j_2))]) (rest := []) ⟨hx, hb, hml, hown, hts⟩ (c_X1_loadOf l D cA (fun k => U (k + 1)) (zJ c) (zjn c) (zK c) (zrw c) (zcn c) (zrl c) (zck c) (ztn c) (zsd c) (j_2) hcn) (cwV 1 hts (gWV gm_25_5 gm_12_11 gm_12_12 gm_1_16 gm_12_13) rfl rfl rfl (by decide +kernel) ⟨Nat.le_of_ble_eq_true rfl, Nat.le_of_ble_eq_true rfl⟩) (gPreV hK (g_rf hK hP (ci := 3) (q0 := 1) rfl rfl) (hP.sub [1, 2, 3, 4, 5, 6, 7, 8, 9, 10, 11, 12, 13, 14, 15, 16] rfl)) rfl rfl hl.1 rfl (lv_room (Nat.le_of_ble_eq_true rfl)) dX7_jurorOf_91 ⟨by omega, by omega⟩) ?_
        exact vx_ret (W.widen (k := 1) (n := 6) (by decide) (by decide) (g_iretW (v := nI (ldF (zK c) (zcn c) (j_2))) hx hb hr hlk hS dX7_jurorOf_94 (⟨j_2, 2, hj_4, by decide, ej_3, ek_8, rfl, hP⟩)))
      · refine lv_tableIn (off := 70) (tgt := 95) hx hb dX7_jurorOf_25 (by decide +kernel) (by decide +kernel) (by decide +kernel) (by decide) ?_
        refine lv_aload_n hx hb dX7_jurorOf_95 rfl (lv_at hl 0 rfl) ?_
        refine g_get (v := .ref (U 1)) hx hb hts hown hK hP 0 rfl rfl gu_wsX70 0 (by decide) gm_1_17 rfl dX7_jurorOf_96 ?_
        refine g_get (v := .ref (U 2)) hx hb hts hown hK hP 1 rfl rfl gu_wsX10 0 (by decide) gm_6_13 rfl dX7_jurorOf_99 ?_
        refine g_get (v := .ref (U 5)) hx hb hts hown hK hP 2 rfl rfl gu_wsX30 2 (by decide) gm_24_23 rfl dX7_jurorOf_102 ?_
        refine lv_iload_n hx hb dX7_jurorOf_105 rfl (lv_at hl 1 rfl) ?_
        refine g_iald (x := (zJ c 2) (j_2)) hx hb hK hP 5 rfl (by omega) (by decide) rfl dX7_jurorOf_106 ?_
        exact vx_ret (W.widen (k := 1) (n := 6) (by decide) (by decide) (g_iretW (v := (zJ c 2) (j_2)) hx hb hr hlk hS dX7_jurorOf_107 (⟨j_2, 3, hj_4, by decide, ej_3, ek_8, rfl, hP⟩)))
      · refine lv_tableIn (off := 83) (tgt := 108) hx hb dX7_jurorOf_25 (by decide +kernel) (by decide +kernel) (by decide +kernel) (by decide) ?_
        refine lv_aload_n hx hb dX7_jurorOf_108 rfl (lv_at hl 0 rfl) ?_
        refine g_get (v := .ref (U 1)) hx hb hts hown hK hP 0 rfl rfl gu_wsX70 0 (by decide) gm_1_17 rfl dX7_jurorOf_109 ?_
        refine g_get (v := .ref (U 2)) hx hb hts hown hK hP 1 rfl rfl gu_wsX10 0 (by decide) gm_6_13 rfl dX7_jurorOf_112 ?_
        refine g_get (v := .ref (U 6)) hx hb hts hown hK hP 2 rfl rfl gu_wsX30 3 (by decide) gm_25_0 rfl dX7_jurorOf_115 ?_
        refine lv_iload_n hx hb dX7_jurorOf_118 rfl (lv_at hl 1 rfl) ?_
        refine g_iald (x := (zJ c 3) (j_2)) hx hb hK hP 6 rfl (by omega) (by decide) rfl dX7_jurorOf_119 ?_
        exact vx_ret (W.widen (k := 1) (n := 6) (by decide) (by decide) (g_iretW (v := (zJ c 3) (j_2)) hx hb hr hlk hS dX7_jurorOf_120 (⟨j_2, 4, hj_4, by decide, ej_3, ek_8, rfl, hP⟩)))
    · refine lv_iload_n hx hb dX7_jurorOf_24 rfl (lv_at hl 2 rfl) ?_
      refine lv_tableOut (tgt := 121) hx hb dX7_jurorOf_25 (inB_out csw_5 (by decide) (by decide)) (by decide) ?_
      exact g_throwS hx hb hlt hE hFA hown (by decide +kernel) th_IAE (List.mem_of_getElem? (i := 12) rfl) hS (hl.1.trans hml.symm) dX7_jurorOf_121 dX7_jurorOf_124 dX7_jurorOf_125 dX7_jurorOf_127 dX7_jurorOf_130 hte (by decide) (by decide) (by decide) (by decide) hlk (fun H1 hz8 hk8 => Or.inr (⟨rfl, j_2, hj_4, ej_3, eq_false_of_ne_true csw_5, vP_grow hP hk8⟩)) (by decide) (by decide)
  · exact g_throwS hx hb hlt hE hFA hown (by decide +kernel) th_IOB (List.mem_of_getElem? (i := 11) rfl) hS (hl.1.trans hml.symm) dX7_jurorOf_14 dX7_jurorOf_17 dX7_jurorOf_18 dX7_jurorOf_20 dX7_jurorOf_23 hte (by decide) (by decide) (by decide) (by decide) hlk (fun H1 hz8 hk8 => Or.inl ⟨rfl, c_1, vP_grow hP hk8⟩) (by decide) (by decide)

set_option maxHeartbeats 1000000 in
set_option maxRecDepth 100000 in
theorem c_X7_caseOf (l : Launch) (hlt : l.stackTraces = false) (D : va_G) (cA : Nat → ClassId) (AE : Nat → Prop) (adK adV sa : Nat → Nat) (U : Nat → Nat) (rg : Nat → Option Nat) (c z : CS) (rz : Nat → CS) (hd ct : Nat) (rs dt : Int32) (mf : Nat → Nat → Int32) (mn : Nat) (tc : Nat → Nat) (tl to : Nat) (kd fi se : Int32) (ta : Nat) (nu : Int32) (lc : Nat → Int32) (ln : Nat) (sv : Bool) (er : Int32) (v t : Int32) (hA : aInj 189 U) (hFA : ∀ q, aS 189 U q → AE q) (hz : zOk c)  : vx_Met l yX7_caseOf (gw yX7_caseOf cX7_caseOf 4 (some .int)) ({ frames := 6, cells := 1, slots := 6, locals := 82 } : Room) (gPx [.ref (U 0), .int (v), .int (t)] (fun H => va_P D vwCl (uw cA U rg c z rz hd ct rs dt mf mn tc tl to kd fi se ta nu lc ln sv er) H) D cA AE adK adV sa) (wrI (fun r H => ∃ j k : Nat, j < zcn c ∧ k ≤ 7 ∧ v = nI j ∧ t = nI k ∧ r = coF c j k ∧ va_P D vwCl (uw cA U rg c z rz hd ct rs dt mf mn tc tl to kd fi se ta nu lc ln sv er) H) (aS 189 U)) (gXC (fun E H => (E = xIOB ∧ isIx v (zcn c) = false ∧ va_P D vwCl (uw cA U rg c z rz hd ct rs dt mf mn tc tl to kd fi se ta nu lc ln sv er) H) ∨ (E = xIAE ∧ ∃ j : Nat, j < zcn c ∧ v = nI j ∧ inB t (nI 0) (nI 7) = false ∧ va_P D vwCl (uw cA U rg c z rz hd ct rs dt mf mn tc tl to kd fi se ta nu lc ln sv er) H)) (aS 189 U)) 1 6 (aS 189 U) := by
  refine gOfv (by decide) (Nat.le_of_ble_eq_true rfl) ?_
  intro p e s m below meth c9 ls hx hb hml hr hlk hown hts hte hP hK hE hl
  have hl : lv_has ls 4 [(0, .ref (U 0)), (1, .int (v)), (2, .int (t))] := hl
  have hz9 := hz
  obtain ⟨hjn, hcn, hrl, hrw, hck, htn⟩ := hz
  have hD : va_D (aS 189 U) (uw cA U rg c z rz hd ct rs dt mf mn tc tl to kd fi se ta nu lc ln sv er) := uwD hA
  have hS : va_S (aS 189 U) s.heap s.heap [] := va_S.rf
  skip
  refine lv_aload_n hx hb dX7_caseOf_0 rfl (lv_at hl 0 rfl) ?_
  refine g_get (v := .ref (U 1)) hx hb hts hown hK hP 0 rfl rfl gu_wsX70 0 (by decide) gm_1_17 rfl dX7_caseOf_1 ?_
  refine g_get (v := .ref (U 7)) hx hb hts hown hK hP 1 rfl rfl gu_wsX10 1 (by decide) gm_10_7 rfl dX7_caseOf_4 ?_
  refine lv_astore_n (lv' := [(3, .ref (U 7)), (0, .ref (U 0)), (1, .int (v)), (2, .int (t))]) hx hb dX7_caseOf_7 rfl hl (by decide) rfl (fun ls hl => ?_)
  refine lv_aload_n hx hb dX7_caseOf_8 rfl (lv_at hl 0 rfl) ?_
  refine lv_iload_n hx hb dX7_caseOf_9 rfl (lv_at hl 2 rfl) ?_
  refine rd_calle (va_runV (As := [.int (v)]) (rest := []) ⟨hx, hb, hml, hown, hts⟩ (c_X0_has l D cA (fun k => U (k + 7)) (zK c) (zrw c) (zcn c) (zrl c) (v) hcn) (cwV 1 hts (gWV gm_11_15 gm_11_16 gm_11_17 gm_3_0 gm_11_18) rfl rfl rfl (by decide +kernel) ⟨Nat.le_of_ble_eq_true rfl, Nat.le_of_ble_eq_true rfl⟩) (gPreV hK (g_rf hK hP (ci := 2) (q0 := 7) rfl rfl) (hP.sub [7, 8, 9, 10, 11, 12, 13, 14, 15, 16] rfl)) rfl rfl hl.1 rfl (lv_room (Nat.le_of_ble_eq_true rfl)) dX7_caseOf_10 ⟨by omega, by omega⟩) ?_
  refine g_if_ne (P := isIx (v) (zcn c) = false) (tgt := 26) hx hb dX7_caseOf_13 (by decide) b2i_0 (fun c_1 => ?_) (fun c_1 => ?_)
  · have c_1 : isIx (v) (zcn c) = true := eq_true_of_ne_false c_1
    obtain ⟨j_2, hj_4, ej_3⟩ := isIx_n c_1 (by omega)
    rw [ej_3] at hl
    have hl : lv_has ls 4 [(3, .ref (U 7)), (0, .ref (U 0)), (1, .int (nI (j_2))), (2, .int (t))] := hl
    by_cases csw_5 : inB (t) (nI 0) (nI 7) = true
    · obtain ⟨k_6, hk_7, ek_8⟩ := inB_n csw_5 (by decide)
      rw [ek_8] at hl
      have hl : lv_has ls 4 [(3, .ref (U 7)), (0, .ref (U 0)), (1, .int (nI (j_2))), (2, .int (nI (k_6)))] := hl
      refine lv_iload_n hx hb dX7_caseOf_26 rfl (lv_at hl 3 rfl) ?_
      have hsw_9 : k_6 = 0 ∨ k_6 = 1 ∨ k_6 = 2 ∨ k_6 = 3 ∨ k_6 = 4 ∨ k_6 = 5 ∨ k_6 = 6 ∨ k_6 = 7 := by omega
      rcases hsw_9 with rfl | rfl | rfl | rfl | rfl | rfl | rfl | rfl
      · refine lv_tableIn (off := 45) (tgt := 72) hx hb dX7_caseOf_27 (by decide +kernel) (by decide +kernel) (by decide +kernel) (by decide) ?_
        refine lv_aload_n hx hb dX7_caseOf_72 rfl (lv_at hl 0 rfl) ?_
        refine g_get (v := .ref (U 8)) hx hb hts hown hK hP 7 rfl rfl gu_wsX00 0 (by decide) gm_25_21 rfl dX7_caseOf_73 ?_
        refine lv_iload_n hx hb dX7_caseOf_76 rfl (lv_at hl 2 rfl) ?_
        refine g_iald (x := (zK c 0) (j_2)) hx hb hK hP 8 rfl (by omega) (by decide) rfl dX7_caseOf_77 ?_
        exact vx_ret (W.widen (k := 1) (n := 6) (by decide) (by decide) (g_iretW (v := (zK c 0) (j_2)) hx hb hr hlk hS dX7_caseOf_78 (⟨j_2, 0, hj_4, by decide, ej_3, ek_8, rfl, hP⟩)))
      · refine lv_tableIn (off := 52) (tgt := 79) hx hb dX7_caseOf_27 (by decide +kernel) (by decide +kernel) (by decide +kernel) (by decide) ?_
        refine lv_aload_n hx hb dX7_caseOf_79 rfl (lv_at hl 0 rfl) ?_
        refine g_get (v := .ref (U 9)) hx hb hts hown hK hP 7 rfl rfl gu_wsX00 1 (by decide) gm_25_22 rfl dX7_caseOf_80 ?_
        refine lv_iload_n hx hb dX7_caseOf_83 rfl (lv_at hl 2 rfl) ?_
        refine g_iald (x := (zK c 1) (j_2)) hx hb hK hP 9 rfl (by omega) (by decide) rfl dX7_caseOf_84 ?_
        exact vx_ret (W.widen (k := 1) (n := 6) (by decide) (by decide) (g_iretW (v := (zK c 1) (j_2)) hx hb hr hlk hS dX7_caseOf_85 (⟨j_2, 1, hj_4, by decide, ej_3, ek_8, rfl, hP⟩)))
      · refine lv_tableIn (off := 59) (tgt := 86) hx hb dX7_caseOf_27 (by decide +kernel) (by decide +kernel) (by decide +kernel) (by decide) ?_
        refine lv_aload_n hx hb dX7_caseOf_86 rfl (lv_at hl 0 rfl) ?_
        refine g_get (v := .ref (U 10)) hx hb hts hown hK hP 7 rfl rfl gu_wsX00 2 (by decide) gm_25_23 rfl dX7_caseOf_87 ?_
        refine lv_iload_n hx hb dX7_caseOf_90 rfl (lv_at hl 2 rfl) ?_
        refine g_iald (x := (zK c 2) (j_2)) hx hb hK hP 10 rfl (by omega) (by decide) rfl dX7_caseOf_91 ?_
        exact vx_ret (W.widen (k := 1) (n := 6) (by decide) (by decide) (g_iretW (v := (zK c 2) (j_2)) hx hb hr hlk hS dX7_caseOf_92 (⟨j_2, 2, hj_4, by decide, ej_3, ek_8, rfl, hP⟩)))
      · refine lv_tableIn (off := 66) (tgt := 93) hx hb dX7_caseOf_27 (by decide +kernel) (by decide +kernel) (by decide +kernel) (by decide) ?_
        refine lv_aload_n hx hb dX7_caseOf_93 rfl (lv_at hl 0 rfl) ?_
        refine g_get (v := .ref (U 11)) hx hb hts hown hK hP 7 rfl rfl gu_wsX00 3 (by decide) gm_26_0 rfl dX7_caseOf_94 ?_
        refine lv_iload_n hx hb dX7_caseOf_97 rfl (lv_at hl 2 rfl) ?_
        refine g_iald (x := (zK c 3) (j_2)) hx hb hK hP 11 rfl (by omega) (by decide) rfl dX7_caseOf_98 ?_
        exact vx_ret (W.widen (k := 1) (n := 6) (by decide) (by decide) (g_iretW (v := (zK c 3) (j_2)) hx hb hr hlk hS dX7_caseOf_99 (⟨j_2, 3, hj_4, by decide, ej_3, ek_8, rfl, hP⟩)))
      · refine lv_tableIn (off := 73) (tgt := 100) hx hb dX7_caseOf_27 (by decide +kernel) (by decide +kernel) (by decide +kernel) (by decide) ?_
        refine lv_aload_n hx hb dX7_caseOf_100 rfl (lv_at hl 0 rfl) ?_
        refine g_get (v := .ref (U 12)) hx hb hts hown hK hP 7 rfl rfl gu_wsX00 4 (by decide) gm_26_1 rfl dX7_caseOf_101 ?_
        refine lv_iload_n hx hb dX7_caseOf_104 rfl (lv_at hl 2 rfl) ?_
        refine g_iald (x := (zK c 4) (j_2)) hx hb hK hP 12 rfl (by omega) (by decide) rfl dX7_caseOf_105 ?_
        exact vx_ret (W.widen (k := 1) (n := 6) (by decide) (by decide) (g_iretW (v := (zK c 4) (j_2)) hx hb hr hlk hS dX7_caseOf_106 (⟨j_2, 4, hj_4, by decide, ej_3, ek_8, rfl, hP⟩)))
      · refine lv_tableIn (off := 80) (tgt := 107) hx hb dX7_caseOf_27 (by decide +kernel) (by decide +kernel) (by decide +kernel) (by decide) ?_
        refine lv_aload_n hx hb dX7_caseOf_107 rfl (lv_at hl 0 rfl) ?_
        refine lv_iload_n hx hb dX7_caseOf_108 rfl (lv_at hl 2 rfl) ?_
        refine rd_calle (va_runV (As := [.int (nI (j_2))]) (rest := []) ⟨hx, hb, hml, hown, hts⟩ (c_X0_isClosed l D cA (fun k => U (k + 7)) (zK c) (zrw c) (zcn c) (zrl c) (j_2) (by omega)) (cwV 1 hts (gWV gm_26_4 gm_12_17 gm_12_18 gm_3_0 gm_12_19) rfl rfl rfl (by decide +kernel) ⟨Nat.le_of_ble_eq_true rfl, Nat.le_of_ble_eq_true rfl⟩) (gPreV hK (g_rf hK hP (ci := 2) (q0 := 7) rfl rfl) (hP.sub [7, 8, 9, 10, 11, 12, 13, 14, 15, 16] rfl)) rfl rfl hl.1 rfl (lv_room (Nat.le_of_ble_eq_true rfl)) dX7_caseOf_109 ⟨by omega, by omega⟩) ?_
        refine g_if_eq (P := clF (zK c) (j_2) = false) (tgt := 119) hx hb dX7_caseOf_112 (by decide) b2i_0 (fun c_10 => ?_) (fun c_10 => ?_)
        · refine lv_iconst (v := nI (0)) hx hb dX7_caseOf_119 gc_0 ?_
          exact vx_ret (W.widen (k := 1) (n := 6) (by decide) (by decide) (g_iretW (v := nI (0)) hx hb hr hlk hS dX7_caseOf_120 (⟨j_2, 5, hj_4, by decide, ej_3, ek_8, (by rw [coF, if_neg (bnt c_10)]), hP⟩)))
        · have c_10 : clF (zK c) (j_2) = true := eq_true_of_ne_false c_10
          refine lv_iconst (v := nI (1)) hx hb dX7_caseOf_115 gc_1 ?_
          refine lv_goto (tgt := 120) hx hb dX7_caseOf_116 (by decide) ?_
          exact vx_ret (W.widen (k := 1) (n := 6) (by decide) (by decide) (g_iretW (v := nI (1)) hx hb hr hlk hS dX7_caseOf_120 (⟨j_2, 5, hj_4, by decide, ej_3, ek_8, (by rw [coF, if_pos c_10]), hP⟩)))
      · refine lv_tableIn (off := 94) (tgt := 121) hx hb dX7_caseOf_27 (by decide +kernel) (by decide +kernel) (by decide +kernel) (by decide) ?_
        refine lv_aload_n hx hb dX7_caseOf_121 rfl (lv_at hl 0 rfl) ?_
        refine g_get (v := .ref (U 14)) hx hb hts hown hK hP 7 rfl rfl gu_wsX00 6 (by decide) gm_26_2 rfl dX7_caseOf_122 ?_
        refine lv_iload_n hx hb dX7_caseOf_125 rfl (lv_at hl 2 rfl) ?_
        refine g_iald (x := (zK c 6) (j_2)) hx hb hK hP 14 rfl (by omega) (by decide) rfl dX7_caseOf_126 ?_
        exact vx_ret (W.widen (k := 1) (n := 6) (by decide) (by decide) (g_iretW (v := (zK c 6) (j_2)) hx hb hr hlk hS dX7_caseOf_127 (⟨j_2, 6, hj_4, by decide, ej_3, ek_8, rfl, hP⟩)))
      · refine lv_tableIn (off := 101) (tgt := 128) hx hb dX7_caseOf_27 (by decide +kernel) (by decide +kernel) (by decide +kernel) (by decide) ?_
        refine lv_aload_n hx hb dX7_caseOf_128 rfl (lv_at hl 0 rfl) ?_
        refine g_get (v := .ref (U 15)) hx hb hts hown hK hP 7 rfl rfl gu_wsX00 7 (by decide) gm_26_3 rfl dX7_caseOf_129 ?_
        refine lv_iload_n hx hb dX7_caseOf_132 rfl (lv_at hl 2 rfl) ?_
        refine g_iald (x := (zK c 7) (j_2)) hx hb hK hP 15 rfl (by omega) (by decide) rfl dX7_caseOf_133 ?_
        exact vx_ret (W.widen (k := 1) (n := 6) (by decide) (by decide) (g_iretW (v := (zK c 7) (j_2)) hx hb hr hlk hS dX7_caseOf_134 (⟨j_2, 7, hj_4, by decide, ej_3, ek_8, rfl, hP⟩)))
    · refine lv_iload_n hx hb dX7_caseOf_26 rfl (lv_at hl 3 rfl) ?_
      refine lv_tableOut (tgt := 135) hx hb dX7_caseOf_27 (inB_out csw_5 (by decide) (by decide)) (by decide) ?_
      exact g_throwS hx hb hlt hE hFA hown (by decide +kernel) th_IAE (List.mem_of_getElem? (i := 13) rfl) hS (hl.1.trans hml.symm) dX7_caseOf_135 dX7_caseOf_138 dX7_caseOf_139 dX7_caseOf_141 dX7_caseOf_144 hte (by decide) (by decide) (by decide) (by decide) hlk (fun H1 hz8 hk8 => Or.inr (⟨rfl, j_2, hj_4, ej_3, eq_false_of_ne_true csw_5, vP_grow hP hk8⟩)) (by decide) (by decide)
  · exact g_throwS hx hb hlt hE hFA hown (by decide +kernel) th_IOB (List.mem_of_getElem? (i := 4) rfl) hS (hl.1.trans hml.symm) dX7_caseOf_16 dX7_caseOf_19 dX7_caseOf_20 dX7_caseOf_22 dX7_caseOf_25 hte (by decide) (by decide) (by decide) (by decide) hlk (fun H1 hz8 hk8 => Or.inl ⟨rfl, c_1, vP_grow hP hk8⟩) (by decide) (by decide)

set_option maxHeartbeats 1000000 in
set_option maxRecDepth 100000 in
theorem c_X7_voteOf (l : Launch) (hlt : l.stackTraces = false) (D : va_G) (cA : Nat → ClassId) (AE : Nat → Prop) (adK adV sa : Nat → Nat) (U : Nat → Nat) (rg : Nat → Option Nat) (c z : CS) (rz : Nat → CS) (hd ct : Nat) (rs dt : Int32) (mf : Nat → Nat → Int32) (mn : Nat) (tc : Nat → Nat) (tl to : Nat) (kd fi se : Int32) (ta : Nat) (nu : Int32) (lc : Nat → Int32) (ln : Nat) (sv : Bool) (er : Int32) (v t : Int32) (hA : aInj 189 U) (hFA : ∀ q, aS 189 U q → AE q) (hz : zOk c)  : vx_Met l yX7_voteOf (gw yX7_voteOf cX7_voteOf 3 (some .int)) ({ frames := 6, cells := 1, slots := 6, locals := 82 } : Room) (gPx [.ref (U 0), .int (v), .int (t)] (fun H => va_P D vwCl (uw cA U rg c z rz hd ct rs dt mf mn tc tl to kd fi se ta nu lc ln sv er) H) D cA AE adK adV sa) (wrI (fun r H => ∃ j q : Nat, j < zjn c ∧ q < zcn c ∧ v = nI j ∧ t = nI q ∧ r = nI (opC (forB (zK c 0 q) (zJ c 0 j) (zJ c 1 j))) ∧ va_P D vwCl (uw cA U rg c z rz hd ct rs dt mf mn tc tl to kd fi se ta nu lc ln sv er) H) (aS 189 U)) (gXC (fun E H => (E = xIOB ∧ (isIx v (zjn c) = false ∨ isIx t (zcn c) = false) ∧ va_P D vwCl (uw cA U rg c z rz hd ct rs dt mf mn tc tl to kd fi se ta nu lc ln sv er) H)) (aS 189 U)) 1 6 (aS 189 U) := by
  refine gOfv (by decide) (Nat.le_of_ble_eq_true rfl) ?_
  intro p e s m below meth c9 ls hx hb hml hr hlk hown hts hte hP hK hE hl
  have hl : lv_has ls 3 [(0, .ref (U 0)), (1, .int (v)), (2, .int (t))] := hl
  have hz9 := hz
  obtain ⟨hjn, hcn, hrl, hrw, hck, htn⟩ := hz
  have hD : va_D (aS 189 U) (uw cA U rg c z rz hd ct rs dt mf mn tc tl to kd fi se ta nu lc ln sv er) := uwD hA
  have hS : va_S (aS 189 U) s.heap s.heap [] := va_S.rf
  skip
  refine lv_aload_n hx hb dX7_voteOf_0 rfl (lv_at hl 0 rfl) ?_
  refine g_get (v := .ref (U 1)) hx hb hts hown hK hP 0 rfl rfl gu_wsX70 0 (by decide) gm_1_17 rfl dX7_voteOf_1 ?_
  refine g_get (v := .ref (U 2)) hx hb hts hown hK hP 1 rfl rfl gu_wsX10 0 (by decide) gm_6_13 rfl dX7_voteOf_4 ?_
  refine lv_iload_n hx hb dX7_voteOf_7 rfl (lv_at hl 1 rfl) ?_
  refine rd_calle (va_runV (As := [.int (v)]) (rest := []) ⟨hx, hb, hml, hown, hts⟩ (c_X3_has l D cA (fun k => U (k + 2)) (zJ c) (zjn c) (v) hjn) (cwV 1 hts (gWV gm_25_1 gm_25_2 gm_25_3 gm_2_5 gm_25_4) rfl rfl rfl (by decide +kernel) ⟨Nat.le_of_ble_eq_true rfl, Nat.le_of_ble_eq_true rfl⟩) (gPreV hK (g_rf hK hP (ci := 5) (q0 := 2) rfl rfl) (hP.sub [2, 3, 4, 5, 6] rfl)) rfl rfl hl.1 rfl (lv_room (Nat.le_of_ble_eq_true rfl)) dX7_voteOf_8 ⟨by omega, by omega⟩) ?_
  refine g_if_eq (P := isIx (v) (zjn c) = false) (tgt := 28) hx hb dX7_voteOf_11 (by decide) b2i_0 (fun c_1 => ?_) (fun c_1 => ?_)
  · exact g_throwS hx hb hlt hE hFA hown (by decide +kernel) th_IOB (List.mem_of_getElem? (i := 14) rfl) hS (hl.1.trans hml.symm) dX7_voteOf_28 dX7_voteOf_31 dX7_voteOf_32 dX7_voteOf_34 dX7_voteOf_37 hte (by decide) (by decide) (by decide) (by decide) hlk (fun H1 hz8 hk8 => ⟨rfl, Or.inl c_1, vP_grow hP hk8⟩) (by decide) (by decide)
  · have c_1 : isIx (v) (zjn c) = true := eq_true_of_ne_false c_1
    obtain ⟨j_2, hj_4, ej_3⟩ := isIx_n c_1 (by omega)
    rw [ej_3] at hl
    have hl : lv_has ls 3 [(0, .ref (U 0)), (1, .int (nI (j_2))), (2, .int (t))] := hl
    refine lv_aload_n hx hb dX7_voteOf_14 rfl (lv_at hl 0 rfl) ?_
    refine g_get (v := .ref (U 1)) hx hb hts hown hK hP 0 rfl rfl gu_wsX70 0 (by decide) gm_1_17 rfl dX7_voteOf_15 ?_
    refine g_get (v := .ref (U 7)) hx hb hts hown hK hP 1 rfl rfl gu_wsX10 1 (by decide) gm_10_7 rfl dX7_voteOf_18 ?_
    refine lv_iload_n hx hb dX7_voteOf_21 rfl (lv_at hl 2 rfl) ?_
    refine rd_calle (va_runV (As := [.int (t)]) (rest := []) ⟨hx, hb, hml, hown, hts⟩ (c_X0_has l D cA (fun k => U (k + 7)) (zK c) (zrw c) (zcn c) (zrl c) (t) hcn) (cwV 1 hts (gWV gm_11_15 gm_11_16 gm_11_17 gm_3_0 gm_11_18) rfl rfl rfl (by decide +kernel) ⟨Nat.le_of_ble_eq_true rfl, Nat.le_of_ble_eq_true rfl⟩) (gPreV hK (g_rf hK hP (ci := 2) (q0 := 7) rfl rfl) (hP.sub [7, 8, 9, 10, 11, 12, 13, 14, 15, 16] rfl)) rfl rfl hl.1 rfl (lv_room (Nat.le_of_ble_eq_true rfl)) dX7_voteOf_22 ⟨by omega, by omega⟩) ?_
    refine g_if_ne (P := isIx (t) (zcn c) = false) (tgt := 38) hx hb dX7_voteOf_25 (by decide) b2i_0 (fun c_5 => ?_) (fun c_5 => ?_)
    · have c_5 : isIx (t) (zcn c) = true := eq_true_of_ne_false c_5
      obtain ⟨j_6, hj_8, ej_7⟩ := isIx_n c_5 (by omega)
      rw [ej_7] at hl
      have hl : lv_has ls 3 [(0, .ref (U 0)), (1, .int (nI (j_2))), (2, .int (nI (j_6)))] := hl
      refine lv_aload_n hx hb dX7_voteOf_38 rfl (lv_at hl 0 rfl) ?_
      refine g_get (v := .ref (U 1)) hx hb hts hown hK hP 0 rfl rfl gu_wsX70 0 (by decide) gm_1_17 rfl dX7_voteOf_39 ?_
      refine g_get (v := .ref (U 2)) hx hb hts hown hK hP 1 rfl rfl gu_wsX10 0 (by decide) gm_6_13 rfl dX7_voteOf_42 ?_
      refine lv_iload_n hx hb dX7_voteOf_45 rfl (lv_at hl 1 rfl) ?_
      refine lv_aload_n hx hb dX7_voteOf_46 rfl (lv_at hl 0 rfl) ?_
      refine g_get (v := .ref (U 1)) hx hb hts hown hK hP 0 rfl rfl gu_wsX70 0 (by decide) gm_1_17 rfl dX7_voteOf_47 ?_
      refine g_get (v := .ref (U 7)) hx hb hts hown hK hP 1 rfl rfl gu_wsX10 1 (by decide) gm_10_7 rfl dX7_voteOf_50 ?_
      refine g_get (v := .ref (U 8)) hx hb hts hown hK hP 7 rfl rfl gu_wsX00 0 (by decide) gm_25_21 rfl dX7_voteOf_53 ?_
      refine lv_iload_n hx hb dX7_voteOf_56 rfl (lv_at hl 2 rfl) ?_
      refine g_iald (x := (zK c 0) (j_6)) hx hb hK hP 8 rfl (by omega) (by decide) rfl dX7_voteOf_57 ?_
      refine rd_calle (va_runV (As := [.int (nI (j_2)), .int ((zK c 0) (j_6))]) (rest := []) ⟨hx, hb, hml, hown, hts⟩ (c_X3_opinion l D cA (fun k => U (k + 2)) (zJ c) (zjn c) (j_2) ((zK c 0) (j_6)) (by omega)) (cwV 2 hts (gWV gm_26_16 gm_16_20 gm_16_21 gm_2_5 gm_16_22) rfl rfl rfl (by decide +kernel) ⟨Nat.le_of_ble_eq_true rfl, Nat.le_of_ble_eq_true rfl⟩) (gPreV hK (g_rf hK hP (ci := 5) (q0 := 2) rfl rfl) (hP.sub [2, 3, 4, 5, 6] rfl)) rfl rfl hl.1 rfl (lv_room (Nat.le_of_ble_eq_true rfl)) dX7_voteOf_58 ⟨by omega, by omega⟩) ?_
      exact vx_ret (W.widen (k := 1) (n := 6) (by decide) (by decide) (g_iretW (v := nI (opC (forB ((zK c 0) (j_6)) ((zJ c) 0 (j_2)) ((zJ c) 1 (j_2))))) hx hb hr hlk hS dX7_voteOf_61 (⟨j_2, j_6, hj_4, hj_8, ej_3, ej_7, rfl, hP⟩)))
    · exact g_throwS hx hb hlt hE hFA hown (by decide +kernel) th_IOB (List.mem_of_getElem? (i := 14) rfl) hS (hl.1.trans hml.symm) dX7_voteOf_28 dX7_voteOf_31 dX7_voteOf_32 dX7_voteOf_34 dX7_voteOf_37 hte (by decide) (by decide) (by decide) (by decide) hlk (fun H1 hz8 hk8 => ⟨rfl, Or.inr c_5, vP_grow hP hk8⟩) (by decide) (by decide)

set_option maxHeartbeats 1000000 in
set_option maxRecDepth 100000 in
theorem c_X7_isOn (l : Launch) (hlt : l.stackTraces = false) (D : va_G) (cA : Nat → ClassId) (AE : Nat → Prop) (adK adV sa : Nat → Nat) (U : Nat → Nat) (rg : Nat → Option Nat) (c z : CS) (rz : Nat → CS) (hd ct : Nat) (rs dt : Int32) (mf : Nat → Nat → Int32) (mn : Nat) (tc : Nat → Nat) (tl to : Nat) (kd fi se : Int32) (ta : Nat) (nu : Int32) (lc : Nat → Int32) (ln : Nat) (sv : Bool) (er : Int32) (v t : Int32) (hA : aInj 189 U) (hFA : ∀ q, aS 189 U q → AE q) (hz : zOk c)  : vx_Met l yX7_isOn (gw yX7_isOn cX7_isOn 3 (some .boolean)) ({ frames := 6, cells := 1, slots := 6, locals := 82 } : Room) (gPx [.ref (U 0), .int (v), .int (t)] (fun H => va_P D vwCl (uw cA U rg c z rz hd ct rs dt mf mn tc tl to kd fi se ta nu lc ln sv er) H) D cA AE adK adV sa) (wrI (fun r H => ∃ j q : Nat, j < zjn c ∧ q < zcn c ∧ v = nI j ∧ t = nI q ∧ r = b2i (hs (zK c 2 q) j) ∧ va_P D vwCl (uw cA U rg c z rz hd ct rs dt mf mn tc tl to kd fi se ta nu lc ln sv er) H) (aS 189 U)) (gXC (fun E H => (E = xIOB ∧ (isIx v (zjn c) = false ∨ isIx t (zcn c) = false) ∧ va_P D vwCl (uw cA U rg c z rz hd ct rs dt mf mn tc tl to kd fi se ta nu lc ln sv er) H)) (aS 189 U)) 1 6 (aS 189 U) := by
  refine gOfv (by decide) (Nat.le_of_ble_eq_true rfl) ?_
  intro p e s m below meth c9 ls hx hb hml hr hlk hown hts hte hP hK hE hl
  have hl : lv_has ls 3 [(0, .ref (U 0)), (1, .int (v)), (2, .int (t))] := hl
  have hz9 := hz
  obtain ⟨hjn, hcn, hrl, hrw, hck, htn⟩ := hz
  have hD : va_D (aS 189 U) (uw cA U rg c z rz hd ct rs dt mf mn tc tl to kd fi se ta nu lc ln sv er) := uwD hA
  have hS : va_S (aS 189 U) s.heap s.heap [] := va_S.rf
  skip
  refine lv_aload_n hx hb dX7_isOn_0 rfl (lv_at hl 0 rfl) ?_
  refine g_get (v := .ref (U 1)) hx hb hts hown hK hP 0 rfl rfl gu_wsX70 0 (by decide) gm_1_17 rfl dX7_isOn_1 ?_
  refine g_get (v := .ref (U 2)) hx hb hts hown hK hP 1 rfl rfl gu_wsX10 0 (by decide) gm_6_13 rfl dX7_isOn_4 ?_
  refine lv_iload_n hx hb dX7_isOn_7 rfl (lv_at hl 1 rfl) ?_
  refine rd_calle (va_runV (As := [.int (v)]) (rest := []) ⟨hx, hb, hml, hown, hts⟩ (c_X3_has l D cA (fun k => U (k + 2)) (zJ c) (zjn c) (v) hjn) (cwV 1 hts (gWV gm_25_1 gm_25_2 gm_25_3 gm_2_5 gm_25_4) rfl rfl rfl (by decide +kernel) ⟨Nat.le_of_ble_eq_true rfl, Nat.le_of_ble_eq_true rfl⟩) (gPreV hK (g_rf hK hP (ci := 5) (q0 := 2) rfl rfl) (hP.sub [2, 3, 4, 5, 6] rfl)) rfl rfl hl.1 rfl (lv_room (Nat.le_of_ble_eq_true rfl)) dX7_isOn_8 ⟨by omega, by omega⟩) ?_
  refine g_if_eq (P := isIx (v) (zjn c) = false) (tgt := 28) hx hb dX7_isOn_11 (by decide) b2i_0 (fun c_1 => ?_) (fun c_1 => ?_)
  · exact g_throwS hx hb hlt hE hFA hown (by decide +kernel) th_IOB (List.mem_of_getElem? (i := 14) rfl) hS (hl.1.trans hml.symm) dX7_isOn_28 dX7_isOn_31 dX7_isOn_32 dX7_isOn_34 dX7_isOn_37 hte (by decide) (by decide) (by decide) (by decide) hlk (fun H1 hz8 hk8 => ⟨rfl, Or.inl c_1, vP_grow hP hk8⟩) (by decide) (by decide)
  · have c_1 : isIx (v) (zjn c) = true := eq_true_of_ne_false c_1
    obtain ⟨j_2, hj_4, ej_3⟩ := isIx_n c_1 (by omega)
    rw [ej_3] at hl
    have hl : lv_has ls 3 [(0, .ref (U 0)), (1, .int (nI (j_2))), (2, .int (t))] := hl
    refine lv_aload_n hx hb dX7_isOn_14 rfl (lv_at hl 0 rfl) ?_
    refine g_get (v := .ref (U 1)) hx hb hts hown hK hP 0 rfl rfl gu_wsX70 0 (by decide) gm_1_17 rfl dX7_isOn_15 ?_
    refine g_get (v := .ref (U 7)) hx hb hts hown hK hP 1 rfl rfl gu_wsX10 1 (by decide) gm_10_7 rfl dX7_isOn_18 ?_
    refine lv_iload_n hx hb dX7_isOn_21 rfl (lv_at hl 2 rfl) ?_
    refine rd_calle (va_runV (As := [.int (t)]) (rest := []) ⟨hx, hb, hml, hown, hts⟩ (c_X0_has l D cA (fun k => U (k + 7)) (zK c) (zrw c) (zcn c) (zrl c) (t) hcn) (cwV 1 hts (gWV gm_11_15 gm_11_16 gm_11_17 gm_3_0 gm_11_18) rfl rfl rfl (by decide +kernel) ⟨Nat.le_of_ble_eq_true rfl, Nat.le_of_ble_eq_true rfl⟩) (gPreV hK (g_rf hK hP (ci := 2) (q0 := 7) rfl rfl) (hP.sub [7, 8, 9, 10, 11, 12, 13, 14, 15, 16] rfl)) rfl rfl hl.1 rfl (lv_room (Nat.le_of_ble_eq_true rfl)) dX7_isOn_22 ⟨by omega, by omega⟩) ?_
    refine g_if_ne (P := isIx (t) (zcn c) = false) (tgt := 38) hx hb dX7_isOn_25 (by decide) b2i_0 (fun c_5 => ?_) (fun c_5 => ?_)
    · have c_5 : isIx (t) (zcn c) = true := eq_true_of_ne_false c_5
      obtain ⟨j_6, hj_8, ej_7⟩ := isIx_n c_5 (by omega)
      rw [ej_7] at hl
      have hl : lv_has ls 3 [(0, .ref (U 0)), (1, .int (nI (j_2))), (2, .int (nI (j_6)))] := hl
      refine lv_aload_n hx hb dX7_isOn_38 rfl (lv_at hl 0 rfl) ?_
      refine g_get (v := .ref (U 1)) hx hb hts hown hK hP 0 rfl rfl gu_wsX70 0 (by decide) gm_1_17 rfl dX7_isOn_39 ?_
      refine g_get (v := .ref (U 7)) hx hb hts hown hK hP 1 rfl rfl gu_wsX10 1 (by decide) gm_10_7 rfl dX7_isOn_42 ?_
      refine g_get (v := .ref (U 10)) hx hb hts hown hK hP 7 rfl rfl gu_wsX00 2 (by decide) gm_25_23 rfl dX7_isOn_45 ?_
      refine lv_iload_n hx hb dX7_isOn_48 rfl (lv_at hl 2 rfl) ?_
      refine g_iald (x := (zK c 2) (j_6)) hx hb hK hP 10 rfl (by omega) (by decide) rfl dX7_isOn_49 ?_
      refine lv_iload_n hx hb dX7_isOn_50 rfl (lv_at hl 1 rfl) ?_
      refine rd_calle (va_runS (As := [.int ((zK c 2) (j_6)), .int (nI (j_2))]) (rest := []) ⟨hx, hb, hml, hown, hts⟩ (c_X7_isIn l D cA ((zK c 2) (j_6)) (j_2)) (cwS 2 hts (gWS gm_30_9 gm_12_8 gm_1_2 gm_12_9) rfl rfl rfl (by decide +kernel) ⟨Nat.le_of_ble_eq_true rfl, Nat.le_of_ble_eq_true rfl⟩) (gPreS hK trivial) rfl rfl hl.1 rfl (lv_room (Nat.le_of_ble_eq_true rfl)) dX7_isOn_51 ⟨by omega, by omega⟩) ?_
      exact vx_ret (W.widen (k := 1) (n := 6) (by decide) (by decide) (g_zretW (v := b2i (hs ((zK c 2) (j_6)) (j_2))) hx hb hr hlk b2i_n hS dX7_isOn_54 (⟨j_2, j_6, hj_4, hj_8, ej_3, ej_7, rfl, hP⟩)))
    · exact g_throwS hx hb hlt hE hFA hown (by decide +kernel) th_IOB (List.mem_of_getElem? (i := 14) rfl) hS (hl.1.trans hml.symm) dX7_isOn_28 dX7_isOn_31 dX7_isOn_32 dX7_isOn_34 dX7_isOn_37 hte (by decide) (by decide) (by decide) (by decide) hlk (fun H1 hz8 hk8 => ⟨rfl, Or.inr c_5, vP_grow hP hk8⟩) (by decide) (by decide)

set_option maxHeartbeats 1000000 in
set_option maxRecDepth 100000 in
theorem c_X7_wouldBe (l : Launch) (hlt : l.stackTraces = false) (D : va_G) (cA : Nat → ClassId) (AE : Nat → Prop) (adK adV sa : Nat → Nat) (U : Nat → Nat) (rg : Nat → Option Nat) (c z : CS) (rz : Nat → CS) (hd ct : Nat) (rs dt : Int32) (mf : Nat → Nat → Int32) (mn : Nat) (tc : Nat → Nat) (tl to : Nat) (kd fi se : Int32) (ta : Nat) (nu : Int32) (lc : Nat → Int32) (ln : Nat) (sv : Bool) (er : Int32) (v : Int32) (b : Bool) (hA : aInj 189 U) (hFA : ∀ q, aS 189 U q → AE q) (hz : zOk c)  : vx_Met l yX7_wouldBe (gw yX7_wouldBe cX7_wouldBe 5 (some .int)) ({ frames := 6, cells := 1, slots := 6, locals := 82 } : Room) (gPx [.ref (U 0), .int (v), .int (b2i (b))] (fun H => va_P D vwCl (uw cA U rg c z rz hd ct rs dt mf mn tc tl to kd fi se ta nu lc ln sv er) H) D cA AE adK adV sa) (wrI (fun r H => ∃ q : Nat, q < zcn c ∧ v = nI q ∧ hpF (zK c) q = true ∧ r = nI (if b = true then vmF (zJ c 0) (zJ c 1) (zjn c) (zK c 2 q) (zK c 0 q) else vdF (zJ c 0) (zJ c 1) (zjn c) (zK c 2 q) (zK c 0 q)) ∧ va_P D vwCl (uw cA U rg c z rz hd ct rs dt mf mn tc tl to kd fi se ta nu lc ln sv er) H) (aS 189 U)) (gXC (fun E H => (E = xIOB ∧ isIx v (zcn c) = false ∧ va_P D vwCl (uw cA U rg c z rz hd ct rs dt mf mn tc tl to kd fi se ta nu lc ln sv er) H) ∨ (E = xNSE ∧ ∃ q : Nat, q < zcn c ∧ v = nI q ∧ hpF (zK c) q = false ∧ va_P D vwCl (uw cA U rg c z rz hd ct rs dt mf mn tc tl to kd fi se ta nu lc ln sv er) H)) (aS 189 U)) 1 6 (aS 189 U) := by
  refine gOfv (by decide) (Nat.le_of_ble_eq_true rfl) ?_
  intro p e s m below meth c9 ls hx hb hml hr hlk hown hts hte hP hK hE hl
  have hl : lv_has ls 5 [(0, .ref (U 0)), (1, .int (v)), (2, .int (b2i (b)))] := hl
  have hz9 := hz
  obtain ⟨hjn, hcn, hrl, hrw, hck, htn⟩ := hz
  have hD : va_D (aS 189 U) (uw cA U rg c z rz hd ct rs dt mf mn tc tl to kd fi se ta nu lc ln sv er) := uwD hA
  have hS : va_S (aS 189 U) s.heap s.heap [] := va_S.rf
  skip
  refine lv_aload_n hx hb dX7_wouldBe_0 rfl (lv_at hl 0 rfl) ?_
  refine g_get (v := .ref (U 1)) hx hb hts hown hK hP 0 rfl rfl gu_wsX70 0 (by decide) gm_1_17 rfl dX7_wouldBe_1 ?_
  refine g_get (v := .ref (U 7)) hx hb hts hown hK hP 1 rfl rfl gu_wsX10 1 (by decide) gm_10_7 rfl dX7_wouldBe_4 ?_
  refine lv_iload_n hx hb dX7_wouldBe_7 rfl (lv_at hl 1 rfl) ?_
  refine rd_calle (va_runV (As := [.int (v)]) (rest := []) ⟨hx, hb, hml, hown, hts⟩ (c_X0_has l D cA (fun k => U (k + 7)) (zK c) (zrw c) (zcn c) (zrl c) (v) hcn) (cwV 1 hts (gWV gm_11_15 gm_11_16 gm_11_17 gm_3_0 gm_11_18) rfl rfl rfl (by decide +kernel) ⟨Nat.le_of_ble_eq_true rfl, Nat.le_of_ble_eq_true rfl⟩) (gPreV hK (g_rf hK hP (ci := 2) (q0 := 7) rfl rfl) (hP.sub [7, 8, 9, 10, 11, 12, 13, 14, 15, 16] rfl)) rfl rfl hl.1 rfl (lv_room (Nat.le_of_ble_eq_true rfl)) dX7_wouldBe_8 ⟨by omega, by omega⟩) ?_
  refine g_if_ne (P := isIx (v) (zcn c) = false) (tgt := 24) hx hb dX7_wouldBe_11 (by decide) b2i_0 (fun c_1 => ?_) (fun c_1 => ?_)
  · have c_1 : isIx (v) (zcn c) = true := eq_true_of_ne_false c_1
    obtain ⟨j_2, hj_4, ej_3⟩ := isIx_n c_1 (by omega)
    rw [ej_3] at hl
    have hl : lv_has ls 5 [(0, .ref (U 0)), (1, .int (nI (j_2))), (2, .int (b2i (b)))] := hl
    refine lv_aload_n hx hb dX7_wouldBe_24 rfl (lv_at hl 0 rfl) ?_
    refine g_get (v := .ref (U 1)) hx hb hts hown hK hP 0 rfl rfl gu_wsX70 0 (by decide) gm_1_17 rfl dX7_wouldBe_25 ?_
    refine g_get (v := .ref (U 7)) hx hb hts hown hK hP 1 rfl rfl gu_wsX10 1 (by decide) gm_10_7 rfl dX7_wouldBe_28 ?_
    refine lv_iload_n hx hb dX7_wouldBe_31 rfl (lv_at hl 1 rfl) ?_
    refine rd_calle (va_runV (As := [.int (nI (j_2))]) (rest := []) ⟨hx, hb, hml, hown, hts⟩ (c_X0_hasPanel l D cA (fun k => U (k + 7)) (zK c) (zrw c) (zcn c) (zrl c) (j_2) (by omega)) (cwV 1 hts (gWV gm_27_6 gm_12_1 gm_12_2 gm_3_0 gm_12_3) rfl rfl rfl (by decide +kernel) ⟨Nat.le_of_ble_eq_true rfl, Nat.le_of_ble_eq_true rfl⟩) (gPreV hK (g_rf hK hP (ci := 2) (q0 := 7) rfl rfl) (hP.sub [7, 8, 9, 10, 11, 12, 13, 14, 15, 16] rfl)) rfl rfl hl.1 rfl (lv_room (Nat.le_of_ble_eq_true rfl)) dX7_wouldBe_32 ⟨by omega, by omega⟩) ?_
    refine g_if_ne (P := hpF (zK c) (j_2) = false) (tgt := 48) hx hb dX7_wouldBe_35 (by decide) b2i_0 (fun c_5 => ?_) (fun c_5 => ?_)
    · have c_5 : hpF (zK c) (j_2) = true := eq_true_of_ne_false c_5
      refine lv_aload_n hx hb dX7_wouldBe_48 rfl (lv_at hl 0 rfl) ?_
      refine g_get (v := .ref (U 1)) hx hb hts hown hK hP 0 rfl rfl gu_wsX70 0 (by decide) gm_1_17 rfl dX7_wouldBe_49 ?_
      refine g_get (v := .ref (U 7)) hx hb hts hown hK hP 1 rfl rfl gu_wsX10 1 (by decide) gm_10_7 rfl dX7_wouldBe_52 ?_
      refine g_get (v := .ref (U 10)) hx hb hts hown hK hP 7 rfl rfl gu_wsX00 2 (by decide) gm_25_23 rfl dX7_wouldBe_55 ?_
      refine lv_iload_n hx hb dX7_wouldBe_58 rfl (lv_at hl 1 rfl) ?_
      refine g_iald (x := (zK c 2) (j_2)) hx hb hK hP 10 rfl (by omega) (by decide) rfl dX7_wouldBe_59 ?_
      refine lv_istore_n (lv' := [(3, .int ((zK c 2) (j_2))), (0, .ref (U 0)), (1, .int (nI (j_2))), (2, .int (b2i (b)))]) hx hb dX7_wouldBe_60 rfl hl (by decide) rfl (fun ls hl => ?_)
      refine lv_aload_n hx hb dX7_wouldBe_61 rfl (lv_at hl 1 rfl) ?_
      refine g_get (v := .ref (U 1)) hx hb hts hown hK hP 0 rfl rfl gu_wsX70 0 (by decide) gm_1_17 rfl dX7_wouldBe_62 ?_
      refine g_get (v := .ref (U 7)) hx hb hts hown hK hP 1 rfl rfl gu_wsX10 1 (by decide) gm_10_7 rfl dX7_wouldBe_65 ?_
      refine g_get (v := .ref (U 8)) hx hb hts hown hK hP 7 rfl rfl gu_wsX00 0 (by decide) gm_25_21 rfl dX7_wouldBe_68 ?_
      refine lv_iload_n hx hb dX7_wouldBe_71 rfl (lv_at hl 2 rfl) ?_
      refine g_iald (x := (zK c 0) (j_2)) hx hb hK hP 8 rfl (by omega) (by decide) rfl dX7_wouldBe_72 ?_
      refine lv_istore (lv' := [(4, .int ((zK c 0) (j_2))), (3, .int ((zK c 2) (j_2))), (0, .ref (U 0)), (1, .int (nI (j_2))), (2, .int (b2i (b)))]) hx hb dX7_wouldBe_73 hl (by decide) rfl (fun ls hl => ?_)
      refine lv_iload_n hx hb dX7_wouldBe_75 rfl (lv_at hl 4 rfl) ?_
      refine g_if_eq (P := b = false) (tgt := 95) hx hb dX7_wouldBe_76 (by decide) b2i_0 (fun c_6 => ?_) (fun c_6 => ?_)
      · refine lv_aload_n hx hb dX7_wouldBe_95 rfl (lv_at hl 2 rfl) ?_
        refine g_get (v := .ref (U 1)) hx hb hts hown hK hP 0 rfl rfl gu_wsX70 0 (by decide) gm_1_17 rfl dX7_wouldBe_96 ?_
        refine g_get (v := .ref (U 2)) hx hb hts hown hK hP 1 rfl rfl gu_wsX10 0 (by decide) gm_6_13 rfl dX7_wouldBe_99 ?_
        refine lv_iload_n hx hb dX7_wouldBe_102 rfl (lv_at hl 1 rfl) ?_
        refine lv_iload hx hb dX7_wouldBe_103 (lv_at hl 0 rfl) ?_
        refine rd_calle (va_runV (As := [.int ((zK c 2) (j_2)), .int ((zK c 0) (j_2))]) (rest := []) ⟨hx, hb, hml, hown, hts⟩ (c_X3_verdictByCount l D cA (fun k => U (k + 2)) (zJ c) (zjn c) ((zK c 2) (j_2)) ((zK c 0) (j_2)) hjn) (cwV 2 hts (gWV gm_27_13 gm_16_16 gm_16_17 gm_2_5 gm_16_18) rfl rfl rfl (by decide +kernel) ⟨Nat.le_of_ble_eq_true rfl, Nat.le_of_ble_eq_true rfl⟩) (gPreV hK (g_rf hK hP (ci := 5) (q0 := 2) rfl rfl) (hP.sub [2, 3, 4, 5, 6] rfl)) rfl rfl hl.1 rfl (lv_room (Nat.le_of_ble_eq_true rfl)) dX7_wouldBe_105 ⟨by omega, by omega⟩) ?_
        exact vx_ret (W.widen (k := 1) (n := 6) (by decide) (by decide) (g_iretW (v := nI (vdF ((zJ c) 0) ((zJ c) 1) (zjn c) ((zK c 2) (j_2)) ((zK c 0) (j_2)))) hx hb hr hlk hS dX7_wouldBe_108 (⟨j_2, hj_4, ej_3, c_5, (by rw [c_6]; rfl), hP⟩)))
      · have c_6 : b = true := eq_true_of_ne_false c_6
        refine lv_aload_n hx hb dX7_wouldBe_79 rfl (lv_at hl 2 rfl) ?_
        refine g_get (v := .ref (U 1)) hx hb hts hown hK hP 0 rfl rfl gu_wsX70 0 (by decide) gm_1_17 rfl dX7_wouldBe_80 ?_
        refine g_get (v := .ref (U 2)) hx hb hts hown hK hP 1 rfl rfl gu_wsX10 0 (by decide) gm_6_13 rfl dX7_wouldBe_83 ?_
        refine lv_iload_n hx hb dX7_wouldBe_86 rfl (lv_at hl 1 rfl) ?_
        refine lv_iload hx hb dX7_wouldBe_87 (lv_at hl 0 rfl) ?_
        refine rd_calle (va_runV (As := [.int ((zK c 2) (j_2)), .int ((zK c 0) (j_2))]) (rest := []) ⟨hx, hb, hml, hown, hts⟩ (c_X3_verdictOfMiddle l D cA (fun k => U (k + 2)) (zJ c) (zjn c) ((zK c 2) (j_2)) ((zK c 0) (j_2)) hjn) (cwV 2 hts (gWV gm_27_7 gm_27_8 gm_27_9 gm_2_5 gm_27_10) rfl rfl rfl (by decide +kernel) ⟨Nat.le_of_ble_eq_true rfl, Nat.le_of_ble_eq_true rfl⟩) (gPreV hK (g_rf hK hP (ci := 5) (q0 := 2) rfl rfl) (hP.sub [2, 3, 4, 5, 6] rfl)) rfl rfl hl.1 rfl (lv_room (Nat.le_of_ble_eq_true rfl)) dX7_wouldBe_89 ⟨by omega, by omega⟩) ?_
        refine lv_goto (tgt := 108) hx hb dX7_wouldBe_92 (by decide) ?_
        exact vx_ret (W.widen (k := 1) (n := 6) (by decide) (by decide) (g_iretW (v := nI (vmF ((zJ c) 0) ((zJ c) 1) (zjn c) ((zK c 2) (j_2)) ((zK c 0) (j_2)))) hx hb hr hlk hS dX7_wouldBe_108 (⟨j_2, hj_4, ej_3, c_5, (by rw [c_6]; rfl), hP⟩)))
    · exact g_thrNS hx hb hlt hE hFA hown (by decide +kernel) th_NSE (List.mem_of_getElem? (i := 15) rfl) hS (hl.1.trans hml.symm) dX7_wouldBe_38 dX7_wouldBe_41 dX7_wouldBe_42 dX7_wouldBe_44 dX7_wouldBe_47 hte (by decide) (by decide) (by decide) (by decide) hlk (fun H1 hz8 hk8 => Or.inr (⟨rfl, j_2, hj_4, ej_3, c_5, vP_grow hP hk8⟩)) (by decide) (by decide)
  · exact g_throwS hx hb hlt hE hFA hown (by decide +kernel) th_IOB (List.mem_of_getElem? (i := 4) rfl) hS (hl.1.trans hml.symm) dX7_wouldBe_14 dX7_wouldBe_17 dX7_wouldBe_18 dX7_wouldBe_20 dX7_wouldBe_23 hte (by decide) (by decide) (by decide) (by decide) hlk (fun H1 hz8 hk8 => Or.inl ⟨rfl, c_1, vP_grow hP hk8⟩) (by decide) (by decide)

set_option maxHeartbeats 1000000 in
set_option maxRecDepth 100000 in
theorem c_X7_load (l : Launch) (hlt : l.stackTraces = false) (D : va_G) (cA : Nat → ClassId) (AE : Nat → Prop) (adK adV sa : Nat → Nat) (U : Nat → Nat) (rg : Nat → Option Nat) (c z : CS) (rz : Nat → CS) (hd ct : Nat) (rs dt : Int32) (mf : Nat → Nat → Int32) (mn : Nat) (tc : Nat → Nat) (tl to : Nat) (kd fi se : Int32) (ta : Nat) (nu : Int32) (lc : Nat → Int32) (ln : Nat) (sv : Bool) (er : Int32) (v : Int32) (b : Bool) (hA : aInj 189 U) (hFA : ∀ q, aS 189 U q → AE q) (hz : zOk c)  : vx_Met l yX7_load (gw yX7_load cX7_load 3 (some .int)) ({ frames := 6, cells := 1, slots := 6, locals := 82 } : Room) (gPx [.ref (U 0), .int (v), .int (b2i (b))] (fun H => va_P D vwCl (uw cA U rg c z rz hd ct rs dt mf mn tc tl to kd fi se ta nu lc ln sv er) H) D cA AE adK adV sa) (wrI (fun r H => ∃ j : Nat, j < zjn c ∧ v = nI j ∧ r = (if b = true then lrF (zK c) (zcn c) j else nI (ldF (zK c) (zcn c) j)) ∧ va_P D vwCl (uw cA U rg c z rz hd ct rs dt mf mn tc tl to kd fi se ta nu lc ln sv er) H) (aS 189 U)) (gXC (fun E H => (E = xIOB ∧ isIx v (zjn c) = false ∧ va_P D vwCl (uw cA U rg c z rz hd ct rs dt mf mn tc tl to kd fi se ta nu lc ln sv er) H)) (aS 189 U)) 1 6 (aS 189 U) := by
  refine gOfv (by decide) (Nat.le_of_ble_eq_true rfl) ?_
  intro p e s m below meth c9 ls hx hb hml hr hlk hown hts hte hP hK hE hl
  have hl : lv_has ls 3 [(0, .ref (U 0)), (1, .int (v)), (2, .int (b2i (b)))] := hl
  have hz9 := hz
  obtain ⟨hjn, hcn, hrl, hrw, hck, htn⟩ := hz
  have hD : va_D (aS 189 U) (uw cA U rg c z rz hd ct rs dt mf mn tc tl to kd fi se ta nu lc ln sv er) := uwD hA
  have hS : va_S (aS 189 U) s.heap s.heap [] := va_S.rf
  skip
  refine lv_aload_n hx hb dX7_load_0 rfl (lv_at hl 0 rfl) ?_
  refine g_get (v := .ref (U 1)) hx hb hts hown hK hP 0 rfl rfl gu_wsX70 0 (by decide) gm_1_17 rfl dX7_load_1 ?_
  refine g_get (v := .ref (U 2)) hx hb hts hown hK hP 1 rfl rfl gu_wsX10 0 (by decide) gm_6_13 rfl dX7_load_4 ?_
  refine lv_iload_n hx hb dX7_load_7 rfl (lv_at hl 1 rfl) ?_
  refine rd_calle (va_runV (As := [.int (v)]) (rest := []) ⟨hx, hb, hml, hown, hts⟩ (c_X3_has l D cA (fun k => U (k + 2)) (zJ c) (zjn c) (v) hjn) (cwV 1 hts (gWV gm_25_1 gm_25_2 gm_25_3 gm_2_5 gm_25_4) rfl rfl rfl (by decide +kernel) ⟨Nat.le_of_ble_eq_true rfl, Nat.le_of_ble_eq_true rfl⟩) (gPreV hK (g_rf hK hP (ci := 5) (q0 := 2) rfl rfl) (hP.sub [2, 3, 4, 5, 6] rfl)) rfl rfl hl.1 rfl (lv_room (Nat.le_of_ble_eq_true rfl)) dX7_load_8 ⟨by omega, by omega⟩) ?_
  refine g_if_ne (P := isIx (v) (zjn c) = false) (tgt := 24) hx hb dX7_load_11 (by decide) b2i_0 (fun c_1 => ?_) (fun c_1 => ?_)
  · have c_1 : isIx (v) (zjn c) = true := eq_true_of_ne_false c_1
    obtain ⟨j_2, hj_4, ej_3⟩ := isIx_n c_1 (by omega)
    rw [ej_3] at hl
    have hl : lv_has ls 3 [(0, .ref (U 0)), (1, .int (nI (j_2))), (2, .int (b2i (b)))] := hl
    refine lv_iload_n hx hb dX7_load_24 rfl (lv_at hl 2 rfl) ?_
    refine g_if_eq (P := b = false) (tgt := 39) hx hb dX7_load_25 (by decide) b2i_0 (fun c_5 => ?_) (fun c_5 => ?_)
    · refine lv_aload_n hx hb dX7_load_39 rfl (lv_at hl 0 rfl) ?_
      refine g_get (v := .ref (U 1)) hx hb hts hown hK hP 0 rfl rfl gu_wsX70 0 (by decide) gm_1_17 rfl dX7_load_40 ?_
      refine lv_iload_n hx hb dX7_load_43 rfl (lv_at hl 1 rfl) ?_
      refine rd_calle (va_runV (As := [.int (nI (j_2))]) (rest := []) ⟨hx, hb, hml, hown, hts⟩ (c_X1_loadOf l D cA (fun k => U (k + 1)) (zJ c) (zjn c) (zK c) (zrw c) (zcn c) (zrl c) (zck c) (ztn c) (zsd c) (j_2) hcn) (cwV 1 hts (gWV gm_25_5 gm_12_11 gm_12_12 gm_1_16 gm_12_13) rfl rfl rfl (by decide +kernel) ⟨Nat.le_of_ble_eq_true rfl, Nat.le_of_ble_eq_true rfl⟩) (gPreV hK (g_rf hK hP (ci := 3) (q0 := 1) rfl rfl) (hP.sub [1, 2, 3, 4, 5, 6, 7, 8, 9, 10, 11, 12, 13, 14, 15, 16] rfl)) rfl rfl hl.1 rfl (lv_room (Nat.le_of_ble_eq_true rfl)) dX7_load_44 ⟨by omega, by omega⟩) ?_
      exact vx_ret (W.widen (k := 1) (n := 6) (by decide) (by decide) (g_iretW (v := nI (ldF (zK c) (zcn c) (j_2))) hx hb hr hlk hS dX7_load_47 (⟨j_2, hj_4, ej_3, (by rw [c_5]; rfl), hP⟩)))
    · have c_5 : b = true := eq_true_of_ne_false c_5
      refine lv_aload_n hx hb dX7_load_28 rfl (lv_at hl 0 rfl) ?_
      refine g_get (v := .ref (U 1)) hx hb hts hown hK hP 0 rfl rfl gu_wsX70 0 (by decide) gm_1_17 rfl dX7_load_29 ?_
      refine lv_iload_n hx hb dX7_load_32 rfl (lv_at hl 1 rfl) ?_
      refine rd_calle (va_runV (As := [.int (nI (j_2))]) (rest := []) ⟨hx, hb, hml, hown, hts⟩ (c_X1_loadInRow l D cA (fun k => U (k + 1)) (zJ c) (zjn c) (zK c) (zrw c) (zcn c) (zrl c) (zck c) (ztn c) (zsd c) (j_2) hcn (by omega)) (cwV 1 hts (gWV gm_28_5 gm_28_6 gm_28_7 gm_1_16 gm_28_8) rfl rfl rfl (by decide +kernel) ⟨Nat.le_of_ble_eq_true rfl, Nat.le_of_ble_eq_true rfl⟩) (gPreV hK (g_rf hK hP (ci := 3) (q0 := 1) rfl rfl) (hP.sub [1, 2, 3, 4, 5, 6, 7, 8, 9, 10, 11, 12, 13, 14, 15, 16] rfl)) rfl rfl hl.1 rfl (lv_room (Nat.le_of_ble_eq_true rfl)) dX7_load_33 ⟨by omega, by omega⟩) ?_
      refine lv_goto (tgt := 47) hx hb dX7_load_36 (by decide) ?_
      exact vx_ret (W.widen (k := 1) (n := 6) (by decide) (by decide) (g_iretW (v := lrF (zK c) (zcn c) (j_2)) hx hb hr hlk hS dX7_load_47 (⟨j_2, hj_4, ej_3, (by rw [c_5]; rfl), hP⟩)))
  · exact g_throwS hx hb hlt hE hFA hown (by decide +kernel) th_IOB (List.mem_of_getElem? (i := 11) rfl) hS (hl.1.trans hml.symm) dX7_load_14 dX7_load_17 dX7_load_18 dX7_load_20 dX7_load_23 hte (by decide) (by decide) (by decide) (by decide) hlk (fun H1 hz8 hk8 => ⟨rfl, c_1, vP_grow hP hk8⟩) (by decide) (by decide)

set_option maxHeartbeats 1000000 in
set_option maxRecDepth 100000 in
theorem c_X7_callable (l : Launch) (hlt : l.stackTraces = false) (D : va_G) (cA : Nat → ClassId) (AE : Nat → Prop) (adK adV sa : Nat → Nat) (U : Nat → Nat) (rg : Nat → Option Nat) (c z : CS) (rz : Nat → CS) (hd ct : Nat) (rs dt : Int32) (mf : Nat → Nat → Int32) (mn : Nat) (tc : Nat → Nat) (tl to : Nat) (kd fi se : Int32) (ta : Nat) (nu : Int32) (lc : Nat → Int32) (ln : Nat) (sv : Bool) (er : Int32) (v : Int32) (hA : aInj 189 U) (hFA : ∀ q, aS 189 U q → AE q) (hz : zOk c)  : vx_Met l yX7_callable (gw yX7_callable cX7_callable 3 (some .int)) ({ frames := 6, cells := 1, slots := 6, locals := 94 } : Room) (gPx [.ref (U 0), .int (v)] (fun H => va_P D vwCl (uw cA U rg c z rz hd ct rs dt mf mn tc tl to kd fi se ta nu lc ln sv er) H) D cA AE adK adV sa) (wrI (fun r H => ¬ nthV (fcF (zJ c 1) (zK c) (zjn c) (zcn c)) (zjn c) v = none ∧ r = oI (nthV (fcF (zJ c 1) (zK c) (zjn c) (zcn c)) (zjn c) v) ∧ va_P D vwCl (uw cA U rg c z rz hd ct rs dt mf mn tc tl to kd fi se ta nu lc ln sv er) H) (aS 189 U)) (gXC (fun E H => (E = xNSE ∧ nthV (fcF (zJ c 1) (zK c) (zjn c) (zcn c)) (zjn c) v = none ∧ va_P D vwCl (uw cA U rg c z rz hd ct rs dt mf mn tc tl to kd fi se ta nu lc ln sv er) H)) (aS 189 U)) 1 6 (aS 189 U) := by
  refine gOfv (by decide) (Nat.le_of_ble_eq_true rfl) ?_
  intro p e s m below meth c9 ls hx hb hml hr hlk hown hts hte hP hK hE hl
  have hl : lv_has ls 3 [(0, .ref (U 0)), (1, .int (v))] := hl
  have hz9 := hz
  obtain ⟨hjn, hcn, hrl, hrw, hck, htn⟩ := hz
  have hD : va_D (aS 189 U) (uw cA U rg c z rz hd ct rs dt mf mn tc tl to kd fi se ta nu lc ln sv er) := uwD hA
  have hS : va_S (aS 189 U) s.heap s.heap [] := va_S.rf
  skip
  refine lv_aload_n hx hb dX7_callable_0 rfl (lv_at hl 0 rfl) ?_
  refine g_get (v := .ref (U 1)) hx hb hts hown hK hP 0 rfl rfl gu_wsX70 0 (by decide) gm_1_17 rfl dX7_callable_1 ?_
  refine lv_iload_n hx hb dX7_callable_4 rfl (lv_at hl 1 rfl) ?_
  refine rd_calle (va_runV (As := [.int (v)]) (rest := []) ⟨hx, hb, hml, hown, hts⟩ (c_X1_callableAt l D cA (fun k => U (k + 1)) (zJ c) (zjn c) (zK c) (zrw c) (zcn c) (zrl c) (zck c) (ztn c) (zsd c) (v) hjn hcn) (cwV 1 hts (gWV gm_28_22 gm_28_23 gm_29_0 gm_1_16 gm_29_1) rfl rfl rfl (by decide +kernel) ⟨Nat.le_of_ble_eq_true rfl, Nat.le_of_ble_eq_true rfl⟩) (gPreV hK (g_rf hK hP (ci := 3) (q0 := 1) rfl rfl) (hP.sub [1, 2, 3, 4, 5, 6, 7, 8, 9, 10, 11, 12, 13, 14, 15, 16] rfl)) rfl rfl hl.1 rfl (lv_room (Nat.le_of_ble_eq_true rfl)) dX7_callable_5 ⟨by omega, by omega⟩) ?_
  refine lv_istore_n (lv' := [(2, .int (oI (nthV (fcF ((zJ c) 1) (zK c) (zjn c) (zcn c)) (zjn c) (v)))), (0, .ref (U 0)), (1, .int (v))]) hx hb dX7_callable_8 rfl hl (by decide) rfl (fun ls hl => ?_)
  refine lv_iload_n hx hb dX7_callable_9 rfl (lv_at hl 0 rfl) ?_
  refine lv_iconst (v := -1) hx hb dX7_callable_10 gc_m1 ?_
  refine g_icmp_ne (P := nthV (fcF ((zJ c) 1) (zK c) (zjn c) (zcn c)) (zjn c) (v) = none) (tgt := 24) hx hb dX7_callable_11 (by decide) (oI_m1 (nthV_31 (by omega) (fun o b h => fcF_lt o b h))) (fun c_1 => ?_) (fun c_1 => ?_)
  · refine lv_iload_n hx hb dX7_callable_24 rfl (lv_at hl 0 rfl) ?_
    exact vx_ret (W.widen (k := 1) (n := 6) (by decide) (by decide) (g_iretW (v := oI (nthV (fcF ((zJ c) 1) (zK c) (zjn c) (zcn c)) (zjn c) (v))) hx hb hr hlk hS dX7_callable_25 (⟨c_1, rfl, hP⟩)))
  · exact g_thrNS hx hb hlt hE hFA hown (by decide +kernel) th_NSE (List.mem_of_getElem? (i := 16) rfl) hS (hl.1.trans hml.symm) dX7_callable_14 dX7_callable_17 dX7_callable_18 dX7_callable_20 dX7_callable_23 hte (by decide) (by decide) (by decide) (by decide) hlk (fun H1 hz8 hk8 => ⟨rfl, c_1, vP_grow hP hk8⟩) (by decide) (by decide)

set_option maxHeartbeats 1000000 in
set_option maxRecDepth 100000 in
theorem c_X7_doubtful (l : Launch) (hlt : l.stackTraces = false) (D : va_G) (cA : Nat → ClassId) (AE : Nat → Prop) (adK adV sa : Nat → Nat) (U : Nat → Nat) (rg : Nat → Option Nat) (c z : CS) (rz : Nat → CS) (hd ct : Nat) (rs dt : Int32) (mf : Nat → Nat → Int32) (mn : Nat) (tc : Nat → Nat) (tl to : Nat) (kd fi se : Int32) (ta : Nat) (nu : Int32) (lc : Nat → Int32) (ln : Nat) (sv : Bool) (er : Int32) (v : Int32) (hA : aInj 189 U) (hFA : ∀ q, aS 189 U q → AE q) (hz : zOk c)  : vx_Met l yX7_doubtful (gw yX7_doubtful cX7_doubtful 3 (some .int)) ({ frames := 6, cells := 1, slots := 6, locals := 82 } : Room) (gPx [.ref (U 0), .int (v)] (fun H => va_P D vwCl (uw cA U rg c z rz hd ct rs dt mf mn tc tl to kd fi se ta nu lc ln sv er) H) D cA AE adK adV sa) (wrI (fun r H => ¬ nthV (fdF (zJ c 0) (zJ c 1) (zjn c)) (zjn c) v = none ∧ r = oI (nthV (fdF (zJ c 0) (zJ c 1) (zjn c)) (zjn c) v) ∧ va_P D vwCl (uw cA U rg c z rz hd ct rs dt mf mn tc tl to kd fi se ta nu lc ln sv er) H) (aS 189 U)) (gXC (fun E H => (E = xNSE ∧ nthV (fdF (zJ c 0) (zJ c 1) (zjn c)) (zjn c) v = none ∧ va_P D vwCl (uw cA U rg c z rz hd ct rs dt mf mn tc tl to kd fi se ta nu lc ln sv er) H)) (aS 189 U)) 1 6 (aS 189 U) := by
  refine gOfv (by decide) (Nat.le_of_ble_eq_true rfl) ?_
  intro p e s m below meth c9 ls hx hb hml hr hlk hown hts hte hP hK hE hl
  have hl : lv_has ls 3 [(0, .ref (U 0)), (1, .int (v))] := hl
  have hz9 := hz
  obtain ⟨hjn, hcn, hrl, hrw, hck, htn⟩ := hz
  have hD : va_D (aS 189 U) (uw cA U rg c z rz hd ct rs dt mf mn tc tl to kd fi se ta nu lc ln sv er) := uwD hA
  have hS : va_S (aS 189 U) s.heap s.heap [] := va_S.rf
  skip
  refine lv_aload_n hx hb dX7_doubtful_0 rfl (lv_at hl 0 rfl) ?_
  refine g_get (v := .ref (U 1)) hx hb hts hown hK hP 0 rfl rfl gu_wsX70 0 (by decide) gm_1_17 rfl dX7_doubtful_1 ?_
  refine g_get (v := .ref (U 2)) hx hb hts hown hK hP 1 rfl rfl gu_wsX10 0 (by decide) gm_6_13 rfl dX7_doubtful_4 ?_
  refine lv_iload_n hx hb dX7_doubtful_7 rfl (lv_at hl 1 rfl) ?_
  refine rd_calle (va_runV (As := [.int (v)]) (rest := []) ⟨hx, hb, hml, hown, hts⟩ (c_X3_doubtfulAt l D cA (fun k => U (k + 2)) (zJ c) (zjn c) (v) hjn) (cwV 1 hts (gWV gm_34_20 gm_34_21 gm_34_22 gm_2_5 gm_34_23) rfl rfl rfl (by decide +kernel) ⟨Nat.le_of_ble_eq_true rfl, Nat.le_of_ble_eq_true rfl⟩) (gPreV hK (g_rf hK hP (ci := 5) (q0 := 2) rfl rfl) (hP.sub [2, 3, 4, 5, 6] rfl)) rfl rfl hl.1 rfl (lv_room (Nat.le_of_ble_eq_true rfl)) dX7_doubtful_8 ⟨by omega, by omega⟩) ?_
  refine lv_istore_n (lv' := [(2, .int (oI (nthV (fdF ((zJ c) 0) ((zJ c) 1) (zjn c)) (zjn c) (v)))), (0, .ref (U 0)), (1, .int (v))]) hx hb dX7_doubtful_11 rfl hl (by decide) rfl (fun ls hl => ?_)
  refine lv_iload_n hx hb dX7_doubtful_12 rfl (lv_at hl 0 rfl) ?_
  refine lv_iconst (v := -1) hx hb dX7_doubtful_13 gc_m1 ?_
  refine g_icmp_ne (P := nthV (fdF ((zJ c) 0) ((zJ c) 1) (zjn c)) (zjn c) (v) = none) (tgt := 27) hx hb dX7_doubtful_14 (by decide) (oI_m1 (nthV_31 (by omega) (fun o b h => fdF_lt o b h))) (fun c_1 => ?_) (fun c_1 => ?_)
  · refine lv_iload_n hx hb dX7_doubtful_27 rfl (lv_at hl 0 rfl) ?_
    exact vx_ret (W.widen (k := 1) (n := 6) (by decide) (by decide) (g_iretW (v := oI (nthV (fdF ((zJ c) 0) ((zJ c) 1) (zjn c)) (zjn c) (v))) hx hb hr hlk hS dX7_doubtful_28 (⟨c_1, rfl, hP⟩)))
  · exact g_thrNS hx hb hlt hE hFA hown (by decide +kernel) th_NSE (List.mem_of_getElem? (i := 16) rfl) hS (hl.1.trans hml.symm) dX7_doubtful_17 dX7_doubtful_20 dX7_doubtful_21 dX7_doubtful_23 dX7_doubtful_26 hte (by decide) (by decide) (by decide) (by decide) hlk (fun H1 hz8 hk8 => ⟨rfl, c_1, vP_grow hP hk8⟩) (by decide) (by decide)

set_option maxHeartbeats 1000000 in
set_option maxRecDepth 100000 in
theorem c_X7_roll (l : Launch) (hlt : l.stackTraces = false) (D : va_G) (cA : Nat → ClassId) (AE : Nat → Prop) (adK adV sa : Nat → Nat) (U : Nat → Nat) (rg : Nat → Option Nat) (c z : CS) (rz : Nat → CS) (hd ct : Nat) (rs dt : Int32) (mf : Nat → Nat → Int32) (mn : Nat) (tc : Nat → Nat) (tl to : Nat) (kd fi se : Int32) (ta : Nat) (nu : Int32) (lc : Nat → Int32) (ln : Nat) (sv : Bool) (er : Int32) (v : Int32) (b : Bool) (hA : aInj 189 U) (hFA : ∀ q, aS 189 U q → AE q) (hz : zOk c)  : vx_Met l yX7_roll (gw yX7_roll cX7_roll 4 (some .int)) ({ frames := 6, cells := 1, slots := 6, locals := 89 } : Room) (gPx [.ref (U 0), .int (v), .int (b2i (b))] (fun H => va_P D vwCl (uw cA U rg c z rz hd ct rs dt mf mn tc tl to kd fi se ta nu lc ln sv er) H) D cA AE adK adV sa) (wrI (fun r H => ¬ (if b = true then nthV (fhF (zK c) (zcn c)) (zcn c) v else (if isIx v (zrl c) = true then some (zrw c (v).toNatClampNeg) else none)) = none ∧ r = oI (if b = true then nthV (fhF (zK c) (zcn c)) (zcn c) v else (if isIx v (zrl c) = true then some (zrw c (v).toNatClampNeg) else none)) ∧ va_P D vwCl (uw cA U rg c z rz hd ct rs dt mf mn tc tl to kd fi se ta nu lc ln sv er) H) (aS 189 U)) (gXC (fun E H => (E = xNSE ∧ (if b = true then nthV (fhF (zK c) (zcn c)) (zcn c) v else (if isIx v (zrl c) = true then some (zrw c (v).toNatClampNeg) else none)) = none ∧ va_P D vwCl (uw cA U rg c z rz hd ct rs dt mf mn tc tl to kd fi se ta nu lc ln sv er) H)) (aS 189 U)) 1 6 (aS 189 U) := by
  refine gOfv (by decide) (Nat.le_of_ble_eq_true rfl) ?_
  intro p e s m below meth c9 ls hx hb hml hr hlk hown hts hte hP hK hE hl
  have hl : lv_has ls 4 [(0, .ref (U 0)), (1, .int (v)), (2, .int (b2i (b)))] := hl
  have hz9 := hz
  obtain ⟨hjn, hcn, hrl, hrw, hck, htn⟩ := hz
  have hD : va_D (aS 189 U) (uw cA U rg c z rz hd ct rs dt mf mn tc tl to kd fi se ta nu lc ln sv er) := uwD hA
  have hS : va_S (aS 189 U) s.heap s.heap [] := va_S.rf
  skip
  refine lv_iload_n hx hb dX7_roll_0 rfl (lv_at hl 2 rfl) ?_
  refine g_if_eq (P := b = false) (tgt := 18) hx hb dX7_roll_1 (by decide) b2i_0 (fun c_1 => ?_) (fun c_1 => ?_)
  · refine lv_aload_n hx hb dX7_roll_18 rfl (lv_at hl 0 rfl) ?_
    refine g_get (v := .ref (U 1)) hx hb hts hown hK hP 0 rfl rfl gu_wsX70 0 (by decide) gm_1_17 rfl dX7_roll_19 ?_
    refine g_get (v := .ref (U 7)) hx hb hts hown hK hP 1 rfl rfl gu_wsX10 1 (by decide) gm_10_7 rfl dX7_roll_22 ?_
    refine lv_iload_n hx hb dX7_roll_25 rfl (lv_at hl 1 rfl) ?_
    refine rd_calle (va_runV (As := [.int (v)]) (rest := []) ⟨hx, hb, hml, hown, hts⟩ (c_X0_rowAt l D cA (fun k => U (k + 7)) (zK c) (zrw c) (zcn c) (zrl c) (v) hrl hrw) (cwV 1 hts (gWV gm_31_11 gm_31_12 gm_31_13 gm_3_0 gm_31_14) rfl rfl rfl (by decide +kernel) ⟨Nat.le_of_ble_eq_true rfl, Nat.le_of_ble_eq_true rfl⟩) (gPreV hK (g_rf hK hP (ci := 2) (q0 := 7) rfl rfl) (hP.sub [7, 8, 9, 10, 11, 12, 13, 14, 15, 16] rfl)) rfl rfl hl.1 rfl (lv_room (Nat.le_of_ble_eq_true rfl)) dX7_roll_26 ⟨by omega, by omega⟩) ?_
    refine lv_istore_n (lv' := [(3, .int (oI ((if isIx (v) (zrl c) = true then some ((zrw c) ((v)).toNatClampNeg) else none)))), (0, .ref (U 0)), (1, .int (v)), (2, .int (b2i (b)))]) hx hb dX7_roll_29 rfl hl (by decide) rfl (fun ls hl => ?_)
    refine lv_iload_n hx hb dX7_roll_30 rfl (lv_at hl 0 rfl) ?_
    refine lv_iconst (v := -1) hx hb dX7_roll_31 gc_m1 ?_
    refine g_icmp_ne (P := (if isIx (v) (zrl c) = true then some ((zrw c) ((v)).toNatClampNeg) else none) = none) (tgt := 45) hx hb dX7_roll_32 (by decide) (oI_m1 (by first | exact nthV_31 (by omega) (fun o b h => fhF_lt o b h) | exact rowA_31 hrw hrl)) (fun c_2 => ?_) (fun c_2 => ?_)
    · refine lv_iload_n hx hb dX7_roll_45 rfl (lv_at hl 0 rfl) ?_
      exact vx_ret (W.widen (k := 1) (n := 6) (by decide) (by decide) (g_iretW (v := oI ((if isIx (v) (zrl c) = true then some ((zrw c) ((v)).toNatClampNeg) else none))) hx hb hr hlk hS dX7_roll_46 (⟨(by rw [c_1]; exact c_2), (by rw [c_1]; rfl), hP⟩)))
    · exact g_thrNS hx hb hlt hE hFA hown (by decide +kernel) th_NSE (List.mem_of_getElem? (i := 16) rfl) hS (hl.1.trans hml.symm) dX7_roll_35 dX7_roll_38 dX7_roll_39 dX7_roll_41 dX7_roll_44 hte (by decide) (by decide) (by decide) (by decide) hlk (fun H1 hz8 hk8 => ⟨rfl, (by rw [c_1]; exact c_2), vP_grow hP hk8⟩) (by decide) (by decide)
  · have c_1 : b = true := eq_true_of_ne_false c_1
    refine lv_aload_n hx hb dX7_roll_4 rfl (lv_at hl 0 rfl) ?_
    refine g_get (v := .ref (U 1)) hx hb hts hown hK hP 0 rfl rfl gu_wsX70 0 (by decide) gm_1_17 rfl dX7_roll_5 ?_
    refine g_get (v := .ref (U 7)) hx hb hts hown hK hP 1 rfl rfl gu_wsX10 1 (by decide) gm_10_7 rfl dX7_roll_8 ?_
    refine lv_iload_n hx hb dX7_roll_11 rfl (lv_at hl 1 rfl) ?_
    refine rd_calle (va_runV (As := [.int (v)]) (rest := []) ⟨hx, hb, hml, hown, hts⟩ (c_X0_takenOutAt l D cA (fun k => U (k + 7)) (zK c) (zrw c) (zcn c) (zrl c) (v) hcn) (cwV 1 hts (gWV gm_30_21 gm_30_22 gm_30_23 gm_3_0 gm_31_0) rfl rfl rfl (by decide +kernel) ⟨Nat.le_of_ble_eq_true rfl, Nat.le_of_ble_eq_true rfl⟩) (gPreV hK (g_rf hK hP (ci := 2) (q0 := 7) rfl rfl) (hP.sub [7, 8, 9, 10, 11, 12, 13, 14, 15, 16] rfl)) rfl rfl hl.1 rfl (lv_room (Nat.le_of_ble_eq_true rfl)) dX7_roll_12 ⟨by omega, by omega⟩) ?_
    refine lv_goto (tgt := 29) hx hb dX7_roll_15 (by decide) ?_
    refine lv_istore_n (lv' := [(3, .int (oI (nthV (fhF (zK c) (zcn c)) (zcn c) (v)))), (0, .ref (U 0)), (1, .int (v)), (2, .int (b2i (b)))]) hx hb dX7_roll_29 rfl hl (by decide) rfl (fun ls hl => ?_)
    refine lv_iload_n hx hb dX7_roll_30 rfl (lv_at hl 0 rfl) ?_
    refine lv_iconst (v := -1) hx hb dX7_roll_31 gc_m1 ?_
    refine g_icmp_ne (P := nthV (fhF (zK c) (zcn c)) (zcn c) (v) = none) (tgt := 45) hx hb dX7_roll_32 (by decide) (oI_m1 (by first | exact nthV_31 (by omega) (fun o b h => fhF_lt o b h) | exact rowA_31 hrw hrl)) (fun c_3 => ?_) (fun c_3 => ?_)
    · refine lv_iload_n hx hb dX7_roll_45 rfl (lv_at hl 0 rfl) ?_
      exact vx_ret (W.widen (k := 1) (n := 6) (by decide) (by decide) (g_iretW (v := oI (nthV (fhF (zK c) (zcn c)) (zcn c) (v))) hx hb hr hlk hS dX7_roll_46 (⟨(by rw [c_1]; exact c_3), (by rw [c_1]; rfl), hP⟩)))
    · exact g_thrNS hx hb hlt hE hFA hown (by decide +kernel) th_NSE (List.mem_of_getElem? (i := 16) rfl) hS (hl.1.trans hml.symm) dX7_roll_35 dX7_roll_38 dX7_roll_39 dX7_roll_41 dX7_roll_44 hte (by decide) (by decide) (by decide) (by decide) hlk (fun H1 hz8 hk8 => ⟨rfl, (by rw [c_1]; exact c_3), vP_grow hP hk8⟩) (by decide) (by decide)

set_option maxHeartbeats 1000000 in
set_option maxRecDepth 100000 in
theorem c_X7_wouldTake (l : Launch) (hlt : l.stackTraces = false) (D : va_G) (cA : Nat → ClassId) (AE : Nat → Prop) (adK adV sa : Nat → Nat) (U : Nat → Nat) (rg : Nat → Option Nat) (c z : CS) (rz : Nat → CS) (hd ct : Nat) (rs dt : Int32) (mf : Nat → Nat → Int32) (mn : Nat) (tc : Nat → Nat) (tl to : Nat) (kd fi se : Int32) (ta : Nat) (nu : Int32) (lc : Nat → Int32) (ln : Nat) (sv : Bool) (er : Int32) (v : Int32) (hA : aInj 189 U) (hFA : ∀ q, aS 189 U q → AE q) (hz : zOk c)  : vx_Met l yX7_wouldTake (gw yX7_wouldTake cX7_wouldTake 3 (some .int)) ({ frames := 6, cells := 1, slots := 6, locals := 82 } : Room) (gPx [.ref (U 0), .int (v)] (fun H => va_P D vwCl (uw cA U rg c z rz hd ct rs dt mf mn tc tl to kd fi se ta nu lc ln sv er) H) D cA AE adK adV sa) (wrI (fun r H => ∃ q : Nat, q < zcn c ∧ v = nI q ∧ ¬ tkN (zK c) (zrw c) (zrl c) (zck c) (ztn c) q = -1 ∧ r = tkN (zK c) (zrw c) (zrl c) (zck c) (ztn c) q ∧ va_P D vwCl (uw cA U rg c z rz hd ct rs dt mf mn tc tl to kd fi se ta nu lc ln sv er) H) (aS 189 U)) (gXC (fun E H => (E = xIOB ∧ isIx v (zcn c) = false ∧ va_P D vwCl (uw cA U rg c z rz hd ct rs dt mf mn tc tl to kd fi se ta nu lc ln sv er) H) ∨ (E = xNSE ∧ ∃ q : Nat, q < zcn c ∧ v = nI q ∧ tkN (zK c) (zrw c) (zrl c) (zck c) (ztn c) q = -1 ∧ va_P D vwCl (uw cA U rg c z rz hd ct rs dt mf mn tc tl to kd fi se ta nu lc ln sv er) H)) (aS 189 U)) 1 6 (aS 189 U) := by
  refine gOfv (by decide) (Nat.le_of_ble_eq_true rfl) ?_
  intro p e s m below meth c9 ls hx hb hml hr hlk hown hts hte hP hK hE hl
  have hl : lv_has ls 3 [(0, .ref (U 0)), (1, .int (v))] := hl
  have hz9 := hz
  obtain ⟨hjn, hcn, hrl, hrw, hck, htn⟩ := hz
  have hD : va_D (aS 189 U) (uw cA U rg c z rz hd ct rs dt mf mn tc tl to kd fi se ta nu lc ln sv er) := uwD hA
  have hS : va_S (aS 189 U) s.heap s.heap [] := va_S.rf
  skip
  refine lv_aload_n hx hb dX7_wouldTake_0 rfl (lv_at hl 0 rfl) ?_
  refine g_get (v := .ref (U 1)) hx hb hts hown hK hP 0 rfl rfl gu_wsX70 0 (by decide) gm_1_17 rfl dX7_wouldTake_1 ?_
  refine g_get (v := .ref (U 7)) hx hb hts hown hK hP 1 rfl rfl gu_wsX10 1 (by decide) gm_10_7 rfl dX7_wouldTake_4 ?_
  refine lv_iload_n hx hb dX7_wouldTake_7 rfl (lv_at hl 1 rfl) ?_
  refine rd_calle (va_runV (As := [.int (v)]) (rest := []) ⟨hx, hb, hml, hown, hts⟩ (c_X0_has l D cA (fun k => U (k + 7)) (zK c) (zrw c) (zcn c) (zrl c) (v) hcn) (cwV 1 hts (gWV gm_11_15 gm_11_16 gm_11_17 gm_3_0 gm_11_18) rfl rfl rfl (by decide +kernel) ⟨Nat.le_of_ble_eq_true rfl, Nat.le_of_ble_eq_true rfl⟩) (gPreV hK (g_rf hK hP (ci := 2) (q0 := 7) rfl rfl) (hP.sub [7, 8, 9, 10, 11, 12, 13, 14, 15, 16] rfl)) rfl rfl hl.1 rfl (lv_room (Nat.le_of_ble_eq_true rfl)) dX7_wouldTake_8 ⟨by omega, by omega⟩) ?_
  refine g_if_ne (P := isIx (v) (zcn c) = false) (tgt := 24) hx hb dX7_wouldTake_11 (by decide) b2i_0 (fun c_1 => ?_) (fun c_1 => ?_)
  · have c_1 : isIx (v) (zcn c) = true := eq_true_of_ne_false c_1
    obtain ⟨j_2, hj_4, ej_3⟩ := isIx_n c_1 (by omega)
    rw [ej_3] at hl
    have hl : lv_has ls 3 [(0, .ref (U 0)), (1, .int (nI (j_2)))] := hl
    refine lv_aload_n hx hb dX7_wouldTake_24 rfl (lv_at hl 0 rfl) ?_
    refine g_get (v := .ref (U 1)) hx hb hts hown hK hP 0 rfl rfl gu_wsX70 0 (by decide) gm_1_17 rfl dX7_wouldTake_25 ?_
    refine lv_iload_n hx hb dX7_wouldTake_28 rfl (lv_at hl 1 rfl) ?_
    refine rd_calle (va_runV (As := [.int (nI (j_2))]) (rest := []) ⟨hx, hb, hml, hown, hts⟩ (c_X1_takenIn l D cA (fun k => U (k + 1)) (zJ c) (zjn c) (zK c) (zrw c) (zcn c) (zrl c) (zck c) (ztn c) (zsd c) (j_2) hrl hrw (by omega) hck htn) (cwV 1 hts (gWV gm_32_11 gm_32_12 gm_32_13 gm_1_16 gm_32_14) rfl rfl rfl (by decide +kernel) ⟨Nat.le_of_ble_eq_true rfl, Nat.le_of_ble_eq_true rfl⟩) (gPreV hK (g_rf hK hP (ci := 3) (q0 := 1) rfl rfl) (hP.sub [1, 2, 3, 4, 5, 6, 7, 8, 9, 10, 11, 12, 13, 14, 15, 16] rfl)) rfl rfl hl.1 rfl (lv_room (Nat.le_of_ble_eq_true rfl)) dX7_wouldTake_29 ⟨by omega, by omega⟩) ?_
    refine lv_istore_n (lv' := [(2, .int (tkN (zK c) (zrw c) (zrl c) (zck c) (ztn c) (j_2))), (0, .ref (U 0)), (1, .int (nI (j_2)))]) hx hb dX7_wouldTake_32 rfl hl (by decide) rfl (fun ls hl => ?_)
    refine lv_iload_n hx hb dX7_wouldTake_33 rfl (lv_at hl 0 rfl) ?_
    refine lv_iconst (v := -1) hx hb dX7_wouldTake_34 gc_m1 ?_
    refine g_icmp_ne (P := tkN (zK c) (zrw c) (zrl c) (zck c) (ztn c) (j_2) = -1) (tgt := 49) hx hb dX7_wouldTake_35 (by decide) Iff.rfl (fun c_5 => ?_) (fun c_5 => ?_)
    · refine lv_iload_n hx hb dX7_wouldTake_49 rfl (lv_at hl 0 rfl) ?_
      exact vx_ret (W.widen (k := 1) (n := 6) (by decide) (by decide) (g_iretW (v := tkN (zK c) (zrw c) (zrl c) (zck c) (ztn c) (j_2)) hx hb hr hlk hS dX7_wouldTake_50 (⟨j_2, hj_4, ej_3, c_5, rfl, hP⟩)))
    · exact g_thrNSW hx hb hlt hE hFA hown (by decide +kernel) th_NSE (List.mem_of_getElem? (i := 17) rfl) hS (hl.1.trans hml.symm) dX7_wouldTake_38 dX7_wouldTake_41 dX7_wouldTake_42 dX7_wouldTake_45 dX7_wouldTake_48 hte (by decide) (by decide) (by decide) (by decide) hlk (fun H1 hz8 hk8 => Or.inr (⟨rfl, j_2, hj_4, ej_3, c_5, vP_grow hP hk8⟩)) (by decide) (by decide)
  · exact g_throwS hx hb hlt hE hFA hown (by decide +kernel) th_IOB (List.mem_of_getElem? (i := 4) rfl) hS (hl.1.trans hml.symm) dX7_wouldTake_14 dX7_wouldTake_17 dX7_wouldTake_18 dX7_wouldTake_20 dX7_wouldTake_23 hte (by decide) (by decide) (by decide) (by decide) hlk (fun H1 hz8 hk8 => Or.inl ⟨rfl, c_1, vP_grow hP hk8⟩) (by decide) (by decide)

set_option maxHeartbeats 1000000 in
set_option maxRecDepth 100000 in
theorem c_X7_termFrom (l : Launch) (hlt : l.stackTraces = false) (D : va_G) (cA : Nat → ClassId) (AE : Nat → Prop) (adK adV sa : Nat → Nat) (U : Nat → Nat) (rg : Nat → Option Nat) (c z : CS) (rz : Nat → CS) (hd ct : Nat) (rs dt : Int32) (mf : Nat → Nat → Int32) (mn : Nat) (tc : Nat → Nat) (tl to : Nat) (kd fi se : Int32) (ta : Nat) (nu : Int32) (lc : Nat → Int32) (ln : Nat) (sv : Bool) (er : Int32) (v : Int32) (hA : aInj 189 U) (hFA : ∀ q, aS 189 U q → AE q) (hz : zOk c)  : vx_Met l yX7_termFrom (gw yX7_termFrom cX7_termFrom 3 (some .int)) ({ frames := 6, cells := 1, slots := 6, locals := 82 } : Room) (gPx [.ref (U 0), .int (v)] (fun H => va_P D vwCl (uw cA U rg c z rz hd ct rs dt mf mn tc tl to kd fi se ta nu lc ln sv er) H) D cA AE adK adV sa) (wrI (fun r H => inB v (nI 0) (nI 99) = true ∧ ¬ rtF (zK c) (zrw c) (zrl c) v = -1 ∧ r = rtF (zK c) (zrw c) (zrl c) v ∧ va_P D vwCl (uw cA U rg c z rz hd ct rs dt mf mn tc tl to kd fi se ta nu lc ln sv er) H) (aS 189 U)) (gXC (fun E H => (E = xIAE ∧ inB v (nI 0) (nI 99) = false ∧ va_P D vwCl (uw cA U rg c z rz hd ct rs dt mf mn tc tl to kd fi se ta nu lc ln sv er) H) ∨ (E = xNSE ∧ inB v (nI 0) (nI 99) = true ∧ rtF (zK c) (zrw c) (zrl c) v = -1 ∧ va_P D vwCl (uw cA U rg c z rz hd ct rs dt mf mn tc tl to kd fi se ta nu lc ln sv er) H)) (aS 189 U)) 1 6 (aS 189 U) := by
  refine gOfv (by decide) (Nat.le_of_ble_eq_true rfl) ?_
  intro p e s m below meth c9 ls hx hb hml hr hlk hown hts hte hP hK hE hl
  have hl : lv_has ls 3 [(0, .ref (U 0)), (1, .int (v))] := hl
  have hz9 := hz
  obtain ⟨hjn, hcn, hrl, hrw, hck, htn⟩ := hz
  have hD : va_D (aS 189 U) (uw cA U rg c z rz hd ct rs dt mf mn tc tl to kd fi se ta nu lc ln sv er) := uwD hA
  have hS : va_S (aS 189 U) s.heap s.heap [] := va_S.rf
  skip
  refine lv_iload_n hx hb dX7_termFrom_0 rfl (lv_at hl 1 rfl) ?_
  refine g_if_lt (P := v < 0) (tgt := 10) hx hb dX7_termFrom_1 (by decide) Iff.rfl (fun c_1 => ?_) (fun c_1 => ?_)
  · have d_1 : ¬ 0 ≤ v := Int32.not_le.mpr c_1
    exact g_throwSW hx hb hlt hE hFA hown (by decide +kernel) th_IAE (List.mem_of_getElem? (i := 18) rfl) hS (hl.1.trans hml.symm) dX7_termFrom_10 dX7_termFrom_13 dX7_termFrom_14 dX7_termFrom_17 dX7_termFrom_20 hte (by decide) (by decide) (by decide) (by decide) hlk (fun H1 hz8 hk8 => Or.inl ⟨rfl, inB_lo c_1, vP_grow hP hk8⟩) (by decide) (by decide)
  · have d_1 : 0 ≤ v := Int32.not_lt.mp c_1
    refine lv_iload_n hx hb dX7_termFrom_4 rfl (lv_at hl 1 rfl) ?_
    refine lv_bipush (v := nI (99)) hx hb dX7_termFrom_5 gb_99 ?_
    refine g_icmp_le (P := v ≤ nI (99)) (tgt := 21) hx hb dX7_termFrom_7 (by decide) Iff.rfl (fun c_2 => ?_) (fun c_2 => ?_)
    · have d_2 : ¬ nI (99) < v := Int32.not_lt.mpr c_2
      refine lv_aload_n hx hb dX7_termFrom_21 rfl (lv_at hl 0 rfl) ?_
      refine g_get (v := .ref (U 1)) hx hb hts hown hK hP 0 rfl rfl gu_wsX70 0 (by decide) gm_1_17 rfl dX7_termFrom_22 ?_
      refine g_get (v := .ref (U 7)) hx hb hts hown hK hP 1 rfl rfl gu_wsX10 1 (by decide) gm_10_7 rfl dX7_termFrom_25 ?_
      refine lv_iload_n hx hb dX7_termFrom_28 rfl (lv_at hl 1 rfl) ?_
      refine rd_calle (va_runV (As := [.int (v)]) (rest := []) ⟨hx, hb, hml, hown, hts⟩ (c_X0_rolledTermFrom l D cA (fun k => U (k + 7)) (zK c) (zrw c) (zcn c) (zrl c) (v) hrl hrw) (cwV 1 hts (gWV gm_33_16 gm_33_17 gm_33_18 gm_3_0 gm_33_19) rfl rfl rfl (by decide +kernel) ⟨Nat.le_of_ble_eq_true rfl, Nat.le_of_ble_eq_true rfl⟩) (gPreV hK (g_rf hK hP (ci := 2) (q0 := 7) rfl rfl) (hP.sub [7, 8, 9, 10, 11, 12, 13, 14, 15, 16] rfl)) rfl rfl hl.1 rfl (lv_room (Nat.le_of_ble_eq_true rfl)) dX7_termFrom_29 ⟨by omega, by omega⟩) ?_
      refine lv_istore_n (lv' := [(2, .int (rtF (zK c) (zrw c) (zrl c) (v))), (0, .ref (U 0)), (1, .int (v))]) hx hb dX7_termFrom_32 rfl hl (by decide) rfl (fun ls hl => ?_)
      refine lv_iload_n hx hb dX7_termFrom_33 rfl (lv_at hl 0 rfl) ?_
      refine lv_iconst (v := -1) hx hb dX7_termFrom_34 gc_m1 ?_
      refine g_icmp_ne (P := rtF (zK c) (zrw c) (zrl c) (v) = -1) (tgt := 49) hx hb dX7_termFrom_35 (by decide) Iff.rfl (fun c_3 => ?_) (fun c_3 => ?_)
      · refine lv_iload_n hx hb dX7_termFrom_49 rfl (lv_at hl 0 rfl) ?_
        exact vx_ret (W.widen (k := 1) (n := 6) (by decide) (by decide) (g_iretW (v := rtF (zK c) (zrw c) (zrl c) (v)) hx hb hr hlk hS dX7_termFrom_50 (⟨inB_in c_1 c_2, c_3, rfl, hP⟩)))
      · exact g_thrNSW hx hb hlt hE hFA hown (by decide +kernel) th_NSE (List.mem_of_getElem? (i := 19) rfl) hS (hl.1.trans hml.symm) dX7_termFrom_38 dX7_termFrom_41 dX7_termFrom_42 dX7_termFrom_45 dX7_termFrom_48 hte (by decide) (by decide) (by decide) (by decide) hlk (fun H1 hz8 hk8 => Or.inr (⟨rfl, inB_in c_1 c_2, c_3, vP_grow hP hk8⟩)) (by decide) (by decide)
    · have d_2 : nI (99) < v := Int32.not_le.mp c_2
      exact g_throwSW hx hb hlt hE hFA hown (by decide +kernel) th_IAE (List.mem_of_getElem? (i := 18) rfl) hS (hl.1.trans hml.symm) dX7_termFrom_10 dX7_termFrom_13 dX7_termFrom_14 dX7_termFrom_17 dX7_termFrom_20 hte (by decide) (by decide) (by decide) (by decide) hlk (fun H1 hz8 hk8 => Or.inl ⟨rfl, inB_hi c_2, vP_grow hP hk8⟩) (by decide) (by decide)

set_option maxHeartbeats 1000000 in
set_option maxRecDepth 100000 in
theorem c_X7_finalIn (l : Launch) (hlt : l.stackTraces = false) (D : va_G) (cA : Nat → ClassId) (AE : Nat → Prop) (adK adV sa : Nat → Nat) (U : Nat → Nat) (rg : Nat → Option Nat) (c z : CS) (rz : Nat → CS) (hd ct : Nat) (rs dt : Int32) (mf : Nat → Nat → Int32) (mn : Nat) (tc : Nat → Nat) (tl to : Nat) (kd fi se : Int32) (ta : Nat) (nu : Int32) (lc : Nat → Int32) (ln : Nat) (sv : Bool) (er : Int32) (v : Int32) (hA : aInj 189 U) (hFA : ∀ q, aS 189 U q → AE q) (hz : zOk c)  : vx_Met l yX7_finalIn (gw yX7_finalIn cX7_finalIn 3 (some .int)) ({ frames := 6, cells := 1, slots := 6, locals := 82 } : Room) (gPx [.ref (U 0), .int (v)] (fun H => va_P D vwCl (uw cA U rg c z rz hd ct rs dt mf mn tc tl to kd fi se ta nu lc ln sv er) H) D cA AE adK adV sa) (wrI (fun r H => ∃ q : Nat, q < zcn c ∧ v = nI q ∧ hvF (zK c) q = true ∧ r = (if clF (zK c) q = true then zK c 5 q else zK c 4 q + nI 4) ∧ va_P D vwCl (uw cA U rg c z rz hd ct rs dt mf mn tc tl to kd fi se ta nu lc ln sv er) H) (aS 189 U)) (gXC (fun E H => (E = xIOB ∧ isIx v (zcn c) = false ∧ va_P D vwCl (uw cA U rg c z rz hd ct rs dt mf mn tc tl to kd fi se ta nu lc ln sv er) H) ∨ (E = xNSE ∧ ∃ q : Nat, q < zcn c ∧ v = nI q ∧ hvF (zK c) q = false ∧ va_P D vwCl (uw cA U rg c z rz hd ct rs dt mf mn tc tl to kd fi se ta nu lc ln sv er) H)) (aS 189 U)) 1 6 (aS 189 U) := by
  refine gOfv (by decide) (Nat.le_of_ble_eq_true rfl) ?_
  intro p e s m below meth c9 ls hx hb hml hr hlk hown hts hte hP hK hE hl
  have hl : lv_has ls 3 [(0, .ref (U 0)), (1, .int (v))] := hl
  have hz9 := hz
  obtain ⟨hjn, hcn, hrl, hrw, hck, htn⟩ := hz
  have hD : va_D (aS 189 U) (uw cA U rg c z rz hd ct rs dt mf mn tc tl to kd fi se ta nu lc ln sv er) := uwD hA
  have hS : va_S (aS 189 U) s.heap s.heap [] := va_S.rf
  skip
  refine lv_aload_n hx hb dX7_finalIn_0 rfl (lv_at hl 0 rfl) ?_
  refine g_get (v := .ref (U 1)) hx hb hts hown hK hP 0 rfl rfl gu_wsX70 0 (by decide) gm_1_17 rfl dX7_finalIn_1 ?_
  refine g_get (v := .ref (U 7)) hx hb hts hown hK hP 1 rfl rfl gu_wsX10 1 (by decide) gm_10_7 rfl dX7_finalIn_4 ?_
  refine lv_astore_n (lv' := [(2, .ref (U 7)), (0, .ref (U 0)), (1, .int (v))]) hx hb dX7_finalIn_7 rfl hl (by decide) rfl (fun ls hl => ?_)
  refine lv_aload_n hx hb dX7_finalIn_8 rfl (lv_at hl 0 rfl) ?_
  refine lv_iload_n hx hb dX7_finalIn_9 rfl (lv_at hl 2 rfl) ?_
  refine rd_calle (va_runV (As := [.int (v)]) (rest := []) ⟨hx, hb, hml, hown, hts⟩ (c_X0_has l D cA (fun k => U (k + 7)) (zK c) (zrw c) (zcn c) (zrl c) (v) hcn) (cwV 1 hts (gWV gm_11_15 gm_11_16 gm_11_17 gm_3_0 gm_11_18) rfl rfl rfl (by decide +kernel) ⟨Nat.le_of_ble_eq_true rfl, Nat.le_of_ble_eq_true rfl⟩) (gPreV hK (g_rf hK hP (ci := 2) (q0 := 7) rfl rfl) (hP.sub [7, 8, 9, 10, 11, 12, 13, 14, 15, 16] rfl)) rfl rfl hl.1 rfl (lv_room (Nat.le_of_ble_eq_true rfl)) dX7_finalIn_10 ⟨by omega, by omega⟩) ?_
  refine g_if_ne (P := isIx (v) (zcn c) = false) (tgt := 26) hx hb dX7_finalIn_13 (by decide) b2i_0 (fun c_1 => ?_) (fun c_1 => ?_)
  · have c_1 : isIx (v) (zcn c) = true := eq_true_of_ne_false c_1
    obtain ⟨j_2, hj_4, ej_3⟩ := isIx_n c_1 (by omega)
    rw [ej_3] at hl
    have hl : lv_has ls 3 [(2, .ref (U 7)), (0, .ref (U 0)), (1, .int (nI (j_2)))] := hl
    refine lv_aload_n hx hb dX7_finalIn_26 rfl (lv_at hl 0 rfl) ?_
    refine lv_iload_n hx hb dX7_finalIn_27 rfl (lv_at hl 2 rfl) ?_
    refine rd_calle (va_runV (As := [.int (nI (j_2))]) (rest := []) ⟨hx, hb, hml, hown, hts⟩ (c_X0_hasVerdict l D cA (fun k => U (k + 7)) (zK c) (zrw c) (zcn c) (zrl c) (j_2) (by omega)) (cwV 1 hts (gWV gm_34_8 gm_16_5 gm_16_6 gm_3_0 gm_16_7) rfl rfl rfl (by decide +kernel) ⟨Nat.le_of_ble_eq_true rfl, Nat.le_of_ble_eq_true rfl⟩) (gPreV hK (g_rf hK hP (ci := 2) (q0 := 7) rfl rfl) (hP.sub [7, 8, 9, 10, 11, 12, 13, 14, 15, 16] rfl)) rfl rfl hl.1 rfl (lv_room (Nat.le_of_ble_eq_true rfl)) dX7_finalIn_28 ⟨by omega, by omega⟩) ?_
    refine g_if_ne (P := hvF (zK c) (j_2) = false) (tgt := 45) hx hb dX7_finalIn_31 (by decide) b2i_0 (fun c_5 => ?_) (fun c_5 => ?_)
    · have c_5 : hvF (zK c) (j_2) = true := eq_true_of_ne_false c_5
      refine lv_aload_n hx hb dX7_finalIn_45 rfl (lv_at hl 0 rfl) ?_
      refine lv_iload_n hx hb dX7_finalIn_46 rfl (lv_at hl 2 rfl) ?_
      refine rd_calle (va_runV (As := [.int (nI (j_2))]) (rest := []) ⟨hx, hb, hml, hown, hts⟩ (c_X0_isClosed l D cA (fun k => U (k + 7)) (zK c) (zrw c) (zcn c) (zrl c) (j_2) (by omega)) (cwV 1 hts (gWV gm_26_4 gm_12_17 gm_12_18 gm_3_0 gm_12_19) rfl rfl rfl (by decide +kernel) ⟨Nat.le_of_ble_eq_true rfl, Nat.le_of_ble_eq_true rfl⟩) (gPreV hK (g_rf hK hP (ci := 2) (q0 := 7) rfl rfl) (hP.sub [7, 8, 9, 10, 11, 12, 13, 14, 15, 16] rfl)) rfl rfl hl.1 rfl (lv_room (Nat.le_of_ble_eq_true rfl)) dX7_finalIn_47 ⟨by omega, by omega⟩) ?_
      refine g_if_eq (P := clF (zK c) (j_2) = false) (tgt := 62) hx hb dX7_finalIn_50 (by decide) b2i_0 (fun c_6 => ?_) (fun c_6 => ?_)
      · refine lv_aload_n hx hb dX7_finalIn_62 rfl (lv_at hl 0 rfl) ?_
        refine g_get (v := .ref (U 12)) hx hb hts hown hK hP 7 rfl rfl gu_wsX00 4 (by decide) gm_26_1 rfl dX7_finalIn_63 ?_
        refine lv_iload_n hx hb dX7_finalIn_66 rfl (lv_at hl 2 rfl) ?_
        refine g_iald (x := (zK c 4) (j_2)) hx hb hK hP 12 rfl (by omega) (by decide) rfl dX7_finalIn_67 ?_
        refine lv_iconst (v := nI (4)) hx hb dX7_finalIn_68 gc_4 ?_
        refine lv_iadd hx hb dX7_finalIn_69 ?_
        exact vx_ret (W.widen (k := 1) (n := 6) (by decide) (by decide) (g_iretW (v := ((zK c 4) (j_2)) + (nI (4))) hx hb hr hlk hS dX7_finalIn_70 (⟨j_2, hj_4, ej_3, c_5, (by rw [c_6]; rfl), hP⟩)))
      · have c_6 : clF (zK c) (j_2) = true := eq_true_of_ne_false c_6
        refine lv_aload_n hx hb dX7_finalIn_53 rfl (lv_at hl 0 rfl) ?_
        refine g_get (v := .ref (U 13)) hx hb hts hown hK hP 7 rfl rfl gu_wsX00 5 (by decide) gm_34_7 rfl dX7_finalIn_54 ?_
        refine lv_iload_n hx hb dX7_finalIn_57 rfl (lv_at hl 2 rfl) ?_
        refine g_iald (x := (zK c 5) (j_2)) hx hb hK hP 13 rfl (by omega) (by decide) rfl dX7_finalIn_58 ?_
        refine lv_goto (tgt := 70) hx hb dX7_finalIn_59 (by decide) ?_
        exact vx_ret (W.widen (k := 1) (n := 6) (by decide) (by decide) (g_iretW (v := (zK c 5) (j_2)) hx hb hr hlk hS dX7_finalIn_70 (⟨j_2, hj_4, ej_3, c_5, (by rw [c_6]; rfl), hP⟩)))
    · exact g_thrNSW hx hb hlt hE hFA hown (by decide +kernel) th_NSE (List.mem_of_getElem? (i := 20) rfl) hS (hl.1.trans hml.symm) dX7_finalIn_34 dX7_finalIn_37 dX7_finalIn_38 dX7_finalIn_41 dX7_finalIn_44 hte (by decide) (by decide) (by decide) (by decide) hlk (fun H1 hz8 hk8 => Or.inr (⟨rfl, j_2, hj_4, ej_3, c_5, vP_grow hP hk8⟩)) (by decide) (by decide)
  · exact g_throwS hx hb hlt hE hFA hown (by decide +kernel) th_IOB (List.mem_of_getElem? (i := 4) rfl) hS (hl.1.trans hml.symm) dX7_finalIn_16 dX7_finalIn_19 dX7_finalIn_20 dX7_finalIn_22 dX7_finalIn_25 hte (by decide) (by decide) (by decide) (by decide) hlk (fun H1 hz8 hk8 => Or.inl ⟨rfl, c_1, vP_grow hP hk8⟩) (by decide) (by decide)

set_option maxHeartbeats 1000000 in
set_option maxRecDepth 100000 in
theorem c_X7_thoughts (l : Launch) (hlt : l.stackTraces = false) (D : va_G) (cA : Nat → ClassId) (AE : Nat → Prop) (adK adV sa : Nat → Nat) (U : Nat → Nat) (rg : Nat → Option Nat) (c z : CS) (rz : Nat → CS) (hd ct : Nat) (rs dt : Int32) (mf : Nat → Nat → Int32) (mn : Nat) (tc : Nat → Nat) (tl to : Nat) (kd fi se : Int32) (ta : Nat) (nu : Int32) (lc : Nat → Int32) (ln : Nat) (sv : Bool) (er : Int32) (v : Int32) (hA : aInj 189 U) (hFA : ∀ q, aS 189 U q → AE q) (hz : zOk c)  : vx_Met l yX7_thoughts (gw yX7_thoughts cX7_thoughts 2 (some .int)) ({ frames := 6, cells := 1, slots := 6, locals := 82 } : Room) (gPx [.ref (U 0), .int (v)] (fun H => va_P D vwCl (uw cA U rg c z rz hd ct rs dt mf mn tc tl to kd fi se ta nu lc ln sv er) H) D cA AE adK adV sa) (wrI (fun r H => ∃ q : Nat, q < zcn c ∧ v = nI q ∧ hpF (zK c) q = true ∧ r = nI (ttF (zjn c) (zK c 2 q) (zK c 0 q) (zJ c 0, (zJ c 1, (zJ c 2, zJ c 3)))) ∧ ∃ (mf9 : Nat → Nat → Int32) (mn9 : Nat), va_P D vwCl (uw cA U rg c z rz hd ct rs dt mf9 mn9 tc tl to kd fi se ta nu lc ln sv er) H) (aS 189 U)) (gXC (fun E H => (E = xIOB ∧ isIx v (zcn c) = false ∧ va_P D vwCl (uw cA U rg c z rz hd ct rs dt mf mn tc tl to kd fi se ta nu lc ln sv er) H) ∨ (E = xNSE ∧ ∃ q : Nat, q < zcn c ∧ v = nI q ∧ hpF (zK c) q = false ∧ va_P D vwCl (uw cA U rg c z rz hd ct rs dt mf mn tc tl to kd fi se ta nu lc ln sv er) H)) (aS 189 U)) 1 6 (aS 189 U) := by
  refine gOfv (by decide) (Nat.le_of_ble_eq_true rfl) ?_
  intro p e s m below meth c9 ls hx hb hml hr hlk hown hts hte hP hK hE hl
  have hl : lv_has ls 2 [(0, .ref (U 0)), (1, .int (v))] := hl
  have hz9 := hz
  obtain ⟨hjn, hcn, hrl, hrw, hck, htn⟩ := hz
  have hD : va_D (aS 189 U) (uw cA U rg c z rz hd ct rs dt mf mn tc tl to kd fi se ta nu lc ln sv er) := uwD hA
  have hS : va_S (aS 189 U) s.heap s.heap [] := va_S.rf
  skip
  refine lv_aload_n hx hb dX7_thoughts_0 rfl (lv_at hl 0 rfl) ?_
  refine g_get (v := .ref (U 1)) hx hb hts hown hK hP 0 rfl rfl gu_wsX70 0 (by decide) gm_1_17 rfl dX7_thoughts_1 ?_
  refine g_get (v := .ref (U 7)) hx hb hts hown hK hP 1 rfl rfl gu_wsX10 1 (by decide) gm_10_7 rfl dX7_thoughts_4 ?_
  refine lv_iload_n hx hb dX7_thoughts_7 rfl (lv_at hl 1 rfl) ?_
  refine rd_calle (va_runV (As := [.int (v)]) (rest := []) ⟨hx, hb, hml, hown, hts⟩ (c_X0_has l D cA (fun k => U (k + 7)) (zK c) (zrw c) (zcn c) (zrl c) (v) hcn) (cwV 1 hts (gWV gm_11_15 gm_11_16 gm_11_17 gm_3_0 gm_11_18) rfl rfl rfl (by decide +kernel) ⟨Nat.le_of_ble_eq_true rfl, Nat.le_of_ble_eq_true rfl⟩) (gPreV hK (g_rf hK hP (ci := 2) (q0 := 7) rfl rfl) (hP.sub [7, 8, 9, 10, 11, 12, 13, 14, 15, 16] rfl)) rfl rfl hl.1 rfl (lv_room (Nat.le_of_ble_eq_true rfl)) dX7_thoughts_8 ⟨by omega, by omega⟩) ?_
  refine g_if_ne (P := isIx (v) (zcn c) = false) (tgt := 24) hx hb dX7_thoughts_11 (by decide) b2i_0 (fun c_1 => ?_) (fun c_1 => ?_)
  · have c_1 : isIx (v) (zcn c) = true := eq_true_of_ne_false c_1
    obtain ⟨j_2, hj_4, ej_3⟩ := isIx_n c_1 (by omega)
    rw [ej_3] at hl
    have hl : lv_has ls 2 [(0, .ref (U 0)), (1, .int (nI (j_2)))] := hl
    refine lv_aload_n hx hb dX7_thoughts_24 rfl (lv_at hl 0 rfl) ?_
    refine g_get (v := .ref (U 1)) hx hb hts hown hK hP 0 rfl rfl gu_wsX70 0 (by decide) gm_1_17 rfl dX7_thoughts_25 ?_
    refine g_get (v := .ref (U 7)) hx hb hts hown hK hP 1 rfl rfl gu_wsX10 1 (by decide) gm_10_7 rfl dX7_thoughts_28 ?_
    refine lv_iload_n hx hb dX7_thoughts_31 rfl (lv_at hl 1 rfl) ?_
    refine rd_calle (va_runV (As := [.int (nI (j_2))]) (rest := []) ⟨hx, hb, hml, hown, hts⟩ (c_X0_hasPanel l D cA (fun k => U (k + 7)) (zK c) (zrw c) (zcn c) (zrl c) (j_2) (by omega)) (cwV 1 hts (gWV gm_27_6 gm_12_1 gm_12_2 gm_3_0 gm_12_3) rfl rfl rfl (by decide +kernel) ⟨Nat.le_of_ble_eq_true rfl, Nat.le_of_ble_eq_true rfl⟩) (gPreV hK (g_rf hK hP (ci := 2) (q0 := 7) rfl rfl) (hP.sub [7, 8, 9, 10, 11, 12, 13, 14, 15, 16] rfl)) rfl rfl hl.1 rfl (lv_room (Nat.le_of_ble_eq_true rfl)) dX7_thoughts_32 ⟨by omega, by omega⟩) ?_
    refine g_if_ne (P := hpF (zK c) (j_2) = false) (tgt := 48) hx hb dX7_thoughts_35 (by decide) b2i_0 (fun c_5 => ?_) (fun c_5 => ?_)
    · have c_5 : hpF (zK c) (j_2) = true := eq_true_of_ne_false c_5
      refine lv_aload_n hx hb dX7_thoughts_48 rfl (lv_at hl 0 rfl) ?_
      refine g_get (v := .ref (U 36)) hx hb hts hown hK hP 0 rfl rfl gu_wsX70 4 (by decide) gm_2_6 rfl dX7_thoughts_49 ?_
      refine lv_aload_n hx hb dX7_thoughts_52 rfl (lv_at hl 0 rfl) ?_
      refine g_get (v := .ref (U 1)) hx hb hts hown hK hP 0 rfl rfl gu_wsX70 0 (by decide) gm_1_17 rfl dX7_thoughts_53 ?_
      refine g_get (v := .ref (U 2)) hx hb hts hown hK hP 1 rfl rfl gu_wsX10 0 (by decide) gm_6_13 rfl dX7_thoughts_56 ?_
      refine wr_callv (va_runV (As := [.ref (U 2)]) (rest := []) ⟨hx, hb, hml, hown, hts⟩ (c_X3_copyFrom l D cA (fun k => U (uMf k)) mf mn (zJ c) (zjn c) (aInj_m hA uMf uMf_lt uMf_in)) (cwV 1 hts (gWV gm_29_14 gm_7_16 gm_7_17 gm_2_5 gm_7_18) rfl rfl rfl (by decide +kernel) ⟨Nat.le_of_ble_eq_true rfl, Nat.le_of_ble_eq_true rfl⟩) (gPreV hK (g_rf hK hP (ci := 5) (q0 := 36) rfl rfl) (hP.sub [36, 37, 38, 39, 40, 2, 3, 4, 5, 6] rfl)) rfl rfl hl.1 rfl (lv_room (Nat.le_of_ble_eq_true rfl)) dX7_thoughts_59 ⟨by omega, by omega⟩) hS (fun q _ h => aS_m uMf_lt h) (fun q h => aS_m uMf_lt h) (fun H locs hPn hz9 hk9 hS => ?_)
      have hP : va_P D vwCl (uw cA U rg c z rz hd ct rs dt (zJ c) (zjn c) tc tl to kd fi se ta nu lc ln sv er) H := uw_M2 hA hP hPn hk9
      have hD : va_D (aS 189 U) (uw cA U rg c z rz hd ct rs dt (zJ c) (zjn c) tc tl to kd fi se ta nu lc ln sv er) := uwD hA
      refine lv_aload_n hx hb dX7_thoughts_62 rfl (lv_at hl 0 rfl) ?_
      refine g_get (v := .ref (U 36)) hx hb hts hown hK hP 0 rfl rfl gu_wsX70 4 (by decide) gm_2_6 rfl dX7_thoughts_63 ?_
      refine lv_aload_n hx hb dX7_thoughts_66 rfl (lv_at hl 0 rfl) ?_
      refine g_get (v := .ref (U 1)) hx hb hts hown hK hP 0 rfl rfl gu_wsX70 0 (by decide) gm_1_17 rfl dX7_thoughts_67 ?_
      refine g_get (v := .ref (U 7)) hx hb hts hown hK hP 1 rfl rfl gu_wsX10 1 (by decide) gm_10_7 rfl dX7_thoughts_70 ?_
      refine g_get (v := .ref (U 10)) hx hb hts hown hK hP 7 rfl rfl gu_wsX00 2 (by decide) gm_25_23 rfl dX7_thoughts_73 ?_
      refine lv_iload_n hx hb dX7_thoughts_76 rfl (lv_at hl 1 rfl) ?_
      refine g_iald (x := (zK c 2) (j_2)) hx hb hK hP 10 rfl (by omega) (by decide) rfl dX7_thoughts_77 ?_
      refine lv_aload_n hx hb dX7_thoughts_78 rfl (lv_at hl 0 rfl) ?_
      refine g_get (v := .ref (U 1)) hx hb hts hown hK hP 0 rfl rfl gu_wsX70 0 (by decide) gm_1_17 rfl dX7_thoughts_79 ?_
      refine g_get (v := .ref (U 7)) hx hb hts hown hK hP 1 rfl rfl gu_wsX10 1 (by decide) gm_10_7 rfl dX7_thoughts_82 ?_
      refine g_get (v := .ref (U 8)) hx hb hts hown hK hP 7 rfl rfl gu_wsX00 0 (by decide) gm_25_21 rfl dX7_thoughts_85 ?_
      refine lv_iload_n hx hb dX7_thoughts_88 rfl (lv_at hl 1 rfl) ?_
      refine g_iald (x := (zK c 0) (j_2)) hx hb hK hP 8 rfl (by omega) (by decide) rfl dX7_thoughts_89 ?_
      refine wr_calli (va_runV (As := [.int ((zK c 2) (j_2)), .int ((zK c 0) (j_2))]) (rest := []) ⟨hx, hb, hml, hown, hts⟩ (c_X3_thoughtsToTurn l D cA (fun k => U (k + 36)) (zJ c) (zjn c) ((zK c 2) (j_2)) ((zK c 0) (j_2)) (aInj_s hA 36 (by decide)) (by omega)) (cwV 2 hts (gWV gm_29_15 gm_29_16 gm_29_17 gm_2_5 gm_29_18) rfl rfl rfl (by decide +kernel) ⟨Nat.le_of_ble_eq_true rfl, Nat.le_of_ble_eq_true rfl⟩) (gPreV hK (g_rf hK hP (ci := 5) (q0 := 36) rfl rfl) (hP.sub [36, 37, 38, 39, 40] rfl)) rfl rfl hl.1 rfl (lv_room (Nat.le_of_ble_eq_true rfl)) dX7_thoughts_90 ⟨by omega, by omega⟩) hS (fun q _ h => aS_up (m := 5) (a := 36) (by decide) h) (fun q h => aS_up (m := 5) (a := 36) (by decide) h) (fun r H locs hw9 hz9 hk9 hS => ?_)
      obtain ⟨rfl, jf9, hPn⟩ := hw9
      have hP : va_P D vwCl (uw cA U rg c z rz hd ct rs dt jf9 (zjn c) tc tl to kd fi se ta nu lc ln sv er) H := uw_M hA hP hPn hk9
      have hD : va_D (aS 189 U) (uw cA U rg c z rz hd ct rs dt jf9 (zjn c) tc tl to kd fi se ta nu lc ln sv er) := uwD hA
      exact vx_ret (W.widen (k := 1) (n := 6) (by decide) (by decide) (g_iretW (v := nI (ttF (zjn c) ((zK c 2) (j_2)) ((zK c 0) (j_2)) ((zJ c) 0, ((zJ c) 1, ((zJ c) 2, (zJ c) 3))))) hx hb hr hlk hS dX7_thoughts_93 (⟨j_2, hj_4, ej_3, c_5, rfl, jf9, _, hP⟩)))
    · exact g_thrNS hx hb hlt hE hFA hown (by decide +kernel) th_NSE (List.mem_of_getElem? (i := 15) rfl) hS (hl.1.trans hml.symm) dX7_thoughts_38 dX7_thoughts_41 dX7_thoughts_42 dX7_thoughts_44 dX7_thoughts_47 hte (by decide) (by decide) (by decide) (by decide) hlk (fun H1 hz8 hk8 => Or.inr (⟨rfl, j_2, hj_4, ej_3, c_5, vP_grow hP hk8⟩)) (by decide) (by decide)
  · exact g_throwS hx hb hlt hE hFA hown (by decide +kernel) th_IOB (List.mem_of_getElem? (i := 4) rfl) hS (hl.1.trans hml.symm) dX7_thoughts_14 dX7_thoughts_17 dX7_thoughts_18 dX7_thoughts_20 dX7_thoughts_23 hte (by decide) (by decide) (by decide) (by decide) hlk (fun H1 hz8 hk8 => Or.inl ⟨rfl, c_1, vP_grow hP hk8⟩) (by decide) (by decide)

set_option maxHeartbeats 1000000 in
set_option maxRecDepth 100000 in
theorem c_X7_line (l : Launch) (hlt : l.stackTraces = false) (D : va_G) (cA : Nat → ClassId) (AE : Nat → Prop) (adK adV sa : Nat → Nat) (U : Nat → Nat) (rg : Nat → Option Nat) (c z : CS) (rz : Nat → CS) (hd ct : Nat) (rs dt : Int32) (mf : Nat → Nat → Int32) (mn : Nat) (tc : Nat → Nat) (tl to : Nat) (kd fi se : Int32) (ta : Nat) (nu : Int32) (lc : Nat → Int32) (ln : Nat) (sv : Bool) (er : Int32) (v : Int32) (hA : aInj 189 U) (hFA : ∀ q, aS 189 U q → AE q) (hz : zOk c) (hml8 : ∀ q, q < zcn c → ∃ mer ter : Nat, mer ≤ 100 ∧ ter ≤ 99 ∧ zK c 0 q = nI mer ∧ zK c 1 q = nI ter ∧ (zK c 3 q ≤ 0 → zK c 3 q = 0)) : vx_Met l yX7_line (gw yX7_line cX7_line 2 (some .int)) ({ frames := 6, cells := 1, slots := 6, locals := 87 } : Room) (gPx [.ref (U 0), .int (v)] (fun H => va_P D vwCl (uw cA U rg c z rz hd ct rs dt mf mn tc tl to kd fi se ta nu lc ln sv er) H) D cA AE adK adV sa) (wrI (fun r H => ∃ q mer ter : Nat, q < zcn c ∧ v = nI q ∧ zK c 0 q = nI mer ∧ zK c 1 q = nI ter ∧ mer ≤ 100 ∧ ter ≤ 99 ∧ r = nI (lnC (zK c) lc q mer ter).2 ∧ va_P D vwCl (uw cA U rg c z rz hd ct rs dt mf mn tc tl to kd fi se ta nu ((lnC (zK c) lc q mer ter).1) ((lnC (zK c) lc q mer ter).2) sv er) H) (aS 189 U)) (gXC (fun E H => (E = xIOB ∧ isIx v (zcn c) = false ∧ va_P D vwCl (uw cA U rg c z rz hd ct rs dt mf mn tc tl to kd fi se ta nu lc ln sv er) H)) (aS 189 U)) 1 6 (aS 189 U) := by
  refine gOfv (by decide) (Nat.le_of_ble_eq_true rfl) ?_
  intro p e s m below meth c9 ls hx hb hml hr hlk hown hts hte hP hK hE hl
  have hl : lv_has ls 2 [(0, .ref (U 0)), (1, .int (v))] := hl
  have hz9 := hz
  obtain ⟨hjn, hcn, hrl, hrw, hck, htn⟩ := hz
  have hD : va_D (aS 189 U) (uw cA U rg c z rz hd ct rs dt mf mn tc tl to kd fi se ta nu lc ln sv er) := uwD hA
  have hS : va_S (aS 189 U) s.heap s.heap [] := va_S.rf
  skip
  refine lv_aload_n hx hb dX7_line_0 rfl (lv_at hl 0 rfl) ?_
  refine g_get (v := .ref (U 1)) hx hb hts hown hK hP 0 rfl rfl gu_wsX70 0 (by decide) gm_1_17 rfl dX7_line_1 ?_
  refine g_get (v := .ref (U 7)) hx hb hts hown hK hP 1 rfl rfl gu_wsX10 1 (by decide) gm_10_7 rfl dX7_line_4 ?_
  refine lv_iload_n hx hb dX7_line_7 rfl (lv_at hl 1 rfl) ?_
  refine rd_calle (va_runV (As := [.int (v)]) (rest := []) ⟨hx, hb, hml, hown, hts⟩ (c_X0_has l D cA (fun k => U (k + 7)) (zK c) (zrw c) (zcn c) (zrl c) (v) hcn) (cwV 1 hts (gWV gm_11_15 gm_11_16 gm_11_17 gm_3_0 gm_11_18) rfl rfl rfl (by decide +kernel) ⟨Nat.le_of_ble_eq_true rfl, Nat.le_of_ble_eq_true rfl⟩) (gPreV hK (g_rf hK hP (ci := 2) (q0 := 7) rfl rfl) (hP.sub [7, 8, 9, 10, 11, 12, 13, 14, 15, 16] rfl)) rfl rfl hl.1 rfl (lv_room (Nat.le_of_ble_eq_true rfl)) dX7_line_8 ⟨by omega, by omega⟩) ?_
  refine g_if_ne (P := isIx (v) (zcn c) = false) (tgt := 24) hx hb dX7_line_11 (by decide) b2i_0 (fun c_1 => ?_) (fun c_1 => ?_)
  · have c_1 : isIx (v) (zcn c) = true := eq_true_of_ne_false c_1
    obtain ⟨j_2, hj_4, ej_3⟩ := isIx_n c_1 (by omega)
    rw [ej_3] at hl
    have hl : lv_has ls 2 [(0, .ref (U 0)), (1, .int (nI (j_2)))] := hl
    obtain ⟨mer, ter, hml9⟩ := hml8 j_2 hj_4
    refine lv_aload_n hx hb dX7_line_24 rfl (lv_at hl 0 rfl) ?_
    refine g_get (v := .ref (U 43)) hx hb hts hown hK hP 0 rfl rfl gu_wsX70 6 (by decide) gm_2_14 rfl dX7_line_25 ?_
    refine lv_aload_n hx hb dX7_line_28 rfl (lv_at hl 0 rfl) ?_
    refine g_get (v := .ref (U 1)) hx hb hts hown hK hP 0 rfl rfl gu_wsX70 0 (by decide) gm_1_17 rfl dX7_line_29 ?_
    refine g_get (v := .ref (U 7)) hx hb hts hown hK hP 1 rfl rfl gu_wsX10 1 (by decide) gm_10_7 rfl dX7_line_32 ?_
    refine lv_iload_n hx hb dX7_line_35 rfl (lv_at hl 1 rfl) ?_
    refine wr_callv (va_runV (As := [.ref (U 7), .int (nI (j_2))]) (rest := []) ⟨hx, hb, hml, hown, hts⟩ (c_X4_writeCase l D cA (fun k => U (uLf k)) lc ln (zK c) (zrw c) (zcn c) (zrl c) (j_2) mer ter (aInj_m hA uLf uLf_lt uLf_in) (by omega) hml9.1 hml9.2.1 hml9.2.2.1 hml9.2.2.2.1 hml9.2.2.2.2) (cwV 2 hts (gWV gm_36_1 gm_36_2 gm_36_3 gm_2_13 gm_36_4) rfl rfl rfl (by decide +kernel) ⟨Nat.le_of_ble_eq_true rfl, Nat.le_of_ble_eq_true rfl⟩) (gPreV hK (g_rf hK hP (ci := 6) (q0 := 43) rfl rfl) (hP.sub [43, 44, 7, 8, 9, 10, 11, 12, 13, 14, 15, 16] rfl)) rfl rfl hl.1 rfl (lv_room (Nat.le_of_ble_eq_true rfl)) dX7_line_36 ⟨by omega, by omega⟩) hS (fun q _ h => aS_m uLf_lt h) (fun q h => aS_m uLf_lt h) (fun H locs hPn hz9 hk9 hS => ?_)
    have hP : va_P D vwCl (uw cA U rg c z rz hd ct rs dt mf mn tc tl to kd fi se ta nu ((lnC (zK c) lc j_2 mer ter).1) ((lnC (zK c) lc j_2 mer ter).2) sv er) H := uw_L hA hP hPn hk9
    have hD : va_D (aS 189 U) (uw cA U rg c z rz hd ct rs dt mf mn tc tl to kd fi se ta nu ((lnC (zK c) lc j_2 mer ter).1) ((lnC (zK c) lc j_2 mer ter).2) sv er) := uwD hA
    refine lv_aload_n hx hb dX7_line_39 rfl (lv_at hl 0 rfl) ?_
    refine g_get (v := .ref (U 43)) hx hb hts hown hK hP 0 rfl rfl gu_wsX70 6 (by decide) gm_2_14 rfl dX7_line_40 ?_
    refine g_get (v := .int (nI ((lnC (zK c) lc j_2 mer ter).2))) hx hb hts hown hK hP 43 rfl rfl gu_wsX40 1 (by decide) gm_36_0 rfl dX7_line_43 ?_
    exact vx_ret (W.widen (k := 1) (n := 6) (by decide) (by decide) (g_iretW (v := nI ((lnC (zK c) lc j_2 mer ter).2)) hx hb hr hlk hS dX7_line_46 (⟨j_2, mer, ter, hj_4, ej_3, hml9.2.2.1, hml9.2.2.2.1, hml9.1, hml9.2.1, rfl, hP⟩)))
  · exact g_throwS hx hb hlt hE hFA hown (by decide +kernel) th_IOB (List.mem_of_getElem? (i := 4) rfl) hS (hl.1.trans hml.symm) dX7_line_14 dX7_line_17 dX7_line_18 dX7_line_20 dX7_line_23 hte (by decide) (by decide) (by decide) (by decide) hlk (fun H1 hz8 hk8 => ⟨rfl, c_1, vP_grow hP hk8⟩) (by decide) (by decide)

set_option maxHeartbeats 1000000 in
set_option maxRecDepth 100000 in
theorem c_X7_rollLine (l : Launch) (D : va_G) (cA : Nat → ClassId) (AE : Nat → Prop) (adK adV sa : Nat → Nat) (U : Nat → Nat) (rg : Nat → Option Nat) (c z : CS) (rz : Nat → CS) (hd ct : Nat) (rs dt : Int32) (mf : Nat → Nat → Int32) (mn : Nat) (tc : Nat → Nat) (tl to : Nat) (kd fi se : Int32) (ta : Nat) (nu : Int32) (lc : Nat → Int32) (ln : Nat) (sv : Bool) (er : Int32) (hA : aInj 189 U) (hFA : ∀ q, aS 189 U q → AE q) (hz : zOk c)  : Met l yX7_rollLine (gw yX7_rollLine cX7_rollLine 1 (some .int)) ({ frames := 3, cells := 0, slots := 0, locals := 64 } : Room) (gPx [.ref (U 0)] (fun H => va_P D vwCl (uw cA U rg c z rz hd ct rs dt mf mn tc tl to kd fi se ta nu lc ln sv er) H) D cA AE adK adV sa) (wrI (fun r H => r = nI (rlC (zrw c) lc (zrl c)).2 ∧ va_P D vwCl (uw cA U rg c z rz hd ct rs dt mf mn tc tl to kd fi se ta nu ((rlC (zrw c) lc (zrl c)).1) ((rlC (zrw c) lc (zrl c)).2) sv er) H) (aS 189 U)) 0 0 (aS 189 U) := by
  refine gOfx (by decide) (Nat.le_of_ble_eq_true rfl) ?_
  intro p e s m below meth c9 ls hx hb hml hr hlk hown hts hnm hP hK hE hl
  have hl : lv_has ls 1 [(0, .ref (U 0))] := hl
  have hz9 := hz
  obtain ⟨hjn, hcn, hrl, hrw, hck, htn⟩ := hz
  have hD : va_D (aS 189 U) (uw cA U rg c z rz hd ct rs dt mf mn tc tl to kd fi se ta nu lc ln sv er) := uwD hA
  have hS : va_S (aS 189 U) s.heap s.heap [] := va_S.rf
  skip
  refine lv_aload_n hx hb dX7_rollLine_0 rfl (lv_at hl 0 rfl) ?_
  refine g_get (v := .ref (U 43)) hx hb hts hown hK hP 0 rfl rfl gu_wsX70 6 (by decide) gm_2_14 rfl dX7_rollLine_1 ?_
  refine lv_aload_n hx hb dX7_rollLine_4 rfl (lv_at hl 0 rfl) ?_
  refine g_get (v := .ref (U 1)) hx hb hts hown hK hP 0 rfl rfl gu_wsX70 0 (by decide) gm_1_17 rfl dX7_rollLine_5 ?_
  refine g_get (v := .ref (U 7)) hx hb hts hown hK hP 1 rfl rfl gu_wsX10 1 (by decide) gm_10_7 rfl dX7_rollLine_8 ?_
  refine wr_callv (va_runV (As := [.ref (U 7)]) (rest := []) ⟨hx, hb, hml, hown, hts⟩ (c_X4_writeRoll l D cA (fun k => U (uLf k)) lc ln (zK c) (zrw c) (zcn c) (zrl c) (aInj_m hA uLf uLf_lt uLf_in) hrl hrw) (cwV 1 hts (gWV gm_37_17 gm_37_18 gm_37_19 gm_2_13 gm_37_20) rfl rfl rfl (by decide +kernel) ⟨Nat.le_of_ble_eq_true rfl, Nat.le_of_ble_eq_true rfl⟩) (gPreV hK (g_rf hK hP (ci := 6) (q0 := 43) rfl rfl) (hP.sub [43, 44, 7, 8, 9, 10, 11, 12, 13, 14, 15, 16] rfl)) rfl rfl hl.1 rfl (lv_room (Nat.le_of_ble_eq_true rfl)) dX7_rollLine_11 ⟨by omega, by omega⟩) hS (fun q _ h => aS_m uLf_lt h) (fun q h => aS_m uLf_lt h) (fun H locs hPn hz9 hk9 hS => ?_)
  have hP : va_P D vwCl (uw cA U rg c z rz hd ct rs dt mf mn tc tl to kd fi se ta nu ((rlC (zrw c) lc (zrl c)).1) ((rlC (zrw c) lc (zrl c)).2) sv er) H := uw_L hA hP hPn hk9
  have hD : va_D (aS 189 U) (uw cA U rg c z rz hd ct rs dt mf mn tc tl to kd fi se ta nu ((rlC (zrw c) lc (zrl c)).1) ((rlC (zrw c) lc (zrl c)).2) sv er) := uwD hA
  refine lv_aload_n hx hb dX7_rollLine_14 rfl (lv_at hl 0 rfl) ?_
  refine g_get (v := .ref (U 43)) hx hb hts hown hK hP 0 rfl rfl gu_wsX70 6 (by decide) gm_2_14 rfl dX7_rollLine_15 ?_
  refine g_get (v := .int (nI ((rlC (zrw c) lc (zrl c)).2))) hx hb hts hown hK hP 43 rfl rfl gu_wsX40 1 (by decide) gm_36_0 rfl dX7_rollLine_18 ?_
  exact g_iretW (v := nI ((rlC (zrw c) lc (zrl c)).2)) hx hb hr hlk hS dX7_rollLine_21 (⟨rfl, hP⟩)

set_option maxHeartbeats 1000000 in
set_option maxRecDepth 100000 in
theorem c_X7_character (l : Launch) (hlt : l.stackTraces = false) (D : va_G) (cA : Nat → ClassId) (AE : Nat → Prop) (adK adV sa : Nat → Nat) (U : Nat → Nat) (rg : Nat → Option Nat) (c z : CS) (rz : Nat → CS) (hd ct : Nat) (rs dt : Int32) (mf : Nat → Nat → Int32) (mn : Nat) (tc : Nat → Nat) (tl to : Nat) (kd fi se : Int32) (ta : Nat) (nu : Int32) (lc : Nat → Int32) (ln : Nat) (sv : Bool) (er : Int32) (v : Int32) (hA : aInj 189 U) (hFA : ∀ q, aS 189 U q → AE q) (hz : zOk c) (hln : ln ≤ 32) (hlc : ∀ k, k < ln → (lc k).toNatClampNeg < 65536 ∧ lc k = nI (lc k).toNatClampNeg) : vx_Met l yX7_character (gw yX7_character cX7_character 2 (some .char)) ({ frames := 6, cells := 1, slots := 6, locals := 82 } : Room) (gPx [.ref (U 0), .int (v)] (fun H => va_P D vwCl (uw cA U rg c z rz hd ct rs dt mf mn tc tl to kd fi se ta nu lc ln sv er) H) D cA AE adK adV sa) (wrI (fun r H => ∃ j : Nat, j < ln ∧ v = nI j ∧ r = nI (lc j).toNatClampNeg ∧ va_P D vwCl (uw cA U rg c z rz hd ct rs dt mf mn tc tl to kd fi se ta nu lc ln sv er) H) (aS 189 U)) (gXC (fun E H => (E = xIOB ∧ isIx v ln = false ∧ va_P D vwCl (uw cA U rg c z rz hd ct rs dt mf mn tc tl to kd fi se ta nu lc ln sv er) H)) (aS 189 U)) 1 6 (aS 189 U) := by
  refine gOfv (by decide) (Nat.le_of_ble_eq_true rfl) ?_
  intro p e s m below meth c9 ls hx hb hml hr hlk hown hts hte hP hK hE hl
  have hl : lv_has ls 2 [(0, .ref (U 0)), (1, .int (v))] := hl
  have hz9 := hz
  obtain ⟨hjn, hcn, hrl, hrw, hck, htn⟩ := hz
  have hD : va_D (aS 189 U) (uw cA U rg c z rz hd ct rs dt mf mn tc tl to kd fi se ta nu lc ln sv er) := uwD hA
  have hS : va_S (aS 189 U) s.heap s.heap [] := va_S.rf
  skip
  refine lv_iload_n hx hb dX7_character_0 rfl (lv_at hl 1 rfl) ?_
  refine g_if_lt (P := v < 0) (tgt := 15) hx hb dX7_character_1 (by decide) Iff.rfl (fun c_1 => ?_) (fun c_1 => ?_)
  · have d_1 : ¬ 0 ≤ v := Int32.not_le.mpr c_1
    exact g_throwSW hx hb hlt hE hFA hown (by decide +kernel) th_IOB (List.mem_of_getElem? (i := 21) rfl) hS (hl.1.trans hml.symm) dX7_character_15 dX7_character_18 dX7_character_19 dX7_character_22 dX7_character_25 hte (by decide) (by decide) (by decide) (by decide) hlk (fun H1 hz8 hk8 => ⟨rfl, (by rw [isIx_code v (by omega)]; simp [c_1, d_1]), vP_grow hP hk8⟩) (by decide) (by decide)
  · have d_1 : 0 ≤ v := Int32.not_lt.mp c_1
    refine lv_iload_n hx hb dX7_character_4 rfl (lv_at hl 1 rfl) ?_
    refine lv_aload_n hx hb dX7_character_5 rfl (lv_at hl 0 rfl) ?_
    refine g_get (v := .ref (U 43)) hx hb hts hown hK hP 0 rfl rfl gu_wsX70 6 (by decide) gm_2_14 rfl dX7_character_6 ?_
    refine g_get (v := .int (nI (ln))) hx hb hts hown hK hP 43 rfl rfl gu_wsX40 1 (by decide) gm_36_0 rfl dX7_character_9 ?_
    refine g_icmp_lt (P := v < nI (ln)) (tgt := 26) hx hb dX7_character_12 (by decide) Iff.rfl (fun c_2 => ?_) (fun c_2 => ?_)
    · have d_2 : ¬ nI (ln) ≤ v := Int32.not_le.mpr c_2
      have hix : isIx v ln = true := by rw [isIx_code v (by omega)]; simp [c_1, d_1, c_2, d_2]
      obtain ⟨j_3, hj_5, ej_4⟩ := isIx_n hix (by omega)
      rw [ej_4] at hl
      have hl : lv_has ls 2 [(0, .ref (U 0)), (1, .int (nI (j_3)))] := hl
      have hlc7 := hlc j_3 hj_5
      refine lv_aload_n hx hb dX7_character_26 rfl (lv_at hl 0 rfl) ?_
      refine g_get (v := .ref (U 43)) hx hb hts hown hK hP 0 rfl rfl gu_wsX70 6 (by decide) gm_2_14 rfl dX7_character_27 ?_
      refine g_get (v := .ref (U 44)) hx hb hts hown hK hP 43 rfl rfl gu_wsX40 0 (by decide) gm_38_10 rfl dX7_character_30 ?_
      refine lv_iload_n hx hb dX7_character_33 rfl (lv_at hl 1 rfl) ?_
      refine g_cald (x := nI ((lc j_3).toNatClampNeg)) hx hb hK hP 44 rfl (by omega) (by decide) hlc7.2 dX7_character_34 ?_
      exact vx_ret (W.widen (k := 1) (n := 6) (by decide) (by decide) (g_cretW (v := nI ((lc j_3).toNatClampNeg)) hx hb hr hlk (pk_charN (by omega)).1 hS dX7_character_35 (⟨j_3, hj_5, ej_4, rfl, hP⟩)))
    · have d_2 : nI (ln) ≤ v := Int32.not_lt.mp c_2
      exact g_throwSW hx hb hlt hE hFA hown (by decide +kernel) th_IOB (List.mem_of_getElem? (i := 21) rfl) hS (hl.1.trans hml.symm) dX7_character_15 dX7_character_18 dX7_character_19 dX7_character_22 dX7_character_25 hte (by decide) (by decide) (by decide) (by decide) hlk (fun H1 hz8 hk8 => ⟨rfl, (by rw [isIx_code v (by omega)]; simp [c_1, d_1, c_2, d_2]), vP_grow hP hk8⟩) (by decide) (by decide)

set_option maxHeartbeats 1000000 in
set_option maxRecDepth 100000 in
theorem c_X7_append (l : Launch) (hlt : l.stackTraces = false) (D : va_G) (cA : Nat → ClassId) (AE : Nat → Prop) (adK adV sa : Nat → Nat) (U : Nat → Nat) (rg : Nat → Option Nat) (c z : CS) (rz : Nat → CS) (hd ct : Nat) (rs dt : Int32) (mf : Nat → Nat → Int32) (mn : Nat) (tc : Nat → Nat) (tl to : Nat) (kd fi se : Int32) (ta : Nat) (nu : Int32) (lc : Nat → Int32) (ln : Nat) (sv : Bool) (er : Int32) (w : Nat) (hA : aInj 189 U) (hFA : ∀ q, aS 189 U q → AE q) (hz : zOk c) (htl6 : tl ≤ 60) (hw6 : w < 65536) : vx_Met l yX7_append (gw yX7_append cX7_append 2 (some .int)) ({ frames := 6, cells := 1, slots := 6, locals := 82 } : Room) (gPx [.ref (U 0), .int (nI (w))] (fun H => va_P D vwCl (uw cA U rg c z rz hd ct rs dt mf mn tc tl to kd fi se ta nu lc ln sv er) H) D cA AE adK adV sa) (wrI (fun r H => tl < 60 ∧ r = nI (tl + 1) ∧ va_P D vwCl (uw cA U rg c z rz hd ct rs dt mf mn (updN tc tl w) (tl + 1) to kd fi se ta nu lc ln sv er) H) (aS 189 U)) (gXC (fun E H => (E = xISE ∧ 60 ≤ tl ∧ va_P D vwCl (uw cA U rg c z rz hd ct rs dt mf mn tc tl to kd fi se ta nu lc ln sv er) H)) (aS 189 U)) 1 6 (aS 189 U) := by
  refine gOfv (by decide) (Nat.le_of_ble_eq_true rfl) ?_
  intro p e s m below meth c9 ls hx hb hml hr hlk hown hts hte hP hK hE hl
  have hl : lv_has ls 2 [(0, .ref (U 0)), (1, .int (nI (w)))] := hl
  have hz9 := hz
  obtain ⟨hjn, hcn, hrl, hrw, hck, htn⟩ := hz
  have hD : va_D (aS 189 U) (uw cA U rg c z rz hd ct rs dt mf mn tc tl to kd fi se ta nu lc ln sv er) := uwD hA
  have hS : va_S (aS 189 U) s.heap s.heap [] := va_S.rf
  skip
  refine lv_aload_n hx hb dX7_append_0 rfl (lv_at hl 0 rfl) ?_
  refine g_get (v := .ref (U 41)) hx hb hts hown hK hP 0 rfl rfl gu_wsX70 5 (by decide) gm_2_10 rfl dX7_append_1 ?_
  refine g_get (v := .int (nI (tl))) hx hb hts hown hK hP 41 rfl rfl gu_wsX60 1 (by decide) gm_39_1 rfl dX7_append_4 ?_
  refine lv_bipush (v := nI (60)) hx hb dX7_append_7 gb_60 ?_
  refine g_icmp_lt (P := tl < 60) (tgt := 23) hx hb dX7_append_9 (by decide) (nI_ltI (by omega) (by omega)) (fun c_1 => ?_) (fun c_1 => ?_)
  · have d_1 : ¬ 60 ≤ tl := Nat.not_le.mpr c_1
    refine lv_aload_n hx hb dX7_append_23 rfl (lv_at hl 0 rfl) ?_
    refine g_get (v := .ref (U 41)) hx hb hts hown hK hP 0 rfl rfl gu_wsX70 5 (by decide) gm_2_10 rfl dX7_append_24 ?_
    refine lv_iload_n hx hb dX7_append_27 rfl (lv_at hl 1 rfl) ?_
    refine wr_calli (va_runV (As := [.int (nI (w))]) (rest := []) ⟨hx, hb, hml, hown, hts⟩ (c_X6_add l D cA (fun k => U (k + 41)) tc tl to kd fi se ta nu (w) (aInj_s hA 41 (by decide)) (by omega) (by omega)) (cwV 1 hts (gWV gm_39_2 gm_39_3 gm_39_4 gm_2_9 gm_39_5) rfl rfl rfl (by decide +kernel) ⟨Nat.le_of_ble_eq_true rfl, Nat.le_of_ble_eq_true rfl⟩) (gPreV hK (g_rf hK hP (ci := 8) (q0 := 41) rfl rfl) (hP.sub [41, 42] rfl)) rfl rfl hl.1 rfl (lv_room (Nat.le_of_ble_eq_true rfl)) dX7_append_28 ⟨by omega, by omega⟩) hS (fun q _ h => aS_up (m := 2) (a := 41) (by decide) h) (fun q h => aS_up (m := 2) (a := 41) (by decide) h) (fun r H locs hw9 hz9 hk9 hS => ?_)
    obtain ⟨rfl, hPn⟩ := hw9
    have hP : va_P D vwCl (uw cA U rg c z rz hd ct rs dt mf mn (updN tc tl w) (tl + 1) to kd fi se ta nu lc ln sv er) H := uw_T hA hP hPn hk9
    have hD : va_D (aS 189 U) (uw cA U rg c z rz hd ct rs dt mf mn (updN tc tl w) (tl + 1) to kd fi se ta nu lc ln sv er) := uwD hA
    exact vx_ret (W.widen (k := 1) (n := 6) (by decide) (by decide) (g_iretW (v := nI (tl + 1)) hx hb hr hlk hS dX7_append_31 (⟨by omega, rfl, hP⟩)))
  · have d_1 : 60 ≤ tl := Nat.not_lt.mp c_1
    exact g_throwSW hx hb hlt hE hFA hown (by decide +kernel) th_ISE (List.mem_of_getElem? (i := 22) rfl) hS (hl.1.trans hml.symm) dX7_append_12 dX7_append_15 dX7_append_16 dX7_append_19 dX7_append_22 hte (by decide) (by decide) (by decide) (by decide) hlk (fun H1 hz8 hk8 => ⟨rfl, (by omega), vP_grow hP hk8⟩) (by decide) (by decide)

set_option maxHeartbeats 1000000 in
set_option maxRecDepth 100000 in
theorem c_X7_errorPosition (l : Launch) (D : va_G) (cA : Nat → ClassId) (AE : Nat → Prop) (adK adV sa : Nat → Nat) (U : Nat → Nat) (rg : Nat → Option Nat) (c z : CS) (rz : Nat → CS) (hd ct : Nat) (rs dt : Int32) (mf : Nat → Nat → Int32) (mn : Nat) (tc : Nat → Nat) (tl to : Nat) (kd fi se : Int32) (ta : Nat) (nu : Int32) (lc : Nat → Int32) (ln : Nat) (sv : Bool) (er : Int32) (hA : aInj 189 U) (hFA : ∀ q, aS 189 U q → AE q) (hz : zOk c)  : Met l yX7_errorPosition (gw yX7_errorPosition cX7_errorPosition 1 (some .int)) ({ frames := 0, cells := 0, slots := 0, locals := 0 } : Room) (gPx [.ref (U 0)] (fun H => va_P D vwCl (uw cA U rg c z rz hd ct rs dt mf mn tc tl to kd fi se ta nu lc ln sv er) H) D cA AE adK adV sa) (wrI (fun r H => r = er ∧ va_P D vwCl (uw cA U rg c z rz hd ct rs dt mf mn tc tl to kd fi se ta nu lc ln sv er) H) (aS 189 U)) 0 0 (aS 189 U) := by
  refine gOfx (by decide) (Nat.le_of_ble_eq_true rfl) ?_
  intro p e s m below meth c9 ls hx hb hml hr hlk hown hts hnm hP hK hE hl
  have hl : lv_has ls 1 [(0, .ref (U 0))] := hl
  have hz9 := hz
  obtain ⟨hjn, hcn, hrl, hrw, hck, htn⟩ := hz
  have hD : va_D (aS 189 U) (uw cA U rg c z rz hd ct rs dt mf mn tc tl to kd fi se ta nu lc ln sv er) := uwD hA
  have hS : va_S (aS 189 U) s.heap s.heap [] := va_S.rf
  skip
  refine lv_aload_n hx hb dX7_errorPosition_0 rfl (lv_at hl 0 rfl) ?_
  refine g_get (v := .int (er)) hx hb hts hown hK hP 0 rfl rfl gu_wsX70 8 (by decide) gm_2_16 rfl dX7_errorPosition_1 ?_
  exact g_iretW (v := er) hx hb hr hlk hS dX7_errorPosition_4 (⟨rfl, hP⟩)

set_option maxHeartbeats 1000000 in
set_option maxRecDepth 100000 in
theorem c_X7_rolled (l : Launch) (D : va_G) (cA : Nat → ClassId) (AE : Nat → Prop) (adK adV sa : Nat → Nat) (U : Nat → Nat) (rg : Nat → Option Nat) (c z : CS) (rz : Nat → CS) (hd ct : Nat) (rs dt : Int32) (mf : Nat → Nat → Int32) (mn : Nat) (tc : Nat → Nat) (tl to : Nat) (kd fi se : Int32) (ta : Nat) (nu : Int32) (lc : Nat → Int32) (ln : Nat) (sv : Bool) (er : Int32) (hA : aInj 189 U) (hFA : ∀ q, aS 189 U q → AE q) (hz : zOk c)  : Met l yX7_rolled (gw yX7_rolled cX7_rolled 1 (some .int)) ({ frames := 0, cells := 0, slots := 0, locals := 0 } : Room) (gPx [.ref (U 0)] (fun H => va_P D vwCl (uw cA U rg c z rz hd ct rs dt mf mn tc tl to kd fi se ta nu lc ln sv er) H) D cA AE adK adV sa) (wrI (fun r H => r = nI (zrl c) ∧ va_P D vwCl (uw cA U rg c z rz hd ct rs dt mf mn tc tl to kd fi se ta nu lc ln sv er) H) (aS 189 U)) 0 0 (aS 189 U) := by
  refine gOfx (by decide) (Nat.le_of_ble_eq_true rfl) ?_
  intro p e s m below meth c9 ls hx hb hml hr hlk hown hts hnm hP hK hE hl
  have hl : lv_has ls 1 [(0, .ref (U 0))] := hl
  have hz9 := hz
  obtain ⟨hjn, hcn, hrl, hrw, hck, htn⟩ := hz
  have hD : va_D (aS 189 U) (uw cA U rg c z rz hd ct rs dt mf mn tc tl to kd fi se ta nu lc ln sv er) := uwD hA
  have hS : va_S (aS 189 U) s.heap s.heap [] := va_S.rf
  skip
  refine lv_aload_n hx hb dX7_rolled_0 rfl (lv_at hl 0 rfl) ?_
  refine g_get (v := .ref (U 1)) hx hb hts hown hK hP 0 rfl rfl gu_wsX70 0 (by decide) gm_1_17 rfl dX7_rolled_1 ?_
  refine g_get (v := .ref (U 7)) hx hb hts hown hK hP 1 rfl rfl gu_wsX10 1 (by decide) gm_10_7 rfl dX7_rolled_4 ?_
  refine g_get (v := .int (nI (zrl c))) hx hb hts hown hK hP 7 rfl rfl gu_wsX00 10 (by decide) gm_31_23 rfl dX7_rolled_7 ?_
  exact g_iretW (v := nI (zrl c)) hx hb hr hlk hS dX7_rolled_10 (⟨rfl, hP⟩)

set_option maxHeartbeats 1000000 in
set_option maxRecDepth 100000 in
theorem c_X7_overdue (l : Launch) (D : va_G) (cA : Nat → ClassId) (AE : Nat → Prop) (adK adV sa : Nat → Nat) (U : Nat → Nat) (rg : Nat → Option Nat) (c z : CS) (rz : Nat → CS) (hd ct : Nat) (rs dt : Int32) (mf : Nat → Nat → Int32) (mn : Nat) (tc : Nat → Nat) (tl to : Nat) (kd fi se : Int32) (ta : Nat) (nu : Int32) (lc : Nat → Int32) (ln : Nat) (sv : Bool) (er : Int32) (hA : aInj 189 U) (hFA : ∀ q, aS 189 U q → AE q) (hz : zOk c)  : Met l yX7_overdue (gw yX7_overdue cX7_overdue 1 (some .int)) ({ frames := 1, cells := 0, slots := 0, locals := 23 } : Room) (gPx [.ref (U 0)] (fun H => va_P D vwCl (uw cA U rg c z rz hd ct rs dt mf mn tc tl to kd fi se ta nu lc ln sv er) H) D cA AE adK adV sa) (wrI (fun r H => r = nI (fb_ct (fun k => decide (zK c 1 (zrw c k) < nI (ztn c))) (zrl c)) ∧ va_P D vwCl (uw cA U rg c z rz hd ct rs dt mf mn tc tl to kd fi se ta nu lc ln sv er) H) (aS 189 U)) 0 0 (aS 189 U) := by
  refine gOfx (by decide) (Nat.le_of_ble_eq_true rfl) ?_
  intro p e s m below meth c9 ls hx hb hml hr hlk hown hts hnm hP hK hE hl
  have hl : lv_has ls 1 [(0, .ref (U 0))] := hl
  have hz9 := hz
  obtain ⟨hjn, hcn, hrl, hrw, hck, htn⟩ := hz
  have hD : va_D (aS 189 U) (uw cA U rg c z rz hd ct rs dt mf mn tc tl to kd fi se ta nu lc ln sv er) := uwD hA
  have hS : va_S (aS 189 U) s.heap s.heap [] := va_S.rf
  skip
  refine lv_aload_n hx hb dX7_overdue_0 rfl (lv_at hl 0 rfl) ?_
  refine g_get (v := .ref (U 1)) hx hb hts hown hK hP 0 rfl rfl gu_wsX70 0 (by decide) gm_1_17 rfl dX7_overdue_1 ?_
  refine g_get (v := .ref (U 7)) hx hb hts hown hK hP 1 rfl rfl gu_wsX10 1 (by decide) gm_10_7 rfl dX7_overdue_4 ?_
  refine lv_aload_n hx hb dX7_overdue_7 rfl (lv_at hl 0 rfl) ?_
  refine g_get (v := .ref (U 1)) hx hb hts hown hK hP 0 rfl rfl gu_wsX70 0 (by decide) gm_1_17 rfl dX7_overdue_8 ?_
  refine g_get (v := .int (nI (ztn c))) hx hb hts hown hK hP 1 rfl rfl gu_wsX10 3 (by decide) gm_33_0 rfl dX7_overdue_11 ?_
  refine rd_calle (va_runV (As := [.int (nI (ztn c))]) (rest := []) ⟨hx, hb, hml, hown, hts⟩ (c_X0_rolledBefore l D cA (fun k => U (k + 7)) (zK c) (zrw c) (zcn c) (zrl c) (nI (ztn c)) hrl hrw) (cwV 1 hts (gWV gm_33_1 gm_33_2 gm_33_3 gm_3_0 gm_33_4) rfl rfl rfl (by decide +kernel) ⟨Nat.le_of_ble_eq_true rfl, Nat.le_of_ble_eq_true rfl⟩) (gPreV hK (g_rf hK hP (ci := 2) (q0 := 7) rfl rfl) (hP.sub [7, 8, 9, 10, 11, 12, 13, 14, 15, 16] rfl)) rfl rfl hl.1 rfl (lv_room (Nat.le_of_ble_eq_true rfl)) dX7_overdue_14 ⟨by omega, by omega⟩) ?_
  exact g_iretW (v := nI (fb_ct (fun k => decide ((zK c) 1 ((zrw c) k) < (nI (ztn c)))) (zrl c))) hx hb hr hlk hS dX7_overdue_17 (⟨rfl, hP⟩)

set_option maxHeartbeats 1000000 in
set_option maxRecDepth 100000 in
theorem c_X7_refusal (l : Launch) (hlt : l.stackTraces = false) (D : va_G) (cA : Nat → ClassId) (AE : Nat → Prop) (adK adV sa : Nat → Nat) (U : Nat → Nat) (rg : Nat → Option Nat) (c z : CS) (rz : Nat → CS) (hd ct : Nat) (rs dt : Int32) (mf : Nat → Nat → Int32) (mn : Nat) (tc : Nat → Nat) (tl to : Nat) (kd fi se : Int32) (ta : Nat) (nu : Int32) (lc : Nat → Int32) (ln : Nat) (sv : Bool) (er : Int32) (b : Bool) (hA : aInj 189 U) (hFA : ∀ q, aS 189 U q → AE q) (hz : zOk c)  : vx_Met l yX7_refusal (gw yX7_refusal cX7_refusal 2 (some .int)) ({ frames := 6, cells := 1, slots := 6, locals := 82 } : Room) (gPx [.ref (U 0), .int (b2i (b))] (fun H => va_P D vwCl (uw cA U rg c z rz hd ct rs dt mf mn tc tl to kd fi se ta nu lc ln sv er) H) D cA AE adK adV sa) (wrI (fun r H => ¬ rs = 0 ∧ r = (if b = true then dt else rs) ∧ va_P D vwCl (uw cA U rg c z rz hd ct rs dt mf mn tc tl to kd fi se ta nu lc ln sv er) H) (aS 189 U)) (gXC (fun E H => (E = xNSE ∧ rs = 0 ∧ va_P D vwCl (uw cA U rg c z rz hd ct rs dt mf mn tc tl to kd fi se ta nu lc ln sv er) H)) (aS 189 U)) 1 6 (aS 189 U) := by
  refine gOfv (by decide) (Nat.le_of_ble_eq_true rfl) ?_
  intro p e s m below meth c9 ls hx hb hml hr hlk hown hts hte hP hK hE hl
  have hl : lv_has ls 2 [(0, .ref (U 0)), (1, .int (b2i (b)))] := hl
  have hz9 := hz
  obtain ⟨hjn, hcn, hrl, hrw, hck, htn⟩ := hz
  have hD : va_D (aS 189 U) (uw cA U rg c z rz hd ct rs dt mf mn tc tl to kd fi se ta nu lc ln sv er) := uwD hA
  have hS : va_S (aS 189 U) s.heap s.heap [] := va_S.rf
  skip
  refine lv_aload_n hx hb dX7_refusal_0 rfl (lv_at hl 0 rfl) ?_
  refine g_get (v := .ref (U 35)) hx hb hts hown hK hP 0 rfl rfl gu_wsX70 3 (by decide) gm_2_2 rfl dX7_refusal_1 ?_
  refine g_get (v := .int (rs)) hx hb hts hown hK hP 35 rfl rfl gu_wsX50 0 (by decide) gm_48_8 rfl dX7_refusal_4 ?_
  refine g_if_ne (P := rs = 0) (tgt := 21) hx hb dX7_refusal_7 (by decide) Iff.rfl (fun c_1 => ?_) (fun c_1 => ?_)
  · refine lv_iload_n hx hb dX7_refusal_21 rfl (lv_at hl 1 rfl) ?_
    refine g_if_eq (P := b = false) (tgt := 35) hx hb dX7_refusal_22 (by decide) b2i_0 (fun c_2 => ?_) (fun c_2 => ?_)
    · refine lv_aload_n hx hb dX7_refusal_35 rfl (lv_at hl 0 rfl) ?_
      refine g_get (v := .ref (U 35)) hx hb hts hown hK hP 0 rfl rfl gu_wsX70 3 (by decide) gm_2_2 rfl dX7_refusal_36 ?_
      refine g_get (v := .int (rs)) hx hb hts hown hK hP 35 rfl rfl gu_wsX50 0 (by decide) gm_48_8 rfl dX7_refusal_39 ?_
      exact vx_ret (W.widen (k := 1) (n := 6) (by decide) (by decide) (g_iretW (v := rs) hx hb hr hlk hS dX7_refusal_42 (⟨c_1, (by rw [c_2]; rfl), hP⟩)))
    · have c_2 : b = true := eq_true_of_ne_false c_2
      refine lv_aload_n hx hb dX7_refusal_25 rfl (lv_at hl 0 rfl) ?_
      refine g_get (v := .ref (U 35)) hx hb hts hown hK hP 0 rfl rfl gu_wsX70 3 (by decide) gm_2_2 rfl dX7_refusal_26 ?_
      refine g_get (v := .int (dt)) hx hb hts hown hK hP 35 rfl rfl gu_wsX50 1 (by decide) gm_48_9 rfl dX7_refusal_29 ?_
      refine lv_goto (tgt := 42) hx hb dX7_refusal_32 (by decide) ?_
      exact vx_ret (W.widen (k := 1) (n := 6) (by decide) (by decide) (g_iretW (v := dt) hx hb hr hlk hS dX7_refusal_42 (⟨c_1, (by rw [c_2]; rfl), hP⟩)))
  · exact g_thrNSW hx hb hlt hE hFA hown (by decide +kernel) th_NSE (List.mem_of_getElem? (i := 25) rfl) hS (hl.1.trans hml.symm) dX7_refusal_10 dX7_refusal_13 dX7_refusal_14 dX7_refusal_17 dX7_refusal_20 hte (by decide) (by decide) (by decide) (by decide) hlk (fun H1 hz8 hk8 => ⟨rfl, c_1, vP_grow hP hk8⟩) (by decide) (by decide)

set_option maxHeartbeats 1000000 in
set_option maxRecDepth 100000 in
theorem c_X7_account (l : Launch) (hlt : l.stackTraces = false) (D : va_G) (cA : Nat → ClassId) (AE : Nat → Prop) (adK adV sa : Nat → Nat) (U : Nat → Nat) (rg : Nat → Option Nat) (c z : CS) (rz : Nat → CS) (hd ct : Nat) (rs dt : Int32) (mf : Nat → Nat → Int32) (mn : Nat) (tc : Nat → Nat) (tl to : Nat) (kd fi se : Int32) (ta : Nat) (nu : Int32) (lc : Nat → Int32) (ln : Nat) (sv : Bool) (er : Int32) (t : Int32) (hA : aInj 189 U) (hFA : ∀ q, aS 189 U q → AE q) (hz : zOk c) (htl6 : tl ≤ 60) (hc8 : ct ≤ 8) : vx_Met l yX7_account (gw yX7_account cX7_account 2 (some .int)) ({ frames := 6, cells := 1, slots := 6, locals := 82 } : Room) (gPx [.ref (U 0), .int (t)] (fun H => va_P D vwCl (uw cA U rg c z rz hd ct rs dt mf mn tc tl to kd fi se ta nu lc ln sv er) H) D cA AE adK adV sa) (wrI (fun r H => ∃ k : Nat, k ≤ 11 ∧ t = nI k ∧ r = acF c tl ct k ∧ va_P D vwCl (uw cA U rg c z rz hd ct rs dt mf mn tc tl to kd fi se ta nu lc ln sv er) H) (aS 189 U)) (gXC (fun E H => (E = xIAE ∧ inB t (nI 0) (nI 11) = false ∧ va_P D vwCl (uw cA U rg c z rz hd ct rs dt mf mn tc tl to kd fi se ta nu lc ln sv er) H)) (aS 189 U)) 1 6 (aS 189 U) := by
  refine gOfv (by decide) (Nat.le_of_ble_eq_true rfl) ?_
  intro p e s m below meth c9 ls hx hb hml hr hlk hown hts hte hP hK hE hl
  have hl : lv_has ls 2 [(0, .ref (U 0)), (1, .int (t))] := hl
  have hz9 := hz
  obtain ⟨hjn, hcn, hrl, hrw, hck, htn⟩ := hz
  have hD : va_D (aS 189 U) (uw cA U rg c z rz hd ct rs dt mf mn tc tl to kd fi se ta nu lc ln sv er) := uwD hA
  have hS : va_S (aS 189 U) s.heap s.heap [] := va_S.rf
  skip
  by_cases csw_1 : inB (t) (nI 0) (nI 11) = true
  · obtain ⟨k_2, hk_3, ek_4⟩ := inB_n csw_1 (by decide)
    rw [ek_4] at hl
    have hl : lv_has ls 2 [(0, .ref (U 0)), (1, .int (nI (k_2)))] := hl
    refine lv_iload_n hx hb dX7_account_0 rfl (lv_at hl 1 rfl) ?_
    have hsw_5 : k_2 = 0 ∨ k_2 = 1 ∨ k_2 = 2 ∨ k_2 = 3 ∨ k_2 = 4 ∨ k_2 = 5 ∨ k_2 = 6 ∨ k_2 = 7 ∨ k_2 = 8 ∨ k_2 = 9 ∨ k_2 = 10 ∨ k_2 = 11 := by omega
    rcases hsw_5 with rfl | rfl | rfl | rfl | rfl | rfl | rfl | rfl | rfl | rfl | rfl | rfl
    · refine lv_tableIn (off := 63) (tgt := 64) hx hb dX7_account_1 (by decide +kernel) (by decide +kernel) (by decide +kernel) (by decide) ?_
      refine lv_aload_n hx hb dX7_account_64 rfl (lv_at hl 0 rfl) ?_
      refine g_get (v := .ref (U 1)) hx hb hts hown hK hP 0 rfl rfl gu_wsX70 0 (by decide) gm_1_17 rfl dX7_account_65 ?_
      refine g_get (v := .ref (U 2)) hx hb hts hown hK hP 1 rfl rfl gu_wsX10 0 (by decide) gm_6_13 rfl dX7_account_68 ?_
      refine g_get (v := .int (nI (zjn c))) hx hb hts hown hK hP 2 rfl rfl gu_wsX30 4 (by decide) gm_48_21 rfl dX7_account_71 ?_
      exact vx_ret (W.widen (k := 1) (n := 6) (by decide) (by decide) (g_iretW (v := nI (zjn c)) hx hb hr hlk hS dX7_account_74 (⟨0, by decide, ek_4, rfl, hP⟩)))
    · refine lv_tableIn (off := 74) (tgt := 75) hx hb dX7_account_1 (by decide +kernel) (by decide +kernel) (by decide +kernel) (by decide) ?_
      refine lv_aload_n hx hb dX7_account_75 rfl (lv_at hl 0 rfl) ?_
      refine g_get (v := .ref (U 1)) hx hb hts hown hK hP 0 rfl rfl gu_wsX70 0 (by decide) gm_1_17 rfl dX7_account_76 ?_
      refine g_get (v := .ref (U 7)) hx hb hts hown hK hP 1 rfl rfl gu_wsX10 1 (by decide) gm_10_7 rfl dX7_account_79 ?_
      refine g_get (v := .int (nI (zcn c))) hx hb hts hown hK hP 7 rfl rfl gu_wsX00 9 (by decide) gm_48_22 rfl dX7_account_82 ?_
      exact vx_ret (W.widen (k := 1) (n := 6) (by decide) (by decide) (g_iretW (v := nI (zcn c)) hx hb hr hlk hS dX7_account_85 (⟨1, by decide, ek_4, rfl, hP⟩)))
    · refine lv_tableIn (off := 85) (tgt := 86) hx hb dX7_account_1 (by decide +kernel) (by decide +kernel) (by decide +kernel) (by decide) ?_
      refine lv_aload_n hx hb dX7_account_86 rfl (lv_at hl 0 rfl) ?_
      refine g_get (v := .ref (U 1)) hx hb hts hown hK hP 0 rfl rfl gu_wsX70 0 (by decide) gm_1_17 rfl dX7_account_87 ?_
      refine g_get (v := .int (nI (zck c))) hx hb hts hown hK hP 1 rfl rfl gu_wsX10 2 (by decide) gm_48_23 rfl dX7_account_90 ?_
      exact vx_ret (W.widen (k := 1) (n := 6) (by decide) (by decide) (g_iretW (v := nI (zck c)) hx hb hr hlk hS dX7_account_93 (⟨2, by decide, ek_4, rfl, hP⟩)))
    · refine lv_tableIn (off := 93) (tgt := 94) hx hb dX7_account_1 (by decide +kernel) (by decide +kernel) (by decide +kernel) (by decide) ?_
      refine lv_aload_n hx hb dX7_account_94 rfl (lv_at hl 0 rfl) ?_
      refine g_get (v := .ref (U 1)) hx hb hts hown hK hP 0 rfl rfl gu_wsX70 0 (by decide) gm_1_17 rfl dX7_account_95 ?_
      refine g_get (v := .int (nI (ztn c))) hx hb hts hown hK hP 1 rfl rfl gu_wsX10 3 (by decide) gm_33_0 rfl dX7_account_98 ?_
      exact vx_ret (W.widen (k := 1) (n := 6) (by decide) (by decide) (g_iretW (v := nI (ztn c)) hx hb hr hlk hS dX7_account_101 (⟨3, by decide, ek_4, rfl, hP⟩)))
    · refine lv_tableIn (off := 101) (tgt := 102) hx hb dX7_account_1 (by decide +kernel) (by decide +kernel) (by decide +kernel) (by decide) ?_
      refine lv_aload_n hx hb dX7_account_102 rfl (lv_at hl 0 rfl) ?_
      refine g_get (v := .ref (U 1)) hx hb hts hown hK hP 0 rfl rfl gu_wsX70 0 (by decide) gm_1_17 rfl dX7_account_103 ?_
      refine g_get (v := .ref (U 7)) hx hb hts hown hK hP 1 rfl rfl gu_wsX10 1 (by decide) gm_10_7 rfl dX7_account_106 ?_
      refine rd_calle (va_runV (As := []) (rest := []) ⟨hx, hb, hml, hown, hts⟩ (c_X0_withoutPanel l D cA (fun k => U (k + 7)) (zK c) (zrw c) (zcn c) (zrl c) hcn) (cwV 0 hts (gWV gm_49_2 gm_49_3 gm_49_4 gm_3_0 gm_49_5) rfl rfl rfl (by decide +kernel) ⟨Nat.le_of_ble_eq_true rfl, Nat.le_of_ble_eq_true rfl⟩) (gPreV hK (g_rf hK hP (ci := 2) (q0 := 7) rfl rfl) (hP.sub [7, 8, 9, 10, 11, 12, 13, 14, 15, 16] rfl)) rfl rfl hl.1 rfl (lv_room (Nat.le_of_ble_eq_true rfl)) dX7_account_109 ⟨by omega, by omega⟩) ?_
      exact vx_ret (W.widen (k := 1) (n := 6) (by decide) (by decide) (g_iretW (v := nI (fb_ct (fun c9 => !hpF (zK c) c9) (zcn c))) hx hb hr hlk hS dX7_account_112 (⟨4, by decide, ek_4, rfl, hP⟩)))
    · refine lv_tableIn (off := 112) (tgt := 113) hx hb dX7_account_1 (by decide +kernel) (by decide +kernel) (by decide +kernel) (by decide) ?_
      refine lv_aload_n hx hb dX7_account_113 rfl (lv_at hl 0 rfl) ?_
      refine g_get (v := .ref (U 1)) hx hb hts hown hK hP 0 rfl rfl gu_wsX70 0 (by decide) gm_1_17 rfl dX7_account_114 ?_
      refine g_get (v := .ref (U 7)) hx hb hts hown hK hP 1 rfl rfl gu_wsX10 1 (by decide) gm_10_7 rfl dX7_account_117 ?_
      refine rd_calle (va_runV (As := []) (rest := []) ⟨hx, hb, hml, hown, hts⟩ (c_X0_closed l D cA (fun k => U (k + 7)) (zK c) (zrw c) (zcn c) (zrl c) hcn) (cwV 0 hts (gWV gm_49_6 gm_49_7 gm_49_8 gm_3_0 gm_49_9) rfl rfl rfl (by decide +kernel) ⟨Nat.le_of_ble_eq_true rfl, Nat.le_of_ble_eq_true rfl⟩) (gPreV hK (g_rf hK hP (ci := 2) (q0 := 7) rfl rfl) (hP.sub [7, 8, 9, 10, 11, 12, 13, 14, 15, 16] rfl)) rfl rfl hl.1 rfl (lv_room (Nat.le_of_ble_eq_true rfl)) dX7_account_120 ⟨by omega, by omega⟩) ?_
      exact vx_ret (W.widen (k := 1) (n := 6) (by decide) (by decide) (g_iretW (v := nI (fb_ct (fun c9 => clF (zK c) c9) (zcn c))) hx hb hr hlk hS dX7_account_123 (⟨5, by decide, ek_4, rfl, hP⟩)))
    · refine lv_tableIn (off := 123) (tgt := 124) hx hb dX7_account_1 (by decide +kernel) (by decide +kernel) (by decide +kernel) (by decide) ?_
      refine lv_aload_n hx hb dX7_account_124 rfl (lv_at hl 0 rfl) ?_
      refine g_get (v := .ref (U 1)) hx hb hts hown hK hP 0 rfl rfl gu_wsX70 0 (by decide) gm_1_17 rfl dX7_account_125 ?_
      refine g_get (v := .int (zsd c)) hx hb hts hown hK hP 1 rfl rfl gu_wsX10 4 (by decide) gm_49_0 rfl dX7_account_128 ?_
      exact vx_ret (W.widen (k := 1) (n := 6) (by decide) (by decide) (g_iretW (v := zsd c) hx hb hr hlk hS dX7_account_131 (⟨6, by decide, ek_4, rfl, hP⟩)))
    · refine lv_tableIn (off := 131) (tgt := 132) hx hb dX7_account_1 (by decide +kernel) (by decide +kernel) (by decide +kernel) (by decide) ?_
      refine lv_aload_n hx hb dX7_account_132 rfl (lv_at hl 0 rfl) ?_
      refine g_get (v := .ref (U 1)) hx hb hts hown hK hP 0 rfl rfl gu_wsX70 0 (by decide) gm_1_17 rfl dX7_account_133 ?_
      refine g_get (v := .ref (U 7)) hx hb hts hown hK hP 1 rfl rfl gu_wsX10 1 (by decide) gm_10_7 rfl dX7_account_136 ?_
      refine lv_aload_n hx hb dX7_account_139 rfl (lv_at hl 0 rfl) ?_
      refine g_get (v := .ref (U 1)) hx hb hts hown hK hP 0 rfl rfl gu_wsX70 0 (by decide) gm_1_17 rfl dX7_account_140 ?_
      refine g_get (v := .ref (U 7)) hx hb hts hown hK hP 1 rfl rfl gu_wsX10 1 (by decide) gm_10_7 rfl dX7_account_143 ?_
      refine g_get (v := .ref (U 14)) hx hb hts hown hK hP 7 rfl rfl gu_wsX00 6 (by decide) gm_26_2 rfl dX7_account_146 ?_
      refine rd_calle (va_runV (As := [.ref (U 14)]) (rest := []) ⟨hx, hb, hml, hown, hts⟩ (c_X0_sum_6 l D cA (fun k => U (k + 7)) (zK c) (zrw c) (zcn c) (zrl c) hcn) (cwV 1 hts (gWV gm_49_10 gm_49_11 gm_49_12 gm_3_0 gm_49_13) rfl rfl rfl (by decide +kernel) ⟨Nat.le_of_ble_eq_true rfl, Nat.le_of_ble_eq_true rfl⟩) (gPreV hK (g_rf hK hP (ci := 2) (q0 := 7) rfl rfl) (hP.sub [7, 8, 9, 10, 11, 12, 13, 14, 15, 16] rfl)) rfl rfl hl.1 rfl (lv_room (Nat.le_of_ble_eq_true rfl)) dX7_account_149 ⟨by omega, by omega⟩) ?_
      exact vx_ret (W.widen (k := 1) (n := 6) (by decide) (by decide) (g_iretW (v := isum ((zK c) 6) (zcn c)) hx hb hr hlk hS dX7_account_152 (⟨7, by decide, ek_4, rfl, hP⟩)))
    · refine lv_tableIn (off := 152) (tgt := 153) hx hb dX7_account_1 (by decide +kernel) (by decide +kernel) (by decide +kernel) (by decide) ?_
      refine lv_aload_n hx hb dX7_account_153 rfl (lv_at hl 0 rfl) ?_
      refine g_get (v := .ref (U 1)) hx hb hts hown hK hP 0 rfl rfl gu_wsX70 0 (by decide) gm_1_17 rfl dX7_account_154 ?_
      refine g_get (v := .ref (U 7)) hx hb hts hown hK hP 1 rfl rfl gu_wsX10 1 (by decide) gm_10_7 rfl dX7_account_157 ?_
      refine lv_aload_n hx hb dX7_account_160 rfl (lv_at hl 0 rfl) ?_
      refine g_get (v := .ref (U 1)) hx hb hts hown hK hP 0 rfl rfl gu_wsX70 0 (by decide) gm_1_17 rfl dX7_account_161 ?_
      refine g_get (v := .ref (U 7)) hx hb hts hown hK hP 1 rfl rfl gu_wsX10 1 (by decide) gm_10_7 rfl dX7_account_164 ?_
      refine g_get (v := .ref (U 15)) hx hb hts hown hK hP 7 rfl rfl gu_wsX00 7 (by decide) gm_26_3 rfl dX7_account_167 ?_
      refine rd_calle (va_runV (As := [.ref (U 15)]) (rest := []) ⟨hx, hb, hml, hown, hts⟩ (c_X0_sum_7 l D cA (fun k => U (k + 7)) (zK c) (zrw c) (zcn c) (zrl c) hcn) (cwV 1 hts (gWV gm_49_10 gm_49_11 gm_49_12 gm_3_0 gm_49_13) rfl rfl rfl (by decide +kernel) ⟨Nat.le_of_ble_eq_true rfl, Nat.le_of_ble_eq_true rfl⟩) (gPreV hK (g_rf hK hP (ci := 2) (q0 := 7) rfl rfl) (hP.sub [7, 8, 9, 10, 11, 12, 13, 14, 15, 16] rfl)) rfl rfl hl.1 rfl (lv_room (Nat.le_of_ble_eq_true rfl)) dX7_account_170 ⟨by omega, by omega⟩) ?_
      exact vx_ret (W.widen (k := 1) (n := 6) (by decide) (by decide) (g_iretW (v := isum ((zK c) 7) (zcn c)) hx hb hr hlk hS dX7_account_173 (⟨8, by decide, ek_4, rfl, hP⟩)))
    · refine lv_tableIn (off := 173) (tgt := 174) hx hb dX7_account_1 (by decide +kernel) (by decide +kernel) (by decide +kernel) (by decide) ?_
      refine lv_aload_n hx hb dX7_account_174 rfl (lv_at hl 0 rfl) ?_
      refine g_get (v := .ref (U 1)) hx hb hts hown hK hP 0 rfl rfl gu_wsX70 0 (by decide) gm_1_17 rfl dX7_account_175 ?_
      refine g_get (v := .ref (U 2)) hx hb hts hown hK hP 1 rfl rfl gu_wsX10 0 (by decide) gm_6_13 rfl dX7_account_178 ?_
      refine lv_aload_n hx hb dX7_account_181 rfl (lv_at hl 0 rfl) ?_
      refine g_get (v := .ref (U 1)) hx hb hts hown hK hP 0 rfl rfl gu_wsX70 0 (by decide) gm_1_17 rfl dX7_account_182 ?_
      refine g_get (v := .ref (U 2)) hx hb hts hown hK hP 1 rfl rfl gu_wsX10 0 (by decide) gm_6_13 rfl dX7_account_185 ?_
      refine g_get (v := .ref (U 4)) hx hb hts hown hK hP 2 rfl rfl gu_wsX30 1 (by decide) gm_24_22 rfl dX7_account_188 ?_
      refine rd_calle (va_runV (As := [.ref (U 4)]) (rest := []) ⟨hx, hb, hml, hown, hts⟩ (c_X3_sum_1 l D cA (fun k => U (k + 2)) (zJ c) (zjn c) hjn) (cwV 1 hts (gWV gm_49_14 gm_49_15 gm_49_16 gm_2_5 gm_49_17) rfl rfl rfl (by decide +kernel) ⟨Nat.le_of_ble_eq_true rfl, Nat.le_of_ble_eq_true rfl⟩) (gPreV hK (g_rf hK hP (ci := 5) (q0 := 2) rfl rfl) (hP.sub [2, 3, 4, 5, 6] rfl)) rfl rfl hl.1 rfl (lv_room (Nat.le_of_ble_eq_true rfl)) dX7_account_191 ⟨by omega, by omega⟩) ?_
      exact vx_ret (W.widen (k := 1) (n := 6) (by decide) (by decide) (g_iretW (v := isum ((zJ c) 1) (zjn c)) hx hb hr hlk hS dX7_account_194 (⟨9, by decide, ek_4, rfl, hP⟩)))
    · refine lv_tableIn (off := 194) (tgt := 195) hx hb dX7_account_1 (by decide +kernel) (by decide +kernel) (by decide +kernel) (by decide) ?_
      refine lv_aload_n hx hb dX7_account_195 rfl (lv_at hl 0 rfl) ?_
      refine g_get (v := .ref (U 41)) hx hb hts hown hK hP 0 rfl rfl gu_wsX70 5 (by decide) gm_2_10 rfl dX7_account_196 ?_
      refine g_get (v := .int (nI (tl))) hx hb hts hown hK hP 41 rfl rfl gu_wsX60 1 (by decide) gm_39_1 rfl dX7_account_199 ?_
      exact vx_ret (W.widen (k := 1) (n := 6) (by decide) (by decide) (g_iretW (v := nI (tl)) hx hb hr hlk hS dX7_account_202 (⟨10, by decide, ek_4, rfl, hP⟩)))
    · refine lv_tableIn (off := 202) (tgt := 203) hx hb dX7_account_1 (by decide +kernel) (by decide +kernel) (by decide +kernel) (by decide) ?_
      refine lv_aload_n hx hb dX7_account_203 rfl (lv_at hl 0 rfl) ?_
      refine g_get (v := .ref (U 33)) hx hb hts hown hK hP 0 rfl rfl gu_wsX70 2 (by decide) gm_1_22 rfl dX7_account_204 ?_
      refine g_get (v := .int (nI (ct))) hx hb hts hown hK hP 33 rfl rfl gu_wsX20 2 (by decide) gm_49_1 rfl dX7_account_207 ?_
      exact vx_ret (W.widen (k := 1) (n := 6) (by decide) (by decide) (g_iretW (v := nI (ct)) hx hb hr hlk hS dX7_account_210 (⟨11, by decide, ek_4, rfl, hP⟩)))
  · refine lv_iload_n hx hb dX7_account_0 rfl (lv_at hl 1 rfl) ?_
    refine lv_tableOut (tgt := 211) hx hb dX7_account_1 (inB_out csw_1 (by decide) (by decide)) (by decide) ?_
    exact g_throwSW hx hb hlt hE hFA hown (by decide +kernel) th_IAE (List.mem_of_getElem? (i := 26) rfl) hS (hl.1.trans hml.symm) dX7_account_211 dX7_account_214 dX7_account_215 dX7_account_218 dX7_account_221 hte (by decide) (by decide) (by decide) (by decide) hlk (fun H1 hz8 hk8 => ⟨rfl, eq_false_of_ne_true csw_1, vP_grow hP hk8⟩) (by decide) (by decide)

set_option maxHeartbeats 1000000 in
set_option maxRecDepth 100000 in
theorem c_X7_isWell (l : Launch) (D : va_G) (cA : Nat → ClassId) (AE : Nat → Prop) (adK adV sa : Nat → Nat) (U : Nat → Nat) (rg : Nat → Option Nat) (c z : CS) (rz : Nat → CS) (hd ct : Nat) (rs dt : Int32) (mf : Nat → Nat → Int32) (mn : Nat) (tc : Nat → Nat) (tl to : Nat) (kd fi se : Int32) (ta : Nat) (nu : Int32) (lc : Nat → Int32) (ln : Nat) (sv : Bool) (er : Int32) (hA : aInj 189 U) (hFA : ∀ q, aS 189 U q → AE q) (hz : zOk c)  : Met l yX7_isWell (gw yX7_isWell cX7_isWell 1 (some .boolean)) ({ frames := 5, cells := 0, slots := 0, locals := 110 } : Room) (gPx [.ref (U 0)] (fun H => va_P D vwCl (uw cA U rg c z rz hd ct rs dt mf mn tc tl to kd fi se ta nu lc ln sv er) H) D cA AE adK adV sa) (wrI (fun r H => r = b2i (wlF c) ∧ va_P D vwCl (uw cA U rg c z rz hd ct rs dt mf mn tc tl to kd fi se ta nu lc ln sv er) H) (aS 189 U)) 0 0 (aS 189 U) := by
  refine gOfx (by decide) (Nat.le_of_ble_eq_true rfl) ?_
  intro p e s m below meth c9 ls hx hb hml hr hlk hown hts hnm hP hK hE hl
  have hl : lv_has ls 1 [(0, .ref (U 0))] := hl
  have hz9 := hz
  obtain ⟨hjn, hcn, hrl, hrw, hck, htn⟩ := hz
  have hD : va_D (aS 189 U) (uw cA U rg c z rz hd ct rs dt mf mn tc tl to kd fi se ta nu lc ln sv er) := uwD hA
  have hS : va_S (aS 189 U) s.heap s.heap [] := va_S.rf
  skip
  refine lv_aload_n hx hb dX7_isWell_0 rfl (lv_at hl 0 rfl) ?_
  refine g_get (v := .ref (U 1)) hx hb hts hown hK hP 0 rfl rfl gu_wsX70 0 (by decide) gm_1_17 rfl dX7_isWell_1 ?_
  refine rd_calle (va_runV (As := []) (rest := []) ⟨hx, hb, hml, hown, hts⟩ (c_X1_areLoadsWell l D cA (fun k => U (k + 1)) (zJ c) (zjn c) (zK c) (zrw c) (zcn c) (zrl c) (zck c) (ztn c) (zsd c) hjn hcn) (cwV 0 hts (gWV gm_50_10 gm_50_11 gm_50_12 gm_1_16 gm_50_13) rfl rfl rfl (by decide +kernel) ⟨Nat.le_of_ble_eq_true rfl, Nat.le_of_ble_eq_true rfl⟩) (gPreV hK (g_rf hK hP (ci := 3) (q0 := 1) rfl rfl) (hP.sub [1, 2, 3, 4, 5, 6, 7, 8, 9, 10, 11, 12, 13, 14, 15, 16] rfl)) rfl rfl hl.1 rfl (lv_room (Nat.le_of_ble_eq_true rfl)) dX7_isWell_4 ⟨by omega, by omega⟩) ?_
  refine g_if_eq (P := (fnd (fun j => !decide (nI (ldF (zK c) (zcn c) j) = lrF (zK c) (zcn c) j) || decide (3 < ldF (zK c) (zcn c) j)) (zjn c)).isNone = false) (tgt := 44) hx hb dX7_isWell_7 (by decide) b2i_0 (fun c_1 => ?_) (fun c_1 => ?_)
  · refine lv_iconst (v := nI (0)) hx hb dX7_isWell_44 gc_0 ?_
    exact g_zretW (v := nI (0)) hx hb hr hlk rfl hS dX7_isWell_45 (⟨(by unfold wlF; simp only [c_1]; rfl), hP⟩)
  · have c_1 : (fnd (fun j => !decide (nI (ldF (zK c) (zcn c) j) = lrF (zK c) (zcn c) j) || decide (3 < ldF (zK c) (zcn c) j)) (zjn c)).isNone = true := eq_true_of_ne_false c_1
    refine lv_aload_n hx hb dX7_isWell_10 rfl (lv_at hl 0 rfl) ?_
    refine g_get (v := .ref (U 1)) hx hb hts hown hK hP 0 rfl rfl gu_wsX70 0 (by decide) gm_1_17 rfl dX7_isWell_11 ?_
    refine rd_calle (va_runV (As := []) (rest := []) ⟨hx, hb, hml, hown, hts⟩ (c_X1_isRollWell l D cA (fun k => U (k + 1)) (zJ c) (zjn c) (zK c) (zrw c) (zcn c) (zrl c) (zck c) (ztn c) (zsd c) hcn hrl hrw) (cwV 0 hts (gWV gm_50_15 gm_50_16 gm_50_17 gm_1_16 gm_50_18) rfl rfl rfl (by decide +kernel) ⟨Nat.le_of_ble_eq_true rfl, Nat.le_of_ble_eq_true rfl⟩) (gPreV hK (g_rf hK hP (ci := 3) (q0 := 1) rfl rfl) (hP.sub [1, 2, 3, 4, 5, 6, 7, 8, 9, 10, 11, 12, 13, 14, 15, 16] rfl)) rfl rfl hl.1 rfl (lv_room (Nat.le_of_ble_eq_true rfl)) dX7_isWell_14 ⟨by omega, by omega⟩) ?_
    refine g_if_eq (P := (fnd (fun k => !decide (oI (if isIx (nI k) (zrl c) = true then some ((zrw c) (nI k).toNatClampNeg) else none) = oI (nthV (fhF (zK c) (zcn c)) (zcn c) (nI k)))) ((zrl c) + 1)).isNone = false) (tgt := 44) hx hb dX7_isWell_17 (by decide) b2i_0 (fun c_2 => ?_) (fun c_2 => ?_)
    · refine lv_iconst (v := nI (0)) hx hb dX7_isWell_44 gc_0 ?_
      exact g_zretW (v := nI (0)) hx hb hr hlk rfl hS dX7_isWell_45 (⟨(by unfold wlF; simp only [c_1, c_2]; rfl), hP⟩)
    · have c_2 : (fnd (fun k => !decide (oI (if isIx (nI k) (zrl c) = true then some ((zrw c) (nI k).toNatClampNeg) else none) = oI (nthV (fhF (zK c) (zcn c)) (zcn c) (nI k)))) ((zrl c) + 1)).isNone = true := eq_true_of_ne_false c_2
      refine lv_aload_n hx hb dX7_isWell_20 rfl (lv_at hl 0 rfl) ?_
      refine g_get (v := .ref (U 1)) hx hb hts hown hK hP 0 rfl rfl gu_wsX70 0 (by decide) gm_1_17 rfl dX7_isWell_21 ?_
      refine rd_calle (va_runV (As := []) (rest := []) ⟨hx, hb, hml, hown, hts⟩ (c_X1_areVotesWell l D cA (fun k => U (k + 1)) (zJ c) (zjn c) (zK c) (zrw c) (zcn c) (zrl c) (zck c) (ztn c) (zsd c) hjn hcn) (cwV 0 hts (gWV gm_50_21 gm_50_22 gm_50_23 gm_1_16 gm_51_0) rfl rfl rfl (by decide +kernel) ⟨Nat.le_of_ble_eq_true rfl, Nat.le_of_ble_eq_true rfl⟩) (gPreV hK (g_rf hK hP (ci := 3) (q0 := 1) rfl rfl) (hP.sub [1, 2, 3, 4, 5, 6, 7, 8, 9, 10, 11, 12, 13, 14, 15, 16] rfl)) rfl rfl hl.1 rfl (lv_room (Nat.le_of_ble_eq_true rfl)) dX7_isWell_24 ⟨by omega, by omega⟩) ?_
      refine g_if_eq (P := (fnd (fun c9 => !decide ((zK c) 2 c9 = 0) && !decide (vdF ((zJ c) 0) ((zJ c) 1) (zjn c) ((zK c) 2 c9) ((zK c) 0 c9) = vmF ((zJ c) 0) ((zJ c) 1) (zjn c) ((zK c) 2 c9) ((zK c) 0 c9))) (zcn c)).isNone = false) (tgt := 44) hx hb dX7_isWell_27 (by decide) b2i_0 (fun c_3 => ?_) (fun c_3 => ?_)
      · refine lv_iconst (v := nI (0)) hx hb dX7_isWell_44 gc_0 ?_
        exact g_zretW (v := nI (0)) hx hb hr hlk rfl hS dX7_isWell_45 (⟨(by unfold wlF; simp only [c_1, c_2, c_3]; rfl), hP⟩)
      · have c_3 : (fnd (fun c9 => !decide ((zK c) 2 c9 = 0) && !decide (vdF ((zJ c) 0) ((zJ c) 1) (zjn c) ((zK c) 2 c9) ((zK c) 0 c9) = vmF ((zJ c) 0) ((zJ c) 1) (zjn c) ((zK c) 2 c9) ((zK c) 0 c9))) (zcn c)).isNone = true := eq_true_of_ne_false c_3
        refine lv_aload_n hx hb dX7_isWell_30 rfl (lv_at hl 0 rfl) ?_
        refine g_get (v := .ref (U 1)) hx hb hts hown hK hP 0 rfl rfl gu_wsX70 0 (by decide) gm_1_17 rfl dX7_isWell_31 ?_
        refine rd_calle (va_runV (As := []) (rest := []) ⟨hx, hb, hml, hown, hts⟩ (c_X1_areVerdictsWell l D cA (fun k => U (k + 1)) (zJ c) (zjn c) (zK c) (zrw c) (zcn c) (zrl c) (zck c) (ztn c) (zsd c) hcn) (cwV 0 hts (gWV gm_51_2 gm_51_3 gm_51_4 gm_1_16 gm_51_5) rfl rfl rfl (by decide +kernel) ⟨Nat.le_of_ble_eq_true rfl, Nat.le_of_ble_eq_true rfl⟩) (gPreV hK (g_rf hK hP (ci := 3) (q0 := 1) rfl rfl) (hP.sub [1, 2, 3, 4, 5, 6, 7, 8, 9, 10, 11, 12, 13, 14, 15, 16] rfl)) rfl rfl hl.1 rfl (lv_room (Nat.le_of_ble_eq_true rfl)) dX7_isWell_34 ⟨by omega, by omega⟩) ?_
        refine g_if_eq (P := (fnd (fun c9 => rpF (zK c) c9 (nI (ztn c))) (zcn c)).isNone = false) (tgt := 44) hx hb dX7_isWell_37 (by decide) b2i_0 (fun c_4 => ?_) (fun c_4 => ?_)
        · refine lv_iconst (v := nI (0)) hx hb dX7_isWell_44 gc_0 ?_
          exact g_zretW (v := nI (0)) hx hb hr hlk rfl hS dX7_isWell_45 (⟨(by unfold wlF; simp only [c_1, c_2, c_3, c_4]; rfl), hP⟩)
        · have c_4 : (fnd (fun c9 => rpF (zK c) c9 (nI (ztn c))) (zcn c)).isNone = true := eq_true_of_ne_false c_4
          refine lv_iconst (v := nI (1)) hx hb dX7_isWell_40 gc_1 ?_
          refine lv_goto (tgt := 45) hx hb dX7_isWell_41 (by decide) ?_
          exact g_zretW (v := nI (1)) hx hb hr hlk rfl hS dX7_isWell_45 (⟨(by unfold wlF; simp only [c_1, c_2, c_3, c_4]; rfl), hP⟩)

set_option maxHeartbeats 1000000 in
set_option maxRecDepth 100000 in
theorem c_X7_meanLeaning (l : Launch) (hlt : l.stackTraces = false) (D : va_G) (cA : Nat → ClassId) (AE : Nat → Prop) (adK adV sa : Nat → Nat) (U : Nat → Nat) (rg : Nat → Option Nat) (c z : CS) (rz : Nat → CS) (hd ct : Nat) (rs dt : Int32) (mf : Nat → Nat → Int32) (mn : Nat) (tc : Nat → Nat) (tl to : Nat) (kd fi se : Int32) (ta : Nat) (nu : Int32) (lc : Nat → Int32) (ln : Nat) (sv : Bool) (er : Int32) (hA : aInj 189 U) (hFA : ∀ q, aS 189 U q → AE q) (hz : zOk c)  : vx_Met l yX7_meanLeaning (gw yX7_meanLeaning cX7_meanLeaning 2 (some .double)) ({ frames := 6, cells := 1, slots := 6, locals := 82 } : Room) (gPx [.ref (U 0)] (fun H => va_P D vwCl (uw cA U rg c z rz hd ct rs dt mf mn tc tl to kd fi se ta nu lc ln sv er) H) D cA AE adK adV sa) (wrD (fun r H => ¬ zjn c = 0 ∧ r = FP.ddiv (FP.i2d (isum (zJ c 0) (zjn c))) (FP.i2d (nI (zjn c))) ∧ va_P D vwCl (uw cA U rg c z rz hd ct rs dt mf mn tc tl to kd fi se ta nu lc ln sv er) H) (aS 189 U)) (gXC (fun E H => (E = xARE ∧ zjn c = 0 ∧ va_P D vwCl (uw cA U rg c z rz hd ct rs dt mf mn tc tl to kd fi se ta nu lc ln sv er) H)) (aS 189 U)) 1 6 (aS 189 U) := by
  refine gOfv (by decide) (Nat.le_of_ble_eq_true rfl) ?_
  intro p e s m below meth c9 ls hx hb hml hr hlk hown hts hte hP hK hE hl
  have hl : lv_has ls 2 [(0, .ref (U 0))] := hl
  have hz9 := hz
  obtain ⟨hjn, hcn, hrl, hrw, hck, htn⟩ := hz
  have hD : va_D (aS 189 U) (uw cA U rg c z rz hd ct rs dt mf mn tc tl to kd fi se ta nu lc ln sv er) := uwD hA
  have hS : va_S (aS 189 U) s.heap s.heap [] := va_S.rf
  skip
  refine lv_aload_n hx hb dX7_meanLeaning_0 rfl (lv_at hl 0 rfl) ?_
  refine g_get (v := .ref (U 1)) hx hb hts hown hK hP 0 rfl rfl gu_wsX70 0 (by decide) gm_1_17 rfl dX7_meanLeaning_1 ?_
  refine g_get (v := .ref (U 2)) hx hb hts hown hK hP 1 rfl rfl gu_wsX10 0 (by decide) gm_6_13 rfl dX7_meanLeaning_4 ?_
  refine g_get (v := .int (nI (zjn c))) hx hb hts hown hK hP 2 rfl rfl gu_wsX30 4 (by decide) gm_48_21 rfl dX7_meanLeaning_7 ?_
  refine lv_istore_n (lv' := [(1, .int (nI (zjn c))), (0, .ref (U 0))]) hx hb dX7_meanLeaning_10 rfl hl (by decide) rfl (fun ls hl => ?_)
  refine lv_iload_n hx hb dX7_meanLeaning_11 rfl (lv_at hl 0 rfl) ?_
  refine g_if_ne (P := zjn c = 0) (tgt := 26) hx hb dX7_meanLeaning_12 (by decide) (nI_z (by omega)) (fun c_1 => ?_) (fun c_1 => ?_)
  · refine lv_aload_n hx hb dX7_meanLeaning_26 rfl (lv_at hl 1 rfl) ?_
    refine g_get (v := .ref (U 1)) hx hb hts hown hK hP 0 rfl rfl gu_wsX70 0 (by decide) gm_1_17 rfl dX7_meanLeaning_27 ?_
    refine g_get (v := .ref (U 2)) hx hb hts hown hK hP 1 rfl rfl gu_wsX10 0 (by decide) gm_6_13 rfl dX7_meanLeaning_30 ?_
    refine lv_aload_n hx hb dX7_meanLeaning_33 rfl (lv_at hl 1 rfl) ?_
    refine g_get (v := .ref (U 1)) hx hb hts hown hK hP 0 rfl rfl gu_wsX70 0 (by decide) gm_1_17 rfl dX7_meanLeaning_34 ?_
    refine g_get (v := .ref (U 2)) hx hb hts hown hK hP 1 rfl rfl gu_wsX10 0 (by decide) gm_6_13 rfl dX7_meanLeaning_37 ?_
    refine g_get (v := .ref (U 3)) hx hb hts hown hK hP 2 rfl rfl gu_wsX30 0 (by decide) gm_24_21 rfl dX7_meanLeaning_40 ?_
    refine rd_calle (va_runV (As := [.ref (U 3)]) (rest := []) ⟨hx, hb, hml, hown, hts⟩ (c_X3_sum_0 l D cA (fun k => U (k + 2)) (zJ c) (zjn c) hjn) (cwV 1 hts (gWV gm_49_14 gm_49_15 gm_49_16 gm_2_5 gm_49_17) rfl rfl rfl (by decide +kernel) ⟨Nat.le_of_ble_eq_true rfl, Nat.le_of_ble_eq_true rfl⟩) (gPreV hK (g_rf hK hP (ci := 5) (q0 := 2) rfl rfl) (hP.sub [2, 3, 4, 5, 6] rfl)) rfl rfl hl.1 rfl (lv_room (Nat.le_of_ble_eq_true rfl)) dX7_meanLeaning_43 ⟨by omega, by omega⟩) ?_
    have hne : nI (zjn c) ≠ 0 := fun h => c_1 ((nI_z (by omega)).mp h)
    refine lv_i2d hx hb dX7_meanLeaning_46 ?_
    refine lv_iload_n hx hb dX7_meanLeaning_47 rfl (lv_at hl 0 rfl) ?_
    refine lv_i2d hx hb dX7_meanLeaning_48 ?_
    refine lv_ddiv hx hb dX7_meanLeaning_49 (n64_of (ddiv_no hne)) ?_
    exact vx_ret (W.widen (k := 1) (n := 6) (by decide) (by decide) (g_dretW hx hb hr hlk hS dX7_meanLeaning_50 (⟨c_1, rfl, hP⟩)))
  · exact g_throwSW hx hb hlt hE hFA hown (by decide +kernel) th_ARE (List.mem_of_getElem? (i := 27) rfl) hS (hl.1.trans hml.symm) dX7_meanLeaning_15 dX7_meanLeaning_18 dX7_meanLeaning_19 dX7_meanLeaning_22 dX7_meanLeaning_25 hte (by decide) (by decide) (by decide) (by decide) hlk (fun H1 hz8 hk8 => ⟨rfl, c_1, vP_grow hP hk8⟩) (by decide) (by decide)

set_option maxHeartbeats 1000000 in
set_option maxRecDepth 100000 in
theorem c_X7_unsaidShare (l : Launch) (hlt : l.stackTraces = false) (D : va_G) (cA : Nat → ClassId) (AE : Nat → Prop) (adK adV sa : Nat → Nat) (U : Nat → Nat) (rg : Nat → Option Nat) (c z : CS) (rz : Nat → CS) (hd ct : Nat) (rs dt : Int32) (mf : Nat → Nat → Int32) (mn : Nat) (tc : Nat → Nat) (tl to : Nat) (kd fi se : Int32) (ta : Nat) (nu : Int32) (lc : Nat → Int32) (ln : Nat) (sv : Bool) (er : Int32) (hA : aInj 189 U) (hFA : ∀ q, aS 189 U q → AE q) (hz : zOk c)  : vx_Met l yX7_unsaidShare (gw yX7_unsaidShare cX7_unsaidShare 1 (some .float)) ({ frames := 6, cells := 1, slots := 6, locals := 82 } : Room) (gPx [.ref (U 0)] (fun H => va_P D vwCl (uw cA U rg c z rz hd ct rs dt mf mn tc tl to kd fi se ta nu lc ln sv er) H) D cA AE adK adV sa) (wrF (fun r H => ¬ zsd c = 0 ∧ r = FP.fdiv (FP.i2f (isum (zK c 6) (zcn c))) (FP.i2f (zsd c)) ∧ va_P D vwCl (uw cA U rg c z rz hd ct rs dt mf mn tc tl to kd fi se ta nu lc ln sv er) H) (aS 189 U)) (gXC (fun E H => (E = xARE ∧ zsd c = 0 ∧ va_P D vwCl (uw cA U rg c z rz hd ct rs dt mf mn tc tl to kd fi se ta nu lc ln sv er) H)) (aS 189 U)) 1 6 (aS 189 U) := by
  refine gOfv (by decide) (Nat.le_of_ble_eq_true rfl) ?_
  intro p e s m below meth c9 ls hx hb hml hr hlk hown hts hte hP hK hE hl
  have hl : lv_has ls 1 [(0, .ref (U 0))] := hl
  have hz9 := hz
  obtain ⟨hjn, hcn, hrl, hrw, hck, htn⟩ := hz
  have hD : va_D (aS 189 U) (uw cA U rg c z rz hd ct rs dt mf mn tc tl to kd fi se ta nu lc ln sv er) := uwD hA
  have hS : va_S (aS 189 U) s.heap s.heap [] := va_S.rf
  skip
  refine lv_aload_n hx hb dX7_unsaidShare_0 rfl (lv_at hl 0 rfl) ?_
  refine g_get (v := .ref (U 1)) hx hb hts hown hK hP 0 rfl rfl gu_wsX70 0 (by decide) gm_1_17 rfl dX7_unsaidShare_1 ?_
  refine g_get (v := .int (zsd c)) hx hb hts hown hK hP 1 rfl rfl gu_wsX10 4 (by decide) gm_49_0 rfl dX7_unsaidShare_4 ?_
  refine g_if_ne (P := zsd c = 0) (tgt := 21) hx hb dX7_unsaidShare_7 (by decide) Iff.rfl (fun c_1 => ?_) (fun c_1 => ?_)
  · refine lv_aload_n hx hb dX7_unsaidShare_21 rfl (lv_at hl 0 rfl) ?_
    refine g_get (v := .ref (U 1)) hx hb hts hown hK hP 0 rfl rfl gu_wsX70 0 (by decide) gm_1_17 rfl dX7_unsaidShare_22 ?_
    refine g_get (v := .ref (U 7)) hx hb hts hown hK hP 1 rfl rfl gu_wsX10 1 (by decide) gm_10_7 rfl dX7_unsaidShare_25 ?_
    refine lv_aload_n hx hb dX7_unsaidShare_28 rfl (lv_at hl 0 rfl) ?_
    refine g_get (v := .ref (U 1)) hx hb hts hown hK hP 0 rfl rfl gu_wsX70 0 (by decide) gm_1_17 rfl dX7_unsaidShare_29 ?_
    refine g_get (v := .ref (U 7)) hx hb hts hown hK hP 1 rfl rfl gu_wsX10 1 (by decide) gm_10_7 rfl dX7_unsaidShare_32 ?_
    refine g_get (v := .ref (U 14)) hx hb hts hown hK hP 7 rfl rfl gu_wsX00 6 (by decide) gm_26_2 rfl dX7_unsaidShare_35 ?_
    refine rd_calle (va_runV (As := [.ref (U 14)]) (rest := []) ⟨hx, hb, hml, hown, hts⟩ (c_X0_sum_6 l D cA (fun k => U (k + 7)) (zK c) (zrw c) (zcn c) (zrl c) hcn) (cwV 1 hts (gWV gm_49_10 gm_49_11 gm_49_12 gm_3_0 gm_49_13) rfl rfl rfl (by decide +kernel) ⟨Nat.le_of_ble_eq_true rfl, Nat.le_of_ble_eq_true rfl⟩) (gPreV hK (g_rf hK hP (ci := 2) (q0 := 7) rfl rfl) (hP.sub [7, 8, 9, 10, 11, 12, 13, 14, 15, 16] rfl)) rfl rfl hl.1 rfl (lv_room (Nat.le_of_ble_eq_true rfl)) dX7_unsaidShare_38 ⟨by omega, by omega⟩) ?_
    refine lv_i2f hx hb dX7_unsaidShare_41 ?_
    refine lv_aload_n hx hb dX7_unsaidShare_42 rfl (lv_at hl 0 rfl) ?_
    refine g_get (v := .ref (U 1)) hx hb hts hown hK hP 0 rfl rfl gu_wsX70 0 (by decide) gm_1_17 rfl dX7_unsaidShare_43 ?_
    refine g_get (v := .int (zsd c)) hx hb hts hown hK hP 1 rfl rfl gu_wsX10 4 (by decide) gm_49_0 rfl dX7_unsaidShare_46 ?_
    refine lv_i2f hx hb dX7_unsaidShare_49 ?_
    refine lv_fdiv hx hb dX7_unsaidShare_50 (n32_of (fdiv_no c_1)) ?_
    exact vx_ret (W.widen (k := 1) (n := 6) (by decide) (by decide) (g_fretW hx hb hr hlk hS dX7_unsaidShare_51 (⟨c_1, rfl, hP⟩)))
  · exact g_throwSW hx hb hlt hE hFA hown (by decide +kernel) th_ARE (List.mem_of_getElem? (i := 28) rfl) hS (hl.1.trans hml.symm) dX7_unsaidShare_10 dX7_unsaidShare_13 dX7_unsaidShare_14 dX7_unsaidShare_17 dX7_unsaidShare_20 hte (by decide) (by decide) (by decide) (by decide) hlk (fun H1 hz8 hk8 => ⟨rfl, c_1, vP_grow hP hk8⟩) (by decide) (by decide)

set_option maxHeartbeats 1000000 in
set_option maxRecDepth 100000 in
theorem c_X7_undo (l : Launch) (hlt : l.stackTraces = false) (D : va_G) (cA : Nat → ClassId) (AE : Nat → Prop) (adK adV sa : Nat → Nat) (U : Nat → Nat) (rg : Nat → Option Nat) (c z : CS) (rz : Nat → CS) (hd ct : Nat) (rs dt : Int32) (mf : Nat → Nat → Int32) (mn : Nat) (tc : Nat → Nat) (tl to : Nat) (kd fi se : Int32) (ta : Nat) (nu : Int32) (lc : Nat → Int32) (ln : Nat) (sv : Bool) (er : Int32) (hA : aInj 189 U) (hFA : ∀ q, aS 189 U q → AE q) (hz : zOk c) (hrg : uRg U rg) (hh8 : hd ≤ 8) (hc8 : ct ≤ 8) : vx_Met l yX7_undo (gw yX7_undo cX7_undo 1 (some .int)) ({ frames := 6, cells := 1, slots := 6, locals := 144 } : Room) (gPx [.ref (U 0)] (fun H => va_P D vwCl (uw cA U rg c z rz hd ct rs dt mf mn tc tl to kd fi se ta nu lc ln sv er) H) D cA AE adK adV sa) (wrI (fun r H => 0 < ct ∧ r = nI (ct - 1) ∧ va_P D vwCl (uw cA U rg (rz (hDn hd)) z (va_up rz (hDn hd) (rz (hDn hd))) (hDn hd) (ct - 1) rs dt mf mn tc tl to kd fi se ta nu lc ln sv er) H) (aS 189 U)) (gXC (fun E H => (E = xISE ∧ ct = 0 ∧ va_P D vwCl (uw cA U rg c z rz hd ct rs dt mf mn tc tl to kd fi se ta nu lc ln sv er) H)) (aS 189 U)) 1 6 (aS 189 U) := by
  refine gOfv (by decide) (Nat.le_of_ble_eq_true rfl) ?_
  intro p e s m below meth c9 ls hx hb hml hr hlk hown hts hte hP hK hE hl
  have hl : lv_has ls 1 [(0, .ref (U 0))] := hl
  have hz9 := hz
  obtain ⟨hjn, hcn, hrl, hrw, hck, htn⟩ := hz
  have hD : va_D (aS 189 U) (uw cA U rg c z rz hd ct rs dt mf mn tc tl to kd fi se ta nu lc ln sv er) := uwD hA
  have hS : va_S (aS 189 U) s.heap s.heap [] := va_S.rf
  skip
  have hdn9 : hDn hd ≤ 8 := by unfold hDn; split <;> omega
  refine lv_aload_n hx hb dX7_undo_0 rfl (lv_at hl 0 rfl) ?_
  refine g_get (v := .ref (U 33)) hx hb hts hown hK hP 0 rfl rfl gu_wsX70 2 (by decide) gm_1_22 rfl dX7_undo_1 ?_
  refine g_get (v := .int (nI (ct))) hx hb hts hown hK hP 33 rfl rfl gu_wsX20 2 (by decide) gm_49_1 rfl dX7_undo_4 ?_
  refine g_if_ne (P := ct = 0) (tgt := 21) hx hb dX7_undo_7 (by decide) (nI_z (by omega)) (fun c_1 => ?_) (fun c_1 => ?_)
  · refine lv_aload_n hx hb dX7_undo_21 rfl (lv_at hl 0 rfl) ?_
    refine g_get (v := .ref (U 33)) hx hb hts hown hK hP 0 rfl rfl gu_wsX70 2 (by decide) gm_1_22 rfl dX7_undo_22 ?_
    refine lv_aload_n hx hb dX7_undo_25 rfl (lv_at hl 0 rfl) ?_
    refine g_get (v := .ref (U 1)) hx hb hts hown hK hP 0 rfl rfl gu_wsX70 0 (by decide) gm_1_17 rfl dX7_undo_26 ?_
    refine wr_callv (va_runV (As := [.ref (U 1)]) (rest := []) ⟨hx, hb, hml, hown, hts⟩ (c_X2_bringBack l D cA (fun k => U (uHg (hDn hd) k)) rg hd ct (rz (hDn hd)) c (aInj_m hA (uHg (hDn hd)) (uHg_lt (by omega)) (uHg_in (by omega))) hh8 (hrg _ (by omega)) (by omega) hc8) (cwV 1 hts (gWV gm_52_19 gm_52_20 gm_52_21 gm_1_21 gm_52_22) rfl rfl rfl (by decide +kernel) ⟨Nat.le_of_ble_eq_true rfl, Nat.le_of_ble_eq_true rfl⟩) (gPreV hK (g_rf hK hP (ci := 4) (q0 := 33) rfl rfl) (uw_toG hA (by omega) hP)) rfl rfl hl.1 rfl (lv_room (Nat.le_of_ble_eq_true rfl)) dX7_undo_29 ⟨by omega, by omega⟩) hS (fun q _ h => aS_m (uHg_lt (by omega)) h) (fun q h => aS_m (uHg_lt (by omega)) h) (fun H locs hPn hz9 hk9 hS => ?_)
    have hP : va_P D vwCl (uw cA U rg (rz (hDn hd)) z (va_up rz (hDn hd) (rz (hDn hd))) (hDn hd) (ct - 1) rs dt mf mn tc tl to kd fi se ta nu lc ln sv er) H := uw_G hA (by omega) hP hPn hk9
    have hD : va_D (aS 189 U) (uw cA U rg (rz (hDn hd)) z (va_up rz (hDn hd) (rz (hDn hd))) (hDn hd) (ct - 1) rs dt mf mn tc tl to kd fi se ta nu lc ln sv er) := uwD hA
    refine lv_aload_n hx hb dX7_undo_32 rfl (lv_at hl 0 rfl) ?_
    refine g_get (v := .ref (U 33)) hx hb hts hown hK hP 0 rfl rfl gu_wsX70 2 (by decide) gm_1_22 rfl dX7_undo_33 ?_
    refine g_get (v := .int (nI (ct - 1))) hx hb hts hown hK hP 33 rfl rfl gu_wsX20 2 (by decide) gm_49_1 rfl dX7_undo_36 ?_
    exact vx_ret (W.widen (k := 1) (n := 6) (by decide) (by decide) (g_iretW (v := nI (ct - 1)) hx hb hr hlk hS dX7_undo_39 (⟨by omega, rfl, hP⟩)))
  · exact g_throwSW hx hb hlt hE hFA hown (by decide +kernel) th_ISE (List.mem_of_getElem? (i := 29) rfl) hS (hl.1.trans hml.symm) dX7_undo_10 dX7_undo_13 dX7_undo_14 dX7_undo_17 dX7_undo_20 hte (by decide) (by decide) (by decide) (by decide) hlk (fun H1 hz8 hk8 => ⟨rfl, c_1, vP_grow hP hk8⟩) (by decide) (by decide)

set_option maxHeartbeats 1000000 in
set_option maxRecDepth 100000 in
theorem c_X7_save (l : Launch) (D : va_G) (cA : Nat → ClassId) (AE : Nat → Prop) (adK adV sa : Nat → Nat) (U : Nat → Nat) (rg : Nat → Option Nat) (c z : CS) (rz : Nat → CS) (hd ct : Nat) (rs dt : Int32) (mf : Nat → Nat → Int32) (mn : Nat) (tc : Nat → Nat) (tl to : Nat) (kd fi se : Int32) (ta : Nat) (nu : Int32) (lc : Nat → Int32) (ln : Nat) (sv : Bool) (er : Int32) (hA : aInj 189 U) (hFA : ∀ q, aS 189 U q → AE q) (hz : zOk c)  : Met l yX7_save (gw yX7_save cX7_save 1 (some .int)) ({ frames := 3, cells := 0, slots := 0, locals := 102 } : Room) (gPx [.ref (U 0)] (fun H => va_P D vwCl (uw cA U rg c z rz hd ct rs dt mf mn tc tl to kd fi se ta nu lc ln sv er) H) D cA AE adK adV sa) (wrI (fun r H => r = nI (zcn c) ∧ va_P D vwCl (uw cA U rg c c rz hd ct rs dt mf mn tc tl to kd fi se ta nu lc ln true er) H) (aS 189 U)) 0 0 (aS 189 U) := by
  refine gOfx (by decide) (Nat.le_of_ble_eq_true rfl) ?_
  intro p e s m below meth c9 ls hx hb hml hr hlk hown hts hnm hP hK hE hl
  have hl : lv_has ls 1 [(0, .ref (U 0))] := hl
  have hz9 := hz
  obtain ⟨hjn, hcn, hrl, hrw, hck, htn⟩ := hz
  have hD : va_D (aS 189 U) (uw cA U rg c z rz hd ct rs dt mf mn tc tl to kd fi se ta nu lc ln sv er) := uwD hA
  have hS : va_S (aS 189 U) s.heap s.heap [] := va_S.rf
  skip
  refine lv_aload_n hx hb dX7_save_0 rfl (lv_at hl 0 rfl) ?_
  refine g_get (v := .ref (U 17)) hx hb hts hown hK hP 0 rfl rfl gu_wsX70 1 (by decide) gm_1_18 rfl dX7_save_1 ?_
  refine lv_aload_n hx hb dX7_save_4 rfl (lv_at hl 0 rfl) ?_
  refine g_get (v := .ref (U 1)) hx hb hts hown hK hP 0 rfl rfl gu_wsX70 0 (by decide) gm_1_17 rfl dX7_save_5 ?_
  refine wr_callv (va_runV (As := [.ref (U 1)]) (rest := []) ⟨hx, hb, hml, hown, hts⟩ (c_X1_copyFrom l D cA (fun k => U (uSf k)) z c (aInj_m hA uSf uSf_lt uSf_in)) (cwV 1 hts (gWV gm_53_8 gm_7_12 gm_7_13 gm_1_16 gm_7_14) rfl rfl rfl (by decide +kernel) ⟨Nat.le_of_ble_eq_true rfl, Nat.le_of_ble_eq_true rfl⟩) (gPreV hK (g_rf hK hP (ci := 3) (q0 := 17) rfl rfl) (hP.sub [17, 18, 19, 20, 21, 22, 23, 24, 25, 26, 27, 28, 29, 30, 31, 32, 1, 2, 3, 4, 5, 6, 7, 8, 9, 10, 11, 12, 13, 14, 15, 16] rfl)) rfl rfl hl.1 rfl (lv_room (Nat.le_of_ble_eq_true rfl)) dX7_save_8 ⟨by omega, by omega⟩) hS (fun q _ h => aS_m uSf_lt h) (fun q h => aS_m uSf_lt h) (fun H locs hPn hz9 hk9 hS => ?_)
  have hP : va_P D vwCl (uw cA U rg c c rz hd ct rs dt mf mn tc tl to kd fi se ta nu lc ln sv er) H := uw_S hA hP hPn hk9
  have hD : va_D (aS 189 U) (uw cA U rg c c rz hd ct rs dt mf mn tc tl to kd fi se ta nu lc ln sv er) := uwD hA
  refine lv_aload_n hx hb dX7_save_11 rfl (lv_at hl 0 rfl) ?_
  refine lv_iconst (v := nI (1)) hx hb dX7_save_12 gc_1 ?_
  refine g_put (ws' := uw cA U rg c c rz hd ct rs dt mf mn tc tl to kd fi se ta nu lc ln true er) hx hb hts hown hK hP hD hS 0 rfl rfl gu_wsX70 tyX7_ok nmX7 7 (by decide) gm_2_15 rfl rfl rfl (Nat.le_of_ble_eq_true rfl) rfl dX7_save_13 (fun H locs hP hD hS => ?_)
  refine lv_aload_n hx hb dX7_save_16 rfl (lv_at hl 0 rfl) ?_
  refine g_get (v := .ref (U 1)) hx hb hts hown hK hP 0 rfl rfl gu_wsX70 0 (by decide) gm_1_17 rfl dX7_save_17 ?_
  refine g_get (v := .ref (U 7)) hx hb hts hown hK hP 1 rfl rfl gu_wsX10 1 (by decide) gm_10_7 rfl dX7_save_20 ?_
  refine g_get (v := .int (nI (zcn c))) hx hb hts hown hK hP 7 rfl rfl gu_wsX00 9 (by decide) gm_48_22 rfl dX7_save_23 ?_
  exact g_iretW (v := nI (zcn c)) hx hb hr hlk hS dX7_save_26 (⟨rfl, hP⟩)

set_option maxHeartbeats 1000000 in
set_option maxRecDepth 100000 in
theorem c_X7_restore (l : Launch) (hlt : l.stackTraces = false) (D : va_G) (cA : Nat → ClassId) (AE : Nat → Prop) (adK adV sa : Nat → Nat) (U : Nat → Nat) (rg : Nat → Option Nat) (c z : CS) (rz : Nat → CS) (hd ct : Nat) (rs dt : Int32) (mf : Nat → Nat → Int32) (mn : Nat) (tc : Nat → Nat) (tl to : Nat) (kd fi se : Int32) (ta : Nat) (nu : Int32) (lc : Nat → Int32) (ln : Nat) (sv : Bool) (er : Int32) (hA : aInj 189 U) (hFA : ∀ q, aS 189 U q → AE q) (hz : zOk c)  : vx_Met l yX7_restore (gw yX7_restore cX7_restore 1 (some .int)) ({ frames := 6, cells := 1, slots := 6, locals := 102 } : Room) (gPx [.ref (U 0)] (fun H => va_P D vwCl (uw cA U rg c z rz hd ct rs dt mf mn tc tl to kd fi se ta nu lc ln sv er) H) D cA AE adK adV sa) (wrI (fun r H => sv = true ∧ r = nI (zcn z) ∧ va_P D vwCl (uw cA U rg z z rz hd 0 rs dt mf mn tc tl to kd fi se ta nu lc ln sv er) H) (aS 189 U)) (gXC (fun E H => (E = xISE ∧ sv = false ∧ va_P D vwCl (uw cA U rg c z rz hd ct rs dt mf mn tc tl to kd fi se ta nu lc ln sv er) H)) (aS 189 U)) 1 6 (aS 189 U) := by
  refine gOfv (by decide) (Nat.le_of_ble_eq_true rfl) ?_
  intro p e s m below meth c9 ls hx hb hml hr hlk hown hts hte hP hK hE hl
  have hl : lv_has ls 1 [(0, .ref (U 0))] := hl
  have hz9 := hz
  obtain ⟨hjn, hcn, hrl, hrw, hck, htn⟩ := hz
  have hD : va_D (aS 189 U) (uw cA U rg c z rz hd ct rs dt mf mn tc tl to kd fi se ta nu lc ln sv er) := uwD hA
  have hS : va_S (aS 189 U) s.heap s.heap [] := va_S.rf
  skip
  refine lv_aload_n hx hb dX7_restore_0 rfl (lv_at hl 0 rfl) ?_
  refine g_get (v := .int (b2i (sv))) hx hb hts hown hK hP 0 rfl rfl gu_wsX70 7 (by decide) gm_2_15 rfl dX7_restore_1 ?_
  refine g_if_ne (P := sv = false) (tgt := 18) hx hb dX7_restore_4 (by decide) b2i_0 (fun c_1 => ?_) (fun c_1 => ?_)
  · have c_1 : sv = true := eq_true_of_ne_false c_1
    refine lv_aload_n hx hb dX7_restore_18 rfl (lv_at hl 0 rfl) ?_
    refine g_get (v := .ref (U 1)) hx hb hts hown hK hP 0 rfl rfl gu_wsX70 0 (by decide) gm_1_17 rfl dX7_restore_19 ?_
    refine lv_aload_n hx hb dX7_restore_22 rfl (lv_at hl 0 rfl) ?_
    refine g_get (v := .ref (U 17)) hx hb hts hown hK hP 0 rfl rfl gu_wsX70 1 (by decide) gm_1_18 rfl dX7_restore_23 ?_
    refine wr_callv (va_runV (As := [.ref (U 17)]) (rest := []) ⟨hx, hb, hml, hown, hts⟩ (c_X1_copyFrom l D cA (fun k => U (k + 1)) c z (aInj_s hA 1 (by decide))) (cwV 1 hts (gWV gm_53_8 gm_7_12 gm_7_13 gm_1_16 gm_7_14) rfl rfl rfl (by decide +kernel) ⟨Nat.le_of_ble_eq_true rfl, Nat.le_of_ble_eq_true rfl⟩) (gPreV hK (g_rf hK hP (ci := 3) (q0 := 1) rfl rfl) (hP.sub [1, 2, 3, 4, 5, 6, 7, 8, 9, 10, 11, 12, 13, 14, 15, 16, 17, 18, 19, 20, 21, 22, 23, 24, 25, 26, 27, 28, 29, 30, 31, 32] rfl)) rfl rfl hl.1 rfl (lv_room (Nat.le_of_ble_eq_true rfl)) dX7_restore_26 ⟨by omega, by omega⟩) hS (fun q _ h => aS_up (m := 32) (a := 1) (by decide) h) (fun q h => aS_up (m := 32) (a := 1) (by decide) h) (fun H locs hPn hz9 hk9 hS => ?_)
    have hP : va_P D vwCl (uw cA U rg z z rz hd ct rs dt mf mn tc tl to kd fi se ta nu lc ln sv er) H := uw_S2 hA hP hPn hk9
    have hD : va_D (aS 189 U) (uw cA U rg z z rz hd ct rs dt mf mn tc tl to kd fi se ta nu lc ln sv er) := uwD hA
    refine lv_aload_n hx hb dX7_restore_29 rfl (lv_at hl 0 rfl) ?_
    refine g_get (v := .ref (U 33)) hx hb hts hown hK hP 0 rfl rfl gu_wsX70 2 (by decide) gm_1_22 rfl dX7_restore_30 ?_
    refine lv_iconst (v := nI (0)) hx hb dX7_restore_33 gc_0 ?_
    refine g_put (ws' := uw cA U rg z z rz hd 0 rs dt mf mn tc tl to kd fi se ta nu lc ln sv er) hx hb hts hown hK hP hD hS 33 rfl rfl gu_wsX20 tyX2_ok nmX2 2 (by decide) gm_49_1 rfl rfl rfl (Nat.le_of_ble_eq_true rfl) rfl dX7_restore_34 (fun H locs hP hD hS => ?_)
    refine lv_aload_n hx hb dX7_restore_37 rfl (lv_at hl 0 rfl) ?_
    refine g_get (v := .ref (U 1)) hx hb hts hown hK hP 0 rfl rfl gu_wsX70 0 (by decide) gm_1_17 rfl dX7_restore_38 ?_
    refine g_get (v := .ref (U 7)) hx hb hts hown hK hP 1 rfl rfl gu_wsX10 1 (by decide) gm_10_7 rfl dX7_restore_41 ?_
    refine g_get (v := .int (nI (zcn z))) hx hb hts hown hK hP 7 rfl rfl gu_wsX00 9 (by decide) gm_48_22 rfl dX7_restore_44 ?_
    exact vx_ret (W.widen (k := 1) (n := 6) (by decide) (by decide) (g_iretW (v := nI (zcn z)) hx hb hr hlk hS dX7_restore_47 (⟨c_1, rfl, hP⟩)))
  · exact g_throwSW hx hb hlt hE hFA hown (by decide +kernel) th_ISE (List.mem_of_getElem? (i := 30) rfl) hS (hl.1.trans hml.symm) dX7_restore_7 dX7_restore_10 dX7_restore_11 dX7_restore_14 dX7_restore_17 hte (by decide) (by decide) (by decide) (by decide) hlk (fun H1 hz8 hk8 => ⟨rfl, c_1, vP_grow hP hk8⟩) (by decide) (by decide)

