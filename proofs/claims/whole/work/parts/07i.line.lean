def lwd (cA : Nat → ClassId) (B : Nat → Nat) (lc : Nat → Int32) (ln : Int32) (kf : Nat → Nat → Int32) (rw : Nat → Nat) (cn rl : Nat) : va_W := (B 0, .inr (6, [.ref (B 1), .int ln])) :: (B 1, .inl (cA 1, 32, .inl lc)) :: kw cA (fun k => B (k + 2)) kf rw cn rl
theorem lwdD {cA : Nat → ClassId} {B : Nat → Nat} {lc : Nat → Int32} {ln : Int32} {kf : Nat → Nat → Int32} {rw : Nat → Nat} {cn rl : Nat} (h : aInj 12 B) : va_D (aS 12 B) (lwd cA B lc ln kf rw cn rl) := wD h rfl
theorem tn_d2 {n : Nat} {ts : TS} (h : 10 ≤ n) (h2 : n < 100) : tn n ts = tw (48 + n % 10) (tw (48 + n / 10 % 10) ts) := by rw [tn_hi (by omega), tn_lo (by omega)]
theorem tn_d3 {n : Nat} {ts : TS} (h : 100 ≤ n) (h2 : n < 1000) : tn n ts = tw (48 + n % 10) (tw (48 + n / 10 % 10) (tw (48 + n / 100) ts)) := by
  rw [tn_hi (by omega), tn_hi (by omega), tn_lo (by omega), show n / 10 / 10 % 10 = n / 100 by omega]
theorem hs_0 (k : Nat) : hs 0 k = false := by
  have e : (0 : Int32) >>> (nI k &&& 31) = 0 := by simp
  unfold hs
  rw [e]
  decide
theorem lpS_0 {ts : TS} : ∀ k, lpS 0 ts k = ts
  | 0 => rfl
  | k + 1 => by rw [lpS, if_neg (by rw [hs_0]; decide), lpS_0 k]
theorem fnd_mo {p : Nat → Bool} {n j : Nat} (h : fnd p n = some j) : ∀ m, n ≤ m → fnd p m = some j
  | 0, q => by rw [show n = 0 by omega] at h; exact h
  | m + 1, q => by
    rcases Nat.lt_or_ge m n with z | z
    · rw [show m + 1 = n by omega]; exact h
    · rw [fnd, fnd_mo h m z]
def ahF (panel : Int32) (k : Nat) : Nat := if (fnd (hs panel) k).isNone = true then 91 else 44
theorem ahF_lt (panel : Int32) (k : Nat) : ahF panel k < 100 := by unfold ahF; split <;> decide
theorem ahF_no {panel : Int32} {k : Nat} (h : hs panel k = false) : ahF panel (k + 1) = ahF panel k := by
  unfold ahF
  cases e : fnd (hs panel) k with
  | none => rw [fnd_succ_none e h]
  | some j => rw [fnd_mo e (k + 1) (Nat.le_succ k)]
theorem ahF_in {panel : Int32} {k : Nat} (h : hs panel k = true) : ahF panel (k + 1) = 44 := by
  unfold ahF
  cases e : fnd (hs panel) (k + 1) with
  | none => exact absurd (fnd_some.fnd_no e k (Nat.lt_succ_self k)) (by rw [h]; decide)
  | some j => rfl
theorem lpS_in {panel : Int32} {ts : TS} {k : Nat} (h : hs panel k = true) (hk : k < 9) : lpS panel ts (k + 1) = tn k (tw (ahF panel k) (lpS panel ts k)) := by
  rw [lpS, if_pos h]
  have e2 : (if k = lowM panel then 91 else 44) = ahF panel k := by
    unfold ahF lowM
    cases e : fnd (hs panel) k with
    | none =>
      rw [fnd_stop e h 9 hk]
      exact (if_pos rfl).trans (if_pos rfl).symm
    | some j =>
      rw [fnd_mo e 9 (by omega)]
      have := fnd_lt e
      exact (if_neg (by show ¬ k = j; omega)).trans (if_neg (by simp)).symm
  rw [e2]
theorem lpS_no {panel : Int32} {ts : TS} {k : Nat} (h : hs panel k = false) : lpS panel ts (k + 1) = lpS panel ts k := by rw [lpS, if_neg (by rw [h]; decide)]
def lwK (ts : TS) : Prop := True

set_option maxHeartbeats 1000000 in
set_option maxRecDepth 100000 in
theorem c_X4_add (l : Launch) (D : va_G) (cA : Nat → ClassId) (B : Nat → Nat) (lc : Nat → Int32) (ln : Nat) (kf : Nat → Nat → Int32) (rw : Nat → Nat) (cn rl : Nat) (w : Nat) (hA : aInj 12 B) (hw : w < 65536) (hl32 : ln < 32) : Met l yX4_add (gw yX4_add cX4_add 2 none) ({ frames := 0, cells := 0, slots := 0, locals := 0 } : Room) (gPc [.ref (B 0), .int (nI (w))] (fun H => va_P D vwCl (lwd cA B (lc) (nI (ln)) (kf) (rw) (cn) (rl)) H) D cA) (wrV (fun H => va_P D vwCl (lwd cA B (tw w ((lc, ln) : TS)).1 (nI (tw w ((lc, ln) : TS)).2) kf rw cn rl) H) (aS 12 B)) 0 0 (aS 12 B) := by
  refine gOf (by decide) (Nat.le_of_ble_eq_true rfl) ?_
  intro p e s m below meth c ls hx hb hml hr hlk hown hts hnm hP hK hl
  have hl : lv_has ls 2 [(0, .ref (B 0)), (1, .int (nI (w)))] := hl
  have hD : va_D (aS 12 B) (lwd cA B (lc) (nI (ln)) (kf) (rw) (cn) (rl)) := lwdD hA
  have hS : va_S (aS 12 B) s.heap s.heap [] := va_S.rf
  refine lv_aload_n hx hb dX4_add_0 rfl (lv_at hl 0 rfl) ?_
  refine g_get (v := .int (nI (ln))) hx hb hts hown hK hP 0 rfl rfl gu_wsX40 1 (by decide) gm_5_9 rfl dX4_add_1 ?_
  refine lv_bipush (v := nI (32)) hx hb dX4_add_4 gb_32 ?_
  refine g_icmp_ge (P := 32 ≤ ln) (tgt := 29) hx hb dX4_add_6 (by decide) (nI_leI (by omega) (by omega)) (fun c_1 => ?_) (fun c_1 => ?_)
  · have d_1 : ¬ ln < 32 := Nat.not_lt.mpr c_1
    omega
  · have d_1 : ln < 32 := Nat.not_le.mp c_1
    refine lv_aload_n hx hb dX4_add_9 rfl (lv_at hl 0 rfl) ?_
    refine g_get (v := .ref (B 1)) hx hb hts hown hK hP 0 rfl rfl gu_wsX40 0 (by decide) gm_5_8 rfl dX4_add_10 ?_
    refine lv_aload_n hx hb dX4_add_13 rfl (lv_at hl 0 rfl) ?_
    refine g_get (v := .int (nI (ln))) hx hb hts hown hK hP 0 rfl rfl gu_wsX40 1 (by decide) gm_5_9 rfl dX4_add_14 ?_
    refine lv_iload_n hx hb dX4_add_17 rfl (lv_at hl 1 rfl) ?_
    refine g_cast (ws' := lwd cA B (upd (lc) (ln) (nI (w))) (nI (ln)) (kf) (rw) (cn) (rl)) hx hb hK hP hD hS 1 rfl (by omega) (by decide) (by omega) (by first | rfl | (rw [updN_nI]; rfl)) dX4_add_18 (fun H locs hP hD hS => ?_)
    refine lv_aload_n hx hb dX4_add_19 rfl (lv_at hl 0 rfl) ?_
    refine lv_dup hx hb dX4_add_20 rfl ?_
    refine g_get (v := .int (nI (ln))) hx hb hts hown hK hP 0 rfl rfl gu_wsX40 1 (by decide) gm_5_9 rfl dX4_add_21 ?_
    refine lv_iconst (v := nI (1)) hx hb dX4_add_24 gc_1 ?_
    refine g_iadd hx hb dX4_add_25 ?_
    refine g_put (ws' := lwd cA B (upd (lc) (ln) (nI (w))) (nI (ln + 1)) (kf) (rw) (cn) (rl)) hx hb hts hown hK hP hD hS 0 rfl rfl gu_wsX40 tyX4_ok nmX4 1 (by decide) gm_5_9 rfl rfl rfl (Nat.le_of_ble_eq_true rfl) (by first | rfl | (rw [updN_nI]; rfl)) dX4_add_26 (fun H locs hP hD hS => ?_)
    exact g_vretW hx hb hr hlk hS dX4_add_29 (hP)

set_option maxHeartbeats 1000000 in
set_option maxRecDepth 100000 in
theorem c_X4_addNumber (l : Launch) (D : va_G) (cA : Nat → ClassId) (B : Nat → Nat) (lc : Nat → Int32) (ln : Nat) (kf : Nat → Nat → Int32) (rw : Nat → Nat) (cn rl : Nat) (n : Nat) (hA : aInj 12 B) (hn : n ≤ 999) (hl32 : (tn n ((lc, ln) : TS)).2 ≤ 32) : Met l yX4_addNumber (gw yX4_addNumber cX4_addNumber 2 none) ({ frames := 1, cells := 0, slots := 0, locals := 21 } : Room) (gPc [.ref (B 0), .int (nI (n))] (fun H => va_P D vwCl (lwd cA B (lc) (nI (ln)) (kf) (rw) (cn) (rl)) H) D cA) (wrV (fun H => va_P D vwCl (lwd cA B (tn n ((lc, ln) : TS)).1 (nI (tn n ((lc, ln) : TS)).2) kf rw cn rl) H) (aS 12 B)) 0 0 (aS 12 B) := by
  refine gOf (by decide) (Nat.le_of_ble_eq_true rfl) ?_
  intro p e s m below meth c ls hx hb hml hr hlk hown hts hnm hP hK hl
  have hl : lv_has ls 2 [(0, .ref (B 0)), (1, .int (nI (n)))] := hl
  have hD : va_D (aS 12 B) (lwd cA B (lc) (nI (ln)) (kf) (rw) (cn) (rl)) := lwdD hA
  have hS : va_S (aS 12 B) s.heap s.heap [] := va_S.rf
  have htb_1 : (((lc, ln) : TS)).2 ≤ ln := (Nat.le_refl _)
  refine lv_iload_n hx hb dX4_addNumber_0 rfl (lv_at hl 1 rfl) ?_
  refine lv_bipush (v := nI (100)) hx hb dX4_addNumber_1 gb_100 ?_
  refine g_icmp_lt (P := n < 100) (tgt := 18) hx hb dX4_addNumber_3 (by decide) (nI_ltI (by omega) (by omega)) (fun c_2 => ?_) (fun c_2 => ?_)
  · have d_2 : ¬ 100 ≤ n := Nat.not_le.mpr c_2
    refine lv_iload_n hx hb dX4_addNumber_18 rfl (lv_at hl 1 rfl) ?_
    refine lv_bipush (v := nI (10)) hx hb dX4_addNumber_19 gb_10 ?_
    refine g_icmp_lt (P := n < 10) (tgt := 39) hx hb dX4_addNumber_21 (by decide) (nI_ltI (by omega) (by omega)) (fun c_3 => ?_) (fun c_3 => ?_)
    · have d_3 : ¬ 10 ≤ n := Nat.not_le.mpr c_3
      have hl9 : ln + 1 ≤ 32 := by rw [tn_lo (by omega)] at hl32; exact hl32
      refine lv_aload_n hx hb dX4_addNumber_39 rfl (lv_at hl 0 rfl) ?_
      refine lv_bipush (v := nI (48)) hx hb dX4_addNumber_40 gb_48 ?_
      refine lv_iload_n hx hb dX4_addNumber_42 rfl (lv_at hl 1 rfl) ?_
      refine lv_bipush (v := nI (10)) hx hb dX4_addNumber_43 gb_10 ?_
      refine g_irem hx hb (by omega) (by omega) (by omega) dX4_addNumber_45 ?_
      refine g_iadd hx hb dX4_addNumber_46 ?_
      refine lv_i2c (v := nI ((48) + (n % 10))) hx hb dX4_addNumber_47 (i2c_n (by omega)) ?_
      refine wr_callv (va_runV (As := [.int (nI ((48) + (n % 10)))]) (rest := []) ⟨hx, hb, hml, hown, hts⟩ (c_X4_add l D cA B (((lc, ln) : TS)).1 (((lc, ln) : TS)).2 (kf) (rw) (cn) (rl) ((48) + (n % 10)) hA (by omega) (by omega)) (cwV 1 hts (gWV gm_36_13 gm_36_14 gm_36_15 gm_2_13 gm_36_16) rfl rfl rfl (by decide +kernel) ⟨Nat.le_of_ble_eq_true rfl, Nat.le_of_ble_eq_true rfl⟩) (gPreV hK (g_rf hK hP (ci := 6) (q0 := 0) rfl rfl) hP) rfl rfl hl.1 rfl (lv_room (Nat.le_of_ble_eq_true rfl)) dX4_addNumber_48 ⟨by omega, by omega⟩) hS (fun q _ h => h) (fun q h => h) (fun H locs hP hz9 hk9 hS => ?_)
      have hP : va_P D vwCl (lwd cA B ((tw ((48) + (n % 10)) (((lc, ln) : TS))).1) (nI ((tw ((48) + (n % 10)) (((lc, ln) : TS))).2)) (kf) (rw) (cn) (rl)) H := hP
      have hD : va_D (aS 12 B) (lwd cA B ((tw ((48) + (n % 10)) (((lc, ln) : TS))).1) (nI ((tw ((48) + (n % 10)) (((lc, ln) : TS))).2)) (kf) (rw) (cn) (rl)) := lwdD hA
      have htb_4 : (tw ((48) + (n % 10)) (((lc, ln) : TS))).2 ≤ ln + 1 := (by rw [tw_2]; omega)
      exact g_vretW hx hb hr hlk hS dX4_addNumber_51 (by have e9 : tn n ((lc, ln) : TS) = tw ((48) + (n % 10)) (((lc, ln) : TS)) := tn_lo (by omega) ; rw [e9]; exact hP)
    · have d_3 : 10 ≤ n := Nat.not_lt.mp c_3
      have hl9 : ln + 2 ≤ 32 := by rw [tn_d2 (by omega) (by omega)] at hl32; exact hl32
      refine lv_aload_n hx hb dX4_addNumber_24 rfl (lv_at hl 0 rfl) ?_
      refine lv_bipush (v := nI (48)) hx hb dX4_addNumber_25 gb_48 ?_
      refine lv_iload_n hx hb dX4_addNumber_27 rfl (lv_at hl 1 rfl) ?_
      refine lv_bipush (v := nI (10)) hx hb dX4_addNumber_28 gb_10 ?_
      refine g_idiv hx hb (by omega) (by omega) (by omega) dX4_addNumber_30 ?_
      refine lv_bipush (v := nI (10)) hx hb dX4_addNumber_31 gb_10 ?_
      refine g_irem hx hb (by omega) (by omega) (by omega) dX4_addNumber_33 ?_
      refine g_iadd hx hb dX4_addNumber_34 ?_
      refine lv_i2c (v := nI ((48) + ((n / 10) % (10)))) hx hb dX4_addNumber_35 (i2c_n (by omega)) ?_
      refine wr_callv (va_runV (As := [.int (nI ((48) + ((n / 10) % (10))))]) (rest := []) ⟨hx, hb, hml, hown, hts⟩ (c_X4_add l D cA B (((lc, ln) : TS)).1 (((lc, ln) : TS)).2 (kf) (rw) (cn) (rl) ((48) + ((n / 10) % (10))) hA (by omega) (by omega)) (cwV 1 hts (gWV gm_36_13 gm_36_14 gm_36_15 gm_2_13 gm_36_16) rfl rfl rfl (by decide +kernel) ⟨Nat.le_of_ble_eq_true rfl, Nat.le_of_ble_eq_true rfl⟩) (gPreV hK (g_rf hK hP (ci := 6) (q0 := 0) rfl rfl) hP) rfl rfl hl.1 rfl (lv_room (Nat.le_of_ble_eq_true rfl)) dX4_addNumber_36 ⟨by omega, by omega⟩) hS (fun q _ h => h) (fun q h => h) (fun H locs hP hz9 hk9 hS => ?_)
      have hP : va_P D vwCl (lwd cA B ((tw ((48) + ((n / 10) % (10))) (((lc, ln) : TS))).1) (nI ((tw ((48) + ((n / 10) % (10))) (((lc, ln) : TS))).2)) (kf) (rw) (cn) (rl)) H := hP
      have hD : va_D (aS 12 B) (lwd cA B ((tw ((48) + ((n / 10) % (10))) (((lc, ln) : TS))).1) (nI ((tw ((48) + ((n / 10) % (10))) (((lc, ln) : TS))).2)) (kf) (rw) (cn) (rl)) := lwdD hA
      have htb_5 : (tw ((48) + ((n / 10) % (10))) (((lc, ln) : TS))).2 ≤ ln + 1 := (by rw [tw_2]; omega)
      refine lv_aload_n hx hb dX4_addNumber_39 rfl (lv_at hl 0 rfl) ?_
      refine lv_bipush (v := nI (48)) hx hb dX4_addNumber_40 gb_48 ?_
      refine lv_iload_n hx hb dX4_addNumber_42 rfl (lv_at hl 1 rfl) ?_
      refine lv_bipush (v := nI (10)) hx hb dX4_addNumber_43 gb_10 ?_
      refine g_irem hx hb (by omega) (by omega) (by omega) dX4_addNumber_45 ?_
      refine g_iadd hx hb dX4_addNumber_46 ?_
      refine lv_i2c (v := nI ((48) + (n % 10))) hx hb dX4_addNumber_47 (i2c_n (by omega)) ?_
      refine wr_callv (va_runV (As := [.int (nI ((48) + (n % 10)))]) (rest := []) ⟨hx, hb, hml, hown, hts⟩ (c_X4_add l D cA B (tw ((48) + ((n / 10) % (10))) (((lc, ln) : TS))).1 (tw ((48) + ((n / 10) % (10))) (((lc, ln) : TS))).2 (kf) (rw) (cn) (rl) ((48) + (n % 10)) hA (by omega) (by omega)) (cwV 1 hts (gWV gm_36_13 gm_36_14 gm_36_15 gm_2_13 gm_36_16) rfl rfl rfl (by decide +kernel) ⟨Nat.le_of_ble_eq_true rfl, Nat.le_of_ble_eq_true rfl⟩) (gPreV hK (g_rf hK hP (ci := 6) (q0 := 0) rfl rfl) hP) rfl rfl hl.1 rfl (lv_room (Nat.le_of_ble_eq_true rfl)) dX4_addNumber_48 ⟨by omega, by omega⟩) hS (fun q _ h => h) (fun q h => h) (fun H locs hP hz9 hk9 hS => ?_)
      have hP : va_P D vwCl (lwd cA B ((tw ((48) + (n % 10)) (tw ((48) + ((n / 10) % (10))) (((lc, ln) : TS)))).1) (nI ((tw ((48) + (n % 10)) (tw ((48) + ((n / 10) % (10))) (((lc, ln) : TS)))).2)) (kf) (rw) (cn) (rl)) H := hP
      have hD : va_D (aS 12 B) (lwd cA B ((tw ((48) + (n % 10)) (tw ((48) + ((n / 10) % (10))) (((lc, ln) : TS)))).1) (nI ((tw ((48) + (n % 10)) (tw ((48) + ((n / 10) % (10))) (((lc, ln) : TS)))).2)) (kf) (rw) (cn) (rl)) := lwdD hA
      have htb_6 : (tw ((48) + (n % 10)) (tw ((48) + ((n / 10) % (10))) (((lc, ln) : TS)))).2 ≤ ln + 1 + 1 := (by rw [tw_2]; omega)
      exact g_vretW hx hb hr hlk hS dX4_addNumber_51 (by have e9 : tn n ((lc, ln) : TS) = tw ((48) + (n % 10)) (tw ((48) + ((n / 10) % (10))) (((lc, ln) : TS))) := tn_d2 (by omega) (by omega) ; rw [e9]; exact hP)
  · have d_2 : 100 ≤ n := Nat.not_lt.mp c_2
    have hl9 : ln + 3 ≤ 32 := by rw [tn_d3 (by omega) (by omega)] at hl32; exact hl32
    refine lv_aload_n hx hb dX4_addNumber_6 rfl (lv_at hl 0 rfl) ?_
    refine lv_bipush (v := nI (48)) hx hb dX4_addNumber_7 gb_48 ?_
    refine lv_iload_n hx hb dX4_addNumber_9 rfl (lv_at hl 1 rfl) ?_
    refine lv_bipush (v := nI (100)) hx hb dX4_addNumber_10 gb_100 ?_
    refine g_idiv hx hb (by omega) (by omega) (by omega) dX4_addNumber_12 ?_
    refine g_iadd hx hb dX4_addNumber_13 ?_
    refine lv_i2c (v := nI ((48) + (n / 100))) hx hb dX4_addNumber_14 (i2c_n (by omega)) ?_
    refine wr_callv (va_runV (As := [.int (nI ((48) + (n / 100)))]) (rest := []) ⟨hx, hb, hml, hown, hts⟩ (c_X4_add l D cA B (((lc, ln) : TS)).1 (((lc, ln) : TS)).2 (kf) (rw) (cn) (rl) ((48) + (n / 100)) hA (by omega) (by omega)) (cwV 1 hts (gWV gm_36_13 gm_36_14 gm_36_15 gm_2_13 gm_36_16) rfl rfl rfl (by decide +kernel) ⟨Nat.le_of_ble_eq_true rfl, Nat.le_of_ble_eq_true rfl⟩) (gPreV hK (g_rf hK hP (ci := 6) (q0 := 0) rfl rfl) hP) rfl rfl hl.1 rfl (lv_room (Nat.le_of_ble_eq_true rfl)) dX4_addNumber_15 ⟨by omega, by omega⟩) hS (fun q _ h => h) (fun q h => h) (fun H locs hP hz9 hk9 hS => ?_)
    have hP : va_P D vwCl (lwd cA B ((tw ((48) + (n / 100)) (((lc, ln) : TS))).1) (nI ((tw ((48) + (n / 100)) (((lc, ln) : TS))).2)) (kf) (rw) (cn) (rl)) H := hP
    have hD : va_D (aS 12 B) (lwd cA B ((tw ((48) + (n / 100)) (((lc, ln) : TS))).1) (nI ((tw ((48) + (n / 100)) (((lc, ln) : TS))).2)) (kf) (rw) (cn) (rl)) := lwdD hA
    have htb_7 : (tw ((48) + (n / 100)) (((lc, ln) : TS))).2 ≤ ln + 1 := (by rw [tw_2]; omega)
    refine lv_iload_n hx hb dX4_addNumber_18 rfl (lv_at hl 1 rfl) ?_
    refine lv_bipush (v := nI (10)) hx hb dX4_addNumber_19 gb_10 ?_
    refine g_icmp_lt (P := n < 10) (tgt := 39) hx hb dX4_addNumber_21 (by decide) (nI_ltI (by omega) (by omega)) (fun c_8 => ?_) (fun c_8 => ?_)
    · have d_8 : ¬ 10 ≤ n := Nat.not_le.mpr c_8
      omega
    · have d_8 : 10 ≤ n := Nat.not_lt.mp c_8
      refine lv_aload_n hx hb dX4_addNumber_24 rfl (lv_at hl 0 rfl) ?_
      refine lv_bipush (v := nI (48)) hx hb dX4_addNumber_25 gb_48 ?_
      refine lv_iload_n hx hb dX4_addNumber_27 rfl (lv_at hl 1 rfl) ?_
      refine lv_bipush (v := nI (10)) hx hb dX4_addNumber_28 gb_10 ?_
      refine g_idiv hx hb (by omega) (by omega) (by omega) dX4_addNumber_30 ?_
      refine lv_bipush (v := nI (10)) hx hb dX4_addNumber_31 gb_10 ?_
      refine g_irem hx hb (by omega) (by omega) (by omega) dX4_addNumber_33 ?_
      refine g_iadd hx hb dX4_addNumber_34 ?_
      refine lv_i2c (v := nI ((48) + ((n / 10) % (10)))) hx hb dX4_addNumber_35 (i2c_n (by omega)) ?_
      refine wr_callv (va_runV (As := [.int (nI ((48) + ((n / 10) % (10))))]) (rest := []) ⟨hx, hb, hml, hown, hts⟩ (c_X4_add l D cA B (tw ((48) + (n / 100)) (((lc, ln) : TS))).1 (tw ((48) + (n / 100)) (((lc, ln) : TS))).2 (kf) (rw) (cn) (rl) ((48) + ((n / 10) % (10))) hA (by omega) (by omega)) (cwV 1 hts (gWV gm_36_13 gm_36_14 gm_36_15 gm_2_13 gm_36_16) rfl rfl rfl (by decide +kernel) ⟨Nat.le_of_ble_eq_true rfl, Nat.le_of_ble_eq_true rfl⟩) (gPreV hK (g_rf hK hP (ci := 6) (q0 := 0) rfl rfl) hP) rfl rfl hl.1 rfl (lv_room (Nat.le_of_ble_eq_true rfl)) dX4_addNumber_36 ⟨by omega, by omega⟩) hS (fun q _ h => h) (fun q h => h) (fun H locs hP hz9 hk9 hS => ?_)
      have hP : va_P D vwCl (lwd cA B ((tw ((48) + ((n / 10) % (10))) (tw ((48) + (n / 100)) (((lc, ln) : TS)))).1) (nI ((tw ((48) + ((n / 10) % (10))) (tw ((48) + (n / 100)) (((lc, ln) : TS)))).2)) (kf) (rw) (cn) (rl)) H := hP
      have hD : va_D (aS 12 B) (lwd cA B ((tw ((48) + ((n / 10) % (10))) (tw ((48) + (n / 100)) (((lc, ln) : TS)))).1) (nI ((tw ((48) + ((n / 10) % (10))) (tw ((48) + (n / 100)) (((lc, ln) : TS)))).2)) (kf) (rw) (cn) (rl)) := lwdD hA
      have htb_9 : (tw ((48) + ((n / 10) % (10))) (tw ((48) + (n / 100)) (((lc, ln) : TS)))).2 ≤ ln + 1 + 1 := (by rw [tw_2]; omega)
      refine lv_aload_n hx hb dX4_addNumber_39 rfl (lv_at hl 0 rfl) ?_
      refine lv_bipush (v := nI (48)) hx hb dX4_addNumber_40 gb_48 ?_
      refine lv_iload_n hx hb dX4_addNumber_42 rfl (lv_at hl 1 rfl) ?_
      refine lv_bipush (v := nI (10)) hx hb dX4_addNumber_43 gb_10 ?_
      refine g_irem hx hb (by omega) (by omega) (by omega) dX4_addNumber_45 ?_
      refine g_iadd hx hb dX4_addNumber_46 ?_
      refine lv_i2c (v := nI ((48) + (n % 10))) hx hb dX4_addNumber_47 (i2c_n (by omega)) ?_
      refine wr_callv (va_runV (As := [.int (nI ((48) + (n % 10)))]) (rest := []) ⟨hx, hb, hml, hown, hts⟩ (c_X4_add l D cA B (tw ((48) + ((n / 10) % (10))) (tw ((48) + (n / 100)) (((lc, ln) : TS)))).1 (tw ((48) + ((n / 10) % (10))) (tw ((48) + (n / 100)) (((lc, ln) : TS)))).2 (kf) (rw) (cn) (rl) ((48) + (n % 10)) hA (by omega) (by omega)) (cwV 1 hts (gWV gm_36_13 gm_36_14 gm_36_15 gm_2_13 gm_36_16) rfl rfl rfl (by decide +kernel) ⟨Nat.le_of_ble_eq_true rfl, Nat.le_of_ble_eq_true rfl⟩) (gPreV hK (g_rf hK hP (ci := 6) (q0 := 0) rfl rfl) hP) rfl rfl hl.1 rfl (lv_room (Nat.le_of_ble_eq_true rfl)) dX4_addNumber_48 ⟨by omega, by omega⟩) hS (fun q _ h => h) (fun q h => h) (fun H locs hP hz9 hk9 hS => ?_)
      have hP : va_P D vwCl (lwd cA B ((tw ((48) + (n % 10)) (tw ((48) + ((n / 10) % (10))) (tw ((48) + (n / 100)) (((lc, ln) : TS))))).1) (nI ((tw ((48) + (n % 10)) (tw ((48) + ((n / 10) % (10))) (tw ((48) + (n / 100)) (((lc, ln) : TS))))).2)) (kf) (rw) (cn) (rl)) H := hP
      have hD : va_D (aS 12 B) (lwd cA B ((tw ((48) + (n % 10)) (tw ((48) + ((n / 10) % (10))) (tw ((48) + (n / 100)) (((lc, ln) : TS))))).1) (nI ((tw ((48) + (n % 10)) (tw ((48) + ((n / 10) % (10))) (tw ((48) + (n / 100)) (((lc, ln) : TS))))).2)) (kf) (rw) (cn) (rl)) := lwdD hA
      have htb_10 : (tw ((48) + (n % 10)) (tw ((48) + ((n / 10) % (10))) (tw ((48) + (n / 100)) (((lc, ln) : TS))))).2 ≤ ln + 1 + 1 + 1 := (by rw [tw_2]; omega)
      exact g_vretW hx hb hr hlk hS dX4_addNumber_51 (by have e9 : tn n ((lc, ln) : TS) = tw ((48) + (n % 10)) (tw ((48) + ((n / 10) % (10))) (tw ((48) + (n / 100)) (((lc, ln) : TS)))) := tn_d3 (by omega) (by omega) ; rw [e9]; exact hP)

set_option maxHeartbeats 1000000 in
set_option maxRecDepth 100000 in
theorem c_X4_addPanel (l : Launch) (D : va_G) (cA : Nat → ClassId) (B : Nat → Nat) (lc : Nat → Int32) (ln : Nat) (kf : Nat → Nat → Int32) (rw : Nat → Nat) (cn rl : Nat) (panel : Int32) (hA : aInj 12 B) (hl32 : ln + 19 ≤ 32) : Met l yX4_addPanel (gw yX4_addPanel cX4_addPanel 4 none) ({ frames := 2, cells := 0, slots := 0, locals := 42 } : Room) (gPc [.ref (B 0), .int (panel)] (fun H => va_P D vwCl (lwd cA B (lc) (nI (ln)) (kf) (rw) (cn) (rl)) H) D cA) (wrV (fun H => va_P D vwCl (lwd cA B (tw 93 (lpS panel ((lc, ln) : TS) 9)).1 (nI (tw 93 (lpS panel ((lc, ln) : TS) 9)).2) kf rw cn rl) H) (aS 12 B)) 0 0 (aS 12 B) := by
  refine gOf (by decide) (Nat.le_of_ble_eq_true rfl) ?_
  intro p e s m below meth c ls hx hb hml hr hlk hown hts hnm hP hK hl
  have hl : lv_has ls 4 [(0, .ref (B 0)), (1, .int (panel))] := hl
  have hD : va_D (aS 12 B) (lwd cA B (lc) (nI (ln)) (kf) (rw) (cn) (rl)) := lwdD hA
  have hS : va_S (aS 12 B) s.heap s.heap [] := va_S.rf
  refine lv_bipush (v := nI (91)) hx hb dX4_addPanel_0 gb_91 ?_
  refine lv_istore_n (lv' := [(2, .int (nI (91))), (0, .ref (B 0)), (1, .int (panel))]) hx hb dX4_addPanel_2 rfl hl (by decide) rfl (fun ls hl => ?_)
  refine lv_iconst (v := nI (0)) hx hb dX4_addPanel_3 gc_0 ?_
  refine lv_istore_n (lv' := [(3, .int (nI (0))), (2, .int (nI (91))), (0, .ref (B 0)), (1, .int (panel))]) hx hb dX4_addPanel_4 rfl hl (by decide) rfl (fun ls hl => ?_)
  have LP_7 : ∀ (n_2 i_1 : Nat) (x_3 x_4 X_5 : Int32) (F_6 : Nat → Int32) (H : Heap) (locs : List Loc), i_1 ≤ 9 → 9 + 1 ≤ i_1 + n_2 → x_3 = nI (i_1) → x_4 = nI (ahF panel i_1) → X_5 = nI ((lpS panel ((lc, ln) : TS) i_1).2) → F_6 = (lpS panel ((lc, ln) : TS) i_1).1 → va_P D vwCl (lwd cA B (F_6) (X_5) (kf) (rw) (cn) (rl)) H → va_S (aS 12 B) s.heap H locs → ∀ (ls : Array Slot), lv_has ls 4 [(3, .int (x_3)), (2, .int (x_4)), (0, .ref (B 0)), (1, .int (panel))] → W p l e ({ frames := 2, cells := 0, slots := 0, locals := 42 } : Room) s m ([.ref (B 0), .int (panel)] : List Value).toArray below meth c H locs 0 0 (MQ below (wrV (fun H => va_P D vwCl (lwd cA B (tw 93 (lpS panel ((lc, ln) : TS) 9)).1 (nI (tw 93 (lpS panel ((lc, ln) : TS) 9)).2) kf rw cn rl) H) (aS 12 B)) ([.ref (B 0), .int (panel)] : List Value).toArray s 0 0 (aS 12 B)) (F0 m 5 ls []) := by
    intro n_2
    induction n_2 with
    | zero => intro i_1 x_3 x_4 X_5 F_6 H locs h1 h2; exact absurd h2 (by omega)
    | succ n_2 ih_8 =>
      intro i_1 x_3 x_4 X_5 F_6 H locs h_9 h_10 e_11 e_12 e_13 e_14 hP hS ls hl
      subst e_11
      subst e_12
      subst e_13
      subst e_14
      have hD : va_D (aS 12 B) (lwd cA B ((lpS panel ((lc, ln) : TS) i_1).1) (nI ((lpS panel ((lc, ln) : TS) i_1).2)) (kf) (rw) (cn) (rl)) := lwdD hA
      have hah9 := ahF_lt panel i_1
      have hla9 := lpS_2 (panel := panel) (ts := ((lc, ln) : TS)) i_1 (by omega)
      have hla8 : (((lc, ln) : TS)).2 = ln := rfl
      have htb_15 : (lpS panel ((lc, ln) : TS) i_1).2 ≤ ln + 2 * i_1 := (by omega)
      refine lv_iload_n hx hb dX4_addPanel_5 rfl (lv_at hl 0 rfl) ?_
      refine lv_bipush (v := nI (9)) hx hb dX4_addPanel_6 gb_9 ?_
      refine g_icmp_ge (P := 9 ≤ i_1) (tgt := 38) hx hb dX4_addPanel_8 (by decide) (nI_leI (by omega) (by omega)) (fun c_16 => ?_) (fun c_16 => ?_)
      · have d_16 : ¬ i_1 < 9 := Nat.not_lt.mpr c_16
        have hN_17 : 9 = i_1 := by omega
        subst hN_17
        have hla7 := lpS_2 (panel := panel) (ts := ((lc, ln) : TS)) 9 (by decide)
        refine lv_aload_n hx hb dX4_addPanel_38 rfl (lv_at hl 2 rfl) ?_
        refine lv_bipush (v := nI (93)) hx hb dX4_addPanel_39 gb_93 ?_
        refine wr_callv (va_runV (As := [.int (nI (93))]) (rest := []) ⟨hx, hb, hml, hown, hts⟩ (c_X4_add l D cA B (lpS panel ((lc, ln) : TS) (9)).1 (lpS panel ((lc, ln) : TS) (9)).2 (kf) (rw) (cn) (rl) (93) hA (by omega) (by omega)) (cwV 1 hts (gWV gm_36_13 gm_36_14 gm_36_15 gm_2_13 gm_36_16) rfl rfl rfl (by decide +kernel) ⟨Nat.le_of_ble_eq_true rfl, Nat.le_of_ble_eq_true rfl⟩) (gPreV hK (g_rf hK hP (ci := 6) (q0 := 0) rfl rfl) hP) rfl rfl hl.1 rfl (lv_room (Nat.le_of_ble_eq_true rfl)) dX4_addPanel_41 ⟨by omega, by omega⟩) hS (fun q _ h => h) (fun q h => h) (fun H locs hP hz9 hk9 hS => ?_)
        have hP : va_P D vwCl (lwd cA B ((tw (93) (lpS panel ((lc, ln) : TS) (9))).1) (nI ((tw (93) (lpS panel ((lc, ln) : TS) (9))).2)) (kf) (rw) (cn) (rl)) H := hP
        have hD : va_D (aS 12 B) (lwd cA B ((tw (93) (lpS panel ((lc, ln) : TS) (9))).1) (nI ((tw (93) (lpS panel ((lc, ln) : TS) (9))).2)) (kf) (rw) (cn) (rl)) := lwdD hA
        exact g_vretW hx hb hr hlk hS dX4_addPanel_44 (hP)
      · have d_16 : i_1 < 9 := Nat.not_le.mp c_16
        refine lv_iload_n hx hb dX4_addPanel_11 rfl (lv_at hl 3 rfl) ?_
        refine lv_iload_n hx hb dX4_addPanel_12 rfl (lv_at hl 0 rfl) ?_
        refine rd_calle (va_runSN (As := [.int (panel), .int (nI (i_1))]) (rest := []) ⟨hx, hb, hml, hown, hts⟩ (c_X7_isIn l D cA (panel) (i_1)) ⟨(va_cnB 2 hts (gWN gm_12_9) rfl rfl rfl (hK.2 _ (List.mem_of_getElem? (i := 11) rfl)) (hts _ (List.mem_cons_of_mem _ gm_1_2)) (by decide +kernel) ⟨Nat.le_of_ble_eq_true rfl, Nat.le_of_ble_eq_true rfl⟩), hts _ (List.mem_cons_of_mem _ gm_12_8), trivial⟩ (gPreS hK trivial) rfl rfl hl.1 rfl (lv_room (Nat.le_of_ble_eq_true rfl)) dX4_addPanel_13 ⟨by omega, by omega⟩) ?_
        refine g_if_eq (P := hs (panel) (i_1) = false) (tgt := 32) hx hb dX4_addPanel_16 (by decide) b2i_0 (fun c_19 => ?_) (fun c_19 => ?_)
        · refine lv_iinc (v := nI (i_1 + 1)) (lv' := [(3, .int (nI (i_1 + 1))), (2, .int (nI (ahF panel i_1))), (0, .ref (B 0)), (1, .int (panel))]) hx hb dX4_addPanel_32 hl (k := 0) rfl (inc_1 _) (by decide) rfl (fun ls hl => ?_)
          refine lv_goto (tgt := 5) hx hb dX4_addPanel_35 (by decide) ?_
          exact ih_8 (i_1 + 1) _ _ (nI ((lpS panel ((lc, ln) : TS) i_1).2)) ((lpS panel ((lc, ln) : TS) i_1).1) H locs (by omega) (by omega) rfl (by rw [ahF_no c_19]) (by rw [lpS_no c_19]) (by rw [lpS_no c_19]) hP hS ls (lv_sub hl [0, 1, 2, 3] rfl)
        · have c_19 : hs (panel) (i_1) = true := eq_true_of_ne_false c_19
          refine lv_aload_n hx hb dX4_addPanel_19 rfl (lv_at hl 2 rfl) ?_
          refine lv_iload_n hx hb dX4_addPanel_20 rfl (lv_at hl 1 rfl) ?_
          refine wr_callv (va_runV (As := [.int (nI (ahF panel i_1))]) (rest := []) ⟨hx, hb, hml, hown, hts⟩ (c_X4_add l D cA B (lpS panel ((lc, ln) : TS) i_1).1 (lpS panel ((lc, ln) : TS) i_1).2 (kf) (rw) (cn) (rl) (ahF panel i_1) hA (by omega) (by omega)) (cwV 1 hts (gWV gm_36_13 gm_36_14 gm_36_15 gm_2_13 gm_36_16) rfl rfl rfl (by decide +kernel) ⟨Nat.le_of_ble_eq_true rfl, Nat.le_of_ble_eq_true rfl⟩) (gPreV hK (g_rf hK hP (ci := 6) (q0 := 0) rfl rfl) hP) rfl rfl hl.1 rfl (lv_room (Nat.le_of_ble_eq_true rfl)) dX4_addPanel_21 ⟨by omega, by omega⟩) hS (fun q _ h => h) (fun q h => h) (fun H locs hP hz9 hk9 hS => ?_)
          have hP : va_P D vwCl (lwd cA B ((tw (ahF panel i_1) (lpS panel ((lc, ln) : TS) i_1)).1) (nI ((tw (ahF panel i_1) (lpS panel ((lc, ln) : TS) i_1)).2)) (kf) (rw) (cn) (rl)) H := hP
          have hD : va_D (aS 12 B) (lwd cA B ((tw (ahF panel i_1) (lpS panel ((lc, ln) : TS) i_1)).1) (nI ((tw (ahF panel i_1) (lpS panel ((lc, ln) : TS) i_1)).2)) (kf) (rw) (cn) (rl)) := lwdD hA
          have htb_20 : (tw (ahF panel i_1) (lpS panel ((lc, ln) : TS) i_1)).2 ≤ ln + 2 * i_1 + 1 := (by rw [tw_2]; omega)
          refine lv_aload_n hx hb dX4_addPanel_24 rfl (lv_at hl 2 rfl) ?_
          refine lv_iload_n hx hb dX4_addPanel_25 rfl (lv_at hl 0 rfl) ?_
          refine wr_callv (va_runV (As := [.int (nI (i_1))]) (rest := []) ⟨hx, hb, hml, hown, hts⟩ (c_X4_addNumber l D cA B (tw (ahF panel i_1) (lpS panel ((lc, ln) : TS) i_1)).1 (tw (ahF panel i_1) (lpS panel ((lc, ln) : TS) i_1)).2 (kf) (rw) (cn) (rl) (i_1) hA (by omega) (show (tn (i_1) (tw (ahF panel i_1) (lpS panel ((lc, ln) : TS) i_1))).2 ≤ 32 by have q9 := (tn_29 (ts := tw (ahF panel i_1) (lpS panel ((lc, ln) : TS) i_1)) (n := i_1) (by omega)); omega)) (cwV 1 hts (gWV gm_36_9 gm_36_10 gm_36_11 gm_2_13 gm_36_12) rfl rfl rfl (by decide +kernel) ⟨Nat.le_of_ble_eq_true rfl, Nat.le_of_ble_eq_true rfl⟩) (gPreV hK (g_rf hK hP (ci := 6) (q0 := 0) rfl rfl) hP) rfl rfl hl.1 rfl (lv_room (Nat.le_of_ble_eq_true rfl)) dX4_addPanel_26 ⟨by omega, by omega⟩) hS (fun q _ h => h) (fun q h => h) (fun H locs hP hz9 hk9 hS => ?_)
          have hP : va_P D vwCl (lwd cA B ((tn (i_1) (tw (ahF panel i_1) (lpS panel ((lc, ln) : TS) i_1))).1) (nI ((tn (i_1) (tw (ahF panel i_1) (lpS panel ((lc, ln) : TS) i_1))).2)) (kf) (rw) (cn) (rl)) H := hP
          have hD : va_D (aS 12 B) (lwd cA B ((tn (i_1) (tw (ahF panel i_1) (lpS panel ((lc, ln) : TS) i_1))).1) (nI ((tn (i_1) (tw (ahF panel i_1) (lpS panel ((lc, ln) : TS) i_1))).2)) (kf) (rw) (cn) (rl)) := lwdD hA
          have htb_21 : (tn (i_1) (tw (ahF panel i_1) (lpS panel ((lc, ln) : TS) i_1))).2 ≤ ln + 2 * i_1 + 1 + 1 := (by rw [tn_29 (by omega)]; omega)
          refine lv_bipush (v := nI (44)) hx hb dX4_addPanel_29 gb_44 ?_
          refine lv_istore_n (lv' := [(2, .int (nI (44))), (3, .int (nI (i_1))), (0, .ref (B 0)), (1, .int (panel))]) hx hb dX4_addPanel_31 rfl hl (by decide) rfl (fun ls hl => ?_)
          refine lv_iinc (v := nI (i_1 + 1)) (lv' := [(3, .int (nI (i_1 + 1))), (2, .int (nI (44))), (0, .ref (B 0)), (1, .int (panel))]) hx hb dX4_addPanel_32 hl (k := 1) rfl (inc_1 _) (by decide) rfl (fun ls hl => ?_)
          refine lv_goto (tgt := 5) hx hb dX4_addPanel_35 (by decide) ?_
          exact ih_8 (i_1 + 1) _ _ (nI ((tn (i_1) (tw (ahF panel i_1) (lpS panel ((lc, ln) : TS) i_1))).2)) ((tn (i_1) (tw (ahF panel i_1) (lpS panel ((lc, ln) : TS) i_1))).1) H locs (by omega) (by omega) rfl (by rw [ahF_in c_19]) (by rw [lpS_in c_19 (by omega)]) (by rw [lpS_in c_19 (by omega)]) hP hS ls (lv_sub hl [0, 1, 2, 3] rfl)
  exact LP_7 (9 + 1) 0 _ _ (nI (ln)) (lc) s.heap [] (by omega) (by omega) rfl rfl rfl rfl hP hS ls (lv_sub hl [0, 1, 2, 3] rfl)

theorem hpF_f {k : Nat → Nat → Int32} {c : Nat} (h : hpF k c = false) : k 2 c = 0 := by simpa [hpF] using h
theorem hpF_t {k : Nat → Nat → Int32} {c : Nat} (h : hpF k c = true) : ¬ k 2 c = 0 := by simpa [hpF] using h
theorem hvF_f {k : Nat → Nat → Int32} {c : Nat} (h : hvF k c = false) : k 3 c = 0 := by simpa [hvF] using h
theorem hvF_t {k : Nat → Nat → Int32} {c : Nat} (h : hvF k c = true) : ¬ k 3 c = 0 := by simpa [hvF] using h
def lnC (kf : Nat → Nat → Int32) (lc : Nat → Int32) (q mer ter : Nat) : TS := liD (clF kf q) (liC (kf 3 q) (liB (kf 2 q) lc q mer ter 9))
theorem lnB_f {kf : Nat → Nat → Int32} {lc : Nat → Int32} {q mer ter : Nat} (h : hpF kf q = false) : liB (kf 2 q) lc q mer ter 9 = liA lc q mer ter := by rw [liB_z (hpF_f h), hpF_f h, lpS_0]
theorem lnB_t {kf : Nat → Nat → Int32} {lc : Nat → Int32} {q mer ter : Nat} (h : hpF kf q = true) : liB (kf 2 q) lc q mer ter 9 = tw 93 (lpS (kf 2 q) (liA lc q mer ter) 9) := liB_p (hpF_t h)
def rlC (rw : Nat → Nat) (lc : Nat → Int32) : Nat → TS
  | 0 => (lc, 0)
  | k + 1 => tn (rw k) (if k = 0 then rlC rw lc k else tw 32 (rlC rw lc k))
theorem rlC_2 {rw : Nat → Nat} {lc : Nat → Int32} : ∀ k, (∀ j, j < k → rw j < 10) → (rlC rw lc k).2 ≤ 2 * k
  | 0, _ => Nat.le_refl 0
  | k + 1, h => by
    have ih := rlC_2 (rw := rw) (lc := lc) k (fun j hj => h j (by omega))
    have h9 := h k (Nat.lt_succ_self k)
    rw [rlC, tn_29 (by omega)]
    by_cases q : k = 0
    · rw [if_pos q]; omega
    · rw [if_neg q, tw_2]; omega

set_option maxHeartbeats 1000000 in
set_option maxRecDepth 100000 in
theorem c_X4_writeCase (l : Launch) (D : va_G) (cA : Nat → ClassId) (B : Nat → Nat) (lc : Nat → Int32) (ln : Nat) (kf : Nat → Nat → Int32) (rw : Nat → Nat) (cn rl : Nat) (q mer ter : Nat) (hA : aInj 12 B) (hq : q < 10) (hm9 : mer ≤ 100) (ht9 : ter ≤ 99) (hme : kf 0 q = nI mer) (hte : kf 1 q = nI ter) (hv0 : kf 3 q ≤ 0 → kf 3 q = 0) : Met l yX4_writeCase (gw yX4_writeCase cX4_writeCase 3 none) ({ frames := 3, cells := 0, slots := 0, locals := 65 } : Room) (gPc [.ref (B 0), .ref (B 2), .int (nI (q))] (fun H => va_P D vwCl (lwd cA B (lc) (nI (ln)) (kf) (rw) (cn) (rl)) H) D cA) (wrV (fun H => va_P D vwCl (lwd cA B (lnC kf lc q mer ter).1 (nI (lnC kf lc q mer ter).2) kf rw cn rl) H) (aS 12 B)) 0 0 (aS 12 B) := by
  refine gOf (by decide) (Nat.le_of_ble_eq_true rfl) ?_
  intro p e s m below meth c ls hx hb hml hr hlk hown hts hnm hP hK hl
  have hl : lv_has ls 3 [(0, .ref (B 0)), (1, .ref (B 2)), (2, .int (nI (q)))] := hl
  have hD : va_D (aS 12 B) (lwd cA B (lc) (nI (ln)) (kf) (rw) (cn) (rl)) := lwdD hA
  have hS : va_S (aS 12 B) s.heap s.heap [] := va_S.rf
  refine lv_aload_n hx hb dX4_writeCase_0 rfl (lv_at hl 0 rfl) ?_
  refine lv_iconst (v := nI (0)) hx hb dX4_writeCase_1 gc_0 ?_
  refine g_put (ws' := lwd cA B (lc) (nI (0)) (kf) (rw) (cn) (rl)) hx hb hts hown hK hP hD hS 0 rfl rfl gu_wsX40 tyX4_ok nmX4 1 (by decide) gm_5_9 rfl rfl rfl (Nat.le_of_ble_eq_true rfl) (by first | rfl | (rw [updN_nI]; rfl)) dX4_writeCase_2 (fun H locs hP hD hS => ?_)
  have htb_1 : (((lc, 0) : TS)).2 ≤ 0 := (Nat.le_refl 0)
  refine lv_aload_n hx hb dX4_writeCase_5 rfl (lv_at hl 0 rfl) ?_
  refine lv_iload_n hx hb dX4_writeCase_6 rfl (lv_at hl 2 rfl) ?_
  refine wr_callv (va_runV (As := [.int (nI (q))]) (rest := []) ⟨hx, hb, hml, hown, hts⟩ (c_X4_addNumber l D cA B (((lc, 0) : TS)).1 (((lc, 0) : TS)).2 (kf) (rw) (cn) (rl) (q) hA (by omega) (show (tn (q) (((lc, 0) : TS))).2 ≤ 32 by have q9 := (tn_29 (ts := ((lc, 0) : TS)) (n := q) (by omega)); omega)) (cwV 1 hts (gWV gm_36_9 gm_36_10 gm_36_11 gm_2_13 gm_36_12) rfl rfl rfl (by decide +kernel) ⟨Nat.le_of_ble_eq_true rfl, Nat.le_of_ble_eq_true rfl⟩) (gPreV hK (g_rf hK hP (ci := 6) (q0 := 0) rfl rfl) hP) rfl rfl hl.1 rfl (lv_room (Nat.le_of_ble_eq_true rfl)) dX4_writeCase_7 ⟨by omega, by omega⟩) hS (fun q _ h => h) (fun q h => h) (fun H locs hP hz9 hk9 hS => ?_)
  have hP : va_P D vwCl (lwd cA B ((tn (q) (((lc, 0) : TS))).1) (nI ((tn (q) (((lc, 0) : TS))).2)) (kf) (rw) (cn) (rl)) H := hP
  have hD : va_D (aS 12 B) (lwd cA B ((tn (q) (((lc, 0) : TS))).1) (nI ((tn (q) (((lc, 0) : TS))).2)) (kf) (rw) (cn) (rl)) := lwdD hA
  have htb_2 : (tn (q) (((lc, 0) : TS))).2 ≤ 0 + 1 := (by rw [tn_29 (by omega)]; omega)
  refine lv_aload_n hx hb dX4_writeCase_10 rfl (lv_at hl 0 rfl) ?_
  refine lv_bipush (v := nI (58)) hx hb dX4_writeCase_11 gb_58 ?_
  refine wr_callv (va_runV (As := [.int (nI (58))]) (rest := []) ⟨hx, hb, hml, hown, hts⟩ (c_X4_add l D cA B (tn (q) (((lc, 0) : TS))).1 (tn (q) (((lc, 0) : TS))).2 (kf) (rw) (cn) (rl) (58) hA (by omega) (by omega)) (cwV 1 hts (gWV gm_36_13 gm_36_14 gm_36_15 gm_2_13 gm_36_16) rfl rfl rfl (by decide +kernel) ⟨Nat.le_of_ble_eq_true rfl, Nat.le_of_ble_eq_true rfl⟩) (gPreV hK (g_rf hK hP (ci := 6) (q0 := 0) rfl rfl) hP) rfl rfl hl.1 rfl (lv_room (Nat.le_of_ble_eq_true rfl)) dX4_writeCase_13 ⟨by omega, by omega⟩) hS (fun q _ h => h) (fun q h => h) (fun H locs hP hz9 hk9 hS => ?_)
  have hP : va_P D vwCl (lwd cA B ((tw (58) (tn (q) (((lc, 0) : TS)))).1) (nI ((tw (58) (tn (q) (((lc, 0) : TS)))).2)) (kf) (rw) (cn) (rl)) H := hP
  have hD : va_D (aS 12 B) (lwd cA B ((tw (58) (tn (q) (((lc, 0) : TS)))).1) (nI ((tw (58) (tn (q) (((lc, 0) : TS)))).2)) (kf) (rw) (cn) (rl)) := lwdD hA
  have htb_3 : (tw (58) (tn (q) (((lc, 0) : TS)))).2 ≤ 0 + 1 + 1 := (by rw [tw_2]; omega)
  refine lv_aload_n hx hb dX4_writeCase_16 rfl (lv_at hl 0 rfl) ?_
  refine lv_aload_n hx hb dX4_writeCase_17 rfl (lv_at hl 1 rfl) ?_
  refine g_get (v := .ref (B 3)) hx hb hts hown hK hP 2 rfl rfl gu_wsX00 0 (by decide) gm_36_5 rfl dX4_writeCase_18 ?_
  refine lv_iload_n hx hb dX4_writeCase_21 rfl (lv_at hl 2 rfl) ?_
  refine g_iald (x := kf 0 (q)) hx hb hK hP 3 rfl (by omega) (by decide) rfl dX4_writeCase_22 ?_
  refine g_top hme ?_
  refine wr_callv (va_runV (As := [.int (nI (mer))]) (rest := []) ⟨hx, hb, hml, hown, hts⟩ (c_X4_addNumber l D cA B (tw (58) (tn (q) (((lc, 0) : TS)))).1 (tw (58) (tn (q) (((lc, 0) : TS)))).2 (kf) (rw) (cn) (rl) (mer) hA (by omega) (show (tn (mer) (tw (58) (tn (q) (((lc, 0) : TS))))).2 ≤ 32 by have q9 := (tn_2 (ts := tw (58) (tn (q) (((lc, 0) : TS)))) (n := mer) (by omega)); omega)) (cwV 1 hts (gWV gm_36_9 gm_36_10 gm_36_11 gm_2_13 gm_36_12) rfl rfl rfl (by decide +kernel) ⟨Nat.le_of_ble_eq_true rfl, Nat.le_of_ble_eq_true rfl⟩) (gPreV hK (g_rf hK hP (ci := 6) (q0 := 0) rfl rfl) hP) rfl rfl hl.1 rfl (lv_room (Nat.le_of_ble_eq_true rfl)) dX4_writeCase_23 ⟨by omega, by omega⟩) hS (fun q _ h => h) (fun q h => h) (fun H locs hP hz9 hk9 hS => ?_)
  have hP : va_P D vwCl (lwd cA B ((tn (mer) (tw (58) (tn (q) (((lc, 0) : TS))))).1) (nI ((tn (mer) (tw (58) (tn (q) (((lc, 0) : TS))))).2)) (kf) (rw) (cn) (rl)) H := hP
  have hD : va_D (aS 12 B) (lwd cA B ((tn (mer) (tw (58) (tn (q) (((lc, 0) : TS))))).1) (nI ((tn (mer) (tw (58) (tn (q) (((lc, 0) : TS))))).2)) (kf) (rw) (cn) (rl)) := lwdD hA
  have htb_4 : (tn (mer) (tw (58) (tn (q) (((lc, 0) : TS))))).2 ≤ 0 + 1 + 1 + 3 := (by have q9 := (tn_2 (ts := tw (58) (tn (q) (((lc, 0) : TS)))) (n := mer) (by omega)).2; omega)
  refine lv_aload_n hx hb dX4_writeCase_26 rfl (lv_at hl 0 rfl) ?_
  refine lv_bipush (v := nI (64)) hx hb dX4_writeCase_27 gb_64 ?_
  refine wr_callv (va_runV (As := [.int (nI (64))]) (rest := []) ⟨hx, hb, hml, hown, hts⟩ (c_X4_add l D cA B (tn (mer) (tw (58) (tn (q) (((lc, 0) : TS))))).1 (tn (mer) (tw (58) (tn (q) (((lc, 0) : TS))))).2 (kf) (rw) (cn) (rl) (64) hA (by omega) (by omega)) (cwV 1 hts (gWV gm_36_13 gm_36_14 gm_36_15 gm_2_13 gm_36_16) rfl rfl rfl (by decide +kernel) ⟨Nat.le_of_ble_eq_true rfl, Nat.le_of_ble_eq_true rfl⟩) (gPreV hK (g_rf hK hP (ci := 6) (q0 := 0) rfl rfl) hP) rfl rfl hl.1 rfl (lv_room (Nat.le_of_ble_eq_true rfl)) dX4_writeCase_29 ⟨by omega, by omega⟩) hS (fun q _ h => h) (fun q h => h) (fun H locs hP hz9 hk9 hS => ?_)
  have hP : va_P D vwCl (lwd cA B ((tw (64) (tn (mer) (tw (58) (tn (q) (((lc, 0) : TS)))))).1) (nI ((tw (64) (tn (mer) (tw (58) (tn (q) (((lc, 0) : TS)))))).2)) (kf) (rw) (cn) (rl)) H := hP
  have hD : va_D (aS 12 B) (lwd cA B ((tw (64) (tn (mer) (tw (58) (tn (q) (((lc, 0) : TS)))))).1) (nI ((tw (64) (tn (mer) (tw (58) (tn (q) (((lc, 0) : TS)))))).2)) (kf) (rw) (cn) (rl)) := lwdD hA
  have htb_5 : (tw (64) (tn (mer) (tw (58) (tn (q) (((lc, 0) : TS)))))).2 ≤ 0 + 1 + 1 + 3 + 1 := (by rw [tw_2]; omega)
  refine lv_aload_n hx hb dX4_writeCase_32 rfl (lv_at hl 0 rfl) ?_
  refine lv_aload_n hx hb dX4_writeCase_33 rfl (lv_at hl 1 rfl) ?_
  refine g_get (v := .ref (B 4)) hx hb hts hown hK hP 2 rfl rfl gu_wsX00 1 (by decide) gm_36_6 rfl dX4_writeCase_34 ?_
  refine lv_iload_n hx hb dX4_writeCase_37 rfl (lv_at hl 2 rfl) ?_
  refine g_iald (x := kf 1 (q)) hx hb hK hP 4 rfl (by omega) (by decide) rfl dX4_writeCase_38 ?_
  refine g_top hte ?_
  refine wr_callv (va_runV (As := [.int (nI (ter))]) (rest := []) ⟨hx, hb, hml, hown, hts⟩ (c_X4_addNumber l D cA B (tw (64) (tn (mer) (tw (58) (tn (q) (((lc, 0) : TS)))))).1 (tw (64) (tn (mer) (tw (58) (tn (q) (((lc, 0) : TS)))))).2 (kf) (rw) (cn) (rl) (ter) hA (by omega) (show (tn (ter) (tw (64) (tn (mer) (tw (58) (tn (q) (((lc, 0) : TS))))))).2 ≤ 32 by have q9 := (tn_2 (ts := tw (64) (tn (mer) (tw (58) (tn (q) (((lc, 0) : TS)))))) (n := ter) (by omega)); omega)) (cwV 1 hts (gWV gm_36_9 gm_36_10 gm_36_11 gm_2_13 gm_36_12) rfl rfl rfl (by decide +kernel) ⟨Nat.le_of_ble_eq_true rfl, Nat.le_of_ble_eq_true rfl⟩) (gPreV hK (g_rf hK hP (ci := 6) (q0 := 0) rfl rfl) hP) rfl rfl hl.1 rfl (lv_room (Nat.le_of_ble_eq_true rfl)) dX4_writeCase_39 ⟨by omega, by omega⟩) hS (fun q _ h => h) (fun q h => h) (fun H locs hP hz9 hk9 hS => ?_)
  have hP : va_P D vwCl (lwd cA B ((tn (ter) (tw (64) (tn (mer) (tw (58) (tn (q) (((lc, 0) : TS))))))).1) (nI ((tn (ter) (tw (64) (tn (mer) (tw (58) (tn (q) (((lc, 0) : TS))))))).2)) (kf) (rw) (cn) (rl)) H := hP
  have hD : va_D (aS 12 B) (lwd cA B ((tn (ter) (tw (64) (tn (mer) (tw (58) (tn (q) (((lc, 0) : TS))))))).1) (nI ((tn (ter) (tw (64) (tn (mer) (tw (58) (tn (q) (((lc, 0) : TS))))))).2)) (kf) (rw) (cn) (rl)) := lwdD hA
  have htb_6 : (tn (ter) (tw (64) (tn (mer) (tw (58) (tn (q) (((lc, 0) : TS))))))).2 ≤ 0 + 1 + 1 + 3 + 1 + 3 := (by have q9 := (tn_2 (ts := tw (64) (tn (mer) (tw (58) (tn (q) (((lc, 0) : TS)))))) (n := ter) (by omega)).2; omega)
  refine lv_aload_n hx hb dX4_writeCase_42 rfl (lv_at hl 1 rfl) ?_
  refine lv_iload_n hx hb dX4_writeCase_43 rfl (lv_at hl 2 rfl) ?_
  refine rd_calle (va_runV (As := [.int (nI (q))]) (rest := []) ⟨hx, hb, hml, hown, hts⟩ (c_X0_hasPanel l D cA (fun k => B (k + 2)) (kf) (rw) (cn) (rl) (q)  (by omega)) (cwV 1 hts (gWV gm_36_17 gm_12_1 gm_12_2 gm_3_0 gm_12_3) rfl rfl rfl (by decide +kernel) ⟨Nat.le_of_ble_eq_true rfl, Nat.le_of_ble_eq_true rfl⟩) (gPreV hK (g_rf hK hP (ci := 2) (q0 := 2) rfl rfl) (hP.sub [2, 3, 4, 5, 6, 7, 8, 9, 10, 11] rfl)) rfl rfl hl.1 rfl (lv_room (Nat.le_of_ble_eq_true rfl)) dX4_writeCase_44 ⟨by omega, by omega⟩) ?_
  refine g_if_eq (P := hpF kf (q) = false) (tgt := 60) hx hb dX4_writeCase_47 (by decide) b2i_0 (fun c_7 => ?_) (fun c_7 => ?_)
  · refine lv_aload_n hx hb dX4_writeCase_60 rfl (lv_at hl 1 rfl) ?_
    refine lv_iload_n hx hb dX4_writeCase_61 rfl (lv_at hl 2 rfl) ?_
    refine rd_calle (va_runV (As := [.int (nI (q))]) (rest := []) ⟨hx, hb, hml, hown, hts⟩ (c_X0_hasVerdict l D cA (fun k => B (k + 2)) (kf) (rw) (cn) (rl) (q)  (by omega)) (cwV 1 hts (gWV gm_36_22 gm_16_5 gm_16_6 gm_3_0 gm_16_7) rfl rfl rfl (by decide +kernel) ⟨Nat.le_of_ble_eq_true rfl, Nat.le_of_ble_eq_true rfl⟩) (gPreV hK (g_rf hK hP (ci := 2) (q0 := 2) rfl rfl) (hP.sub [2, 3, 4, 5, 6, 7, 8, 9, 10, 11] rfl)) rfl rfl hl.1 rfl (lv_room (Nat.le_of_ble_eq_true rfl)) dX4_writeCase_62 ⟨by omega, by omega⟩) ?_
    refine g_if_eq (P := hvF kf (q) = false) (tgt := 89) hx hb dX4_writeCase_65 (by decide) b2i_0 (fun c_8 => ?_) (fun c_8 => ?_)
    · refine lv_aload_n hx hb dX4_writeCase_89 rfl (lv_at hl 1 rfl) ?_
      refine lv_iload_n hx hb dX4_writeCase_90 rfl (lv_at hl 2 rfl) ?_
      refine rd_calle (va_runV (As := [.int (nI (q))]) (rest := []) ⟨hx, hb, hml, hown, hts⟩ (c_X0_isClosed l D cA (fun k => B (k + 2)) (kf) (rw) (cn) (rl) (q)  (by omega)) (cwV 1 hts (gWV gm_36_23 gm_12_17 gm_12_18 gm_3_0 gm_12_19) rfl rfl rfl (by decide +kernel) ⟨Nat.le_of_ble_eq_true rfl, Nat.le_of_ble_eq_true rfl⟩) (gPreV hK (g_rf hK hP (ci := 2) (q0 := 2) rfl rfl) (hP.sub [2, 3, 4, 5, 6, 7, 8, 9, 10, 11] rfl)) rfl rfl hl.1 rfl (lv_room (Nat.le_of_ble_eq_true rfl)) dX4_writeCase_91 ⟨by omega, by omega⟩) ?_
      refine g_if_eq (P := clF kf (q) = false) (tgt := 103) hx hb dX4_writeCase_94 (by decide) b2i_0 (fun c_9 => ?_) (fun c_9 => ?_)
      · exact g_vretW hx hb hr hlk hS dX4_writeCase_103 (by have eB := lnB_f (lc := lc) (mer := mer) (ter := ter) c_7; have eC := liC_z (vd := kf 3 q) (by rw [hvF_f c_8]; decide) (ts := liB (kf 2 q) lc q mer ter 9); have e9 : lnC kf lc q mer ter = tn (ter) (tw (64) (tn (mer) (tw (58) (tn (q) (((lc, 0) : TS)))))) := (by rw [lnC, eC, eB, c_9]; rfl) ; rw [e9]; exact hP)
      · have c_9 : clF kf (q) = true := eq_true_of_ne_false c_9
        refine lv_aload_n hx hb dX4_writeCase_97 rfl (lv_at hl 0 rfl) ?_
        refine lv_bipush (v := nI (33)) hx hb dX4_writeCase_98 gb_33 ?_
        refine wr_callv (va_runV (As := [.int (nI (33))]) (rest := []) ⟨hx, hb, hml, hown, hts⟩ (c_X4_add l D cA B (tn (ter) (tw (64) (tn (mer) (tw (58) (tn (q) (((lc, 0) : TS))))))).1 (tn (ter) (tw (64) (tn (mer) (tw (58) (tn (q) (((lc, 0) : TS))))))).2 (kf) (rw) (cn) (rl) (33) hA (by omega) (by omega)) (cwV 1 hts (gWV gm_36_13 gm_36_14 gm_36_15 gm_2_13 gm_36_16) rfl rfl rfl (by decide +kernel) ⟨Nat.le_of_ble_eq_true rfl, Nat.le_of_ble_eq_true rfl⟩) (gPreV hK (g_rf hK hP (ci := 6) (q0 := 0) rfl rfl) hP) rfl rfl hl.1 rfl (lv_room (Nat.le_of_ble_eq_true rfl)) dX4_writeCase_100 ⟨by omega, by omega⟩) hS (fun q _ h => h) (fun q h => h) (fun H locs hP hz9 hk9 hS => ?_)
        have hP : va_P D vwCl (lwd cA B ((tw (33) (tn (ter) (tw (64) (tn (mer) (tw (58) (tn (q) (((lc, 0) : TS)))))))).1) (nI ((tw (33) (tn (ter) (tw (64) (tn (mer) (tw (58) (tn (q) (((lc, 0) : TS)))))))).2)) (kf) (rw) (cn) (rl)) H := hP
        have hD : va_D (aS 12 B) (lwd cA B ((tw (33) (tn (ter) (tw (64) (tn (mer) (tw (58) (tn (q) (((lc, 0) : TS)))))))).1) (nI ((tw (33) (tn (ter) (tw (64) (tn (mer) (tw (58) (tn (q) (((lc, 0) : TS)))))))).2)) (kf) (rw) (cn) (rl)) := lwdD hA
        have htb_10 : (tw (33) (tn (ter) (tw (64) (tn (mer) (tw (58) (tn (q) (((lc, 0) : TS)))))))).2 ≤ 0 + 1 + 1 + 3 + 1 + 3 + 1 := (by rw [tw_2]; omega)
        exact g_vretW hx hb hr hlk hS dX4_writeCase_103 (by have eB := lnB_f (lc := lc) (mer := mer) (ter := ter) c_7; have eC := liC_z (vd := kf 3 q) (by rw [hvF_f c_8]; decide) (ts := liB (kf 2 q) lc q mer ter 9); have e9 : lnC kf lc q mer ter = tw (33) (tn (ter) (tw (64) (tn (mer) (tw (58) (tn (q) (((lc, 0) : TS))))))) := (by rw [lnC, eC, eB, c_9]; rfl) ; rw [e9]; exact hP)
    · have c_8 : hvF kf (q) = true := eq_true_of_ne_false c_8
      refine lv_aload_n hx hb dX4_writeCase_68 rfl (lv_at hl 0 rfl) ?_
      refine lv_aload_n hx hb dX4_writeCase_69 rfl (lv_at hl 1 rfl) ?_
      refine g_get (v := .ref (B 6)) hx hb hts hown hK hP 2 rfl rfl gu_wsX00 3 (by decide) gm_36_8 rfl dX4_writeCase_70 ?_
      refine lv_iload_n hx hb dX4_writeCase_73 rfl (lv_at hl 2 rfl) ?_
      refine g_iald (x := kf 3 (q)) hx hb hK hP 6 rfl (by omega) (by decide) rfl dX4_writeCase_74 ?_
      refine lv_iconst (v := nI (1)) hx hb dX4_writeCase_75 gc_1 ?_
      refine g_icmp_ne (P := kf 3 (q) = nI (1)) (tgt := 84) hx hb dX4_writeCase_76 (by decide) Iff.rfl (fun c_11 => ?_) (fun c_11 => ?_)
      · refine lv_bipush (v := nI (45)) hx hb dX4_writeCase_84 gb_45 ?_
        refine wr_callv (va_runV (As := [.int (nI (45))]) (rest := []) ⟨hx, hb, hml, hown, hts⟩ (c_X4_add l D cA B (tn (ter) (tw (64) (tn (mer) (tw (58) (tn (q) (((lc, 0) : TS))))))).1 (tn (ter) (tw (64) (tn (mer) (tw (58) (tn (q) (((lc, 0) : TS))))))).2 (kf) (rw) (cn) (rl) (45) hA (by omega) (by omega)) (cwV 1 hts (gWV gm_36_13 gm_36_14 gm_36_15 gm_2_13 gm_36_16) rfl rfl rfl (by decide +kernel) ⟨Nat.le_of_ble_eq_true rfl, Nat.le_of_ble_eq_true rfl⟩) (gPreV hK (g_rf hK hP (ci := 6) (q0 := 0) rfl rfl) hP) rfl rfl hl.1 rfl (lv_room (Nat.le_of_ble_eq_true rfl)) dX4_writeCase_86 ⟨by omega, by omega⟩) hS (fun q _ h => h) (fun q h => h) (fun H locs hP hz9 hk9 hS => ?_)
        have hP : va_P D vwCl (lwd cA B ((tw (45) (tn (ter) (tw (64) (tn (mer) (tw (58) (tn (q) (((lc, 0) : TS)))))))).1) (nI ((tw (45) (tn (ter) (tw (64) (tn (mer) (tw (58) (tn (q) (((lc, 0) : TS)))))))).2)) (kf) (rw) (cn) (rl)) H := hP
        have hD : va_D (aS 12 B) (lwd cA B ((tw (45) (tn (ter) (tw (64) (tn (mer) (tw (58) (tn (q) (((lc, 0) : TS)))))))).1) (nI ((tw (45) (tn (ter) (tw (64) (tn (mer) (tw (58) (tn (q) (((lc, 0) : TS)))))))).2)) (kf) (rw) (cn) (rl)) := lwdD hA
        have htb_12 : (tw (45) (tn (ter) (tw (64) (tn (mer) (tw (58) (tn (q) (((lc, 0) : TS)))))))).2 ≤ 0 + 1 + 1 + 3 + 1 + 3 + 1 := (by rw [tw_2]; omega)
        refine lv_aload_n hx hb dX4_writeCase_89 rfl (lv_at hl 1 rfl) ?_
        refine lv_iload_n hx hb dX4_writeCase_90 rfl (lv_at hl 2 rfl) ?_
        refine rd_calle (va_runV (As := [.int (nI (q))]) (rest := []) ⟨hx, hb, hml, hown, hts⟩ (c_X0_isClosed l D cA (fun k => B (k + 2)) (kf) (rw) (cn) (rl) (q)  (by omega)) (cwV 1 hts (gWV gm_36_23 gm_12_17 gm_12_18 gm_3_0 gm_12_19) rfl rfl rfl (by decide +kernel) ⟨Nat.le_of_ble_eq_true rfl, Nat.le_of_ble_eq_true rfl⟩) (gPreV hK (g_rf hK hP (ci := 2) (q0 := 2) rfl rfl) (hP.sub [2, 3, 4, 5, 6, 7, 8, 9, 10, 11] rfl)) rfl rfl hl.1 rfl (lv_room (Nat.le_of_ble_eq_true rfl)) dX4_writeCase_91 ⟨by omega, by omega⟩) ?_
        refine g_if_eq (P := clF kf (q) = false) (tgt := 103) hx hb dX4_writeCase_94 (by decide) b2i_0 (fun c_13 => ?_) (fun c_13 => ?_)
        · exact g_vretW hx hb hr hlk hS dX4_writeCase_103 (by have eB := lnB_f (lc := lc) (mer := mer) (ter := ter) c_7; have eC := liC_b (vd := kf 3 q) (fun h9 => hvF_t c_8 (hv0 h9)) c_11 (ts := liB (kf 2 q) lc q mer ter 9); have e9 : lnC kf lc q mer ter = tw (45) (tn (ter) (tw (64) (tn (mer) (tw (58) (tn (q) (((lc, 0) : TS))))))) := (by rw [lnC, eC, eB, c_13]; rfl) ; rw [e9]; exact hP)
        · have c_13 : clF kf (q) = true := eq_true_of_ne_false c_13
          refine lv_aload_n hx hb dX4_writeCase_97 rfl (lv_at hl 0 rfl) ?_
          refine lv_bipush (v := nI (33)) hx hb dX4_writeCase_98 gb_33 ?_
          refine wr_callv (va_runV (As := [.int (nI (33))]) (rest := []) ⟨hx, hb, hml, hown, hts⟩ (c_X4_add l D cA B (tw (45) (tn (ter) (tw (64) (tn (mer) (tw (58) (tn (q) (((lc, 0) : TS)))))))).1 (tw (45) (tn (ter) (tw (64) (tn (mer) (tw (58) (tn (q) (((lc, 0) : TS)))))))).2 (kf) (rw) (cn) (rl) (33) hA (by omega) (by omega)) (cwV 1 hts (gWV gm_36_13 gm_36_14 gm_36_15 gm_2_13 gm_36_16) rfl rfl rfl (by decide +kernel) ⟨Nat.le_of_ble_eq_true rfl, Nat.le_of_ble_eq_true rfl⟩) (gPreV hK (g_rf hK hP (ci := 6) (q0 := 0) rfl rfl) hP) rfl rfl hl.1 rfl (lv_room (Nat.le_of_ble_eq_true rfl)) dX4_writeCase_100 ⟨by omega, by omega⟩) hS (fun q _ h => h) (fun q h => h) (fun H locs hP hz9 hk9 hS => ?_)
          have hP : va_P D vwCl (lwd cA B ((tw (33) (tw (45) (tn (ter) (tw (64) (tn (mer) (tw (58) (tn (q) (((lc, 0) : TS))))))))).1) (nI ((tw (33) (tw (45) (tn (ter) (tw (64) (tn (mer) (tw (58) (tn (q) (((lc, 0) : TS))))))))).2)) (kf) (rw) (cn) (rl)) H := hP
          have hD : va_D (aS 12 B) (lwd cA B ((tw (33) (tw (45) (tn (ter) (tw (64) (tn (mer) (tw (58) (tn (q) (((lc, 0) : TS))))))))).1) (nI ((tw (33) (tw (45) (tn (ter) (tw (64) (tn (mer) (tw (58) (tn (q) (((lc, 0) : TS))))))))).2)) (kf) (rw) (cn) (rl)) := lwdD hA
          have htb_14 : (tw (33) (tw (45) (tn (ter) (tw (64) (tn (mer) (tw (58) (tn (q) (((lc, 0) : TS))))))))).2 ≤ 0 + 1 + 1 + 3 + 1 + 3 + 1 + 1 := (by rw [tw_2]; omega)
          exact g_vretW hx hb hr hlk hS dX4_writeCase_103 (by have eB := lnB_f (lc := lc) (mer := mer) (ter := ter) c_7; have eC := liC_b (vd := kf 3 q) (fun h9 => hvF_t c_8 (hv0 h9)) c_11 (ts := liB (kf 2 q) lc q mer ter 9); have e9 : lnC kf lc q mer ter = tw (33) (tw (45) (tn (ter) (tw (64) (tn (mer) (tw (58) (tn (q) (((lc, 0) : TS)))))))) := (by rw [lnC, eC, eB, c_13]; rfl) ; rw [e9]; exact hP)
      · refine lv_bipush (v := nI (43)) hx hb dX4_writeCase_79 gb_43 ?_
        refine lv_goto (tgt := 86) hx hb dX4_writeCase_81 (by decide) ?_
        refine wr_callv (va_runV (As := [.int (nI (43))]) (rest := []) ⟨hx, hb, hml, hown, hts⟩ (c_X4_add l D cA B (tn (ter) (tw (64) (tn (mer) (tw (58) (tn (q) (((lc, 0) : TS))))))).1 (tn (ter) (tw (64) (tn (mer) (tw (58) (tn (q) (((lc, 0) : TS))))))).2 (kf) (rw) (cn) (rl) (43) hA (by omega) (by omega)) (cwV 1 hts (gWV gm_36_13 gm_36_14 gm_36_15 gm_2_13 gm_36_16) rfl rfl rfl (by decide +kernel) ⟨Nat.le_of_ble_eq_true rfl, Nat.le_of_ble_eq_true rfl⟩) (gPreV hK (g_rf hK hP (ci := 6) (q0 := 0) rfl rfl) hP) rfl rfl hl.1 rfl (lv_room (Nat.le_of_ble_eq_true rfl)) dX4_writeCase_86 ⟨by omega, by omega⟩) hS (fun q _ h => h) (fun q h => h) (fun H locs hP hz9 hk9 hS => ?_)
        have hP : va_P D vwCl (lwd cA B ((tw (43) (tn (ter) (tw (64) (tn (mer) (tw (58) (tn (q) (((lc, 0) : TS)))))))).1) (nI ((tw (43) (tn (ter) (tw (64) (tn (mer) (tw (58) (tn (q) (((lc, 0) : TS)))))))).2)) (kf) (rw) (cn) (rl)) H := hP
        have hD : va_D (aS 12 B) (lwd cA B ((tw (43) (tn (ter) (tw (64) (tn (mer) (tw (58) (tn (q) (((lc, 0) : TS)))))))).1) (nI ((tw (43) (tn (ter) (tw (64) (tn (mer) (tw (58) (tn (q) (((lc, 0) : TS)))))))).2)) (kf) (rw) (cn) (rl)) := lwdD hA
        have htb_15 : (tw (43) (tn (ter) (tw (64) (tn (mer) (tw (58) (tn (q) (((lc, 0) : TS)))))))).2 ≤ 0 + 1 + 1 + 3 + 1 + 3 + 1 := (by rw [tw_2]; omega)
        refine lv_aload_n hx hb dX4_writeCase_89 rfl (lv_at hl 1 rfl) ?_
        refine lv_iload_n hx hb dX4_writeCase_90 rfl (lv_at hl 2 rfl) ?_
        refine rd_calle (va_runV (As := [.int (nI (q))]) (rest := []) ⟨hx, hb, hml, hown, hts⟩ (c_X0_isClosed l D cA (fun k => B (k + 2)) (kf) (rw) (cn) (rl) (q)  (by omega)) (cwV 1 hts (gWV gm_36_23 gm_12_17 gm_12_18 gm_3_0 gm_12_19) rfl rfl rfl (by decide +kernel) ⟨Nat.le_of_ble_eq_true rfl, Nat.le_of_ble_eq_true rfl⟩) (gPreV hK (g_rf hK hP (ci := 2) (q0 := 2) rfl rfl) (hP.sub [2, 3, 4, 5, 6, 7, 8, 9, 10, 11] rfl)) rfl rfl hl.1 rfl (lv_room (Nat.le_of_ble_eq_true rfl)) dX4_writeCase_91 ⟨by omega, by omega⟩) ?_
        refine g_if_eq (P := clF kf (q) = false) (tgt := 103) hx hb dX4_writeCase_94 (by decide) b2i_0 (fun c_16 => ?_) (fun c_16 => ?_)
        · exact g_vretW hx hb hr hlk hS dX4_writeCase_103 (by have eB := lnB_f (lc := lc) (mer := mer) (ter := ter) c_7; have eC := liC_a (vd := kf 3 q) (fun h9 => hvF_t c_8 (hv0 h9)) c_11 (ts := liB (kf 2 q) lc q mer ter 9); have e9 : lnC kf lc q mer ter = tw (43) (tn (ter) (tw (64) (tn (mer) (tw (58) (tn (q) (((lc, 0) : TS))))))) := (by rw [lnC, eC, eB, c_16]; rfl) ; rw [e9]; exact hP)
        · have c_16 : clF kf (q) = true := eq_true_of_ne_false c_16
          refine lv_aload_n hx hb dX4_writeCase_97 rfl (lv_at hl 0 rfl) ?_
          refine lv_bipush (v := nI (33)) hx hb dX4_writeCase_98 gb_33 ?_
          refine wr_callv (va_runV (As := [.int (nI (33))]) (rest := []) ⟨hx, hb, hml, hown, hts⟩ (c_X4_add l D cA B (tw (43) (tn (ter) (tw (64) (tn (mer) (tw (58) (tn (q) (((lc, 0) : TS)))))))).1 (tw (43) (tn (ter) (tw (64) (tn (mer) (tw (58) (tn (q) (((lc, 0) : TS)))))))).2 (kf) (rw) (cn) (rl) (33) hA (by omega) (by omega)) (cwV 1 hts (gWV gm_36_13 gm_36_14 gm_36_15 gm_2_13 gm_36_16) rfl rfl rfl (by decide +kernel) ⟨Nat.le_of_ble_eq_true rfl, Nat.le_of_ble_eq_true rfl⟩) (gPreV hK (g_rf hK hP (ci := 6) (q0 := 0) rfl rfl) hP) rfl rfl hl.1 rfl (lv_room (Nat.le_of_ble_eq_true rfl)) dX4_writeCase_100 ⟨by omega, by omega⟩) hS (fun q _ h => h) (fun q h => h) (fun H locs hP hz9 hk9 hS => ?_)
          have hP : va_P D vwCl (lwd cA B ((tw (33) (tw (43) (tn (ter) (tw (64) (tn (mer) (tw (58) (tn (q) (((lc, 0) : TS))))))))).1) (nI ((tw (33) (tw (43) (tn (ter) (tw (64) (tn (mer) (tw (58) (tn (q) (((lc, 0) : TS))))))))).2)) (kf) (rw) (cn) (rl)) H := hP
          have hD : va_D (aS 12 B) (lwd cA B ((tw (33) (tw (43) (tn (ter) (tw (64) (tn (mer) (tw (58) (tn (q) (((lc, 0) : TS))))))))).1) (nI ((tw (33) (tw (43) (tn (ter) (tw (64) (tn (mer) (tw (58) (tn (q) (((lc, 0) : TS))))))))).2)) (kf) (rw) (cn) (rl)) := lwdD hA
          have htb_17 : (tw (33) (tw (43) (tn (ter) (tw (64) (tn (mer) (tw (58) (tn (q) (((lc, 0) : TS))))))))).2 ≤ 0 + 1 + 1 + 3 + 1 + 3 + 1 + 1 := (by rw [tw_2]; omega)
          exact g_vretW hx hb hr hlk hS dX4_writeCase_103 (by have eB := lnB_f (lc := lc) (mer := mer) (ter := ter) c_7; have eC := liC_a (vd := kf 3 q) (fun h9 => hvF_t c_8 (hv0 h9)) c_11 (ts := liB (kf 2 q) lc q mer ter 9); have e9 : lnC kf lc q mer ter = tw (33) (tw (43) (tn (ter) (tw (64) (tn (mer) (tw (58) (tn (q) (((lc, 0) : TS)))))))) := (by rw [lnC, eC, eB, c_16]; rfl) ; rw [e9]; exact hP)
  · have c_7 : hpF kf (q) = true := eq_true_of_ne_false c_7
    refine lv_aload_n hx hb dX4_writeCase_50 rfl (lv_at hl 0 rfl) ?_
    refine lv_aload_n hx hb dX4_writeCase_51 rfl (lv_at hl 1 rfl) ?_
    refine g_get (v := .ref (B 5)) hx hb hts hown hK hP 2 rfl rfl gu_wsX00 2 (by decide) gm_36_7 rfl dX4_writeCase_52 ?_
    refine lv_iload_n hx hb dX4_writeCase_55 rfl (lv_at hl 2 rfl) ?_
    refine g_iald (x := kf 2 (q)) hx hb hK hP 5 rfl (by omega) (by decide) rfl dX4_writeCase_56 ?_
    refine wr_callv (va_runV (As := [.int (kf 2 (q))]) (rest := []) ⟨hx, hb, hml, hown, hts⟩ (c_X4_addPanel l D cA B (tn (ter) (tw (64) (tn (mer) (tw (58) (tn (q) (((lc, 0) : TS))))))).1 (tn (ter) (tw (64) (tn (mer) (tw (58) (tn (q) (((lc, 0) : TS))))))).2 (kf) (rw) (cn) (rl) (kf 2 (q)) hA (by omega)) (cwV 1 hts (gWV gm_36_18 gm_36_19 gm_36_20 gm_2_13 gm_36_21) rfl rfl rfl (by decide +kernel) ⟨Nat.le_of_ble_eq_true rfl, Nat.le_of_ble_eq_true rfl⟩) (gPreV hK (g_rf hK hP (ci := 6) (q0 := 0) rfl rfl) hP) rfl rfl hl.1 rfl (lv_room (Nat.le_of_ble_eq_true rfl)) dX4_writeCase_57 ⟨by omega, by omega⟩) hS (fun q _ h => h) (fun q h => h) (fun H locs hP hz9 hk9 hS => ?_)
    have hP : va_P D vwCl (lwd cA B ((tw 93 (lpS (kf 2 (q)) (tn (ter) (tw (64) (tn (mer) (tw (58) (tn (q) (((lc, 0) : TS))))))) 9)).1) (nI ((tw 93 (lpS (kf 2 (q)) (tn (ter) (tw (64) (tn (mer) (tw (58) (tn (q) (((lc, 0) : TS))))))) 9)).2)) (kf) (rw) (cn) (rl)) H := hP
    have hD : va_D (aS 12 B) (lwd cA B ((tw 93 (lpS (kf 2 (q)) (tn (ter) (tw (64) (tn (mer) (tw (58) (tn (q) (((lc, 0) : TS))))))) 9)).1) (nI ((tw 93 (lpS (kf 2 (q)) (tn (ter) (tw (64) (tn (mer) (tw (58) (tn (q) (((lc, 0) : TS))))))) 9)).2)) (kf) (rw) (cn) (rl)) := lwdD hA
    have htb_18 : (tw 93 (lpS (kf 2 (q)) (tn (ter) (tw (64) (tn (mer) (tw (58) (tn (q) (((lc, 0) : TS))))))) 9)).2 ≤ 0 + 1 + 1 + 3 + 1 + 3 + 19 := (by have q9 := (lpS_2 (panel := kf 2 (q)) (ts := tn (ter) (tw (64) (tn (mer) (tw (58) (tn (q) (((lc, 0) : TS))))))) 9 (by decide)).2; rw [tw_2]; omega)
    refine lv_aload_n hx hb dX4_writeCase_60 rfl (lv_at hl 1 rfl) ?_
    refine lv_iload_n hx hb dX4_writeCase_61 rfl (lv_at hl 2 rfl) ?_
    refine rd_calle (va_runV (As := [.int (nI (q))]) (rest := []) ⟨hx, hb, hml, hown, hts⟩ (c_X0_hasVerdict l D cA (fun k => B (k + 2)) (kf) (rw) (cn) (rl) (q)  (by omega)) (cwV 1 hts (gWV gm_36_22 gm_16_5 gm_16_6 gm_3_0 gm_16_7) rfl rfl rfl (by decide +kernel) ⟨Nat.le_of_ble_eq_true rfl, Nat.le_of_ble_eq_true rfl⟩) (gPreV hK (g_rf hK hP (ci := 2) (q0 := 2) rfl rfl) (hP.sub [2, 3, 4, 5, 6, 7, 8, 9, 10, 11] rfl)) rfl rfl hl.1 rfl (lv_room (Nat.le_of_ble_eq_true rfl)) dX4_writeCase_62 ⟨by omega, by omega⟩) ?_
    refine g_if_eq (P := hvF kf (q) = false) (tgt := 89) hx hb dX4_writeCase_65 (by decide) b2i_0 (fun c_19 => ?_) (fun c_19 => ?_)
    · refine lv_aload_n hx hb dX4_writeCase_89 rfl (lv_at hl 1 rfl) ?_
      refine lv_iload_n hx hb dX4_writeCase_90 rfl (lv_at hl 2 rfl) ?_
      refine rd_calle (va_runV (As := [.int (nI (q))]) (rest := []) ⟨hx, hb, hml, hown, hts⟩ (c_X0_isClosed l D cA (fun k => B (k + 2)) (kf) (rw) (cn) (rl) (q)  (by omega)) (cwV 1 hts (gWV gm_36_23 gm_12_17 gm_12_18 gm_3_0 gm_12_19) rfl rfl rfl (by decide +kernel) ⟨Nat.le_of_ble_eq_true rfl, Nat.le_of_ble_eq_true rfl⟩) (gPreV hK (g_rf hK hP (ci := 2) (q0 := 2) rfl rfl) (hP.sub [2, 3, 4, 5, 6, 7, 8, 9, 10, 11] rfl)) rfl rfl hl.1 rfl (lv_room (Nat.le_of_ble_eq_true rfl)) dX4_writeCase_91 ⟨by omega, by omega⟩) ?_
      refine g_if_eq (P := clF kf (q) = false) (tgt := 103) hx hb dX4_writeCase_94 (by decide) b2i_0 (fun c_20 => ?_) (fun c_20 => ?_)
      · exact g_vretW hx hb hr hlk hS dX4_writeCase_103 (by have eB := lnB_t (lc := lc) (mer := mer) (ter := ter) c_7; have eC := liC_z (vd := kf 3 q) (by rw [hvF_f c_19]; decide) (ts := liB (kf 2 q) lc q mer ter 9); have e9 : lnC kf lc q mer ter = tw 93 (lpS (kf 2 (q)) (tn (ter) (tw (64) (tn (mer) (tw (58) (tn (q) (((lc, 0) : TS))))))) 9) := (by rw [lnC, eC, eB, c_20]; rfl) ; rw [e9]; exact hP)
      · have c_20 : clF kf (q) = true := eq_true_of_ne_false c_20
        refine lv_aload_n hx hb dX4_writeCase_97 rfl (lv_at hl 0 rfl) ?_
        refine lv_bipush (v := nI (33)) hx hb dX4_writeCase_98 gb_33 ?_
        refine wr_callv (va_runV (As := [.int (nI (33))]) (rest := []) ⟨hx, hb, hml, hown, hts⟩ (c_X4_add l D cA B (tw 93 (lpS (kf 2 (q)) (tn (ter) (tw (64) (tn (mer) (tw (58) (tn (q) (((lc, 0) : TS))))))) 9)).1 (tw 93 (lpS (kf 2 (q)) (tn (ter) (tw (64) (tn (mer) (tw (58) (tn (q) (((lc, 0) : TS))))))) 9)).2 (kf) (rw) (cn) (rl) (33) hA (by omega) (by omega)) (cwV 1 hts (gWV gm_36_13 gm_36_14 gm_36_15 gm_2_13 gm_36_16) rfl rfl rfl (by decide +kernel) ⟨Nat.le_of_ble_eq_true rfl, Nat.le_of_ble_eq_true rfl⟩) (gPreV hK (g_rf hK hP (ci := 6) (q0 := 0) rfl rfl) hP) rfl rfl hl.1 rfl (lv_room (Nat.le_of_ble_eq_true rfl)) dX4_writeCase_100 ⟨by omega, by omega⟩) hS (fun q _ h => h) (fun q h => h) (fun H locs hP hz9 hk9 hS => ?_)
        have hP : va_P D vwCl (lwd cA B ((tw (33) (tw 93 (lpS (kf 2 (q)) (tn (ter) (tw (64) (tn (mer) (tw (58) (tn (q) (((lc, 0) : TS))))))) 9))).1) (nI ((tw (33) (tw 93 (lpS (kf 2 (q)) (tn (ter) (tw (64) (tn (mer) (tw (58) (tn (q) (((lc, 0) : TS))))))) 9))).2)) (kf) (rw) (cn) (rl)) H := hP
        have hD : va_D (aS 12 B) (lwd cA B ((tw (33) (tw 93 (lpS (kf 2 (q)) (tn (ter) (tw (64) (tn (mer) (tw (58) (tn (q) (((lc, 0) : TS))))))) 9))).1) (nI ((tw (33) (tw 93 (lpS (kf 2 (q)) (tn (ter) (tw (64) (tn (mer) (tw (58) (tn (q) (((lc, 0) : TS))))))) 9))).2)) (kf) (rw) (cn) (rl)) := lwdD hA
        have htb_21 : (tw (33) (tw 93 (lpS (kf 2 (q)) (tn (ter) (tw (64) (tn (mer) (tw (58) (tn (q) (((lc, 0) : TS))))))) 9))).2 ≤ 0 + 1 + 1 + 3 + 1 + 3 + 19 + 1 := (by rw [tw_2]; omega)
        exact g_vretW hx hb hr hlk hS dX4_writeCase_103 (by have eB := lnB_t (lc := lc) (mer := mer) (ter := ter) c_7; have eC := liC_z (vd := kf 3 q) (by rw [hvF_f c_19]; decide) (ts := liB (kf 2 q) lc q mer ter 9); have e9 : lnC kf lc q mer ter = tw (33) (tw 93 (lpS (kf 2 (q)) (tn (ter) (tw (64) (tn (mer) (tw (58) (tn (q) (((lc, 0) : TS))))))) 9)) := (by rw [lnC, eC, eB, c_20]; rfl) ; rw [e9]; exact hP)
    · have c_19 : hvF kf (q) = true := eq_true_of_ne_false c_19
      refine lv_aload_n hx hb dX4_writeCase_68 rfl (lv_at hl 0 rfl) ?_
      refine lv_aload_n hx hb dX4_writeCase_69 rfl (lv_at hl 1 rfl) ?_
      refine g_get (v := .ref (B 6)) hx hb hts hown hK hP 2 rfl rfl gu_wsX00 3 (by decide) gm_36_8 rfl dX4_writeCase_70 ?_
      refine lv_iload_n hx hb dX4_writeCase_73 rfl (lv_at hl 2 rfl) ?_
      refine g_iald (x := kf 3 (q)) hx hb hK hP 6 rfl (by omega) (by decide) rfl dX4_writeCase_74 ?_
      refine lv_iconst (v := nI (1)) hx hb dX4_writeCase_75 gc_1 ?_
      refine g_icmp_ne (P := kf 3 (q) = nI (1)) (tgt := 84) hx hb dX4_writeCase_76 (by decide) Iff.rfl (fun c_22 => ?_) (fun c_22 => ?_)
      · refine lv_bipush (v := nI (45)) hx hb dX4_writeCase_84 gb_45 ?_
        refine wr_callv (va_runV (As := [.int (nI (45))]) (rest := []) ⟨hx, hb, hml, hown, hts⟩ (c_X4_add l D cA B (tw 93 (lpS (kf 2 (q)) (tn (ter) (tw (64) (tn (mer) (tw (58) (tn (q) (((lc, 0) : TS))))))) 9)).1 (tw 93 (lpS (kf 2 (q)) (tn (ter) (tw (64) (tn (mer) (tw (58) (tn (q) (((lc, 0) : TS))))))) 9)).2 (kf) (rw) (cn) (rl) (45) hA (by omega) (by omega)) (cwV 1 hts (gWV gm_36_13 gm_36_14 gm_36_15 gm_2_13 gm_36_16) rfl rfl rfl (by decide +kernel) ⟨Nat.le_of_ble_eq_true rfl, Nat.le_of_ble_eq_true rfl⟩) (gPreV hK (g_rf hK hP (ci := 6) (q0 := 0) rfl rfl) hP) rfl rfl hl.1 rfl (lv_room (Nat.le_of_ble_eq_true rfl)) dX4_writeCase_86 ⟨by omega, by omega⟩) hS (fun q _ h => h) (fun q h => h) (fun H locs hP hz9 hk9 hS => ?_)
        have hP : va_P D vwCl (lwd cA B ((tw (45) (tw 93 (lpS (kf 2 (q)) (tn (ter) (tw (64) (tn (mer) (tw (58) (tn (q) (((lc, 0) : TS))))))) 9))).1) (nI ((tw (45) (tw 93 (lpS (kf 2 (q)) (tn (ter) (tw (64) (tn (mer) (tw (58) (tn (q) (((lc, 0) : TS))))))) 9))).2)) (kf) (rw) (cn) (rl)) H := hP
        have hD : va_D (aS 12 B) (lwd cA B ((tw (45) (tw 93 (lpS (kf 2 (q)) (tn (ter) (tw (64) (tn (mer) (tw (58) (tn (q) (((lc, 0) : TS))))))) 9))).1) (nI ((tw (45) (tw 93 (lpS (kf 2 (q)) (tn (ter) (tw (64) (tn (mer) (tw (58) (tn (q) (((lc, 0) : TS))))))) 9))).2)) (kf) (rw) (cn) (rl)) := lwdD hA
        have htb_23 : (tw (45) (tw 93 (lpS (kf 2 (q)) (tn (ter) (tw (64) (tn (mer) (tw (58) (tn (q) (((lc, 0) : TS))))))) 9))).2 ≤ 0 + 1 + 1 + 3 + 1 + 3 + 19 + 1 := (by rw [tw_2]; omega)
        refine lv_aload_n hx hb dX4_writeCase_89 rfl (lv_at hl 1 rfl) ?_
        refine lv_iload_n hx hb dX4_writeCase_90 rfl (lv_at hl 2 rfl) ?_
        refine rd_calle (va_runV (As := [.int (nI (q))]) (rest := []) ⟨hx, hb, hml, hown, hts⟩ (c_X0_isClosed l D cA (fun k => B (k + 2)) (kf) (rw) (cn) (rl) (q)  (by omega)) (cwV 1 hts (gWV gm_36_23 gm_12_17 gm_12_18 gm_3_0 gm_12_19) rfl rfl rfl (by decide +kernel) ⟨Nat.le_of_ble_eq_true rfl, Nat.le_of_ble_eq_true rfl⟩) (gPreV hK (g_rf hK hP (ci := 2) (q0 := 2) rfl rfl) (hP.sub [2, 3, 4, 5, 6, 7, 8, 9, 10, 11] rfl)) rfl rfl hl.1 rfl (lv_room (Nat.le_of_ble_eq_true rfl)) dX4_writeCase_91 ⟨by omega, by omega⟩) ?_
        refine g_if_eq (P := clF kf (q) = false) (tgt := 103) hx hb dX4_writeCase_94 (by decide) b2i_0 (fun c_24 => ?_) (fun c_24 => ?_)
        · exact g_vretW hx hb hr hlk hS dX4_writeCase_103 (by have eB := lnB_t (lc := lc) (mer := mer) (ter := ter) c_7; have eC := liC_b (vd := kf 3 q) (fun h9 => hvF_t c_19 (hv0 h9)) c_22 (ts := liB (kf 2 q) lc q mer ter 9); have e9 : lnC kf lc q mer ter = tw (45) (tw 93 (lpS (kf 2 (q)) (tn (ter) (tw (64) (tn (mer) (tw (58) (tn (q) (((lc, 0) : TS))))))) 9)) := (by rw [lnC, eC, eB, c_24]; rfl) ; rw [e9]; exact hP)
        · have c_24 : clF kf (q) = true := eq_true_of_ne_false c_24
          refine lv_aload_n hx hb dX4_writeCase_97 rfl (lv_at hl 0 rfl) ?_
          refine lv_bipush (v := nI (33)) hx hb dX4_writeCase_98 gb_33 ?_
          refine wr_callv (va_runV (As := [.int (nI (33))]) (rest := []) ⟨hx, hb, hml, hown, hts⟩ (c_X4_add l D cA B (tw (45) (tw 93 (lpS (kf 2 (q)) (tn (ter) (tw (64) (tn (mer) (tw (58) (tn (q) (((lc, 0) : TS))))))) 9))).1 (tw (45) (tw 93 (lpS (kf 2 (q)) (tn (ter) (tw (64) (tn (mer) (tw (58) (tn (q) (((lc, 0) : TS))))))) 9))).2 (kf) (rw) (cn) (rl) (33) hA (by omega) (by omega)) (cwV 1 hts (gWV gm_36_13 gm_36_14 gm_36_15 gm_2_13 gm_36_16) rfl rfl rfl (by decide +kernel) ⟨Nat.le_of_ble_eq_true rfl, Nat.le_of_ble_eq_true rfl⟩) (gPreV hK (g_rf hK hP (ci := 6) (q0 := 0) rfl rfl) hP) rfl rfl hl.1 rfl (lv_room (Nat.le_of_ble_eq_true rfl)) dX4_writeCase_100 ⟨by omega, by omega⟩) hS (fun q _ h => h) (fun q h => h) (fun H locs hP hz9 hk9 hS => ?_)
          have hP : va_P D vwCl (lwd cA B ((tw (33) (tw (45) (tw 93 (lpS (kf 2 (q)) (tn (ter) (tw (64) (tn (mer) (tw (58) (tn (q) (((lc, 0) : TS))))))) 9)))).1) (nI ((tw (33) (tw (45) (tw 93 (lpS (kf 2 (q)) (tn (ter) (tw (64) (tn (mer) (tw (58) (tn (q) (((lc, 0) : TS))))))) 9)))).2)) (kf) (rw) (cn) (rl)) H := hP
          have hD : va_D (aS 12 B) (lwd cA B ((tw (33) (tw (45) (tw 93 (lpS (kf 2 (q)) (tn (ter) (tw (64) (tn (mer) (tw (58) (tn (q) (((lc, 0) : TS))))))) 9)))).1) (nI ((tw (33) (tw (45) (tw 93 (lpS (kf 2 (q)) (tn (ter) (tw (64) (tn (mer) (tw (58) (tn (q) (((lc, 0) : TS))))))) 9)))).2)) (kf) (rw) (cn) (rl)) := lwdD hA
          have htb_25 : (tw (33) (tw (45) (tw 93 (lpS (kf 2 (q)) (tn (ter) (tw (64) (tn (mer) (tw (58) (tn (q) (((lc, 0) : TS))))))) 9)))).2 ≤ 0 + 1 + 1 + 3 + 1 + 3 + 19 + 1 + 1 := (by rw [tw_2]; omega)
          exact g_vretW hx hb hr hlk hS dX4_writeCase_103 (by have eB := lnB_t (lc := lc) (mer := mer) (ter := ter) c_7; have eC := liC_b (vd := kf 3 q) (fun h9 => hvF_t c_19 (hv0 h9)) c_22 (ts := liB (kf 2 q) lc q mer ter 9); have e9 : lnC kf lc q mer ter = tw (33) (tw (45) (tw 93 (lpS (kf 2 (q)) (tn (ter) (tw (64) (tn (mer) (tw (58) (tn (q) (((lc, 0) : TS))))))) 9))) := (by rw [lnC, eC, eB, c_24]; rfl) ; rw [e9]; exact hP)
      · refine lv_bipush (v := nI (43)) hx hb dX4_writeCase_79 gb_43 ?_
        refine lv_goto (tgt := 86) hx hb dX4_writeCase_81 (by decide) ?_
        refine wr_callv (va_runV (As := [.int (nI (43))]) (rest := []) ⟨hx, hb, hml, hown, hts⟩ (c_X4_add l D cA B (tw 93 (lpS (kf 2 (q)) (tn (ter) (tw (64) (tn (mer) (tw (58) (tn (q) (((lc, 0) : TS))))))) 9)).1 (tw 93 (lpS (kf 2 (q)) (tn (ter) (tw (64) (tn (mer) (tw (58) (tn (q) (((lc, 0) : TS))))))) 9)).2 (kf) (rw) (cn) (rl) (43) hA (by omega) (by omega)) (cwV 1 hts (gWV gm_36_13 gm_36_14 gm_36_15 gm_2_13 gm_36_16) rfl rfl rfl (by decide +kernel) ⟨Nat.le_of_ble_eq_true rfl, Nat.le_of_ble_eq_true rfl⟩) (gPreV hK (g_rf hK hP (ci := 6) (q0 := 0) rfl rfl) hP) rfl rfl hl.1 rfl (lv_room (Nat.le_of_ble_eq_true rfl)) dX4_writeCase_86 ⟨by omega, by omega⟩) hS (fun q _ h => h) (fun q h => h) (fun H locs hP hz9 hk9 hS => ?_)
        have hP : va_P D vwCl (lwd cA B ((tw (43) (tw 93 (lpS (kf 2 (q)) (tn (ter) (tw (64) (tn (mer) (tw (58) (tn (q) (((lc, 0) : TS))))))) 9))).1) (nI ((tw (43) (tw 93 (lpS (kf 2 (q)) (tn (ter) (tw (64) (tn (mer) (tw (58) (tn (q) (((lc, 0) : TS))))))) 9))).2)) (kf) (rw) (cn) (rl)) H := hP
        have hD : va_D (aS 12 B) (lwd cA B ((tw (43) (tw 93 (lpS (kf 2 (q)) (tn (ter) (tw (64) (tn (mer) (tw (58) (tn (q) (((lc, 0) : TS))))))) 9))).1) (nI ((tw (43) (tw 93 (lpS (kf 2 (q)) (tn (ter) (tw (64) (tn (mer) (tw (58) (tn (q) (((lc, 0) : TS))))))) 9))).2)) (kf) (rw) (cn) (rl)) := lwdD hA
        have htb_26 : (tw (43) (tw 93 (lpS (kf 2 (q)) (tn (ter) (tw (64) (tn (mer) (tw (58) (tn (q) (((lc, 0) : TS))))))) 9))).2 ≤ 0 + 1 + 1 + 3 + 1 + 3 + 19 + 1 := (by rw [tw_2]; omega)
        refine lv_aload_n hx hb dX4_writeCase_89 rfl (lv_at hl 1 rfl) ?_
        refine lv_iload_n hx hb dX4_writeCase_90 rfl (lv_at hl 2 rfl) ?_
        refine rd_calle (va_runV (As := [.int (nI (q))]) (rest := []) ⟨hx, hb, hml, hown, hts⟩ (c_X0_isClosed l D cA (fun k => B (k + 2)) (kf) (rw) (cn) (rl) (q)  (by omega)) (cwV 1 hts (gWV gm_36_23 gm_12_17 gm_12_18 gm_3_0 gm_12_19) rfl rfl rfl (by decide +kernel) ⟨Nat.le_of_ble_eq_true rfl, Nat.le_of_ble_eq_true rfl⟩) (gPreV hK (g_rf hK hP (ci := 2) (q0 := 2) rfl rfl) (hP.sub [2, 3, 4, 5, 6, 7, 8, 9, 10, 11] rfl)) rfl rfl hl.1 rfl (lv_room (Nat.le_of_ble_eq_true rfl)) dX4_writeCase_91 ⟨by omega, by omega⟩) ?_
        refine g_if_eq (P := clF kf (q) = false) (tgt := 103) hx hb dX4_writeCase_94 (by decide) b2i_0 (fun c_27 => ?_) (fun c_27 => ?_)
        · exact g_vretW hx hb hr hlk hS dX4_writeCase_103 (by have eB := lnB_t (lc := lc) (mer := mer) (ter := ter) c_7; have eC := liC_a (vd := kf 3 q) (fun h9 => hvF_t c_19 (hv0 h9)) c_22 (ts := liB (kf 2 q) lc q mer ter 9); have e9 : lnC kf lc q mer ter = tw (43) (tw 93 (lpS (kf 2 (q)) (tn (ter) (tw (64) (tn (mer) (tw (58) (tn (q) (((lc, 0) : TS))))))) 9)) := (by rw [lnC, eC, eB, c_27]; rfl) ; rw [e9]; exact hP)
        · have c_27 : clF kf (q) = true := eq_true_of_ne_false c_27
          refine lv_aload_n hx hb dX4_writeCase_97 rfl (lv_at hl 0 rfl) ?_
          refine lv_bipush (v := nI (33)) hx hb dX4_writeCase_98 gb_33 ?_
          refine wr_callv (va_runV (As := [.int (nI (33))]) (rest := []) ⟨hx, hb, hml, hown, hts⟩ (c_X4_add l D cA B (tw (43) (tw 93 (lpS (kf 2 (q)) (tn (ter) (tw (64) (tn (mer) (tw (58) (tn (q) (((lc, 0) : TS))))))) 9))).1 (tw (43) (tw 93 (lpS (kf 2 (q)) (tn (ter) (tw (64) (tn (mer) (tw (58) (tn (q) (((lc, 0) : TS))))))) 9))).2 (kf) (rw) (cn) (rl) (33) hA (by omega) (by omega)) (cwV 1 hts (gWV gm_36_13 gm_36_14 gm_36_15 gm_2_13 gm_36_16) rfl rfl rfl (by decide +kernel) ⟨Nat.le_of_ble_eq_true rfl, Nat.le_of_ble_eq_true rfl⟩) (gPreV hK (g_rf hK hP (ci := 6) (q0 := 0) rfl rfl) hP) rfl rfl hl.1 rfl (lv_room (Nat.le_of_ble_eq_true rfl)) dX4_writeCase_100 ⟨by omega, by omega⟩) hS (fun q _ h => h) (fun q h => h) (fun H locs hP hz9 hk9 hS => ?_)
          have hP : va_P D vwCl (lwd cA B ((tw (33) (tw (43) (tw 93 (lpS (kf 2 (q)) (tn (ter) (tw (64) (tn (mer) (tw (58) (tn (q) (((lc, 0) : TS))))))) 9)))).1) (nI ((tw (33) (tw (43) (tw 93 (lpS (kf 2 (q)) (tn (ter) (tw (64) (tn (mer) (tw (58) (tn (q) (((lc, 0) : TS))))))) 9)))).2)) (kf) (rw) (cn) (rl)) H := hP
          have hD : va_D (aS 12 B) (lwd cA B ((tw (33) (tw (43) (tw 93 (lpS (kf 2 (q)) (tn (ter) (tw (64) (tn (mer) (tw (58) (tn (q) (((lc, 0) : TS))))))) 9)))).1) (nI ((tw (33) (tw (43) (tw 93 (lpS (kf 2 (q)) (tn (ter) (tw (64) (tn (mer) (tw (58) (tn (q) (((lc, 0) : TS))))))) 9)))).2)) (kf) (rw) (cn) (rl)) := lwdD hA
          have htb_28 : (tw (33) (tw (43) (tw 93 (lpS (kf 2 (q)) (tn (ter) (tw (64) (tn (mer) (tw (58) (tn (q) (((lc, 0) : TS))))))) 9)))).2 ≤ 0 + 1 + 1 + 3 + 1 + 3 + 19 + 1 + 1 := (by rw [tw_2]; omega)
          exact g_vretW hx hb hr hlk hS dX4_writeCase_103 (by have eB := lnB_t (lc := lc) (mer := mer) (ter := ter) c_7; have eC := liC_a (vd := kf 3 q) (fun h9 => hvF_t c_19 (hv0 h9)) c_22 (ts := liB (kf 2 q) lc q mer ter 9); have e9 : lnC kf lc q mer ter = tw (33) (tw (43) (tw 93 (lpS (kf 2 (q)) (tn (ter) (tw (64) (tn (mer) (tw (58) (tn (q) (((lc, 0) : TS))))))) 9))) := (by rw [lnC, eC, eB, c_27]; rfl) ; rw [e9]; exact hP)

set_option maxHeartbeats 1000000 in
set_option maxRecDepth 100000 in
theorem c_X4_writeRoll (l : Launch) (D : va_G) (cA : Nat → ClassId) (B : Nat → Nat) (lc : Nat → Int32) (ln : Nat) (kf : Nat → Nat → Int32) (rw : Nat → Nat) (cn rl : Nat) (hA : aInj 12 B) (hrl : rl ≤ 10) (hrw : ∀ k, k < rl → rw k < 10) : Met l yX4_writeRoll (gw yX4_writeRoll cX4_writeRoll 3 none) ({ frames := 2, cells := 0, slots := 0, locals := 42 } : Room) (gPc [.ref (B 0), .ref (B 2)] (fun H => va_P D vwCl (lwd cA B (lc) (nI (ln)) (kf) (rw) (cn) (rl)) H) D cA) (wrV (fun H => va_P D vwCl (lwd cA B (rlC rw lc rl).1 (nI (rlC rw lc rl).2) kf rw cn rl) H) (aS 12 B)) 0 0 (aS 12 B) := by
  refine gOf (by decide) (Nat.le_of_ble_eq_true rfl) ?_
  intro p e s m below meth c ls hx hb hml hr hlk hown hts hnm hP hK hl
  have hl : lv_has ls 3 [(0, .ref (B 0)), (1, .ref (B 2))] := hl
  have hD : va_D (aS 12 B) (lwd cA B (lc) (nI (ln)) (kf) (rw) (cn) (rl)) := lwdD hA
  have hS : va_S (aS 12 B) s.heap s.heap [] := va_S.rf
  refine lv_aload_n hx hb dX4_writeRoll_0 rfl (lv_at hl 0 rfl) ?_
  refine lv_iconst (v := nI (0)) hx hb dX4_writeRoll_1 gc_0 ?_
  refine g_put (ws' := lwd cA B (lc) (nI (0)) (kf) (rw) (cn) (rl)) hx hb hts hown hK hP hD hS 0 rfl rfl gu_wsX40 tyX4_ok nmX4 1 (by decide) gm_5_9 rfl rfl rfl (Nat.le_of_ble_eq_true rfl) (by first | rfl | (rw [updN_nI]; rfl)) dX4_writeRoll_2 (fun H locs hP hD hS => ?_)
  refine lv_iconst (v := nI (0)) hx hb dX4_writeRoll_5 gc_0 ?_
  refine lv_istore_n (lv' := [(2, .int (nI (0))), (0, .ref (B 0)), (1, .ref (B 2))]) hx hb dX4_writeRoll_6 rfl hl (by decide) rfl (fun ls hl => ?_)
  have LP_6 : ∀ (n_2 i_1 : Nat) (x_3 X_4 : Int32) (F_5 : Nat → Int32) (H : Heap) (locs : List Loc), i_1 ≤ rl → rl + 1 ≤ i_1 + n_2 → x_3 = nI (i_1) → X_4 = nI ((rlC rw lc i_1).2) → F_5 = (rlC rw lc i_1).1 → va_P D vwCl (lwd cA B (F_5) (X_4) (kf) (rw) (cn) (rl)) H → va_S (aS 12 B) s.heap H locs → ∀ (ls : Array Slot), lv_has ls 3 [(2, .int (x_3)), (0, .ref (B 0)), (1, .ref (B 2))] → W p l e ({ frames := 2, cells := 0, slots := 0, locals := 42 } : Room) s m ([.ref (B 0), .ref (B 2)] : List Value).toArray below meth c H locs 0 0 (MQ below (wrV (fun H => va_P D vwCl (lwd cA B (rlC rw lc rl).1 (nI (rlC rw lc rl).2) kf rw cn rl) H) (aS 12 B)) ([.ref (B 0), .ref (B 2)] : List Value).toArray s 0 0 (aS 12 B)) (F0 m 7 ls []) := by
    intro n_2
    induction n_2 with
    | zero => intro i_1 x_3 X_4 F_5 H locs h1 h2; exact absurd h2 (by omega)
    | succ n_2 ih_7 =>
      intro i_1 x_3 X_4 F_5 H locs h_8 h_9 e_10 e_11 e_12 hP hS ls hl
      subst e_10
      subst e_11
      subst e_12
      have hD : va_D (aS 12 B) (lwd cA B ((rlC rw lc i_1).1) (nI ((rlC rw lc i_1).2)) (kf) (rw) (cn) (rl)) := lwdD hA
      have hla9 := rlC_2 (rw := rw) (lc := lc) i_1 (fun j hj => hrw j (by omega))
      have htb_13 : (rlC rw lc i_1).2 ≤ 2 * i_1 := hla9
      refine lv_iload_n hx hb dX4_writeRoll_7 rfl (lv_at hl 0 rfl) ?_
      refine lv_aload_n hx hb dX4_writeRoll_8 rfl (lv_at hl 2 rfl) ?_
      refine g_get (v := .int (nI (rl))) hx hb hts hown hK hP 2 rfl rfl gu_wsX00 10 (by decide) gm_37_21 rfl dX4_writeRoll_9 ?_
      refine g_icmp_ge (P := rl ≤ i_1) (tgt := 41) hx hb dX4_writeRoll_12 (by decide) (nI_leI (by omega) (by omega)) (fun c_14 => ?_) (fun c_14 => ?_)
      · have d_14 : ¬ i_1 < rl := Nat.not_lt.mpr c_14
        have hN_15 : rl = i_1 := by omega
        subst hN_15
        exact g_vretW hx hb hr hlk hS dX4_writeRoll_41 (hP)
      · have d_14 : i_1 < rl := Nat.not_le.mp c_14
        refine lv_iload_n hx hb dX4_writeRoll_15 rfl (lv_at hl 0 rfl) ?_
        refine g_if_le (P := i_1 = 0) (tgt := 25) hx hb dX4_writeRoll_16 (by decide) (nI_ez (a := i_1) (by omega)) (fun c_16 => ?_) (fun c_16 => ?_)
        · refine lv_aload_n hx hb dX4_writeRoll_25 rfl (lv_at hl 1 rfl) ?_
          refine lv_aload_n hx hb dX4_writeRoll_26 rfl (lv_at hl 2 rfl) ?_
          refine g_get (v := .ref (B 11)) hx hb hts hown hK hP 2 rfl rfl gu_wsX00 8 (by decide) gm_37_22 rfl dX4_writeRoll_27 ?_
          refine lv_iload_n hx hb dX4_writeRoll_30 rfl (lv_at hl 0 rfl) ?_
          have hrk_17 := hrw (i_1) (by omega)
          refine g_iald (x := nI ((rw) (i_1))) hx hb hK hP 11 rfl (by omega) (by decide) rfl dX4_writeRoll_31 ?_
          refine wr_callv (va_runV (As := [.int (nI ((rw) (i_1)))]) (rest := []) ⟨hx, hb, hml, hown, hts⟩ (c_X4_addNumber l D cA B (rlC rw lc i_1).1 (rlC rw lc i_1).2 (kf) (rw) (cn) (rl) ((rw) (i_1)) hA (by omega) (show (tn ((rw) (i_1)) (rlC rw lc i_1)).2 ≤ 32 by have q9 := (tn_29 (ts := rlC rw lc i_1) (n := (rw) (i_1)) (by omega)); omega)) (cwV 1 hts (gWV gm_36_9 gm_36_10 gm_36_11 gm_2_13 gm_36_12) rfl rfl rfl (by decide +kernel) ⟨Nat.le_of_ble_eq_true rfl, Nat.le_of_ble_eq_true rfl⟩) (gPreV hK (g_rf hK hP (ci := 6) (q0 := 0) rfl rfl) hP) rfl rfl hl.1 rfl (lv_room (Nat.le_of_ble_eq_true rfl)) dX4_writeRoll_32 ⟨by omega, by omega⟩) hS (fun q _ h => h) (fun q h => h) (fun H locs hP hz9 hk9 hS => ?_)
          have hP : va_P D vwCl (lwd cA B ((tn ((rw) (i_1)) (rlC rw lc i_1)).1) (nI ((tn ((rw) (i_1)) (rlC rw lc i_1)).2)) (kf) (rw) (cn) (rl)) H := hP
          have hD : va_D (aS 12 B) (lwd cA B ((tn ((rw) (i_1)) (rlC rw lc i_1)).1) (nI ((tn ((rw) (i_1)) (rlC rw lc i_1)).2)) (kf) (rw) (cn) (rl)) := lwdD hA
          have htb_18 : (tn ((rw) (i_1)) (rlC rw lc i_1)).2 ≤ 2 * i_1 + 1 := (by rw [tn_29 (by omega)]; omega)
          refine lv_iinc (v := nI (i_1 + 1)) (lv' := [(2, .int (nI (i_1 + 1))), (0, .ref (B 0)), (1, .ref (B 2))]) hx hb dX4_writeRoll_35 hl (k := 0) rfl (inc_1 _) (by decide) rfl (fun ls hl => ?_)
          refine lv_goto (tgt := 7) hx hb dX4_writeRoll_38 (by decide) ?_
          exact ih_7 (i_1 + 1) _ (nI ((tn ((rw) (i_1)) (rlC rw lc i_1)).2)) ((tn ((rw) (i_1)) (rlC rw lc i_1)).1) H locs (by omega) (by omega) rfl (by rw [rlC, if_pos c_16]) (by rw [rlC, if_pos c_16]) hP hS ls (lv_sub hl [0, 1, 2] rfl)
        · refine lv_aload_n hx hb dX4_writeRoll_19 rfl (lv_at hl 1 rfl) ?_
          refine lv_bipush (v := nI (32)) hx hb dX4_writeRoll_20 gb_32 ?_
          refine wr_callv (va_runV (As := [.int (nI (32))]) (rest := []) ⟨hx, hb, hml, hown, hts⟩ (c_X4_add l D cA B (rlC rw lc i_1).1 (rlC rw lc i_1).2 (kf) (rw) (cn) (rl) (32) hA (by omega) (by omega)) (cwV 1 hts (gWV gm_36_13 gm_36_14 gm_36_15 gm_2_13 gm_36_16) rfl rfl rfl (by decide +kernel) ⟨Nat.le_of_ble_eq_true rfl, Nat.le_of_ble_eq_true rfl⟩) (gPreV hK (g_rf hK hP (ci := 6) (q0 := 0) rfl rfl) hP) rfl rfl hl.1 rfl (lv_room (Nat.le_of_ble_eq_true rfl)) dX4_writeRoll_22 ⟨by omega, by omega⟩) hS (fun q _ h => h) (fun q h => h) (fun H locs hP hz9 hk9 hS => ?_)
          have hP : va_P D vwCl (lwd cA B ((tw (32) (rlC rw lc i_1)).1) (nI ((tw (32) (rlC rw lc i_1)).2)) (kf) (rw) (cn) (rl)) H := hP
          have hD : va_D (aS 12 B) (lwd cA B ((tw (32) (rlC rw lc i_1)).1) (nI ((tw (32) (rlC rw lc i_1)).2)) (kf) (rw) (cn) (rl)) := lwdD hA
          have htb_19 : (tw (32) (rlC rw lc i_1)).2 ≤ 2 * i_1 + 1 := (by rw [tw_2]; omega)
          refine lv_aload_n hx hb dX4_writeRoll_25 rfl (lv_at hl 1 rfl) ?_
          refine lv_aload_n hx hb dX4_writeRoll_26 rfl (lv_at hl 2 rfl) ?_
          refine g_get (v := .ref (B 11)) hx hb hts hown hK hP 2 rfl rfl gu_wsX00 8 (by decide) gm_37_22 rfl dX4_writeRoll_27 ?_
          refine lv_iload_n hx hb dX4_writeRoll_30 rfl (lv_at hl 0 rfl) ?_
          have hrk_20 := hrw (i_1) (by omega)
          refine g_iald (x := nI ((rw) (i_1))) hx hb hK hP 11 rfl (by omega) (by decide) rfl dX4_writeRoll_31 ?_
          refine wr_callv (va_runV (As := [.int (nI ((rw) (i_1)))]) (rest := []) ⟨hx, hb, hml, hown, hts⟩ (c_X4_addNumber l D cA B (tw (32) (rlC rw lc i_1)).1 (tw (32) (rlC rw lc i_1)).2 (kf) (rw) (cn) (rl) ((rw) (i_1)) hA (by omega) (show (tn ((rw) (i_1)) (tw (32) (rlC rw lc i_1))).2 ≤ 32 by have q9 := (tn_29 (ts := tw (32) (rlC rw lc i_1)) (n := (rw) (i_1)) (by omega)); omega)) (cwV 1 hts (gWV gm_36_9 gm_36_10 gm_36_11 gm_2_13 gm_36_12) rfl rfl rfl (by decide +kernel) ⟨Nat.le_of_ble_eq_true rfl, Nat.le_of_ble_eq_true rfl⟩) (gPreV hK (g_rf hK hP (ci := 6) (q0 := 0) rfl rfl) hP) rfl rfl hl.1 rfl (lv_room (Nat.le_of_ble_eq_true rfl)) dX4_writeRoll_32 ⟨by omega, by omega⟩) hS (fun q _ h => h) (fun q h => h) (fun H locs hP hz9 hk9 hS => ?_)
          have hP : va_P D vwCl (lwd cA B ((tn ((rw) (i_1)) (tw (32) (rlC rw lc i_1))).1) (nI ((tn ((rw) (i_1)) (tw (32) (rlC rw lc i_1))).2)) (kf) (rw) (cn) (rl)) H := hP
          have hD : va_D (aS 12 B) (lwd cA B ((tn ((rw) (i_1)) (tw (32) (rlC rw lc i_1))).1) (nI ((tn ((rw) (i_1)) (tw (32) (rlC rw lc i_1))).2)) (kf) (rw) (cn) (rl)) := lwdD hA
          have htb_21 : (tn ((rw) (i_1)) (tw (32) (rlC rw lc i_1))).2 ≤ 2 * i_1 + 1 + 1 := (by rw [tn_29 (by omega)]; omega)
          refine lv_iinc (v := nI (i_1 + 1)) (lv' := [(2, .int (nI (i_1 + 1))), (0, .ref (B 0)), (1, .ref (B 2))]) hx hb dX4_writeRoll_35 hl (k := 0) rfl (inc_1 _) (by decide) rfl (fun ls hl => ?_)
          refine lv_goto (tgt := 7) hx hb dX4_writeRoll_38 (by decide) ?_
          exact ih_7 (i_1 + 1) _ (nI ((tn ((rw) (i_1)) (tw (32) (rlC rw lc i_1))).2)) ((tn ((rw) (i_1)) (tw (32) (rlC rw lc i_1))).1) H locs (by omega) (by omega) rfl (by rw [rlC, if_neg c_16]) (by rw [rlC, if_neg c_16]) hP hS ls (lv_sub hl [0, 1, 2] rfl)
  exact LP_6 (rl + 1) 0 _ (nI ((((lc, 0) : TS)).2)) ((((lc, 0) : TS)).1) H locs (by omega) (by omega) rfl rfl rfl hP hS ls (lv_sub hl [0, 1, 2] rfl)

