def nthS (first : Int32 → Option Nat) : Nat → Int32 × Option Nat
  | 0 => (nI 0, first (nI 0))
  | k + 1 => match (nthS first k).2 with
    | none => nthS first k
    | some b => ((nthS first k).1 ||| (nI 1 <<< (nI b &&& 31)), first ((nthS first k).1 ||| (nI 1 <<< (nI b &&& 31))))
theorem nthS_some {first : Int32 → Option Nat} {k b : Nat} (h : (nthS first k).2 = some b) : nthS first (k + 1) = ((nthS first k).1 ||| (nI 1 <<< (nI b &&& 31)), first ((nthS first k).1 ||| (nI 1 <<< (nI b &&& 31)))) := by
  show (match (nthS first k).2 with | none => _ | some b => _) = _
  rw [h]
theorem nthS_none {first : Int32 → Option Nat} {k : Nat} (h : (nthS first k).2 = none) : ∀ m, k ≤ m → nthS first m = nthS first k
  | 0, q => by rw [Nat.le_zero.mp q]
  | m + 1, q => by
    rcases Nat.lt_or_ge m k with r | r
    · rw [show m + 1 = k by omega]
    · have e := nthS_none h m r
      show (match (nthS first m).2 with | none => _ | some b => _) = _
      rw [e, h]
def nthV (first : Int32 → Option Nat) (n : Nat) (v : Int32) : Option Nat := if isIx v n = true then (nthS first v.toNatClampNeg).2 else none
theorem nthV_in {first : Int32 → Option Nat} {n j : Nat} {v : Int32} (hj : j < n) (hn : n < 2 ^ 31) (e : v = nI j) : nthV first n v = (nthS first j).2 := by
  rw [nthV, e, if_pos (isIx_t hj hn), nI_clamp (Nat.lt_trans hj hn)]
theorem nthV_out {first : Int32 → Option Nat} {n : Nat} {v : Int32} (h : isIx v n = false) : nthV first n v = none := by
  rw [nthV, if_neg (by rw [h]; decide)]
theorem nthS_lt {first : Int32 → Option Nat} {n : Nat} (h : ∀ o b, first o = some b → b < n) : ∀ k b, (nthS first k).2 = some b → b < n
  | 0, b, q => h _ b q
  | k + 1, b, q => by
    cases e : (nthS first k).2 with
    | none =>
      rw [nthS_none e (k + 1) (Nat.le_succ k)] at q
      exact nthS_lt h k b q
    | some z =>
      rw [nthS_some e] at q
      exact h _ b q
theorem fdF_lt {l d : Nat → Int32} {n : Nat} (o : Int32) (b : Nat) (h : fdF l d n o = some b) : b < n := bst_lt h
theorem fhF_lt {k : Nat → Nat → Int32} {n : Nat} (o : Int32) (b : Nat) (h : fhF k n o = some b) : b < n := bst_lt h

set_option maxHeartbeats 1000000 in
set_option maxRecDepth 100000 in
theorem c_X3_doubtfulAt (l : Launch) (D : va_G) (cA : Nat → ClassId) (J : Nat → Nat) (jf : Nat → Nat → Int32) (jn : Nat) (v : Int32) (hjn : jn ≤ 9) : Met l yX3_doubtfulAt (gw yX3_doubtfulAt cX3_doubtfulAt 5 (some .int)) ({ frames := 2, cells := 0, slots := 0, locals := 45 } : Room) (gPc [.ref (J 0), .int (v)] (fun H => va_P D vwCl (jw cA J jf jn) H) D cA) (rdI (fun r => r = oI (nthV (fdF (jf 0) (jf 1) jn) jn v))) 0 0 nF := by
  refine gOf (by decide) (Nat.le_of_ble_eq_true rfl) ?_
  intro p e s m below meth c ls hx hb hml hr hlk hown hts hnm hP hK hl
  have hl : lv_has ls 5 [(0, .ref (J 0)), (1, .int (v))] := hl
  refine lv_aload_n hx hb dX3_doubtfulAt_0 rfl (lv_at hl 0 rfl) ?_
  refine lv_iload_n hx hb dX3_doubtfulAt_1 rfl (lv_at hl 1 rfl) ?_
  refine rd_calle (va_runV (As := [.int (v)]) (rest := []) ⟨hx, hb, hml, hown, hts⟩ (c_X3_has l D cA J jf jn (v) hjn) (cwV 1 hts (gWV gm_35_0 gm_25_2 gm_25_3 gm_2_5 gm_25_4) rfl rfl rfl (by decide +kernel) ⟨Nat.le_of_ble_eq_true rfl, Nat.le_of_ble_eq_true rfl⟩) (gPreV hK (g_rf hK hP (ci := 5) (q0 := 0) rfl rfl) hP) rfl rfl hl.1 rfl (lv_room (Nat.le_of_ble_eq_true rfl)) dX3_doubtfulAt_2 ⟨by omega, by omega⟩) ?_
  refine g_if_ne (P := isIx (v) jn = false) (tgt := 10) hx hb dX3_doubtfulAt_5 (by decide) b2i_0 (fun c_1 => ?_) (fun c_1 => ?_)
  · have c_1 : isIx (v) jn = true := eq_true_of_ne_false c_1
    obtain ⟨j_2, hj_4, ej_3⟩ := isIx_n c_1 (by omega)
    rw [ej_3] at hl
    have hl : lv_has ls 5 [(0, .ref (J 0)), (1, .int (nI (j_2)))] := hl
    refine lv_iconst (v := nI (0)) hx hb dX3_doubtfulAt_10 gc_0 ?_
    refine lv_istore_n (lv' := [(2, .int (nI (0))), (0, .ref (J 0)), (1, .int (nI (j_2)))]) hx hb dX3_doubtfulAt_11 rfl hl (by decide) rfl (fun ls hl => ?_)
    refine lv_aload_n hx hb dX3_doubtfulAt_12 rfl (lv_at hl 1 rfl) ?_
    refine lv_iload_n hx hb dX3_doubtfulAt_13 rfl (lv_at hl 0 rfl) ?_
    refine rd_calle (va_runV (As := [.int (nI (0))]) (rest := []) ⟨hx, hb, hml, hown, hts⟩ (c_X3_firstDoubtful l D cA J jf jn (nI (0)) hjn) (cwV 1 hts (gWV gm_35_1 gm_35_2 gm_35_3 gm_2_5 gm_35_4) rfl rfl rfl (by decide +kernel) ⟨Nat.le_of_ble_eq_true rfl, Nat.le_of_ble_eq_true rfl⟩) (gPreV hK (g_rf hK hP (ci := 5) (q0 := 0) rfl rfl) hP) rfl rfl hl.1 rfl (lv_room (Nat.le_of_ble_eq_true rfl)) dX3_doubtfulAt_14 ⟨by omega, by omega⟩) ?_
    refine lv_istore_n (lv' := [(3, .int (oI (fdF (jf 0) (jf 1) jn (nI (0))))), (2, .int (nI (0))), (0, .ref (J 0)), (1, .int (nI (j_2)))]) hx hb dX3_doubtfulAt_17 rfl hl (by decide) rfl (fun ls hl => ?_)
    refine lv_iconst (v := nI (0)) hx hb dX3_doubtfulAt_18 gc_0 ?_
    refine lv_istore (lv' := [(4, .int (nI (0))), (3, .int (oI (fdF (jf 0) (jf 1) jn (nI (0))))), (2, .int (nI (0))), (0, .ref (J 0)), (1, .int (nI (j_2)))]) hx hb dX3_doubtfulAt_19 hl (by decide) rfl (fun ls hl => ?_)
    have LP_10 : ∀ (n_6 i_5 : Nat) (x_7 : Int32) (x_8 : Int32) (x_9 : Int32), i_5 ≤ j_2 → j_2 + 1 ≤ i_5 + n_6 → x_7 = nI (i_5) → x_8 = oI ((nthS (fdF (jf 0) (jf 1) jn) i_5).2) → x_9 = (nthS (fdF (jf 0) (jf 1) jn) i_5).1 → ∀ (ls : Array Slot), lv_has ls 5 [(4, .int (x_7)), (3, .int (x_8)), (2, .int (x_9)), (0, .ref (J 0)), (1, .int (nI (j_2)))] → W p l e ({ frames := 2, cells := 0, slots := 0, locals := 45 } : Room) s m ([.ref (J 0), .int (v)] : List Value).toArray below meth c s.heap [] 0 0 (MQ below (rdI (fun r => r = oI (nthV (fdF (jf 0) (jf 1) jn) jn v))) ([.ref (J 0), .int (v)] : List Value).toArray s 0 0 nF) (F0 m 21 ls []) := by
      intro n_6
      induction n_6 with
      | zero => intro i_5 x_7 x_8 x_9 h1 h2; exact absurd h2 (by omega)
      | succ n_6 ih_14 =>
        intro i_5 x_7 x_8 x_9 h_15 h_16 e_11 e_12 e_13  ls hl
        subst e_11
        subst e_12
        subst e_13
        refine lv_iload hx hb dX3_doubtfulAt_21 (lv_at hl 0 rfl) ?_
        refine lv_iload_n hx hb dX3_doubtfulAt_23 rfl (lv_at hl 4 rfl) ?_
        refine g_icmp_ge (P := j_2 ≤ i_5) (tgt := 50) hx hb dX3_doubtfulAt_24 (by decide) (nI_leI (by omega) (by omega)) (fun c_17 => ?_) (fun c_17 => ?_)
        · have d_17 : ¬ i_5 < j_2 := Nat.not_lt.mpr c_17
          have hN_18 : j_2 = i_5 := by omega
          subst hN_18
          refine lv_iload_n hx hb dX3_doubtfulAt_50 rfl (lv_at hl 1 rfl) ?_
          exact g_iret (v := oI ((nthS (fdF (jf 0) (jf 1) jn) (j_2)).2)) hx hb hr hlk dX3_doubtfulAt_51 (by rw [nthV_in hj_4 (by omega) ej_3])
        · have d_17 : i_5 < j_2 := Nat.not_le.mp c_17
          refine lv_iload_n hx hb dX3_doubtfulAt_27 rfl (lv_at hl 1 rfl) ?_
          refine lv_iconst (v := -1) hx hb dX3_doubtfulAt_28 gc_m1 ?_
          refine g_icmp_eq (P := (nthS (fdF (jf 0) (jf 1) jn) i_5).2 = none) (tgt := 50) hx hb dX3_doubtfulAt_29 (by decide) (oI_m1 (fun b q => by have := nthS_lt fdF_lt _ _ q; omega)) (fun c_19 => ?_) (fun c_19 => ?_)
          · refine lv_iload_n hx hb dX3_doubtfulAt_50 rfl (lv_at hl 1 rfl) ?_
            exact g_iret (v := oI ((nthS (fdF (jf 0) (jf 1) jn) i_5).2)) hx hb hr hlk dX3_doubtfulAt_51 (by rw [nthV_in hj_4 (by omega) ej_3, nthS_none c_19 j_2 (by omega)])
          · obtain ⟨b_20, eb_21⟩ := o_some c_19
            have hb_22 := nthS_lt fdF_lt _ _ eb_21
            rw [eb_21] at hl
            have hl : lv_has ls 5 [(4, .int (nI (i_5))), (3, .int (nI (b_20))), (2, .int ((nthS (fdF (jf 0) (jf 1) jn) i_5).1)), (0, .ref (J 0)), (1, .int (nI (j_2)))] := hl
            refine lv_iload_n hx hb dX3_doubtfulAt_32 rfl (lv_at hl 2 rfl) ?_
            refine lv_iconst (v := nI (1)) hx hb dX3_doubtfulAt_33 gc_1 ?_
            refine lv_iload_n hx hb dX3_doubtfulAt_34 rfl (lv_at hl 1 rfl) ?_
            refine lv_ishl hx hb dX3_doubtfulAt_35 ?_
            refine lv_ior hx hb dX3_doubtfulAt_36 ?_
            refine lv_istore_n (lv' := [(2, .int (((nthS (fdF (jf 0) (jf 1) jn) i_5).1) ||| ((nI (1)) <<< ((nI (b_20)) &&& 31)))), (4, .int (nI (i_5))), (3, .int (nI (b_20))), (0, .ref (J 0)), (1, .int (nI (j_2)))]) hx hb dX3_doubtfulAt_37 rfl hl (by decide) rfl (fun ls hl => ?_)
            refine lv_aload_n hx hb dX3_doubtfulAt_38 rfl (lv_at hl 3 rfl) ?_
            refine lv_iload_n hx hb dX3_doubtfulAt_39 rfl (lv_at hl 0 rfl) ?_
            refine rd_calle (va_runV (As := [.int (((nthS (fdF (jf 0) (jf 1) jn) i_5).1) ||| ((nI (1)) <<< ((nI (b_20)) &&& 31)))]) (rest := []) ⟨hx, hb, hml, hown, hts⟩ (c_X3_firstDoubtful l D cA J jf jn (((nthS (fdF (jf 0) (jf 1) jn) i_5).1) ||| ((nI (1)) <<< ((nI (b_20)) &&& 31))) hjn) (cwV 1 hts (gWV gm_35_1 gm_35_2 gm_35_3 gm_2_5 gm_35_4) rfl rfl rfl (by decide +kernel) ⟨Nat.le_of_ble_eq_true rfl, Nat.le_of_ble_eq_true rfl⟩) (gPreV hK (g_rf hK hP (ci := 5) (q0 := 0) rfl rfl) hP) rfl rfl hl.1 rfl (lv_room (Nat.le_of_ble_eq_true rfl)) dX3_doubtfulAt_40 ⟨by omega, by omega⟩) ?_
            refine lv_istore_n (lv' := [(3, .int (oI (fdF (jf 0) (jf 1) jn (((nthS (fdF (jf 0) (jf 1) jn) i_5).1) ||| ((nI (1)) <<< ((nI (b_20)) &&& 31)))))), (2, .int (((nthS (fdF (jf 0) (jf 1) jn) i_5).1) ||| ((nI (1)) <<< ((nI (b_20)) &&& 31)))), (4, .int (nI (i_5))), (0, .ref (J 0)), (1, .int (nI (j_2)))]) hx hb dX3_doubtfulAt_43 rfl hl (by decide) rfl (fun ls hl => ?_)
            refine lv_iinc (v := nI (i_5 + 1)) (lv' := [(4, .int (nI (i_5 + 1))), (3, .int (oI (fdF (jf 0) (jf 1) jn (((nthS (fdF (jf 0) (jf 1) jn) i_5).1) ||| ((nI (1)) <<< ((nI (b_20)) &&& 31)))))), (2, .int (((nthS (fdF (jf 0) (jf 1) jn) i_5).1) ||| ((nI (1)) <<< ((nI (b_20)) &&& 31)))), (0, .ref (J 0)), (1, .int (nI (j_2)))]) hx hb dX3_doubtfulAt_44 hl (k := 2) rfl (inc_1 _) (by decide) rfl (fun ls hl => ?_)
            refine lv_goto (tgt := 21) hx hb dX3_doubtfulAt_47 (by decide) ?_
            exact ih_14 (i_5 + 1) _ _ _ (by omega) (by omega) rfl (by rw [nthS_some eb_21]) (by rw [nthS_some eb_21])  ls (lv_sub hl [0, 1, 2, 3, 4] rfl)
    exact LP_10 (j_2 + 1) 0 _ _ _ (by omega) (by omega) rfl rfl rfl  ls (lv_sub hl [0, 1, 2, 3, 4] rfl)
  · refine lv_iconst (v := -1) hx hb dX3_doubtfulAt_8 gc_m1 ?_
    exact g_iret (v := -1) hx hb hr hlk dX3_doubtfulAt_9 (by rw [nthV_out c_1]; rfl)

set_option maxHeartbeats 1000000 in
set_option maxRecDepth 100000 in
theorem c_X0_takenOutAt (l : Launch) (D : va_G) (cA : Nat → ClassId) (K : Nat → Nat) (kf : Nat → Nat → Int32) (rw : Nat → Nat) (cn rl : Nat) (v : Int32) (hcn : cn ≤ 10) : Met l yX0_takenOutAt (gw yX0_takenOutAt cX0_takenOutAt 5 (some .int)) ({ frames := 3, cells := 0, slots := 0, locals := 65 } : Room) (gPc [.ref (K 0), .int (v)] (fun H => va_P D vwCl (kw cA K kf rw cn rl) H) D cA) (rdI (fun r => r = oI (nthV (fhF kf cn) cn v))) 0 0 nF := by
  refine gOf (by decide) (Nat.le_of_ble_eq_true rfl) ?_
  intro p e s m below meth c ls hx hb hml hr hlk hown hts hnm hP hK hl
  have hl : lv_has ls 5 [(0, .ref (K 0)), (1, .int (v))] := hl
  refine lv_aload_n hx hb dX0_takenOutAt_0 rfl (lv_at hl 0 rfl) ?_
  refine lv_iload_n hx hb dX0_takenOutAt_1 rfl (lv_at hl 1 rfl) ?_
  refine rd_calle (va_runV (As := [.int (v)]) (rest := []) ⟨hx, hb, hml, hown, hts⟩ (c_X0_has l D cA K kf rw cn rl (v) hcn) (cwV 1 hts (gWV gm_31_1 gm_11_16 gm_11_17 gm_3_0 gm_11_18) rfl rfl rfl (by decide +kernel) ⟨Nat.le_of_ble_eq_true rfl, Nat.le_of_ble_eq_true rfl⟩) (gPreV hK (g_rf hK hP (ci := 2) (q0 := 0) rfl rfl) hP) rfl rfl hl.1 rfl (lv_room (Nat.le_of_ble_eq_true rfl)) dX0_takenOutAt_2 ⟨by omega, by omega⟩) ?_
  refine g_if_ne (P := isIx (v) cn = false) (tgt := 10) hx hb dX0_takenOutAt_5 (by decide) b2i_0 (fun c_1 => ?_) (fun c_1 => ?_)
  · have c_1 : isIx (v) cn = true := eq_true_of_ne_false c_1
    obtain ⟨j_2, hj_4, ej_3⟩ := isIx_n c_1 (by omega)
    rw [ej_3] at hl
    have hl : lv_has ls 5 [(0, .ref (K 0)), (1, .int (nI (j_2)))] := hl
    refine lv_iconst (v := nI (0)) hx hb dX0_takenOutAt_10 gc_0 ?_
    refine lv_istore_n (lv' := [(2, .int (nI (0))), (0, .ref (K 0)), (1, .int (nI (j_2)))]) hx hb dX0_takenOutAt_11 rfl hl (by decide) rfl (fun ls hl => ?_)
    refine lv_aload_n hx hb dX0_takenOutAt_12 rfl (lv_at hl 1 rfl) ?_
    refine lv_iload_n hx hb dX0_takenOutAt_13 rfl (lv_at hl 0 rfl) ?_
    refine rd_calle (va_runV (As := [.int (nI (0))]) (rest := []) ⟨hx, hb, hml, hown, hts⟩ (c_X0_firstHeard l D cA K kf rw cn rl (nI (0)) hcn) (cwV 1 hts (gWV gm_31_2 gm_31_3 gm_31_4 gm_3_0 gm_31_5) rfl rfl rfl (by decide +kernel) ⟨Nat.le_of_ble_eq_true rfl, Nat.le_of_ble_eq_true rfl⟩) (gPreV hK (g_rf hK hP (ci := 2) (q0 := 0) rfl rfl) hP) rfl rfl hl.1 rfl (lv_room (Nat.le_of_ble_eq_true rfl)) dX0_takenOutAt_14 ⟨by omega, by omega⟩) ?_
    refine lv_istore_n (lv' := [(3, .int (oI (fhF kf cn (nI (0))))), (2, .int (nI (0))), (0, .ref (K 0)), (1, .int (nI (j_2)))]) hx hb dX0_takenOutAt_17 rfl hl (by decide) rfl (fun ls hl => ?_)
    refine lv_iconst (v := nI (0)) hx hb dX0_takenOutAt_18 gc_0 ?_
    refine lv_istore (lv' := [(4, .int (nI (0))), (3, .int (oI (fhF kf cn (nI (0))))), (2, .int (nI (0))), (0, .ref (K 0)), (1, .int (nI (j_2)))]) hx hb dX0_takenOutAt_19 hl (by decide) rfl (fun ls hl => ?_)
    have LP_10 : ∀ (n_6 i_5 : Nat) (x_7 : Int32) (x_8 : Int32) (x_9 : Int32), i_5 ≤ j_2 → j_2 + 1 ≤ i_5 + n_6 → x_7 = nI (i_5) → x_8 = oI ((nthS (fhF kf cn) i_5).2) → x_9 = (nthS (fhF kf cn) i_5).1 → ∀ (ls : Array Slot), lv_has ls 5 [(4, .int (x_7)), (3, .int (x_8)), (2, .int (x_9)), (0, .ref (K 0)), (1, .int (nI (j_2)))] → W p l e ({ frames := 3, cells := 0, slots := 0, locals := 65 } : Room) s m ([.ref (K 0), .int (v)] : List Value).toArray below meth c s.heap [] 0 0 (MQ below (rdI (fun r => r = oI (nthV (fhF kf cn) cn v))) ([.ref (K 0), .int (v)] : List Value).toArray s 0 0 nF) (F0 m 21 ls []) := by
      intro n_6
      induction n_6 with
      | zero => intro i_5 x_7 x_8 x_9 h1 h2; exact absurd h2 (by omega)
      | succ n_6 ih_14 =>
        intro i_5 x_7 x_8 x_9 h_15 h_16 e_11 e_12 e_13  ls hl
        subst e_11
        subst e_12
        subst e_13
        refine lv_iload hx hb dX0_takenOutAt_21 (lv_at hl 0 rfl) ?_
        refine lv_iload_n hx hb dX0_takenOutAt_23 rfl (lv_at hl 4 rfl) ?_
        refine g_icmp_ge (P := j_2 ≤ i_5) (tgt := 50) hx hb dX0_takenOutAt_24 (by decide) (nI_leI (by omega) (by omega)) (fun c_17 => ?_) (fun c_17 => ?_)
        · have d_17 : ¬ i_5 < j_2 := Nat.not_lt.mpr c_17
          have hN_18 : j_2 = i_5 := by omega
          subst hN_18
          refine lv_iload_n hx hb dX0_takenOutAt_50 rfl (lv_at hl 1 rfl) ?_
          exact g_iret (v := oI ((nthS (fhF kf cn) (j_2)).2)) hx hb hr hlk dX0_takenOutAt_51 (by rw [nthV_in hj_4 (by omega) ej_3])
        · have d_17 : i_5 < j_2 := Nat.not_le.mp c_17
          refine lv_iload_n hx hb dX0_takenOutAt_27 rfl (lv_at hl 1 rfl) ?_
          refine lv_iconst (v := -1) hx hb dX0_takenOutAt_28 gc_m1 ?_
          refine g_icmp_eq (P := (nthS (fhF kf cn) i_5).2 = none) (tgt := 50) hx hb dX0_takenOutAt_29 (by decide) (oI_m1 (fun b q => by have := nthS_lt fhF_lt _ _ q; omega)) (fun c_19 => ?_) (fun c_19 => ?_)
          · refine lv_iload_n hx hb dX0_takenOutAt_50 rfl (lv_at hl 1 rfl) ?_
            exact g_iret (v := oI ((nthS (fhF kf cn) i_5).2)) hx hb hr hlk dX0_takenOutAt_51 (by rw [nthV_in hj_4 (by omega) ej_3, nthS_none c_19 j_2 (by omega)])
          · obtain ⟨b_20, eb_21⟩ := o_some c_19
            have hb_22 := nthS_lt fhF_lt _ _ eb_21
            rw [eb_21] at hl
            have hl : lv_has ls 5 [(4, .int (nI (i_5))), (3, .int (nI (b_20))), (2, .int ((nthS (fhF kf cn) i_5).1)), (0, .ref (K 0)), (1, .int (nI (j_2)))] := hl
            refine lv_iload_n hx hb dX0_takenOutAt_32 rfl (lv_at hl 2 rfl) ?_
            refine lv_iconst (v := nI (1)) hx hb dX0_takenOutAt_33 gc_1 ?_
            refine lv_iload_n hx hb dX0_takenOutAt_34 rfl (lv_at hl 1 rfl) ?_
            refine lv_ishl hx hb dX0_takenOutAt_35 ?_
            refine lv_ior hx hb dX0_takenOutAt_36 ?_
            refine lv_istore_n (lv' := [(2, .int (((nthS (fhF kf cn) i_5).1) ||| ((nI (1)) <<< ((nI (b_20)) &&& 31)))), (4, .int (nI (i_5))), (3, .int (nI (b_20))), (0, .ref (K 0)), (1, .int (nI (j_2)))]) hx hb dX0_takenOutAt_37 rfl hl (by decide) rfl (fun ls hl => ?_)
            refine lv_aload_n hx hb dX0_takenOutAt_38 rfl (lv_at hl 3 rfl) ?_
            refine lv_iload_n hx hb dX0_takenOutAt_39 rfl (lv_at hl 0 rfl) ?_
            refine rd_calle (va_runV (As := [.int (((nthS (fhF kf cn) i_5).1) ||| ((nI (1)) <<< ((nI (b_20)) &&& 31)))]) (rest := []) ⟨hx, hb, hml, hown, hts⟩ (c_X0_firstHeard l D cA K kf rw cn rl (((nthS (fhF kf cn) i_5).1) ||| ((nI (1)) <<< ((nI (b_20)) &&& 31))) hcn) (cwV 1 hts (gWV gm_31_2 gm_31_3 gm_31_4 gm_3_0 gm_31_5) rfl rfl rfl (by decide +kernel) ⟨Nat.le_of_ble_eq_true rfl, Nat.le_of_ble_eq_true rfl⟩) (gPreV hK (g_rf hK hP (ci := 2) (q0 := 0) rfl rfl) hP) rfl rfl hl.1 rfl (lv_room (Nat.le_of_ble_eq_true rfl)) dX0_takenOutAt_40 ⟨by omega, by omega⟩) ?_
            refine lv_istore_n (lv' := [(3, .int (oI (fhF kf cn (((nthS (fhF kf cn) i_5).1) ||| ((nI (1)) <<< ((nI (b_20)) &&& 31)))))), (2, .int (((nthS (fhF kf cn) i_5).1) ||| ((nI (1)) <<< ((nI (b_20)) &&& 31)))), (4, .int (nI (i_5))), (0, .ref (K 0)), (1, .int (nI (j_2)))]) hx hb dX0_takenOutAt_43 rfl hl (by decide) rfl (fun ls hl => ?_)
            refine lv_iinc (v := nI (i_5 + 1)) (lv' := [(4, .int (nI (i_5 + 1))), (3, .int (oI (fhF kf cn (((nthS (fhF kf cn) i_5).1) ||| ((nI (1)) <<< ((nI (b_20)) &&& 31)))))), (2, .int (((nthS (fhF kf cn) i_5).1) ||| ((nI (1)) <<< ((nI (b_20)) &&& 31)))), (0, .ref (K 0)), (1, .int (nI (j_2)))]) hx hb dX0_takenOutAt_44 hl (k := 2) rfl (inc_1 _) (by decide) rfl (fun ls hl => ?_)
            refine lv_goto (tgt := 21) hx hb dX0_takenOutAt_47 (by decide) ?_
            exact ih_14 (i_5 + 1) _ _ _ (by omega) (by omega) rfl (by rw [nthS_some eb_21]) (by rw [nthS_some eb_21])  ls (lv_sub hl [0, 1, 2, 3, 4] rfl)
    exact LP_10 (j_2 + 1) 0 _ _ _ (by omega) (by omega) rfl rfl rfl  ls (lv_sub hl [0, 1, 2, 3, 4] rfl)
  · refine lv_iconst (v := -1) hx hb dX0_takenOutAt_8 gc_m1 ?_
    exact g_iret (v := -1) hx hb hr hlk dX0_takenOutAt_9 (by rw [nthV_out c_1]; rfl)

