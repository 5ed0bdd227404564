def jw (cA : Nat → ClassId) (J : Nat → Nat) (jf : Nat → Nat → Int32) (jn : Nat) : va_W := [(J 0, .inr (5, [.ref (J 1), .ref (J 2), .ref (J 3), .ref (J 4), .int (nI jn)])), (J 1, .inl (cA 0, 9, .inl (jf 0))), (J 2, .inl (cA 0, 9, .inl (jf 1))), (J 3, .inl (cA 0, 9, .inl (jf 2))), (J 4, .inl (cA 0, 9, .inl (jf 3)))]
def kw (cA : Nat → ClassId) (K : Nat → Nat) (kf : Nat → Nat → Int32) (rw : Nat → Nat) (cn rl : Nat) : va_W := [(K 0, .inr (2, [.ref (K 1), .ref (K 2), .ref (K 3), .ref (K 4), .ref (K 5), .ref (K 6), .ref (K 7), .ref (K 8), .ref (K 9), .int (nI cn), .int (nI rl)])), (K 1, .inl (cA 0, 10, .inl (kf 0))), (K 2, .inl (cA 0, 10, .inl (kf 1))), (K 3, .inl (cA 0, 10, .inl (kf 2))), (K 4, .inl (cA 0, 10, .inl (kf 3))), (K 5, .inl (cA 0, 10, .inl (kf 4))), (K 6, .inl (cA 0, 10, .inl (kf 5))), (K 7, .inl (cA 0, 10, .inl (kf 6))), (K 8, .inl (cA 0, 10, .inl (kf 7))), (K 9, .inl (cA 0, 10, .inl (fun j => nI (rw j))))]
def cw (cA : Nat → ClassId) (A : Nat → Nat) (jf : Nat → Nat → Int32) (jn : Nat) (kf : Nat → Nat → Int32) (rw : Nat → Nat) (cn rl clk ton : Nat) (sd : Int32) : va_W := [(A 0, .inr (3, [.ref (A 1), .ref (A 6), .int (nI clk), .int (nI ton), .int sd])), (A 1, .inr (5, [.ref (A 2), .ref (A 3), .ref (A 4), .ref (A 5), .int (nI jn)])), (A 2, .inl (cA 0, 9, .inl (jf 0))), (A 3, .inl (cA 0, 9, .inl (jf 1))), (A 4, .inl (cA 0, 9, .inl (jf 2))), (A 5, .inl (cA 0, 9, .inl (jf 3))), (A 6, .inr (2, [.ref (A 7), .ref (A 8), .ref (A 9), .ref (A 10), .ref (A 11), .ref (A 12), .ref (A 13), .ref (A 14), .ref (A 15), .int (nI cn), .int (nI rl)])), (A 7, .inl (cA 0, 10, .inl (kf 0))), (A 8, .inl (cA 0, 10, .inl (kf 1))), (A 9, .inl (cA 0, 10, .inl (kf 2))), (A 10, .inl (cA 0, 10, .inl (kf 3))), (A 11, .inl (cA 0, 10, .inl (kf 4))), (A 12, .inl (cA 0, 10, .inl (kf 5))), (A 13, .inl (cA 0, 10, .inl (kf 6))), (A 14, .inl (cA 0, 10, .inl (kf 7))), (A 15, .inl (cA 0, 10, .inl (fun j => nI (rw j))))]

theorem isIx_code (v : Int32) {n : Nat} (hn : n < 2 ^ 31) : isIx v n = decide (0 ≤ v ∧ ¬ nI n ≤ v) := by
  have h1 : (nI n).toInt = (n : Int) := nI_toInt hn
  have h0 : (0 : Int32).toInt = 0 := by decide +kernel
  simp only [isIx, Int32.le_iff_toInt_le, h0, h1]
  congr 1
  apply propext
  omega
def opC (b : Bool) : Nat := if b = true then 1 else 2
theorem opC_le (b : Bool) : opC b ≤ 2 := by cases b <;> decide
theorem opC_1 (b : Bool) : opC b = 1 ↔ b = true := by cases b <;> decide
def vdF (l d : Nat → Int32) (jn : Nat) (panel merit : Int32) : Nat := if 1 < fb_ct (fun k => hs panel k && forB merit (l k) (d k)) jn then 1 else 2
theorem vdF_le (l d : Nat → Int32) (jn : Nat) (panel merit : Int32) : vdF l d jn panel merit ≤ 2 := by unfold vdF; split <;> omega

set_option maxHeartbeats 1000000 in
set_option maxRecDepth 100000 in
theorem c_X7_isIn (l : Launch) (D : va_G) (cA : Nat → ClassId) (v : Int32) (k : Nat)  : Met l yX7_isIn (gw yX7_isIn cX7_isIn 2 (some .boolean)) ({ frames := 0, cells := 0, slots := 0, locals := 0 } : Room) (gPc [.int (v), .int (nI (k))] (fun H => True) D cA) (rdI (fun r => r = b2i (hs v k))) 0 0 nF := by
  refine gOf (by decide) (Nat.le_of_ble_eq_true rfl) ?_
  intro p e s m below meth c ls hx hb hml hr hlk hown hts hnm hP hK hl
  have hl : lv_has ls 2 [(0, .int (v)), (1, .int (nI (k)))] := hl
  refine lv_iload_n hx hb dX7_isIn_0 rfl (lv_at hl 0 rfl) ?_
  refine lv_iload_n hx hb dX7_isIn_1 rfl (lv_at hl 1 rfl) ?_
  refine lv_ishr hx hb dX7_isIn_2 ?_
  refine lv_iconst (v := nI (1)) hx hb dX7_isIn_3 gc_1 ?_
  refine lv_iand hx hb dX7_isIn_4 ?_
  refine lv_iconst (v := nI (1)) hx hb dX7_isIn_5 gc_1 ?_
  refine g_icmp_ne (P := ((v) >>> ((nI (k)) &&& 31)) &&& (nI (1)) = nI (1)) (tgt := 13) hx hb dX7_isIn_6 (by decide) Iff.rfl (fun c_1 => ?_) (fun c_1 => ?_)
  · refine lv_iconst (v := nI (0)) hx hb dX7_isIn_13 gc_0 ?_
    exact g_zret (v := nI (0)) hx hb hr hlk rfl dX7_isIn_14 (by simp [hs, b2i, c_1])
  · refine lv_iconst (v := nI (1)) hx hb dX7_isIn_9 gc_1 ?_
    refine lv_goto (tgt := 14) hx hb dX7_isIn_10 (by decide) ?_
    exact g_zret (v := nI (1)) hx hb hr hlk rfl dX7_isIn_14 (by simp [hs, b2i, c_1])

set_option maxHeartbeats 1000000 in
set_option maxRecDepth 100000 in
theorem c_X3_has (l : Launch) (D : va_G) (cA : Nat → ClassId) (J : Nat → Nat) (jf : Nat → Nat → Int32) (jn : Nat) (v : Int32) (hjn : jn ≤ 9) : Met l yX3_has (gw yX3_has cX3_has 2 (some .boolean)) ({ frames := 0, cells := 0, slots := 0, locals := 0 } : Room) (gPc [.ref (J 0), .int (v)] (fun H => va_P D vwCl (jw cA J jf jn) H) D cA) (rdI (fun r => r = b2i (isIx v jn))) 0 0 nF := by
  refine gOf (by decide) (Nat.le_of_ble_eq_true rfl) ?_
  intro p e s m below meth c ls hx hb hml hr hlk hown hts hnm hP hK hl
  have hl : lv_has ls 2 [(0, .ref (J 0)), (1, .int (v))] := hl
  refine lv_iload_n hx hb dX3_has_0 rfl (lv_at hl 1 rfl) ?_
  refine g_if_lt (P := v < 0) (tgt := 16) hx hb dX3_has_1 (by decide) Iff.rfl (fun c_1 => ?_) (fun c_1 => ?_)
  · have d_1 : ¬ 0 ≤ v := Int32.not_le.mpr c_1
    refine lv_iconst (v := nI (0)) hx hb dX3_has_16 gc_0 ?_
    exact g_zret (v := nI (0)) hx hb hr hlk rfl dX3_has_17 (by rw [isIx_code v (by omega)]; simp [b2i, c_1, d_1])
  · have d_1 : 0 ≤ v := Int32.not_lt.mp c_1
    refine lv_iload_n hx hb dX3_has_4 rfl (lv_at hl 1 rfl) ?_
    refine lv_aload_n hx hb dX3_has_5 rfl (lv_at hl 0 rfl) ?_
    refine g_get (v := .int (nI (jn))) hx hb hts hown hK hP 0 rfl rfl gu_wsX30 4 (by decide) gm_3_13 rfl dX3_has_6 ?_
    refine g_icmp_ge (P := nI (jn) ≤ v) (tgt := 16) hx hb dX3_has_9 (by decide) Iff.rfl (fun c_2 => ?_) (fun c_2 => ?_)
    · have d_2 : ¬ v < nI (jn) := Int32.not_lt.mpr c_2
      refine lv_iconst (v := nI (0)) hx hb dX3_has_16 gc_0 ?_
      exact g_zret (v := nI (0)) hx hb hr hlk rfl dX3_has_17 (by rw [isIx_code v (by omega)]; simp [b2i, c_1, d_1, c_2, d_2])
    · have d_2 : v < nI (jn) := Int32.not_le.mp c_2
      refine lv_iconst (v := nI (1)) hx hb dX3_has_12 gc_1 ?_
      refine lv_goto (tgt := 17) hx hb dX3_has_13 (by decide) ?_
      exact g_zret (v := nI (1)) hx hb hr hlk rfl dX3_has_17 (by rw [isIx_code v (by omega)]; simp [b2i, c_1, d_1, c_2, d_2])

set_option maxHeartbeats 1000000 in
set_option maxRecDepth 100000 in
theorem c_X3_opinion (l : Launch) (D : va_G) (cA : Nat → ClassId) (J : Nat → Nat) (jf : Nat → Nat → Int32) (jn : Nat) (j : Nat) (merit : Int32) (hq : j < 9) : Met l yX3_opinion (gw yX3_opinion cX3_opinion 3 (some .int)) ({ frames := 0, cells := 0, slots := 0, locals := 0 } : Room) (gPc [.ref (J 0), .int (nI (j)), .int (merit)] (fun H => va_P D vwCl (jw cA J jf jn) H) D cA) (rdI (fun r => r = nI (opC (forB merit (jf 0 j) (jf 1 j))))) 0 0 nF := by
  refine gOf (by decide) (Nat.le_of_ble_eq_true rfl) ?_
  intro p e s m below meth c ls hx hb hml hr hlk hown hts hnm hP hK hl
  have hl : lv_has ls 3 [(0, .ref (J 0)), (1, .int (nI (j))), (2, .int (merit))] := hl
  refine lv_iload_n hx hb dX3_opinion_0 rfl (lv_at hl 2 rfl) ?_
  refine lv_iconst (v := nI (5)) hx hb dX3_opinion_1 gc_5 ?_
  refine lv_aload_n hx hb dX3_opinion_2 rfl (lv_at hl 0 rfl) ?_
  refine g_get (v := .ref (J 1)) hx hb hts hown hK hP 0 rfl rfl gu_wsX30 0 (by decide) gm_3_9 rfl dX3_opinion_3 ?_
  refine lv_iload_n hx hb dX3_opinion_6 rfl (lv_at hl 1 rfl) ?_
  refine g_iald (x := jf 0 (j)) hx hb hK hP 1 rfl (by omega) (by decide) rfl dX3_opinion_7 ?_
  refine lv_imul hx hb dX3_opinion_8 ?_
  refine lv_iadd hx hb dX3_opinion_9 ?_
  refine lv_aload_n hx hb dX3_opinion_10 rfl (lv_at hl 0 rfl) ?_
  refine g_get (v := .ref (J 2)) hx hb hts hown hK hP 0 rfl rfl gu_wsX30 1 (by decide) gm_3_10 rfl dX3_opinion_11 ?_
  refine lv_iload_n hx hb dX3_opinion_14 rfl (lv_at hl 1 rfl) ?_
  refine g_iald (x := jf 1 (j)) hx hb hK hP 2 rfl (by omega) (by decide) rfl dX3_opinion_15 ?_
  refine lv_isub hx hb dX3_opinion_16 ?_
  refine lv_bipush (v := nI (50)) hx hb dX3_opinion_17 gb_50 ?_
  refine g_icmp_lt (P := ((merit) + ((nI (5)) * (jf 0 (j)))) - (jf 1 (j)) < nI (50)) (tgt := 26) hx hb dX3_opinion_19 (by decide) Iff.rfl (fun c_1 => ?_) (fun c_1 => ?_)
  · have d_1 : ¬ nI (50) ≤ ((merit) + ((nI (5)) * (jf 0 (j)))) - (jf 1 (j)) := Int32.not_le.mpr c_1
    refine lv_iconst (v := nI (2)) hx hb dX3_opinion_26 gc_2 ?_
    exact g_iret (v := nI (2)) hx hb hr hlk dX3_opinion_27 (by simp [forB, opC, c_1, d_1])
  · have d_1 : nI (50) ≤ ((merit) + ((nI (5)) * (jf 0 (j)))) - (jf 1 (j)) := Int32.not_lt.mp c_1
    refine lv_iconst (v := nI (1)) hx hb dX3_opinion_22 gc_1 ?_
    refine lv_goto (tgt := 27) hx hb dX3_opinion_23 (by decide) ?_
    exact g_iret (v := nI (1)) hx hb hr hlk dX3_opinion_27 (by simp [forB, opC, c_1, d_1])

set_option maxHeartbeats 1000000 in
set_option maxRecDepth 100000 in
theorem c_X3_verdictByCount (l : Launch) (D : va_G) (cA : Nat → ClassId) (J : Nat → Nat) (jf : Nat → Nat → Int32) (jn : Nat) (panel merit : Int32) (hjn : jn ≤ 9) : Met l yX3_verdictByCount (gw yX3_verdictByCount cX3_verdictByCount 5 (some .int)) ({ frames := 1, cells := 0, slots := 0, locals := 22 } : Room) (gPc [.ref (J 0), .int (panel), .int (merit)] (fun H => va_P D vwCl (jw cA J jf jn) H) D cA) (rdI (fun r => r = nI (vdF (jf 0) (jf 1) jn panel merit))) 0 0 nF := by
  refine gOf (by decide) (Nat.le_of_ble_eq_true rfl) ?_
  intro p e s m below meth c ls hx hb hml hr hlk hown hts hnm hP hK hl
  have hl : lv_has ls 5 [(0, .ref (J 0)), (1, .int (panel)), (2, .int (merit))] := hl
  refine lv_iconst (v := nI (0)) hx hb dX3_verdictByCount_0 gc_0 ?_
  refine lv_istore_n (lv' := [(3, .int (nI (0))), (0, .ref (J 0)), (1, .int (panel)), (2, .int (merit))]) hx hb dX3_verdictByCount_1 rfl hl (by decide) rfl (fun ls hl => ?_)
  refine lv_iconst (v := nI (0)) hx hb dX3_verdictByCount_2 gc_0 ?_
  refine lv_istore (lv' := [(4, .int (nI (0))), (3, .int (nI (0))), (0, .ref (J 0)), (1, .int (panel)), (2, .int (merit))]) hx hb dX3_verdictByCount_3 hl (by decide) rfl (fun ls hl => ?_)
  have LP_5 : ∀ (n_2 i_1 : Nat) (x_3 : Int32) (x_4 : Int32), i_1 ≤ jn → jn + 1 ≤ i_1 + n_2 → x_3 = nI (i_1) → x_4 = nI (fb_ct (fun k => hs panel k && forB merit (jf 0 k) (jf 1 k)) i_1) → ∀ (ls : Array Slot), lv_has ls 5 [(4, .int (x_3)), (3, .int (x_4)), (0, .ref (J 0)), (1, .int (panel)), (2, .int (merit))] → W p l e ({ frames := 1, cells := 0, slots := 0, locals := 22 } : Room) s m ([.ref (J 0), .int (panel), .int (merit)] : List Value).toArray below meth c s.heap [] 0 0 (MQ below (rdI (fun r => r = nI (vdF (jf 0) (jf 1) jn panel merit))) ([.ref (J 0), .int (panel), .int (merit)] : List Value).toArray s 0 0 nF) (F0 m 5 ls []) := by
    intro n_2
    induction n_2 with
    | zero => intro i_1 x_3 x_4 h1 h2; exact absurd h2 (by omega)
    | succ n_2 ih_8 =>
      intro i_1 x_3 x_4 h_9 h_10 e_6 e_7  ls hl
      subst e_6
      subst e_7
      refine lv_iload hx hb dX3_verdictByCount_5 (lv_at hl 0 rfl) ?_
      refine lv_aload_n hx hb dX3_verdictByCount_7 rfl (lv_at hl 2 rfl) ?_
      refine g_get (v := .int (nI (jn))) hx hb hts hown hK hP 0 rfl rfl gu_wsX30 4 (by decide) gm_3_13 rfl dX3_verdictByCount_8 ?_
      refine g_icmp_ge (P := jn ≤ i_1) (tgt := 43) hx hb dX3_verdictByCount_11 (by decide) (nI_leI (by omega) (by omega)) (fun c_11 => ?_) (fun c_11 => ?_)
      · have d_11 : ¬ i_1 < jn := Nat.not_lt.mpr c_11
        have hN_12 : jn = i_1 := by omega
        subst hN_12
        refine lv_iload_n hx hb dX3_verdictByCount_43 rfl (lv_at hl 1 rfl) ?_
        refine lv_iconst (v := nI (2)) hx hb dX3_verdictByCount_44 gc_2 ?_
        have hle_13 := fb_ct_le (fun k => hs panel k && forB merit (jf 0 k) (jf 1 k)) jn
        refine g_icmp_lt (P := fb_ct (fun k => hs panel k && forB merit (jf 0 k) (jf 1 k)) (jn) < 2) (tgt := 52) hx hb dX3_verdictByCount_45 (by decide) (nI_ltI (by omega) (by omega)) (fun c_14 => ?_) (fun c_14 => ?_)
        · have d_14 : ¬ 2 ≤ fb_ct (fun k => hs panel k && forB merit (jf 0 k) (jf 1 k)) (jn) := Nat.not_le.mpr c_14
          refine lv_iconst (v := nI (2)) hx hb dX3_verdictByCount_52 gc_2 ?_
          exact g_iret (v := nI (2)) hx hb hr hlk dX3_verdictByCount_53 (by rw [vdF, if_neg (by omega)])
        · have d_14 : 2 ≤ fb_ct (fun k => hs panel k && forB merit (jf 0 k) (jf 1 k)) (jn) := Nat.not_lt.mp c_14
          refine lv_iconst (v := nI (1)) hx hb dX3_verdictByCount_48 gc_1 ?_
          refine lv_goto (tgt := 53) hx hb dX3_verdictByCount_49 (by decide) ?_
          exact g_iret (v := nI (1)) hx hb hr hlk dX3_verdictByCount_53 (by rw [vdF, if_pos (by omega)])
      · have d_11 : i_1 < jn := Nat.not_le.mp c_11
        refine lv_iload_n hx hb dX3_verdictByCount_14 rfl (lv_at hl 3 rfl) ?_
        refine lv_iload hx hb dX3_verdictByCount_15 (lv_at hl 0 rfl) ?_
        refine rd_calle (va_runSN (As := [.int (panel), .int (nI (i_1))]) (rest := []) ⟨hx, hb, hml, hown, hts⟩ (c_X7_isIn l D cA (panel) (i_1)) ⟨(va_cnB 2 hts (gWN gm_12_9) rfl rfl rfl (hK.2 _ (List.mem_of_getElem? (i := 10) rfl)) (hts _ (List.mem_cons_of_mem _ gm_1_2)) (by decide +kernel) ⟨Nat.le_of_ble_eq_true rfl, Nat.le_of_ble_eq_true rfl⟩), hts _ (List.mem_cons_of_mem _ gm_12_8), trivial⟩ (gPreS hK trivial) rfl rfl hl.1 rfl (lv_room (Nat.le_of_ble_eq_true rfl)) dX3_verdictByCount_17 ⟨by omega, by omega⟩) ?_
        refine g_if_eq (P := hs (panel) (i_1) = false) (tgt := 37) hx hb dX3_verdictByCount_20 (by decide) b2i_0 (fun c_15 => ?_) (fun c_15 => ?_)
        · refine lv_iinc (v := nI (i_1 + 1)) (lv' := [(4, .int (nI (i_1 + 1))), (3, .int (nI (fb_ct (fun k => hs panel k && forB merit (jf 0 k) (jf 1 k)) i_1))), (0, .ref (J 0)), (1, .int (panel)), (2, .int (merit))]) hx hb dX3_verdictByCount_37 hl (k := 0) rfl (inc_1 _) (by decide) rfl (fun ls hl => ?_)
          refine lv_goto (tgt := 5) hx hb dX3_verdictByCount_40 (by decide) ?_
          exact ih_8 (i_1 + 1) _ _ (by omega) (by omega) rfl (by rw [fb_ct_succ]; simp [c_11, d_11, c_15] <;> simp_all [opC_1])  ls (lv_sub hl [0, 1, 2, 3, 4] rfl)
        · have c_15 : hs (panel) (i_1) = true := eq_true_of_ne_false c_15
          refine lv_aload_n hx hb dX3_verdictByCount_23 rfl (lv_at hl 2 rfl) ?_
          refine lv_iload hx hb dX3_verdictByCount_24 (lv_at hl 0 rfl) ?_
          refine lv_iload_n hx hb dX3_verdictByCount_26 rfl (lv_at hl 4 rfl) ?_
          refine rd_calle (va_runV (As := [.int (nI (i_1)), .int (merit)]) (rest := []) ⟨hx, hb, hml, hown, hts⟩ (c_X3_opinion l D cA J jf jn (i_1) (merit) (by omega)) (cwV 2 hts (gWV gm_16_19 gm_16_20 gm_16_21 gm_2_5 gm_16_22) rfl rfl rfl (by decide +kernel) ⟨Nat.le_of_ble_eq_true rfl, Nat.le_of_ble_eq_true rfl⟩) (gPreV hK (g_rf hK hP (ci := 5) (q0 := 0) rfl rfl) hP) rfl rfl hl.1 rfl (lv_room (Nat.le_of_ble_eq_true rfl)) dX3_verdictByCount_27 ⟨by omega, by omega⟩) ?_
          refine lv_iconst (v := nI (1)) hx hb dX3_verdictByCount_30 gc_1 ?_
          have hle_16 := opC_le (forB merit (jf 0 (i_1)) (jf 1 (i_1)))
          refine g_icmp_ne (P := opC (forB (merit) (jf 0 (i_1)) (jf 1 (i_1))) = 1) (tgt := 37) hx hb dX3_verdictByCount_31 (by decide) (nI_eq (by omega) (by omega)) (fun c_17 => ?_) (fun c_17 => ?_)
          · refine lv_iinc (v := nI (i_1 + 1)) (lv' := [(4, .int (nI (i_1 + 1))), (3, .int (nI (fb_ct (fun k => hs panel k && forB merit (jf 0 k) (jf 1 k)) i_1))), (0, .ref (J 0)), (1, .int (panel)), (2, .int (merit))]) hx hb dX3_verdictByCount_37 hl (k := 0) rfl (inc_1 _) (by decide) rfl (fun ls hl => ?_)
            refine lv_goto (tgt := 5) hx hb dX3_verdictByCount_40 (by decide) ?_
            exact ih_8 (i_1 + 1) _ _ (by omega) (by omega) rfl (by rw [fb_ct_succ]; simp [c_11, d_11, c_15, c_17] <;> simp_all [opC_1])  ls (lv_sub hl [0, 1, 2, 3, 4] rfl)
          · refine lv_iinc (v := nI (fb_ct (fun k => hs panel k && forB merit (jf 0 k) (jf 1 k)) i_1 + 1)) (lv' := [(3, .int (nI (fb_ct (fun k => hs panel k && forB merit (jf 0 k) (jf 1 k)) i_1 + 1))), (4, .int (nI (i_1))), (0, .ref (J 0)), (1, .int (panel)), (2, .int (merit))]) hx hb dX3_verdictByCount_34 hl (k := 1) rfl (inc_1 _) (by decide) rfl (fun ls hl => ?_)
            refine lv_iinc (v := nI (i_1 + 1)) (lv' := [(4, .int (nI (i_1 + 1))), (3, .int (nI (fb_ct (fun k => hs panel k && forB merit (jf 0 k) (jf 1 k)) i_1 + 1))), (0, .ref (J 0)), (1, .int (panel)), (2, .int (merit))]) hx hb dX3_verdictByCount_37 hl (k := 1) rfl (inc_1 _) (by decide) rfl (fun ls hl => ?_)
            refine lv_goto (tgt := 5) hx hb dX3_verdictByCount_40 (by decide) ?_
            exact ih_8 (i_1 + 1) _ _ (by omega) (by omega) rfl (by rw [fb_ct_succ]; simp [c_11, d_11, c_15, c_17] <;> simp_all [opC_1])  ls (lv_sub hl [0, 1, 2, 3, 4] rfl)
  exact LP_5 (jn + 1) 0 _ _ (by omega) (by omega) rfl rfl  ls (lv_sub hl [0, 1, 2, 3, 4] rfl)

set_option maxHeartbeats 1000000 in
set_option maxRecDepth 100000 in
theorem c_X3_lowestOf (l : Launch) (D : va_G) (cA : Nat → ClassId) (J : Nat → Nat) (jf : Nat → Nat → Int32) (jn : Nat) (panel : Int32) (hjn : jn ≤ 9) : Met l yX3_lowestOf (gw yX3_lowestOf cX3_lowestOf 3 (some .int)) ({ frames := 1, cells := 0, slots := 0, locals := 21 } : Room) (gPc [.ref (J 0), .int (panel)] (fun H => va_P D vwCl (jw cA J jf jn) H) D cA) (rdI (fun r => r = oI (fnd (hs panel) jn))) 0 0 nF := by
  refine gOf (by decide) (Nat.le_of_ble_eq_true rfl) ?_
  intro p e s m below meth c ls hx hb hml hr hlk hown hts hnm hP hK hl
  have hl : lv_has ls 3 [(0, .ref (J 0)), (1, .int (panel))] := hl
  refine lv_iconst (v := nI (0)) hx hb dX3_lowestOf_0 gc_0 ?_
  refine lv_istore_n (lv' := [(2, .int (nI (0))), (0, .ref (J 0)), (1, .int (panel))]) hx hb dX3_lowestOf_1 rfl hl (by decide) rfl (fun ls hl => ?_)
  have LP_4 : ∀ (n_2 i_1 : Nat) (x_3 : Int32), i_1 ≤ jn → jn + 1 ≤ i_1 + n_2 → x_3 = nI (i_1) → (fnd (hs panel) (i_1) = none) → ∀ (ls : Array Slot), lv_has ls 3 [(2, .int (x_3)), (0, .ref (J 0)), (1, .int (panel))] → W p l e ({ frames := 1, cells := 0, slots := 0, locals := 21 } : Room) s m ([.ref (J 0), .int (panel)] : List Value).toArray below meth c s.heap [] 0 0 (MQ below (rdI (fun r => r = oI (fnd (hs panel) jn))) ([.ref (J 0), .int (panel)] : List Value).toArray s 0 0 nF) (F0 m 2 ls []) := by
    intro n_2
    induction n_2 with
    | zero => intro i_1 x_3 h1 h2; exact absurd h2 (by omega)
    | succ n_2 ih_6 =>
      intro i_1 x_3 h_7 h_8 e_5 hv ls hl
      subst e_5
      refine lv_iload_n hx hb dX3_lowestOf_2 rfl (lv_at hl 0 rfl) ?_
      refine lv_aload_n hx hb dX3_lowestOf_3 rfl (lv_at hl 1 rfl) ?_
      refine g_get (v := .int (nI (jn))) hx hb hts hown hK hP 0 rfl rfl gu_wsX30 4 (by decide) gm_3_13 rfl dX3_lowestOf_4 ?_
      refine g_icmp_ge (P := jn ≤ i_1) (tgt := 26) hx hb dX3_lowestOf_7 (by decide) (nI_leI (by omega) (by omega)) (fun c_9 => ?_) (fun c_9 => ?_)
      · have d_9 : ¬ i_1 < jn := Nat.not_lt.mpr c_9
        have hN_10 : jn = i_1 := by omega
        subst hN_10
        refine lv_iconst (v := -1) hx hb dX3_lowestOf_26 gc_m1 ?_
        exact g_iret (v := -1) hx hb hr hlk dX3_lowestOf_27 (by rw [hv]; rfl)
      · have d_9 : i_1 < jn := Nat.not_le.mp c_9
        refine lv_iload_n hx hb dX3_lowestOf_10 rfl (lv_at hl 2 rfl) ?_
        refine lv_iload_n hx hb dX3_lowestOf_11 rfl (lv_at hl 0 rfl) ?_
        refine rd_calle (va_runSN (As := [.int (panel), .int (nI (i_1))]) (rest := []) ⟨hx, hb, hml, hown, hts⟩ (c_X7_isIn l D cA (panel) (i_1)) ⟨(va_cnB 2 hts (gWN gm_12_9) rfl rfl rfl (hK.2 _ (List.mem_of_getElem? (i := 10) rfl)) (hts _ (List.mem_cons_of_mem _ gm_1_2)) (by decide +kernel) ⟨Nat.le_of_ble_eq_true rfl, Nat.le_of_ble_eq_true rfl⟩), hts _ (List.mem_cons_of_mem _ gm_12_8), trivial⟩ (gPreS hK trivial) rfl rfl hl.1 rfl (lv_room (Nat.le_of_ble_eq_true rfl)) dX3_lowestOf_12 ⟨by omega, by omega⟩) ?_
        refine g_if_eq (P := hs (panel) (i_1) = false) (tgt := 20) hx hb dX3_lowestOf_15 (by decide) b2i_0 (fun c_11 => ?_) (fun c_11 => ?_)
        · refine lv_iinc (v := nI (i_1 + 1)) (lv' := [(2, .int (nI (i_1 + 1))), (0, .ref (J 0)), (1, .int (panel))]) hx hb dX3_lowestOf_20 hl (k := 0) rfl (inc_1 _) (by decide) rfl (fun ls hl => ?_)
          refine lv_goto (tgt := 2) hx hb dX3_lowestOf_23 (by decide) ?_
          exact ih_6 (i_1 + 1) _ (by omega) (by omega) rfl (fnd_succ_none hv (by simp [c_9, d_9, c_11] <;> omega)) ls (lv_sub hl [0, 1, 2] rfl)
        · have c_11 : hs (panel) (i_1) = true := eq_true_of_ne_false c_11
          refine lv_iload_n hx hb dX3_lowestOf_18 rfl (lv_at hl 0 rfl) ?_
          exact g_iret (v := nI (i_1)) hx hb hr hlk dX3_lowestOf_19 (by rw [fnd_stop hv (by simp [c_9, d_9, c_11]) jn (by omega)]; rfl)
  exact LP_4 (jn + 1) 0 _ (by omega) (by omega) rfl rfl ls (lv_sub hl [0, 1, 2] rfl)

def dbF (d : Nat → Int32) (jn : Nat) (panel : Int32) : Option Nat := bst (hs panel) (fun k b => decide (¬ d k ≤ d b)) jn
def mdF (l d : Nat → Int32) (a b : Nat) : Bool := if d a = d b then decide (¬ l a ≤ l b) else decide (¬ d a ≤ d b)
def fdF (l d : Nat → Int32) (jn : Nat) (out : Int32) : Option Nat := bst (fun k => !hs out k) (mdF l d) jn

set_option maxHeartbeats 1000000 in
set_option maxRecDepth 100000 in
theorem c_X3_mostDoubtfulOf (l : Launch) (D : va_G) (cA : Nat → ClassId) (J : Nat → Nat) (jf : Nat → Nat → Int32) (jn : Nat) (panel : Int32) (hjn : jn ≤ 9) : Met l yX3_mostDoubtfulOf (gw yX3_mostDoubtfulOf cX3_mostDoubtfulOf 4 (some .int)) ({ frames := 1, cells := 0, slots := 0, locals := 21 } : Room) (gPc [.ref (J 0), .int (panel)] (fun H => va_P D vwCl (jw cA J jf jn) H) D cA) (rdI (fun r => r = oI (dbF (jf 1) jn panel))) 0 0 nF := by
  refine gOf (by decide) (Nat.le_of_ble_eq_true rfl) ?_
  intro p e s m below meth c ls hx hb hml hr hlk hown hts hnm hP hK hl
  have hl : lv_has ls 4 [(0, .ref (J 0)), (1, .int (panel))] := hl
  refine lv_iconst (v := -1) hx hb dX3_mostDoubtfulOf_0 gc_m1 ?_
  refine lv_istore_n (lv' := [(2, .int (-1)), (0, .ref (J 0)), (1, .int (panel))]) hx hb dX3_mostDoubtfulOf_1 rfl hl (by decide) rfl (fun ls hl => ?_)
  refine lv_iconst (v := nI (0)) hx hb dX3_mostDoubtfulOf_2 gc_0 ?_
  refine lv_istore_n (lv' := [(3, .int (nI (0))), (2, .int (-1)), (0, .ref (J 0)), (1, .int (panel))]) hx hb dX3_mostDoubtfulOf_3 rfl hl (by decide) rfl (fun ls hl => ?_)
  have LP_5 : ∀ (n_2 i_1 : Nat) (x_3 : Int32) (x_4 : Int32), i_1 ≤ jn → jn + 1 ≤ i_1 + n_2 → x_3 = nI (i_1) → x_4 = oI (bst (hs panel) (fun k b => decide (¬ jf 1 k ≤ jf 1 b)) i_1) → ∀ (ls : Array Slot), lv_has ls 4 [(3, .int (x_3)), (2, .int (x_4)), (0, .ref (J 0)), (1, .int (panel))] → W p l e ({ frames := 1, cells := 0, slots := 0, locals := 21 } : Room) s m ([.ref (J 0), .int (panel)] : List Value).toArray below meth c s.heap [] 0 0 (MQ below (rdI (fun r => r = oI (dbF (jf 1) jn panel))) ([.ref (J 0), .int (panel)] : List Value).toArray s 0 0 nF) (F0 m 4 ls []) := by
    intro n_2
    induction n_2 with
    | zero => intro i_1 x_3 x_4 h1 h2; exact absurd h2 (by omega)
    | succ n_2 ih_8 =>
      intro i_1 x_3 x_4 h_9 h_10 e_6 e_7  ls hl
      subst e_6
      subst e_7
      refine lv_iload_n hx hb dX3_mostDoubtfulOf_4 rfl (lv_at hl 0 rfl) ?_
      refine lv_aload_n hx hb dX3_mostDoubtfulOf_5 rfl (lv_at hl 2 rfl) ?_
      refine g_get (v := .int (nI (jn))) hx hb hts hown hK hP 0 rfl rfl gu_wsX30 4 (by decide) gm_3_13 rfl dX3_mostDoubtfulOf_6 ?_
      refine g_icmp_ge (P := jn ≤ i_1) (tgt := 48) hx hb dX3_mostDoubtfulOf_9 (by decide) (nI_leI (by omega) (by omega)) (fun c_11 => ?_) (fun c_11 => ?_)
      · have d_11 : ¬ i_1 < jn := Nat.not_lt.mpr c_11
        have hN_12 : jn = i_1 := by omega
        subst hN_12
        refine lv_iload_n hx hb dX3_mostDoubtfulOf_48 rfl (lv_at hl 1 rfl) ?_
        exact g_iret (v := oI (bst (hs panel) (fun k b => decide (¬ jf 1 k ≤ jf 1 b)) (jn))) hx hb hr hlk dX3_mostDoubtfulOf_49 (rfl)
      · have d_11 : i_1 < jn := Nat.not_le.mp c_11
        refine lv_iload_n hx hb dX3_mostDoubtfulOf_12 rfl (lv_at hl 3 rfl) ?_
        refine lv_iload_n hx hb dX3_mostDoubtfulOf_13 rfl (lv_at hl 0 rfl) ?_
        refine rd_calle (va_runSN (As := [.int (panel), .int (nI (i_1))]) (rest := []) ⟨hx, hb, hml, hown, hts⟩ (c_X7_isIn l D cA (panel) (i_1)) ⟨(va_cnB 2 hts (gWN gm_12_9) rfl rfl rfl (hK.2 _ (List.mem_of_getElem? (i := 10) rfl)) (hts _ (List.mem_cons_of_mem _ gm_1_2)) (by decide +kernel) ⟨Nat.le_of_ble_eq_true rfl, Nat.le_of_ble_eq_true rfl⟩), hts _ (List.mem_cons_of_mem _ gm_12_8), trivial⟩ (gPreS hK trivial) rfl rfl hl.1 rfl (lv_room (Nat.le_of_ble_eq_true rfl)) dX3_mostDoubtfulOf_14 ⟨by omega, by omega⟩) ?_
        refine g_if_eq (P := hs (panel) (i_1) = false) (tgt := 42) hx hb dX3_mostDoubtfulOf_17 (by decide) b2i_0 (fun c_13 => ?_) (fun c_13 => ?_)
        · refine lv_iinc (v := nI (i_1 + 1)) (lv' := [(3, .int (nI (i_1 + 1))), (2, .int (oI (bst (hs panel) (fun k b => decide (¬ jf 1 k ≤ jf 1 b)) i_1))), (0, .ref (J 0)), (1, .int (panel))]) hx hb dX3_mostDoubtfulOf_42 hl (k := 0) rfl (inc_1 _) (by decide) rfl (fun ls hl => ?_)
          refine lv_goto (tgt := 4) hx hb dX3_mostDoubtfulOf_45 (by decide) ?_
          exact ih_8 (i_1 + 1) _ _ (by omega) (by omega) rfl (by rw [bst_no (by simp [c_13])])  ls (lv_sub hl [0, 1, 2, 3] rfl)
        · have c_13 : hs (panel) (i_1) = true := eq_true_of_ne_false c_13
          refine lv_iload_n hx hb dX3_mostDoubtfulOf_20 rfl (lv_at hl 1 rfl) ?_
          refine lv_iconst (v := -1) hx hb dX3_mostDoubtfulOf_21 gc_m1 ?_
          refine g_icmp_eq (P := bst (hs panel) (fun k b => decide (¬ jf 1 k ≤ jf 1 b)) i_1 = none) (tgt := 40) hx hb dX3_mostDoubtfulOf_22 (by decide) (oI_m1 (fun b q => by have := bst_lt q; omega)) (fun c_14 => ?_) (fun c_14 => ?_)
          · refine lv_iload_n hx hb dX3_mostDoubtfulOf_40 rfl (lv_at hl 0 rfl) ?_
            refine lv_istore_n (lv' := [(2, .int (nI (i_1))), (3, .int (nI (i_1))), (0, .ref (J 0)), (1, .int (panel))]) hx hb dX3_mostDoubtfulOf_41 rfl hl (by decide) rfl (fun ls hl => ?_)
            refine lv_iinc (v := nI (i_1 + 1)) (lv' := [(3, .int (nI (i_1 + 1))), (2, .int (nI (i_1))), (0, .ref (J 0)), (1, .int (panel))]) hx hb dX3_mostDoubtfulOf_42 hl (k := 1) rfl (inc_1 _) (by decide) rfl (fun ls hl => ?_)
            refine lv_goto (tgt := 4) hx hb dX3_mostDoubtfulOf_45 (by decide) ?_
            exact ih_8 (i_1 + 1) _ _ (by omega) (by omega) rfl (by rw [bst_new (by simp [c_13]) c_14]; rfl)  ls (lv_sub hl [0, 1, 2, 3] rfl)
          · obtain ⟨b_15, eb_16⟩ := o_some c_14
            have hb_17 := bst_lt eb_16
            rw [eb_16] at hl
            have hl : lv_has ls 4 [(3, .int (nI (i_1))), (2, .int (nI (b_15))), (0, .ref (J 0)), (1, .int (panel))] := hl
            refine lv_aload_n hx hb dX3_mostDoubtfulOf_25 rfl (lv_at hl 2 rfl) ?_
            refine g_get (v := .ref (J 2)) hx hb hts hown hK hP 0 rfl rfl gu_wsX30 1 (by decide) gm_3_10 rfl dX3_mostDoubtfulOf_26 ?_
            refine lv_iload_n hx hb dX3_mostDoubtfulOf_29 rfl (lv_at hl 0 rfl) ?_
            refine g_iald (x := jf 1 (i_1)) hx hb hK hP 2 rfl (by omega) (by decide) rfl dX3_mostDoubtfulOf_30 ?_
            refine lv_aload_n hx hb dX3_mostDoubtfulOf_31 rfl (lv_at hl 2 rfl) ?_
            refine g_get (v := .ref (J 2)) hx hb hts hown hK hP 0 rfl rfl gu_wsX30 1 (by decide) gm_3_10 rfl dX3_mostDoubtfulOf_32 ?_
            refine lv_iload_n hx hb dX3_mostDoubtfulOf_35 rfl (lv_at hl 1 rfl) ?_
            refine g_iald (x := jf 1 (b_15)) hx hb hK hP 2 rfl (by omega) (by decide) rfl dX3_mostDoubtfulOf_36 ?_
            refine g_icmp_le (P := jf 1 (i_1) ≤ jf 1 (b_15)) (tgt := 42) hx hb dX3_mostDoubtfulOf_37 (by decide) Iff.rfl (fun c_18 => ?_) (fun c_18 => ?_)
            · have d_18 : ¬ jf 1 (b_15) < jf 1 (i_1) := Int32.not_lt.mpr c_18
              refine lv_iinc (v := nI (i_1 + 1)) (lv' := [(3, .int (nI (i_1 + 1))), (2, .int (nI (b_15))), (0, .ref (J 0)), (1, .int (panel))]) hx hb dX3_mostDoubtfulOf_42 hl (k := 0) rfl (inc_1 _) (by decide) rfl (fun ls hl => ?_)
              refine lv_goto (tgt := 4) hx hb dX3_mostDoubtfulOf_45 (by decide) ?_
              exact ih_8 (i_1 + 1) _ _ (by omega) (by omega) rfl (by rw [bst_lose (by simp [c_13]) eb_16 (by simp [c_18])]; rfl)  ls (lv_sub hl [0, 1, 2, 3] rfl)
            · have d_18 : jf 1 (b_15) < jf 1 (i_1) := Int32.not_le.mp c_18
              refine lv_iload_n hx hb dX3_mostDoubtfulOf_40 rfl (lv_at hl 0 rfl) ?_
              refine lv_istore_n (lv' := [(2, .int (nI (i_1))), (3, .int (nI (i_1))), (0, .ref (J 0)), (1, .int (panel))]) hx hb dX3_mostDoubtfulOf_41 rfl hl (by decide) rfl (fun ls hl => ?_)
              refine lv_iinc (v := nI (i_1 + 1)) (lv' := [(3, .int (nI (i_1 + 1))), (2, .int (nI (i_1))), (0, .ref (J 0)), (1, .int (panel))]) hx hb dX3_mostDoubtfulOf_42 hl (k := 1) rfl (inc_1 _) (by decide) rfl (fun ls hl => ?_)
              refine lv_goto (tgt := 4) hx hb dX3_mostDoubtfulOf_45 (by decide) ?_
              exact ih_8 (i_1 + 1) _ _ (by omega) (by omega) rfl (by rw [bst_win (by simp [c_13]) eb_16 (by simp [c_18])]; rfl)  ls (lv_sub hl [0, 1, 2, 3] rfl)
  exact LP_5 (jn + 1) 0 _ _ (by omega) (by omega) rfl rfl  ls (lv_sub hl [0, 1, 2, 3] rfl)

set_option maxHeartbeats 1000000 in
set_option maxRecDepth 100000 in
theorem c_X3_isMoreDoubtful (l : Launch) (D : va_G) (cA : Nat → ClassId) (J : Nat → Nat) (jf : Nat → Nat → Int32) (jn : Nat) (a b : Nat) (ha : a < 9) (hb_ : b < 9) : Met l yX3_isMoreDoubtful (gw yX3_isMoreDoubtful cX3_isMoreDoubtful 3 (some .boolean)) ({ frames := 0, cells := 0, slots := 0, locals := 0 } : Room) (gPc [.ref (J 0), .int (nI (a)), .int (nI (b))] (fun H => va_P D vwCl (jw cA J jf jn) H) D cA) (rdI (fun r => r = b2i (mdF (jf 0) (jf 1) a b))) 0 0 nF := by
  refine gOf (by decide) (Nat.le_of_ble_eq_true rfl) ?_
  intro p e s m below meth c ls hx hb hml hr hlk hown hts hnm hP hK hl
  have hl : lv_has ls 3 [(0, .ref (J 0)), (1, .int (nI (a))), (2, .int (nI (b)))] := hl
  refine lv_aload_n hx hb dX3_isMoreDoubtful_0 rfl (lv_at hl 0 rfl) ?_
  refine g_get (v := .ref (J 2)) hx hb hts hown hK hP 0 rfl rfl gu_wsX30 1 (by decide) gm_3_10 rfl dX3_isMoreDoubtful_1 ?_
  refine lv_iload_n hx hb dX3_isMoreDoubtful_4 rfl (lv_at hl 1 rfl) ?_
  refine g_iald (x := jf 1 (a)) hx hb hK hP 2 rfl (by omega) (by decide) rfl dX3_isMoreDoubtful_5 ?_
  refine lv_aload_n hx hb dX3_isMoreDoubtful_6 rfl (lv_at hl 0 rfl) ?_
  refine g_get (v := .ref (J 2)) hx hb hts hown hK hP 0 rfl rfl gu_wsX30 1 (by decide) gm_3_10 rfl dX3_isMoreDoubtful_7 ?_
  refine lv_iload_n hx hb dX3_isMoreDoubtful_10 rfl (lv_at hl 2 rfl) ?_
  refine g_iald (x := jf 1 (b)) hx hb hK hP 2 rfl (by omega) (by decide) rfl dX3_isMoreDoubtful_11 ?_
  refine g_icmp_eq (P := jf 1 (a) = jf 1 (b)) (tgt := 36) hx hb dX3_isMoreDoubtful_12 (by decide) Iff.rfl (fun c_1 => ?_) (fun c_1 => ?_)
  · refine lv_aload_n hx hb dX3_isMoreDoubtful_36 rfl (lv_at hl 0 rfl) ?_
    refine g_get (v := .ref (J 1)) hx hb hts hown hK hP 0 rfl rfl gu_wsX30 0 (by decide) gm_3_9 rfl dX3_isMoreDoubtful_37 ?_
    refine lv_iload_n hx hb dX3_isMoreDoubtful_40 rfl (lv_at hl 1 rfl) ?_
    refine g_iald (x := jf 0 (a)) hx hb hK hP 1 rfl (by omega) (by decide) rfl dX3_isMoreDoubtful_41 ?_
    refine lv_aload_n hx hb dX3_isMoreDoubtful_42 rfl (lv_at hl 0 rfl) ?_
    refine g_get (v := .ref (J 1)) hx hb hts hown hK hP 0 rfl rfl gu_wsX30 0 (by decide) gm_3_9 rfl dX3_isMoreDoubtful_43 ?_
    refine lv_iload_n hx hb dX3_isMoreDoubtful_46 rfl (lv_at hl 2 rfl) ?_
    refine g_iald (x := jf 0 (b)) hx hb hK hP 1 rfl (by omega) (by decide) rfl dX3_isMoreDoubtful_47 ?_
    refine g_icmp_le (P := jf 0 (a) ≤ jf 0 (b)) (tgt := 55) hx hb dX3_isMoreDoubtful_48 (by decide) Iff.rfl (fun c_2 => ?_) (fun c_2 => ?_)
    · have d_2 : ¬ jf 0 (b) < jf 0 (a) := Int32.not_lt.mpr c_2
      refine lv_iconst (v := nI (0)) hx hb dX3_isMoreDoubtful_55 gc_0 ?_
      exact g_zret (v := nI (0)) hx hb hr hlk rfl dX3_isMoreDoubtful_56 (by simp [mdF, b2i, c_1, c_2, d_2])
    · have d_2 : jf 0 (b) < jf 0 (a) := Int32.not_le.mp c_2
      refine lv_iconst (v := nI (1)) hx hb dX3_isMoreDoubtful_51 gc_1 ?_
      refine lv_goto (tgt := 56) hx hb dX3_isMoreDoubtful_52 (by decide) ?_
      exact g_zret (v := nI (1)) hx hb hr hlk rfl dX3_isMoreDoubtful_56 (by simp [mdF, b2i, c_1, c_2, d_2])
  · refine lv_aload_n hx hb dX3_isMoreDoubtful_15 rfl (lv_at hl 0 rfl) ?_
    refine g_get (v := .ref (J 2)) hx hb hts hown hK hP 0 rfl rfl gu_wsX30 1 (by decide) gm_3_10 rfl dX3_isMoreDoubtful_16 ?_
    refine lv_iload_n hx hb dX3_isMoreDoubtful_19 rfl (lv_at hl 1 rfl) ?_
    refine g_iald (x := jf 1 (a)) hx hb hK hP 2 rfl (by omega) (by decide) rfl dX3_isMoreDoubtful_20 ?_
    refine lv_aload_n hx hb dX3_isMoreDoubtful_21 rfl (lv_at hl 0 rfl) ?_
    refine g_get (v := .ref (J 2)) hx hb hts hown hK hP 0 rfl rfl gu_wsX30 1 (by decide) gm_3_10 rfl dX3_isMoreDoubtful_22 ?_
    refine lv_iload_n hx hb dX3_isMoreDoubtful_25 rfl (lv_at hl 2 rfl) ?_
    refine g_iald (x := jf 1 (b)) hx hb hK hP 2 rfl (by omega) (by decide) rfl dX3_isMoreDoubtful_26 ?_
    refine g_icmp_le (P := jf 1 (a) ≤ jf 1 (b)) (tgt := 34) hx hb dX3_isMoreDoubtful_27 (by decide) Iff.rfl (fun c_3 => ?_) (fun c_3 => ?_)
    · have d_3 : ¬ jf 1 (b) < jf 1 (a) := Int32.not_lt.mpr c_3
      refine lv_iconst (v := nI (0)) hx hb dX3_isMoreDoubtful_34 gc_0 ?_
      exact g_zret (v := nI (0)) hx hb hr hlk rfl dX3_isMoreDoubtful_35 (by simp [mdF, b2i, c_1, c_3, d_3])
    · have d_3 : jf 1 (b) < jf 1 (a) := Int32.not_le.mp c_3
      refine lv_iconst (v := nI (1)) hx hb dX3_isMoreDoubtful_30 gc_1 ?_
      refine lv_goto (tgt := 35) hx hb dX3_isMoreDoubtful_31 (by decide) ?_
      exact g_zret (v := nI (1)) hx hb hr hlk rfl dX3_isMoreDoubtful_35 (by simp [mdF, b2i, c_1, c_3, d_3])

set_option maxHeartbeats 1000000 in
set_option maxRecDepth 100000 in
theorem c_X3_firstDoubtful (l : Launch) (D : va_G) (cA : Nat → ClassId) (J : Nat → Nat) (jf : Nat → Nat → Int32) (jn : Nat) (out : Int32) (hjn : jn ≤ 9) : Met l yX3_firstDoubtful (gw yX3_firstDoubtful cX3_firstDoubtful 4 (some .int)) ({ frames := 1, cells := 0, slots := 0, locals := 22 } : Room) (gPc [.ref (J 0), .int (out)] (fun H => va_P D vwCl (jw cA J jf jn) H) D cA) (rdI (fun r => r = oI (fdF (jf 0) (jf 1) jn out))) 0 0 nF := by
  refine gOf (by decide) (Nat.le_of_ble_eq_true rfl) ?_
  intro p e s m below meth c ls hx hb hml hr hlk hown hts hnm hP hK hl
  have hl : lv_has ls 4 [(0, .ref (J 0)), (1, .int (out))] := hl
  refine lv_iconst (v := -1) hx hb dX3_firstDoubtful_0 gc_m1 ?_
  refine lv_istore_n (lv' := [(2, .int (-1)), (0, .ref (J 0)), (1, .int (out))]) hx hb dX3_firstDoubtful_1 rfl hl (by decide) rfl (fun ls hl => ?_)
  refine lv_iconst (v := nI (0)) hx hb dX3_firstDoubtful_2 gc_0 ?_
  refine lv_istore_n (lv' := [(3, .int (nI (0))), (2, .int (-1)), (0, .ref (J 0)), (1, .int (out))]) hx hb dX3_firstDoubtful_3 rfl hl (by decide) rfl (fun ls hl => ?_)
  have LP_5 : ∀ (n_2 i_1 : Nat) (x_3 : Int32) (x_4 : Int32), i_1 ≤ jn → jn + 1 ≤ i_1 + n_2 → x_3 = nI (i_1) → x_4 = oI (bst (fun k => !hs out k) (mdF (jf 0) (jf 1)) i_1) → ∀ (ls : Array Slot), lv_has ls 4 [(3, .int (x_3)), (2, .int (x_4)), (0, .ref (J 0)), (1, .int (out))] → W p l e ({ frames := 1, cells := 0, slots := 0, locals := 22 } : Room) s m ([.ref (J 0), .int (out)] : List Value).toArray below meth c s.heap [] 0 0 (MQ below (rdI (fun r => r = oI (fdF (jf 0) (jf 1) jn out))) ([.ref (J 0), .int (out)] : List Value).toArray s 0 0 nF) (F0 m 4 ls []) := by
    intro n_2
    induction n_2 with
    | zero => intro i_1 x_3 x_4 h1 h2; exact absurd h2 (by omega)
    | succ n_2 ih_8 =>
      intro i_1 x_3 x_4 h_9 h_10 e_6 e_7  ls hl
      subst e_6
      subst e_7
      refine lv_iload_n hx hb dX3_firstDoubtful_4 rfl (lv_at hl 0 rfl) ?_
      refine lv_aload_n hx hb dX3_firstDoubtful_5 rfl (lv_at hl 2 rfl) ?_
      refine g_get (v := .int (nI (jn))) hx hb hts hown hK hP 0 rfl rfl gu_wsX30 4 (by decide) gm_3_13 rfl dX3_firstDoubtful_6 ?_
      refine g_icmp_ge (P := jn ≤ i_1) (tgt := 42) hx hb dX3_firstDoubtful_9 (by decide) (nI_leI (by omega) (by omega)) (fun c_11 => ?_) (fun c_11 => ?_)
      · have d_11 : ¬ i_1 < jn := Nat.not_lt.mpr c_11
        have hN_12 : jn = i_1 := by omega
        subst hN_12
        refine lv_iload_n hx hb dX3_firstDoubtful_42 rfl (lv_at hl 1 rfl) ?_
        exact g_iret (v := oI (bst (fun k => !hs out k) (mdF (jf 0) (jf 1)) (jn))) hx hb hr hlk dX3_firstDoubtful_43 (rfl)
      · have d_11 : i_1 < jn := Nat.not_le.mp c_11
        refine lv_iload_n hx hb dX3_firstDoubtful_12 rfl (lv_at hl 3 rfl) ?_
        refine lv_iload_n hx hb dX3_firstDoubtful_13 rfl (lv_at hl 0 rfl) ?_
        refine rd_calle (va_runSN (As := [.int (out), .int (nI (i_1))]) (rest := []) ⟨hx, hb, hml, hown, hts⟩ (c_X7_isIn l D cA (out) (i_1)) ⟨(va_cnB 2 hts (gWN gm_12_9) rfl rfl rfl (hK.2 _ (List.mem_of_getElem? (i := 10) rfl)) (hts _ (List.mem_cons_of_mem _ gm_1_2)) (by decide +kernel) ⟨Nat.le_of_ble_eq_true rfl, Nat.le_of_ble_eq_true rfl⟩), hts _ (List.mem_cons_of_mem _ gm_12_8), trivial⟩ (gPreS hK trivial) rfl rfl hl.1 rfl (lv_room (Nat.le_of_ble_eq_true rfl)) dX3_firstDoubtful_14 ⟨by omega, by omega⟩) ?_
        refine g_if_ne (P := hs (out) (i_1) = false) (tgt := 36) hx hb dX3_firstDoubtful_17 (by decide) b2i_0 (fun c_13 => ?_) (fun c_13 => ?_)
        · have c_13 : hs (out) (i_1) = true := eq_true_of_ne_false c_13
          refine lv_iinc (v := nI (i_1 + 1)) (lv' := [(3, .int (nI (i_1 + 1))), (2, .int (oI (bst (fun k => !hs out k) (mdF (jf 0) (jf 1)) i_1))), (0, .ref (J 0)), (1, .int (out))]) hx hb dX3_firstDoubtful_36 hl (k := 0) rfl (inc_1 _) (by decide) rfl (fun ls hl => ?_)
          refine lv_goto (tgt := 4) hx hb dX3_firstDoubtful_39 (by decide) ?_
          exact ih_8 (i_1 + 1) _ _ (by omega) (by omega) rfl (by rw [bst_no (by simp [c_13])])  ls (lv_sub hl [0, 1, 2, 3] rfl)
        · refine lv_iload_n hx hb dX3_firstDoubtful_20 rfl (lv_at hl 1 rfl) ?_
          refine lv_iconst (v := -1) hx hb dX3_firstDoubtful_21 gc_m1 ?_
          refine g_icmp_eq (P := bst (fun k => !hs out k) (mdF (jf 0) (jf 1)) i_1 = none) (tgt := 34) hx hb dX3_firstDoubtful_22 (by decide) (oI_m1 (fun b q => by have := bst_lt q; omega)) (fun c_14 => ?_) (fun c_14 => ?_)
          · refine lv_iload_n hx hb dX3_firstDoubtful_34 rfl (lv_at hl 0 rfl) ?_
            refine lv_istore_n (lv' := [(2, .int (nI (i_1))), (3, .int (nI (i_1))), (0, .ref (J 0)), (1, .int (out))]) hx hb dX3_firstDoubtful_35 rfl hl (by decide) rfl (fun ls hl => ?_)
            refine lv_iinc (v := nI (i_1 + 1)) (lv' := [(3, .int (nI (i_1 + 1))), (2, .int (nI (i_1))), (0, .ref (J 0)), (1, .int (out))]) hx hb dX3_firstDoubtful_36 hl (k := 1) rfl (inc_1 _) (by decide) rfl (fun ls hl => ?_)
            refine lv_goto (tgt := 4) hx hb dX3_firstDoubtful_39 (by decide) ?_
            exact ih_8 (i_1 + 1) _ _ (by omega) (by omega) rfl (by rw [bst_new (by simp [c_13]) c_14]; rfl)  ls (lv_sub hl [0, 1, 2, 3] rfl)
          · obtain ⟨b_15, eb_16⟩ := o_some c_14
            have hb_17 := bst_lt eb_16
            rw [eb_16] at hl
            have hl : lv_has ls 4 [(3, .int (nI (i_1))), (2, .int (nI (b_15))), (0, .ref (J 0)), (1, .int (out))] := hl
            refine lv_aload_n hx hb dX3_firstDoubtful_25 rfl (lv_at hl 2 rfl) ?_
            refine lv_iload_n hx hb dX3_firstDoubtful_26 rfl (lv_at hl 0 rfl) ?_
            refine lv_iload_n hx hb dX3_firstDoubtful_27 rfl (lv_at hl 1 rfl) ?_
            refine rd_calle (va_runV (As := [.int (nI (i_1)), .int (nI (b_15))]) (rest := []) ⟨hx, hb, hml, hown, hts⟩ (c_X3_isMoreDoubtful l D cA J jf jn (i_1) (b_15) (by omega) (by omega)) (cwV 2 hts (gWV gm_35_5 gm_35_6 gm_35_7 gm_2_5 gm_35_8) rfl rfl rfl (by decide +kernel) ⟨Nat.le_of_ble_eq_true rfl, Nat.le_of_ble_eq_true rfl⟩) (gPreV hK (g_rf hK hP (ci := 5) (q0 := 0) rfl rfl) hP) rfl rfl hl.1 rfl (lv_room (Nat.le_of_ble_eq_true rfl)) dX3_firstDoubtful_28 ⟨by omega, by omega⟩) ?_
            refine g_if_eq (P := mdF (jf 0) (jf 1) (i_1) (b_15) = false) (tgt := 36) hx hb dX3_firstDoubtful_31 (by decide) b2i_0 (fun c_18 => ?_) (fun c_18 => ?_)
            · refine lv_iinc (v := nI (i_1 + 1)) (lv' := [(3, .int (nI (i_1 + 1))), (2, .int (nI (b_15))), (0, .ref (J 0)), (1, .int (out))]) hx hb dX3_firstDoubtful_36 hl (k := 0) rfl (inc_1 _) (by decide) rfl (fun ls hl => ?_)
              refine lv_goto (tgt := 4) hx hb dX3_firstDoubtful_39 (by decide) ?_
              exact ih_8 (i_1 + 1) _ _ (by omega) (by omega) rfl (by rw [bst_lose (by simp [c_13]) eb_16 (by simp [c_18])]; rfl)  ls (lv_sub hl [0, 1, 2, 3] rfl)
            · have c_18 : mdF (jf 0) (jf 1) (i_1) (b_15) = true := eq_true_of_ne_false c_18
              refine lv_iload_n hx hb dX3_firstDoubtful_34 rfl (lv_at hl 0 rfl) ?_
              refine lv_istore_n (lv' := [(2, .int (nI (i_1))), (3, .int (nI (i_1))), (0, .ref (J 0)), (1, .int (out))]) hx hb dX3_firstDoubtful_35 rfl hl (by decide) rfl (fun ls hl => ?_)
              refine lv_iinc (v := nI (i_1 + 1)) (lv' := [(3, .int (nI (i_1 + 1))), (2, .int (nI (i_1))), (0, .ref (J 0)), (1, .int (out))]) hx hb dX3_firstDoubtful_36 hl (k := 1) rfl (inc_1 _) (by decide) rfl (fun ls hl => ?_)
              refine lv_goto (tgt := 4) hx hb dX3_firstDoubtful_39 (by decide) ?_
              exact ih_8 (i_1 + 1) _ _ (by omega) (by omega) rfl (by rw [bst_win (by simp [c_13]) eb_16 (by simp [c_18])]; rfl)  ls (lv_sub hl [0, 1, 2, 3] rfl)
  exact LP_5 (jn + 1) 0 _ _ (by omega) (by omega) rfl rfl  ls (lv_sub hl [0, 1, 2, 3] rfl)

set_option maxHeartbeats 1000000 in
set_option maxRecDepth 100000 in
theorem c_X0_has (l : Launch) (D : va_G) (cA : Nat → ClassId) (K : Nat → Nat) (kf : Nat → Nat → Int32) (rw : Nat → Nat) (cn rl : Nat) (v : Int32) (hcn : cn ≤ 10) : Met l yX0_has (gw yX0_has cX0_has 2 (some .boolean)) ({ frames := 0, cells := 0, slots := 0, locals := 0 } : Room) (gPc [.ref (K 0), .int (v)] (fun H => va_P D vwCl (kw cA K kf rw cn rl) H) D cA) (rdI (fun r => r = b2i (isIx v cn))) 0 0 nF := by
  refine gOf (by decide) (Nat.le_of_ble_eq_true rfl) ?_
  intro p e s m below meth c ls hx hb hml hr hlk hown hts hnm hP hK hl
  have hl : lv_has ls 2 [(0, .ref (K 0)), (1, .int (v))] := hl
  refine lv_iload_n hx hb dX0_has_0 rfl (lv_at hl 1 rfl) ?_
  refine g_if_lt (P := v < 0) (tgt := 16) hx hb dX0_has_1 (by decide) Iff.rfl (fun c_1 => ?_) (fun c_1 => ?_)
  · have d_1 : ¬ 0 ≤ v := Int32.not_le.mpr c_1
    refine lv_iconst (v := nI (0)) hx hb dX0_has_16 gc_0 ?_
    exact g_zret (v := nI (0)) hx hb hr hlk rfl dX0_has_17 (by rw [isIx_code v (by omega)]; simp [b2i, c_1, d_1])
  · have d_1 : 0 ≤ v := Int32.not_lt.mp c_1
    refine lv_iload_n hx hb dX0_has_4 rfl (lv_at hl 1 rfl) ?_
    refine lv_aload_n hx hb dX0_has_5 rfl (lv_at hl 0 rfl) ?_
    refine g_get (v := .int (nI (cn))) hx hb hts hown hK hP 0 rfl rfl gu_wsX00 9 (by decide) gm_4_2 rfl dX0_has_6 ?_
    refine g_icmp_ge (P := nI (cn) ≤ v) (tgt := 16) hx hb dX0_has_9 (by decide) Iff.rfl (fun c_2 => ?_) (fun c_2 => ?_)
    · have d_2 : ¬ v < nI (cn) := Int32.not_lt.mpr c_2
      refine lv_iconst (v := nI (0)) hx hb dX0_has_16 gc_0 ?_
      exact g_zret (v := nI (0)) hx hb hr hlk rfl dX0_has_17 (by rw [isIx_code v (by omega)]; simp [b2i, c_1, d_1, c_2, d_2])
    · have d_2 : v < nI (cn) := Int32.not_le.mp c_2
      refine lv_iconst (v := nI (1)) hx hb dX0_has_12 gc_1 ?_
      refine lv_goto (tgt := 17) hx hb dX0_has_13 (by decide) ?_
      exact g_zret (v := nI (1)) hx hb hr hlk rfl dX0_has_17 (by rw [isIx_code v (by omega)]; simp [b2i, c_1, d_1, c_2, d_2])

def clF (k : Nat → Nat → Int32) (c : Nat) : Bool := !decide (k 5 c = -1)
def hpF (k : Nat → Nat → Int32) (c : Nat) : Bool := !decide (k 2 c = 0)
def hvF (k : Nat → Nat → Int32) (c : Nat) : Bool := !decide (k 3 c = 0)
def hdF (k : Nat → Nat → Int32) (c : Nat) : Bool := hpF k c && !hvF k c
def rpF (k : Nat → Nat → Int32) (c : Nat) (night : Int32) : Bool := hvF k c && !clF k c && decide (¬ night - nI 4 < k 4 c)
def cbF (k : Nat → Nat → Int32) (a b : Nat) : Bool := if k 1 a = k 1 b then (if k 0 a = k 0 b then decide (a < b) else decide (k 0 a < k 0 b)) else decide (k 1 a < k 1 b)
def fhF (k : Nat → Nat → Int32) (cn : Nat) (out : Int32) : Option Nat := bst (fun c => hdF k c && !hs out c) (cbF k) cn

set_option maxHeartbeats 1000000 in
set_option maxRecDepth 100000 in
theorem c_X0_hasPanel (l : Launch) (D : va_G) (cA : Nat → ClassId) (K : Nat → Nat) (kf : Nat → Nat → Int32) (rw : Nat → Nat) (cn rl : Nat) (q : Nat) (hq : q < 10) : Met l yX0_hasPanel (gw yX0_hasPanel cX0_hasPanel 2 (some .boolean)) ({ frames := 0, cells := 0, slots := 0, locals := 0 } : Room) (gPc [.ref (K 0), .int (nI (q))] (fun H => va_P D vwCl (kw cA K kf rw cn rl) H) D cA) (rdI (fun r => r = b2i (hpF kf q))) 0 0 nF := by
  refine gOf (by decide) (Nat.le_of_ble_eq_true rfl) ?_
  intro p e s m below meth c ls hx hb hml hr hlk hown hts hnm hP hK hl
  have hl : lv_has ls 2 [(0, .ref (K 0)), (1, .int (nI (q)))] := hl
  refine lv_aload_n hx hb dX0_hasPanel_0 rfl (lv_at hl 0 rfl) ?_
  refine g_get (v := .ref (K 3)) hx hb hts hown hK hP 0 rfl rfl gu_wsX00 2 (by decide) gm_3_19 rfl dX0_hasPanel_1 ?_
  refine lv_iload_n hx hb dX0_hasPanel_4 rfl (lv_at hl 1 rfl) ?_
  refine g_iald (x := kf 2 (q)) hx hb hK hP 3 rfl (by omega) (by decide) rfl dX0_hasPanel_5 ?_
  refine g_if_eq (P := kf 2 (q) = 0) (tgt := 13) hx hb dX0_hasPanel_6 (by decide) Iff.rfl (fun c_1 => ?_) (fun c_1 => ?_)
  · refine lv_iconst (v := nI (0)) hx hb dX0_hasPanel_13 gc_0 ?_
    exact g_zret (v := nI (0)) hx hb hr hlk rfl dX0_hasPanel_14 (by simp [hpF, b2i, c_1])
  · refine lv_iconst (v := nI (1)) hx hb dX0_hasPanel_9 gc_1 ?_
    refine lv_goto (tgt := 14) hx hb dX0_hasPanel_10 (by decide) ?_
    exact g_zret (v := nI (1)) hx hb hr hlk rfl dX0_hasPanel_14 (by simp [hpF, b2i, c_1])

set_option maxHeartbeats 1000000 in
set_option maxRecDepth 100000 in
theorem c_X0_hasVerdict (l : Launch) (D : va_G) (cA : Nat → ClassId) (K : Nat → Nat) (kf : Nat → Nat → Int32) (rw : Nat → Nat) (cn rl : Nat) (q : Nat) (hq : q < 10) : Met l yX0_hasVerdict (gw yX0_hasVerdict cX0_hasVerdict 2 (some .boolean)) ({ frames := 0, cells := 0, slots := 0, locals := 0 } : Room) (gPc [.ref (K 0), .int (nI (q))] (fun H => va_P D vwCl (kw cA K kf rw cn rl) H) D cA) (rdI (fun r => r = b2i (hvF kf q))) 0 0 nF := by
  refine gOf (by decide) (Nat.le_of_ble_eq_true rfl) ?_
  intro p e s m below meth c ls hx hb hml hr hlk hown hts hnm hP hK hl
  have hl : lv_has ls 2 [(0, .ref (K 0)), (1, .int (nI (q)))] := hl
  refine lv_aload_n hx hb dX0_hasVerdict_0 rfl (lv_at hl 0 rfl) ?_
  refine g_get (v := .ref (K 4)) hx hb hts hown hK hP 0 rfl rfl gu_wsX00 3 (by decide) gm_3_20 rfl dX0_hasVerdict_1 ?_
  refine lv_iload_n hx hb dX0_hasVerdict_4 rfl (lv_at hl 1 rfl) ?_
  refine g_iald (x := kf 3 (q)) hx hb hK hP 4 rfl (by omega) (by decide) rfl dX0_hasVerdict_5 ?_
  refine g_if_eq (P := kf 3 (q) = 0) (tgt := 13) hx hb dX0_hasVerdict_6 (by decide) Iff.rfl (fun c_1 => ?_) (fun c_1 => ?_)
  · refine lv_iconst (v := nI (0)) hx hb dX0_hasVerdict_13 gc_0 ?_
    exact g_zret (v := nI (0)) hx hb hr hlk rfl dX0_hasVerdict_14 (by simp [hvF, b2i, c_1])
  · refine lv_iconst (v := nI (1)) hx hb dX0_hasVerdict_9 gc_1 ?_
    refine lv_goto (tgt := 14) hx hb dX0_hasVerdict_10 (by decide) ?_
    exact g_zret (v := nI (1)) hx hb hr hlk rfl dX0_hasVerdict_14 (by simp [hvF, b2i, c_1])

set_option maxHeartbeats 1000000 in
set_option maxRecDepth 100000 in
theorem c_X0_isClosed (l : Launch) (D : va_G) (cA : Nat → ClassId) (K : Nat → Nat) (kf : Nat → Nat → Int32) (rw : Nat → Nat) (cn rl : Nat) (q : Nat) (hq : q < 10) : Met l yX0_isClosed (gw yX0_isClosed cX0_isClosed 2 (some .boolean)) ({ frames := 0, cells := 0, slots := 0, locals := 0 } : Room) (gPc [.ref (K 0), .int (nI (q))] (fun H => va_P D vwCl (kw cA K kf rw cn rl) H) D cA) (rdI (fun r => r = b2i (clF kf q))) 0 0 nF := by
  refine gOf (by decide) (Nat.le_of_ble_eq_true rfl) ?_
  intro p e s m below meth c ls hx hb hml hr hlk hown hts hnm hP hK hl
  have hl : lv_has ls 2 [(0, .ref (K 0)), (1, .int (nI (q)))] := hl
  refine lv_aload_n hx hb dX0_isClosed_0 rfl (lv_at hl 0 rfl) ?_
  refine g_get (v := .ref (K 6)) hx hb hts hown hK hP 0 rfl rfl gu_wsX00 5 (by decide) gm_3_22 rfl dX0_isClosed_1 ?_
  refine lv_iload_n hx hb dX0_isClosed_4 rfl (lv_at hl 1 rfl) ?_
  refine g_iald (x := kf 5 (q)) hx hb hK hP 6 rfl (by omega) (by decide) rfl dX0_isClosed_5 ?_
  refine lv_iconst (v := -1) hx hb dX0_isClosed_6 gc_m1 ?_
  refine g_icmp_eq (P := kf 5 (q) = -1) (tgt := 14) hx hb dX0_isClosed_7 (by decide) Iff.rfl (fun c_1 => ?_) (fun c_1 => ?_)
  · refine lv_iconst (v := nI (0)) hx hb dX0_isClosed_14 gc_0 ?_
    exact g_zret (v := nI (0)) hx hb hr hlk rfl dX0_isClosed_15 (by simp [clF, b2i, c_1])
  · refine lv_iconst (v := nI (1)) hx hb dX0_isClosed_10 gc_1 ?_
    refine lv_goto (tgt := 15) hx hb dX0_isClosed_11 (by decide) ?_
    exact g_zret (v := nI (1)) hx hb hr hlk rfl dX0_isClosed_15 (by simp [clF, b2i, c_1])

set_option maxHeartbeats 1000000 in
set_option maxRecDepth 100000 in
theorem c_X0_isHeard (l : Launch) (D : va_G) (cA : Nat → ClassId) (K : Nat → Nat) (kf : Nat → Nat → Int32) (rw : Nat → Nat) (cn rl : Nat) (q : Nat) (hq : q < 10) : Met l yX0_isHeard (gw yX0_isHeard cX0_isHeard 2 (some .boolean)) ({ frames := 1, cells := 0, slots := 0, locals := 21 } : Room) (gPc [.ref (K 0), .int (nI (q))] (fun H => va_P D vwCl (kw cA K kf rw cn rl) H) D cA) (rdI (fun r => r = b2i (hdF kf q))) 0 0 nF := by
  refine gOf (by decide) (Nat.le_of_ble_eq_true rfl) ?_
  intro p e s m below meth c ls hx hb hml hr hlk hown hts hnm hP hK hl
  have hl : lv_has ls 2 [(0, .ref (K 0)), (1, .int (nI (q)))] := hl
  refine lv_aload_n hx hb dX0_isHeard_0 rfl (lv_at hl 0 rfl) ?_
  refine lv_iload_n hx hb dX0_isHeard_1 rfl (lv_at hl 1 rfl) ?_
  refine rd_calle (va_runV (As := [.int (nI (q))]) (rest := []) ⟨hx, hb, hml, hown, hts⟩ (c_X0_hasPanel l D cA K kf rw cn rl (q) (by omega)) (cwV 1 hts (gWV gm_31_10 gm_12_1 gm_12_2 gm_3_0 gm_12_3) rfl rfl rfl (by decide +kernel) ⟨Nat.le_of_ble_eq_true rfl, Nat.le_of_ble_eq_true rfl⟩) (gPreV hK (g_rf hK hP (ci := 2) (q0 := 0) rfl rfl) hP) rfl rfl hl.1 rfl (lv_room (Nat.le_of_ble_eq_true rfl)) dX0_isHeard_2 ⟨by omega, by omega⟩) ?_
  refine g_if_eq (P := hpF kf (q) = false) (tgt := 20) hx hb dX0_isHeard_5 (by decide) b2i_0 (fun c_1 => ?_) (fun c_1 => ?_)
  · refine lv_iconst (v := nI (0)) hx hb dX0_isHeard_20 gc_0 ?_
    exact g_zret (v := nI (0)) hx hb hr hlk rfl dX0_isHeard_21 (by simp [hdF, b2i, c_1])
  · have c_1 : hpF kf (q) = true := eq_true_of_ne_false c_1
    refine lv_aload_n hx hb dX0_isHeard_8 rfl (lv_at hl 0 rfl) ?_
    refine lv_iload_n hx hb dX0_isHeard_9 rfl (lv_at hl 1 rfl) ?_
    refine rd_calle (va_runV (As := [.int (nI (q))]) (rest := []) ⟨hx, hb, hml, hown, hts⟩ (c_X0_hasVerdict l D cA K kf rw cn rl (q) (by omega)) (cwV 1 hts (gWV gm_23_12 gm_16_5 gm_16_6 gm_3_0 gm_16_7) rfl rfl rfl (by decide +kernel) ⟨Nat.le_of_ble_eq_true rfl, Nat.le_of_ble_eq_true rfl⟩) (gPreV hK (g_rf hK hP (ci := 2) (q0 := 0) rfl rfl) hP) rfl rfl hl.1 rfl (lv_room (Nat.le_of_ble_eq_true rfl)) dX0_isHeard_10 ⟨by omega, by omega⟩) ?_
    refine g_if_ne (P := hvF kf (q) = false) (tgt := 20) hx hb dX0_isHeard_13 (by decide) b2i_0 (fun c_2 => ?_) (fun c_2 => ?_)
    · have c_2 : hvF kf (q) = true := eq_true_of_ne_false c_2
      refine lv_iconst (v := nI (0)) hx hb dX0_isHeard_20 gc_0 ?_
      exact g_zret (v := nI (0)) hx hb hr hlk rfl dX0_isHeard_21 (by simp [hdF, b2i, c_1, c_2])
    · refine lv_iconst (v := nI (1)) hx hb dX0_isHeard_16 gc_1 ?_
      refine lv_goto (tgt := 21) hx hb dX0_isHeard_17 (by decide) ?_
      exact g_zret (v := nI (1)) hx hb hr hlk rfl dX0_isHeard_21 (by simp [hdF, b2i, c_1, c_2])

set_option maxHeartbeats 1000000 in
set_option maxRecDepth 100000 in
theorem c_X0_isRipe (l : Launch) (D : va_G) (cA : Nat → ClassId) (K : Nat → Nat) (kf : Nat → Nat → Int32) (rw : Nat → Nat) (cn rl : Nat) (q : Nat) (night : Int32) (hq : q < 10) : Met l yX0_isRipe (gw yX0_isRipe cX0_isRipe 3 (some .boolean)) ({ frames := 1, cells := 0, slots := 0, locals := 21 } : Room) (gPc [.ref (K 0), .int (nI (q)), .int (night)] (fun H => va_P D vwCl (kw cA K kf rw cn rl) H) D cA) (rdI (fun r => r = b2i (rpF kf q night))) 0 0 nF := by
  refine gOf (by decide) (Nat.le_of_ble_eq_true rfl) ?_
  intro p e s m below meth c ls hx hb hml hr hlk hown hts hnm hP hK hl
  have hl : lv_has ls 3 [(0, .ref (K 0)), (1, .int (nI (q))), (2, .int (night))] := hl
  refine lv_aload_n hx hb dX0_isRipe_0 rfl (lv_at hl 0 rfl) ?_
  refine lv_iload_n hx hb dX0_isRipe_1 rfl (lv_at hl 1 rfl) ?_
  refine rd_calle (va_runV (As := [.int (nI (q))]) (rest := []) ⟨hx, hb, hml, hown, hts⟩ (c_X0_hasVerdict l D cA K kf rw cn rl (q) (by omega)) (cwV 1 hts (gWV gm_23_12 gm_16_5 gm_16_6 gm_3_0 gm_16_7) rfl rfl rfl (by decide +kernel) ⟨Nat.le_of_ble_eq_true rfl, Nat.le_of_ble_eq_true rfl⟩) (gPreV hK (g_rf hK hP (ci := 2) (q0 := 0) rfl rfl) hP) rfl rfl hl.1 rfl (lv_room (Nat.le_of_ble_eq_true rfl)) dX0_isRipe_2 ⟨by omega, by omega⟩) ?_
  refine g_if_eq (P := hvF kf (q) = false) (tgt := 32) hx hb dX0_isRipe_5 (by decide) b2i_0 (fun c_1 => ?_) (fun c_1 => ?_)
  · refine lv_iconst (v := nI (0)) hx hb dX0_isRipe_32 gc_0 ?_
    exact g_zret (v := nI (0)) hx hb hr hlk rfl dX0_isRipe_33 (by simp [rpF, b2i, c_1])
  · have c_1 : hvF kf (q) = true := eq_true_of_ne_false c_1
    refine lv_aload_n hx hb dX0_isRipe_8 rfl (lv_at hl 0 rfl) ?_
    refine lv_iload_n hx hb dX0_isRipe_9 rfl (lv_at hl 1 rfl) ?_
    refine rd_calle (va_runV (As := [.int (nI (q))]) (rest := []) ⟨hx, hb, hml, hown, hts⟩ (c_X0_isClosed l D cA K kf rw cn rl (q) (by omega)) (cwV 1 hts (gWV gm_23_13 gm_12_17 gm_12_18 gm_3_0 gm_12_19) rfl rfl rfl (by decide +kernel) ⟨Nat.le_of_ble_eq_true rfl, Nat.le_of_ble_eq_true rfl⟩) (gPreV hK (g_rf hK hP (ci := 2) (q0 := 0) rfl rfl) hP) rfl rfl hl.1 rfl (lv_room (Nat.le_of_ble_eq_true rfl)) dX0_isRipe_10 ⟨by omega, by omega⟩) ?_
    refine g_if_ne (P := clF kf (q) = false) (tgt := 32) hx hb dX0_isRipe_13 (by decide) b2i_0 (fun c_2 => ?_) (fun c_2 => ?_)
    · have c_2 : clF kf (q) = true := eq_true_of_ne_false c_2
      refine lv_iconst (v := nI (0)) hx hb dX0_isRipe_32 gc_0 ?_
      exact g_zret (v := nI (0)) hx hb hr hlk rfl dX0_isRipe_33 (by simp [rpF, b2i, c_1, c_2])
    · refine lv_aload_n hx hb dX0_isRipe_16 rfl (lv_at hl 0 rfl) ?_
      refine g_get (v := .ref (K 5)) hx hb hts hown hK hP 0 rfl rfl gu_wsX00 4 (by decide) gm_3_21 rfl dX0_isRipe_17 ?_
      refine lv_iload_n hx hb dX0_isRipe_20 rfl (lv_at hl 1 rfl) ?_
      refine g_iald (x := kf 4 (q)) hx hb hK hP 5 rfl (by omega) (by decide) rfl dX0_isRipe_21 ?_
      refine lv_iload_n hx hb dX0_isRipe_22 rfl (lv_at hl 2 rfl) ?_
      refine lv_iconst (v := nI (4)) hx hb dX0_isRipe_23 gc_4 ?_
      refine lv_isub hx hb dX0_isRipe_24 ?_
      refine g_icmp_gt (P := (night) - (nI (4)) < kf 4 (q)) (tgt := 32) hx hb dX0_isRipe_25 (by decide) Iff.rfl (fun c_3 => ?_) (fun c_3 => ?_)
      · have d_3 : ¬ kf 4 (q) ≤ (night) - (nI (4)) := Int32.not_le.mpr c_3
        refine lv_iconst (v := nI (0)) hx hb dX0_isRipe_32 gc_0 ?_
        exact g_zret (v := nI (0)) hx hb hr hlk rfl dX0_isRipe_33 (by simp [rpF, b2i, c_1, c_2, c_3, d_3])
      · have d_3 : kf 4 (q) ≤ (night) - (nI (4)) := Int32.not_lt.mp c_3
        refine lv_iconst (v := nI (1)) hx hb dX0_isRipe_28 gc_1 ?_
        refine lv_goto (tgt := 33) hx hb dX0_isRipe_29 (by decide) ?_
        exact g_zret (v := nI (1)) hx hb hr hlk rfl dX0_isRipe_33 (by simp [rpF, b2i, c_1, c_2, c_3, d_3])

set_option maxHeartbeats 1000000 in
set_option maxRecDepth 100000 in
theorem c_X0_comesBefore (l : Launch) (D : va_G) (cA : Nat → ClassId) (K : Nat → Nat) (kf : Nat → Nat → Int32) (rw : Nat → Nat) (cn rl : Nat) (a b : Nat) (ha : a < 10) (hb_ : b < 10) : Met l yX0_comesBefore (gw yX0_comesBefore cX0_comesBefore 3 (some .boolean)) ({ frames := 0, cells := 0, slots := 0, locals := 0 } : Room) (gPc [.ref (K 0), .int (nI (a)), .int (nI (b))] (fun H => va_P D vwCl (kw cA K kf rw cn rl) H) D cA) (rdI (fun r => r = b2i (cbF kf a b))) 0 0 nF := by
  refine gOf (by decide) (Nat.le_of_ble_eq_true rfl) ?_
  intro p e s m below meth c ls hx hb hml hr hlk hown hts hnm hP hK hl
  have hl : lv_has ls 3 [(0, .ref (K 0)), (1, .int (nI (a))), (2, .int (nI (b)))] := hl
  refine lv_aload_n hx hb dX0_comesBefore_0 rfl (lv_at hl 0 rfl) ?_
  refine g_get (v := .ref (K 2)) hx hb hts hown hK hP 0 rfl rfl gu_wsX00 1 (by decide) gm_3_18 rfl dX0_comesBefore_1 ?_
  refine lv_iload_n hx hb dX0_comesBefore_4 rfl (lv_at hl 1 rfl) ?_
  refine g_iald (x := kf 1 (a)) hx hb hK hP 2 rfl (by omega) (by decide) rfl dX0_comesBefore_5 ?_
  refine lv_aload_n hx hb dX0_comesBefore_6 rfl (lv_at hl 0 rfl) ?_
  refine g_get (v := .ref (K 2)) hx hb hts hown hK hP 0 rfl rfl gu_wsX00 1 (by decide) gm_3_18 rfl dX0_comesBefore_7 ?_
  refine lv_iload_n hx hb dX0_comesBefore_10 rfl (lv_at hl 2 rfl) ?_
  refine g_iald (x := kf 1 (b)) hx hb hK hP 2 rfl (by omega) (by decide) rfl dX0_comesBefore_11 ?_
  refine g_icmp_eq (P := kf 1 (a) = kf 1 (b)) (tgt := 36) hx hb dX0_comesBefore_12 (by decide) Iff.rfl (fun c_1 => ?_) (fun c_1 => ?_)
  · refine lv_aload_n hx hb dX0_comesBefore_36 rfl (lv_at hl 0 rfl) ?_
    refine g_get (v := .ref (K 1)) hx hb hts hown hK hP 0 rfl rfl gu_wsX00 0 (by decide) gm_3_17 rfl dX0_comesBefore_37 ?_
    refine lv_iload_n hx hb dX0_comesBefore_40 rfl (lv_at hl 1 rfl) ?_
    refine g_iald (x := kf 0 (a)) hx hb hK hP 1 rfl (by omega) (by decide) rfl dX0_comesBefore_41 ?_
    refine lv_aload_n hx hb dX0_comesBefore_42 rfl (lv_at hl 0 rfl) ?_
    refine g_get (v := .ref (K 1)) hx hb hts hown hK hP 0 rfl rfl gu_wsX00 0 (by decide) gm_3_17 rfl dX0_comesBefore_43 ?_
    refine lv_iload_n hx hb dX0_comesBefore_46 rfl (lv_at hl 2 rfl) ?_
    refine g_iald (x := kf 0 (b)) hx hb hK hP 1 rfl (by omega) (by decide) rfl dX0_comesBefore_47 ?_
    refine g_icmp_eq (P := kf 0 (a) = kf 0 (b)) (tgt := 72) hx hb dX0_comesBefore_48 (by decide) Iff.rfl (fun c_2 => ?_) (fun c_2 => ?_)
    · refine lv_iload_n hx hb dX0_comesBefore_72 rfl (lv_at hl 1 rfl) ?_
      refine lv_iload_n hx hb dX0_comesBefore_73 rfl (lv_at hl 2 rfl) ?_
      refine g_icmp_ge (P := b ≤ a) (tgt := 81) hx hb dX0_comesBefore_74 (by decide) (nI_leI (by omega) (by omega)) (fun c_3 => ?_) (fun c_3 => ?_)
      · have d_3 : ¬ a < b := Nat.not_lt.mpr c_3
        refine lv_iconst (v := nI (0)) hx hb dX0_comesBefore_81 gc_0 ?_
        exact g_zret (v := nI (0)) hx hb hr hlk rfl dX0_comesBefore_82 (by simp [cbF, b2i, c_1, c_2, c_3, d_3] <;> omega)
      · have d_3 : a < b := Nat.not_le.mp c_3
        refine lv_iconst (v := nI (1)) hx hb dX0_comesBefore_77 gc_1 ?_
        refine lv_goto (tgt := 82) hx hb dX0_comesBefore_78 (by decide) ?_
        exact g_zret (v := nI (1)) hx hb hr hlk rfl dX0_comesBefore_82 (by simp [cbF, b2i, c_1, c_2, c_3, d_3] <;> omega)
    · refine lv_aload_n hx hb dX0_comesBefore_51 rfl (lv_at hl 0 rfl) ?_
      refine g_get (v := .ref (K 1)) hx hb hts hown hK hP 0 rfl rfl gu_wsX00 0 (by decide) gm_3_17 rfl dX0_comesBefore_52 ?_
      refine lv_iload_n hx hb dX0_comesBefore_55 rfl (lv_at hl 1 rfl) ?_
      refine g_iald (x := kf 0 (a)) hx hb hK hP 1 rfl (by omega) (by decide) rfl dX0_comesBefore_56 ?_
      refine lv_aload_n hx hb dX0_comesBefore_57 rfl (lv_at hl 0 rfl) ?_
      refine g_get (v := .ref (K 1)) hx hb hts hown hK hP 0 rfl rfl gu_wsX00 0 (by decide) gm_3_17 rfl dX0_comesBefore_58 ?_
      refine lv_iload_n hx hb dX0_comesBefore_61 rfl (lv_at hl 2 rfl) ?_
      refine g_iald (x := kf 0 (b)) hx hb hK hP 1 rfl (by omega) (by decide) rfl dX0_comesBefore_62 ?_
      refine g_icmp_ge (P := kf 0 (b) ≤ kf 0 (a)) (tgt := 70) hx hb dX0_comesBefore_63 (by decide) Iff.rfl (fun c_4 => ?_) (fun c_4 => ?_)
      · have d_4 : ¬ kf 0 (a) < kf 0 (b) := Int32.not_lt.mpr c_4
        refine lv_iconst (v := nI (0)) hx hb dX0_comesBefore_70 gc_0 ?_
        exact g_zret (v := nI (0)) hx hb hr hlk rfl dX0_comesBefore_71 (by simp [cbF, b2i, c_1, c_2, c_4, d_4] <;> omega)
      · have d_4 : kf 0 (a) < kf 0 (b) := Int32.not_le.mp c_4
        refine lv_iconst (v := nI (1)) hx hb dX0_comesBefore_66 gc_1 ?_
        refine lv_goto (tgt := 71) hx hb dX0_comesBefore_67 (by decide) ?_
        exact g_zret (v := nI (1)) hx hb hr hlk rfl dX0_comesBefore_71 (by simp [cbF, b2i, c_1, c_2, c_4, d_4] <;> omega)
  · refine lv_aload_n hx hb dX0_comesBefore_15 rfl (lv_at hl 0 rfl) ?_
    refine g_get (v := .ref (K 2)) hx hb hts hown hK hP 0 rfl rfl gu_wsX00 1 (by decide) gm_3_18 rfl dX0_comesBefore_16 ?_
    refine lv_iload_n hx hb dX0_comesBefore_19 rfl (lv_at hl 1 rfl) ?_
    refine g_iald (x := kf 1 (a)) hx hb hK hP 2 rfl (by omega) (by decide) rfl dX0_comesBefore_20 ?_
    refine lv_aload_n hx hb dX0_comesBefore_21 rfl (lv_at hl 0 rfl) ?_
    refine g_get (v := .ref (K 2)) hx hb hts hown hK hP 0 rfl rfl gu_wsX00 1 (by decide) gm_3_18 rfl dX0_comesBefore_22 ?_
    refine lv_iload_n hx hb dX0_comesBefore_25 rfl (lv_at hl 2 rfl) ?_
    refine g_iald (x := kf 1 (b)) hx hb hK hP 2 rfl (by omega) (by decide) rfl dX0_comesBefore_26 ?_
    refine g_icmp_ge (P := kf 1 (b) ≤ kf 1 (a)) (tgt := 34) hx hb dX0_comesBefore_27 (by decide) Iff.rfl (fun c_5 => ?_) (fun c_5 => ?_)
    · have d_5 : ¬ kf 1 (a) < kf 1 (b) := Int32.not_lt.mpr c_5
      refine lv_iconst (v := nI (0)) hx hb dX0_comesBefore_34 gc_0 ?_
      exact g_zret (v := nI (0)) hx hb hr hlk rfl dX0_comesBefore_35 (by simp [cbF, b2i, c_1, c_5, d_5] <;> omega)
    · have d_5 : kf 1 (a) < kf 1 (b) := Int32.not_le.mp c_5
      refine lv_iconst (v := nI (1)) hx hb dX0_comesBefore_30 gc_1 ?_
      refine lv_goto (tgt := 35) hx hb dX0_comesBefore_31 (by decide) ?_
      exact g_zret (v := nI (1)) hx hb hr hlk rfl dX0_comesBefore_35 (by simp [cbF, b2i, c_1, c_5, d_5] <;> omega)

set_option maxHeartbeats 1000000 in
set_option maxRecDepth 100000 in
theorem c_X0_firstHeard (l : Launch) (D : va_G) (cA : Nat → ClassId) (K : Nat → Nat) (kf : Nat → Nat → Int32) (rw : Nat → Nat) (cn rl : Nat) (out : Int32) (hcn : cn ≤ 10) : Met l yX0_firstHeard (gw yX0_firstHeard cX0_firstHeard 4 (some .int)) ({ frames := 2, cells := 0, slots := 0, locals := 42 } : Room) (gPc [.ref (K 0), .int (out)] (fun H => va_P D vwCl (kw cA K kf rw cn rl) H) D cA) (rdI (fun r => r = oI (fhF kf cn out))) 0 0 nF := by
  refine gOf (by decide) (Nat.le_of_ble_eq_true rfl) ?_
  intro p e s m below meth c ls hx hb hml hr hlk hown hts hnm hP hK hl
  have hl : lv_has ls 4 [(0, .ref (K 0)), (1, .int (out))] := hl
  refine lv_iconst (v := -1) hx hb dX0_firstHeard_0 gc_m1 ?_
  refine lv_istore_n (lv' := [(2, .int (-1)), (0, .ref (K 0)), (1, .int (out))]) hx hb dX0_firstHeard_1 rfl hl (by decide) rfl (fun ls hl => ?_)
  refine lv_iconst (v := nI (0)) hx hb dX0_firstHeard_2 gc_0 ?_
  refine lv_istore_n (lv' := [(3, .int (nI (0))), (2, .int (-1)), (0, .ref (K 0)), (1, .int (out))]) hx hb dX0_firstHeard_3 rfl hl (by decide) rfl (fun ls hl => ?_)
  have LP_5 : ∀ (n_2 i_1 : Nat) (x_3 : Int32) (x_4 : Int32), i_1 ≤ cn → cn + 1 ≤ i_1 + n_2 → x_3 = nI (i_1) → x_4 = oI (bst (fun c => hdF kf c && !hs out c) (cbF kf) i_1) → ∀ (ls : Array Slot), lv_has ls 4 [(3, .int (x_3)), (2, .int (x_4)), (0, .ref (K 0)), (1, .int (out))] → W p l e ({ frames := 2, cells := 0, slots := 0, locals := 42 } : Room) s m ([.ref (K 0), .int (out)] : List Value).toArray below meth c s.heap [] 0 0 (MQ below (rdI (fun r => r = oI (fhF kf cn out))) ([.ref (K 0), .int (out)] : List Value).toArray s 0 0 nF) (F0 m 4 ls []) := by
    intro n_2
    induction n_2 with
    | zero => intro i_1 x_3 x_4 h1 h2; exact absurd h2 (by omega)
    | succ n_2 ih_8 =>
      intro i_1 x_3 x_4 h_9 h_10 e_6 e_7  ls hl
      subst e_6
      subst e_7
      refine lv_iload_n hx hb dX0_firstHeard_4 rfl (lv_at hl 0 rfl) ?_
      refine lv_aload_n hx hb dX0_firstHeard_5 rfl (lv_at hl 2 rfl) ?_
      refine g_get (v := .int (nI (cn))) hx hb hts hown hK hP 0 rfl rfl gu_wsX00 9 (by decide) gm_4_2 rfl dX0_firstHeard_6 ?_
      refine g_icmp_ge (P := cn ≤ i_1) (tgt := 50) hx hb dX0_firstHeard_9 (by decide) (nI_leI (by omega) (by omega)) (fun c_11 => ?_) (fun c_11 => ?_)
      · have d_11 : ¬ i_1 < cn := Nat.not_lt.mpr c_11
        have hN_12 : cn = i_1 := by omega
        subst hN_12
        refine lv_iload_n hx hb dX0_firstHeard_50 rfl (lv_at hl 1 rfl) ?_
        exact g_iret (v := oI (bst (fun c => hdF kf c && !hs out c) (cbF kf) (cn))) hx hb hr hlk dX0_firstHeard_51 (rfl)
      · have d_11 : i_1 < cn := Nat.not_le.mp c_11
        refine lv_aload_n hx hb dX0_firstHeard_12 rfl (lv_at hl 2 rfl) ?_
        refine lv_iload_n hx hb dX0_firstHeard_13 rfl (lv_at hl 0 rfl) ?_
        refine rd_calle (va_runV (As := [.int (nI (i_1))]) (rest := []) ⟨hx, hb, hml, hown, hts⟩ (c_X0_isHeard l D cA K kf rw cn rl (i_1) (by omega)) (cwV 1 hts (gWV gm_31_6 gm_31_7 gm_31_8 gm_3_0 gm_31_9) rfl rfl rfl (by decide +kernel) ⟨Nat.le_of_ble_eq_true rfl, Nat.le_of_ble_eq_true rfl⟩) (gPreV hK (g_rf hK hP (ci := 2) (q0 := 0) rfl rfl) hP) rfl rfl hl.1 rfl (lv_room (Nat.le_of_ble_eq_true rfl)) dX0_firstHeard_14 ⟨by omega, by omega⟩) ?_
        refine g_if_eq (P := hdF kf (i_1) = false) (tgt := 44) hx hb dX0_firstHeard_17 (by decide) b2i_0 (fun c_13 => ?_) (fun c_13 => ?_)
        · refine lv_iinc (v := nI (i_1 + 1)) (lv' := [(3, .int (nI (i_1 + 1))), (2, .int (oI (bst (fun c => hdF kf c && !hs out c) (cbF kf) i_1))), (0, .ref (K 0)), (1, .int (out))]) hx hb dX0_firstHeard_44 hl (k := 0) rfl (inc_1 _) (by decide) rfl (fun ls hl => ?_)
          refine lv_goto (tgt := 4) hx hb dX0_firstHeard_47 (by decide) ?_
          exact ih_8 (i_1 + 1) _ _ (by omega) (by omega) rfl (by rw [bst_no (by simp [c_13])])  ls (lv_sub hl [0, 1, 2, 3] rfl)
        · have c_13 : hdF kf (i_1) = true := eq_true_of_ne_false c_13
          refine lv_iload_n hx hb dX0_firstHeard_20 rfl (lv_at hl 3 rfl) ?_
          refine lv_iload_n hx hb dX0_firstHeard_21 rfl (lv_at hl 0 rfl) ?_
          refine rd_calle (va_runSN (As := [.int (out), .int (nI (i_1))]) (rest := []) ⟨hx, hb, hml, hown, hts⟩ (c_X7_isIn l D cA (out) (i_1)) ⟨(va_cnB 2 hts (gWN gm_12_9) rfl rfl rfl (hK.2 _ (List.mem_of_getElem? (i := 9) rfl)) (hts _ (List.mem_cons_of_mem _ gm_1_2)) (by decide +kernel) ⟨Nat.le_of_ble_eq_true rfl, Nat.le_of_ble_eq_true rfl⟩), hts _ (List.mem_cons_of_mem _ gm_12_8), trivial⟩ (gPreS hK trivial) rfl rfl hl.1 rfl (lv_room (Nat.le_of_ble_eq_true rfl)) dX0_firstHeard_22 ⟨by omega, by omega⟩) ?_
          refine g_if_ne (P := hs (out) (i_1) = false) (tgt := 44) hx hb dX0_firstHeard_25 (by decide) b2i_0 (fun c_14 => ?_) (fun c_14 => ?_)
          · have c_14 : hs (out) (i_1) = true := eq_true_of_ne_false c_14
            refine lv_iinc (v := nI (i_1 + 1)) (lv' := [(3, .int (nI (i_1 + 1))), (2, .int (oI (bst (fun c => hdF kf c && !hs out c) (cbF kf) i_1))), (0, .ref (K 0)), (1, .int (out))]) hx hb dX0_firstHeard_44 hl (k := 0) rfl (inc_1 _) (by decide) rfl (fun ls hl => ?_)
            refine lv_goto (tgt := 4) hx hb dX0_firstHeard_47 (by decide) ?_
            exact ih_8 (i_1 + 1) _ _ (by omega) (by omega) rfl (by rw [bst_no (by simp [c_13, c_14])])  ls (lv_sub hl [0, 1, 2, 3] rfl)
          · refine lv_iload_n hx hb dX0_firstHeard_28 rfl (lv_at hl 1 rfl) ?_
            refine lv_iconst (v := -1) hx hb dX0_firstHeard_29 gc_m1 ?_
            refine g_icmp_eq (P := bst (fun c => hdF kf c && !hs out c) (cbF kf) i_1 = none) (tgt := 42) hx hb dX0_firstHeard_30 (by decide) (oI_m1 (fun b q => by have := bst_lt q; omega)) (fun c_15 => ?_) (fun c_15 => ?_)
            · refine lv_iload_n hx hb dX0_firstHeard_42 rfl (lv_at hl 0 rfl) ?_
              refine lv_istore_n (lv' := [(2, .int (nI (i_1))), (3, .int (nI (i_1))), (0, .ref (K 0)), (1, .int (out))]) hx hb dX0_firstHeard_43 rfl hl (by decide) rfl (fun ls hl => ?_)
              refine lv_iinc (v := nI (i_1 + 1)) (lv' := [(3, .int (nI (i_1 + 1))), (2, .int (nI (i_1))), (0, .ref (K 0)), (1, .int (out))]) hx hb dX0_firstHeard_44 hl (k := 1) rfl (inc_1 _) (by decide) rfl (fun ls hl => ?_)
              refine lv_goto (tgt := 4) hx hb dX0_firstHeard_47 (by decide) ?_
              exact ih_8 (i_1 + 1) _ _ (by omega) (by omega) rfl (by rw [bst_new (by simp [c_13, c_14]) c_15]; rfl)  ls (lv_sub hl [0, 1, 2, 3] rfl)
            · obtain ⟨b_16, eb_17⟩ := o_some c_15
              have hb_18 := bst_lt eb_17
              rw [eb_17] at hl
              have hl : lv_has ls 4 [(3, .int (nI (i_1))), (2, .int (nI (b_16))), (0, .ref (K 0)), (1, .int (out))] := hl
              refine lv_aload_n hx hb dX0_firstHeard_33 rfl (lv_at hl 2 rfl) ?_
              refine lv_iload_n hx hb dX0_firstHeard_34 rfl (lv_at hl 0 rfl) ?_
              refine lv_iload_n hx hb dX0_firstHeard_35 rfl (lv_at hl 1 rfl) ?_
              refine rd_calle (va_runV (As := [.int (nI (i_1)), .int (nI (b_16))]) (rest := []) ⟨hx, hb, hml, hown, hts⟩ (c_X0_comesBefore l D cA K kf rw cn rl (i_1) (b_16) (by omega) (by omega)) (cwV 2 hts (gWV gm_13_15 gm_13_16 gm_13_17 gm_3_0 gm_13_18) rfl rfl rfl (by decide +kernel) ⟨Nat.le_of_ble_eq_true rfl, Nat.le_of_ble_eq_true rfl⟩) (gPreV hK (g_rf hK hP (ci := 2) (q0 := 0) rfl rfl) hP) rfl rfl hl.1 rfl (lv_room (Nat.le_of_ble_eq_true rfl)) dX0_firstHeard_36 ⟨by omega, by omega⟩) ?_
              refine g_if_eq (P := cbF kf (i_1) (b_16) = false) (tgt := 44) hx hb dX0_firstHeard_39 (by decide) b2i_0 (fun c_19 => ?_) (fun c_19 => ?_)
              · refine lv_iinc (v := nI (i_1 + 1)) (lv' := [(3, .int (nI (i_1 + 1))), (2, .int (nI (b_16))), (0, .ref (K 0)), (1, .int (out))]) hx hb dX0_firstHeard_44 hl (k := 0) rfl (inc_1 _) (by decide) rfl (fun ls hl => ?_)
                refine lv_goto (tgt := 4) hx hb dX0_firstHeard_47 (by decide) ?_
                exact ih_8 (i_1 + 1) _ _ (by omega) (by omega) rfl (by rw [bst_lose (by simp [c_13, c_14]) eb_17 (by simp [c_19])]; rfl)  ls (lv_sub hl [0, 1, 2, 3] rfl)
              · have c_19 : cbF kf (i_1) (b_16) = true := eq_true_of_ne_false c_19
                refine lv_iload_n hx hb dX0_firstHeard_42 rfl (lv_at hl 0 rfl) ?_
                refine lv_istore_n (lv' := [(2, .int (nI (i_1))), (3, .int (nI (i_1))), (0, .ref (K 0)), (1, .int (out))]) hx hb dX0_firstHeard_43 rfl hl (by decide) rfl (fun ls hl => ?_)
                refine lv_iinc (v := nI (i_1 + 1)) (lv' := [(3, .int (nI (i_1 + 1))), (2, .int (nI (i_1))), (0, .ref (K 0)), (1, .int (out))]) hx hb dX0_firstHeard_44 hl (k := 1) rfl (inc_1 _) (by decide) rfl (fun ls hl => ?_)
                refine lv_goto (tgt := 4) hx hb dX0_firstHeard_47 (by decide) ?_
                exact ih_8 (i_1 + 1) _ _ (by omega) (by omega) rfl (by rw [bst_win (by simp [c_13, c_14]) eb_17 (by simp [c_19])]; rfl)  ls (lv_sub hl [0, 1, 2, 3] rfl)
  exact LP_5 (cn + 1) 0 _ _ (by omega) (by omega) rfl rfl  ls (lv_sub hl [0, 1, 2, 3] rfl)

set_option maxHeartbeats 1000000 in
set_option maxRecDepth 100000 in
theorem c_X0_placeOnRoll (l : Launch) (D : va_G) (cA : Nat → ClassId) (K : Nat → Nat) (kf : Nat → Nat → Int32) (rw : Nat → Nat) (cn rl : Nat) (q : Nat) (hrl : rl ≤ 10) (hrw : ∀ k, k < rl → rw k < 10) (hq : q < 10) : Met l yX0_placeOnRoll (gw yX0_placeOnRoll cX0_placeOnRoll 3 (some .int)) ({ frames := 0, cells := 0, slots := 0, locals := 0 } : Room) (gPc [.ref (K 0), .int (nI (q))] (fun H => va_P D vwCl (kw cA K kf rw cn rl) H) D cA) (rdI (fun r => r = oI (fnd (fun k => decide (rw k = q)) rl))) 0 0 nF := by
  refine gOf (by decide) (Nat.le_of_ble_eq_true rfl) ?_
  intro p e s m below meth c ls hx hb hml hr hlk hown hts hnm hP hK hl
  have hl : lv_has ls 3 [(0, .ref (K 0)), (1, .int (nI (q)))] := hl
  refine lv_iconst (v := nI (0)) hx hb dX0_placeOnRoll_0 gc_0 ?_
  refine lv_istore_n (lv' := [(2, .int (nI (0))), (0, .ref (K 0)), (1, .int (nI (q)))]) hx hb dX0_placeOnRoll_1 rfl hl (by decide) rfl (fun ls hl => ?_)
  have LP_4 : ∀ (n_2 i_1 : Nat) (x_3 : Int32), i_1 ≤ rl → rl + 1 ≤ i_1 + n_2 → x_3 = nI (i_1) → (fnd (fun k => decide (rw k = q)) (i_1) = none) → ∀ (ls : Array Slot), lv_has ls 3 [(2, .int (x_3)), (0, .ref (K 0)), (1, .int (nI (q)))] → W p l e ({ frames := 0, cells := 0, slots := 0, locals := 0 } : Room) s m ([.ref (K 0), .int (nI (q))] : List Value).toArray below meth c s.heap [] 0 0 (MQ below (rdI (fun r => r = oI (fnd (fun k => decide (rw k = q)) rl))) ([.ref (K 0), .int (nI (q))] : List Value).toArray s 0 0 nF) (F0 m 2 ls []) := by
    intro n_2
    induction n_2 with
    | zero => intro i_1 x_3 h1 h2; exact absurd h2 (by omega)
    | succ n_2 ih_6 =>
      intro i_1 x_3 h_7 h_8 e_5 hv ls hl
      subst e_5
      refine lv_iload_n hx hb dX0_placeOnRoll_2 rfl (lv_at hl 0 rfl) ?_
      refine lv_aload_n hx hb dX0_placeOnRoll_3 rfl (lv_at hl 1 rfl) ?_
      refine g_get (v := .int (nI (rl))) hx hb hts hown hK hP 0 rfl rfl gu_wsX00 10 (by decide) gm_4_3 rfl dX0_placeOnRoll_4 ?_
      refine g_icmp_ge (P := rl ≤ i_1) (tgt := 28) hx hb dX0_placeOnRoll_7 (by decide) (nI_leI (by omega) (by omega)) (fun c_9 => ?_) (fun c_9 => ?_)
      · have d_9 : ¬ i_1 < rl := Nat.not_lt.mpr c_9
        have hN_10 : rl = i_1 := by omega
        subst hN_10
        refine lv_iconst (v := -1) hx hb dX0_placeOnRoll_28 gc_m1 ?_
        exact g_iret (v := -1) hx hb hr hlk dX0_placeOnRoll_29 (by rw [hv]; rfl)
      · have d_9 : i_1 < rl := Nat.not_le.mp c_9
        refine lv_aload_n hx hb dX0_placeOnRoll_10 rfl (lv_at hl 1 rfl) ?_
        refine g_get (v := .ref (K 9)) hx hb hts hown hK hP 0 rfl rfl gu_wsX00 8 (by decide) gm_4_1 rfl dX0_placeOnRoll_11 ?_
        refine lv_iload_n hx hb dX0_placeOnRoll_14 rfl (lv_at hl 0 rfl) ?_
        refine g_iald (x := nI (rw (i_1))) hx hb hK hP 9 rfl (by omega) (by decide) rfl dX0_placeOnRoll_15 ?_
        refine lv_iload_n hx hb dX0_placeOnRoll_16 rfl (lv_at hl 2 rfl) ?_
        have hrk_11 := hrw (i_1) (by omega)
        refine g_icmp_ne (P := rw (i_1) = q) (tgt := 22) hx hb dX0_placeOnRoll_17 (by decide) (nI_eq (by omega) (by omega)) (fun c_12 => ?_) (fun c_12 => ?_)
        · refine lv_iinc (v := nI (i_1 + 1)) (lv' := [(2, .int (nI (i_1 + 1))), (0, .ref (K 0)), (1, .int (nI (q)))]) hx hb dX0_placeOnRoll_22 hl (k := 0) rfl (inc_1 _) (by decide) rfl (fun ls hl => ?_)
          refine lv_goto (tgt := 2) hx hb dX0_placeOnRoll_25 (by decide) ?_
          exact ih_6 (i_1 + 1) _ (by omega) (by omega) rfl (fnd_succ_none hv (by simp [c_9, d_9, c_12] <;> omega)) ls (lv_sub hl [0, 1, 2] rfl)
        · refine lv_iload_n hx hb dX0_placeOnRoll_20 rfl (lv_at hl 0 rfl) ?_
          exact g_iret (v := nI (i_1)) hx hb hr hlk dX0_placeOnRoll_21 (by rw [fnd_stop hv (by simp [c_9, d_9, c_12]) rl (by omega)]; rfl)
  exact LP_4 (rl + 1) 0 _ (by omega) (by omega) rfl rfl ls (lv_sub hl [0, 1, 2] rfl)

