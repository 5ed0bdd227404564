set_option maxHeartbeats 1000000 in
set_option maxRecDepth 100000 in
theorem c_X8_in (l : Launch) (D : va_G) (cA : Nat → ClassId) (v lo hi : Int32)  : Met l yX8_in (gw yX8_in cX8_in 3 (some .boolean)) ({ frames := 0, cells := 0, slots := 0, locals := 0 } : Room) (gPc [.int (v), .int (lo), .int (hi)] (fun H => True) D cA) (rdI (fun r => r = b2i (inB v lo hi))) 0 0 nF := by
  refine gOf (by decide) (Nat.le_of_ble_eq_true rfl) ?_
  intro p e s m below meth c ls hx hb hml hr hlk hown hts hnm hP hK hl
  have hl : lv_has ls 3 [(0, .int (v)), (1, .int (lo)), (2, .int (hi))] := hl
  refine lv_iload_n hx hb dX8_in_0 rfl (lv_at hl 0 rfl) ?_
  refine lv_iload_n hx hb dX8_in_1 rfl (lv_at hl 1 rfl) ?_
  refine g_icmp_lt (P := v < lo) (tgt := 14) hx hb dX8_in_2 (by decide) Iff.rfl (fun c_1 => ?_) (fun c_1 => ?_)
  · have d_1 : ¬ lo ≤ v := Int32.not_le.mpr c_1
    refine lv_iconst (v := nI (0)) hx hb dX8_in_14 gc_0 ?_
    exact g_zret (v := nI (0)) hx hb hr hlk rfl dX8_in_15 (by simp [inB, b2i, c_1, d_1])
  · have d_1 : lo ≤ v := Int32.not_lt.mp c_1
    refine lv_iload_n hx hb dX8_in_5 rfl (lv_at hl 0 rfl) ?_
    refine lv_iload_n hx hb dX8_in_6 rfl (lv_at hl 2 rfl) ?_
    refine g_icmp_gt (P := hi < v) (tgt := 14) hx hb dX8_in_7 (by decide) Iff.rfl (fun c_2 => ?_) (fun c_2 => ?_)
    · have d_2 : ¬ v ≤ hi := Int32.not_le.mpr c_2
      refine lv_iconst (v := nI (0)) hx hb dX8_in_14 gc_0 ?_
      exact g_zret (v := nI (0)) hx hb hr hlk rfl dX8_in_15 (by simp [inB, b2i, c_1, d_1, c_2, d_2])
    · have d_2 : v ≤ hi := Int32.not_lt.mp c_2
      refine lv_iconst (v := nI (1)) hx hb dX8_in_10 gc_1 ?_
      refine lv_goto (tgt := 15) hx hb dX8_in_11 (by decide) ?_
      exact g_zret (v := nI (1)) hx hb hr hlk rfl dX8_in_15 (by simp [inB, b2i, c_1, d_1, c_2, d_2])

set_option maxHeartbeats 1000000 in
set_option maxRecDepth 100000 in
theorem c_X8_has (l : Launch) (D : va_G) (cA : Nat → ClassId) (v : Int32) (k : Nat)  : Met l yX8_has (gw yX8_has cX8_has 2 (some .boolean)) ({ frames := 0, cells := 0, slots := 0, locals := 0 } : Room) (gPc [.int (v), .int (nI (k))] (fun H => True) D cA) (rdI (fun r => r = b2i (hs v k))) 0 0 nF := by
  refine gOf (by decide) (Nat.le_of_ble_eq_true rfl) ?_
  intro p e s m below meth c ls hx hb hml hr hlk hown hts hnm hP hK hl
  have hl : lv_has ls 2 [(0, .int (v)), (1, .int (nI (k)))] := hl
  refine lv_iload_n hx hb dX8_has_0 rfl (lv_at hl 0 rfl) ?_
  refine lv_iload_n hx hb dX8_has_1 rfl (lv_at hl 1 rfl) ?_
  refine lv_ishr hx hb dX8_has_2 ?_
  refine lv_iconst (v := nI (1)) hx hb dX8_has_3 gc_1 ?_
  refine lv_iand hx hb dX8_has_4 ?_
  refine lv_iconst (v := nI (1)) hx hb dX8_has_5 gc_1 ?_
  refine g_icmp_ne (P := ((v) >>> ((nI (k)) &&& 31)) &&& (nI (1)) = nI (1)) (tgt := 13) hx hb dX8_has_6 (by decide) Iff.rfl (fun c_1 => ?_) (fun c_1 => ?_)
  · refine lv_iconst (v := nI (0)) hx hb dX8_has_13 gc_0 ?_
    exact g_zret (v := nI (0)) hx hb hr hlk rfl dX8_has_14 (by simp [hs, b2i, c_1])
  · refine lv_iconst (v := nI (1)) hx hb dX8_has_9 gc_1 ?_
    refine lv_goto (tgt := 14) hx hb dX8_has_10 (by decide) ?_
    exact g_zret (v := nI (1)) hx hb hr hlk rfl dX8_has_14 (by simp [hs, b2i, c_1])

set_option maxHeartbeats 1000000 in
set_option maxRecDepth 100000 in
theorem c_X8_within (l : Launch) (D : va_G) (cA : Nat → ClassId) (v lo hi : Int32)  : Met l yX8_within (gw yX8_within cX8_within 3 (some .int)) ({ frames := 0, cells := 0, slots := 0, locals := 0 } : Room) (gPc [.int (v), .int (lo), .int (hi)] (fun H => True) D cA) (rdI (fun r => r = wi v lo hi)) 0 0 nF := by
  refine gOf (by decide) (Nat.le_of_ble_eq_true rfl) ?_
  intro p e s m below meth c ls hx hb hml hr hlk hown hts hnm hP hK hl
  have hl : lv_has ls 3 [(0, .int (v)), (1, .int (lo)), (2, .int (hi))] := hl
  refine lv_iload_n hx hb dX8_within_0 rfl (lv_at hl 0 rfl) ?_
  refine lv_iload_n hx hb dX8_within_1 rfl (lv_at hl 1 rfl) ?_
  refine g_icmp_ge (P := lo ≤ v) (tgt := 9) hx hb dX8_within_2 (by decide) Iff.rfl (fun c_1 => ?_) (fun c_1 => ?_)
  · have d_1 : ¬ v < lo := Int32.not_lt.mpr c_1
    refine lv_iload_n hx hb dX8_within_9 rfl (lv_at hl 0 rfl) ?_
    refine lv_iload_n hx hb dX8_within_10 rfl (lv_at hl 2 rfl) ?_
    refine g_icmp_le (P := v ≤ hi) (tgt := 18) hx hb dX8_within_11 (by decide) Iff.rfl (fun c_2 => ?_) (fun c_2 => ?_)
    · have d_2 : ¬ hi < v := Int32.not_lt.mpr c_2
      refine lv_iload_n hx hb dX8_within_18 rfl (lv_at hl 0 rfl) ?_
      exact g_iret (v := v) hx hb hr hlk dX8_within_19 (by simp [wi, c_1, d_1, c_2, d_2])
    · have d_2 : hi < v := Int32.not_le.mp c_2
      refine lv_iload_n hx hb dX8_within_14 rfl (lv_at hl 2 rfl) ?_
      refine lv_goto (tgt := 19) hx hb dX8_within_15 (by decide) ?_
      exact g_iret (v := hi) hx hb hr hlk dX8_within_19 (by simp [wi, c_1, d_1, c_2, d_2])
  · have d_1 : v < lo := Int32.not_le.mp c_1
    refine lv_iload_n hx hb dX8_within_5 rfl (lv_at hl 1 rfl) ?_
    refine lv_goto (tgt := 19) hx hb dX8_within_6 (by decide) ?_
    exact g_iret (v := lo) hx hb hr hlk dX8_within_19 (by simp [wi, c_1, d_1])

set_option maxHeartbeats 1000000 in
set_option maxRecDepth 100000 in
theorem c_X8_by (l : Launch) (D : va_G) (cA : Nat → ClassId) (A : Nat → Nat) (x : Nat → Int32) (f : Nat → Nat → Int32) (j w : Nat) (hq : 8 + 4 * j + w < 124) : Met l yX8_by (gw yX8_by cX8_by 3 (some .int)) ({ frames := 0, cells := 0, slots := 0, locals := 0 } : Room) (gPc [.ref (A 0), .int (nI (j)), .int (nI (w))] (fun H => va_P D vwCl (mw cA A x f) H) D cA) (rdI (fun r => r = gby (f 0) j w)) 0 0 nF := by
  refine gOf (by decide) (Nat.le_of_ble_eq_true rfl) ?_
  intro p e s m below meth c ls hx hb hml hr hlk hown hts hnm hP hK hl
  have hl : lv_has ls 3 [(0, .ref (A 0)), (1, .int (nI (j))), (2, .int (nI (w)))] := hl
  refine lv_aload_n hx hb dX8_by_0 rfl (lv_at hl 0 rfl) ?_
  refine g_get (v := .ref (A 1)) hx hb hts hown hK hP 0 rfl rfl gu_wsX80 0 (by decide) gm_5_14 rfl dX8_by_1 ?_
  refine lv_bipush (v := nI (8)) hx hb dX8_by_4 gb_8 ?_
  refine lv_iconst (v := nI (4)) hx hb dX8_by_6 gc_4 ?_
  refine lv_iload_n hx hb dX8_by_7 rfl (lv_at hl 1 rfl) ?_
  refine g_imul hx hb dX8_by_8 ?_
  refine g_iadd hx hb dX8_by_9 ?_
  refine lv_iload_n hx hb dX8_by_10 rfl (lv_at hl 2 rfl) ?_
  refine g_iadd hx hb dX8_by_11 ?_
  refine g_iald (x := f 0 (((8) + (4 * j)) + (w))) hx hb hK hP 1 rfl (by omega) (by decide) rfl dX8_by_12 ?_
  exact g_iret (v := f 0 (((8) + (4 * j)) + (w))) hx hb hr hlk dX8_by_13 (rfl)

set_option maxHeartbeats 1000000 in
set_option maxRecDepth 100000 in
theorem c_X8_of (l : Launch) (D : va_G) (cA : Nat → ClassId) (A : Nat → Nat) (x : Nat → Int32) (f : Nat → Nat → Int32) (q w : Nat) (hq : 44 + 8 * q + w < 124) : Met l yX8_of (gw yX8_of cX8_of 3 (some .int)) ({ frames := 0, cells := 0, slots := 0, locals := 0 } : Room) (gPc [.ref (A 0), .int (nI (q)), .int (nI (w))] (fun H => va_P D vwCl (mw cA A x f) H) D cA) (rdI (fun r => r = gof (f 0) q w)) 0 0 nF := by
  refine gOf (by decide) (Nat.le_of_ble_eq_true rfl) ?_
  intro p e s m below meth c ls hx hb hml hr hlk hown hts hnm hP hK hl
  have hl : lv_has ls 3 [(0, .ref (A 0)), (1, .int (nI (q))), (2, .int (nI (w)))] := hl
  refine lv_aload_n hx hb dX8_of_0 rfl (lv_at hl 0 rfl) ?_
  refine g_get (v := .ref (A 1)) hx hb hts hown hK hP 0 rfl rfl gu_wsX80 0 (by decide) gm_5_14 rfl dX8_of_1 ?_
  refine lv_bipush (v := nI (44)) hx hb dX8_of_4 gb_44 ?_
  refine lv_bipush (v := nI (8)) hx hb dX8_of_6 gb_8 ?_
  refine lv_iload_n hx hb dX8_of_8 rfl (lv_at hl 1 rfl) ?_
  refine g_imul hx hb dX8_of_9 ?_
  refine g_iadd hx hb dX8_of_10 ?_
  refine lv_iload_n hx hb dX8_of_11 rfl (lv_at hl 2 rfl) ?_
  refine g_iadd hx hb dX8_of_12 ?_
  refine g_iald (x := f 0 (((44) + (8 * q)) + (w))) hx hb hK hP 1 rfl (by omega) (by decide) rfl dX8_of_13 ?_
  exact g_iret (v := f 0 (((44) + (8 * q)) + (w))) hx hb hr hlk dX8_of_14 (rfl)

set_option maxHeartbeats 1000000 in
set_option maxRecDepth 100000 in
theorem c_X8_isClosed (l : Launch) (D : va_G) (cA : Nat → ClassId) (A : Nat → Nat) (x : Nat → Int32) (f : Nat → Nat → Int32) (q : Nat) (hq : q < 10) : Met l yX8_isClosed (gw yX8_isClosed cX8_isClosed 2 (some .boolean)) ({ frames := 1, cells := 0, slots := 0, locals := 22 } : Room) (gPc [.ref (A 0), .int (nI (q))] (fun H => va_P D vwCl (mw cA A x f) H) D cA) (rdI (fun r => r = b2i (clM (f 0) q))) 0 0 nF := by
  refine gOf (by decide) (Nat.le_of_ble_eq_true rfl) ?_
  intro p e s m below meth c ls hx hb hml hr hlk hown hts hnm hP hK hl
  have hl : lv_has ls 2 [(0, .ref (A 0)), (1, .int (nI (q)))] := hl
  refine lv_aload_n hx hb dX8_isClosed_0 rfl (lv_at hl 0 rfl) ?_
  refine lv_iload_n hx hb dX8_isClosed_1 rfl (lv_at hl 1 rfl) ?_
  refine lv_iconst (v := nI (5)) hx hb dX8_isClosed_2 gc_5 ?_
  refine rd_calle (va_runV (As := [.int (nI (q)), .int (nI (5))]) (rest := []) ⟨hx, hb, hml, hown, hts⟩ (c_X8_of l D cA A (x) (f) (q) (5) (by omega)) (cwV 2 hts (gWV gm_14_3 gm_14_4 gm_14_5 gm_1_5 gm_14_6) rfl rfl rfl (by decide +kernel) ⟨Nat.le_of_ble_eq_true rfl, Nat.le_of_ble_eq_true rfl⟩) (gPreV hK (g_rf hK hP (ci := 10) (q0 := 0) rfl rfl) hP) rfl rfl hl.1 rfl (lv_room (Nat.le_of_ble_eq_true rfl)) dX8_isClosed_3 ⟨by omega, by omega⟩) ?_
  refine g_if_lt (P := gof (f 0) (q) (5) < 0) (tgt := 13) hx hb dX8_isClosed_6 (by decide) Iff.rfl (fun c_1 => ?_) (fun c_1 => ?_)
  · have d_1 : ¬ 0 ≤ gof (f 0) (q) (5) := Int32.not_le.mpr c_1
    refine lv_iconst (v := nI (0)) hx hb dX8_isClosed_13 gc_0 ?_
    exact g_zret (v := nI (0)) hx hb hr hlk rfl dX8_isClosed_14 (by simp [clM, b2i, c_1, d_1])
  · have d_1 : 0 ≤ gof (f 0) (q) (5) := Int32.not_lt.mp c_1
    refine lv_iconst (v := nI (1)) hx hb dX8_isClosed_9 gc_1 ?_
    refine lv_goto (tgt := 14) hx hb dX8_isClosed_10 (by decide) ?_
    exact g_zret (v := nI (1)) hx hb hr hlk rfl dX8_isClosed_14 (by simp [clM, b2i, c_1, d_1])

def isIx (x : Int32) (n : Nat) : Bool := decide (0 ≤ x.toInt ∧ x.toInt < (n : Int))
theorem isIx_n {x : Int32} {n : Nat} (h : isIx x n = true) (hn : n < 2 ^ 31) : ∃ j : Nat, j < n ∧ x = nI j := vp_in_of (vp_in_iff.mpr (by simpa [isIx] using h)) hn
theorem isIx_t {j n : Nat} (h : j < n) (hn : n < 2 ^ 31) : isIx (nI j) n = true := by simp [isIx, nI_toInt (Nat.lt_trans h hn), h]
theorem isIx_f {x : Int32} {n : Nat} (h : isIx x n = false) : ∀ j : Nat, j < n → n < 2 ^ 31 → x ≠ nI j := fun j hj hn e => by rw [e, isIx_t hj hn] at h; cases h
theorem inB_ix (x : Int32) {n : Nat} (hn : n < 2 ^ 30) : inB x (nI 0) (nI n - nI 1) = isIx x n := by
  have h0 : (nI 0).toInt = 0 := by decide +kernel
  have h1 : (nI n - nI 1).toInt = (n : Int) - 1 := by rw [pk_sub_toInt hn (by decide)]; rfl
  simp only [inB, isIx, Int32.lt_iff_toInt_lt, h0, h1]
  congr 1
  apply propext
  omega

set_option maxHeartbeats 1000000 in
set_option maxRecDepth 100000 in
theorem c_X8_isJuror (l : Launch) (D : va_G) (cA : Nat → ClassId) (A : Nat → Nat) (x : Nat → Int32) (f : Nat → Nat → Int32) (v : Int32) (jn : Nat) (hj : f 0 0 = nI jn) (hjn : jn ≤ 9) : Met l yX8_isJuror (gw yX8_isJuror cX8_isJuror 2 (some .boolean)) ({ frames := 1, cells := 0, slots := 0, locals := 22 } : Room) (gPc [.ref (A 0), .int (v)] (fun H => va_P D vwCl (mw cA A x f) H) D cA) (rdI (fun r => r = b2i (isIx v jn))) 0 0 nF := by
  refine gOf (by decide) (Nat.le_of_ble_eq_true rfl) ?_
  intro p e s m below meth c ls hx hb hml hr hlk hown hts hnm hP hK hl
  have hl : lv_has ls 2 [(0, .ref (A 0)), (1, .int (v))] := hl
  refine lv_iload_n hx hb dX8_isJuror_0 rfl (lv_at hl 1 rfl) ?_
  refine lv_iconst (v := nI (0)) hx hb dX8_isJuror_1 gc_0 ?_
  refine lv_aload_n hx hb dX8_isJuror_2 rfl (lv_at hl 0 rfl) ?_
  refine g_get (v := .ref (A 1)) hx hb hts hown hK hP 0 rfl rfl gu_wsX80 0 (by decide) gm_5_14 rfl dX8_isJuror_3 ?_
  refine lv_iconst (v := nI (0)) hx hb dX8_isJuror_6 gc_0 ?_
  refine g_iald (x := nI (jn)) hx hb hK hP 1 rfl (by omega) (by decide) hj dX8_isJuror_7 ?_
  refine lv_iconst (v := nI (1)) hx hb dX8_isJuror_8 gc_1 ?_
  refine lv_isub hx hb dX8_isJuror_9 ?_
  refine rd_calle (va_runS (As := [.int (v), .int (nI (0)), .int ((nI (jn)) - (nI (1)))]) (rest := []) ⟨hx, hb, hml, hown, hts⟩ (c_X8_in l D cA (v) (nI (0)) ((nI (jn)) - (nI (1)))) (cwS 3 hts (gWS gm_8_20 gm_8_21 gm_1_5 gm_8_22) rfl rfl rfl (by decide +kernel) ⟨Nat.le_of_ble_eq_true rfl, Nat.le_of_ble_eq_true rfl⟩) (gPreS hK trivial) rfl rfl hl.1 rfl (lv_room (Nat.le_of_ble_eq_true rfl)) dX8_isJuror_10 ⟨by omega, by omega⟩) ?_
  exact g_zret (v := b2i (inB (v) (nI (0)) ((nI (jn)) - (nI (1))))) hx hb hr hlk b2i_n dX8_isJuror_13 (by rw [inB_ix v (by omega)])

set_option maxHeartbeats 1000000 in
set_option maxRecDepth 100000 in
theorem c_X8_isCase (l : Launch) (D : va_G) (cA : Nat → ClassId) (A : Nat → Nat) (x : Nat → Int32) (f : Nat → Nat → Int32) (v : Int32) (cn : Nat) (hc : f 0 1 = nI cn) (hcn : cn ≤ 10) : Met l yX8_isCase (gw yX8_isCase cX8_isCase 2 (some .boolean)) ({ frames := 1, cells := 0, slots := 0, locals := 22 } : Room) (gPc [.ref (A 0), .int (v)] (fun H => va_P D vwCl (mw cA A x f) H) D cA) (rdI (fun r => r = b2i (isIx v cn))) 0 0 nF := by
  refine gOf (by decide) (Nat.le_of_ble_eq_true rfl) ?_
  intro p e s m below meth c ls hx hb hml hr hlk hown hts hnm hP hK hl
  have hl : lv_has ls 2 [(0, .ref (A 0)), (1, .int (v))] := hl
  refine lv_iload_n hx hb dX8_isCase_0 rfl (lv_at hl 1 rfl) ?_
  refine lv_iconst (v := nI (0)) hx hb dX8_isCase_1 gc_0 ?_
  refine lv_aload_n hx hb dX8_isCase_2 rfl (lv_at hl 0 rfl) ?_
  refine g_get (v := .ref (A 1)) hx hb hts hown hK hP 0 rfl rfl gu_wsX80 0 (by decide) gm_5_14 rfl dX8_isCase_3 ?_
  refine lv_iconst (v := nI (1)) hx hb dX8_isCase_6 gc_1 ?_
  refine g_iald (x := nI (cn)) hx hb hK hP 1 rfl (by omega) (by decide) hc dX8_isCase_7 ?_
  refine lv_iconst (v := nI (1)) hx hb dX8_isCase_8 gc_1 ?_
  refine lv_isub hx hb dX8_isCase_9 ?_
  refine rd_calle (va_runS (As := [.int (v), .int (nI (0)), .int ((nI (cn)) - (nI (1)))]) (rest := []) ⟨hx, hb, hml, hown, hts⟩ (c_X8_in l D cA (v) (nI (0)) ((nI (cn)) - (nI (1)))) (cwS 3 hts (gWS gm_8_20 gm_8_21 gm_1_5 gm_8_22) rfl rfl rfl (by decide +kernel) ⟨Nat.le_of_ble_eq_true rfl, Nat.le_of_ble_eq_true rfl⟩) (gPreS hK trivial) rfl rfl hl.1 rfl (lv_room (Nat.le_of_ble_eq_true rfl)) dX8_isCase_10 ⟨by omega, by omega⟩) ?_
  exact g_zret (v := b2i (inB (v) (nI (0)) ((nI (cn)) - (nI (1))))) hx hb hr hlk b2i_n dX8_isCase_13 (by rw [inB_ix v (by omega)])

set_option maxHeartbeats 1000000 in
set_option maxRecDepth 100000 in
theorem c_X8_loadOf (l : Launch) (D : va_G) (cA : Nat → ClassId) (A : Nat → Nat) (x : Nat → Int32) (f : Nat → Nat → Int32) (j cn : Nat) (hc : f 0 1 = nI cn) (hcn : cn ≤ 10) : Met l yX8_loadOf (gw yX8_loadOf cX8_loadOf 4 (some .int)) ({ frames := 2, cells := 0, slots := 0, locals := 43 } : Room) (gPc [.ref (A 0), .int (nI (j))] (fun H => va_P D vwCl (mw cA A x f) H) D cA) (rdI (fun r => r = nI (ldM (f 0) cn j))) 0 0 nF := by
  refine gOf (by decide) (Nat.le_of_ble_eq_true rfl) ?_
  intro p e s m below meth c ls hx hb hml hr hlk hown hts hnm hP hK hl
  have hl : lv_has ls 4 [(0, .ref (A 0)), (1, .int (nI (j)))] := hl
  refine lv_iconst (v := nI (0)) hx hb dX8_loadOf_0 gc_0 ?_
  refine lv_istore_n (lv' := [(2, .int (nI (0))), (0, .ref (A 0)), (1, .int (nI (j)))]) hx hb dX8_loadOf_1 rfl hl (by decide) rfl (fun ls hl => ?_)
  refine lv_iconst (v := nI (0)) hx hb dX8_loadOf_2 gc_0 ?_
  refine lv_istore_n (lv' := [(3, .int (nI (0))), (2, .int (nI (0))), (0, .ref (A 0)), (1, .int (nI (j)))]) hx hb dX8_loadOf_3 rfl hl (by decide) rfl (fun ls hl => ?_)
  have LP_5 : ∀ (n_2 i_1 : Nat) (x_3 x_4 : Int32), i_1 ≤ cn → cn + 1 ≤ i_1 + n_2 → x_3 = nI (i_1) → x_4 = nI (fb_ct (fun k => !clM (f 0) k && hs (gof (f 0) k 2) (j)) i_1) → ∀ (ls : Array Slot), lv_has ls 4 [(3, .int (x_3)), (2, .int (x_4)), (0, .ref (A 0)), (1, .int (nI (j)))] → W p l e ({ frames := 2, cells := 0, slots := 0, locals := 43 } : Room) s m ([.ref (A 0), .int (nI (j))] : List Value).toArray below meth c s.heap [] 0 0 (MQ below (rdI (fun r => r = nI (ldM (f 0) cn j))) ([.ref (A 0), .int (nI (j))] : List Value).toArray s 0 0 nF) (F0 m 4 ls []) := by
    intro n_2
    induction n_2 with
    | zero => intro i_1 x_3 x_4 h1 h2; exact absurd h2 (by omega)
    | succ n_2 ih_8 =>
      intro i_1 x_3 x_4 h_9 h_10 e_6 e_7  ls hl
      subst e_6
      subst e_7
      refine lv_iload_n hx hb dX8_loadOf_4 rfl (lv_at hl 0 rfl) ?_
      refine lv_aload_n hx hb dX8_loadOf_5 rfl (lv_at hl 2 rfl) ?_
      refine g_get (v := .ref (A 1)) hx hb hts hown hK hP 0 rfl rfl gu_wsX80 0 (by decide) gm_5_14 rfl dX8_loadOf_6 ?_
      refine lv_iconst (v := nI (1)) hx hb dX8_loadOf_9 gc_1 ?_
      refine g_iald (x := nI (cn)) hx hb hK hP 1 rfl (by omega) (by decide) hc dX8_loadOf_10 ?_
      refine g_icmp_ge (P := cn ≤ i_1) (tgt := 49) hx hb dX8_loadOf_11 (by decide) (nI_leI (by omega) (by omega)) (fun c_11 => ?_) (fun c_11 => ?_)
      · have d_11 : ¬ i_1 < cn := Nat.not_lt.mpr c_11
        have hN_12 : cn = i_1 := by omega
        subst hN_12
        refine lv_iload_n hx hb dX8_loadOf_49 rfl (lv_at hl 1 rfl) ?_
        exact g_iret (v := nI (fb_ct (fun k => !clM (f 0) k && hs (gof (f 0) k 2) (j)) (cn))) hx hb hr hlk dX8_loadOf_50 (rfl)
      · have d_11 : i_1 < cn := Nat.not_le.mp c_11
        refine lv_iload_n hx hb dX8_loadOf_14 rfl (lv_at hl 1 rfl) ?_
        refine lv_aload_n hx hb dX8_loadOf_15 rfl (lv_at hl 2 rfl) ?_
        refine lv_iload_n hx hb dX8_loadOf_16 rfl (lv_at hl 0 rfl) ?_
        refine rd_calle (va_runV (As := [.int (nI (i_1))]) (rest := [.int (nI (fb_ct (fun k => !clM (f 0) k && hs (gof (f 0) k 2) (j)) i_1))]) ⟨hx, hb, hml, hown, hts⟩ (c_X8_isClosed l D cA A (x) (f) (i_1) (by omega)) (cwV 1 hts (gWV gm_14_17 gm_14_18 gm_14_19 gm_1_5 gm_14_20) rfl rfl rfl (by decide +kernel) ⟨Nat.le_of_ble_eq_true rfl, Nat.le_of_ble_eq_true rfl⟩) (gPreV hK (g_rf hK hP (ci := 10) (q0 := 0) rfl rfl) hP) rfl rfl hl.1 rfl (lv_room (Nat.le_of_ble_eq_true rfl)) dX8_loadOf_17 ⟨by omega, by omega⟩) ?_
        refine g_if_ne (P := clM (f 0) (i_1) = false) (tgt := 40) hx hb dX8_loadOf_20 (by decide) b2i_0 (fun c_13 => ?_) (fun c_13 => ?_)
        · have c_13 : clM (f 0) (i_1) = true := eq_true_of_ne_false c_13
          refine lv_iconst (v := nI (0)) hx hb dX8_loadOf_40 gc_0 ?_
          refine g_iadd hx hb dX8_loadOf_41 ?_
          refine lv_istore_n (lv' := [(2, .int (nI ((fb_ct (fun k => !clM (f 0) k && hs (gof (f 0) k 2) (j)) i_1) + (0)))), (3, .int (nI (i_1))), (0, .ref (A 0)), (1, .int (nI (j)))]) hx hb dX8_loadOf_42 rfl hl (by decide) rfl (fun ls hl => ?_)
          refine lv_iinc (v := nI (i_1 + 1)) (lv' := [(3, .int (nI (i_1 + 1))), (2, .int (nI ((fb_ct (fun k => !clM (f 0) k && hs (gof (f 0) k 2) (j)) i_1) + (0)))), (0, .ref (A 0)), (1, .int (nI (j)))]) hx hb dX8_loadOf_43 hl (k := 1) rfl (inc_1 _) (by decide) rfl (fun ls hl => ?_)
          refine lv_goto (tgt := 4) hx hb dX8_loadOf_46 (by decide) ?_
          exact ih_8 (i_1 + 1) _ _ (by omega) (by omega) rfl (by simp [fb_ct_succ, c_11, d_11, c_13])  ls (lv_sub hl [0, 1, 2, 3] rfl)
        · refine lv_aload_n hx hb dX8_loadOf_23 rfl (lv_at hl 2 rfl) ?_
          refine lv_iload_n hx hb dX8_loadOf_24 rfl (lv_at hl 0 rfl) ?_
          refine lv_iconst (v := nI (2)) hx hb dX8_loadOf_25 gc_2 ?_
          refine rd_calle (va_runV (As := [.int (nI (i_1)), .int (nI (2))]) (rest := [.int (nI (fb_ct (fun k => !clM (f 0) k && hs (gof (f 0) k 2) (j)) i_1))]) ⟨hx, hb, hml, hown, hts⟩ (c_X8_of l D cA A (x) (f) (i_1) (2) (by omega)) (cwV 2 hts (gWV gm_14_3 gm_14_4 gm_14_5 gm_1_5 gm_14_6) rfl rfl rfl (by decide +kernel) ⟨Nat.le_of_ble_eq_true rfl, Nat.le_of_ble_eq_true rfl⟩) (gPreV hK (g_rf hK hP (ci := 10) (q0 := 0) rfl rfl) hP) rfl rfl hl.1 rfl (lv_room (Nat.le_of_ble_eq_true rfl)) dX8_loadOf_26 ⟨by omega, by omega⟩) ?_
          refine lv_iload_n hx hb dX8_loadOf_29 rfl (lv_at hl 3 rfl) ?_
          refine rd_calle (va_runS (As := [.int (gof (f 0) (i_1) (2)), .int (nI (j))]) (rest := [.int (nI (fb_ct (fun k => !clM (f 0) k && hs (gof (f 0) k 2) (j)) i_1))]) ⟨hx, hb, hml, hown, hts⟩ (c_X8_has l D cA (gof (f 0) (i_1) (2)) (j)) (cwS 2 hts (gWS gm_14_10 gm_14_11 gm_1_5 gm_14_12) rfl rfl rfl (by decide +kernel) ⟨Nat.le_of_ble_eq_true rfl, Nat.le_of_ble_eq_true rfl⟩) (gPreS hK trivial) rfl rfl hl.1 rfl (lv_room (Nat.le_of_ble_eq_true rfl)) dX8_loadOf_30 ⟨by omega, by omega⟩) ?_
          refine g_if_eq (P := hs (gof (f 0) (i_1) (2)) (j) = false) (tgt := 40) hx hb dX8_loadOf_33 (by decide) b2i_0 (fun c_14 => ?_) (fun c_14 => ?_)
          · refine lv_iconst (v := nI (0)) hx hb dX8_loadOf_40 gc_0 ?_
            refine g_iadd hx hb dX8_loadOf_41 ?_
            refine lv_istore_n (lv' := [(2, .int (nI ((fb_ct (fun k => !clM (f 0) k && hs (gof (f 0) k 2) (j)) i_1) + (0)))), (3, .int (nI (i_1))), (0, .ref (A 0)), (1, .int (nI (j)))]) hx hb dX8_loadOf_42 rfl hl (by decide) rfl (fun ls hl => ?_)
            refine lv_iinc (v := nI (i_1 + 1)) (lv' := [(3, .int (nI (i_1 + 1))), (2, .int (nI ((fb_ct (fun k => !clM (f 0) k && hs (gof (f 0) k 2) (j)) i_1) + (0)))), (0, .ref (A 0)), (1, .int (nI (j)))]) hx hb dX8_loadOf_43 hl (k := 1) rfl (inc_1 _) (by decide) rfl (fun ls hl => ?_)
            refine lv_goto (tgt := 4) hx hb dX8_loadOf_46 (by decide) ?_
            exact ih_8 (i_1 + 1) _ _ (by omega) (by omega) rfl (by simp [fb_ct_succ, c_11, d_11, c_13, c_14])  ls (lv_sub hl [0, 1, 2, 3] rfl)
          · have c_14 : hs (gof (f 0) (i_1) (2)) (j) = true := eq_true_of_ne_false c_14
            refine lv_iconst (v := nI (1)) hx hb dX8_loadOf_36 gc_1 ?_
            refine lv_goto (tgt := 41) hx hb dX8_loadOf_37 (by decide) ?_
            refine g_iadd hx hb dX8_loadOf_41 ?_
            refine lv_istore_n (lv' := [(2, .int (nI ((fb_ct (fun k => !clM (f 0) k && hs (gof (f 0) k 2) (j)) i_1) + (1)))), (3, .int (nI (i_1))), (0, .ref (A 0)), (1, .int (nI (j)))]) hx hb dX8_loadOf_42 rfl hl (by decide) rfl (fun ls hl => ?_)
            refine lv_iinc (v := nI (i_1 + 1)) (lv' := [(3, .int (nI (i_1 + 1))), (2, .int (nI ((fb_ct (fun k => !clM (f 0) k && hs (gof (f 0) k 2) (j)) i_1) + (1)))), (0, .ref (A 0)), (1, .int (nI (j)))]) hx hb dX8_loadOf_43 hl (k := 1) rfl (inc_1 _) (by decide) rfl (fun ls hl => ?_)
            refine lv_goto (tgt := 4) hx hb dX8_loadOf_46 (by decide) ?_
            exact ih_8 (i_1 + 1) _ _ (by omega) (by omega) rfl (by simp [fb_ct_succ, c_11, d_11, c_13, c_14])  ls (lv_sub hl [0, 1, 2, 3] rfl)
  exact LP_5 (cn + 1) 0 _ _ (by omega) (by omega) rfl rfl  ls (lv_sub hl [0, 1, 2, 3] rfl)

set_option maxHeartbeats 1000000 in
set_option maxRecDepth 100000 in
theorem c_X8_isEarlier (l : Launch) (D : va_G) (cA : Nat → ClassId) (A : Nat → Nat) (x : Nat → Int32) (f : Nat → Nat → Int32) (a b cn : Nat) (hc : f 0 1 = nI cn) (hcn : cn ≤ 10) (ha : a < 9) (hb_ : b < 9) : Met l yX8_isEarlier (gw yX8_isEarlier cX8_isEarlier 5 (some .boolean)) ({ frames := 3, cells := 0, slots := 0, locals := 66 } : Room) (gPc [.ref (A 0), .int (nI (a)), .int (nI (b))] (fun H => va_P D vwCl (mw cA A x f) H) D cA) (rdI (fun r => r = b2i (erM (f 0) cn a b))) 0 0 nF := by
  refine gOf (by decide) (Nat.le_of_ble_eq_true rfl) ?_
  intro p e s m below meth c ls hx hb hml hr hlk hown hts hnm hP hK hl
  have hl : lv_has ls 5 [(0, .ref (A 0)), (1, .int (nI (a))), (2, .int (nI (b)))] := hl
  refine lv_aload_n hx hb dX8_isEarlier_0 rfl (lv_at hl 0 rfl) ?_
  refine lv_iload_n hx hb dX8_isEarlier_1 rfl (lv_at hl 1 rfl) ?_
  refine rd_calle (va_runV (As := [.int (nI (a))]) (rest := []) ⟨hx, hb, hml, hown, hts⟩ (c_X8_loadOf l D cA A (x) (f) (a) cn hc hcn) (cwV 1 hts (gWV gm_14_13 gm_14_14 gm_14_15 gm_1_5 gm_14_16) rfl rfl rfl (by decide +kernel) ⟨Nat.le_of_ble_eq_true rfl, Nat.le_of_ble_eq_true rfl⟩) (gPreV hK (g_rf hK hP (ci := 10) (q0 := 0) rfl rfl) hP) rfl rfl hl.1 rfl (lv_room (Nat.le_of_ble_eq_true rfl)) dX8_isEarlier_2 ⟨by omega, by omega⟩) ?_
  refine lv_aload_n hx hb dX8_isEarlier_5 rfl (lv_at hl 0 rfl) ?_
  refine lv_iload_n hx hb dX8_isEarlier_6 rfl (lv_at hl 2 rfl) ?_
  refine rd_calle (va_runV (As := [.int (nI (b))]) (rest := [.int (nI (ldM (f 0) cn (a)))]) ⟨hx, hb, hml, hown, hts⟩ (c_X8_loadOf l D cA A (x) (f) (b) cn hc hcn) (cwV 1 hts (gWV gm_14_13 gm_14_14 gm_14_15 gm_1_5 gm_14_16) rfl rfl rfl (by decide +kernel) ⟨Nat.le_of_ble_eq_true rfl, Nat.le_of_ble_eq_true rfl⟩) (gPreV hK (g_rf hK hP (ci := 10) (q0 := 0) rfl rfl) hP) rfl rfl hl.1 rfl (lv_room (Nat.le_of_ble_eq_true rfl)) dX8_isEarlier_7 ⟨by omega, by omega⟩) ?_
  refine lv_isub hx hb dX8_isEarlier_10 ?_
  refine lv_istore_n (lv' := [(3, .int ((nI (ldM (f 0) cn (a))) - (nI (ldM (f 0) cn (b))))), (0, .ref (A 0)), (1, .int (nI (a))), (2, .int (nI (b)))]) hx hb dX8_isEarlier_11 rfl hl (by decide) rfl (fun ls hl => ?_)
  refine lv_iload_n hx hb dX8_isEarlier_12 rfl (lv_at hl 0 rfl) ?_
  refine g_if_eq (P := (nI (ldM (f 0) cn (a))) - (nI (ldM (f 0) cn (b))) = 0) (tgt := 26) hx hb dX8_isEarlier_13 (by decide) Iff.rfl (fun c_1 => ?_) (fun c_1 => ?_)
  · refine lv_aload_n hx hb dX8_isEarlier_26 rfl (lv_at hl 1 rfl) ?_
    refine lv_iload_n hx hb dX8_isEarlier_27 rfl (lv_at hl 2 rfl) ?_
    refine lv_iconst (v := nI (1)) hx hb dX8_isEarlier_28 gc_1 ?_
    refine rd_calle (va_runV (As := [.int (nI (a)), .int (nI (1))]) (rest := []) ⟨hx, hb, hml, hown, hts⟩ (c_X8_by l D cA A (x) (f) (a) (1) (by omega)) (cwV 2 hts (gWV gm_15_9 gm_15_10 gm_15_11 gm_1_5 gm_15_12) rfl rfl rfl (by decide +kernel) ⟨Nat.le_of_ble_eq_true rfl, Nat.le_of_ble_eq_true rfl⟩) (gPreV hK (g_rf hK hP (ci := 10) (q0 := 0) rfl rfl) hP) rfl rfl hl.1 rfl (lv_room (Nat.le_of_ble_eq_true rfl)) dX8_isEarlier_29 ⟨by omega, by omega⟩) ?_
    refine lv_aload_n hx hb dX8_isEarlier_32 rfl (lv_at hl 1 rfl) ?_
    refine lv_iload_n hx hb dX8_isEarlier_33 rfl (lv_at hl 3 rfl) ?_
    refine lv_iconst (v := nI (1)) hx hb dX8_isEarlier_34 gc_1 ?_
    refine rd_calle (va_runV (As := [.int (nI (b)), .int (nI (1))]) (rest := [.int (gby (f 0) (a) (1))]) ⟨hx, hb, hml, hown, hts⟩ (c_X8_by l D cA A (x) (f) (b) (1) (by omega)) (cwV 2 hts (gWV gm_15_9 gm_15_10 gm_15_11 gm_1_5 gm_15_12) rfl rfl rfl (by decide +kernel) ⟨Nat.le_of_ble_eq_true rfl, Nat.le_of_ble_eq_true rfl⟩) (gPreV hK (g_rf hK hP (ci := 10) (q0 := 0) rfl rfl) hP) rfl rfl hl.1 rfl (lv_room (Nat.le_of_ble_eq_true rfl)) dX8_isEarlier_35 ⟨by omega, by omega⟩) ?_
    refine lv_isub hx hb dX8_isEarlier_38 ?_
    refine lv_istore (lv' := [(4, .int ((gby (f 0) (a) (1)) - (gby (f 0) (b) (1)))), (3, .int ((nI (ldM (f 0) cn (a))) - (nI (ldM (f 0) cn (b))))), (0, .ref (A 0)), (1, .int (nI (a))), (2, .int (nI (b)))]) hx hb dX8_isEarlier_39 hl (by decide) rfl (fun ls hl => ?_)
    refine lv_iload hx hb dX8_isEarlier_41 (lv_at hl 0 rfl) ?_
    refine g_if_lt (P := (gby (f 0) (a) (1)) - (gby (f 0) (b) (1)) < 0) (tgt := 56) hx hb dX8_isEarlier_43 (by decide) Iff.rfl (fun c_2 => ?_) (fun c_2 => ?_)
    · have d_2 : ¬ 0 ≤ (gby (f 0) (a) (1)) - (gby (f 0) (b) (1)) := Int32.not_le.mpr c_2
      refine lv_iconst (v := nI (1)) hx hb dX8_isEarlier_56 gc_1 ?_
      refine lv_goto (tgt := 61) hx hb dX8_isEarlier_57 (by decide) ?_
      exact g_zret (v := nI (1)) hx hb hr hlk rfl dX8_isEarlier_61 (by simp [erM, b2i, c_1, c_2, d_2] <;> omega)
    · have d_2 : 0 ≤ (gby (f 0) (a) (1)) - (gby (f 0) (b) (1)) := Int32.not_lt.mp c_2
      refine lv_iload hx hb dX8_isEarlier_46 (lv_at hl 0 rfl) ?_
      refine g_if_ne (P := (gby (f 0) (a) (1)) - (gby (f 0) (b) (1)) = 0) (tgt := 60) hx hb dX8_isEarlier_48 (by decide) Iff.rfl (fun c_3 => ?_) (fun c_3 => ?_)
      · refine lv_iconst (v := nI (0)) hx hb dX8_isEarlier_60 gc_0 ?_
        exact g_zret (v := nI (0)) hx hb hr hlk rfl dX8_isEarlier_61 (by simp [erM, b2i, c_1, c_2, d_2, c_3] <;> omega)
      · refine lv_iload_n hx hb dX8_isEarlier_51 rfl (lv_at hl 3 rfl) ?_
        refine lv_iload_n hx hb dX8_isEarlier_52 rfl (lv_at hl 4 rfl) ?_
        refine g_icmp_ge (P := b ≤ a) (tgt := 60) hx hb dX8_isEarlier_53 (by decide) (nI_leI (by omega) (by omega)) (fun c_4 => ?_) (fun c_4 => ?_)
        · have d_4 : ¬ a < b := Nat.not_lt.mpr c_4
          refine lv_iconst (v := nI (0)) hx hb dX8_isEarlier_60 gc_0 ?_
          exact g_zret (v := nI (0)) hx hb hr hlk rfl dX8_isEarlier_61 (by simp [erM, b2i, c_1, c_2, d_2, c_3, c_4, d_4] <;> omega)
        · have d_4 : a < b := Nat.not_le.mp c_4
          refine lv_iconst (v := nI (1)) hx hb dX8_isEarlier_56 gc_1 ?_
          refine lv_goto (tgt := 61) hx hb dX8_isEarlier_57 (by decide) ?_
          exact g_zret (v := nI (1)) hx hb hr hlk rfl dX8_isEarlier_61 (by simp [erM, b2i, c_1, c_2, d_2, c_3, c_4, d_4] <;> omega)
  · refine lv_iload_n hx hb dX8_isEarlier_16 rfl (lv_at hl 0 rfl) ?_
    refine g_if_ge (P := 0 ≤ (nI (ldM (f 0) cn (a))) - (nI (ldM (f 0) cn (b)))) (tgt := 24) hx hb dX8_isEarlier_17 (by decide) Iff.rfl (fun c_5 => ?_) (fun c_5 => ?_)
    · have d_5 : ¬ (nI (ldM (f 0) cn (a))) - (nI (ldM (f 0) cn (b))) < 0 := Int32.not_lt.mpr c_5
      refine lv_iconst (v := nI (0)) hx hb dX8_isEarlier_24 gc_0 ?_
      exact g_zret (v := nI (0)) hx hb hr hlk rfl dX8_isEarlier_25 (by simp [erM, b2i, c_1, c_5, d_5] <;> omega)
    · have d_5 : (nI (ldM (f 0) cn (a))) - (nI (ldM (f 0) cn (b))) < 0 := Int32.not_le.mp c_5
      refine lv_iconst (v := nI (1)) hx hb dX8_isEarlier_20 gc_1 ?_
      refine lv_goto (tgt := 25) hx hb dX8_isEarlier_21 (by decide) ?_
      exact g_zret (v := nI (1)) hx hb hr hlk rfl dX8_isEarlier_25 (by simp [erM, b2i, c_1, c_5, d_5] <;> omega)

set_option maxHeartbeats 1000000 in
set_option maxRecDepth 100000 in
theorem c_X8_callables (l : Launch) (D : va_G) (cA : Nat → ClassId) (A : Nat → Nat) (x : Nat → Int32) (f : Nat → Nat → Int32) (v : Int32) (jn cn : Nat) (hj : f 0 0 = nI jn) (hjn : jn ≤ 9) (hc : f 0 1 = nI cn) (hcn : cn ≤ 10) : Met l yX8_callables (gw yX8_callables cX8_callables 4 (some .int)) ({ frames := 3, cells := 0, slots := 0, locals := 66 } : Room) (gPc [.ref (A 0), .int (v)] (fun H => va_P D vwCl (mw cA A x f) H) D cA) (rdI (fun r => r = nI (cbM (f 0) jn cn v))) 0 0 nF := by
  refine gOf (by decide) (Nat.le_of_ble_eq_true rfl) ?_
  intro p e s m below meth c ls hx hb hml hr hlk hown hts hnm hP hK hl
  have hl : lv_has ls 4 [(0, .ref (A 0)), (1, .int (v))] := hl
  refine lv_iconst (v := nI (0)) hx hb dX8_callables_0 gc_0 ?_
  refine lv_istore_n (lv' := [(2, .int (nI (0))), (0, .ref (A 0)), (1, .int (v))]) hx hb dX8_callables_1 rfl hl (by decide) rfl (fun ls hl => ?_)
  refine lv_iconst (v := nI (0)) hx hb dX8_callables_2 gc_0 ?_
  refine lv_istore_n (lv' := [(3, .int (nI (0))), (2, .int (nI (0))), (0, .ref (A 0)), (1, .int (v))]) hx hb dX8_callables_3 rfl hl (by decide) rfl (fun ls hl => ?_)
  have LP_5 : ∀ (n_2 i_1 : Nat) (x_3 x_4 : Int32), i_1 ≤ jn → jn + 1 ≤ i_1 + n_2 → x_3 = nI (i_1) → x_4 = nI (fb_ct (cdM (f 0) cn v) i_1) → ∀ (ls : Array Slot), lv_has ls 4 [(3, .int (x_3)), (2, .int (x_4)), (0, .ref (A 0)), (1, .int (v))] → W p l e ({ frames := 3, cells := 0, slots := 0, locals := 66 } : Room) s m ([.ref (A 0), .int (v)] : List Value).toArray below meth c s.heap [] 0 0 (MQ below (rdI (fun r => r = nI (cbM (f 0) jn cn v))) ([.ref (A 0), .int (v)] : List Value).toArray s 0 0 nF) (F0 m 4 ls []) := by
    intro n_2
    induction n_2 with
    | zero => intro i_1 x_3 x_4 h1 h2; exact absurd h2 (by omega)
    | succ n_2 ih_8 =>
      intro i_1 x_3 x_4 h_9 h_10 e_6 e_7  ls hl
      subst e_6
      subst e_7
      refine lv_iload_n hx hb dX8_callables_4 rfl (lv_at hl 0 rfl) ?_
      refine lv_aload_n hx hb dX8_callables_5 rfl (lv_at hl 2 rfl) ?_
      refine g_get (v := .ref (A 1)) hx hb hts hown hK hP 0 rfl rfl gu_wsX80 0 (by decide) gm_5_14 rfl dX8_callables_6 ?_
      refine lv_iconst (v := nI (0)) hx hb dX8_callables_9 gc_0 ?_
      refine g_iald (x := nI (jn)) hx hb hK hP 1 rfl (by omega) (by decide) hj dX8_callables_10 ?_
      refine g_icmp_ge (P := jn ≤ i_1) (tgt := 45) hx hb dX8_callables_11 (by decide) (nI_leI (by omega) (by omega)) (fun c_11 => ?_) (fun c_11 => ?_)
      · have d_11 : ¬ i_1 < jn := Nat.not_lt.mpr c_11
        have hN_12 : jn = i_1 := by omega
        subst hN_12
        refine lv_iload_n hx hb dX8_callables_45 rfl (lv_at hl 1 rfl) ?_
        exact g_iret (v := nI (fb_ct (cdM (f 0) cn v) (jn))) hx hb hr hlk dX8_callables_46 (rfl)
      · have d_11 : i_1 < jn := Nat.not_le.mp c_11
        refine lv_iload_n hx hb dX8_callables_14 rfl (lv_at hl 1 rfl) ?_
        refine lv_iload_n hx hb dX8_callables_15 rfl (lv_at hl 3 rfl) ?_
        refine lv_iload_n hx hb dX8_callables_16 rfl (lv_at hl 0 rfl) ?_
        refine rd_calle (va_runS (As := [.int (v), .int (nI (i_1))]) (rest := [.int (nI (fb_ct (cdM (f 0) cn v) i_1))]) ⟨hx, hb, hml, hown, hts⟩ (c_X8_has l D cA (v) (i_1)) (cwS 2 hts (gWS gm_14_10 gm_14_11 gm_1_5 gm_14_12) rfl rfl rfl (by decide +kernel) ⟨Nat.le_of_ble_eq_true rfl, Nat.le_of_ble_eq_true rfl⟩) (gPreS hK trivial) rfl rfl hl.1 rfl (lv_room (Nat.le_of_ble_eq_true rfl)) dX8_callables_17 ⟨by omega, by omega⟩) ?_
        refine g_if_ne (P := hs (v) (i_1) = false) (tgt := 36) hx hb dX8_callables_20 (by decide) b2i_0 (fun c_13 => ?_) (fun c_13 => ?_)
        · have c_13 : hs (v) (i_1) = true := eq_true_of_ne_false c_13
          refine lv_iconst (v := nI (0)) hx hb dX8_callables_36 gc_0 ?_
          refine g_iadd hx hb dX8_callables_37 ?_
          refine lv_istore_n (lv' := [(2, .int (nI ((fb_ct (cdM (f 0) cn v) i_1) + (0)))), (3, .int (nI (i_1))), (0, .ref (A 0)), (1, .int (v))]) hx hb dX8_callables_38 rfl hl (by decide) rfl (fun ls hl => ?_)
          refine lv_iinc (v := nI (i_1 + 1)) (lv' := [(3, .int (nI (i_1 + 1))), (2, .int (nI ((fb_ct (cdM (f 0) cn v) i_1) + (0)))), (0, .ref (A 0)), (1, .int (v))]) hx hb dX8_callables_39 hl (k := 1) rfl (inc_1 _) (by decide) rfl (fun ls hl => ?_)
          refine lv_goto (tgt := 4) hx hb dX8_callables_42 (by decide) ?_
          exact ih_8 (i_1 + 1) _ _ (by omega) (by omega) rfl (by simp [fb_ct_succ, cdM, c_11, d_11, c_13] <;> omega)  ls (lv_sub hl [0, 1, 2, 3] rfl)
        · refine lv_aload_n hx hb dX8_callables_23 rfl (lv_at hl 2 rfl) ?_
          refine lv_iload_n hx hb dX8_callables_24 rfl (lv_at hl 0 rfl) ?_
          refine rd_calle (va_runV (As := [.int (nI (i_1))]) (rest := [.int (nI (fb_ct (cdM (f 0) cn v) i_1))]) ⟨hx, hb, hml, hown, hts⟩ (c_X8_loadOf l D cA A (x) (f) (i_1) cn hc hcn) (cwV 1 hts (gWV gm_14_13 gm_14_14 gm_14_15 gm_1_5 gm_14_16) rfl rfl rfl (by decide +kernel) ⟨Nat.le_of_ble_eq_true rfl, Nat.le_of_ble_eq_true rfl⟩) (gPreV hK (g_rf hK hP (ci := 10) (q0 := 0) rfl rfl) hP) rfl rfl hl.1 rfl (lv_room (Nat.le_of_ble_eq_true rfl)) dX8_callables_25 ⟨by omega, by omega⟩) ?_
          refine lv_iconst (v := nI (3)) hx hb dX8_callables_28 gc_3 ?_
          have hle_14 := ldM_le (f 0) cn (i_1)
          refine g_icmp_ge (P := 3 ≤ ldM (f 0) cn (i_1)) (tgt := 36) hx hb dX8_callables_29 (by decide) (nI_leI (by omega) (by omega)) (fun c_15 => ?_) (fun c_15 => ?_)
          · have d_15 : ¬ ldM (f 0) cn (i_1) < 3 := Nat.not_lt.mpr c_15
            refine lv_iconst (v := nI (0)) hx hb dX8_callables_36 gc_0 ?_
            refine g_iadd hx hb dX8_callables_37 ?_
            refine lv_istore_n (lv' := [(2, .int (nI ((fb_ct (cdM (f 0) cn v) i_1) + (0)))), (3, .int (nI (i_1))), (0, .ref (A 0)), (1, .int (v))]) hx hb dX8_callables_38 rfl hl (by decide) rfl (fun ls hl => ?_)
            refine lv_iinc (v := nI (i_1 + 1)) (lv' := [(3, .int (nI (i_1 + 1))), (2, .int (nI ((fb_ct (cdM (f 0) cn v) i_1) + (0)))), (0, .ref (A 0)), (1, .int (v))]) hx hb dX8_callables_39 hl (k := 1) rfl (inc_1 _) (by decide) rfl (fun ls hl => ?_)
            refine lv_goto (tgt := 4) hx hb dX8_callables_42 (by decide) ?_
            exact ih_8 (i_1 + 1) _ _ (by omega) (by omega) rfl (by simp [fb_ct_succ, cdM, c_11, d_11, c_13, c_15, d_15] <;> omega)  ls (lv_sub hl [0, 1, 2, 3] rfl)
          · have d_15 : ldM (f 0) cn (i_1) < 3 := Nat.not_le.mp c_15
            refine lv_iconst (v := nI (1)) hx hb dX8_callables_32 gc_1 ?_
            refine lv_goto (tgt := 37) hx hb dX8_callables_33 (by decide) ?_
            refine g_iadd hx hb dX8_callables_37 ?_
            refine lv_istore_n (lv' := [(2, .int (nI ((fb_ct (cdM (f 0) cn v) i_1) + (1)))), (3, .int (nI (i_1))), (0, .ref (A 0)), (1, .int (v))]) hx hb dX8_callables_38 rfl hl (by decide) rfl (fun ls hl => ?_)
            refine lv_iinc (v := nI (i_1 + 1)) (lv' := [(3, .int (nI (i_1 + 1))), (2, .int (nI ((fb_ct (cdM (f 0) cn v) i_1) + (1)))), (0, .ref (A 0)), (1, .int (v))]) hx hb dX8_callables_39 hl (k := 1) rfl (inc_1 _) (by decide) rfl (fun ls hl => ?_)
            refine lv_goto (tgt := 4) hx hb dX8_callables_42 (by decide) ?_
            exact ih_8 (i_1 + 1) _ _ (by omega) (by omega) rfl (by simp [fb_ct_succ, cdM, c_11, d_11, c_13, c_15, d_15] <;> omega)  ls (lv_sub hl [0, 1, 2, 3] rfl)
  exact LP_5 (jn + 1) 0 _ _ (by omega) (by omega) rfl rfl  ls (lv_sub hl [0, 1, 2, 3] rfl)

set_option maxHeartbeats 1000000 in
set_option maxRecDepth 100000 in
theorem c_X8_called (l : Launch) (D : va_G) (cA : Nat → ClassId) (A : Nat → Nat) (x : Nat → Int32) (f : Nat → Nat → Int32) (place but : Int32) (jn cn : Nat) (hj : f 0 0 = nI jn) (hjn : jn ≤ 9) (hc : f 0 1 = nI cn) (hcn : cn ≤ 10) : Met l yX8_called (gw yX8_called cX8_called 6 (some .int)) ({ frames := 4, cells := 0, slots := 0, locals := 90 } : Room) (gPc [.ref (A 0), .int (place), .int (but)] (fun H => va_P D vwCl (mw cA A x f) H) D cA) (rdI (fun r => r = oI (cldM (f 0) jn cn but place))) 0 0 nF := by
  refine gOf (by decide) (Nat.le_of_ble_eq_true rfl) ?_
  intro p e s m below meth c ls hx hb hml hr hlk hown hts hnm hP hK hl
  have hl : lv_has ls 6 [(0, .ref (A 0)), (1, .int (place)), (2, .int (but))] := hl
  refine lv_iconst (v := nI (0)) hx hb dX8_called_0 gc_0 ?_
  refine lv_istore_n (lv' := [(3, .int (nI (0))), (0, .ref (A 0)), (1, .int (place)), (2, .int (but))]) hx hb dX8_called_1 rfl hl (by decide) rfl (fun ls hl => ?_)
  have LP_4 : ∀ (n_2 i_1 : Nat) (x_3 : Int32), i_1 ≤ jn → jn + 1 ≤ i_1 + n_2 → x_3 = nI (i_1) → fnd (fun k => cdM (f 0) cn but k && decide (nI (rkM (f 0) jn cn but k) = place)) (i_1) = none → ∀ (ls : Array Slot), lv_has ls 6 [(3, .int (x_3)), (0, .ref (A 0)), (1, .int (place)), (2, .int (but))] → W p l e ({ frames := 4, cells := 0, slots := 0, locals := 90 } : Room) s m ([.ref (A 0), .int (place), .int (but)] : List Value).toArray below meth c s.heap [] 0 0 (MQ below (rdI (fun r => r = oI (cldM (f 0) jn cn but place))) ([.ref (A 0), .int (place), .int (but)] : List Value).toArray s 0 0 nF) (F0 m 2 ls []) := by
    intro n_2
    induction n_2 with
    | zero => intro i_1 x_3 h1 h2; exact absurd h2 (by omega)
    | succ n_2 ih_6 =>
      intro i_1 x_3 h_7 h_8 e_5 hv ls hl
      subst e_5
      refine lv_iload_n hx hb dX8_called_2 rfl (lv_at hl 0 rfl) ?_
      refine lv_aload_n hx hb dX8_called_3 rfl (lv_at hl 1 rfl) ?_
      refine g_get (v := .ref (A 1)) hx hb hts hown hK hP 0 rfl rfl gu_wsX80 0 (by decide) gm_5_14 rfl dX8_called_4 ?_
      refine lv_iconst (v := nI (0)) hx hb dX8_called_7 gc_0 ?_
      refine g_iald (x := nI (jn)) hx hb hK hP 1 rfl (by omega) (by decide) hj dX8_called_8 ?_
      refine g_icmp_ge (P := jn ≤ i_1) (tgt := 108) hx hb dX8_called_9 (by decide) (nI_leI (by omega) (by omega)) (fun c_9 => ?_) (fun c_9 => ?_)
      · have d_9 : ¬ i_1 < jn := Nat.not_lt.mpr c_9
        have hN_10 : jn = i_1 := by omega
        subst hN_10
        refine lv_iconst (v := -1) hx hb dX8_called_108 gc_m1 ?_
        exact g_iret (v := -1) hx hb hr hlk dX8_called_109 (by rw [cldM, hv]; rfl)
      · have d_9 : i_1 < jn := Nat.not_le.mp c_9
        refine lv_iload_n hx hb dX8_called_12 rfl (lv_at hl 3 rfl) ?_
        refine lv_iload_n hx hb dX8_called_13 rfl (lv_at hl 0 rfl) ?_
        refine rd_calle (va_runS (As := [.int (but), .int (nI (i_1))]) (rest := []) ⟨hx, hb, hml, hown, hts⟩ (c_X8_has l D cA (but) (i_1)) (cwS 2 hts (gWS gm_14_10 gm_14_11 gm_1_5 gm_14_12) rfl rfl rfl (by decide +kernel) ⟨Nat.le_of_ble_eq_true rfl, Nat.le_of_ble_eq_true rfl⟩) (gPreS hK trivial) rfl rfl hl.1 rfl (lv_room (Nat.le_of_ble_eq_true rfl)) dX8_called_14 ⟨by omega, by omega⟩) ?_
        refine g_if_ne (P := hs (but) (i_1) = false) (tgt := 102) hx hb dX8_called_17 (by decide) b2i_0 (fun c_11 => ?_) (fun c_11 => ?_)
        · have c_11 : hs (but) (i_1) = true := eq_true_of_ne_false c_11
          refine lv_iinc (v := nI (i_1 + 1)) (lv' := [(3, .int (nI (i_1 + 1))), (0, .ref (A 0)), (1, .int (place)), (2, .int (but))]) hx hb dX8_called_102 hl (k := 0) rfl (inc_1 _) (by decide) rfl (fun ls hl => ?_)
          refine lv_goto (tgt := 2) hx hb dX8_called_105 (by decide) ?_
          exact ih_6 (i_1 + 1) _ (by omega) (by omega) rfl (fnd_succ_none hv (by simp [cdM, c_9, d_9, c_11] <;> omega)) ls (lv_sub hl [0, 1, 2, 3] rfl)
        · refine lv_aload_n hx hb dX8_called_20 rfl (lv_at hl 1 rfl) ?_
          refine lv_iload_n hx hb dX8_called_21 rfl (lv_at hl 0 rfl) ?_
          refine rd_calle (va_runV (As := [.int (nI (i_1))]) (rest := []) ⟨hx, hb, hml, hown, hts⟩ (c_X8_loadOf l D cA A (x) (f) (i_1) cn hc hcn) (cwV 1 hts (gWV gm_14_13 gm_14_14 gm_14_15 gm_1_5 gm_14_16) rfl rfl rfl (by decide +kernel) ⟨Nat.le_of_ble_eq_true rfl, Nat.le_of_ble_eq_true rfl⟩) (gPreV hK (g_rf hK hP (ci := 10) (q0 := 0) rfl rfl) hP) rfl rfl hl.1 rfl (lv_room (Nat.le_of_ble_eq_true rfl)) dX8_called_22 ⟨by omega, by omega⟩) ?_
          refine lv_iconst (v := nI (3)) hx hb dX8_called_25 gc_3 ?_
          have hle_12 := ldM_le (f 0) cn (i_1)
          refine g_icmp_lt (P := ldM (f 0) cn (i_1) < 3) (tgt := 32) hx hb dX8_called_26 (by decide) (nI_ltI (by omega) (by omega)) (fun c_13 => ?_) (fun c_13 => ?_)
          · have d_13 : ¬ 3 ≤ ldM (f 0) cn (i_1) := Nat.not_le.mpr c_13
            have ecd_14 : cdM (f 0) cn but (i_1) = true := by simp [cdM, c_9, d_9, c_11, c_13, d_13, c_13]
            refine lv_iconst (v := nI (0)) hx hb dX8_called_32 gc_0 ?_
            refine lv_istore (lv' := [(4, .int (nI (0))), (3, .int (nI (i_1))), (0, .ref (A 0)), (1, .int (place)), (2, .int (but))]) hx hb dX8_called_33 hl (by decide) rfl (fun ls hl => ?_)
            refine lv_iconst (v := nI (0)) hx hb dX8_called_35 gc_0 ?_
            refine lv_istore (lv' := [(5, .int (nI (0))), (4, .int (nI (0))), (3, .int (nI (i_1))), (0, .ref (A 0)), (1, .int (place)), (2, .int (but))]) hx hb dX8_called_36 hl (by decide) rfl (fun ls hl => ?_)
            have LP_19 : ∀ (n_16 i_15 : Nat) (x_17 x_18 : Int32), i_15 ≤ jn → jn + 1 ≤ i_15 + n_16 → x_17 = nI (i_15) → x_18 = nI (fb_ct (fun o => cdM (f 0) cn but o && erM (f 0) cn o (i_1)) i_15) → ∀ (ls : Array Slot), lv_has ls 6 [(5, .int (x_17)), (4, .int (x_18)), (3, .int (nI (i_1))), (0, .ref (A 0)), (1, .int (place)), (2, .int (but))] → W p l e ({ frames := 4, cells := 0, slots := 0, locals := 90 } : Room) s m ([.ref (A 0), .int (place), .int (but)] : List Value).toArray below meth c s.heap [] 0 0 (MQ below (rdI (fun r => r = oI (cldM (f 0) jn cn but place))) ([.ref (A 0), .int (place), .int (but)] : List Value).toArray s 0 0 nF) (F0 m 38 ls []) := by
              intro n_16
              induction n_16 with
              | zero => intro i_15 x_17 x_18 h1 h2; exact absurd h2 (by omega)
              | succ n_16 ih_22 =>
                intro i_15 x_17 x_18 h_23 h_24 e_20 e_21  ls hl
                subst e_20
                subst e_21
                refine lv_iload hx hb dX8_called_38 (lv_at hl 0 rfl) ?_
                refine lv_aload_n hx hb dX8_called_40 rfl (lv_at hl 3 rfl) ?_
                refine g_get (v := .ref (A 1)) hx hb hts hown hK hP 0 rfl rfl gu_wsX80 0 (by decide) gm_5_14 rfl dX8_called_41 ?_
                refine lv_iconst (v := nI (0)) hx hb dX8_called_44 gc_0 ?_
                refine g_iald (x := nI (jn)) hx hb hK hP 1 rfl (by omega) (by decide) hj dX8_called_45 ?_
                refine g_icmp_ge (P := jn ≤ i_15) (tgt := 94) hx hb dX8_called_46 (by decide) (nI_leI (by omega) (by omega)) (fun c_25 => ?_) (fun c_25 => ?_)
                · have d_25 : ¬ i_15 < jn := Nat.not_lt.mpr c_25
                  have hN_26 : jn = i_15 := by omega
                  subst hN_26
                  refine lv_iload hx hb dX8_called_94 (lv_at hl 1 rfl) ?_
                  refine lv_iload_n hx hb dX8_called_96 rfl (lv_at hl 4 rfl) ?_
                  refine g_icmp_ne (P := nI (fb_ct (fun o => cdM (f 0) cn but o && erM (f 0) cn o (i_1)) (jn)) = place) (tgt := 102) hx hb dX8_called_97 (by decide) Iff.rfl (fun c_27 => ?_) (fun c_27 => ?_)
                  · refine lv_iinc (v := nI (i_1 + 1)) (lv' := [(3, .int (nI (i_1 + 1))), (5, .int (nI ((jn)))), (4, .int (nI (fb_ct (fun o => cdM (f 0) cn but o && erM (f 0) cn o (i_1)) (jn)))), (0, .ref (A 0)), (1, .int (place)), (2, .int (but))]) hx hb dX8_called_102 hl (k := 2) rfl (inc_1 _) (by decide) rfl (fun ls hl => ?_)
                    refine lv_goto (tgt := 2) hx hb dX8_called_105 (by decide) ?_
                    exact ih_6 (i_1 + 1) _ (by omega) (by omega) rfl (fnd_succ_none hv (by simp [rkM, ecd_14, c_27] <;> omega)) ls (lv_sub hl [0, 3, 4, 5] rfl)
                  · refine lv_iload_n hx hb dX8_called_100 rfl (lv_at hl 2 rfl) ?_
                    exact g_iret (v := nI (i_1)) hx hb hr hlk dX8_called_101 (by rw [cldM, fnd_stop hv (by simp [rkM, ecd_14, c_27]) jn (by omega)]; rfl)
                · have d_25 : i_15 < jn := Nat.not_le.mp c_25
                  refine lv_iload hx hb dX8_called_49 (lv_at hl 1 rfl) ?_
                  refine lv_iload_n hx hb dX8_called_51 rfl (lv_at hl 5 rfl) ?_
                  refine lv_iload hx hb dX8_called_52 (lv_at hl 0 rfl) ?_
                  refine rd_calle (va_runS (As := [.int (but), .int (nI (i_15))]) (rest := [.int (nI (fb_ct (fun o => cdM (f 0) cn but o && erM (f 0) cn o (i_1)) i_15))]) ⟨hx, hb, hml, hown, hts⟩ (c_X8_has l D cA (but) (i_15)) (cwS 2 hts (gWS gm_14_10 gm_14_11 gm_1_5 gm_14_12) rfl rfl rfl (by decide +kernel) ⟨Nat.le_of_ble_eq_true rfl, Nat.le_of_ble_eq_true rfl⟩) (gPreS hK trivial) rfl rfl hl.1 rfl (lv_room (Nat.le_of_ble_eq_true rfl)) dX8_called_54 ⟨by omega, by omega⟩) ?_
                  refine g_if_ne (P := hs (but) (i_15) = false) (tgt := 84) hx hb dX8_called_57 (by decide) b2i_0 (fun c_28 => ?_) (fun c_28 => ?_)
                  · have c_28 : hs (but) (i_15) = true := eq_true_of_ne_false c_28
                    refine lv_iconst (v := nI (0)) hx hb dX8_called_84 gc_0 ?_
                    refine g_iadd hx hb dX8_called_85 ?_
                    refine lv_istore (lv' := [(4, .int (nI ((fb_ct (fun o => cdM (f 0) cn but o && erM (f 0) cn o (i_1)) i_15) + (0)))), (5, .int (nI (i_15))), (3, .int (nI (i_1))), (0, .ref (A 0)), (1, .int (place)), (2, .int (but))]) hx hb dX8_called_86 hl (by decide) rfl (fun ls hl => ?_)
                    refine lv_iinc (v := nI (i_15 + 1)) (lv' := [(5, .int (nI (i_15 + 1))), (4, .int (nI ((fb_ct (fun o => cdM (f 0) cn but o && erM (f 0) cn o (i_1)) i_15) + (0)))), (3, .int (nI (i_1))), (0, .ref (A 0)), (1, .int (place)), (2, .int (but))]) hx hb dX8_called_88 hl (k := 1) rfl (inc_1 _) (by decide) rfl (fun ls hl => ?_)
                    refine lv_goto (tgt := 38) hx hb dX8_called_91 (by decide) ?_
                    exact ih_22 (i_15 + 1) _ _ (by omega) (by omega) rfl (by simp [fb_ct_succ, cdM, c_25, d_25, c_28] <;> omega)  ls (lv_sub hl [0, 1, 2, 3, 4, 5] rfl)
                  · refine lv_aload_n hx hb dX8_called_60 rfl (lv_at hl 3 rfl) ?_
                    refine lv_iload hx hb dX8_called_61 (lv_at hl 0 rfl) ?_
                    refine rd_calle (va_runV (As := [.int (nI (i_15))]) (rest := [.int (nI (fb_ct (fun o => cdM (f 0) cn but o && erM (f 0) cn o (i_1)) i_15))]) ⟨hx, hb, hml, hown, hts⟩ (c_X8_loadOf l D cA A (x) (f) (i_15) cn hc hcn) (cwV 1 hts (gWV gm_14_13 gm_14_14 gm_14_15 gm_1_5 gm_14_16) rfl rfl rfl (by decide +kernel) ⟨Nat.le_of_ble_eq_true rfl, Nat.le_of_ble_eq_true rfl⟩) (gPreV hK (g_rf hK hP (ci := 10) (q0 := 0) rfl rfl) hP) rfl rfl hl.1 rfl (lv_room (Nat.le_of_ble_eq_true rfl)) dX8_called_63 ⟨by omega, by omega⟩) ?_
                    refine lv_iconst (v := nI (3)) hx hb dX8_called_66 gc_3 ?_
                    have hle_29 := ldM_le (f 0) cn (i_15)
                    refine g_icmp_ge (P := 3 ≤ ldM (f 0) cn (i_15)) (tgt := 84) hx hb dX8_called_67 (by decide) (nI_leI (by omega) (by omega)) (fun c_30 => ?_) (fun c_30 => ?_)
                    · have d_30 : ¬ ldM (f 0) cn (i_15) < 3 := Nat.not_lt.mpr c_30
                      refine lv_iconst (v := nI (0)) hx hb dX8_called_84 gc_0 ?_
                      refine g_iadd hx hb dX8_called_85 ?_
                      refine lv_istore (lv' := [(4, .int (nI ((fb_ct (fun o => cdM (f 0) cn but o && erM (f 0) cn o (i_1)) i_15) + (0)))), (5, .int (nI (i_15))), (3, .int (nI (i_1))), (0, .ref (A 0)), (1, .int (place)), (2, .int (but))]) hx hb dX8_called_86 hl (by decide) rfl (fun ls hl => ?_)
                      refine lv_iinc (v := nI (i_15 + 1)) (lv' := [(5, .int (nI (i_15 + 1))), (4, .int (nI ((fb_ct (fun o => cdM (f 0) cn but o && erM (f 0) cn o (i_1)) i_15) + (0)))), (3, .int (nI (i_1))), (0, .ref (A 0)), (1, .int (place)), (2, .int (but))]) hx hb dX8_called_88 hl (k := 1) rfl (inc_1 _) (by decide) rfl (fun ls hl => ?_)
                      refine lv_goto (tgt := 38) hx hb dX8_called_91 (by decide) ?_
                      exact ih_22 (i_15 + 1) _ _ (by omega) (by omega) rfl (by simp [fb_ct_succ, cdM, c_25, d_25, c_28, c_30, d_30] <;> omega)  ls (lv_sub hl [0, 1, 2, 3, 4, 5] rfl)
                    · have d_30 : ldM (f 0) cn (i_15) < 3 := Nat.not_le.mp c_30
                      refine lv_aload_n hx hb dX8_called_70 rfl (lv_at hl 3 rfl) ?_
                      refine lv_iload hx hb dX8_called_71 (lv_at hl 0 rfl) ?_
                      refine lv_iload_n hx hb dX8_called_73 rfl (lv_at hl 2 rfl) ?_
                      refine rd_calle (va_runV (As := [.int (nI (i_15)), .int (nI (i_1))]) (rest := [.int (nI (fb_ct (fun o => cdM (f 0) cn but o && erM (f 0) cn o (i_1)) i_15))]) ⟨hx, hb, hml, hown, hts⟩ (c_X8_isEarlier l D cA A (x) (f) (i_15) (i_1) cn hc hcn (by omega) (by omega)) (cwV 2 hts (gWV gm_15_5 gm_15_6 gm_15_7 gm_1_5 gm_15_8) rfl rfl rfl (by decide +kernel) ⟨Nat.le_of_ble_eq_true rfl, Nat.le_of_ble_eq_true rfl⟩) (gPreV hK (g_rf hK hP (ci := 10) (q0 := 0) rfl rfl) hP) rfl rfl hl.1 rfl (lv_room (Nat.le_of_ble_eq_true rfl)) dX8_called_74 ⟨by omega, by omega⟩) ?_
                      refine g_if_eq (P := erM (f 0) cn (i_15) (i_1) = false) (tgt := 84) hx hb dX8_called_77 (by decide) b2i_0 (fun c_31 => ?_) (fun c_31 => ?_)
                      · refine lv_iconst (v := nI (0)) hx hb dX8_called_84 gc_0 ?_
                        refine g_iadd hx hb dX8_called_85 ?_
                        refine lv_istore (lv' := [(4, .int (nI ((fb_ct (fun o => cdM (f 0) cn but o && erM (f 0) cn o (i_1)) i_15) + (0)))), (5, .int (nI (i_15))), (3, .int (nI (i_1))), (0, .ref (A 0)), (1, .int (place)), (2, .int (but))]) hx hb dX8_called_86 hl (by decide) rfl (fun ls hl => ?_)
                        refine lv_iinc (v := nI (i_15 + 1)) (lv' := [(5, .int (nI (i_15 + 1))), (4, .int (nI ((fb_ct (fun o => cdM (f 0) cn but o && erM (f 0) cn o (i_1)) i_15) + (0)))), (3, .int (nI (i_1))), (0, .ref (A 0)), (1, .int (place)), (2, .int (but))]) hx hb dX8_called_88 hl (k := 1) rfl (inc_1 _) (by decide) rfl (fun ls hl => ?_)
                        refine lv_goto (tgt := 38) hx hb dX8_called_91 (by decide) ?_
                        exact ih_22 (i_15 + 1) _ _ (by omega) (by omega) rfl (by simp [fb_ct_succ, cdM, c_25, d_25, c_28, c_30, d_30, c_31] <;> omega)  ls (lv_sub hl [0, 1, 2, 3, 4, 5] rfl)
                      · have c_31 : erM (f 0) cn (i_15) (i_1) = true := eq_true_of_ne_false c_31
                        refine lv_iconst (v := nI (1)) hx hb dX8_called_80 gc_1 ?_
                        refine lv_goto (tgt := 85) hx hb dX8_called_81 (by decide) ?_
                        refine g_iadd hx hb dX8_called_85 ?_
                        refine lv_istore (lv' := [(4, .int (nI ((fb_ct (fun o => cdM (f 0) cn but o && erM (f 0) cn o (i_1)) i_15) + (1)))), (5, .int (nI (i_15))), (3, .int (nI (i_1))), (0, .ref (A 0)), (1, .int (place)), (2, .int (but))]) hx hb dX8_called_86 hl (by decide) rfl (fun ls hl => ?_)
                        refine lv_iinc (v := nI (i_15 + 1)) (lv' := [(5, .int (nI (i_15 + 1))), (4, .int (nI ((fb_ct (fun o => cdM (f 0) cn but o && erM (f 0) cn o (i_1)) i_15) + (1)))), (3, .int (nI (i_1))), (0, .ref (A 0)), (1, .int (place)), (2, .int (but))]) hx hb dX8_called_88 hl (k := 1) rfl (inc_1 _) (by decide) rfl (fun ls hl => ?_)
                        refine lv_goto (tgt := 38) hx hb dX8_called_91 (by decide) ?_
                        exact ih_22 (i_15 + 1) _ _ (by omega) (by omega) rfl (by simp [fb_ct_succ, cdM, c_25, d_25, c_28, c_30, d_30, c_31] <;> omega)  ls (lv_sub hl [0, 1, 2, 3, 4, 5] rfl)
            exact LP_19 (jn + 1) 0 _ _ (by omega) (by omega) rfl rfl  ls (lv_sub hl [0, 1, 2, 3, 4, 5] rfl)
          · have d_13 : 3 ≤ ldM (f 0) cn (i_1) := Nat.not_lt.mp c_13
            refine lv_goto (tgt := 102) hx hb dX8_called_29 (by decide) ?_
            refine lv_iinc (v := nI (i_1 + 1)) (lv' := [(3, .int (nI (i_1 + 1))), (0, .ref (A 0)), (1, .int (place)), (2, .int (but))]) hx hb dX8_called_102 hl (k := 0) rfl (inc_1 _) (by decide) rfl (fun ls hl => ?_)
            refine lv_goto (tgt := 2) hx hb dX8_called_105 (by decide) ?_
            exact ih_6 (i_1 + 1) _ (by omega) (by omega) rfl (fnd_succ_none hv (by simp [cdM, c_9, d_9, c_11, c_13, d_13] <;> omega)) ls (lv_sub hl [0, 1, 2, 3] rfl)
  exact LP_4 (jn + 1) 0 _ (by omega) (by omega) rfl rfl ls (lv_sub hl [0, 1, 2, 3] rfl)

def vdM (g l d : Nat → Int32) (jn : Nat) (panel merit : Int32) : Nat := if 1 < fb_ct (fun k => hs panel k && forB merit (l k) (d k)) jn then 1 else 2
def rlM (g : Nat → Int32) (c : Nat) : Bool := !decide (gof g c 2 = 0) && decide (gof g c 3 = 0)
def ahM (g : Nat → Int32) (a b : Nat) : Bool := if gof g a 1 - gof g b 1 = 0 then (if gof g a 0 - gof g b 0 < 0 then true else if gof g a 0 - gof g b 0 = 0 then decide (a < b) else false) else decide (¬ 0 ≤ gof g a 1 - gof g b 1)
def poM (g : Nat → Int32) (cn k : Nat) : Nat := fb_ct (fun o => rlM g o && ahM g o k) cn
def raM (g : Nat → Int32) (cn : Nat) (place : Int32) : Option Nat := fnd (fun k => rlM g k && decide (nI (poM g cn k) = place)) cn
def dbM (g : Nat → Int32) (jn : Nat) (panel : Int32) : Option Nat := bst (hs panel) (fun k b => decide (¬ gby g k 1 ≤ gby g b 1)) jn
def mdM (g : Nat → Int32) (a b : Nat) : Bool := if gby g a 1 - gby g b 1 = 0 then (if 0 < gby g a 0 - gby g b 0 then true else if gby g a 0 - gby g b 0 = 0 then decide (a < b) else false) else decide (¬ gby g a 1 - gby g b 1 ≤ 0)
def isum (f : Nat → Int32) : Nat → Int32
  | 0 => 0
  | n + 1 => isum f n + f n

set_option maxHeartbeats 1000000 in
set_option maxRecDepth 100000 in
theorem c_X8_lowest (l : Launch) (D : va_G) (cA : Nat → ClassId) (v : Int32) (j : Nat) (hq : j < 9) (h1 : hs v j = true) (h2 : ∀ i, i < j → hs v i = false) : Met l yX8_lowest (gw yX8_lowest cX8_lowest 2 (some .int)) ({ frames := 1, cells := 0, slots := 0, locals := 21 } : Room) (gPc [.int (v)] (fun H => True) D cA) (rdI (fun r => r = nI j)) 0 0 nF := by
  refine gOf (by decide) (Nat.le_of_ble_eq_true rfl) ?_
  intro p e s m below meth c ls hx hb hml hr hlk hown hts hnm hP hK hl
  have hl : lv_has ls 2 [(0, .int (v))] := hl
  refine lv_iconst (v := nI (0)) hx hb dX8_lowest_0 gc_0 ?_
  refine lv_istore_n (lv' := [(1, .int (nI (0))), (0, .int (v))]) hx hb dX8_lowest_1 rfl hl (by decide) rfl (fun ls hl => ?_)
  have LP_4 : ∀ (n_2 i_1 : Nat) (x_3 : Int32), i_1 ≤ j → j + 1 ≤ i_1 + n_2 → x_3 = nI (i_1) → ∀ (ls : Array Slot), lv_has ls 2 [(1, .int (x_3)), (0, .int (v))] → W p l e ({ frames := 1, cells := 0, slots := 0, locals := 21 } : Room) s m ([.int (v)] : List Value).toArray below meth c s.heap [] 0 0 (MQ below (rdI (fun r => r = nI j)) ([.int (v)] : List Value).toArray s 0 0 nF) (F0 m 2 ls []) := by
    intro n_2
    induction n_2 with
    | zero => intro i_1 x_3 h1 h2; exact absurd h2 (by omega)
    | succ n_2 ih_6 =>
      intro i_1 x_3 h_7 h_8 e_5  ls hl
      subst e_5
      refine lv_iload_n hx hb dX8_lowest_2 rfl (lv_at hl 1 rfl) ?_
      refine lv_iload_n hx hb dX8_lowest_3 rfl (lv_at hl 0 rfl) ?_
      refine rd_calle (va_runS (As := [.int (v), .int (nI (i_1))]) (rest := []) ⟨hx, hb, hml, hown, hts⟩ (c_X8_has l D cA (v) (i_1)) (cwS 2 hts (gWS gm_14_10 gm_14_11 gm_1_5 gm_14_12) rfl rfl rfl (by decide +kernel) ⟨Nat.le_of_ble_eq_true rfl, Nat.le_of_ble_eq_true rfl⟩) (gPreS hK trivial) rfl rfl hl.1 rfl (lv_room (Nat.le_of_ble_eq_true rfl)) dX8_lowest_4 ⟨by omega, by omega⟩) ?_
      refine g_if_ne (P := hs (v) (i_1) = false) (tgt := 16) hx hb dX8_lowest_7 (by decide) b2i_0 (fun c_9 => ?_) (fun c_9 => ?_)
      · have c_9 : hs (v) (i_1) = true := eq_true_of_ne_false c_9
        have hN_10 : j = i_1 := by have q9 : ¬ i_1 < j := (fun q => absurd c_9 (by rw [h2 _ q]; decide)); omega
        subst hN_10
        refine lv_iload_n hx hb dX8_lowest_16 rfl (lv_at hl 0 rfl) ?_
        exact g_iret (v := nI ((j))) hx hb hr hlk dX8_lowest_17 (rfl)
      · have hlt_11 : i_1 < j := by have q9 : ¬ i_1 = j := (fun q => absurd h1 (by rw [← q, c_9]; decide)); omega
        refine lv_iinc (v := nI (i_1 + 1)) (lv' := [(1, .int (nI (i_1 + 1))), (0, .int (v))]) hx hb dX8_lowest_10 hl (k := 0) rfl (inc_1 _) (by decide) rfl (fun ls hl => ?_)
        refine lv_goto (tgt := 2) hx hb dX8_lowest_13 (by decide) ?_
        exact ih_6 (i_1 + 1) _ (by omega) (by omega) rfl  ls (lv_sub hl [0, 1] rfl)
  exact LP_4 (j + 1) 0 _ (by omega) (by omega) rfl  ls (lv_sub hl [0, 1] rfl)

set_option maxHeartbeats 1000000 in
set_option maxRecDepth 100000 in
theorem c_X8_isFor (l : Launch) (D : va_G) (cA : Nat → ClassId) (A : Nat → Nat) (x : Nat → Int32) (f : Nat → Nat → Int32) (j : Nat) (merit : Int32) (hq : j < 9) : Met l yX8_isFor (gw yX8_isFor cX8_isFor 3 (some .boolean)) ({ frames := 0, cells := 0, slots := 0, locals := 0 } : Room) (gPc [.ref (A 0), .int (nI (j)), .int (merit)] (fun H => va_P D vwCl (mw cA A x f) H) D cA) (rdI (fun r => r = b2i (forB merit (f 6 j) (f 7 j)))) 0 0 nF := by
  refine gOf (by decide) (Nat.le_of_ble_eq_true rfl) ?_
  intro p e s m below meth c ls hx hb hml hr hlk hown hts hnm hP hK hl
  have hl : lv_has ls 3 [(0, .ref (A 0)), (1, .int (nI (j))), (2, .int (merit))] := hl
  refine lv_iload_n hx hb dX8_isFor_0 rfl (lv_at hl 2 rfl) ?_
  refine lv_iconst (v := nI (5)) hx hb dX8_isFor_1 gc_5 ?_
  refine lv_aload_n hx hb dX8_isFor_2 rfl (lv_at hl 0 rfl) ?_
  refine g_get (v := .ref (A 7)) hx hb hts hown hK hP 0 rfl rfl gu_wsX80 16 (by decide) gm_5_21 rfl dX8_isFor_3 ?_
  refine lv_iload_n hx hb dX8_isFor_6 rfl (lv_at hl 1 rfl) ?_
  refine g_iald (x := f 6 (j)) hx hb hK hP 7 rfl (by omega) (by decide) rfl dX8_isFor_7 ?_
  refine lv_imul hx hb dX8_isFor_8 ?_
  refine lv_iadd hx hb dX8_isFor_9 ?_
  refine lv_aload_n hx hb dX8_isFor_10 rfl (lv_at hl 0 rfl) ?_
  refine g_get (v := .ref (A 8)) hx hb hts hown hK hP 0 rfl rfl gu_wsX80 17 (by decide) gm_5_22 rfl dX8_isFor_11 ?_
  refine lv_iload_n hx hb dX8_isFor_14 rfl (lv_at hl 1 rfl) ?_
  refine g_iald (x := f 7 (j)) hx hb hK hP 8 rfl (by omega) (by decide) rfl dX8_isFor_15 ?_
  refine lv_isub hx hb dX8_isFor_16 ?_
  refine lv_bipush (v := nI (50)) hx hb dX8_isFor_17 gb_50 ?_
  refine g_icmp_lt (P := ((merit) + ((nI (5)) * (f 6 (j)))) - (f 7 (j)) < nI (50)) (tgt := 26) hx hb dX8_isFor_19 (by decide) Iff.rfl (fun c_1 => ?_) (fun c_1 => ?_)
  · have d_1 : ¬ nI (50) ≤ ((merit) + ((nI (5)) * (f 6 (j)))) - (f 7 (j)) := Int32.not_le.mpr c_1
    refine lv_iconst (v := nI (0)) hx hb dX8_isFor_26 gc_0 ?_
    exact g_zret (v := nI (0)) hx hb hr hlk rfl dX8_isFor_27 (by simp [forB, b2i, c_1, d_1])
  · have d_1 : nI (50) ≤ ((merit) + ((nI (5)) * (f 6 (j)))) - (f 7 (j)) := Int32.not_lt.mp c_1
    refine lv_iconst (v := nI (1)) hx hb dX8_isFor_22 gc_1 ?_
    refine lv_goto (tgt := 27) hx hb dX8_isFor_23 (by decide) ?_
    exact g_zret (v := nI (1)) hx hb hr hlk rfl dX8_isFor_27 (by simp [forB, b2i, c_1, d_1])

set_option maxHeartbeats 1000000 in
set_option maxRecDepth 100000 in
theorem c_X8_verdictBy (l : Launch) (D : va_G) (cA : Nat → ClassId) (A : Nat → Nat) (x : Nat → Int32) (f : Nat → Nat → Int32) (panel merit : Int32) (jn : Nat) (hj : f 0 0 = nI jn) (hjn : jn ≤ 9) : Met l yX8_verdictBy (gw yX8_verdictBy cX8_verdictBy 5 (some .int)) ({ frames := 1, cells := 0, slots := 0, locals := 22 } : Room) (gPc [.ref (A 0), .int (panel), .int (merit)] (fun H => va_P D vwCl (mw cA A x f) H) D cA) (rdI (fun r => r = nI (vdM (f 0) (f 6) (f 7) jn panel merit))) 0 0 nF := by
  refine gOf (by decide) (Nat.le_of_ble_eq_true rfl) ?_
  intro p e s m below meth c ls hx hb hml hr hlk hown hts hnm hP hK hl
  have hl : lv_has ls 5 [(0, .ref (A 0)), (1, .int (panel)), (2, .int (merit))] := hl
  refine lv_iconst (v := nI (0)) hx hb dX8_verdictBy_0 gc_0 ?_
  refine lv_istore_n (lv' := [(3, .int (nI (0))), (0, .ref (A 0)), (1, .int (panel)), (2, .int (merit))]) hx hb dX8_verdictBy_1 rfl hl (by decide) rfl (fun ls hl => ?_)
  refine lv_iconst (v := nI (0)) hx hb dX8_verdictBy_2 gc_0 ?_
  refine lv_istore (lv' := [(4, .int (nI (0))), (3, .int (nI (0))), (0, .ref (A 0)), (1, .int (panel)), (2, .int (merit))]) hx hb dX8_verdictBy_3 hl (by decide) rfl (fun ls hl => ?_)
  have LP_5 : ∀ (n_2 i_1 : Nat) (x_3 x_4 : Int32), i_1 ≤ jn → jn + 1 ≤ i_1 + n_2 → x_3 = nI (i_1) → x_4 = nI (fb_ct (fun k => hs panel k && forB merit (f 6 k) (f 7 k)) i_1) → ∀ (ls : Array Slot), lv_has ls 5 [(4, .int (x_3)), (3, .int (x_4)), (0, .ref (A 0)), (1, .int (panel)), (2, .int (merit))] → W p l e ({ frames := 1, cells := 0, slots := 0, locals := 22 } : Room) s m ([.ref (A 0), .int (panel), .int (merit)] : List Value).toArray below meth c s.heap [] 0 0 (MQ below (rdI (fun r => r = nI (vdM (f 0) (f 6) (f 7) jn panel merit))) ([.ref (A 0), .int (panel), .int (merit)] : List Value).toArray s 0 0 nF) (F0 m 5 ls []) := by
    intro n_2
    induction n_2 with
    | zero => intro i_1 x_3 x_4 h1 h2; exact absurd h2 (by omega)
    | succ n_2 ih_8 =>
      intro i_1 x_3 x_4 h_9 h_10 e_6 e_7  ls hl
      subst e_6
      subst e_7
      refine lv_iload hx hb dX8_verdictBy_5 (lv_at hl 0 rfl) ?_
      refine lv_aload_n hx hb dX8_verdictBy_7 rfl (lv_at hl 2 rfl) ?_
      refine g_get (v := .ref (A 1)) hx hb hts hown hK hP 0 rfl rfl gu_wsX80 0 (by decide) gm_5_14 rfl dX8_verdictBy_8 ?_
      refine lv_iconst (v := nI (0)) hx hb dX8_verdictBy_11 gc_0 ?_
      refine g_iald (x := nI (jn)) hx hb hK hP 1 rfl (by omega) (by decide) hj dX8_verdictBy_12 ?_
      refine g_icmp_ge (P := jn ≤ i_1) (tgt := 49) hx hb dX8_verdictBy_13 (by decide) (nI_leI (by omega) (by omega)) (fun c_11 => ?_) (fun c_11 => ?_)
      · have d_11 : ¬ i_1 < jn := Nat.not_lt.mpr c_11
        have hN_12 : jn = i_1 := by omega
        subst hN_12
        refine lv_iload_n hx hb dX8_verdictBy_49 rfl (lv_at hl 1 rfl) ?_
        refine lv_iconst (v := nI (1)) hx hb dX8_verdictBy_50 gc_1 ?_
        have hle_13 := fb_ct_le (fun k => hs panel k && forB merit (f 6 k) (f 7 k)) jn
        refine g_icmp_le (P := fb_ct (fun k => hs panel k && forB merit (f 6 k) (f 7 k)) (jn) ≤ 1) (tgt := 58) hx hb dX8_verdictBy_51 (by decide) (nI_leI (by omega) (by omega)) (fun c_14 => ?_) (fun c_14 => ?_)
        · have d_14 : ¬ 1 < fb_ct (fun k => hs panel k && forB merit (f 6 k) (f 7 k)) (jn) := Nat.not_lt.mpr c_14
          refine lv_iconst (v := nI (2)) hx hb dX8_verdictBy_58 gc_2 ?_
          exact g_iret (v := nI (2)) hx hb hr hlk dX8_verdictBy_59 (by simp [vdM, c_11, d_11, c_14, d_14] <;> omega)
        · have d_14 : 1 < fb_ct (fun k => hs panel k && forB merit (f 6 k) (f 7 k)) (jn) := Nat.not_le.mp c_14
          refine lv_iconst (v := nI (1)) hx hb dX8_verdictBy_54 gc_1 ?_
          refine lv_goto (tgt := 59) hx hb dX8_verdictBy_55 (by decide) ?_
          exact g_iret (v := nI (1)) hx hb hr hlk dX8_verdictBy_59 (by simp [vdM, c_11, d_11, c_14, d_14] <;> omega)
      · have d_11 : i_1 < jn := Nat.not_le.mp c_11
        refine lv_iload_n hx hb dX8_verdictBy_16 rfl (lv_at hl 1 rfl) ?_
        refine lv_iload_n hx hb dX8_verdictBy_17 rfl (lv_at hl 3 rfl) ?_
        refine lv_iload hx hb dX8_verdictBy_18 (lv_at hl 0 rfl) ?_
        refine rd_calle (va_runS (As := [.int (panel), .int (nI (i_1))]) (rest := [.int (nI (fb_ct (fun k => hs panel k && forB merit (f 6 k) (f 7 k)) i_1))]) ⟨hx, hb, hml, hown, hts⟩ (c_X8_has l D cA (panel) (i_1)) (cwS 2 hts (gWS gm_14_10 gm_14_11 gm_1_5 gm_14_12) rfl rfl rfl (by decide +kernel) ⟨Nat.le_of_ble_eq_true rfl, Nat.le_of_ble_eq_true rfl⟩) (gPreS hK trivial) rfl rfl hl.1 rfl (lv_room (Nat.le_of_ble_eq_true rfl)) dX8_verdictBy_20 ⟨by omega, by omega⟩) ?_
        refine g_if_eq (P := hs (panel) (i_1) = false) (tgt := 40) hx hb dX8_verdictBy_23 (by decide) b2i_0 (fun c_15 => ?_) (fun c_15 => ?_)
        · refine lv_iconst (v := nI (0)) hx hb dX8_verdictBy_40 gc_0 ?_
          refine g_iadd hx hb dX8_verdictBy_41 ?_
          refine lv_istore_n (lv' := [(3, .int (nI ((fb_ct (fun k => hs panel k && forB merit (f 6 k) (f 7 k)) i_1) + (0)))), (4, .int (nI (i_1))), (0, .ref (A 0)), (1, .int (panel)), (2, .int (merit))]) hx hb dX8_verdictBy_42 rfl hl (by decide) rfl (fun ls hl => ?_)
          refine lv_iinc (v := nI (i_1 + 1)) (lv' := [(4, .int (nI (i_1 + 1))), (3, .int (nI ((fb_ct (fun k => hs panel k && forB merit (f 6 k) (f 7 k)) i_1) + (0)))), (0, .ref (A 0)), (1, .int (panel)), (2, .int (merit))]) hx hb dX8_verdictBy_43 hl (k := 1) rfl (inc_1 _) (by decide) rfl (fun ls hl => ?_)
          refine lv_goto (tgt := 5) hx hb dX8_verdictBy_46 (by decide) ?_
          exact ih_8 (i_1 + 1) _ _ (by omega) (by omega) rfl (by simp [fb_ct_succ, c_11, d_11, c_15])  ls (lv_sub hl [0, 1, 2, 3, 4] rfl)
        · have c_15 : hs (panel) (i_1) = true := eq_true_of_ne_false c_15
          refine lv_aload_n hx hb dX8_verdictBy_26 rfl (lv_at hl 2 rfl) ?_
          refine lv_iload hx hb dX8_verdictBy_27 (lv_at hl 0 rfl) ?_
          refine lv_iload_n hx hb dX8_verdictBy_29 rfl (lv_at hl 4 rfl) ?_
          refine rd_calle (va_runV (As := [.int (nI (i_1)), .int (merit)]) (rest := [.int (nI (fb_ct (fun k => hs panel k && forB merit (f 6 k) (f 7 k)) i_1))]) ⟨hx, hb, hml, hown, hts⟩ (c_X8_isFor l D cA A (x) (f) (i_1) (merit) (by omega)) (cwV 2 hts (gWV gm_18_7 gm_18_8 gm_18_9 gm_1_5 gm_18_10) rfl rfl rfl (by decide +kernel) ⟨Nat.le_of_ble_eq_true rfl, Nat.le_of_ble_eq_true rfl⟩) (gPreV hK (g_rf hK hP (ci := 10) (q0 := 0) rfl rfl) hP) rfl rfl hl.1 rfl (lv_room (Nat.le_of_ble_eq_true rfl)) dX8_verdictBy_30 ⟨by omega, by omega⟩) ?_
          refine g_if_eq (P := forB (merit) (f 6 (i_1)) (f 7 (i_1)) = false) (tgt := 40) hx hb dX8_verdictBy_33 (by decide) b2i_0 (fun c_16 => ?_) (fun c_16 => ?_)
          · refine lv_iconst (v := nI (0)) hx hb dX8_verdictBy_40 gc_0 ?_
            refine g_iadd hx hb dX8_verdictBy_41 ?_
            refine lv_istore_n (lv' := [(3, .int (nI ((fb_ct (fun k => hs panel k && forB merit (f 6 k) (f 7 k)) i_1) + (0)))), (4, .int (nI (i_1))), (0, .ref (A 0)), (1, .int (panel)), (2, .int (merit))]) hx hb dX8_verdictBy_42 rfl hl (by decide) rfl (fun ls hl => ?_)
            refine lv_iinc (v := nI (i_1 + 1)) (lv' := [(4, .int (nI (i_1 + 1))), (3, .int (nI ((fb_ct (fun k => hs panel k && forB merit (f 6 k) (f 7 k)) i_1) + (0)))), (0, .ref (A 0)), (1, .int (panel)), (2, .int (merit))]) hx hb dX8_verdictBy_43 hl (k := 1) rfl (inc_1 _) (by decide) rfl (fun ls hl => ?_)
            refine lv_goto (tgt := 5) hx hb dX8_verdictBy_46 (by decide) ?_
            exact ih_8 (i_1 + 1) _ _ (by omega) (by omega) rfl (by simp [fb_ct_succ, c_11, d_11, c_15, c_16])  ls (lv_sub hl [0, 1, 2, 3, 4] rfl)
          · have c_16 : forB (merit) (f 6 (i_1)) (f 7 (i_1)) = true := eq_true_of_ne_false c_16
            refine lv_iconst (v := nI (1)) hx hb dX8_verdictBy_36 gc_1 ?_
            refine lv_goto (tgt := 41) hx hb dX8_verdictBy_37 (by decide) ?_
            refine g_iadd hx hb dX8_verdictBy_41 ?_
            refine lv_istore_n (lv' := [(3, .int (nI ((fb_ct (fun k => hs panel k && forB merit (f 6 k) (f 7 k)) i_1) + (1)))), (4, .int (nI (i_1))), (0, .ref (A 0)), (1, .int (panel)), (2, .int (merit))]) hx hb dX8_verdictBy_42 rfl hl (by decide) rfl (fun ls hl => ?_)
            refine lv_iinc (v := nI (i_1 + 1)) (lv' := [(4, .int (nI (i_1 + 1))), (3, .int (nI ((fb_ct (fun k => hs panel k && forB merit (f 6 k) (f 7 k)) i_1) + (1)))), (0, .ref (A 0)), (1, .int (panel)), (2, .int (merit))]) hx hb dX8_verdictBy_43 hl (k := 1) rfl (inc_1 _) (by decide) rfl (fun ls hl => ?_)
            refine lv_goto (tgt := 5) hx hb dX8_verdictBy_46 (by decide) ?_
            exact ih_8 (i_1 + 1) _ _ (by omega) (by omega) rfl (by simp [fb_ct_succ, c_11, d_11, c_15, c_16])  ls (lv_sub hl [0, 1, 2, 3, 4] rfl)
  exact LP_5 (jn + 1) 0 _ _ (by omega) (by omega) rfl rfl  ls (lv_sub hl [0, 1, 2, 3, 4] rfl)

set_option maxHeartbeats 1000000 in
set_option maxRecDepth 100000 in
theorem c_X8_doubter (l : Launch) (D : va_G) (cA : Nat → ClassId) (A : Nat → Nat) (x : Nat → Int32) (f : Nat → Nat → Int32) (panel : Int32) (jn : Nat) (hj : f 0 0 = nI jn) (hjn : jn ≤ 9) : Met l yX8_doubter (gw yX8_doubter cX8_doubter 4 (some .int)) ({ frames := 1, cells := 0, slots := 0, locals := 22 } : Room) (gPc [.ref (A 0), .int (panel)] (fun H => va_P D vwCl (mw cA A x f) H) D cA) (rdI (fun r => r = oI (dbM (f 0) jn panel))) 0 0 nF := by
  refine gOf (by decide) (Nat.le_of_ble_eq_true rfl) ?_
  intro p e s m below meth c ls hx hb hml hr hlk hown hts hnm hP hK hl
  have hl : lv_has ls 4 [(0, .ref (A 0)), (1, .int (panel))] := hl
  refine lv_iconst (v := -1) hx hb dX8_doubter_0 gc_m1 ?_
  refine lv_istore_n (lv' := [(2, .int (-1)), (0, .ref (A 0)), (1, .int (panel))]) hx hb dX8_doubter_1 rfl hl (by decide) rfl (fun ls hl => ?_)
  refine lv_iconst (v := nI (0)) hx hb dX8_doubter_2 gc_0 ?_
  refine lv_istore_n (lv' := [(3, .int (nI (0))), (2, .int (-1)), (0, .ref (A 0)), (1, .int (panel))]) hx hb dX8_doubter_3 rfl hl (by decide) rfl (fun ls hl => ?_)
  have LP_5 : ∀ (n_2 i_1 : Nat) (x_3 x_4 : Int32), i_1 ≤ jn → jn + 1 ≤ i_1 + n_2 → x_3 = nI (i_1) → x_4 = oI (bst (hs panel) (fun k b => decide (¬ gby (f 0) k 1 ≤ gby (f 0) b 1)) i_1) → ∀ (ls : Array Slot), lv_has ls 4 [(3, .int (x_3)), (2, .int (x_4)), (0, .ref (A 0)), (1, .int (panel))] → W p l e ({ frames := 1, cells := 0, slots := 0, locals := 22 } : Room) s m ([.ref (A 0), .int (panel)] : List Value).toArray below meth c s.heap [] 0 0 (MQ below (rdI (fun r => r = oI (dbM (f 0) jn panel))) ([.ref (A 0), .int (panel)] : List Value).toArray s 0 0 nF) (F0 m 4 ls []) := by
    intro n_2
    induction n_2 with
    | zero => intro i_1 x_3 x_4 h1 h2; exact absurd h2 (by omega)
    | succ n_2 ih_8 =>
      intro i_1 x_3 x_4 h_9 h_10 e_6 e_7  ls hl
      subst e_6
      subst e_7
      refine lv_iload_n hx hb dX8_doubter_4 rfl (lv_at hl 0 rfl) ?_
      refine lv_aload_n hx hb dX8_doubter_5 rfl (lv_at hl 2 rfl) ?_
      refine g_get (v := .ref (A 1)) hx hb hts hown hK hP 0 rfl rfl gu_wsX80 0 (by decide) gm_5_14 rfl dX8_doubter_6 ?_
      refine lv_iconst (v := nI (0)) hx hb dX8_doubter_9 gc_0 ?_
      refine g_iald (x := nI (jn)) hx hb hK hP 1 rfl (by omega) (by decide) hj dX8_doubter_10 ?_
      refine g_icmp_ge (P := jn ≤ i_1) (tgt := 49) hx hb dX8_doubter_11 (by decide) (nI_leI (by omega) (by omega)) (fun c_11 => ?_) (fun c_11 => ?_)
      · have d_11 : ¬ i_1 < jn := Nat.not_lt.mpr c_11
        have hN_12 : jn = i_1 := by omega
        subst hN_12
        refine lv_iload_n hx hb dX8_doubter_49 rfl (lv_at hl 1 rfl) ?_
        exact g_iret (v := oI (bst (hs panel) (fun k b => decide (¬ gby (f 0) k 1 ≤ gby (f 0) b 1)) (jn))) hx hb hr hlk dX8_doubter_50 (rfl)
      · have d_11 : i_1 < jn := Nat.not_le.mp c_11
        refine lv_iload_n hx hb dX8_doubter_14 rfl (lv_at hl 3 rfl) ?_
        refine lv_iload_n hx hb dX8_doubter_15 rfl (lv_at hl 0 rfl) ?_
        refine rd_calle (va_runS (As := [.int (panel), .int (nI (i_1))]) (rest := []) ⟨hx, hb, hml, hown, hts⟩ (c_X8_has l D cA (panel) (i_1)) (cwS 2 hts (gWS gm_14_10 gm_14_11 gm_1_5 gm_14_12) rfl rfl rfl (by decide +kernel) ⟨Nat.le_of_ble_eq_true rfl, Nat.le_of_ble_eq_true rfl⟩) (gPreS hK trivial) rfl rfl hl.1 rfl (lv_room (Nat.le_of_ble_eq_true rfl)) dX8_doubter_16 ⟨by omega, by omega⟩) ?_
        refine g_if_eq (P := hs (panel) (i_1) = false) (tgt := 43) hx hb dX8_doubter_19 (by decide) b2i_0 (fun c_13 => ?_) (fun c_13 => ?_)
        · refine lv_iinc (v := nI (i_1 + 1)) (lv' := [(3, .int (nI (i_1 + 1))), (2, .int (oI (bst (hs panel) (fun k b => decide (¬ gby (f 0) k 1 ≤ gby (f 0) b 1)) i_1))), (0, .ref (A 0)), (1, .int (panel))]) hx hb dX8_doubter_43 hl (k := 0) rfl (inc_1 _) (by decide) rfl (fun ls hl => ?_)
          refine lv_goto (tgt := 4) hx hb dX8_doubter_46 (by decide) ?_
          exact ih_8 (i_1 + 1) _ _ (by omega) (by omega) rfl (by rw [bst_no (by simp [c_13])])  ls (lv_sub hl [0, 1, 2, 3] rfl)
        · have c_13 : hs (panel) (i_1) = true := eq_true_of_ne_false c_13
          refine lv_iload_n hx hb dX8_doubter_22 rfl (lv_at hl 1 rfl) ?_
          refine g_if_lt (P := bst (hs panel) (fun k b => decide (¬ gby (f 0) k 1 ≤ gby (f 0) b 1)) i_1 = none) (tgt := 41) hx hb dX8_doubter_23 (by decide) (oI_lt (fun b q => by have := bst_lt q; omega)) (fun c_14 => ?_) (fun c_14 => ?_)
          · refine lv_iload_n hx hb dX8_doubter_41 rfl (lv_at hl 0 rfl) ?_
            refine lv_istore_n (lv' := [(2, .int (nI (i_1))), (3, .int (nI (i_1))), (0, .ref (A 0)), (1, .int (panel))]) hx hb dX8_doubter_42 rfl hl (by decide) rfl (fun ls hl => ?_)
            refine lv_iinc (v := nI (i_1 + 1)) (lv' := [(3, .int (nI (i_1 + 1))), (2, .int (nI (i_1))), (0, .ref (A 0)), (1, .int (panel))]) hx hb dX8_doubter_43 hl (k := 1) rfl (inc_1 _) (by decide) rfl (fun ls hl => ?_)
            refine lv_goto (tgt := 4) hx hb dX8_doubter_46 (by decide) ?_
            exact ih_8 (i_1 + 1) _ _ (by omega) (by omega) rfl (by rw [bst_new (by simp [c_13]) c_14]; rfl)  ls (lv_sub hl [0, 1, 2, 3] rfl)
          · obtain ⟨b_15, eb_16⟩ := o_some c_14
            have hb_17 := bst_lt eb_16
            rw [eb_16] at hl
            have hl : lv_has ls 4 [(3, .int (nI (i_1))), (2, .int (nI (b_15))), (0, .ref (A 0)), (1, .int (panel))] := hl
            refine lv_aload_n hx hb dX8_doubter_26 rfl (lv_at hl 2 rfl) ?_
            refine lv_iload_n hx hb dX8_doubter_27 rfl (lv_at hl 0 rfl) ?_
            refine lv_iconst (v := nI (1)) hx hb dX8_doubter_28 gc_1 ?_
            refine rd_calle (va_runV (As := [.int (nI (i_1)), .int (nI (1))]) (rest := []) ⟨hx, hb, hml, hown, hts⟩ (c_X8_by l D cA A (x) (f) (i_1) (1) (by omega)) (cwV 2 hts (gWV gm_15_9 gm_15_10 gm_15_11 gm_1_5 gm_15_12) rfl rfl rfl (by decide +kernel) ⟨Nat.le_of_ble_eq_true rfl, Nat.le_of_ble_eq_true rfl⟩) (gPreV hK (g_rf hK hP (ci := 10) (q0 := 0) rfl rfl) hP) rfl rfl hl.1 rfl (lv_room (Nat.le_of_ble_eq_true rfl)) dX8_doubter_29 ⟨by omega, by omega⟩) ?_
            refine lv_aload_n hx hb dX8_doubter_32 rfl (lv_at hl 2 rfl) ?_
            refine lv_iload_n hx hb dX8_doubter_33 rfl (lv_at hl 1 rfl) ?_
            refine lv_iconst (v := nI (1)) hx hb dX8_doubter_34 gc_1 ?_
            refine rd_calle (va_runV (As := [.int (nI (b_15)), .int (nI (1))]) (rest := [.int (gby (f 0) (i_1) (1))]) ⟨hx, hb, hml, hown, hts⟩ (c_X8_by l D cA A (x) (f) (b_15) (1) (by omega)) (cwV 2 hts (gWV gm_15_9 gm_15_10 gm_15_11 gm_1_5 gm_15_12) rfl rfl rfl (by decide +kernel) ⟨Nat.le_of_ble_eq_true rfl, Nat.le_of_ble_eq_true rfl⟩) (gPreV hK (g_rf hK hP (ci := 10) (q0 := 0) rfl rfl) hP) rfl rfl hl.1 rfl (lv_room (Nat.le_of_ble_eq_true rfl)) dX8_doubter_35 ⟨by omega, by omega⟩) ?_
            refine g_icmp_le (P := gby (f 0) (i_1) (1) ≤ gby (f 0) (b_15) (1)) (tgt := 43) hx hb dX8_doubter_38 (by decide) Iff.rfl (fun c_18 => ?_) (fun c_18 => ?_)
            · have d_18 : ¬ gby (f 0) (b_15) (1) < gby (f 0) (i_1) (1) := Int32.not_lt.mpr c_18
              refine lv_iinc (v := nI (i_1 + 1)) (lv' := [(3, .int (nI (i_1 + 1))), (2, .int (nI (b_15))), (0, .ref (A 0)), (1, .int (panel))]) hx hb dX8_doubter_43 hl (k := 0) rfl (inc_1 _) (by decide) rfl (fun ls hl => ?_)
              refine lv_goto (tgt := 4) hx hb dX8_doubter_46 (by decide) ?_
              exact ih_8 (i_1 + 1) _ _ (by omega) (by omega) rfl (by rw [bst_lose (by simp [c_13]) eb_16 (by simp [c_18])]; rfl)  ls (lv_sub hl [0, 1, 2, 3] rfl)
            · have d_18 : gby (f 0) (b_15) (1) < gby (f 0) (i_1) (1) := Int32.not_le.mp c_18
              refine lv_iload_n hx hb dX8_doubter_41 rfl (lv_at hl 0 rfl) ?_
              refine lv_istore_n (lv' := [(2, .int (nI (i_1))), (3, .int (nI (i_1))), (0, .ref (A 0)), (1, .int (panel))]) hx hb dX8_doubter_42 rfl hl (by decide) rfl (fun ls hl => ?_)
              refine lv_iinc (v := nI (i_1 + 1)) (lv' := [(3, .int (nI (i_1 + 1))), (2, .int (nI (i_1))), (0, .ref (A 0)), (1, .int (panel))]) hx hb dX8_doubter_43 hl (k := 1) rfl (inc_1 _) (by decide) rfl (fun ls hl => ?_)
              refine lv_goto (tgt := 4) hx hb dX8_doubter_46 (by decide) ?_
              exact ih_8 (i_1 + 1) _ _ (by omega) (by omega) rfl (by rw [bst_win (by simp [c_13]) eb_16 (by simp [c_18])]; rfl)  ls (lv_sub hl [0, 1, 2, 3] rfl)
  exact LP_5 (jn + 1) 0 _ _ (by omega) (by omega) rfl rfl  ls (lv_sub hl [0, 1, 2, 3] rfl)

set_option maxHeartbeats 1000000 in
set_option maxRecDepth 100000 in
theorem c_X8_isRolled (l : Launch) (D : va_G) (cA : Nat → ClassId) (A : Nat → Nat) (x : Nat → Int32) (f : Nat → Nat → Int32) (q : Nat) (hq : q < 10) : Met l yX8_isRolled (gw yX8_isRolled cX8_isRolled 2 (some .boolean)) ({ frames := 1, cells := 0, slots := 0, locals := 22 } : Room) (gPc [.ref (A 0), .int (nI (q))] (fun H => va_P D vwCl (mw cA A x f) H) D cA) (rdI (fun r => r = b2i (rlM (f 0) q))) 0 0 nF := by
  refine gOf (by decide) (Nat.le_of_ble_eq_true rfl) ?_
  intro p e s m below meth c ls hx hb hml hr hlk hown hts hnm hP hK hl
  have hl : lv_has ls 2 [(0, .ref (A 0)), (1, .int (nI (q)))] := hl
  refine lv_aload_n hx hb dX8_isRolled_0 rfl (lv_at hl 0 rfl) ?_
  refine lv_iload_n hx hb dX8_isRolled_1 rfl (lv_at hl 1 rfl) ?_
  refine lv_iconst (v := nI (2)) hx hb dX8_isRolled_2 gc_2 ?_
  refine rd_calle (va_runV (As := [.int (nI (q)), .int (nI (2))]) (rest := []) ⟨hx, hb, hml, hown, hts⟩ (c_X8_of l D cA A (x) (f) (q) (2) (by omega)) (cwV 2 hts (gWV gm_14_3 gm_14_4 gm_14_5 gm_1_5 gm_14_6) rfl rfl rfl (by decide +kernel) ⟨Nat.le_of_ble_eq_true rfl, Nat.le_of_ble_eq_true rfl⟩) (gPreV hK (g_rf hK hP (ci := 10) (q0 := 0) rfl rfl) hP) rfl rfl hl.1 rfl (lv_room (Nat.le_of_ble_eq_true rfl)) dX8_isRolled_3 ⟨by omega, by omega⟩) ?_
  refine g_if_eq (P := gof (f 0) (q) (2) = 0) (tgt := 22) hx hb dX8_isRolled_6 (by decide) Iff.rfl (fun c_1 => ?_) (fun c_1 => ?_)
  · refine lv_iconst (v := nI (0)) hx hb dX8_isRolled_22 gc_0 ?_
    exact g_zret (v := nI (0)) hx hb hr hlk rfl dX8_isRolled_23 (by simp [rlM, b2i, c_1])
  · refine lv_aload_n hx hb dX8_isRolled_9 rfl (lv_at hl 0 rfl) ?_
    refine lv_iload_n hx hb dX8_isRolled_10 rfl (lv_at hl 1 rfl) ?_
    refine lv_iconst (v := nI (3)) hx hb dX8_isRolled_11 gc_3 ?_
    refine rd_calle (va_runV (As := [.int (nI (q)), .int (nI (3))]) (rest := []) ⟨hx, hb, hml, hown, hts⟩ (c_X8_of l D cA A (x) (f) (q) (3) (by omega)) (cwV 2 hts (gWV gm_14_3 gm_14_4 gm_14_5 gm_1_5 gm_14_6) rfl rfl rfl (by decide +kernel) ⟨Nat.le_of_ble_eq_true rfl, Nat.le_of_ble_eq_true rfl⟩) (gPreV hK (g_rf hK hP (ci := 10) (q0 := 0) rfl rfl) hP) rfl rfl hl.1 rfl (lv_room (Nat.le_of_ble_eq_true rfl)) dX8_isRolled_12 ⟨by omega, by omega⟩) ?_
    refine g_if_ne (P := gof (f 0) (q) (3) = 0) (tgt := 22) hx hb dX8_isRolled_15 (by decide) Iff.rfl (fun c_2 => ?_) (fun c_2 => ?_)
    · refine lv_iconst (v := nI (0)) hx hb dX8_isRolled_22 gc_0 ?_
      exact g_zret (v := nI (0)) hx hb hr hlk rfl dX8_isRolled_23 (by simp [rlM, b2i, c_1, c_2])
    · refine lv_iconst (v := nI (1)) hx hb dX8_isRolled_18 gc_1 ?_
      refine lv_goto (tgt := 23) hx hb dX8_isRolled_19 (by decide) ?_
      exact g_zret (v := nI (1)) hx hb hr hlk rfl dX8_isRolled_23 (by simp [rlM, b2i, c_1, c_2])

set_option maxHeartbeats 1000000 in
set_option maxRecDepth 100000 in
theorem c_X8_rolls (l : Launch) (D : va_G) (cA : Nat → ClassId) (A : Nat → Nat) (x : Nat → Int32) (f : Nat → Nat → Int32) (cn : Nat) (hc : f 0 1 = nI cn) (hcn : cn ≤ 10) : Met l yX8_rolls (gw yX8_rolls cX8_rolls 3 (some .int)) ({ frames := 2, cells := 0, slots := 0, locals := 43 } : Room) (gPc [.ref (A 0)] (fun H => va_P D vwCl (mw cA A x f) H) D cA) (rdI (fun r => r = nI (fb_ct (rlM (f 0)) cn))) 0 0 nF := by
  refine gOf (by decide) (Nat.le_of_ble_eq_true rfl) ?_
  intro p e s m below meth c ls hx hb hml hr hlk hown hts hnm hP hK hl
  have hl : lv_has ls 3 [(0, .ref (A 0))] := hl
  refine lv_iconst (v := nI (0)) hx hb dX8_rolls_0 gc_0 ?_
  refine lv_istore_n (lv' := [(1, .int (nI (0))), (0, .ref (A 0))]) hx hb dX8_rolls_1 rfl hl (by decide) rfl (fun ls hl => ?_)
  refine lv_iconst (v := nI (0)) hx hb dX8_rolls_2 gc_0 ?_
  refine lv_istore_n (lv' := [(2, .int (nI (0))), (1, .int (nI (0))), (0, .ref (A 0))]) hx hb dX8_rolls_3 rfl hl (by decide) rfl (fun ls hl => ?_)
  have LP_5 : ∀ (n_2 i_1 : Nat) (x_3 x_4 : Int32), i_1 ≤ cn → cn + 1 ≤ i_1 + n_2 → x_3 = nI (i_1) → x_4 = nI (fb_ct (rlM (f 0)) i_1) → ∀ (ls : Array Slot), lv_has ls 3 [(2, .int (x_3)), (1, .int (x_4)), (0, .ref (A 0))] → W p l e ({ frames := 2, cells := 0, slots := 0, locals := 43 } : Room) s m ([.ref (A 0)] : List Value).toArray below meth c s.heap [] 0 0 (MQ below (rdI (fun r => r = nI (fb_ct (rlM (f 0)) cn))) ([.ref (A 0)] : List Value).toArray s 0 0 nF) (F0 m 4 ls []) := by
    intro n_2
    induction n_2 with
    | zero => intro i_1 x_3 x_4 h1 h2; exact absurd h2 (by omega)
    | succ n_2 ih_8 =>
      intro i_1 x_3 x_4 h_9 h_10 e_6 e_7  ls hl
      subst e_6
      subst e_7
      refine lv_iload_n hx hb dX8_rolls_4 rfl (lv_at hl 0 rfl) ?_
      refine lv_aload_n hx hb dX8_rolls_5 rfl (lv_at hl 2 rfl) ?_
      refine g_get (v := .ref (A 1)) hx hb hts hown hK hP 0 rfl rfl gu_wsX80 0 (by decide) gm_5_14 rfl dX8_rolls_6 ?_
      refine lv_iconst (v := nI (1)) hx hb dX8_rolls_9 gc_1 ?_
      refine g_iald (x := nI (cn)) hx hb hK hP 1 rfl (by omega) (by decide) hc dX8_rolls_10 ?_
      refine g_icmp_ge (P := cn ≤ i_1) (tgt := 36) hx hb dX8_rolls_11 (by decide) (nI_leI (by omega) (by omega)) (fun c_11 => ?_) (fun c_11 => ?_)
      · have d_11 : ¬ i_1 < cn := Nat.not_lt.mpr c_11
        have hN_12 : cn = i_1 := by omega
        subst hN_12
        refine lv_iload_n hx hb dX8_rolls_36 rfl (lv_at hl 1 rfl) ?_
        exact g_iret (v := nI (fb_ct (rlM (f 0)) (cn))) hx hb hr hlk dX8_rolls_37 (rfl)
      · have d_11 : i_1 < cn := Nat.not_le.mp c_11
        refine lv_iload_n hx hb dX8_rolls_14 rfl (lv_at hl 1 rfl) ?_
        refine lv_aload_n hx hb dX8_rolls_15 rfl (lv_at hl 2 rfl) ?_
        refine lv_iload_n hx hb dX8_rolls_16 rfl (lv_at hl 0 rfl) ?_
        refine rd_calle (va_runV (As := [.int (nI (i_1))]) (rest := [.int (nI (fb_ct (rlM (f 0)) i_1))]) ⟨hx, hb, hml, hown, hts⟩ (c_X8_isRolled l D cA A (x) (f) (i_1) (by omega)) (cwV 1 hts (gWV gm_23_22 gm_23_23 gm_24_0 gm_1_5 gm_24_1) rfl rfl rfl (by decide +kernel) ⟨Nat.le_of_ble_eq_true rfl, Nat.le_of_ble_eq_true rfl⟩) (gPreV hK (g_rf hK hP (ci := 10) (q0 := 0) rfl rfl) hP) rfl rfl hl.1 rfl (lv_room (Nat.le_of_ble_eq_true rfl)) dX8_rolls_17 ⟨by omega, by omega⟩) ?_
        refine g_if_eq (P := rlM (f 0) (i_1) = false) (tgt := 27) hx hb dX8_rolls_20 (by decide) b2i_0 (fun c_13 => ?_) (fun c_13 => ?_)
        · refine lv_iconst (v := nI (0)) hx hb dX8_rolls_27 gc_0 ?_
          refine g_iadd hx hb dX8_rolls_28 ?_
          refine lv_istore_n (lv' := [(1, .int (nI ((fb_ct (rlM (f 0)) i_1) + (0)))), (2, .int (nI (i_1))), (0, .ref (A 0))]) hx hb dX8_rolls_29 rfl hl (by decide) rfl (fun ls hl => ?_)
          refine lv_iinc (v := nI (i_1 + 1)) (lv' := [(2, .int (nI (i_1 + 1))), (1, .int (nI ((fb_ct (rlM (f 0)) i_1) + (0)))), (0, .ref (A 0))]) hx hb dX8_rolls_30 hl (k := 1) rfl (inc_1 _) (by decide) rfl (fun ls hl => ?_)
          refine lv_goto (tgt := 4) hx hb dX8_rolls_33 (by decide) ?_
          exact ih_8 (i_1 + 1) _ _ (by omega) (by omega) rfl (by simp [fb_ct_succ, c_11, d_11, c_13])  ls (lv_sub hl [0, 1, 2] rfl)
        · have c_13 : rlM (f 0) (i_1) = true := eq_true_of_ne_false c_13
          refine lv_iconst (v := nI (1)) hx hb dX8_rolls_23 gc_1 ?_
          refine lv_goto (tgt := 28) hx hb dX8_rolls_24 (by decide) ?_
          refine g_iadd hx hb dX8_rolls_28 ?_
          refine lv_istore_n (lv' := [(1, .int (nI ((fb_ct (rlM (f 0)) i_1) + (1)))), (2, .int (nI (i_1))), (0, .ref (A 0))]) hx hb dX8_rolls_29 rfl hl (by decide) rfl (fun ls hl => ?_)
          refine lv_iinc (v := nI (i_1 + 1)) (lv' := [(2, .int (nI (i_1 + 1))), (1, .int (nI ((fb_ct (rlM (f 0)) i_1) + (1)))), (0, .ref (A 0))]) hx hb dX8_rolls_30 hl (k := 1) rfl (inc_1 _) (by decide) rfl (fun ls hl => ?_)
          refine lv_goto (tgt := 4) hx hb dX8_rolls_33 (by decide) ?_
          exact ih_8 (i_1 + 1) _ _ (by omega) (by omega) rfl (by simp [fb_ct_succ, c_11, d_11, c_13])  ls (lv_sub hl [0, 1, 2] rfl)
  exact LP_5 (cn + 1) 0 _ _ (by omega) (by omega) rfl rfl  ls (lv_sub hl [0, 1, 2] rfl)

set_option maxHeartbeats 1000000 in
set_option maxRecDepth 100000 in
theorem c_X8_isAhead (l : Launch) (D : va_G) (cA : Nat → ClassId) (A : Nat → Nat) (x : Nat → Int32) (f : Nat → Nat → Int32) (a b : Nat) (ha : a < 10) (hb_ : b < 10) : Met l yX8_isAhead (gw yX8_isAhead cX8_isAhead 5 (some .boolean)) ({ frames := 1, cells := 0, slots := 0, locals := 22 } : Room) (gPc [.ref (A 0), .int (nI (a)), .int (nI (b))] (fun H => va_P D vwCl (mw cA A x f) H) D cA) (rdI (fun r => r = b2i (ahM (f 0) a b))) 0 0 nF := by
  refine gOf (by decide) (Nat.le_of_ble_eq_true rfl) ?_
  intro p e s m below meth c ls hx hb hml hr hlk hown hts hnm hP hK hl
  have hl : lv_has ls 5 [(0, .ref (A 0)), (1, .int (nI (a))), (2, .int (nI (b)))] := hl
  refine lv_aload_n hx hb dX8_isAhead_0 rfl (lv_at hl 0 rfl) ?_
  refine lv_iload_n hx hb dX8_isAhead_1 rfl (lv_at hl 1 rfl) ?_
  refine lv_iconst (v := nI (1)) hx hb dX8_isAhead_2 gc_1 ?_
  refine rd_calle (va_runV (As := [.int (nI (a)), .int (nI (1))]) (rest := []) ⟨hx, hb, hml, hown, hts⟩ (c_X8_of l D cA A (x) (f) (a) (1) (by omega)) (cwV 2 hts (gWV gm_14_3 gm_14_4 gm_14_5 gm_1_5 gm_14_6) rfl rfl rfl (by decide +kernel) ⟨Nat.le_of_ble_eq_true rfl, Nat.le_of_ble_eq_true rfl⟩) (gPreV hK (g_rf hK hP (ci := 10) (q0 := 0) rfl rfl) hP) rfl rfl hl.1 rfl (lv_room (Nat.le_of_ble_eq_true rfl)) dX8_isAhead_3 ⟨by omega, by omega⟩) ?_
  refine lv_aload_n hx hb dX8_isAhead_6 rfl (lv_at hl 0 rfl) ?_
  refine lv_iload_n hx hb dX8_isAhead_7 rfl (lv_at hl 2 rfl) ?_
  refine lv_iconst (v := nI (1)) hx hb dX8_isAhead_8 gc_1 ?_
  refine rd_calle (va_runV (As := [.int (nI (b)), .int (nI (1))]) (rest := [.int (gof (f 0) (a) (1))]) ⟨hx, hb, hml, hown, hts⟩ (c_X8_of l D cA A (x) (f) (b) (1) (by omega)) (cwV 2 hts (gWV gm_14_3 gm_14_4 gm_14_5 gm_1_5 gm_14_6) rfl rfl rfl (by decide +kernel) ⟨Nat.le_of_ble_eq_true rfl, Nat.le_of_ble_eq_true rfl⟩) (gPreV hK (g_rf hK hP (ci := 10) (q0 := 0) rfl rfl) hP) rfl rfl hl.1 rfl (lv_room (Nat.le_of_ble_eq_true rfl)) dX8_isAhead_9 ⟨by omega, by omega⟩) ?_
  refine lv_isub hx hb dX8_isAhead_12 ?_
  refine lv_istore_n (lv' := [(3, .int ((gof (f 0) (a) (1)) - (gof (f 0) (b) (1)))), (0, .ref (A 0)), (1, .int (nI (a))), (2, .int (nI (b)))]) hx hb dX8_isAhead_13 rfl hl (by decide) rfl (fun ls hl => ?_)
  refine lv_iload_n hx hb dX8_isAhead_14 rfl (lv_at hl 0 rfl) ?_
  refine g_if_eq (P := (gof (f 0) (a) (1)) - (gof (f 0) (b) (1)) = 0) (tgt := 28) hx hb dX8_isAhead_15 (by decide) Iff.rfl (fun c_1 => ?_) (fun c_1 => ?_)
  · refine lv_aload_n hx hb dX8_isAhead_28 rfl (lv_at hl 1 rfl) ?_
    refine lv_iload_n hx hb dX8_isAhead_29 rfl (lv_at hl 2 rfl) ?_
    refine lv_iconst (v := nI (0)) hx hb dX8_isAhead_30 gc_0 ?_
    refine rd_calle (va_runV (As := [.int (nI (a)), .int (nI (0))]) (rest := []) ⟨hx, hb, hml, hown, hts⟩ (c_X8_of l D cA A (x) (f) (a) (0) (by omega)) (cwV 2 hts (gWV gm_14_3 gm_14_4 gm_14_5 gm_1_5 gm_14_6) rfl rfl rfl (by decide +kernel) ⟨Nat.le_of_ble_eq_true rfl, Nat.le_of_ble_eq_true rfl⟩) (gPreV hK (g_rf hK hP (ci := 10) (q0 := 0) rfl rfl) hP) rfl rfl hl.1 rfl (lv_room (Nat.le_of_ble_eq_true rfl)) dX8_isAhead_31 ⟨by omega, by omega⟩) ?_
    refine lv_aload_n hx hb dX8_isAhead_34 rfl (lv_at hl 1 rfl) ?_
    refine lv_iload_n hx hb dX8_isAhead_35 rfl (lv_at hl 3 rfl) ?_
    refine lv_iconst (v := nI (0)) hx hb dX8_isAhead_36 gc_0 ?_
    refine rd_calle (va_runV (As := [.int (nI (b)), .int (nI (0))]) (rest := [.int (gof (f 0) (a) (0))]) ⟨hx, hb, hml, hown, hts⟩ (c_X8_of l D cA A (x) (f) (b) (0) (by omega)) (cwV 2 hts (gWV gm_14_3 gm_14_4 gm_14_5 gm_1_5 gm_14_6) rfl rfl rfl (by decide +kernel) ⟨Nat.le_of_ble_eq_true rfl, Nat.le_of_ble_eq_true rfl⟩) (gPreV hK (g_rf hK hP (ci := 10) (q0 := 0) rfl rfl) hP) rfl rfl hl.1 rfl (lv_room (Nat.le_of_ble_eq_true rfl)) dX8_isAhead_37 ⟨by omega, by omega⟩) ?_
    refine lv_isub hx hb dX8_isAhead_40 ?_
    refine lv_istore (lv' := [(4, .int ((gof (f 0) (a) (0)) - (gof (f 0) (b) (0)))), (3, .int ((gof (f 0) (a) (1)) - (gof (f 0) (b) (1)))), (0, .ref (A 0)), (1, .int (nI (a))), (2, .int (nI (b)))]) hx hb dX8_isAhead_41 hl (by decide) rfl (fun ls hl => ?_)
    refine lv_iload hx hb dX8_isAhead_43 (lv_at hl 0 rfl) ?_
    refine g_if_lt (P := (gof (f 0) (a) (0)) - (gof (f 0) (b) (0)) < 0) (tgt := 58) hx hb dX8_isAhead_45 (by decide) Iff.rfl (fun c_2 => ?_) (fun c_2 => ?_)
    · have d_2 : ¬ 0 ≤ (gof (f 0) (a) (0)) - (gof (f 0) (b) (0)) := Int32.not_le.mpr c_2
      refine lv_iconst (v := nI (1)) hx hb dX8_isAhead_58 gc_1 ?_
      refine lv_goto (tgt := 63) hx hb dX8_isAhead_59 (by decide) ?_
      exact g_zret (v := nI (1)) hx hb hr hlk rfl dX8_isAhead_63 (by simp [ahM, b2i, c_1, c_2, d_2] <;> omega)
    · have d_2 : 0 ≤ (gof (f 0) (a) (0)) - (gof (f 0) (b) (0)) := Int32.not_lt.mp c_2
      refine lv_iload hx hb dX8_isAhead_48 (lv_at hl 0 rfl) ?_
      refine g_if_ne (P := (gof (f 0) (a) (0)) - (gof (f 0) (b) (0)) = 0) (tgt := 62) hx hb dX8_isAhead_50 (by decide) Iff.rfl (fun c_3 => ?_) (fun c_3 => ?_)
      · refine lv_iconst (v := nI (0)) hx hb dX8_isAhead_62 gc_0 ?_
        exact g_zret (v := nI (0)) hx hb hr hlk rfl dX8_isAhead_63 (by simp [ahM, b2i, c_1, c_2, d_2, c_3] <;> omega)
      · refine lv_iload_n hx hb dX8_isAhead_53 rfl (lv_at hl 3 rfl) ?_
        refine lv_iload_n hx hb dX8_isAhead_54 rfl (lv_at hl 4 rfl) ?_
        refine g_icmp_ge (P := b ≤ a) (tgt := 62) hx hb dX8_isAhead_55 (by decide) (nI_leI (by omega) (by omega)) (fun c_4 => ?_) (fun c_4 => ?_)
        · have d_4 : ¬ a < b := Nat.not_lt.mpr c_4
          refine lv_iconst (v := nI (0)) hx hb dX8_isAhead_62 gc_0 ?_
          exact g_zret (v := nI (0)) hx hb hr hlk rfl dX8_isAhead_63 (by simp [ahM, b2i, c_1, c_2, d_2, c_3, c_4, d_4] <;> omega)
        · have d_4 : a < b := Nat.not_le.mp c_4
          refine lv_iconst (v := nI (1)) hx hb dX8_isAhead_58 gc_1 ?_
          refine lv_goto (tgt := 63) hx hb dX8_isAhead_59 (by decide) ?_
          exact g_zret (v := nI (1)) hx hb hr hlk rfl dX8_isAhead_63 (by simp [ahM, b2i, c_1, c_2, d_2, c_3, c_4, d_4] <;> omega)
  · refine lv_iload_n hx hb dX8_isAhead_18 rfl (lv_at hl 0 rfl) ?_
    refine g_if_ge (P := 0 ≤ (gof (f 0) (a) (1)) - (gof (f 0) (b) (1))) (tgt := 26) hx hb dX8_isAhead_19 (by decide) Iff.rfl (fun c_5 => ?_) (fun c_5 => ?_)
    · have d_5 : ¬ (gof (f 0) (a) (1)) - (gof (f 0) (b) (1)) < 0 := Int32.not_lt.mpr c_5
      refine lv_iconst (v := nI (0)) hx hb dX8_isAhead_26 gc_0 ?_
      exact g_zret (v := nI (0)) hx hb hr hlk rfl dX8_isAhead_27 (by simp [ahM, b2i, c_1, c_5, d_5] <;> omega)
    · have d_5 : (gof (f 0) (a) (1)) - (gof (f 0) (b) (1)) < 0 := Int32.not_le.mp c_5
      refine lv_iconst (v := nI (1)) hx hb dX8_isAhead_22 gc_1 ?_
      refine lv_goto (tgt := 27) hx hb dX8_isAhead_23 (by decide) ?_
      exact g_zret (v := nI (1)) hx hb hr hlk rfl dX8_isAhead_27 (by simp [ahM, b2i, c_1, c_5, d_5] <;> omega)

set_option maxHeartbeats 1000000 in
set_option maxRecDepth 100000 in
theorem c_X8_placeOf (l : Launch) (D : va_G) (cA : Nat → ClassId) (A : Nat → Nat) (x : Nat → Int32) (f : Nat → Nat → Int32) (k cn : Nat) (hc : f 0 1 = nI cn) (hcn : cn ≤ 10) (hk : k < 10) : Met l yX8_placeOf (gw yX8_placeOf cX8_placeOf 4 (some .int)) ({ frames := 2, cells := 0, slots := 0, locals := 46 } : Room) (gPc [.ref (A 0), .int (nI (k))] (fun H => va_P D vwCl (mw cA A x f) H) D cA) (rdI (fun r => r = nI (poM (f 0) cn k))) 0 0 nF := by
  refine gOf (by decide) (Nat.le_of_ble_eq_true rfl) ?_
  intro p e s m below meth c ls hx hb hml hr hlk hown hts hnm hP hK hl
  have hl : lv_has ls 4 [(0, .ref (A 0)), (1, .int (nI (k)))] := hl
  refine lv_iconst (v := nI (0)) hx hb dX8_placeOf_0 gc_0 ?_
  refine lv_istore_n (lv' := [(2, .int (nI (0))), (0, .ref (A 0)), (1, .int (nI (k)))]) hx hb dX8_placeOf_1 rfl hl (by decide) rfl (fun ls hl => ?_)
  refine lv_iconst (v := nI (0)) hx hb dX8_placeOf_2 gc_0 ?_
  refine lv_istore_n (lv' := [(3, .int (nI (0))), (2, .int (nI (0))), (0, .ref (A 0)), (1, .int (nI (k)))]) hx hb dX8_placeOf_3 rfl hl (by decide) rfl (fun ls hl => ?_)
  have LP_5 : ∀ (n_2 i_1 : Nat) (x_3 x_4 : Int32), i_1 ≤ cn → cn + 1 ≤ i_1 + n_2 → x_3 = nI (i_1) → x_4 = nI (fb_ct (fun o => rlM (f 0) o && ahM (f 0) o k) i_1) → ∀ (ls : Array Slot), lv_has ls 4 [(3, .int (x_3)), (2, .int (x_4)), (0, .ref (A 0)), (1, .int (nI (k)))] → W p l e ({ frames := 2, cells := 0, slots := 0, locals := 46 } : Room) s m ([.ref (A 0), .int (nI (k))] : List Value).toArray below meth c s.heap [] 0 0 (MQ below (rdI (fun r => r = nI (poM (f 0) cn k))) ([.ref (A 0), .int (nI (k))] : List Value).toArray s 0 0 nF) (F0 m 4 ls []) := by
    intro n_2
    induction n_2 with
    | zero => intro i_1 x_3 x_4 h1 h2; exact absurd h2 (by omega)
    | succ n_2 ih_8 =>
      intro i_1 x_3 x_4 h_9 h_10 e_6 e_7  ls hl
      subst e_6
      subst e_7
      refine lv_iload_n hx hb dX8_placeOf_4 rfl (lv_at hl 0 rfl) ?_
      refine lv_aload_n hx hb dX8_placeOf_5 rfl (lv_at hl 2 rfl) ?_
      refine g_get (v := .ref (A 1)) hx hb hts hown hK hP 0 rfl rfl gu_wsX80 0 (by decide) gm_5_14 rfl dX8_placeOf_6 ?_
      refine lv_iconst (v := nI (1)) hx hb dX8_placeOf_9 gc_1 ?_
      refine g_iald (x := nI (cn)) hx hb hK hP 1 rfl (by omega) (by decide) hc dX8_placeOf_10 ?_
      refine g_icmp_ge (P := cn ≤ i_1) (tgt := 45) hx hb dX8_placeOf_11 (by decide) (nI_leI (by omega) (by omega)) (fun c_11 => ?_) (fun c_11 => ?_)
      · have d_11 : ¬ i_1 < cn := Nat.not_lt.mpr c_11
        have hN_12 : cn = i_1 := by omega
        subst hN_12
        refine lv_iload_n hx hb dX8_placeOf_45 rfl (lv_at hl 1 rfl) ?_
        exact g_iret (v := nI (fb_ct (fun o => rlM (f 0) o && ahM (f 0) o k) (cn))) hx hb hr hlk dX8_placeOf_46 (rfl)
      · have d_11 : i_1 < cn := Nat.not_le.mp c_11
        refine lv_iload_n hx hb dX8_placeOf_14 rfl (lv_at hl 1 rfl) ?_
        refine lv_aload_n hx hb dX8_placeOf_15 rfl (lv_at hl 2 rfl) ?_
        refine lv_iload_n hx hb dX8_placeOf_16 rfl (lv_at hl 0 rfl) ?_
        refine rd_calle (va_runV (As := [.int (nI (i_1))]) (rest := [.int (nI (fb_ct (fun o => rlM (f 0) o && ahM (f 0) o k) i_1))]) ⟨hx, hb, hml, hown, hts⟩ (c_X8_isRolled l D cA A (x) (f) (i_1) (by omega)) (cwV 1 hts (gWV gm_23_22 gm_23_23 gm_24_0 gm_1_5 gm_24_1) rfl rfl rfl (by decide +kernel) ⟨Nat.le_of_ble_eq_true rfl, Nat.le_of_ble_eq_true rfl⟩) (gPreV hK (g_rf hK hP (ci := 10) (q0 := 0) rfl rfl) hP) rfl rfl hl.1 rfl (lv_room (Nat.le_of_ble_eq_true rfl)) dX8_placeOf_17 ⟨by omega, by omega⟩) ?_
        refine g_if_eq (P := rlM (f 0) (i_1) = false) (tgt := 36) hx hb dX8_placeOf_20 (by decide) b2i_0 (fun c_13 => ?_) (fun c_13 => ?_)
        · refine lv_iconst (v := nI (0)) hx hb dX8_placeOf_36 gc_0 ?_
          refine g_iadd hx hb dX8_placeOf_37 ?_
          refine lv_istore_n (lv' := [(2, .int (nI ((fb_ct (fun o => rlM (f 0) o && ahM (f 0) o k) i_1) + (0)))), (3, .int (nI (i_1))), (0, .ref (A 0)), (1, .int (nI (k)))]) hx hb dX8_placeOf_38 rfl hl (by decide) rfl (fun ls hl => ?_)
          refine lv_iinc (v := nI (i_1 + 1)) (lv' := [(3, .int (nI (i_1 + 1))), (2, .int (nI ((fb_ct (fun o => rlM (f 0) o && ahM (f 0) o k) i_1) + (0)))), (0, .ref (A 0)), (1, .int (nI (k)))]) hx hb dX8_placeOf_39 hl (k := 1) rfl (inc_1 _) (by decide) rfl (fun ls hl => ?_)
          refine lv_goto (tgt := 4) hx hb dX8_placeOf_42 (by decide) ?_
          exact ih_8 (i_1 + 1) _ _ (by omega) (by omega) rfl (by simp [fb_ct_succ, c_11, d_11, c_13])  ls (lv_sub hl [0, 1, 2, 3] rfl)
        · have c_13 : rlM (f 0) (i_1) = true := eq_true_of_ne_false c_13
          refine lv_aload_n hx hb dX8_placeOf_23 rfl (lv_at hl 2 rfl) ?_
          refine lv_iload_n hx hb dX8_placeOf_24 rfl (lv_at hl 0 rfl) ?_
          refine lv_iload_n hx hb dX8_placeOf_25 rfl (lv_at hl 3 rfl) ?_
          refine rd_calle (va_runV (As := [.int (nI (i_1)), .int (nI (k))]) (rest := [.int (nI (fb_ct (fun o => rlM (f 0) o && ahM (f 0) o k) i_1))]) ⟨hx, hb, hml, hown, hts⟩ (c_X8_isAhead l D cA A (x) (f) (i_1) (k) (by omega) (by omega)) (cwV 2 hts (gWV gm_24_10 gm_24_11 gm_24_12 gm_1_5 gm_24_13) rfl rfl rfl (by decide +kernel) ⟨Nat.le_of_ble_eq_true rfl, Nat.le_of_ble_eq_true rfl⟩) (gPreV hK (g_rf hK hP (ci := 10) (q0 := 0) rfl rfl) hP) rfl rfl hl.1 rfl (lv_room (Nat.le_of_ble_eq_true rfl)) dX8_placeOf_26 ⟨by omega, by omega⟩) ?_
          refine g_if_eq (P := ahM (f 0) (i_1) (k) = false) (tgt := 36) hx hb dX8_placeOf_29 (by decide) b2i_0 (fun c_14 => ?_) (fun c_14 => ?_)
          · refine lv_iconst (v := nI (0)) hx hb dX8_placeOf_36 gc_0 ?_
            refine g_iadd hx hb dX8_placeOf_37 ?_
            refine lv_istore_n (lv' := [(2, .int (nI ((fb_ct (fun o => rlM (f 0) o && ahM (f 0) o k) i_1) + (0)))), (3, .int (nI (i_1))), (0, .ref (A 0)), (1, .int (nI (k)))]) hx hb dX8_placeOf_38 rfl hl (by decide) rfl (fun ls hl => ?_)
            refine lv_iinc (v := nI (i_1 + 1)) (lv' := [(3, .int (nI (i_1 + 1))), (2, .int (nI ((fb_ct (fun o => rlM (f 0) o && ahM (f 0) o k) i_1) + (0)))), (0, .ref (A 0)), (1, .int (nI (k)))]) hx hb dX8_placeOf_39 hl (k := 1) rfl (inc_1 _) (by decide) rfl (fun ls hl => ?_)
            refine lv_goto (tgt := 4) hx hb dX8_placeOf_42 (by decide) ?_
            exact ih_8 (i_1 + 1) _ _ (by omega) (by omega) rfl (by simp [fb_ct_succ, c_11, d_11, c_13, c_14])  ls (lv_sub hl [0, 1, 2, 3] rfl)
          · have c_14 : ahM (f 0) (i_1) (k) = true := eq_true_of_ne_false c_14
            refine lv_iconst (v := nI (1)) hx hb dX8_placeOf_32 gc_1 ?_
            refine lv_goto (tgt := 37) hx hb dX8_placeOf_33 (by decide) ?_
            refine g_iadd hx hb dX8_placeOf_37 ?_
            refine lv_istore_n (lv' := [(2, .int (nI ((fb_ct (fun o => rlM (f 0) o && ahM (f 0) o k) i_1) + (1)))), (3, .int (nI (i_1))), (0, .ref (A 0)), (1, .int (nI (k)))]) hx hb dX8_placeOf_38 rfl hl (by decide) rfl (fun ls hl => ?_)
            refine lv_iinc (v := nI (i_1 + 1)) (lv' := [(3, .int (nI (i_1 + 1))), (2, .int (nI ((fb_ct (fun o => rlM (f 0) o && ahM (f 0) o k) i_1) + (1)))), (0, .ref (A 0)), (1, .int (nI (k)))]) hx hb dX8_placeOf_39 hl (k := 1) rfl (inc_1 _) (by decide) rfl (fun ls hl => ?_)
            refine lv_goto (tgt := 4) hx hb dX8_placeOf_42 (by decide) ?_
            exact ih_8 (i_1 + 1) _ _ (by omega) (by omega) rfl (by simp [fb_ct_succ, c_11, d_11, c_13, c_14])  ls (lv_sub hl [0, 1, 2, 3] rfl)
  exact LP_5 (cn + 1) 0 _ _ (by omega) (by omega) rfl rfl  ls (lv_sub hl [0, 1, 2, 3] rfl)

set_option maxHeartbeats 1000000 in
set_option maxRecDepth 100000 in
theorem c_X8_rolledAt (l : Launch) (D : va_G) (cA : Nat → ClassId) (A : Nat → Nat) (x : Nat → Int32) (f : Nat → Nat → Int32) (place : Int32) (cn : Nat) (hc : f 0 1 = nI cn) (hcn : cn ≤ 10) : Met l yX8_rolledAt (gw yX8_rolledAt cX8_rolledAt 3 (some .int)) ({ frames := 3, cells := 0, slots := 0, locals := 69 } : Room) (gPc [.ref (A 0), .int (place)] (fun H => va_P D vwCl (mw cA A x f) H) D cA) (rdI (fun r => r = oI (raM (f 0) cn place))) 0 0 nF := by
  refine gOf (by decide) (Nat.le_of_ble_eq_true rfl) ?_
  intro p e s m below meth c ls hx hb hml hr hlk hown hts hnm hP hK hl
  have hl : lv_has ls 3 [(0, .ref (A 0)), (1, .int (place))] := hl
  refine lv_iconst (v := nI (0)) hx hb dX8_rolledAt_0 gc_0 ?_
  refine lv_istore_n (lv' := [(2, .int (nI (0))), (0, .ref (A 0)), (1, .int (place))]) hx hb dX8_rolledAt_1 rfl hl (by decide) rfl (fun ls hl => ?_)
  have LP_4 : ∀ (n_2 i_1 : Nat) (x_3 : Int32), i_1 ≤ cn → cn + 1 ≤ i_1 + n_2 → x_3 = nI (i_1) → fnd (fun k => rlM (f 0) k && decide (nI (poM (f 0) cn k) = place)) (i_1) = none → ∀ (ls : Array Slot), lv_has ls 3 [(2, .int (x_3)), (0, .ref (A 0)), (1, .int (place))] → W p l e ({ frames := 3, cells := 0, slots := 0, locals := 69 } : Room) s m ([.ref (A 0), .int (place)] : List Value).toArray below meth c s.heap [] 0 0 (MQ below (rdI (fun r => r = oI (raM (f 0) cn place))) ([.ref (A 0), .int (place)] : List Value).toArray s 0 0 nF) (F0 m 2 ls []) := by
    intro n_2
    induction n_2 with
    | zero => intro i_1 x_3 h1 h2; exact absurd h2 (by omega)
    | succ n_2 ih_6 =>
      intro i_1 x_3 h_7 h_8 e_5 hv ls hl
      subst e_5
      refine lv_iload_n hx hb dX8_rolledAt_2 rfl (lv_at hl 0 rfl) ?_
      refine lv_aload_n hx hb dX8_rolledAt_3 rfl (lv_at hl 1 rfl) ?_
      refine g_get (v := .ref (A 1)) hx hb hts hown hK hP 0 rfl rfl gu_wsX80 0 (by decide) gm_5_14 rfl dX8_rolledAt_4 ?_
      refine lv_iconst (v := nI (1)) hx hb dX8_rolledAt_7 gc_1 ?_
      refine g_iald (x := nI (cn)) hx hb hK hP 1 rfl (by omega) (by decide) hc dX8_rolledAt_8 ?_
      refine g_icmp_ge (P := cn ≤ i_1) (tgt := 37) hx hb dX8_rolledAt_9 (by decide) (nI_leI (by omega) (by omega)) (fun c_9 => ?_) (fun c_9 => ?_)
      · have d_9 : ¬ i_1 < cn := Nat.not_lt.mpr c_9
        have hN_10 : cn = i_1 := by omega
        subst hN_10
        refine lv_iconst (v := -1) hx hb dX8_rolledAt_37 gc_m1 ?_
        exact g_iret (v := -1) hx hb hr hlk dX8_rolledAt_38 (by rw [raM, hv]; rfl)
      · have d_9 : i_1 < cn := Nat.not_le.mp c_9
        refine lv_aload_n hx hb dX8_rolledAt_12 rfl (lv_at hl 1 rfl) ?_
        refine lv_iload_n hx hb dX8_rolledAt_13 rfl (lv_at hl 0 rfl) ?_
        refine rd_calle (va_runV (As := [.int (nI (i_1))]) (rest := []) ⟨hx, hb, hml, hown, hts⟩ (c_X8_isRolled l D cA A (x) (f) (i_1) (by omega)) (cwV 1 hts (gWV gm_23_22 gm_23_23 gm_24_0 gm_1_5 gm_24_1) rfl rfl rfl (by decide +kernel) ⟨Nat.le_of_ble_eq_true rfl, Nat.le_of_ble_eq_true rfl⟩) (gPreV hK (g_rf hK hP (ci := 10) (q0 := 0) rfl rfl) hP) rfl rfl hl.1 rfl (lv_room (Nat.le_of_ble_eq_true rfl)) dX8_rolledAt_14 ⟨by omega, by omega⟩) ?_
        refine g_if_eq (P := rlM (f 0) (i_1) = false) (tgt := 31) hx hb dX8_rolledAt_17 (by decide) b2i_0 (fun c_11 => ?_) (fun c_11 => ?_)
        · refine lv_iinc (v := nI (i_1 + 1)) (lv' := [(2, .int (nI (i_1 + 1))), (0, .ref (A 0)), (1, .int (place))]) hx hb dX8_rolledAt_31 hl (k := 0) rfl (inc_1 _) (by decide) rfl (fun ls hl => ?_)
          refine lv_goto (tgt := 2) hx hb dX8_rolledAt_34 (by decide) ?_
          exact ih_6 (i_1 + 1) _ (by omega) (by omega) rfl (fnd_succ_none hv (by simp [c_9, d_9, c_11])) ls (lv_sub hl [0, 1, 2] rfl)
        · have c_11 : rlM (f 0) (i_1) = true := eq_true_of_ne_false c_11
          refine lv_aload_n hx hb dX8_rolledAt_20 rfl (lv_at hl 1 rfl) ?_
          refine lv_iload_n hx hb dX8_rolledAt_21 rfl (lv_at hl 0 rfl) ?_
          refine rd_calle (va_runV (As := [.int (nI (i_1))]) (rest := []) ⟨hx, hb, hml, hown, hts⟩ (c_X8_placeOf l D cA A (x) (f) (i_1) cn hc hcn (by omega)) (cwV 1 hts (gWV gm_24_6 gm_24_7 gm_24_8 gm_1_5 gm_24_9) rfl rfl rfl (by decide +kernel) ⟨Nat.le_of_ble_eq_true rfl, Nat.le_of_ble_eq_true rfl⟩) (gPreV hK (g_rf hK hP (ci := 10) (q0 := 0) rfl rfl) hP) rfl rfl hl.1 rfl (lv_room (Nat.le_of_ble_eq_true rfl)) dX8_rolledAt_22 ⟨by omega, by omega⟩) ?_
          refine lv_iload_n hx hb dX8_rolledAt_25 rfl (lv_at hl 2 rfl) ?_
          refine g_icmp_ne (P := nI (poM (f 0) cn (i_1)) = place) (tgt := 31) hx hb dX8_rolledAt_26 (by decide) Iff.rfl (fun c_12 => ?_) (fun c_12 => ?_)
          · refine lv_iinc (v := nI (i_1 + 1)) (lv' := [(2, .int (nI (i_1 + 1))), (0, .ref (A 0)), (1, .int (place))]) hx hb dX8_rolledAt_31 hl (k := 0) rfl (inc_1 _) (by decide) rfl (fun ls hl => ?_)
            refine lv_goto (tgt := 2) hx hb dX8_rolledAt_34 (by decide) ?_
            exact ih_6 (i_1 + 1) _ (by omega) (by omega) rfl (fnd_succ_none hv (by simp [c_9, d_9, c_11, c_12])) ls (lv_sub hl [0, 1, 2] rfl)
          · refine lv_iload_n hx hb dX8_rolledAt_29 rfl (lv_at hl 0 rfl) ?_
            exact g_iret (v := nI (i_1)) hx hb hr hlk dX8_rolledAt_30 (by rw [raM, fnd_stop hv (by simp [c_9, d_9, c_11, c_12]) cn (by omega)]; rfl)
  exact LP_4 (cn + 1) 0 _ (by omega) (by omega) rfl rfl ls (lv_sub hl [0, 1, 2] rfl)

set_option maxHeartbeats 1000000 in
set_option maxRecDepth 100000 in
theorem c_X8_isMoreDoubtful (l : Launch) (D : va_G) (cA : Nat → ClassId) (A : Nat → Nat) (x : Nat → Int32) (f : Nat → Nat → Int32) (a b : Nat) (ha : a < 9) (hb_ : b < 9) : Met l yX8_isMoreDoubtful (gw yX8_isMoreDoubtful cX8_isMoreDoubtful 5 (some .boolean)) ({ frames := 1, cells := 0, slots := 0, locals := 22 } : Room) (gPc [.ref (A 0), .int (nI (a)), .int (nI (b))] (fun H => va_P D vwCl (mw cA A x f) H) D cA) (rdI (fun r => r = b2i (mdM (f 0) a b))) 0 0 nF := by
  refine gOf (by decide) (Nat.le_of_ble_eq_true rfl) ?_
  intro p e s m below meth c ls hx hb hml hr hlk hown hts hnm hP hK hl
  have hl : lv_has ls 5 [(0, .ref (A 0)), (1, .int (nI (a))), (2, .int (nI (b)))] := hl
  refine lv_aload_n hx hb dX8_isMoreDoubtful_0 rfl (lv_at hl 0 rfl) ?_
  refine lv_iload_n hx hb dX8_isMoreDoubtful_1 rfl (lv_at hl 1 rfl) ?_
  refine lv_iconst (v := nI (1)) hx hb dX8_isMoreDoubtful_2 gc_1 ?_
  refine rd_calle (va_runV (As := [.int (nI (a)), .int (nI (1))]) (rest := []) ⟨hx, hb, hml, hown, hts⟩ (c_X8_by l D cA A (x) (f) (a) (1) (by omega)) (cwV 2 hts (gWV gm_15_9 gm_15_10 gm_15_11 gm_1_5 gm_15_12) rfl rfl rfl (by decide +kernel) ⟨Nat.le_of_ble_eq_true rfl, Nat.le_of_ble_eq_true rfl⟩) (gPreV hK (g_rf hK hP (ci := 10) (q0 := 0) rfl rfl) hP) rfl rfl hl.1 rfl (lv_room (Nat.le_of_ble_eq_true rfl)) dX8_isMoreDoubtful_3 ⟨by omega, by omega⟩) ?_
  refine lv_aload_n hx hb dX8_isMoreDoubtful_6 rfl (lv_at hl 0 rfl) ?_
  refine lv_iload_n hx hb dX8_isMoreDoubtful_7 rfl (lv_at hl 2 rfl) ?_
  refine lv_iconst (v := nI (1)) hx hb dX8_isMoreDoubtful_8 gc_1 ?_
  refine rd_calle (va_runV (As := [.int (nI (b)), .int (nI (1))]) (rest := [.int (gby (f 0) (a) (1))]) ⟨hx, hb, hml, hown, hts⟩ (c_X8_by l D cA A (x) (f) (b) (1) (by omega)) (cwV 2 hts (gWV gm_15_9 gm_15_10 gm_15_11 gm_1_5 gm_15_12) rfl rfl rfl (by decide +kernel) ⟨Nat.le_of_ble_eq_true rfl, Nat.le_of_ble_eq_true rfl⟩) (gPreV hK (g_rf hK hP (ci := 10) (q0 := 0) rfl rfl) hP) rfl rfl hl.1 rfl (lv_room (Nat.le_of_ble_eq_true rfl)) dX8_isMoreDoubtful_9 ⟨by omega, by omega⟩) ?_
  refine lv_isub hx hb dX8_isMoreDoubtful_12 ?_
  refine lv_istore_n (lv' := [(3, .int ((gby (f 0) (a) (1)) - (gby (f 0) (b) (1)))), (0, .ref (A 0)), (1, .int (nI (a))), (2, .int (nI (b)))]) hx hb dX8_isMoreDoubtful_13 rfl hl (by decide) rfl (fun ls hl => ?_)
  refine lv_iload_n hx hb dX8_isMoreDoubtful_14 rfl (lv_at hl 0 rfl) ?_
  refine g_if_eq (P := (gby (f 0) (a) (1)) - (gby (f 0) (b) (1)) = 0) (tgt := 28) hx hb dX8_isMoreDoubtful_15 (by decide) Iff.rfl (fun c_1 => ?_) (fun c_1 => ?_)
  · refine lv_aload_n hx hb dX8_isMoreDoubtful_28 rfl (lv_at hl 1 rfl) ?_
    refine lv_iload_n hx hb dX8_isMoreDoubtful_29 rfl (lv_at hl 2 rfl) ?_
    refine lv_iconst (v := nI (0)) hx hb dX8_isMoreDoubtful_30 gc_0 ?_
    refine rd_calle (va_runV (As := [.int (nI (a)), .int (nI (0))]) (rest := []) ⟨hx, hb, hml, hown, hts⟩ (c_X8_by l D cA A (x) (f) (a) (0) (by omega)) (cwV 2 hts (gWV gm_15_9 gm_15_10 gm_15_11 gm_1_5 gm_15_12) rfl rfl rfl (by decide +kernel) ⟨Nat.le_of_ble_eq_true rfl, Nat.le_of_ble_eq_true rfl⟩) (gPreV hK (g_rf hK hP (ci := 10) (q0 := 0) rfl rfl) hP) rfl rfl hl.1 rfl (lv_room (Nat.le_of_ble_eq_true rfl)) dX8_isMoreDoubtful_31 ⟨by omega, by omega⟩) ?_
    refine lv_aload_n hx hb dX8_isMoreDoubtful_34 rfl (lv_at hl 1 rfl) ?_
    refine lv_iload_n hx hb dX8_isMoreDoubtful_35 rfl (lv_at hl 3 rfl) ?_
    refine lv_iconst (v := nI (0)) hx hb dX8_isMoreDoubtful_36 gc_0 ?_
    refine rd_calle (va_runV (As := [.int (nI (b)), .int (nI (0))]) (rest := [.int (gby (f 0) (a) (0))]) ⟨hx, hb, hml, hown, hts⟩ (c_X8_by l D cA A (x) (f) (b) (0) (by omega)) (cwV 2 hts (gWV gm_15_9 gm_15_10 gm_15_11 gm_1_5 gm_15_12) rfl rfl rfl (by decide +kernel) ⟨Nat.le_of_ble_eq_true rfl, Nat.le_of_ble_eq_true rfl⟩) (gPreV hK (g_rf hK hP (ci := 10) (q0 := 0) rfl rfl) hP) rfl rfl hl.1 rfl (lv_room (Nat.le_of_ble_eq_true rfl)) dX8_isMoreDoubtful_37 ⟨by omega, by omega⟩) ?_
    refine lv_isub hx hb dX8_isMoreDoubtful_40 ?_
    refine lv_istore (lv' := [(4, .int ((gby (f 0) (a) (0)) - (gby (f 0) (b) (0)))), (3, .int ((gby (f 0) (a) (1)) - (gby (f 0) (b) (1)))), (0, .ref (A 0)), (1, .int (nI (a))), (2, .int (nI (b)))]) hx hb dX8_isMoreDoubtful_41 hl (by decide) rfl (fun ls hl => ?_)
    refine lv_iload hx hb dX8_isMoreDoubtful_43 (lv_at hl 0 rfl) ?_
    refine g_if_gt (P := 0 < (gby (f 0) (a) (0)) - (gby (f 0) (b) (0))) (tgt := 58) hx hb dX8_isMoreDoubtful_45 (by decide) Iff.rfl (fun c_2 => ?_) (fun c_2 => ?_)
    · have d_2 : ¬ (gby (f 0) (a) (0)) - (gby (f 0) (b) (0)) ≤ 0 := Int32.not_le.mpr c_2
      refine lv_iconst (v := nI (1)) hx hb dX8_isMoreDoubtful_58 gc_1 ?_
      refine lv_goto (tgt := 63) hx hb dX8_isMoreDoubtful_59 (by decide) ?_
      exact g_zret (v := nI (1)) hx hb hr hlk rfl dX8_isMoreDoubtful_63 (by simp [mdM, b2i, c_1, c_2, d_2] <;> omega)
    · have d_2 : (gby (f 0) (a) (0)) - (gby (f 0) (b) (0)) ≤ 0 := Int32.not_lt.mp c_2
      refine lv_iload hx hb dX8_isMoreDoubtful_48 (lv_at hl 0 rfl) ?_
      refine g_if_ne (P := (gby (f 0) (a) (0)) - (gby (f 0) (b) (0)) = 0) (tgt := 62) hx hb dX8_isMoreDoubtful_50 (by decide) Iff.rfl (fun c_3 => ?_) (fun c_3 => ?_)
      · refine lv_iconst (v := nI (0)) hx hb dX8_isMoreDoubtful_62 gc_0 ?_
        exact g_zret (v := nI (0)) hx hb hr hlk rfl dX8_isMoreDoubtful_63 (by simp [mdM, b2i, c_1, c_2, d_2, c_3] <;> omega)
      · refine lv_iload_n hx hb dX8_isMoreDoubtful_53 rfl (lv_at hl 3 rfl) ?_
        refine lv_iload_n hx hb dX8_isMoreDoubtful_54 rfl (lv_at hl 4 rfl) ?_
        refine g_icmp_ge (P := b ≤ a) (tgt := 62) hx hb dX8_isMoreDoubtful_55 (by decide) (nI_leI (by omega) (by omega)) (fun c_4 => ?_) (fun c_4 => ?_)
        · have d_4 : ¬ a < b := Nat.not_lt.mpr c_4
          refine lv_iconst (v := nI (0)) hx hb dX8_isMoreDoubtful_62 gc_0 ?_
          exact g_zret (v := nI (0)) hx hb hr hlk rfl dX8_isMoreDoubtful_63 (by simp [mdM, b2i, c_1, c_2, d_2, c_3, c_4, d_4] <;> omega)
        · have d_4 : a < b := Nat.not_le.mp c_4
          refine lv_iconst (v := nI (1)) hx hb dX8_isMoreDoubtful_58 gc_1 ?_
          refine lv_goto (tgt := 63) hx hb dX8_isMoreDoubtful_59 (by decide) ?_
          exact g_zret (v := nI (1)) hx hb hr hlk rfl dX8_isMoreDoubtful_63 (by simp [mdM, b2i, c_1, c_2, d_2, c_3, c_4, d_4] <;> omega)
  · refine lv_iload_n hx hb dX8_isMoreDoubtful_18 rfl (lv_at hl 0 rfl) ?_
    refine g_if_le (P := (gby (f 0) (a) (1)) - (gby (f 0) (b) (1)) ≤ 0) (tgt := 26) hx hb dX8_isMoreDoubtful_19 (by decide) Iff.rfl (fun c_5 => ?_) (fun c_5 => ?_)
    · have d_5 : ¬ 0 < (gby (f 0) (a) (1)) - (gby (f 0) (b) (1)) := Int32.not_lt.mpr c_5
      refine lv_iconst (v := nI (0)) hx hb dX8_isMoreDoubtful_26 gc_0 ?_
      exact g_zret (v := nI (0)) hx hb hr hlk rfl dX8_isMoreDoubtful_27 (by simp [mdM, b2i, c_1, c_5, d_5] <;> omega)
    · have d_5 : 0 < (gby (f 0) (a) (1)) - (gby (f 0) (b) (1)) := Int32.not_le.mp c_5
      refine lv_iconst (v := nI (1)) hx hb dX8_isMoreDoubtful_22 gc_1 ?_
      refine lv_goto (tgt := 27) hx hb dX8_isMoreDoubtful_23 (by decide) ?_
      exact g_zret (v := nI (1)) hx hb hr hlk rfl dX8_isMoreDoubtful_27 (by simp [mdM, b2i, c_1, c_5, d_5] <;> omega)

set_option maxHeartbeats 1000000 in
set_option maxRecDepth 100000 in
theorem c_X8_cases (l : Launch) (D : va_G) (cA : Nat → ClassId) (A : Nat → Nat) (x : Nat → Int32) (f : Nat → Nat → Int32) (z : Bool) (cn : Nat) (hc : f 0 1 = nI cn) (hcn : cn ≤ 10) : Met l yX8_cases (gw yX8_cases cX8_cases 4 (some .int)) ({ frames := 2, cells := 0, slots := 0, locals := 43 } : Room) (gPc [.ref (A 0), .int (b2i (z))] (fun H => va_P D vwCl (mw cA A x f) H) D cA) (rdI (fun r => r = nI (fb_ct (fun k => if z = true then clM (f 0) k else decide (gof (f 0) k 2 = 0)) cn))) 0 0 nF := by
  refine gOf (by decide) (Nat.le_of_ble_eq_true rfl) ?_
  intro p e s m below meth c ls hx hb hml hr hlk hown hts hnm hP hK hl
  have hl : lv_has ls 4 [(0, .ref (A 0)), (1, .int (b2i (z)))] := hl
  refine lv_iconst (v := nI (0)) hx hb dX8_cases_0 gc_0 ?_
  refine lv_istore_n (lv' := [(2, .int (nI (0))), (0, .ref (A 0)), (1, .int (b2i (z)))]) hx hb dX8_cases_1 rfl hl (by decide) rfl (fun ls hl => ?_)
  refine lv_iconst (v := nI (0)) hx hb dX8_cases_2 gc_0 ?_
  refine lv_istore_n (lv' := [(3, .int (nI (0))), (2, .int (nI (0))), (0, .ref (A 0)), (1, .int (b2i (z)))]) hx hb dX8_cases_3 rfl hl (by decide) rfl (fun ls hl => ?_)
  have LP_5 : ∀ (n_2 i_1 : Nat) (x_3 x_4 : Int32), i_1 ≤ cn → cn + 1 ≤ i_1 + n_2 → x_3 = nI (i_1) → x_4 = nI (fb_ct (fun k => if z = true then clM (f 0) k else decide (gof (f 0) k 2 = 0)) i_1) → ∀ (ls : Array Slot), lv_has ls 4 [(3, .int (x_3)), (2, .int (x_4)), (0, .ref (A 0)), (1, .int (b2i (z)))] → W p l e ({ frames := 2, cells := 0, slots := 0, locals := 43 } : Room) s m ([.ref (A 0), .int (b2i (z))] : List Value).toArray below meth c s.heap [] 0 0 (MQ below (rdI (fun r => r = nI (fb_ct (fun k => if z = true then clM (f 0) k else decide (gof (f 0) k 2 = 0)) cn))) ([.ref (A 0), .int (b2i (z))] : List Value).toArray s 0 0 nF) (F0 m 4 ls []) := by
    intro n_2
    induction n_2 with
    | zero => intro i_1 x_3 x_4 h1 h2; exact absurd h2 (by omega)
    | succ n_2 ih_8 =>
      intro i_1 x_3 x_4 h_9 h_10 e_6 e_7  ls hl
      subst e_6
      subst e_7
      refine lv_iload_n hx hb dX8_cases_4 rfl (lv_at hl 0 rfl) ?_
      refine lv_aload_n hx hb dX8_cases_5 rfl (lv_at hl 2 rfl) ?_
      refine g_get (v := .ref (A 1)) hx hb hts hown hK hP 0 rfl rfl gu_wsX80 0 (by decide) gm_5_14 rfl dX8_cases_6 ?_
      refine lv_iconst (v := nI (1)) hx hb dX8_cases_9 gc_1 ?_
      refine g_iald (x := nI (cn)) hx hb hK hP 1 rfl (by omega) (by decide) hc dX8_cases_10 ?_
      refine g_icmp_ge (P := cn ≤ i_1) (tgt := 52) hx hb dX8_cases_11 (by decide) (nI_leI (by omega) (by omega)) (fun c_11 => ?_) (fun c_11 => ?_)
      · have d_11 : ¬ i_1 < cn := Nat.not_lt.mpr c_11
        have hN_12 : cn = i_1 := by omega
        subst hN_12
        refine lv_iload_n hx hb dX8_cases_52 rfl (lv_at hl 1 rfl) ?_
        exact g_iret (v := nI (fb_ct (fun k => if z = true then clM (f 0) k else decide (gof (f 0) k 2 = 0)) (cn))) hx hb hr hlk dX8_cases_53 (rfl)
      · have d_11 : i_1 < cn := Nat.not_le.mp c_11
        refine lv_iload_n hx hb dX8_cases_14 rfl (lv_at hl 1 rfl) ?_
        refine lv_iload_n hx hb dX8_cases_15 rfl (lv_at hl 3 rfl) ?_
        refine g_if_eq (P := z = false) (tgt := 30) hx hb dX8_cases_16 (by decide) b2i_0 (fun c_13 => ?_) (fun c_13 => ?_)
        · refine lv_aload_n hx hb dX8_cases_30 rfl (lv_at hl 2 rfl) ?_
          refine lv_iload_n hx hb dX8_cases_31 rfl (lv_at hl 0 rfl) ?_
          refine lv_iconst (v := nI (2)) hx hb dX8_cases_32 gc_2 ?_
          refine rd_calle (va_runV (As := [.int (nI (i_1)), .int (nI (2))]) (rest := [.int (nI (fb_ct (fun k => if z = true then clM (f 0) k else decide (gof (f 0) k 2 = 0)) i_1))]) ⟨hx, hb, hml, hown, hts⟩ (c_X8_of l D cA A (x) (f) (i_1) (2) (by omega)) (cwV 2 hts (gWV gm_14_3 gm_14_4 gm_14_5 gm_1_5 gm_14_6) rfl rfl rfl (by decide +kernel) ⟨Nat.le_of_ble_eq_true rfl, Nat.le_of_ble_eq_true rfl⟩) (gPreV hK (g_rf hK hP (ci := 10) (q0 := 0) rfl rfl) hP) rfl rfl hl.1 rfl (lv_room (Nat.le_of_ble_eq_true rfl)) dX8_cases_33 ⟨by omega, by omega⟩) ?_
          refine g_if_ne (P := gof (f 0) (i_1) (2) = 0) (tgt := 43) hx hb dX8_cases_36 (by decide) Iff.rfl (fun c_14 => ?_) (fun c_14 => ?_)
          · refine lv_iconst (v := nI (0)) hx hb dX8_cases_43 gc_0 ?_
            refine g_iadd hx hb dX8_cases_44 ?_
            refine lv_istore_n (lv' := [(2, .int (nI ((fb_ct (fun k => if z = true then clM (f 0) k else decide (gof (f 0) k 2 = 0)) i_1) + (0)))), (3, .int (nI (i_1))), (0, .ref (A 0)), (1, .int (b2i (z)))]) hx hb dX8_cases_45 rfl hl (by decide) rfl (fun ls hl => ?_)
            refine lv_iinc (v := nI (i_1 + 1)) (lv' := [(3, .int (nI (i_1 + 1))), (2, .int (nI ((fb_ct (fun k => if z = true then clM (f 0) k else decide (gof (f 0) k 2 = 0)) i_1) + (0)))), (0, .ref (A 0)), (1, .int (b2i (z)))]) hx hb dX8_cases_46 hl (k := 1) rfl (inc_1 _) (by decide) rfl (fun ls hl => ?_)
            refine lv_goto (tgt := 4) hx hb dX8_cases_49 (by decide) ?_
            exact ih_8 (i_1 + 1) _ _ (by omega) (by omega) rfl (by simp [fb_ct_succ, c_11, d_11, c_13, c_14])  ls (lv_sub hl [0, 1, 2, 3] rfl)
          · refine lv_iconst (v := nI (1)) hx hb dX8_cases_39 gc_1 ?_
            refine lv_goto (tgt := 44) hx hb dX8_cases_40 (by decide) ?_
            refine g_iadd hx hb dX8_cases_44 ?_
            refine lv_istore_n (lv' := [(2, .int (nI ((fb_ct (fun k => if z = true then clM (f 0) k else decide (gof (f 0) k 2 = 0)) i_1) + (1)))), (3, .int (nI (i_1))), (0, .ref (A 0)), (1, .int (b2i (z)))]) hx hb dX8_cases_45 rfl hl (by decide) rfl (fun ls hl => ?_)
            refine lv_iinc (v := nI (i_1 + 1)) (lv' := [(3, .int (nI (i_1 + 1))), (2, .int (nI ((fb_ct (fun k => if z = true then clM (f 0) k else decide (gof (f 0) k 2 = 0)) i_1) + (1)))), (0, .ref (A 0)), (1, .int (b2i (z)))]) hx hb dX8_cases_46 hl (k := 1) rfl (inc_1 _) (by decide) rfl (fun ls hl => ?_)
            refine lv_goto (tgt := 4) hx hb dX8_cases_49 (by decide) ?_
            exact ih_8 (i_1 + 1) _ _ (by omega) (by omega) rfl (by simp [fb_ct_succ, c_11, d_11, c_13, c_14])  ls (lv_sub hl [0, 1, 2, 3] rfl)
        · have c_13 : z = true := eq_true_of_ne_false c_13
          refine lv_aload_n hx hb dX8_cases_19 rfl (lv_at hl 2 rfl) ?_
          refine lv_iload_n hx hb dX8_cases_20 rfl (lv_at hl 0 rfl) ?_
          refine rd_calle (va_runV (As := [.int (nI (i_1))]) (rest := [.int (nI (fb_ct (fun k => if z = true then clM (f 0) k else decide (gof (f 0) k 2 = 0)) i_1))]) ⟨hx, hb, hml, hown, hts⟩ (c_X8_isClosed l D cA A (x) (f) (i_1) (by omega)) (cwV 1 hts (gWV gm_14_17 gm_14_18 gm_14_19 gm_1_5 gm_14_20) rfl rfl rfl (by decide +kernel) ⟨Nat.le_of_ble_eq_true rfl, Nat.le_of_ble_eq_true rfl⟩) (gPreV hK (g_rf hK hP (ci := 10) (q0 := 0) rfl rfl) hP) rfl rfl hl.1 rfl (lv_room (Nat.le_of_ble_eq_true rfl)) dX8_cases_21 ⟨by omega, by omega⟩) ?_
          refine g_if_eq (P := clM (f 0) (i_1) = false) (tgt := 43) hx hb dX8_cases_24 (by decide) b2i_0 (fun c_15 => ?_) (fun c_15 => ?_)
          · refine lv_iconst (v := nI (0)) hx hb dX8_cases_43 gc_0 ?_
            refine g_iadd hx hb dX8_cases_44 ?_
            refine lv_istore_n (lv' := [(2, .int (nI ((fb_ct (fun k => if z = true then clM (f 0) k else decide (gof (f 0) k 2 = 0)) i_1) + (0)))), (3, .int (nI (i_1))), (0, .ref (A 0)), (1, .int (b2i (z)))]) hx hb dX8_cases_45 rfl hl (by decide) rfl (fun ls hl => ?_)
            refine lv_iinc (v := nI (i_1 + 1)) (lv' := [(3, .int (nI (i_1 + 1))), (2, .int (nI ((fb_ct (fun k => if z = true then clM (f 0) k else decide (gof (f 0) k 2 = 0)) i_1) + (0)))), (0, .ref (A 0)), (1, .int (b2i (z)))]) hx hb dX8_cases_46 hl (k := 1) rfl (inc_1 _) (by decide) rfl (fun ls hl => ?_)
            refine lv_goto (tgt := 4) hx hb dX8_cases_49 (by decide) ?_
            exact ih_8 (i_1 + 1) _ _ (by omega) (by omega) rfl (by simp [fb_ct_succ, c_11, d_11, c_13, c_15])  ls (lv_sub hl [0, 1, 2, 3] rfl)
          · have c_15 : clM (f 0) (i_1) = true := eq_true_of_ne_false c_15
            refine lv_goto (tgt := 39) hx hb dX8_cases_27 (by decide) ?_
            refine lv_iconst (v := nI (1)) hx hb dX8_cases_39 gc_1 ?_
            refine lv_goto (tgt := 44) hx hb dX8_cases_40 (by decide) ?_
            refine g_iadd hx hb dX8_cases_44 ?_
            refine lv_istore_n (lv' := [(2, .int (nI ((fb_ct (fun k => if z = true then clM (f 0) k else decide (gof (f 0) k 2 = 0)) i_1) + (1)))), (3, .int (nI (i_1))), (0, .ref (A 0)), (1, .int (b2i (z)))]) hx hb dX8_cases_45 rfl hl (by decide) rfl (fun ls hl => ?_)
            refine lv_iinc (v := nI (i_1 + 1)) (lv' := [(3, .int (nI (i_1 + 1))), (2, .int (nI ((fb_ct (fun k => if z = true then clM (f 0) k else decide (gof (f 0) k 2 = 0)) i_1) + (1)))), (0, .ref (A 0)), (1, .int (b2i (z)))]) hx hb dX8_cases_46 hl (k := 1) rfl (inc_1 _) (by decide) rfl (fun ls hl => ?_)
            refine lv_goto (tgt := 4) hx hb dX8_cases_49 (by decide) ?_
            exact ih_8 (i_1 + 1) _ _ (by omega) (by omega) rfl (by simp [fb_ct_succ, c_11, d_11, c_13, c_15])  ls (lv_sub hl [0, 1, 2, 3] rfl)
  exact LP_5 (cn + 1) 0 _ _ (by omega) (by omega) rfl rfl  ls (lv_sub hl [0, 1, 2, 3] rfl)

set_option maxHeartbeats 1000000 in
set_option maxRecDepth 100000 in
theorem c_X8_summed (l : Launch) (D : va_G) (cA : Nat → ClassId) (A : Nat → Nat) (x : Nat → Int32) (f : Nat → Nat → Int32) (w jn : Nat) (hj : f 0 0 = nI jn) (hjn : jn ≤ 9) (hw : w < 4) : Met l yX8_summed (gw yX8_summed cX8_summed 4 (some .int)) ({ frames := 1, cells := 0, slots := 0, locals := 22 } : Room) (gPc [.ref (A 0), .int (nI (w))] (fun H => va_P D vwCl (mw cA A x f) H) D cA) (rdI (fun r => r = isum (fun j => gby (f 0) j w) jn)) 0 0 nF := by
  refine gOf (by decide) (Nat.le_of_ble_eq_true rfl) ?_
  intro p e s m below meth c ls hx hb hml hr hlk hown hts hnm hP hK hl
  have hl : lv_has ls 4 [(0, .ref (A 0)), (1, .int (nI (w)))] := hl
  refine lv_iconst (v := nI (0)) hx hb dX8_summed_0 gc_0 ?_
  refine lv_istore_n (lv' := [(2, .int (nI (0))), (0, .ref (A 0)), (1, .int (nI (w)))]) hx hb dX8_summed_1 rfl hl (by decide) rfl (fun ls hl => ?_)
  refine lv_iconst (v := nI (0)) hx hb dX8_summed_2 gc_0 ?_
  refine lv_istore_n (lv' := [(3, .int (nI (0))), (2, .int (nI (0))), (0, .ref (A 0)), (1, .int (nI (w)))]) hx hb dX8_summed_3 rfl hl (by decide) rfl (fun ls hl => ?_)
  have LP_5 : ∀ (n_2 i_1 : Nat) (x_3 x_4 : Int32), i_1 ≤ jn → jn + 1 ≤ i_1 + n_2 → x_3 = nI (i_1) → x_4 = isum (fun j => gby (f 0) j w) i_1 → ∀ (ls : Array Slot), lv_has ls 4 [(3, .int (x_3)), (2, .int (x_4)), (0, .ref (A 0)), (1, .int (nI (w)))] → W p l e ({ frames := 1, cells := 0, slots := 0, locals := 22 } : Room) s m ([.ref (A 0), .int (nI (w))] : List Value).toArray below meth c s.heap [] 0 0 (MQ below (rdI (fun r => r = isum (fun j => gby (f 0) j w) jn)) ([.ref (A 0), .int (nI (w))] : List Value).toArray s 0 0 nF) (F0 m 4 ls []) := by
    intro n_2
    induction n_2 with
    | zero => intro i_1 x_3 x_4 h1 h2; exact absurd h2 (by omega)
    | succ n_2 ih_8 =>
      intro i_1 x_3 x_4 h_9 h_10 e_6 e_7  ls hl
      subst e_6
      subst e_7
      refine lv_iload_n hx hb dX8_summed_4 rfl (lv_at hl 0 rfl) ?_
      refine lv_aload_n hx hb dX8_summed_5 rfl (lv_at hl 2 rfl) ?_
      refine g_get (v := .ref (A 1)) hx hb hts hown hK hP 0 rfl rfl gu_wsX80 0 (by decide) gm_5_14 rfl dX8_summed_6 ?_
      refine lv_iconst (v := nI (0)) hx hb dX8_summed_9 gc_0 ?_
      refine g_iald (x := nI (jn)) hx hb hK hP 1 rfl (by omega) (by decide) hj dX8_summed_10 ?_
      refine g_icmp_ge (P := jn ≤ i_1) (tgt := 29) hx hb dX8_summed_11 (by decide) (nI_leI (by omega) (by omega)) (fun c_11 => ?_) (fun c_11 => ?_)
      · have d_11 : ¬ i_1 < jn := Nat.not_lt.mpr c_11
        have hN_12 : jn = i_1 := by omega
        subst hN_12
        refine lv_iload_n hx hb dX8_summed_29 rfl (lv_at hl 1 rfl) ?_
        exact g_iret (v := isum (fun j => gby (f 0) j w) (jn)) hx hb hr hlk dX8_summed_30 (rfl)
      · have d_11 : i_1 < jn := Nat.not_le.mp c_11
        refine lv_iload_n hx hb dX8_summed_14 rfl (lv_at hl 1 rfl) ?_
        refine lv_aload_n hx hb dX8_summed_15 rfl (lv_at hl 2 rfl) ?_
        refine lv_iload_n hx hb dX8_summed_16 rfl (lv_at hl 0 rfl) ?_
        refine lv_iload_n hx hb dX8_summed_17 rfl (lv_at hl 3 rfl) ?_
        refine rd_calle (va_runV (As := [.int (nI (i_1)), .int (nI (w))]) (rest := [.int (isum (fun j => gby (f 0) j w) i_1)]) ⟨hx, hb, hml, hown, hts⟩ (c_X8_by l D cA A (x) (f) (i_1) (w) (by omega)) (cwV 2 hts (gWV gm_15_9 gm_15_10 gm_15_11 gm_1_5 gm_15_12) rfl rfl rfl (by decide +kernel) ⟨Nat.le_of_ble_eq_true rfl, Nat.le_of_ble_eq_true rfl⟩) (gPreV hK (g_rf hK hP (ci := 10) (q0 := 0) rfl rfl) hP) rfl rfl hl.1 rfl (lv_room (Nat.le_of_ble_eq_true rfl)) dX8_summed_18 ⟨by omega, by omega⟩) ?_
        refine lv_iadd hx hb dX8_summed_21 ?_
        refine lv_istore_n (lv' := [(2, .int ((isum (fun j => gby (f 0) j w) i_1) + (gby (f 0) (i_1) (w)))), (3, .int (nI (i_1))), (0, .ref (A 0)), (1, .int (nI (w)))]) hx hb dX8_summed_22 rfl hl (by decide) rfl (fun ls hl => ?_)
        refine lv_iinc (v := nI (i_1 + 1)) (lv' := [(3, .int (nI (i_1 + 1))), (2, .int ((isum (fun j => gby (f 0) j w) i_1) + (gby (f 0) (i_1) (w)))), (0, .ref (A 0)), (1, .int (nI (w)))]) hx hb dX8_summed_23 hl (k := 1) rfl (inc_1 _) (by decide) rfl (fun ls hl => ?_)
        refine lv_goto (tgt := 4) hx hb dX8_summed_26 (by decide) ?_
        exact ih_8 (i_1 + 1) _ _ (by omega) (by omega) rfl rfl  ls (lv_sub hl [0, 1, 2, 3] rfl)
  exact LP_5 (jn + 1) 0 _ _ (by omega) (by omega) rfl rfl  ls (lv_sub hl [0, 1, 2, 3] rfl)

