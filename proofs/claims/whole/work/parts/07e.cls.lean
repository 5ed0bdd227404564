def jrr (a b : Int32) : Bool := decide (¬ a < -9) && decide (a ≤ nI 9) && decide (0 ≤ b) && decide (b ≤ nI 9)
def csr (a b : Int32) : Bool := decide (0 ≤ a) && decide (a ≤ nI 100) && decide (0 ≤ b) && decide (b ≤ nI 99)
def vmS (l d : Nat → Int32) (panel : Int32) : Nat → Int32 × (Int32 × Int32)
  | 0 => (nI 0, ((2147483647 : Int32), (-2147483648 : Int32)))
  | k + 1 => if hs panel k = true then ((vmS l d panel k).1 + (nI 5 * l k - d k), ((if nI 5 * l k - d k < (vmS l d panel k).2.1 then nI 5 * l k - d k else (vmS l d panel k).2.1), (if (vmS l d panel k).2.2 < nI 5 * l k - d k then nI 5 * l k - d k else (vmS l d panel k).2.2))) else vmS l d panel k
def vmF (l d : Nat → Int32) (jn : Nat) (panel merit : Int32) : Nat := if merit + ((vmS l d panel jn).1 - (vmS l d panel jn).2.1 - (vmS l d panel jn).2.2) < nI 50 then 2 else 1
theorem vmF_le {l d : Nat → Int32} {jn : Nat} {panel merit : Int32} : vmF l d jn panel merit ≤ 2 := by unfold vmF; split <;> omega
def lrS (k : Nat → Nat → Int32) : Nat → Int64
  | 0 => 0
  | n + 1 => if !clF k (n / 9) && hs (k 2 (n / 9)) (n % 9) then lrS k n + (1 <<< ((nI (6 * (n % 9))).toInt64 &&& 63)) else lrS k n
def lrF (k : Nat → Nat → Int32) (cn j : Nat) : Int32 := ((lrS k (cn * 9) >>> ((nI (6 * j)).toInt64 &&& 63)) &&& 63).toInt32
def tkN (k : Nat → Nat → Int32) (rw : Nat → Nat) (rl clk ton q : Nat) : Int32 := match fnd (fun j => decide (rw j = q)) rl with
  | none => -1
  | some j => if clk < 1 then -1 else if 99 < ton + 1 + j / clk then -1 else nI (ton + 1 + j / clk)
def ioF (cn k : Nat) (a b : Int32) : Bool := match k with
  | 0 => jrr a b
  | 1 => csr a b
  | 2 => isIx a cn
  | 3 => isIx a cn
  | 4 => isIx a cn
  | 5 => isIx a cn
  | _ => true
def rtF (k : Nat → Nat → Int32) (rw : Nat → Nat) (rl : Nat) (night : Int32) : Int32 := match fnd (fun j => decide (night ≤ k 1 (rw j))) rl with
  | none => -1
  | some j => k 1 (rw j)

set_option maxHeartbeats 1000000 in
set_option maxRecDepth 100000 in
theorem c_X7_isJurorRight (l : Launch) (D : va_G) (cA : Nat → ClassId) (a b : Int32)  : Met l yX7_isJurorRight (gw yX7_isJurorRight cX7_isJurorRight 2 (some .boolean)) ({ frames := 0, cells := 0, slots := 0, locals := 0 } : Room) (gPc [.int (a), .int (b)] (fun H => True) D cA) (rdI (fun r => r = b2i (jrr a b))) 0 0 nF := by
  refine gOf (by decide) (Nat.le_of_ble_eq_true rfl) ?_
  intro p e s m below meth c ls hx hb hml hr hlk hown hts hnm hP hK hl
  have hl : lv_has ls 2 [(0, .int (a)), (1, .int (b))] := hl
  refine lv_iload_n hx hb dX7_isJurorRight_0 rfl (lv_at hl 0 rfl) ?_
  refine lv_bipush (v := -9) hx hb dX7_isJurorRight_1 gb_m9 ?_
  refine g_icmp_lt (P := a < -9) (tgt := 26) hx hb dX7_isJurorRight_3 (by decide) Iff.rfl (fun c_1 => ?_) (fun c_1 => ?_)
  · have d_1 : ¬ -9 ≤ a := Int32.not_le.mpr c_1
    refine lv_iconst (v := nI (0)) hx hb dX7_isJurorRight_26 gc_0 ?_
    exact g_zret (v := nI (0)) hx hb hr hlk rfl dX7_isJurorRight_27 (by simp [jrr, b2i, c_1, d_1])
  · have d_1 : -9 ≤ a := Int32.not_lt.mp c_1
    refine lv_iload_n hx hb dX7_isJurorRight_6 rfl (lv_at hl 0 rfl) ?_
    refine lv_bipush (v := nI (9)) hx hb dX7_isJurorRight_7 gb_9 ?_
    refine g_icmp_gt (P := nI (9) < a) (tgt := 26) hx hb dX7_isJurorRight_9 (by decide) Iff.rfl (fun c_2 => ?_) (fun c_2 => ?_)
    · have d_2 : ¬ a ≤ nI (9) := Int32.not_le.mpr c_2
      refine lv_iconst (v := nI (0)) hx hb dX7_isJurorRight_26 gc_0 ?_
      exact g_zret (v := nI (0)) hx hb hr hlk rfl dX7_isJurorRight_27 (by simp [jrr, b2i, c_1, d_1, c_2, d_2])
    · have d_2 : a ≤ nI (9) := Int32.not_lt.mp c_2
      refine lv_iload_n hx hb dX7_isJurorRight_12 rfl (lv_at hl 1 rfl) ?_
      refine g_if_lt (P := b < 0) (tgt := 26) hx hb dX7_isJurorRight_13 (by decide) Iff.rfl (fun c_3 => ?_) (fun c_3 => ?_)
      · have d_3 : ¬ 0 ≤ b := Int32.not_le.mpr c_3
        refine lv_iconst (v := nI (0)) hx hb dX7_isJurorRight_26 gc_0 ?_
        exact g_zret (v := nI (0)) hx hb hr hlk rfl dX7_isJurorRight_27 (by simp [jrr, b2i, c_1, d_1, c_2, d_2, c_3, d_3])
      · have d_3 : 0 ≤ b := Int32.not_lt.mp c_3
        refine lv_iload_n hx hb dX7_isJurorRight_16 rfl (lv_at hl 1 rfl) ?_
        refine lv_bipush (v := nI (9)) hx hb dX7_isJurorRight_17 gb_9 ?_
        refine g_icmp_gt (P := nI (9) < b) (tgt := 26) hx hb dX7_isJurorRight_19 (by decide) Iff.rfl (fun c_4 => ?_) (fun c_4 => ?_)
        · have d_4 : ¬ b ≤ nI (9) := Int32.not_le.mpr c_4
          refine lv_iconst (v := nI (0)) hx hb dX7_isJurorRight_26 gc_0 ?_
          exact g_zret (v := nI (0)) hx hb hr hlk rfl dX7_isJurorRight_27 (by simp [jrr, b2i, c_1, d_1, c_2, d_2, c_3, d_3, c_4, d_4])
        · have d_4 : b ≤ nI (9) := Int32.not_lt.mp c_4
          refine lv_iconst (v := nI (1)) hx hb dX7_isJurorRight_22 gc_1 ?_
          refine lv_goto (tgt := 27) hx hb dX7_isJurorRight_23 (by decide) ?_
          exact g_zret (v := nI (1)) hx hb hr hlk rfl dX7_isJurorRight_27 (by simp [jrr, b2i, c_1, d_1, c_2, d_2, c_3, d_3, c_4, d_4])

set_option maxHeartbeats 1000000 in
set_option maxRecDepth 100000 in
theorem c_X7_isCaseRight (l : Launch) (D : va_G) (cA : Nat → ClassId) (a b : Int32)  : Met l yX7_isCaseRight (gw yX7_isCaseRight cX7_isCaseRight 2 (some .boolean)) ({ frames := 0, cells := 0, slots := 0, locals := 0 } : Room) (gPc [.int (a), .int (b)] (fun H => True) D cA) (rdI (fun r => r = b2i (csr a b))) 0 0 nF := by
  refine gOf (by decide) (Nat.le_of_ble_eq_true rfl) ?_
  intro p e s m below meth c ls hx hb hml hr hlk hown hts hnm hP hK hl
  have hl : lv_has ls 2 [(0, .int (a)), (1, .int (b))] := hl
  refine lv_iload_n hx hb dX7_isCaseRight_0 rfl (lv_at hl 0 rfl) ?_
  refine g_if_lt (P := a < 0) (tgt := 24) hx hb dX7_isCaseRight_1 (by decide) Iff.rfl (fun c_1 => ?_) (fun c_1 => ?_)
  · have d_1 : ¬ 0 ≤ a := Int32.not_le.mpr c_1
    refine lv_iconst (v := nI (0)) hx hb dX7_isCaseRight_24 gc_0 ?_
    exact g_zret (v := nI (0)) hx hb hr hlk rfl dX7_isCaseRight_25 (by simp [csr, b2i, c_1, d_1])
  · have d_1 : 0 ≤ a := Int32.not_lt.mp c_1
    refine lv_iload_n hx hb dX7_isCaseRight_4 rfl (lv_at hl 0 rfl) ?_
    refine lv_bipush (v := nI (100)) hx hb dX7_isCaseRight_5 gb_100 ?_
    refine g_icmp_gt (P := nI (100) < a) (tgt := 24) hx hb dX7_isCaseRight_7 (by decide) Iff.rfl (fun c_2 => ?_) (fun c_2 => ?_)
    · have d_2 : ¬ a ≤ nI (100) := Int32.not_le.mpr c_2
      refine lv_iconst (v := nI (0)) hx hb dX7_isCaseRight_24 gc_0 ?_
      exact g_zret (v := nI (0)) hx hb hr hlk rfl dX7_isCaseRight_25 (by simp [csr, b2i, c_1, d_1, c_2, d_2])
    · have d_2 : a ≤ nI (100) := Int32.not_lt.mp c_2
      refine lv_iload_n hx hb dX7_isCaseRight_10 rfl (lv_at hl 1 rfl) ?_
      refine g_if_lt (P := b < 0) (tgt := 24) hx hb dX7_isCaseRight_11 (by decide) Iff.rfl (fun c_3 => ?_) (fun c_3 => ?_)
      · have d_3 : ¬ 0 ≤ b := Int32.not_le.mpr c_3
        refine lv_iconst (v := nI (0)) hx hb dX7_isCaseRight_24 gc_0 ?_
        exact g_zret (v := nI (0)) hx hb hr hlk rfl dX7_isCaseRight_25 (by simp [csr, b2i, c_1, d_1, c_2, d_2, c_3, d_3])
      · have d_3 : 0 ≤ b := Int32.not_lt.mp c_3
        refine lv_iload_n hx hb dX7_isCaseRight_14 rfl (lv_at hl 1 rfl) ?_
        refine lv_bipush (v := nI (99)) hx hb dX7_isCaseRight_15 gb_99 ?_
        refine g_icmp_gt (P := nI (99) < b) (tgt := 24) hx hb dX7_isCaseRight_17 (by decide) Iff.rfl (fun c_4 => ?_) (fun c_4 => ?_)
        · have d_4 : ¬ b ≤ nI (99) := Int32.not_le.mpr c_4
          refine lv_iconst (v := nI (0)) hx hb dX7_isCaseRight_24 gc_0 ?_
          exact g_zret (v := nI (0)) hx hb hr hlk rfl dX7_isCaseRight_25 (by simp [csr, b2i, c_1, d_1, c_2, d_2, c_3, d_3, c_4, d_4])
        · have d_4 : b ≤ nI (99) := Int32.not_lt.mp c_4
          refine lv_iconst (v := nI (1)) hx hb dX7_isCaseRight_20 gc_1 ?_
          refine lv_goto (tgt := 25) hx hb dX7_isCaseRight_21 (by decide) ?_
          exact g_zret (v := nI (1)) hx hb hr hlk rfl dX7_isCaseRight_25 (by simp [csr, b2i, c_1, d_1, c_2, d_2, c_3, d_3, c_4, d_4])

set_option maxHeartbeats 1000000 in
set_option maxRecDepth 100000 in
theorem c_X3_sum_0 (l : Launch) (D : va_G) (cA : Nat → ClassId) (J : Nat → Nat) (jf : Nat → Nat → Int32) (jn : Nat) (hjn : jn ≤ 9) : Met l yX3_sum (gw yX3_sum cX3_sum 4 (some .int)) ({ frames := 0, cells := 0, slots := 0, locals := 0 } : Room) (gPc [.ref (J 0), .ref (J 1)] (fun H => va_P D vwCl (jw cA J jf jn) H) D cA) (rdI (fun r => r = isum (jf 0) jn)) 0 0 nF := by
  refine gOf (by decide) (Nat.le_of_ble_eq_true rfl) ?_
  intro p e s m below meth c ls hx hb hml hr hlk hown hts hnm hP hK hl
  have hl : lv_has ls 4 [(0, .ref (J 0)), (1, .ref (J 1))] := hl
  refine lv_iconst (v := nI (0)) hx hb dX3_sum_0 gc_0 ?_
  refine lv_istore_n (lv' := [(2, .int (nI (0))), (0, .ref (J 0)), (1, .ref (J 1))]) hx hb dX3_sum_1 rfl hl (by decide) rfl (fun ls hl => ?_)
  refine lv_iconst (v := nI (0)) hx hb dX3_sum_2 gc_0 ?_
  refine lv_istore_n (lv' := [(3, .int (nI (0))), (2, .int (nI (0))), (0, .ref (J 0)), (1, .ref (J 1))]) hx hb dX3_sum_3 rfl hl (by decide) rfl (fun ls hl => ?_)
  have LP_5 : ∀ (n_2 i_1 : Nat) (x_3 : Int32) (x_4 : Int32), i_1 ≤ jn → jn + 1 ≤ i_1 + n_2 → x_3 = nI (i_1) → x_4 = isum (jf 0) i_1 → ∀ (ls : Array Slot), lv_has ls 4 [(3, .int (x_3)), (2, .int (x_4)), (0, .ref (J 0)), (1, .ref (J 1))] → W p l e ({ frames := 0, cells := 0, slots := 0, locals := 0 } : Room) s m ([.ref (J 0), .ref (J 1)] : List Value).toArray below meth c s.heap [] 0 0 (MQ below (rdI (fun r => r = isum (jf 0) jn)) ([.ref (J 0), .ref (J 1)] : List Value).toArray s 0 0 nF) (F0 m 4 ls []) := by
    intro n_2
    induction n_2 with
    | zero => intro i_1 x_3 x_4 h1 h2; exact absurd h2 (by omega)
    | succ n_2 ih_8 =>
      intro i_1 x_3 x_4 h_9 h_10 e_6 e_7  ls hl
      subst e_6
      subst e_7
      refine lv_iload_n hx hb dX3_sum_4 rfl (lv_at hl 0 rfl) ?_
      refine lv_aload_n hx hb dX3_sum_5 rfl (lv_at hl 2 rfl) ?_
      refine g_get (v := .int (nI (jn))) hx hb hts hown hK hP 0 rfl rfl gu_wsX30 4 (by decide) gm_3_13 rfl dX3_sum_6 ?_
      refine g_icmp_ge (P := jn ≤ i_1) (tgt := 24) hx hb dX3_sum_9 (by decide) (nI_leI (by omega) (by omega)) (fun c_11 => ?_) (fun c_11 => ?_)
      · have d_11 : ¬ i_1 < jn := Nat.not_lt.mpr c_11
        have hN_12 : jn = i_1 := by omega
        subst hN_12
        refine lv_iload_n hx hb dX3_sum_24 rfl (lv_at hl 1 rfl) ?_
        exact g_iret (v := isum (jf 0) (jn)) hx hb hr hlk dX3_sum_25 (rfl)
      · have d_11 : i_1 < jn := Nat.not_le.mp c_11
        refine lv_iload_n hx hb dX3_sum_12 rfl (lv_at hl 1 rfl) ?_
        refine lv_aload_n hx hb dX3_sum_13 rfl (lv_at hl 3 rfl) ?_
        refine lv_iload_n hx hb dX3_sum_14 rfl (lv_at hl 0 rfl) ?_
        refine g_iald (x := jf 0 (i_1)) hx hb hK hP 1 rfl (by omega) (by decide) rfl dX3_sum_15 ?_
        refine lv_iadd hx hb dX3_sum_16 ?_
        refine lv_istore_n (lv' := [(2, .int ((isum (jf 0) i_1) + (jf 0 (i_1)))), (3, .int (nI (i_1))), (0, .ref (J 0)), (1, .ref (J 1))]) hx hb dX3_sum_17 rfl hl (by decide) rfl (fun ls hl => ?_)
        refine lv_iinc (v := nI (i_1 + 1)) (lv' := [(3, .int (nI (i_1 + 1))), (2, .int ((isum (jf 0) i_1) + (jf 0 (i_1)))), (0, .ref (J 0)), (1, .ref (J 1))]) hx hb dX3_sum_18 hl (k := 1) rfl (inc_1 _) (by decide) rfl (fun ls hl => ?_)
        refine lv_goto (tgt := 4) hx hb dX3_sum_21 (by decide) ?_
        exact ih_8 (i_1 + 1) _ _ (by omega) (by omega) rfl rfl  ls (lv_sub hl [0, 1, 2, 3] rfl)
  exact LP_5 (jn + 1) 0 _ _ (by omega) (by omega) rfl rfl  ls (lv_sub hl [0, 1, 2, 3] rfl)

set_option maxHeartbeats 1000000 in
set_option maxRecDepth 100000 in
theorem c_X3_sum_1 (l : Launch) (D : va_G) (cA : Nat → ClassId) (J : Nat → Nat) (jf : Nat → Nat → Int32) (jn : Nat) (hjn : jn ≤ 9) : Met l yX3_sum (gw yX3_sum cX3_sum 4 (some .int)) ({ frames := 0, cells := 0, slots := 0, locals := 0 } : Room) (gPc [.ref (J 0), .ref (J 2)] (fun H => va_P D vwCl (jw cA J jf jn) H) D cA) (rdI (fun r => r = isum (jf 1) jn)) 0 0 nF := by
  refine gOf (by decide) (Nat.le_of_ble_eq_true rfl) ?_
  intro p e s m below meth c ls hx hb hml hr hlk hown hts hnm hP hK hl
  have hl : lv_has ls 4 [(0, .ref (J 0)), (1, .ref (J 2))] := hl
  refine lv_iconst (v := nI (0)) hx hb dX3_sum_0 gc_0 ?_
  refine lv_istore_n (lv' := [(2, .int (nI (0))), (0, .ref (J 0)), (1, .ref (J 2))]) hx hb dX3_sum_1 rfl hl (by decide) rfl (fun ls hl => ?_)
  refine lv_iconst (v := nI (0)) hx hb dX3_sum_2 gc_0 ?_
  refine lv_istore_n (lv' := [(3, .int (nI (0))), (2, .int (nI (0))), (0, .ref (J 0)), (1, .ref (J 2))]) hx hb dX3_sum_3 rfl hl (by decide) rfl (fun ls hl => ?_)
  have LP_5 : ∀ (n_2 i_1 : Nat) (x_3 : Int32) (x_4 : Int32), i_1 ≤ jn → jn + 1 ≤ i_1 + n_2 → x_3 = nI (i_1) → x_4 = isum (jf 1) i_1 → ∀ (ls : Array Slot), lv_has ls 4 [(3, .int (x_3)), (2, .int (x_4)), (0, .ref (J 0)), (1, .ref (J 2))] → W p l e ({ frames := 0, cells := 0, slots := 0, locals := 0 } : Room) s m ([.ref (J 0), .ref (J 2)] : List Value).toArray below meth c s.heap [] 0 0 (MQ below (rdI (fun r => r = isum (jf 1) jn)) ([.ref (J 0), .ref (J 2)] : List Value).toArray s 0 0 nF) (F0 m 4 ls []) := by
    intro n_2
    induction n_2 with
    | zero => intro i_1 x_3 x_4 h1 h2; exact absurd h2 (by omega)
    | succ n_2 ih_8 =>
      intro i_1 x_3 x_4 h_9 h_10 e_6 e_7  ls hl
      subst e_6
      subst e_7
      refine lv_iload_n hx hb dX3_sum_4 rfl (lv_at hl 0 rfl) ?_
      refine lv_aload_n hx hb dX3_sum_5 rfl (lv_at hl 2 rfl) ?_
      refine g_get (v := .int (nI (jn))) hx hb hts hown hK hP 0 rfl rfl gu_wsX30 4 (by decide) gm_3_13 rfl dX3_sum_6 ?_
      refine g_icmp_ge (P := jn ≤ i_1) (tgt := 24) hx hb dX3_sum_9 (by decide) (nI_leI (by omega) (by omega)) (fun c_11 => ?_) (fun c_11 => ?_)
      · have d_11 : ¬ i_1 < jn := Nat.not_lt.mpr c_11
        have hN_12 : jn = i_1 := by omega
        subst hN_12
        refine lv_iload_n hx hb dX3_sum_24 rfl (lv_at hl 1 rfl) ?_
        exact g_iret (v := isum (jf 1) (jn)) hx hb hr hlk dX3_sum_25 (rfl)
      · have d_11 : i_1 < jn := Nat.not_le.mp c_11
        refine lv_iload_n hx hb dX3_sum_12 rfl (lv_at hl 1 rfl) ?_
        refine lv_aload_n hx hb dX3_sum_13 rfl (lv_at hl 3 rfl) ?_
        refine lv_iload_n hx hb dX3_sum_14 rfl (lv_at hl 0 rfl) ?_
        refine g_iald (x := jf 1 (i_1)) hx hb hK hP 2 rfl (by omega) (by decide) rfl dX3_sum_15 ?_
        refine lv_iadd hx hb dX3_sum_16 ?_
        refine lv_istore_n (lv' := [(2, .int ((isum (jf 1) i_1) + (jf 1 (i_1)))), (3, .int (nI (i_1))), (0, .ref (J 0)), (1, .ref (J 2))]) hx hb dX3_sum_17 rfl hl (by decide) rfl (fun ls hl => ?_)
        refine lv_iinc (v := nI (i_1 + 1)) (lv' := [(3, .int (nI (i_1 + 1))), (2, .int ((isum (jf 1) i_1) + (jf 1 (i_1)))), (0, .ref (J 0)), (1, .ref (J 2))]) hx hb dX3_sum_18 hl (k := 1) rfl (inc_1 _) (by decide) rfl (fun ls hl => ?_)
        refine lv_goto (tgt := 4) hx hb dX3_sum_21 (by decide) ?_
        exact ih_8 (i_1 + 1) _ _ (by omega) (by omega) rfl rfl  ls (lv_sub hl [0, 1, 2, 3] rfl)
  exact LP_5 (jn + 1) 0 _ _ (by omega) (by omega) rfl rfl  ls (lv_sub hl [0, 1, 2, 3] rfl)

set_option maxHeartbeats 1000000 in
set_option maxRecDepth 100000 in
theorem c_X0_sum_6 (l : Launch) (D : va_G) (cA : Nat → ClassId) (K : Nat → Nat) (kf : Nat → Nat → Int32) (rw : Nat → Nat) (cn rl : Nat) (hcn : cn ≤ 10) : Met l yX0_sum (gw yX0_sum cX0_sum 4 (some .int)) ({ frames := 0, cells := 0, slots := 0, locals := 0 } : Room) (gPc [.ref (K 0), .ref (K 7)] (fun H => va_P D vwCl (kw cA K kf rw cn rl) H) D cA) (rdI (fun r => r = isum (kf 6) cn)) 0 0 nF := by
  refine gOf (by decide) (Nat.le_of_ble_eq_true rfl) ?_
  intro p e s m below meth c ls hx hb hml hr hlk hown hts hnm hP hK hl
  have hl : lv_has ls 4 [(0, .ref (K 0)), (1, .ref (K 7))] := hl
  refine lv_iconst (v := nI (0)) hx hb dX0_sum_0 gc_0 ?_
  refine lv_istore_n (lv' := [(2, .int (nI (0))), (0, .ref (K 0)), (1, .ref (K 7))]) hx hb dX0_sum_1 rfl hl (by decide) rfl (fun ls hl => ?_)
  refine lv_iconst (v := nI (0)) hx hb dX0_sum_2 gc_0 ?_
  refine lv_istore_n (lv' := [(3, .int (nI (0))), (2, .int (nI (0))), (0, .ref (K 0)), (1, .ref (K 7))]) hx hb dX0_sum_3 rfl hl (by decide) rfl (fun ls hl => ?_)
  have LP_5 : ∀ (n_2 i_1 : Nat) (x_3 : Int32) (x_4 : Int32), i_1 ≤ cn → cn + 1 ≤ i_1 + n_2 → x_3 = nI (i_1) → x_4 = isum (kf 6) i_1 → ∀ (ls : Array Slot), lv_has ls 4 [(3, .int (x_3)), (2, .int (x_4)), (0, .ref (K 0)), (1, .ref (K 7))] → W p l e ({ frames := 0, cells := 0, slots := 0, locals := 0 } : Room) s m ([.ref (K 0), .ref (K 7)] : List Value).toArray below meth c s.heap [] 0 0 (MQ below (rdI (fun r => r = isum (kf 6) cn)) ([.ref (K 0), .ref (K 7)] : List Value).toArray s 0 0 nF) (F0 m 4 ls []) := by
    intro n_2
    induction n_2 with
    | zero => intro i_1 x_3 x_4 h1 h2; exact absurd h2 (by omega)
    | succ n_2 ih_8 =>
      intro i_1 x_3 x_4 h_9 h_10 e_6 e_7  ls hl
      subst e_6
      subst e_7
      refine lv_iload_n hx hb dX0_sum_4 rfl (lv_at hl 0 rfl) ?_
      refine lv_aload_n hx hb dX0_sum_5 rfl (lv_at hl 2 rfl) ?_
      refine g_get (v := .int (nI (cn))) hx hb hts hown hK hP 0 rfl rfl gu_wsX00 9 (by decide) gm_4_2 rfl dX0_sum_6 ?_
      refine g_icmp_ge (P := cn ≤ i_1) (tgt := 24) hx hb dX0_sum_9 (by decide) (nI_leI (by omega) (by omega)) (fun c_11 => ?_) (fun c_11 => ?_)
      · have d_11 : ¬ i_1 < cn := Nat.not_lt.mpr c_11
        have hN_12 : cn = i_1 := by omega
        subst hN_12
        refine lv_iload_n hx hb dX0_sum_24 rfl (lv_at hl 1 rfl) ?_
        exact g_iret (v := isum (kf 6) (cn)) hx hb hr hlk dX0_sum_25 (rfl)
      · have d_11 : i_1 < cn := Nat.not_le.mp c_11
        refine lv_iload_n hx hb dX0_sum_12 rfl (lv_at hl 1 rfl) ?_
        refine lv_aload_n hx hb dX0_sum_13 rfl (lv_at hl 3 rfl) ?_
        refine lv_iload_n hx hb dX0_sum_14 rfl (lv_at hl 0 rfl) ?_
        refine g_iald (x := kf 6 (i_1)) hx hb hK hP 7 rfl (by omega) (by decide) rfl dX0_sum_15 ?_
        refine lv_iadd hx hb dX0_sum_16 ?_
        refine lv_istore_n (lv' := [(2, .int ((isum (kf 6) i_1) + (kf 6 (i_1)))), (3, .int (nI (i_1))), (0, .ref (K 0)), (1, .ref (K 7))]) hx hb dX0_sum_17 rfl hl (by decide) rfl (fun ls hl => ?_)
        refine lv_iinc (v := nI (i_1 + 1)) (lv' := [(3, .int (nI (i_1 + 1))), (2, .int ((isum (kf 6) i_1) + (kf 6 (i_1)))), (0, .ref (K 0)), (1, .ref (K 7))]) hx hb dX0_sum_18 hl (k := 1) rfl (inc_1 _) (by decide) rfl (fun ls hl => ?_)
        refine lv_goto (tgt := 4) hx hb dX0_sum_21 (by decide) ?_
        exact ih_8 (i_1 + 1) _ _ (by omega) (by omega) rfl rfl  ls (lv_sub hl [0, 1, 2, 3] rfl)
  exact LP_5 (cn + 1) 0 _ _ (by omega) (by omega) rfl rfl  ls (lv_sub hl [0, 1, 2, 3] rfl)

set_option maxHeartbeats 1000000 in
set_option maxRecDepth 100000 in
theorem c_X0_sum_7 (l : Launch) (D : va_G) (cA : Nat → ClassId) (K : Nat → Nat) (kf : Nat → Nat → Int32) (rw : Nat → Nat) (cn rl : Nat) (hcn : cn ≤ 10) : Met l yX0_sum (gw yX0_sum cX0_sum 4 (some .int)) ({ frames := 0, cells := 0, slots := 0, locals := 0 } : Room) (gPc [.ref (K 0), .ref (K 8)] (fun H => va_P D vwCl (kw cA K kf rw cn rl) H) D cA) (rdI (fun r => r = isum (kf 7) cn)) 0 0 nF := by
  refine gOf (by decide) (Nat.le_of_ble_eq_true rfl) ?_
  intro p e s m below meth c ls hx hb hml hr hlk hown hts hnm hP hK hl
  have hl : lv_has ls 4 [(0, .ref (K 0)), (1, .ref (K 8))] := hl
  refine lv_iconst (v := nI (0)) hx hb dX0_sum_0 gc_0 ?_
  refine lv_istore_n (lv' := [(2, .int (nI (0))), (0, .ref (K 0)), (1, .ref (K 8))]) hx hb dX0_sum_1 rfl hl (by decide) rfl (fun ls hl => ?_)
  refine lv_iconst (v := nI (0)) hx hb dX0_sum_2 gc_0 ?_
  refine lv_istore_n (lv' := [(3, .int (nI (0))), (2, .int (nI (0))), (0, .ref (K 0)), (1, .ref (K 8))]) hx hb dX0_sum_3 rfl hl (by decide) rfl (fun ls hl => ?_)
  have LP_5 : ∀ (n_2 i_1 : Nat) (x_3 : Int32) (x_4 : Int32), i_1 ≤ cn → cn + 1 ≤ i_1 + n_2 → x_3 = nI (i_1) → x_4 = isum (kf 7) i_1 → ∀ (ls : Array Slot), lv_has ls 4 [(3, .int (x_3)), (2, .int (x_4)), (0, .ref (K 0)), (1, .ref (K 8))] → W p l e ({ frames := 0, cells := 0, slots := 0, locals := 0 } : Room) s m ([.ref (K 0), .ref (K 8)] : List Value).toArray below meth c s.heap [] 0 0 (MQ below (rdI (fun r => r = isum (kf 7) cn)) ([.ref (K 0), .ref (K 8)] : List Value).toArray s 0 0 nF) (F0 m 4 ls []) := by
    intro n_2
    induction n_2 with
    | zero => intro i_1 x_3 x_4 h1 h2; exact absurd h2 (by omega)
    | succ n_2 ih_8 =>
      intro i_1 x_3 x_4 h_9 h_10 e_6 e_7  ls hl
      subst e_6
      subst e_7
      refine lv_iload_n hx hb dX0_sum_4 rfl (lv_at hl 0 rfl) ?_
      refine lv_aload_n hx hb dX0_sum_5 rfl (lv_at hl 2 rfl) ?_
      refine g_get (v := .int (nI (cn))) hx hb hts hown hK hP 0 rfl rfl gu_wsX00 9 (by decide) gm_4_2 rfl dX0_sum_6 ?_
      refine g_icmp_ge (P := cn ≤ i_1) (tgt := 24) hx hb dX0_sum_9 (by decide) (nI_leI (by omega) (by omega)) (fun c_11 => ?_) (fun c_11 => ?_)
      · have d_11 : ¬ i_1 < cn := Nat.not_lt.mpr c_11
        have hN_12 : cn = i_1 := by omega
        subst hN_12
        refine lv_iload_n hx hb dX0_sum_24 rfl (lv_at hl 1 rfl) ?_
        exact g_iret (v := isum (kf 7) (cn)) hx hb hr hlk dX0_sum_25 (rfl)
      · have d_11 : i_1 < cn := Nat.not_le.mp c_11
        refine lv_iload_n hx hb dX0_sum_12 rfl (lv_at hl 1 rfl) ?_
        refine lv_aload_n hx hb dX0_sum_13 rfl (lv_at hl 3 rfl) ?_
        refine lv_iload_n hx hb dX0_sum_14 rfl (lv_at hl 0 rfl) ?_
        refine g_iald (x := kf 7 (i_1)) hx hb hK hP 8 rfl (by omega) (by decide) rfl dX0_sum_15 ?_
        refine lv_iadd hx hb dX0_sum_16 ?_
        refine lv_istore_n (lv' := [(2, .int ((isum (kf 7) i_1) + (kf 7 (i_1)))), (3, .int (nI (i_1))), (0, .ref (K 0)), (1, .ref (K 8))]) hx hb dX0_sum_17 rfl hl (by decide) rfl (fun ls hl => ?_)
        refine lv_iinc (v := nI (i_1 + 1)) (lv' := [(3, .int (nI (i_1 + 1))), (2, .int ((isum (kf 7) i_1) + (kf 7 (i_1)))), (0, .ref (K 0)), (1, .ref (K 8))]) hx hb dX0_sum_18 hl (k := 1) rfl (inc_1 _) (by decide) rfl (fun ls hl => ?_)
        refine lv_goto (tgt := 4) hx hb dX0_sum_21 (by decide) ?_
        exact ih_8 (i_1 + 1) _ _ (by omega) (by omega) rfl rfl  ls (lv_sub hl [0, 1, 2, 3] rfl)
  exact LP_5 (cn + 1) 0 _ _ (by omega) (by omega) rfl rfl  ls (lv_sub hl [0, 1, 2, 3] rfl)

set_option maxHeartbeats 1000000 in
set_option maxRecDepth 100000 in
theorem c_X3_verdictOfMiddle (l : Launch) (D : va_G) (cA : Nat → ClassId) (J : Nat → Nat) (jf : Nat → Nat → Int32) (jn : Nat) (panel merit : Int32) (hjn : jn ≤ 9) : Met l yX3_verdictOfMiddle (gw yX3_verdictOfMiddle cX3_verdictOfMiddle 8 (some .int)) ({ frames := 1, cells := 0, slots := 0, locals := 23 } : Room) (gPc [.ref (J 0), .int (panel), .int (merit)] (fun H => va_P D vwCl (jw cA J jf jn) H) D cA) (rdI (fun r => r = nI (vmF (jf 0) (jf 1) jn panel merit))) 0 0 nF := by
  refine gOf (by decide) (Nat.le_of_ble_eq_true rfl) ?_
  intro p e s m below meth c ls hx hb hml hr hlk hown hts hnm hP hK hl
  have hl : lv_has ls 8 [(0, .ref (J 0)), (1, .int (panel)), (2, .int (merit))] := hl
  refine lv_iconst (v := nI (0)) hx hb dX3_verdictOfMiddle_0 gc_0 ?_
  refine lv_istore_n (lv' := [(3, .int (nI (0))), (0, .ref (J 0)), (1, .int (panel)), (2, .int (merit))]) hx hb dX3_verdictOfMiddle_1 rfl hl (by decide) rfl (fun ls hl => ?_)
  refine lv_ldc (v := 2147483647) hx hb hown (hts _ (List.mem_cons_of_mem _ gm_27_11)) dX3_verdictOfMiddle_2 ?_
  refine lv_istore (lv' := [(4, .int ((2147483647 : Int32))), (3, .int (nI (0))), (0, .ref (J 0)), (1, .int (panel)), (2, .int (merit))]) hx hb dX3_verdictOfMiddle_4 hl (by decide) rfl (fun ls hl => ?_)
  refine lv_ldc (v := -2147483648) hx hb hown (hts _ (List.mem_cons_of_mem _ gm_27_12)) dX3_verdictOfMiddle_6 ?_
  refine lv_istore (lv' := [(5, .int ((-2147483648 : Int32))), (4, .int ((2147483647 : Int32))), (3, .int (nI (0))), (0, .ref (J 0)), (1, .int (panel)), (2, .int (merit))]) hx hb dX3_verdictOfMiddle_8 hl (by decide) rfl (fun ls hl => ?_)
  refine lv_iconst (v := nI (0)) hx hb dX3_verdictOfMiddle_10 gc_0 ?_
  refine lv_istore (lv' := [(6, .int (nI (0))), (5, .int ((-2147483648 : Int32))), (4, .int ((2147483647 : Int32))), (3, .int (nI (0))), (0, .ref (J 0)), (1, .int (panel)), (2, .int (merit))]) hx hb dX3_verdictOfMiddle_11 hl (by decide) rfl (fun ls hl => ?_)
  have LP_7 : ∀ (n_2 i_1 : Nat) (x_3 : Int32) (x_4 : Int32) (x_5 : Int32) (x_6 : Int32), i_1 ≤ jn → jn + 1 ≤ i_1 + n_2 → x_3 = nI (i_1) → x_4 = (vmS (jf 0) (jf 1) panel i_1).2.2 → x_5 = (vmS (jf 0) (jf 1) panel i_1).2.1 → x_6 = (vmS (jf 0) (jf 1) panel i_1).1 → ∀ (ls : Array Slot), lv_has ls 8 [(6, .int (x_3)), (5, .int (x_4)), (4, .int (x_5)), (3, .int (x_6)), (0, .ref (J 0)), (1, .int (panel)), (2, .int (merit))] → W p l e ({ frames := 1, cells := 0, slots := 0, locals := 23 } : Room) s m ([.ref (J 0), .int (panel), .int (merit)] : List Value).toArray below meth c s.heap [] 0 0 (MQ below (rdI (fun r => r = nI (vmF (jf 0) (jf 1) jn panel merit))) ([.ref (J 0), .int (panel), .int (merit)] : List Value).toArray s 0 0 nF) (F0 m 13 ls []) := by
    intro n_2
    induction n_2 with
    | zero => intro i_1 x_3 x_4 x_5 x_6 h1 h2; exact absurd h2 (by omega)
    | succ n_2 ih_12 =>
      intro i_1 x_3 x_4 x_5 x_6 h_13 h_14 e_8 e_9 e_10 e_11  ls hl
      subst e_8
      subst e_9
      subst e_10
      subst e_11
      refine lv_iload hx hb dX3_verdictOfMiddle_13 (lv_at hl 0 rfl) ?_
      refine lv_aload_n hx hb dX3_verdictOfMiddle_15 rfl (lv_at hl 4 rfl) ?_
      refine g_get (v := .int (nI (jn))) hx hb hts hown hK hP 0 rfl rfl gu_wsX30 4 (by decide) gm_3_13 rfl dX3_verdictOfMiddle_16 ?_
      refine g_icmp_ge (P := jn ≤ i_1) (tgt := 79) hx hb dX3_verdictOfMiddle_19 (by decide) (nI_leI (by omega) (by omega)) (fun c_15 => ?_) (fun c_15 => ?_)
      · have d_15 : ¬ i_1 < jn := Nat.not_lt.mpr c_15
        have hN_16 : jn = i_1 := by omega
        subst hN_16
        refine lv_iload_n hx hb dX3_verdictOfMiddle_79 rfl (lv_at hl 3 rfl) ?_
        refine lv_iload hx hb dX3_verdictOfMiddle_80 (lv_at hl 2 rfl) ?_
        refine lv_isub hx hb dX3_verdictOfMiddle_82 ?_
        refine lv_iload hx hb dX3_verdictOfMiddle_83 (lv_at hl 1 rfl) ?_
        refine lv_isub hx hb dX3_verdictOfMiddle_85 ?_
        refine lv_istore (lv' := [(6, .int ((((vmS (jf 0) (jf 1) panel (jn)).1) - ((vmS (jf 0) (jf 1) panel (jn)).2.1)) - ((vmS (jf 0) (jf 1) panel (jn)).2.2))), (5, .int ((vmS (jf 0) (jf 1) panel (jn)).2.2)), (4, .int ((vmS (jf 0) (jf 1) panel (jn)).2.1)), (3, .int ((vmS (jf 0) (jf 1) panel (jn)).1)), (0, .ref (J 0)), (1, .int (panel)), (2, .int (merit))]) hx hb dX3_verdictOfMiddle_86 hl (by decide) rfl (fun ls hl => ?_)
        refine lv_iload_n hx hb dX3_verdictOfMiddle_88 rfl (lv_at hl 6 rfl) ?_
        refine lv_iload hx hb dX3_verdictOfMiddle_89 (lv_at hl 0 rfl) ?_
        refine lv_iadd hx hb dX3_verdictOfMiddle_91 ?_
        refine lv_bipush (v := nI (50)) hx hb dX3_verdictOfMiddle_92 gb_50 ?_
        refine g_icmp_lt (P := (merit) + ((((vmS (jf 0) (jf 1) panel (jn)).1) - ((vmS (jf 0) (jf 1) panel (jn)).2.1)) - ((vmS (jf 0) (jf 1) panel (jn)).2.2)) < nI (50)) (tgt := 101) hx hb dX3_verdictOfMiddle_94 (by decide) Iff.rfl (fun c_17 => ?_) (fun c_17 => ?_)
        · have d_17 : ¬ nI (50) ≤ (merit) + ((((vmS (jf 0) (jf 1) panel (jn)).1) - ((vmS (jf 0) (jf 1) panel (jn)).2.1)) - ((vmS (jf 0) (jf 1) panel (jn)).2.2)) := Int32.not_le.mpr c_17
          refine lv_iconst (v := nI (2)) hx hb dX3_verdictOfMiddle_101 gc_2 ?_
          exact g_iret (v := nI (2)) hx hb hr hlk dX3_verdictOfMiddle_102 (by rw [vmF, if_pos c_17])
        · have d_17 : nI (50) ≤ (merit) + ((((vmS (jf 0) (jf 1) panel (jn)).1) - ((vmS (jf 0) (jf 1) panel (jn)).2.1)) - ((vmS (jf 0) (jf 1) panel (jn)).2.2)) := Int32.not_lt.mp c_17
          refine lv_iconst (v := nI (1)) hx hb dX3_verdictOfMiddle_97 gc_1 ?_
          refine lv_goto (tgt := 102) hx hb dX3_verdictOfMiddle_98 (by decide) ?_
          exact g_iret (v := nI (1)) hx hb hr hlk dX3_verdictOfMiddle_102 (by rw [vmF, if_neg c_17])
      · have d_15 : i_1 < jn := Nat.not_le.mp c_15
        refine lv_iload_n hx hb dX3_verdictOfMiddle_22 rfl (lv_at hl 5 rfl) ?_
        refine lv_iload hx hb dX3_verdictOfMiddle_23 (lv_at hl 0 rfl) ?_
        refine rd_calle (va_runSN (As := [.int (panel), .int (nI (i_1))]) (rest := []) ⟨hx, hb, hml, hown, hts⟩ (c_X7_isIn l D cA (panel) (i_1)) ⟨(va_cnB 2 hts (gWN gm_12_9) rfl rfl rfl (hK.2 _ (List.mem_of_getElem? (i := 10) rfl)) (hts _ (List.mem_cons_of_mem _ gm_1_2)) (by decide +kernel) ⟨Nat.le_of_ble_eq_true rfl, Nat.le_of_ble_eq_true rfl⟩), hts _ (List.mem_cons_of_mem _ gm_12_8), trivial⟩ (gPreS hK trivial) rfl rfl hl.1 rfl (lv_room (Nat.le_of_ble_eq_true rfl)) dX3_verdictOfMiddle_25 ⟨by omega, by omega⟩) ?_
        refine g_if_eq (P := hs (panel) (i_1) = false) (tgt := 73) hx hb dX3_verdictOfMiddle_28 (by decide) b2i_0 (fun c_18 => ?_) (fun c_18 => ?_)
        · refine lv_iinc (v := nI (i_1 + 1)) (lv' := [(6, .int (nI (i_1 + 1))), (5, .int ((vmS (jf 0) (jf 1) panel i_1).2.2)), (4, .int ((vmS (jf 0) (jf 1) panel i_1).2.1)), (3, .int ((vmS (jf 0) (jf 1) panel i_1).1)), (0, .ref (J 0)), (1, .int (panel)), (2, .int (merit))]) hx hb dX3_verdictOfMiddle_73 hl (k := 0) rfl (inc_1 _) (by decide) rfl (fun ls hl => ?_)
          refine lv_goto (tgt := 13) hx hb dX3_verdictOfMiddle_76 (by decide) ?_
          exact ih_12 (i_1 + 1) _ _ _ _ (by omega) (by omega) rfl (by simp [vmS, c_15, d_15, c_18]) (by simp [vmS, c_15, d_15, c_18]) (by simp [vmS, c_15, d_15, c_18])  ls (lv_sub hl [0, 1, 2, 3, 4, 5, 6] rfl)
        · have c_18 : hs (panel) (i_1) = true := eq_true_of_ne_false c_18
          refine lv_iconst (v := nI (5)) hx hb dX3_verdictOfMiddle_31 gc_5 ?_
          refine lv_aload_n hx hb dX3_verdictOfMiddle_32 rfl (lv_at hl 4 rfl) ?_
          refine g_get (v := .ref (J 1)) hx hb hts hown hK hP 0 rfl rfl gu_wsX30 0 (by decide) gm_3_9 rfl dX3_verdictOfMiddle_33 ?_
          refine lv_iload hx hb dX3_verdictOfMiddle_36 (lv_at hl 0 rfl) ?_
          refine g_iald (x := jf 0 (i_1)) hx hb hK hP 1 rfl (by omega) (by decide) rfl dX3_verdictOfMiddle_38 ?_
          refine lv_imul hx hb dX3_verdictOfMiddle_39 ?_
          refine lv_aload_n hx hb dX3_verdictOfMiddle_40 rfl (lv_at hl 4 rfl) ?_
          refine g_get (v := .ref (J 2)) hx hb hts hown hK hP 0 rfl rfl gu_wsX30 1 (by decide) gm_3_10 rfl dX3_verdictOfMiddle_41 ?_
          refine lv_iload hx hb dX3_verdictOfMiddle_44 (lv_at hl 0 rfl) ?_
          refine g_iald (x := jf 1 (i_1)) hx hb hK hP 2 rfl (by omega) (by decide) rfl dX3_verdictOfMiddle_46 ?_
          refine lv_isub hx hb dX3_verdictOfMiddle_47 ?_
          refine lv_istore (lv' := [(7, .int (((nI (5)) * (jf 0 (i_1))) - (jf 1 (i_1)))), (6, .int (nI (i_1))), (5, .int ((vmS (jf 0) (jf 1) panel i_1).2.2)), (4, .int ((vmS (jf 0) (jf 1) panel i_1).2.1)), (3, .int ((vmS (jf 0) (jf 1) panel i_1).1)), (0, .ref (J 0)), (1, .int (panel)), (2, .int (merit))]) hx hb dX3_verdictOfMiddle_48 hl (by decide) rfl (fun ls hl => ?_)
          refine lv_iload_n hx hb dX3_verdictOfMiddle_50 rfl (lv_at hl 4 rfl) ?_
          refine lv_iload hx hb dX3_verdictOfMiddle_51 (lv_at hl 0 rfl) ?_
          refine lv_iadd hx hb dX3_verdictOfMiddle_53 ?_
          refine lv_istore_n (lv' := [(3, .int (((vmS (jf 0) (jf 1) panel i_1).1) + (((nI (5)) * (jf 0 (i_1))) - (jf 1 (i_1))))), (7, .int (((nI (5)) * (jf 0 (i_1))) - (jf 1 (i_1)))), (6, .int (nI (i_1))), (5, .int ((vmS (jf 0) (jf 1) panel i_1).2.2)), (4, .int ((vmS (jf 0) (jf 1) panel i_1).2.1)), (0, .ref (J 0)), (1, .int (panel)), (2, .int (merit))]) hx hb dX3_verdictOfMiddle_54 rfl hl (by decide) rfl (fun ls hl => ?_)
          refine lv_iload hx hb dX3_verdictOfMiddle_55 (lv_at hl 4 rfl) ?_
          refine lv_iload hx hb dX3_verdictOfMiddle_57 (lv_at hl 1 rfl) ?_
          refine va_mmin hx hb (hml.trans hl.1.symm) hown (hts _ (List.mem_cons_of_mem _ gm_17_3)) (hts _ (List.mem_cons_of_mem _ gm_8_9)) (hts _ (List.mem_cons_of_mem _ gm_8_10)) (hts _ (List.mem_cons_of_mem _ gm_8_11)) (by decide) (Nat.le_of_ble_eq_true rfl) (Nat.zero_le _) (Nat.zero_le _) dX3_verdictOfMiddle_59 ?_
          refine lv_istore (lv' := [(4, .int ((if ((nI (5)) * (jf 0 (i_1))) - (jf 1 (i_1)) < (vmS (jf 0) (jf 1) panel i_1).2.1 then ((nI (5)) * (jf 0 (i_1))) - (jf 1 (i_1)) else (vmS (jf 0) (jf 1) panel i_1).2.1))), (3, .int (((vmS (jf 0) (jf 1) panel i_1).1) + (((nI (5)) * (jf 0 (i_1))) - (jf 1 (i_1))))), (7, .int (((nI (5)) * (jf 0 (i_1))) - (jf 1 (i_1)))), (6, .int (nI (i_1))), (5, .int ((vmS (jf 0) (jf 1) panel i_1).2.2)), (0, .ref (J 0)), (1, .int (panel)), (2, .int (merit))]) hx hb dX3_verdictOfMiddle_62 hl (by decide) rfl (fun ls hl => ?_)
          refine lv_iload hx hb dX3_verdictOfMiddle_64 (lv_at hl 4 rfl) ?_
          refine lv_iload hx hb dX3_verdictOfMiddle_66 (lv_at hl 2 rfl) ?_
          refine va_mmax hx hb (hml.trans hl.1.symm) hown (hts _ (List.mem_cons_of_mem _ gm_17_4)) (hts _ (List.mem_cons_of_mem _ gm_17_5)) (hts _ (List.mem_cons_of_mem _ gm_8_10)) (hts _ (List.mem_cons_of_mem _ gm_17_6)) (by decide) (Nat.le_of_ble_eq_true rfl) (Nat.zero_le _) (Nat.zero_le _) dX3_verdictOfMiddle_68 ?_
          refine lv_istore (lv' := [(5, .int ((if (vmS (jf 0) (jf 1) panel i_1).2.2 < ((nI (5)) * (jf 0 (i_1))) - (jf 1 (i_1)) then ((nI (5)) * (jf 0 (i_1))) - (jf 1 (i_1)) else (vmS (jf 0) (jf 1) panel i_1).2.2))), (4, .int ((if ((nI (5)) * (jf 0 (i_1))) - (jf 1 (i_1)) < (vmS (jf 0) (jf 1) panel i_1).2.1 then ((nI (5)) * (jf 0 (i_1))) - (jf 1 (i_1)) else (vmS (jf 0) (jf 1) panel i_1).2.1))), (3, .int (((vmS (jf 0) (jf 1) panel i_1).1) + (((nI (5)) * (jf 0 (i_1))) - (jf 1 (i_1))))), (7, .int (((nI (5)) * (jf 0 (i_1))) - (jf 1 (i_1)))), (6, .int (nI (i_1))), (0, .ref (J 0)), (1, .int (panel)), (2, .int (merit))]) hx hb dX3_verdictOfMiddle_71 hl (by decide) rfl (fun ls hl => ?_)
          refine lv_iinc (v := nI (i_1 + 1)) (lv' := [(6, .int (nI (i_1 + 1))), (5, .int ((if (vmS (jf 0) (jf 1) panel i_1).2.2 < ((nI (5)) * (jf 0 (i_1))) - (jf 1 (i_1)) then ((nI (5)) * (jf 0 (i_1))) - (jf 1 (i_1)) else (vmS (jf 0) (jf 1) panel i_1).2.2))), (4, .int ((if ((nI (5)) * (jf 0 (i_1))) - (jf 1 (i_1)) < (vmS (jf 0) (jf 1) panel i_1).2.1 then ((nI (5)) * (jf 0 (i_1))) - (jf 1 (i_1)) else (vmS (jf 0) (jf 1) panel i_1).2.1))), (3, .int (((vmS (jf 0) (jf 1) panel i_1).1) + (((nI (5)) * (jf 0 (i_1))) - (jf 1 (i_1))))), (7, .int (((nI (5)) * (jf 0 (i_1))) - (jf 1 (i_1)))), (0, .ref (J 0)), (1, .int (panel)), (2, .int (merit))]) hx hb dX3_verdictOfMiddle_73 hl (k := 4) rfl (inc_1 _) (by decide) rfl (fun ls hl => ?_)
          refine lv_goto (tgt := 13) hx hb dX3_verdictOfMiddle_76 (by decide) ?_
          exact ih_12 (i_1 + 1) _ _ _ _ (by omega) (by omega) rfl (by simp [vmS, c_15, d_15, c_18]) (by simp [vmS, c_15, d_15, c_18]) (by simp [vmS, c_15, d_15, c_18])  ls (lv_sub hl [0, 1, 2, 3, 5, 6, 7] rfl)
  exact LP_7 (jn + 1) 0 _ _ _ _ (by omega) (by omega) rfl rfl rfl rfl  ls (lv_sub hl [0, 1, 2, 3, 4, 5, 6] rfl)

set_option maxHeartbeats 1000000 in
set_option maxRecDepth 100000 in
theorem c_X0_withoutPanel (l : Launch) (D : va_G) (cA : Nat → ClassId) (K : Nat → Nat) (kf : Nat → Nat → Int32) (rw : Nat → Nat) (cn rl : Nat) (hcn : cn ≤ 10) : Met l yX0_withoutPanel (gw yX0_withoutPanel cX0_withoutPanel 3 (some .int)) ({ frames := 1, cells := 0, slots := 0, locals := 21 } : Room) (gPc [.ref (K 0)] (fun H => va_P D vwCl (kw cA K kf rw cn rl) H) D cA) (rdI (fun r => r = nI (fb_ct (fun c => !hpF kf c) cn))) 0 0 nF := by
  refine gOf (by decide) (Nat.le_of_ble_eq_true rfl) ?_
  intro p e s m below meth c ls hx hb hml hr hlk hown hts hnm hP hK hl
  have hl : lv_has ls 3 [(0, .ref (K 0))] := hl
  refine lv_iconst (v := nI (0)) hx hb dX0_withoutPanel_0 gc_0 ?_
  refine lv_istore_n (lv' := [(1, .int (nI (0))), (0, .ref (K 0))]) hx hb dX0_withoutPanel_1 rfl hl (by decide) rfl (fun ls hl => ?_)
  refine lv_iconst (v := nI (0)) hx hb dX0_withoutPanel_2 gc_0 ?_
  refine lv_istore_n (lv' := [(2, .int (nI (0))), (1, .int (nI (0))), (0, .ref (K 0))]) hx hb dX0_withoutPanel_3 rfl hl (by decide) rfl (fun ls hl => ?_)
  have LP_5 : ∀ (n_2 i_1 : Nat) (x_3 : Int32) (x_4 : Int32), i_1 ≤ cn → cn + 1 ≤ i_1 + n_2 → x_3 = nI (i_1) → x_4 = nI (fb_ct (fun c => !hpF kf c) i_1) → ∀ (ls : Array Slot), lv_has ls 3 [(2, .int (x_3)), (1, .int (x_4)), (0, .ref (K 0))] → W p l e ({ frames := 1, cells := 0, slots := 0, locals := 21 } : Room) s m ([.ref (K 0)] : List Value).toArray below meth c s.heap [] 0 0 (MQ below (rdI (fun r => r = nI (fb_ct (fun c => !hpF kf c) cn))) ([.ref (K 0)] : List Value).toArray s 0 0 nF) (F0 m 4 ls []) := by
    intro n_2
    induction n_2 with
    | zero => intro i_1 x_3 x_4 h1 h2; exact absurd h2 (by omega)
    | succ n_2 ih_8 =>
      intro i_1 x_3 x_4 h_9 h_10 e_6 e_7  ls hl
      subst e_6
      subst e_7
      refine lv_iload_n hx hb dX0_withoutPanel_4 rfl (lv_at hl 0 rfl) ?_
      refine lv_aload_n hx hb dX0_withoutPanel_5 rfl (lv_at hl 2 rfl) ?_
      refine g_get (v := .int (nI (cn))) hx hb hts hown hK hP 0 rfl rfl gu_wsX00 9 (by decide) gm_4_2 rfl dX0_withoutPanel_6 ?_
      refine g_icmp_ge (P := cn ≤ i_1) (tgt := 34) hx hb dX0_withoutPanel_9 (by decide) (nI_leI (by omega) (by omega)) (fun c_11 => ?_) (fun c_11 => ?_)
      · have d_11 : ¬ i_1 < cn := Nat.not_lt.mpr c_11
        have hN_12 : cn = i_1 := by omega
        subst hN_12
        refine lv_iload_n hx hb dX0_withoutPanel_34 rfl (lv_at hl 1 rfl) ?_
        exact g_iret (v := nI (fb_ct (fun c => !hpF kf c) (cn))) hx hb hr hlk dX0_withoutPanel_35 (rfl)
      · have d_11 : i_1 < cn := Nat.not_le.mp c_11
        refine lv_iload_n hx hb dX0_withoutPanel_12 rfl (lv_at hl 1 rfl) ?_
        refine lv_aload_n hx hb dX0_withoutPanel_13 rfl (lv_at hl 2 rfl) ?_
        refine lv_iload_n hx hb dX0_withoutPanel_14 rfl (lv_at hl 0 rfl) ?_
        refine rd_calle (va_runV (As := [.int (nI (i_1))]) (rest := [.int (nI (fb_ct (fun c => !hpF kf c) i_1))]) ⟨hx, hb, hml, hown, hts⟩ (c_X0_hasPanel l D cA K (kf) (rw) (cn) (rl) (i_1)  (by omega)) (cwV 1 hts (gWV gm_31_10 gm_12_1 gm_12_2 gm_3_0 gm_12_3) rfl rfl rfl (by decide +kernel) ⟨Nat.le_of_ble_eq_true rfl, Nat.le_of_ble_eq_true rfl⟩) (gPreV hK (g_rf hK hP (ci := 2) (q0 := 0) rfl rfl) hP) rfl rfl hl.1 rfl (lv_room (Nat.le_of_ble_eq_true rfl)) dX0_withoutPanel_15 ⟨by omega, by omega⟩) ?_
        refine g_if_eq (P := hpF kf (i_1) = false) (tgt := 25) hx hb dX0_withoutPanel_18 (by decide) b2i_0 (fun c_13 => ?_) (fun c_13 => ?_)
        · refine lv_iconst (v := nI (1)) hx hb dX0_withoutPanel_25 gc_1 ?_
          refine g_iadd hx hb dX0_withoutPanel_26 ?_
          refine lv_istore_n (lv' := [(1, .int (nI ((fb_ct (fun c => !hpF kf c) i_1) + (1)))), (2, .int (nI (i_1))), (0, .ref (K 0))]) hx hb dX0_withoutPanel_27 rfl hl (by decide) rfl (fun ls hl => ?_)
          refine lv_iinc (v := nI (i_1 + 1)) (lv' := [(2, .int (nI (i_1 + 1))), (1, .int (nI ((fb_ct (fun c => !hpF kf c) i_1) + (1)))), (0, .ref (K 0))]) hx hb dX0_withoutPanel_28 hl (k := 1) rfl (inc_1 _) (by decide) rfl (fun ls hl => ?_)
          refine lv_goto (tgt := 4) hx hb dX0_withoutPanel_31 (by decide) ?_
          exact ih_8 (i_1 + 1) _ _ (by omega) (by omega) rfl (by simp [fb_ct_succ, c_11, d_11, c_13])  ls (lv_sub hl [0, 1, 2] rfl)
        · have c_13 : hpF kf (i_1) = true := eq_true_of_ne_false c_13
          refine lv_iconst (v := nI (0)) hx hb dX0_withoutPanel_21 gc_0 ?_
          refine lv_goto (tgt := 26) hx hb dX0_withoutPanel_22 (by decide) ?_
          refine g_iadd hx hb dX0_withoutPanel_26 ?_
          refine lv_istore_n (lv' := [(1, .int (nI ((fb_ct (fun c => !hpF kf c) i_1) + (0)))), (2, .int (nI (i_1))), (0, .ref (K 0))]) hx hb dX0_withoutPanel_27 rfl hl (by decide) rfl (fun ls hl => ?_)
          refine lv_iinc (v := nI (i_1 + 1)) (lv' := [(2, .int (nI (i_1 + 1))), (1, .int (nI ((fb_ct (fun c => !hpF kf c) i_1) + (0)))), (0, .ref (K 0))]) hx hb dX0_withoutPanel_28 hl (k := 1) rfl (inc_1 _) (by decide) rfl (fun ls hl => ?_)
          refine lv_goto (tgt := 4) hx hb dX0_withoutPanel_31 (by decide) ?_
          exact ih_8 (i_1 + 1) _ _ (by omega) (by omega) rfl (by simp [fb_ct_succ, c_11, d_11, c_13])  ls (lv_sub hl [0, 1, 2] rfl)
  exact LP_5 (cn + 1) 0 _ _ (by omega) (by omega) rfl rfl  ls (lv_sub hl [0, 1, 2] rfl)

set_option maxHeartbeats 1000000 in
set_option maxRecDepth 100000 in
theorem c_X0_closed (l : Launch) (D : va_G) (cA : Nat → ClassId) (K : Nat → Nat) (kf : Nat → Nat → Int32) (rw : Nat → Nat) (cn rl : Nat) (hcn : cn ≤ 10) : Met l yX0_closed (gw yX0_closed cX0_closed 3 (some .int)) ({ frames := 1, cells := 0, slots := 0, locals := 21 } : Room) (gPc [.ref (K 0)] (fun H => va_P D vwCl (kw cA K kf rw cn rl) H) D cA) (rdI (fun r => r = nI (fb_ct (fun c => clF kf c) cn))) 0 0 nF := by
  refine gOf (by decide) (Nat.le_of_ble_eq_true rfl) ?_
  intro p e s m below meth c ls hx hb hml hr hlk hown hts hnm hP hK hl
  have hl : lv_has ls 3 [(0, .ref (K 0))] := hl
  refine lv_iconst (v := nI (0)) hx hb dX0_closed_0 gc_0 ?_
  refine lv_istore_n (lv' := [(1, .int (nI (0))), (0, .ref (K 0))]) hx hb dX0_closed_1 rfl hl (by decide) rfl (fun ls hl => ?_)
  refine lv_iconst (v := nI (0)) hx hb dX0_closed_2 gc_0 ?_
  refine lv_istore_n (lv' := [(2, .int (nI (0))), (1, .int (nI (0))), (0, .ref (K 0))]) hx hb dX0_closed_3 rfl hl (by decide) rfl (fun ls hl => ?_)
  have LP_5 : ∀ (n_2 i_1 : Nat) (x_3 : Int32) (x_4 : Int32), i_1 ≤ cn → cn + 1 ≤ i_1 + n_2 → x_3 = nI (i_1) → x_4 = nI (fb_ct (fun c => clF kf c) i_1) → ∀ (ls : Array Slot), lv_has ls 3 [(2, .int (x_3)), (1, .int (x_4)), (0, .ref (K 0))] → W p l e ({ frames := 1, cells := 0, slots := 0, locals := 21 } : Room) s m ([.ref (K 0)] : List Value).toArray below meth c s.heap [] 0 0 (MQ below (rdI (fun r => r = nI (fb_ct (fun c => clF kf c) cn))) ([.ref (K 0)] : List Value).toArray s 0 0 nF) (F0 m 4 ls []) := by
    intro n_2
    induction n_2 with
    | zero => intro i_1 x_3 x_4 h1 h2; exact absurd h2 (by omega)
    | succ n_2 ih_8 =>
      intro i_1 x_3 x_4 h_9 h_10 e_6 e_7  ls hl
      subst e_6
      subst e_7
      refine lv_iload_n hx hb dX0_closed_4 rfl (lv_at hl 0 rfl) ?_
      refine lv_aload_n hx hb dX0_closed_5 rfl (lv_at hl 2 rfl) ?_
      refine g_get (v := .int (nI (cn))) hx hb hts hown hK hP 0 rfl rfl gu_wsX00 9 (by decide) gm_4_2 rfl dX0_closed_6 ?_
      refine g_icmp_ge (P := cn ≤ i_1) (tgt := 34) hx hb dX0_closed_9 (by decide) (nI_leI (by omega) (by omega)) (fun c_11 => ?_) (fun c_11 => ?_)
      · have d_11 : ¬ i_1 < cn := Nat.not_lt.mpr c_11
        have hN_12 : cn = i_1 := by omega
        subst hN_12
        refine lv_iload_n hx hb dX0_closed_34 rfl (lv_at hl 1 rfl) ?_
        exact g_iret (v := nI (fb_ct (fun c => clF kf c) (cn))) hx hb hr hlk dX0_closed_35 (rfl)
      · have d_11 : i_1 < cn := Nat.not_le.mp c_11
        refine lv_iload_n hx hb dX0_closed_12 rfl (lv_at hl 1 rfl) ?_
        refine lv_aload_n hx hb dX0_closed_13 rfl (lv_at hl 2 rfl) ?_
        refine lv_iload_n hx hb dX0_closed_14 rfl (lv_at hl 0 rfl) ?_
        refine rd_calle (va_runV (As := [.int (nI (i_1))]) (rest := [.int (nI (fb_ct (fun c => clF kf c) i_1))]) ⟨hx, hb, hml, hown, hts⟩ (c_X0_isClosed l D cA K (kf) (rw) (cn) (rl) (i_1)  (by omega)) (cwV 1 hts (gWV gm_23_13 gm_12_17 gm_12_18 gm_3_0 gm_12_19) rfl rfl rfl (by decide +kernel) ⟨Nat.le_of_ble_eq_true rfl, Nat.le_of_ble_eq_true rfl⟩) (gPreV hK (g_rf hK hP (ci := 2) (q0 := 0) rfl rfl) hP) rfl rfl hl.1 rfl (lv_room (Nat.le_of_ble_eq_true rfl)) dX0_closed_15 ⟨by omega, by omega⟩) ?_
        refine g_if_eq (P := clF kf (i_1) = false) (tgt := 25) hx hb dX0_closed_18 (by decide) b2i_0 (fun c_13 => ?_) (fun c_13 => ?_)
        · refine lv_iconst (v := nI (0)) hx hb dX0_closed_25 gc_0 ?_
          refine g_iadd hx hb dX0_closed_26 ?_
          refine lv_istore_n (lv' := [(1, .int (nI ((fb_ct (fun c => clF kf c) i_1) + (0)))), (2, .int (nI (i_1))), (0, .ref (K 0))]) hx hb dX0_closed_27 rfl hl (by decide) rfl (fun ls hl => ?_)
          refine lv_iinc (v := nI (i_1 + 1)) (lv' := [(2, .int (nI (i_1 + 1))), (1, .int (nI ((fb_ct (fun c => clF kf c) i_1) + (0)))), (0, .ref (K 0))]) hx hb dX0_closed_28 hl (k := 1) rfl (inc_1 _) (by decide) rfl (fun ls hl => ?_)
          refine lv_goto (tgt := 4) hx hb dX0_closed_31 (by decide) ?_
          exact ih_8 (i_1 + 1) _ _ (by omega) (by omega) rfl (by simp [fb_ct_succ, c_11, d_11, c_13])  ls (lv_sub hl [0, 1, 2] rfl)
        · have c_13 : clF kf (i_1) = true := eq_true_of_ne_false c_13
          refine lv_iconst (v := nI (1)) hx hb dX0_closed_21 gc_1 ?_
          refine lv_goto (tgt := 26) hx hb dX0_closed_22 (by decide) ?_
          refine g_iadd hx hb dX0_closed_26 ?_
          refine lv_istore_n (lv' := [(1, .int (nI ((fb_ct (fun c => clF kf c) i_1) + (1)))), (2, .int (nI (i_1))), (0, .ref (K 0))]) hx hb dX0_closed_27 rfl hl (by decide) rfl (fun ls hl => ?_)
          refine lv_iinc (v := nI (i_1 + 1)) (lv' := [(2, .int (nI (i_1 + 1))), (1, .int (nI ((fb_ct (fun c => clF kf c) i_1) + (1)))), (0, .ref (K 0))]) hx hb dX0_closed_28 hl (k := 1) rfl (inc_1 _) (by decide) rfl (fun ls hl => ?_)
          refine lv_goto (tgt := 4) hx hb dX0_closed_31 (by decide) ?_
          exact ih_8 (i_1 + 1) _ _ (by omega) (by omega) rfl (by simp [fb_ct_succ, c_11, d_11, c_13])  ls (lv_sub hl [0, 1, 2] rfl)
  exact LP_5 (cn + 1) 0 _ _ (by omega) (by omega) rfl rfl  ls (lv_sub hl [0, 1, 2] rfl)

set_option maxHeartbeats 1000000 in
set_option maxRecDepth 100000 in
theorem c_X0_rolledBefore (l : Launch) (D : va_G) (cA : Nat → ClassId) (K : Nat → Nat) (kf : Nat → Nat → Int32) (rw : Nat → Nat) (cn rl : Nat) (night : Int32) (hrl : rl ≤ 10) (hrw : ∀ k, k < rl → rw k < 10) : Met l yX0_rolledBefore (gw yX0_rolledBefore cX0_rolledBefore 4 (some .int)) ({ frames := 0, cells := 0, slots := 0, locals := 0 } : Room) (gPc [.ref (K 0), .int (night)] (fun H => va_P D vwCl (kw cA K kf rw cn rl) H) D cA) (rdI (fun r => r = nI (fb_ct (fun k => decide (kf 1 (rw k) < night)) rl))) 0 0 nF := by
  refine gOf (by decide) (Nat.le_of_ble_eq_true rfl) ?_
  intro p e s m below meth c ls hx hb hml hr hlk hown hts hnm hP hK hl
  have hl : lv_has ls 4 [(0, .ref (K 0)), (1, .int (night))] := hl
  refine lv_iconst (v := nI (0)) hx hb dX0_rolledBefore_0 gc_0 ?_
  refine lv_istore_n (lv' := [(2, .int (nI (0))), (0, .ref (K 0)), (1, .int (night))]) hx hb dX0_rolledBefore_1 rfl hl (by decide) rfl (fun ls hl => ?_)
  refine lv_iconst (v := nI (0)) hx hb dX0_rolledBefore_2 gc_0 ?_
  refine lv_istore_n (lv' := [(3, .int (nI (0))), (2, .int (nI (0))), (0, .ref (K 0)), (1, .int (night))]) hx hb dX0_rolledBefore_3 rfl hl (by decide) rfl (fun ls hl => ?_)
  have LP_5 : ∀ (n_2 i_1 : Nat) (x_3 : Int32) (x_4 : Int32), i_1 ≤ rl → rl + 1 ≤ i_1 + n_2 → x_3 = nI (i_1) → x_4 = nI (fb_ct (fun k => decide (kf 1 (rw k) < night)) i_1) → ∀ (ls : Array Slot), lv_has ls 4 [(3, .int (x_3)), (2, .int (x_4)), (0, .ref (K 0)), (1, .int (night))] → W p l e ({ frames := 0, cells := 0, slots := 0, locals := 0 } : Room) s m ([.ref (K 0), .int (night)] : List Value).toArray below meth c s.heap [] 0 0 (MQ below (rdI (fun r => r = nI (fb_ct (fun k => decide (kf 1 (rw k) < night)) rl))) ([.ref (K 0), .int (night)] : List Value).toArray s 0 0 nF) (F0 m 4 ls []) := by
    intro n_2
    induction n_2 with
    | zero => intro i_1 x_3 x_4 h1 h2; exact absurd h2 (by omega)
    | succ n_2 ih_8 =>
      intro i_1 x_3 x_4 h_9 h_10 e_6 e_7  ls hl
      subst e_6
      subst e_7
      refine lv_iload_n hx hb dX0_rolledBefore_4 rfl (lv_at hl 0 rfl) ?_
      refine lv_aload_n hx hb dX0_rolledBefore_5 rfl (lv_at hl 2 rfl) ?_
      refine g_get (v := .int (nI (rl))) hx hb hts hown hK hP 0 rfl rfl gu_wsX00 10 (by decide) gm_4_3 rfl dX0_rolledBefore_6 ?_
      refine g_icmp_ge (P := rl ≤ i_1) (tgt := 41) hx hb dX0_rolledBefore_9 (by decide) (nI_leI (by omega) (by omega)) (fun c_11 => ?_) (fun c_11 => ?_)
      · have d_11 : ¬ i_1 < rl := Nat.not_lt.mpr c_11
        have hN_12 : rl = i_1 := by omega
        subst hN_12
        refine lv_iload_n hx hb dX0_rolledBefore_41 rfl (lv_at hl 1 rfl) ?_
        exact g_iret (v := nI (fb_ct (fun k => decide (kf 1 (rw k) < night)) (rl))) hx hb hr hlk dX0_rolledBefore_42 (rfl)
      · have d_11 : i_1 < rl := Nat.not_le.mp c_11
        have hrk_13 := hrw (i_1) (by omega)
        refine lv_iload_n hx hb dX0_rolledBefore_12 rfl (lv_at hl 1 rfl) ?_
        refine lv_aload_n hx hb dX0_rolledBefore_13 rfl (lv_at hl 2 rfl) ?_
        refine g_get (v := .ref (K 2)) hx hb hts hown hK hP 0 rfl rfl gu_wsX00 1 (by decide) gm_3_18 rfl dX0_rolledBefore_14 ?_
        refine lv_aload_n hx hb dX0_rolledBefore_17 rfl (lv_at hl 2 rfl) ?_
        refine g_get (v := .ref (K 9)) hx hb hts hown hK hP 0 rfl rfl gu_wsX00 8 (by decide) gm_4_1 rfl dX0_rolledBefore_18 ?_
        refine lv_iload_n hx hb dX0_rolledBefore_21 rfl (lv_at hl 0 rfl) ?_
        refine g_iald (x := nI ((rw) (i_1))) hx hb hK hP 9 rfl (by omega) (by decide) rfl dX0_rolledBefore_22 ?_
        refine g_iald (x := kf 1 ((rw) (i_1))) hx hb hK hP 2 rfl (by omega) (by decide) rfl dX0_rolledBefore_23 ?_
        refine lv_iload_n hx hb dX0_rolledBefore_24 rfl (lv_at hl 3 rfl) ?_
        refine g_icmp_ge (P := night ≤ kf 1 ((rw) (i_1))) (tgt := 32) hx hb dX0_rolledBefore_25 (by decide) Iff.rfl (fun c_14 => ?_) (fun c_14 => ?_)
        · have d_14 : ¬ kf 1 ((rw) (i_1)) < night := Int32.not_lt.mpr c_14
          refine lv_iconst (v := nI (0)) hx hb dX0_rolledBefore_32 gc_0 ?_
          refine g_iadd hx hb dX0_rolledBefore_33 ?_
          refine lv_istore_n (lv' := [(2, .int (nI ((fb_ct (fun k => decide (kf 1 (rw k) < night)) i_1) + (0)))), (3, .int (nI (i_1))), (0, .ref (K 0)), (1, .int (night))]) hx hb dX0_rolledBefore_34 rfl hl (by decide) rfl (fun ls hl => ?_)
          refine lv_iinc (v := nI (i_1 + 1)) (lv' := [(3, .int (nI (i_1 + 1))), (2, .int (nI ((fb_ct (fun k => decide (kf 1 (rw k) < night)) i_1) + (0)))), (0, .ref (K 0)), (1, .int (night))]) hx hb dX0_rolledBefore_35 hl (k := 1) rfl (inc_1 _) (by decide) rfl (fun ls hl => ?_)
          refine lv_goto (tgt := 4) hx hb dX0_rolledBefore_38 (by decide) ?_
          exact ih_8 (i_1 + 1) _ _ (by omega) (by omega) rfl (by simp [fb_ct_succ, c_11, d_11, c_14, d_14] <;> omega)  ls (lv_sub hl [0, 1, 2, 3] rfl)
        · have d_14 : kf 1 ((rw) (i_1)) < night := Int32.not_le.mp c_14
          refine lv_iconst (v := nI (1)) hx hb dX0_rolledBefore_28 gc_1 ?_
          refine lv_goto (tgt := 33) hx hb dX0_rolledBefore_29 (by decide) ?_
          refine g_iadd hx hb dX0_rolledBefore_33 ?_
          refine lv_istore_n (lv' := [(2, .int (nI ((fb_ct (fun k => decide (kf 1 (rw k) < night)) i_1) + (1)))), (3, .int (nI (i_1))), (0, .ref (K 0)), (1, .int (night))]) hx hb dX0_rolledBefore_34 rfl hl (by decide) rfl (fun ls hl => ?_)
          refine lv_iinc (v := nI (i_1 + 1)) (lv' := [(3, .int (nI (i_1 + 1))), (2, .int (nI ((fb_ct (fun k => decide (kf 1 (rw k) < night)) i_1) + (1)))), (0, .ref (K 0)), (1, .int (night))]) hx hb dX0_rolledBefore_35 hl (k := 1) rfl (inc_1 _) (by decide) rfl (fun ls hl => ?_)
          refine lv_goto (tgt := 4) hx hb dX0_rolledBefore_38 (by decide) ?_
          exact ih_8 (i_1 + 1) _ _ (by omega) (by omega) rfl (by simp [fb_ct_succ, c_11, d_11, c_14, d_14] <;> omega)  ls (lv_sub hl [0, 1, 2, 3] rfl)
  exact LP_5 (rl + 1) 0 _ _ (by omega) (by omega) rfl rfl  ls (lv_sub hl [0, 1, 2, 3] rfl)

set_option maxHeartbeats 1000000 in
set_option maxRecDepth 100000 in
theorem c_X0_rolledTermFrom (l : Launch) (D : va_G) (cA : Nat → ClassId) (K : Nat → Nat) (kf : Nat → Nat → Int32) (rw : Nat → Nat) (cn rl : Nat) (night : Int32) (hrl : rl ≤ 10) (hrw : ∀ k, k < rl → rw k < 10) : Met l yX0_rolledTermFrom (gw yX0_rolledTermFrom cX0_rolledTermFrom 3 (some .int)) ({ frames := 0, cells := 0, slots := 0, locals := 0 } : Room) (gPc [.ref (K 0), .int (night)] (fun H => va_P D vwCl (kw cA K kf rw cn rl) H) D cA) (rdI (fun r => r = rtF kf rw rl night)) 0 0 nF := by
  refine gOf (by decide) (Nat.le_of_ble_eq_true rfl) ?_
  intro p e s m below meth c ls hx hb hml hr hlk hown hts hnm hP hK hl
  have hl : lv_has ls 3 [(0, .ref (K 0)), (1, .int (night))] := hl
  refine lv_iconst (v := nI (0)) hx hb dX0_rolledTermFrom_0 gc_0 ?_
  refine lv_istore_n (lv' := [(2, .int (nI (0))), (0, .ref (K 0)), (1, .int (night))]) hx hb dX0_rolledTermFrom_1 rfl hl (by decide) rfl (fun ls hl => ?_)
  have LP_4 : ∀ (n_2 i_1 : Nat) (x_3 : Int32), i_1 ≤ rl → rl + 1 ≤ i_1 + n_2 → x_3 = nI (i_1) → (fnd (fun j => decide (night ≤ kf 1 (rw j))) (i_1) = none) → ∀ (ls : Array Slot), lv_has ls 3 [(2, .int (x_3)), (0, .ref (K 0)), (1, .int (night))] → W p l e ({ frames := 0, cells := 0, slots := 0, locals := 0 } : Room) s m ([.ref (K 0), .int (night)] : List Value).toArray below meth c s.heap [] 0 0 (MQ below (rdI (fun r => r = rtF kf rw rl night)) ([.ref (K 0), .int (night)] : List Value).toArray s 0 0 nF) (F0 m 2 ls []) := by
    intro n_2
    induction n_2 with
    | zero => intro i_1 x_3 h1 h2; exact absurd h2 (by omega)
    | succ n_2 ih_6 =>
      intro i_1 x_3 h_7 h_8 e_5 hv ls hl
      subst e_5
      refine lv_iload_n hx hb dX0_rolledTermFrom_2 rfl (lv_at hl 0 rfl) ?_
      refine lv_aload_n hx hb dX0_rolledTermFrom_3 rfl (lv_at hl 1 rfl) ?_
      refine g_get (v := .int (nI (rl))) hx hb hts hown hK hP 0 rfl rfl gu_wsX00 10 (by decide) gm_4_3 rfl dX0_rolledTermFrom_4 ?_
      refine g_icmp_ge (P := rl ≤ i_1) (tgt := 43) hx hb dX0_rolledTermFrom_7 (by decide) (nI_leI (by omega) (by omega)) (fun c_9 => ?_) (fun c_9 => ?_)
      · have d_9 : ¬ i_1 < rl := Nat.not_lt.mpr c_9
        have hN_10 : rl = i_1 := by omega
        subst hN_10
        refine lv_iconst (v := -1) hx hb dX0_rolledTermFrom_43 gc_m1 ?_
        exact g_iret (v := -1) hx hb hr hlk dX0_rolledTermFrom_44 (by rw [rtF, hv])
      · have d_9 : i_1 < rl := Nat.not_le.mp c_9
        have hrk_11 := hrw (i_1) (by omega)
        refine lv_aload_n hx hb dX0_rolledTermFrom_10 rfl (lv_at hl 1 rfl) ?_
        refine g_get (v := .ref (K 2)) hx hb hts hown hK hP 0 rfl rfl gu_wsX00 1 (by decide) gm_3_18 rfl dX0_rolledTermFrom_11 ?_
        refine lv_aload_n hx hb dX0_rolledTermFrom_14 rfl (lv_at hl 1 rfl) ?_
        refine g_get (v := .ref (K 9)) hx hb hts hown hK hP 0 rfl rfl gu_wsX00 8 (by decide) gm_4_1 rfl dX0_rolledTermFrom_15 ?_
        refine lv_iload_n hx hb dX0_rolledTermFrom_18 rfl (lv_at hl 0 rfl) ?_
        refine g_iald (x := nI ((rw) (i_1))) hx hb hK hP 9 rfl (by omega) (by decide) rfl dX0_rolledTermFrom_19 ?_
        refine g_iald (x := kf 1 ((rw) (i_1))) hx hb hK hP 2 rfl (by omega) (by decide) rfl dX0_rolledTermFrom_20 ?_
        refine lv_iload_n hx hb dX0_rolledTermFrom_21 rfl (lv_at hl 2 rfl) ?_
        refine g_icmp_lt (P := kf 1 ((rw) (i_1)) < night) (tgt := 37) hx hb dX0_rolledTermFrom_22 (by decide) Iff.rfl (fun c_12 => ?_) (fun c_12 => ?_)
        · have d_12 : ¬ night ≤ kf 1 ((rw) (i_1)) := Int32.not_le.mpr c_12
          refine lv_iinc (v := nI (i_1 + 1)) (lv' := [(2, .int (nI (i_1 + 1))), (0, .ref (K 0)), (1, .int (night))]) hx hb dX0_rolledTermFrom_37 hl (k := 0) rfl (inc_1 _) (by decide) rfl (fun ls hl => ?_)
          refine lv_goto (tgt := 2) hx hb dX0_rolledTermFrom_40 (by decide) ?_
          exact ih_6 (i_1 + 1) _ (by omega) (by omega) rfl (fnd_succ_none hv (by simp [c_9, d_9, c_12, d_12] <;> omega)) ls (lv_sub hl [0, 1, 2] rfl)
        · have d_12 : night ≤ kf 1 ((rw) (i_1)) := Int32.not_lt.mp c_12
          refine lv_aload_n hx hb dX0_rolledTermFrom_25 rfl (lv_at hl 1 rfl) ?_
          refine g_get (v := .ref (K 2)) hx hb hts hown hK hP 0 rfl rfl gu_wsX00 1 (by decide) gm_3_18 rfl dX0_rolledTermFrom_26 ?_
          refine lv_aload_n hx hb dX0_rolledTermFrom_29 rfl (lv_at hl 1 rfl) ?_
          refine g_get (v := .ref (K 9)) hx hb hts hown hK hP 0 rfl rfl gu_wsX00 8 (by decide) gm_4_1 rfl dX0_rolledTermFrom_30 ?_
          refine lv_iload_n hx hb dX0_rolledTermFrom_33 rfl (lv_at hl 0 rfl) ?_
          refine g_iald (x := nI ((rw) (i_1))) hx hb hK hP 9 rfl (by omega) (by decide) rfl dX0_rolledTermFrom_34 ?_
          refine g_iald (x := kf 1 ((rw) (i_1))) hx hb hK hP 2 rfl (by omega) (by decide) rfl dX0_rolledTermFrom_35 ?_
          exact g_iret (v := kf 1 ((rw) (i_1))) hx hb hr hlk dX0_rolledTermFrom_36 (by rw [rtF, fnd_stop hv (by simp [c_9, d_9, c_12, d_12]) rl (by omega)])
  exact LP_4 (rl + 1) 0 _ (by omega) (by omega) rfl rfl ls (lv_sub hl [0, 1, 2] rfl)

set_option maxHeartbeats 1000000 in
set_option maxRecDepth 100000 in
theorem c_X1_loadInRow (l : Launch) (D : va_G) (cA : Nat → ClassId) (A : Nat → Nat) (jf : Nat → Nat → Int32) (jn : Nat) (kf : Nat → Nat → Int32) (rw : Nat → Nat) (cn rl clk ton : Nat) (sd : Int32) (j : Nat) (hcn : cn ≤ 10) (hj9 : j < 9) : Met l yX1_loadInRow (gw yX1_loadInRow cX1_loadInRow 7 (some .int)) ({ frames := 1, cells := 0, slots := 0, locals := 21 } : Room) (gPc [.ref (A 0), .int (nI (j))] (fun H => va_P D vwCl (cw cA A jf jn kf rw cn rl clk ton sd) H) D cA) (rdI (fun r => r = lrF kf cn j)) 0 0 nF := by
  refine gOf (by decide) (Nat.le_of_ble_eq_true rfl) ?_
  intro p e s m below meth c ls hx hb hml hr hlk hown hts hnm hP hK hl
  have hl : lv_has ls 7 [(0, .ref (A 0)), (1, .int (nI (j)))] := hl
  refine lv_lconst (v := 0) hx hb dX1_loadInRow_0 rfl ?_
  refine lv_lstore_n (lv' := [(2, .long (0)), (0, .ref (A 0)), (1, .int (nI (j)))]) hx hb dX1_loadInRow_1 rfl hl (by decide) rfl (fun ls hl => ?_)
  refine lv_iconst (v := nI (0)) hx hb dX1_loadInRow_2 gc_0 ?_
  refine lv_istore (lv' := [(4, .int (nI (0))), (2, .long (0)), (0, .ref (A 0)), (1, .int (nI (j)))]) hx hb dX1_loadInRow_3 hl (by decide) rfl (fun ls hl => ?_)
  have LP_5 : ∀ (n_2 i_1 : Nat) (x_3 : Int32) (x_4 : Int64), i_1 ≤ cn * 9 → cn * 9 + 1 ≤ i_1 + n_2 → x_3 = nI (i_1) → x_4 = lrS kf i_1 → ∀ (ls : Array Slot), lv_has ls 7 [(4, .int (x_3)), (2, .long (x_4)), (0, .ref (A 0)), (1, .int (nI (j)))] → W p l e ({ frames := 1, cells := 0, slots := 0, locals := 21 } : Room) s m ([.ref (A 0), .int (nI (j))] : List Value).toArray below meth c s.heap [] 0 0 (MQ below (rdI (fun r => r = lrF kf cn j)) ([.ref (A 0), .int (nI (j))] : List Value).toArray s 0 0 nF) (F0 m 5 ls []) := by
    intro n_2
    induction n_2 with
    | zero => intro i_1 x_3 x_4 h1 h2; exact absurd h2 (by omega)
    | succ n_2 ih_8 =>
      intro i_1 x_3 x_4 h_9 h_10 e_6 e_7  ls hl
      subst e_6
      subst e_7
      refine lv_iload hx hb dX1_loadInRow_5 (lv_at hl 0 rfl) ?_
      refine lv_aload_n hx hb dX1_loadInRow_7 rfl (lv_at hl 2 rfl) ?_
      refine g_get (v := .ref (A 6)) hx hb hts hown hK hP 0 rfl rfl gu_wsX10 1 (by decide) gm_3_1 rfl dX1_loadInRow_8 ?_
      refine g_get (v := .int (nI (cn))) hx hb hts hown hK hP 6 rfl rfl gu_wsX00 9 (by decide) gm_12_14 rfl dX1_loadInRow_11 ?_
      refine lv_bipush (v := nI (9)) hx hb dX1_loadInRow_14 gb_9 ?_
      refine g_imul hx hb dX1_loadInRow_16 ?_
      refine g_icmp_ge (P := cn * 9 ≤ i_1) (tgt := 80) hx hb dX1_loadInRow_17 (by decide) (nI_leI (by omega) (by omega)) (fun c_11 => ?_) (fun c_11 => ?_)
      · have d_11 : ¬ i_1 < cn * 9 := Nat.not_lt.mpr c_11
        have hN_12 : cn * 9 = i_1 := by omega
        subst hN_12
        refine lv_lload_n hx hb dX1_loadInRow_80 rfl (lv_at hl 1 rfl) ?_
        refine lv_bipush (v := nI (6)) hx hb dX1_loadInRow_81 gb_6 ?_
        refine lv_iload_n hx hb dX1_loadInRow_83 rfl (lv_at hl 3 rfl) ?_
        refine g_imul hx hb dX1_loadInRow_84 ?_
        refine lv_lshr (v := (lrS kf (cn * 9) >>> ((nI (6 * j)).toInt64 &&& 63))) hx hb dX1_loadInRow_85 rfl ?_
        refine lv_ldc2 (v := 63) hx hb hown (hts _ (List.mem_cons_of_mem _ gm_28_9)) dX1_loadInRow_86 ?_
        refine lv_land hx hb dX1_loadInRow_89 ?_
        refine lv_l2i (v := (((lrS kf (cn * 9) >>> ((nI (6 * j)).toInt64 &&& 63)) &&& (63 : Int64))).toInt32) hx hb dX1_loadInRow_90 rfl ?_
        exact g_iret (v := (((lrS kf (cn * 9) >>> ((nI (6 * j)).toInt64 &&& 63)) &&& (63 : Int64))).toInt32) hx hb hr hlk dX1_loadInRow_91 (rfl)
      · have d_11 : i_1 < cn * 9 := Nat.not_le.mp c_11
        refine lv_iload hx hb dX1_loadInRow_20 (lv_at hl 0 rfl) ?_
        refine lv_bipush (v := nI (9)) hx hb dX1_loadInRow_22 gb_9 ?_
        refine g_idiv hx hb (by omega) (by omega) (by omega) dX1_loadInRow_24 ?_
        refine lv_istore (lv' := [(5, .int (nI ((i_1) / (9)))), (4, .int (nI (i_1))), (2, .long (lrS kf i_1)), (0, .ref (A 0)), (1, .int (nI (j)))]) hx hb dX1_loadInRow_25 hl (by decide) rfl (fun ls hl => ?_)
        refine lv_iload hx hb dX1_loadInRow_27 (lv_at hl 1 rfl) ?_
        refine lv_bipush (v := nI (9)) hx hb dX1_loadInRow_29 gb_9 ?_
        refine g_irem hx hb (by omega) (by omega) (by omega) dX1_loadInRow_31 ?_
        refine lv_istore (lv' := [(6, .int (nI ((i_1) % (9)))), (5, .int (nI ((i_1) / (9)))), (4, .int (nI (i_1))), (2, .long (lrS kf i_1)), (0, .ref (A 0)), (1, .int (nI (j)))]) hx hb dX1_loadInRow_32 hl (by decide) rfl (fun ls hl => ?_)
        refine lv_aload_n hx hb dX1_loadInRow_34 rfl (lv_at hl 4 rfl) ?_
        refine g_get (v := .ref (A 6)) hx hb hts hown hK hP 0 rfl rfl gu_wsX10 1 (by decide) gm_3_1 rfl dX1_loadInRow_35 ?_
        refine lv_iload hx hb dX1_loadInRow_38 (lv_at hl 1 rfl) ?_
        refine rd_calle (va_runV (As := [.int (nI ((i_1) / (9)))]) (rest := []) ⟨hx, hb, hml, hown, hts⟩ (c_X0_isClosed l D cA (fun k => A (k + 6)) (kf) (rw) (cn) (rl) ((i_1) / (9))  (by omega)) (cwV 1 hts (gWV gm_12_16 gm_12_17 gm_12_18 gm_3_0 gm_12_19) rfl rfl rfl (by decide +kernel) ⟨Nat.le_of_ble_eq_true rfl, Nat.le_of_ble_eq_true rfl⟩) (gPreV hK (g_rf hK hP (ci := 2) (q0 := 6) rfl rfl) (hP.sub [6, 7, 8, 9, 10, 11, 12, 13, 14, 15] rfl)) rfl rfl hl.1 rfl (lv_room (Nat.le_of_ble_eq_true rfl)) dX1_loadInRow_40 ⟨by omega, by omega⟩) ?_
        refine g_if_ne (P := clF kf ((i_1) / (9)) = false) (tgt := 74) hx hb dX1_loadInRow_43 (by decide) b2i_0 (fun c_13 => ?_) (fun c_13 => ?_)
        · have c_13 : clF kf ((i_1) / (9)) = true := eq_true_of_ne_false c_13
          refine lv_iinc (v := nI (i_1 + 1)) (lv' := [(4, .int (nI (i_1 + 1))), (6, .int (nI ((i_1) % (9)))), (5, .int (nI ((i_1) / (9)))), (2, .long (lrS kf i_1)), (0, .ref (A 0)), (1, .int (nI (j)))]) hx hb dX1_loadInRow_74 hl (k := 2) rfl (inc_1 _) (by decide) rfl (fun ls hl => ?_)
          refine lv_goto (tgt := 5) hx hb dX1_loadInRow_77 (by decide) ?_
          exact ih_8 (i_1 + 1) _ _ (by omega) (by omega) rfl (by simp [lrS, c_11, d_11, c_13])  ls (lv_sub hl [0, 3, 4, 5] rfl)
        · refine lv_aload_n hx hb dX1_loadInRow_46 rfl (lv_at hl 4 rfl) ?_
          refine g_get (v := .ref (A 6)) hx hb hts hown hK hP 0 rfl rfl gu_wsX10 1 (by decide) gm_3_1 rfl dX1_loadInRow_47 ?_
          refine g_get (v := .ref (A 9)) hx hb hts hown hK hP 6 rfl rfl gu_wsX00 2 (by decide) gm_12_15 rfl dX1_loadInRow_50 ?_
          refine lv_iload hx hb dX1_loadInRow_53 (lv_at hl 1 rfl) ?_
          refine g_iald (x := kf 2 ((i_1) / (9))) hx hb hK hP 9 rfl (by omega) (by decide) rfl dX1_loadInRow_55 ?_
          refine lv_iload hx hb dX1_loadInRow_56 (lv_at hl 0 rfl) ?_
          refine rd_calle (va_runSN (As := [.int (kf 2 ((i_1) / (9))), .int (nI ((i_1) % (9)))]) (rest := []) ⟨hx, hb, hml, hown, hts⟩ (c_X7_isIn l D cA (kf 2 ((i_1) / (9))) ((i_1) % (9))) ⟨(va_cnB 2 hts (gWN gm_12_9) rfl rfl rfl (hK.2 _ (List.mem_of_getElem? (i := 8) rfl)) (hts _ (List.mem_cons_of_mem _ gm_1_2)) (by decide +kernel) ⟨Nat.le_of_ble_eq_true rfl, Nat.le_of_ble_eq_true rfl⟩), hts _ (List.mem_cons_of_mem _ gm_12_8), trivial⟩ (gPreS hK trivial) rfl rfl hl.1 rfl (lv_room (Nat.le_of_ble_eq_true rfl)) dX1_loadInRow_58 ⟨by omega, by omega⟩) ?_
          refine g_if_eq (P := hs (kf 2 ((i_1) / (9))) ((i_1) % (9)) = false) (tgt := 74) hx hb dX1_loadInRow_61 (by decide) b2i_0 (fun c_14 => ?_) (fun c_14 => ?_)
          · refine lv_iinc (v := nI (i_1 + 1)) (lv' := [(4, .int (nI (i_1 + 1))), (6, .int (nI ((i_1) % (9)))), (5, .int (nI ((i_1) / (9)))), (2, .long (lrS kf i_1)), (0, .ref (A 0)), (1, .int (nI (j)))]) hx hb dX1_loadInRow_74 hl (k := 2) rfl (inc_1 _) (by decide) rfl (fun ls hl => ?_)
            refine lv_goto (tgt := 5) hx hb dX1_loadInRow_77 (by decide) ?_
            exact ih_8 (i_1 + 1) _ _ (by omega) (by omega) rfl (by simp [lrS, c_11, d_11, c_13, c_14])  ls (lv_sub hl [0, 3, 4, 5] rfl)
          · have c_14 : hs (kf 2 ((i_1) / (9))) ((i_1) % (9)) = true := eq_true_of_ne_false c_14
            refine lv_lload_n hx hb dX1_loadInRow_64 rfl (lv_at hl 3 rfl) ?_
            refine lv_lconst (v := 1) hx hb dX1_loadInRow_65 rfl ?_
            refine lv_bipush (v := nI (6)) hx hb dX1_loadInRow_66 gb_6 ?_
            refine lv_iload hx hb dX1_loadInRow_68 (lv_at hl 0 rfl) ?_
            refine g_imul hx hb dX1_loadInRow_70 ?_
            refine lv_lshl (v := (1 <<< ((nI ((6) * ((i_1) % (9)))).toInt64 &&& 63))) hx hb dX1_loadInRow_71 rfl ?_
            refine lv_ladd hx hb dX1_loadInRow_72 ?_
            refine lv_lstore_n (lv' := [(2, .long ((lrS kf i_1 + (1 <<< ((nI ((6) * ((i_1) % (9)))).toInt64 &&& 63))))), (6, .int (nI ((i_1) % (9)))), (5, .int (nI ((i_1) / (9)))), (4, .int (nI (i_1))), (0, .ref (A 0)), (1, .int (nI (j)))]) hx hb dX1_loadInRow_73 rfl hl (by decide) rfl (fun ls hl => ?_)
            refine lv_iinc (v := nI (i_1 + 1)) (lv' := [(4, .int (nI (i_1 + 1))), (2, .long ((lrS kf i_1 + (1 <<< ((nI ((6) * ((i_1) % (9)))).toInt64 &&& 63))))), (6, .int (nI ((i_1) % (9)))), (5, .int (nI ((i_1) / (9)))), (0, .ref (A 0)), (1, .int (nI (j)))]) hx hb dX1_loadInRow_74 hl (k := 3) rfl (inc_1 _) (by decide) rfl (fun ls hl => ?_)
            refine lv_goto (tgt := 5) hx hb dX1_loadInRow_77 (by decide) ?_
            exact ih_8 (i_1 + 1) _ _ (by omega) (by omega) rfl (by simp [lrS, c_11, d_11, c_13, c_14])  ls (lv_sub hl [0, 1, 4, 5] rfl)
  exact LP_5 (cn * 9 + 1) 0 _ _ (by omega) (by omega) rfl rfl  ls (lv_sub hl [0, 1, 2, 3] rfl)

set_option maxHeartbeats 1000000 in
set_option maxRecDepth 100000 in
theorem c_X1_takenIn (l : Launch) (D : va_G) (cA : Nat → ClassId) (A : Nat → Nat) (jf : Nat → Nat → Int32) (jn : Nat) (kf : Nat → Nat → Int32) (rw : Nat → Nat) (cn rl clk ton : Nat) (sd : Int32) (q : Nat) (hrl : rl ≤ 10) (hrw : ∀ k, k < rl → rw k < 10) (hq : q < 10) (hcl : clk ≤ 4) (htn : ton ≤ 99) : Met l yX1_takenIn (gw yX1_takenIn cX1_takenIn 4 (some .int)) ({ frames := 1, cells := 0, slots := 0, locals := 22 } : Room) (gPc [.ref (A 0), .int (nI (q))] (fun H => va_P D vwCl (cw cA A jf jn kf rw cn rl clk ton sd) H) D cA) (rdI (fun r => r = tkN kf rw rl clk ton q)) 0 0 nF := by
  refine gOf (by decide) (Nat.le_of_ble_eq_true rfl) ?_
  intro p e s m below meth c ls hx hb hml hr hlk hown hts hnm hP hK hl
  have hl : lv_has ls 4 [(0, .ref (A 0)), (1, .int (nI (q)))] := hl
  refine lv_aload_n hx hb dX1_takenIn_0 rfl (lv_at hl 0 rfl) ?_
  refine g_get (v := .ref (A 6)) hx hb hts hown hK hP 0 rfl rfl gu_wsX10 1 (by decide) gm_3_1 rfl dX1_takenIn_1 ?_
  refine lv_iload_n hx hb dX1_takenIn_4 rfl (lv_at hl 1 rfl) ?_
  refine rd_calle (va_runV (As := [.int (nI (q))]) (rest := []) ⟨hx, hb, hml, hown, hts⟩ (c_X0_placeOnRoll l D cA (fun k => A (k + 6)) (kf) (rw) (cn) (rl) (q)  hrl hrw (by omega)) (cwV 1 hts (gWV gm_32_15 gm_17_12 gm_17_13 gm_3_0 gm_17_14) rfl rfl rfl (by decide +kernel) ⟨Nat.le_of_ble_eq_true rfl, Nat.le_of_ble_eq_true rfl⟩) (gPreV hK (g_rf hK hP (ci := 2) (q0 := 6) rfl rfl) (hP.sub [6, 7, 8, 9, 10, 11, 12, 13, 14, 15] rfl)) rfl rfl hl.1 rfl (lv_room (Nat.le_of_ble_eq_true rfl)) dX1_takenIn_5 ⟨by omega, by omega⟩) ?_
  refine lv_istore_n (lv' := [(2, .int (oI (fnd (fun k => decide (rw k = (q))) rl))), (0, .ref (A 0)), (1, .int (nI (q)))]) hx hb dX1_takenIn_8 rfl hl (by decide) rfl (fun ls hl => ?_)
  refine lv_iload_n hx hb dX1_takenIn_9 rfl (lv_at hl 0 rfl) ?_
  refine lv_iconst (v := -1) hx hb dX1_takenIn_10 gc_m1 ?_
  refine g_icmp_eq (P := fnd (fun k => decide (rw k = (q))) rl = none) (tgt := 22) hx hb dX1_takenIn_11 (by decide) (oI_m1 (fun b q => by have := fnd_lt q; omega)) (fun c_1 => ?_) (fun c_1 => ?_)
  · refine lv_iconst (v := -1) hx hb dX1_takenIn_22 gc_m1 ?_
    exact g_iret (v := -1) hx hb hr hlk dX1_takenIn_23 (by rw [tkN, c_1])
  · obtain ⟨b_2, eb_3⟩ := o_some c_1
    have hb_4 := fnd_lt eb_3
    rw [eb_3] at hl
    have hl : lv_has ls 4 [(2, .int (nI (b_2))), (0, .ref (A 0)), (1, .int (nI (q)))] := hl
    refine lv_aload_n hx hb dX1_takenIn_14 rfl (lv_at hl 1 rfl) ?_
    refine g_get (v := .int (nI (clk))) hx hb hts hown hK hP 0 rfl rfl gu_wsX10 2 (by decide) gm_3_2 rfl dX1_takenIn_15 ?_
    refine lv_iconst (v := nI (1)) hx hb dX1_takenIn_18 gc_1 ?_
    refine g_icmp_ge (P := 1 ≤ clk) (tgt := 24) hx hb dX1_takenIn_19 (by decide) (nI_leI (by omega) (by omega)) (fun c_5 => ?_) (fun c_5 => ?_)
    · have d_5 : ¬ clk < 1 := Nat.not_lt.mpr c_5
      refine lv_aload_n hx hb dX1_takenIn_24 rfl (lv_at hl 1 rfl) ?_
      refine g_get (v := .int (nI (ton))) hx hb hts hown hK hP 0 rfl rfl gu_wsX10 3 (by decide) gm_3_3 rfl dX1_takenIn_25 ?_
      refine lv_iconst (v := nI (1)) hx hb dX1_takenIn_28 gc_1 ?_
      refine g_iadd hx hb dX1_takenIn_29 ?_
      refine lv_iload_n hx hb dX1_takenIn_30 rfl (lv_at hl 0 rfl) ?_
      refine lv_aload_n hx hb dX1_takenIn_31 rfl (lv_at hl 1 rfl) ?_
      refine g_get (v := .int (nI (clk))) hx hb hts hown hK hP 0 rfl rfl gu_wsX10 2 (by decide) gm_3_2 rfl dX1_takenIn_32 ?_
      refine g_idiv hx hb (by omega) (by omega) (by omega) dX1_takenIn_35 ?_
      have hdv_6 := Nat.div_le_self b_2 clk
      refine g_iadd hx hb dX1_takenIn_36 ?_
      refine lv_istore_n (lv' := [(3, .int (nI ((ton + 1) + ((b_2) / (clk))))), (2, .int (nI (b_2))), (0, .ref (A 0)), (1, .int (nI (q)))]) hx hb dX1_takenIn_37 rfl hl (by decide) rfl (fun ls hl => ?_)
      refine lv_iload_n hx hb dX1_takenIn_38 rfl (lv_at hl 0 rfl) ?_
      refine lv_bipush (v := nI (99)) hx hb dX1_takenIn_39 gb_99 ?_
      refine g_icmp_le (P := (ton + 1) + ((b_2) / (clk)) ≤ 99) (tgt := 48) hx hb dX1_takenIn_41 (by decide) (nI_leI (by omega) (by omega)) (fun c_7 => ?_) (fun c_7 => ?_)
      · have d_7 : ¬ 99 < (ton + 1) + ((b_2) / (clk)) := Nat.not_lt.mpr c_7
        refine lv_iload_n hx hb dX1_takenIn_48 rfl (lv_at hl 0 rfl) ?_
        exact g_iret (v := nI ((ton + 1) + ((b_2) / (clk)))) hx hb hr hlk dX1_takenIn_49 (by rw [tkN, eb_3]; show _ = if clk < 1 then _ else _; rw [if_neg (by omega), if_neg (by omega)])
      · have d_7 : 99 < (ton + 1) + ((b_2) / (clk)) := Nat.not_le.mp c_7
        refine lv_iconst (v := -1) hx hb dX1_takenIn_44 gc_m1 ?_
        refine lv_goto (tgt := 49) hx hb dX1_takenIn_45 (by decide) ?_
        exact g_iret (v := -1) hx hb hr hlk dX1_takenIn_49 (by rw [tkN, eb_3]; show _ = if clk < 1 then _ else _; rw [if_neg (by omega), if_pos (by omega)])
    · have d_5 : clk < 1 := Nat.not_le.mp c_5
      refine lv_iconst (v := -1) hx hb dX1_takenIn_22 gc_m1 ?_
      exact g_iret (v := -1) hx hb hr hlk dX1_takenIn_23 (by rw [tkN, eb_3]; show _ = if clk < 1 then _ else _; rw [if_pos (by omega)])

set_option maxHeartbeats 1000000 in
set_option maxRecDepth 100000 in
theorem c_X1_isOrderRight (l : Launch) (D : va_G) (cA : Nat → ClassId) (A : Nat → Nat) (jf : Nat → Nat → Int32) (jn : Nat) (kf : Nat → Nat → Int32) (rw : Nat → Nat) (cn rl clk ton : Nat) (sd : Int32) (kd : Nat) (a b : Int32) (hcn : cn ≤ 10) (hk7 : kd ≤ 7) : Met l yX1_isOrderRight (gw yX1_isOrderRight cX1_isOrderRight 4 (some .boolean)) ({ frames := 1, cells := 0, slots := 0, locals := 21 } : Room) (gPc [.ref (A 0), .int (nI (kd)), .int (a), .int (b)] (fun H => va_P D vwCl (cw cA A jf jn kf rw cn rl clk ton sd) H) D cA) (rdI (fun r => r = b2i (ioF cn kd a b))) 0 0 nF := by
  refine gOf (by decide) (Nat.le_of_ble_eq_true rfl) ?_
  intro p e s m below meth c ls hx hb hml hr hlk hown hts hnm hP hK hl
  have hl : lv_has ls 4 [(0, .ref (A 0)), (1, .int (nI (kd))), (2, .int (a)), (3, .int (b))] := hl
  refine lv_iload_n hx hb dX1_isOrderRight_0 rfl (lv_at hl 1 rfl) ?_
  have hsw_1 : kd = 0 ∨ kd = 1 ∨ kd = 2 ∨ kd = 3 ∨ kd = 4 ∨ kd = 5 ∨ kd = 6 ∨ kd = 7 := by omega
  rcases hsw_1 with rfl | rfl | rfl | rfl | rfl | rfl | rfl | rfl
  · refine lv_tableIn (off := 39) (tgt := 40) hx hb dX1_isOrderRight_1 (by decide +kernel) (by decide +kernel) (by decide +kernel) (by decide) ?_
    refine lv_iload_n hx hb dX1_isOrderRight_40 rfl (lv_at hl 2 rfl) ?_
    refine lv_iload_n hx hb dX1_isOrderRight_41 rfl (lv_at hl 3 rfl) ?_
    refine rd_calle (va_runSN (As := [.int (a), .int (b)]) (rest := []) ⟨hx, hb, hml, hown, hts⟩ (c_X7_isJurorRight l D cA (a) (b)) ⟨(va_cnB 2 hts (gWN gm_6_16) rfl rfl rfl (hK.2 _ (List.mem_of_getElem? (i := 12) rfl)) (hts _ (List.mem_cons_of_mem _ gm_1_2)) (by decide +kernel) ⟨Nat.le_of_ble_eq_true rfl, Nat.le_of_ble_eq_true rfl⟩), hts _ (List.mem_cons_of_mem _ gm_6_15), trivial⟩ (gPreS hK trivial) rfl rfl hl.1 rfl (lv_room (Nat.le_of_ble_eq_true rfl)) dX1_isOrderRight_42 ⟨by omega, by omega⟩) ?_
    exact g_zret (v := b2i (jrr (a) (b))) hx hb hr hlk b2i_n dX1_isOrderRight_45 (rfl)
  · refine lv_tableIn (off := 45) (tgt := 46) hx hb dX1_isOrderRight_1 (by decide +kernel) (by decide +kernel) (by decide +kernel) (by decide) ?_
    refine lv_iload_n hx hb dX1_isOrderRight_46 rfl (lv_at hl 2 rfl) ?_
    refine lv_iload_n hx hb dX1_isOrderRight_47 rfl (lv_at hl 3 rfl) ?_
    refine rd_calle (va_runSN (As := [.int (a), .int (b)]) (rest := []) ⟨hx, hb, hml, hown, hts⟩ (c_X7_isCaseRight l D cA (a) (b)) ⟨(va_cnB 2 hts (gWN gm_10_10) rfl rfl rfl (hK.2 _ (List.mem_of_getElem? (i := 13) rfl)) (hts _ (List.mem_cons_of_mem _ gm_1_2)) (by decide +kernel) ⟨Nat.le_of_ble_eq_true rfl, Nat.le_of_ble_eq_true rfl⟩), hts _ (List.mem_cons_of_mem _ gm_10_9), trivial⟩ (gPreS hK trivial) rfl rfl hl.1 rfl (lv_room (Nat.le_of_ble_eq_true rfl)) dX1_isOrderRight_48 ⟨by omega, by omega⟩) ?_
    exact g_zret (v := b2i (csr (a) (b))) hx hb hr hlk b2i_n dX1_isOrderRight_51 (rfl)
  · refine lv_tableIn (off := 51) (tgt := 52) hx hb dX1_isOrderRight_1 (by decide +kernel) (by decide +kernel) (by decide +kernel) (by decide) ?_
    refine lv_aload_n hx hb dX1_isOrderRight_52 rfl (lv_at hl 0 rfl) ?_
    refine g_get (v := .ref (A 6)) hx hb hts hown hK hP 0 rfl rfl gu_wsX10 1 (by decide) gm_3_1 rfl dX1_isOrderRight_53 ?_
    refine lv_iload_n hx hb dX1_isOrderRight_56 rfl (lv_at hl 2 rfl) ?_
    refine rd_calle (va_runV (As := [.int (a)]) (rest := []) ⟨hx, hb, hml, hown, hts⟩ (c_X0_has l D cA (fun k => A (k + 6)) (kf) (rw) (cn) (rl) (a)  hcn) (cwV 1 hts (gWV gm_44_9 gm_11_16 gm_11_17 gm_3_0 gm_11_18) rfl rfl rfl (by decide +kernel) ⟨Nat.le_of_ble_eq_true rfl, Nat.le_of_ble_eq_true rfl⟩) (gPreV hK (g_rf hK hP (ci := 2) (q0 := 6) rfl rfl) (hP.sub [6, 7, 8, 9, 10, 11, 12, 13, 14, 15] rfl)) rfl rfl hl.1 rfl (lv_room (Nat.le_of_ble_eq_true rfl)) dX1_isOrderRight_57 ⟨by omega, by omega⟩) ?_
    exact g_zret (v := b2i (isIx (a) cn)) hx hb hr hlk b2i_n dX1_isOrderRight_60 (rfl)
  · refine lv_tableIn (off := 51) (tgt := 52) hx hb dX1_isOrderRight_1 (by decide +kernel) (by decide +kernel) (by decide +kernel) (by decide) ?_
    refine lv_aload_n hx hb dX1_isOrderRight_52 rfl (lv_at hl 0 rfl) ?_
    refine g_get (v := .ref (A 6)) hx hb hts hown hK hP 0 rfl rfl gu_wsX10 1 (by decide) gm_3_1 rfl dX1_isOrderRight_53 ?_
    refine lv_iload_n hx hb dX1_isOrderRight_56 rfl (lv_at hl 2 rfl) ?_
    refine rd_calle (va_runV (As := [.int (a)]) (rest := []) ⟨hx, hb, hml, hown, hts⟩ (c_X0_has l D cA (fun k => A (k + 6)) (kf) (rw) (cn) (rl) (a)  hcn) (cwV 1 hts (gWV gm_44_9 gm_11_16 gm_11_17 gm_3_0 gm_11_18) rfl rfl rfl (by decide +kernel) ⟨Nat.le_of_ble_eq_true rfl, Nat.le_of_ble_eq_true rfl⟩) (gPreV hK (g_rf hK hP (ci := 2) (q0 := 6) rfl rfl) (hP.sub [6, 7, 8, 9, 10, 11, 12, 13, 14, 15] rfl)) rfl rfl hl.1 rfl (lv_room (Nat.le_of_ble_eq_true rfl)) dX1_isOrderRight_57 ⟨by omega, by omega⟩) ?_
    exact g_zret (v := b2i (isIx (a) cn)) hx hb hr hlk b2i_n dX1_isOrderRight_60 (rfl)
  · refine lv_tableIn (off := 51) (tgt := 52) hx hb dX1_isOrderRight_1 (by decide +kernel) (by decide +kernel) (by decide +kernel) (by decide) ?_
    refine lv_aload_n hx hb dX1_isOrderRight_52 rfl (lv_at hl 0 rfl) ?_
    refine g_get (v := .ref (A 6)) hx hb hts hown hK hP 0 rfl rfl gu_wsX10 1 (by decide) gm_3_1 rfl dX1_isOrderRight_53 ?_
    refine lv_iload_n hx hb dX1_isOrderRight_56 rfl (lv_at hl 2 rfl) ?_
    refine rd_calle (va_runV (As := [.int (a)]) (rest := []) ⟨hx, hb, hml, hown, hts⟩ (c_X0_has l D cA (fun k => A (k + 6)) (kf) (rw) (cn) (rl) (a)  hcn) (cwV 1 hts (gWV gm_44_9 gm_11_16 gm_11_17 gm_3_0 gm_11_18) rfl rfl rfl (by decide +kernel) ⟨Nat.le_of_ble_eq_true rfl, Nat.le_of_ble_eq_true rfl⟩) (gPreV hK (g_rf hK hP (ci := 2) (q0 := 6) rfl rfl) (hP.sub [6, 7, 8, 9, 10, 11, 12, 13, 14, 15] rfl)) rfl rfl hl.1 rfl (lv_room (Nat.le_of_ble_eq_true rfl)) dX1_isOrderRight_57 ⟨by omega, by omega⟩) ?_
    exact g_zret (v := b2i (isIx (a) cn)) hx hb hr hlk b2i_n dX1_isOrderRight_60 (rfl)
  · refine lv_tableIn (off := 51) (tgt := 52) hx hb dX1_isOrderRight_1 (by decide +kernel) (by decide +kernel) (by decide +kernel) (by decide) ?_
    refine lv_aload_n hx hb dX1_isOrderRight_52 rfl (lv_at hl 0 rfl) ?_
    refine g_get (v := .ref (A 6)) hx hb hts hown hK hP 0 rfl rfl gu_wsX10 1 (by decide) gm_3_1 rfl dX1_isOrderRight_53 ?_
    refine lv_iload_n hx hb dX1_isOrderRight_56 rfl (lv_at hl 2 rfl) ?_
    refine rd_calle (va_runV (As := [.int (a)]) (rest := []) ⟨hx, hb, hml, hown, hts⟩ (c_X0_has l D cA (fun k => A (k + 6)) (kf) (rw) (cn) (rl) (a)  hcn) (cwV 1 hts (gWV gm_44_9 gm_11_16 gm_11_17 gm_3_0 gm_11_18) rfl rfl rfl (by decide +kernel) ⟨Nat.le_of_ble_eq_true rfl, Nat.le_of_ble_eq_true rfl⟩) (gPreV hK (g_rf hK hP (ci := 2) (q0 := 6) rfl rfl) (hP.sub [6, 7, 8, 9, 10, 11, 12, 13, 14, 15] rfl)) rfl rfl hl.1 rfl (lv_room (Nat.le_of_ble_eq_true rfl)) dX1_isOrderRight_57 ⟨by omega, by omega⟩) ?_
    exact g_zret (v := b2i (isIx (a) cn)) hx hb hr hlk b2i_n dX1_isOrderRight_60 (rfl)
  · refine lv_tableOut (tgt := 61) hx hb dX1_isOrderRight_1 (by decide +kernel) (by decide) ?_
    refine lv_iconst (v := nI (1)) hx hb dX1_isOrderRight_61 gc_1 ?_
    exact g_zret (v := nI (1)) hx hb hr hlk rfl dX1_isOrderRight_62 (rfl)
  · refine lv_tableOut (tgt := 61) hx hb dX1_isOrderRight_1 (by decide +kernel) (by decide) ?_
    refine lv_iconst (v := nI (1)) hx hb dX1_isOrderRight_61 gc_1 ?_
    exact g_zret (v := nI (1)) hx hb hr hlk rfl dX1_isOrderRight_62 (rfl)

set_option maxHeartbeats 1000000 in
set_option maxRecDepth 100000 in
theorem c_X1_areLoadsWell (l : Launch) (D : va_G) (cA : Nat → ClassId) (A : Nat → Nat) (jf : Nat → Nat → Int32) (jn : Nat) (kf : Nat → Nat → Int32) (rw : Nat → Nat) (cn rl clk ton : Nat) (sd : Int32) (hjn : jn ≤ 9) (hcn : cn ≤ 10) : Met l yX1_areLoadsWell (gw yX1_areLoadsWell cX1_areLoadsWell 3 (some .boolean)) ({ frames := 2, cells := 0, slots := 0, locals := 47 } : Room) (gPc [.ref (A 0)] (fun H => va_P D vwCl (cw cA A jf jn kf rw cn rl clk ton sd) H) D cA) (rdI (fun r => r = b2i (fnd (fun j => !decide (nI (ldF kf cn j) = lrF kf cn j) || decide (3 < ldF kf cn j)) jn).isNone)) 0 0 nF := by
  refine gOf (by decide) (Nat.le_of_ble_eq_true rfl) ?_
  intro p e s m below meth c ls hx hb hml hr hlk hown hts hnm hP hK hl
  have hl : lv_has ls 3 [(0, .ref (A 0))] := hl
  refine lv_iconst (v := nI (0)) hx hb dX1_areLoadsWell_0 gc_0 ?_
  refine lv_istore_n (lv' := [(1, .int (nI (0))), (0, .ref (A 0))]) hx hb dX1_areLoadsWell_1 rfl hl (by decide) rfl (fun ls hl => ?_)
  have LP_4 : ∀ (n_2 i_1 : Nat) (x_3 : Int32), i_1 ≤ jn → jn + 1 ≤ i_1 + n_2 → x_3 = nI (i_1) → (fnd (fun j => !decide (nI (ldF kf cn j) = lrF kf cn j) || decide (3 < ldF kf cn j)) (i_1) = none) → ∀ (ls : Array Slot), lv_has ls 3 [(1, .int (x_3)), (0, .ref (A 0))] → W p l e ({ frames := 2, cells := 0, slots := 0, locals := 47 } : Room) s m ([.ref (A 0)] : List Value).toArray below meth c s.heap [] 0 0 (MQ below (rdI (fun r => r = b2i (fnd (fun j => !decide (nI (ldF kf cn j) = lrF kf cn j) || decide (3 < ldF kf cn j)) jn).isNone)) ([.ref (A 0)] : List Value).toArray s 0 0 nF) (F0 m 2 ls []) := by
    intro n_2
    induction n_2 with
    | zero => intro i_1 x_3 h1 h2; exact absurd h2 (by omega)
    | succ n_2 ih_6 =>
      intro i_1 x_3 h_7 h_8 e_5 hv ls hl
      subst e_5
      refine lv_iload_n hx hb dX1_areLoadsWell_2 rfl (lv_at hl 0 rfl) ?_
      refine lv_aload_n hx hb dX1_areLoadsWell_3 rfl (lv_at hl 1 rfl) ?_
      refine g_get (v := .ref (A 1)) hx hb hts hown hK hP 0 rfl rfl gu_wsX10 0 (by decide) gm_2_21 rfl dX1_areLoadsWell_4 ?_
      refine g_get (v := .int (nI (jn))) hx hb hts hown hK hP 1 rfl rfl gu_wsX30 4 (by decide) gm_13_0 rfl dX1_areLoadsWell_7 ?_
      refine g_icmp_ge (P := jn ≤ i_1) (tgt := 41) hx hb dX1_areLoadsWell_10 (by decide) (nI_leI (by omega) (by omega)) (fun c_9 => ?_) (fun c_9 => ?_)
      · have d_9 : ¬ i_1 < jn := Nat.not_lt.mpr c_9
        have hN_10 : jn = i_1 := by omega
        subst hN_10
        refine lv_iconst (v := nI (1)) hx hb dX1_areLoadsWell_41 gc_1 ?_
        exact g_zret (v := nI (1)) hx hb hr hlk rfl dX1_areLoadsWell_42 (by rw [hv]; rfl)
      · have d_9 : i_1 < jn := Nat.not_le.mp c_9
        refine lv_aload_n hx hb dX1_areLoadsWell_13 rfl (lv_at hl 1 rfl) ?_
        refine lv_iload_n hx hb dX1_areLoadsWell_14 rfl (lv_at hl 0 rfl) ?_
        refine rd_calle (va_runV (As := [.int (nI (i_1))]) (rest := []) ⟨hx, hb, hml, hown, hts⟩ (c_X1_loadOf l D cA A (jf) (jn) (kf) (rw) (cn) (rl) (clk) (ton) (sd) (i_1)  hcn) (cwV 1 hts (gWV gm_13_1 gm_12_11 gm_12_12 gm_1_16 gm_12_13) rfl rfl rfl (by decide +kernel) ⟨Nat.le_of_ble_eq_true rfl, Nat.le_of_ble_eq_true rfl⟩) (gPreV hK (g_rf hK hP (ci := 3) (q0 := 0) rfl rfl) hP) rfl rfl hl.1 rfl (lv_room (Nat.le_of_ble_eq_true rfl)) dX1_areLoadsWell_15 ⟨by omega, by omega⟩) ?_
        refine lv_istore_n (lv' := [(2, .int (nI (ldF kf cn (i_1)))), (1, .int (nI (i_1))), (0, .ref (A 0))]) hx hb dX1_areLoadsWell_18 rfl hl (by decide) rfl (fun ls hl => ?_)
        refine lv_iload_n hx hb dX1_areLoadsWell_19 rfl (lv_at hl 0 rfl) ?_
        have hle_11 := ldF_le kf cn (i_1)
        refine lv_aload_n hx hb dX1_areLoadsWell_20 rfl (lv_at hl 2 rfl) ?_
        refine lv_iload_n hx hb dX1_areLoadsWell_21 rfl (lv_at hl 1 rfl) ?_
        refine rd_calle (va_runV (As := [.int (nI (i_1))]) (rest := [.int (nI (ldF kf cn (i_1)))]) ⟨hx, hb, hml, hown, hts⟩ (c_X1_loadInRow l D cA A (jf) (jn) (kf) (rw) (cn) (rl) (clk) (ton) (sd) (i_1)  hcn (by omega)) (cwV 1 hts (gWV gm_50_14 gm_28_6 gm_28_7 gm_1_16 gm_28_8) rfl rfl rfl (by decide +kernel) ⟨Nat.le_of_ble_eq_true rfl, Nat.le_of_ble_eq_true rfl⟩) (gPreV hK (g_rf hK hP (ci := 3) (q0 := 0) rfl rfl) hP) rfl rfl hl.1 rfl (lv_room (Nat.le_of_ble_eq_true rfl)) dX1_areLoadsWell_22 ⟨by omega, by omega⟩) ?_
        refine g_icmp_ne (P := nI (ldF kf cn (i_1)) = lrF kf cn (i_1)) (tgt := 33) hx hb dX1_areLoadsWell_25 (by decide) Iff.rfl (fun c_12 => ?_) (fun c_12 => ?_)
        · refine lv_iconst (v := nI (0)) hx hb dX1_areLoadsWell_33 gc_0 ?_
          exact g_zret (v := nI (0)) hx hb hr hlk rfl dX1_areLoadsWell_34 (by rw [fnd_stop hv (by simp [c_9, d_9, c_12] <;> omega) (jn) (by omega)]; rfl)
        · refine lv_iload_n hx hb dX1_areLoadsWell_28 rfl (lv_at hl 0 rfl) ?_
          refine lv_iconst (v := nI (3)) hx hb dX1_areLoadsWell_29 gc_3 ?_
          refine g_icmp_le (P := ldF kf cn (i_1) ≤ 3) (tgt := 35) hx hb dX1_areLoadsWell_30 (by decide) (nI_leI (by omega) (by omega)) (fun c_13 => ?_) (fun c_13 => ?_)
          · have d_13 : ¬ 3 < ldF kf cn (i_1) := Nat.not_lt.mpr c_13
            refine lv_iinc (v := nI (i_1 + 1)) (lv' := [(1, .int (nI (i_1 + 1))), (2, .int (nI (ldF kf cn (i_1)))), (0, .ref (A 0))]) hx hb dX1_areLoadsWell_35 hl (k := 1) rfl (inc_1 _) (by decide) rfl (fun ls hl => ?_)
            refine lv_goto (tgt := 2) hx hb dX1_areLoadsWell_38 (by decide) ?_
            exact ih_6 (i_1 + 1) _ (by omega) (by omega) rfl (fnd_succ_none hv (by simp [c_9, d_9, c_12, c_13, d_13] <;> omega)) ls (lv_sub hl [0, 2] rfl)
          · have d_13 : 3 < ldF kf cn (i_1) := Nat.not_le.mp c_13
            refine lv_iconst (v := nI (0)) hx hb dX1_areLoadsWell_33 gc_0 ?_
            exact g_zret (v := nI (0)) hx hb hr hlk rfl dX1_areLoadsWell_34 (by rw [fnd_stop hv (by simp [c_9, d_9, c_12, c_13, d_13] <;> omega) (jn) (by omega)]; rfl)
  exact LP_4 (jn + 1) 0 _ (by omega) (by omega) rfl rfl ls (lv_sub hl [0, 1] rfl)

set_option maxHeartbeats 1000000 in
set_option maxRecDepth 100000 in
theorem c_X1_isRollWell (l : Launch) (D : va_G) (cA : Nat → ClassId) (A : Nat → Nat) (jf : Nat → Nat → Int32) (jn : Nat) (kf : Nat → Nat → Int32) (rw : Nat → Nat) (cn rl clk ton : Nat) (sd : Int32) (hcn : cn ≤ 10) (hrl : rl ≤ 10) (hrw : ∀ k, k < rl → rw k < 10) : Met l yX1_isRollWell (gw yX1_isRollWell cX1_isRollWell 2 (some .boolean)) ({ frames := 4, cells := 0, slots := 0, locals := 89 } : Room) (gPc [.ref (A 0)] (fun H => va_P D vwCl (cw cA A jf jn kf rw cn rl clk ton sd) H) D cA) (rdI (fun r => r = b2i (fnd (fun k => !decide (oI (if isIx (nI k) rl = true then some (rw (nI k).toNatClampNeg) else none) = oI (nthV (fhF kf cn) cn (nI k)))) (rl + 1)).isNone)) 0 0 nF := by
  refine gOf (by decide) (Nat.le_of_ble_eq_true rfl) ?_
  intro p e s m below meth c ls hx hb hml hr hlk hown hts hnm hP hK hl
  have hl : lv_has ls 2 [(0, .ref (A 0))] := hl
  refine lv_iconst (v := nI (0)) hx hb dX1_isRollWell_0 gc_0 ?_
  refine lv_istore_n (lv' := [(1, .int (nI (0))), (0, .ref (A 0))]) hx hb dX1_isRollWell_1 rfl hl (by decide) rfl (fun ls hl => ?_)
  have LP_4 : ∀ (n_2 i_1 : Nat) (x_3 : Int32), i_1 ≤ rl + 1 → rl + 1 + 1 ≤ i_1 + n_2 → x_3 = nI (i_1) → (fnd (fun k => !decide (oI (if isIx (nI k) rl = true then some (rw (nI k).toNatClampNeg) else none) = oI (nthV (fhF kf cn) cn (nI k)))) (i_1) = none) → ∀ (ls : Array Slot), lv_has ls 2 [(1, .int (x_3)), (0, .ref (A 0))] → W p l e ({ frames := 4, cells := 0, slots := 0, locals := 89 } : Room) s m ([.ref (A 0)] : List Value).toArray below meth c s.heap [] 0 0 (MQ below (rdI (fun r => r = b2i (fnd (fun k => !decide (oI (if isIx (nI k) rl = true then some (rw (nI k).toNatClampNeg) else none) = oI (nthV (fhF kf cn) cn (nI k)))) (rl + 1)).isNone)) ([.ref (A 0)] : List Value).toArray s 0 0 nF) (F0 m 2 ls []) := by
    intro n_2
    induction n_2 with
    | zero => intro i_1 x_3 h1 h2; exact absurd h2 (by omega)
    | succ n_2 ih_6 =>
      intro i_1 x_3 h_7 h_8 e_5 hv ls hl
      subst e_5
      refine lv_iload_n hx hb dX1_isRollWell_2 rfl (lv_at hl 0 rfl) ?_
      refine lv_aload_n hx hb dX1_isRollWell_3 rfl (lv_at hl 1 rfl) ?_
      refine g_get (v := .ref (A 6)) hx hb hts hown hK hP 0 rfl rfl gu_wsX10 1 (by decide) gm_3_1 rfl dX1_isRollWell_4 ?_
      refine g_get (v := .int (nI (rl))) hx hb hts hown hK hP 6 rfl rfl gu_wsX00 10 (by decide) gm_23_2 rfl dX1_isRollWell_7 ?_
      refine g_icmp_gt (P := rl < i_1) (tgt := 40) hx hb dX1_isRollWell_10 (by decide) (nI_ltI (by omega) (by omega)) (fun c_9 => ?_) (fun c_9 => ?_)
      · have d_9 : ¬ i_1 ≤ rl := Nat.not_le.mpr c_9
        have hN_10 : rl + 1 = i_1 := by omega
        subst hN_10
        refine lv_iconst (v := nI (1)) hx hb dX1_isRollWell_40 gc_1 ?_
        exact g_zret (v := nI (1)) hx hb hr hlk rfl dX1_isRollWell_41 (by rw [hv]; rfl)
      · have d_9 : i_1 ≤ rl := Nat.not_lt.mp c_9
        refine lv_aload_n hx hb dX1_isRollWell_13 rfl (lv_at hl 1 rfl) ?_
        refine g_get (v := .ref (A 6)) hx hb hts hown hK hP 0 rfl rfl gu_wsX10 1 (by decide) gm_3_1 rfl dX1_isRollWell_14 ?_
        refine lv_iload_n hx hb dX1_isRollWell_17 rfl (lv_at hl 0 rfl) ?_
        refine rd_calle (va_runV (As := [.int (nI (i_1))]) (rest := []) ⟨hx, hb, hml, hown, hts⟩ (c_X0_rowAt l D cA (fun k => A (k + 6)) (kf) (rw) (cn) (rl) (nI (i_1))  hrl hrw) (cwV 1 hts (gWV gm_50_19 gm_31_12 gm_31_13 gm_3_0 gm_31_14) rfl rfl rfl (by decide +kernel) ⟨Nat.le_of_ble_eq_true rfl, Nat.le_of_ble_eq_true rfl⟩) (gPreV hK (g_rf hK hP (ci := 2) (q0 := 6) rfl rfl) (hP.sub [6, 7, 8, 9, 10, 11, 12, 13, 14, 15] rfl)) rfl rfl hl.1 rfl (lv_room (Nat.le_of_ble_eq_true rfl)) dX1_isRollWell_18 ⟨by omega, by omega⟩) ?_
        refine lv_aload_n hx hb dX1_isRollWell_21 rfl (lv_at hl 1 rfl) ?_
        refine g_get (v := .ref (A 6)) hx hb hts hown hK hP 0 rfl rfl gu_wsX10 1 (by decide) gm_3_1 rfl dX1_isRollWell_22 ?_
        refine lv_iload_n hx hb dX1_isRollWell_25 rfl (lv_at hl 0 rfl) ?_
        refine rd_calle (va_runV (As := [.int (nI (i_1))]) (rest := [.int (oI (if isIx (nI (i_1)) rl = true then some (rw ((nI (i_1))).toNatClampNeg) else none))]) ⟨hx, hb, hml, hown, hts⟩ (c_X0_takenOutAt l D cA (fun k => A (k + 6)) (kf) (rw) (cn) (rl) (nI (i_1))  hcn) (cwV 1 hts (gWV gm_50_20 gm_30_22 gm_30_23 gm_3_0 gm_31_0) rfl rfl rfl (by decide +kernel) ⟨Nat.le_of_ble_eq_true rfl, Nat.le_of_ble_eq_true rfl⟩) (gPreV hK (g_rf hK hP (ci := 2) (q0 := 6) rfl rfl) (hP.sub [6, 7, 8, 9, 10, 11, 12, 13, 14, 15] rfl)) rfl rfl hl.1 rfl (lv_room (Nat.le_of_ble_eq_true rfl)) dX1_isRollWell_26 ⟨by omega, by omega⟩) ?_
        refine g_icmp_eq (P := oI (if isIx (nI (i_1)) rl = true then some (rw ((nI (i_1))).toNatClampNeg) else none) = oI (nthV (fhF kf cn) cn (nI (i_1)))) (tgt := 34) hx hb dX1_isRollWell_29 (by decide) Iff.rfl (fun c_11 => ?_) (fun c_11 => ?_)
        · refine lv_iinc (v := nI (i_1 + 1)) (lv' := [(1, .int (nI (i_1 + 1))), (0, .ref (A 0))]) hx hb dX1_isRollWell_34 hl (k := 0) rfl (inc_1 _) (by decide) rfl (fun ls hl => ?_)
          refine lv_goto (tgt := 2) hx hb dX1_isRollWell_37 (by decide) ?_
          exact ih_6 (i_1 + 1) _ (by omega) (by omega) rfl (fnd_succ_none hv (by simp [c_9, d_9, c_11] <;> omega)) ls (lv_sub hl [0, 1] rfl)
        · refine lv_iconst (v := nI (0)) hx hb dX1_isRollWell_32 gc_0 ?_
          exact g_zret (v := nI (0)) hx hb hr hlk rfl dX1_isRollWell_33 (by rw [fnd_stop hv (by simp [c_9, d_9, c_11] <;> omega) (rl + 1) (by omega)]; rfl)
  exact LP_4 (rl + 1 + 1) 0 _ (by omega) (by omega) rfl rfl ls (lv_sub hl [0, 1] rfl)

set_option maxHeartbeats 1000000 in
set_option maxRecDepth 100000 in
theorem c_X1_areVotesWell (l : Launch) (D : va_G) (cA : Nat → ClassId) (A : Nat → Nat) (jf : Nat → Nat → Int32) (jn : Nat) (kf : Nat → Nat → Int32) (rw : Nat → Nat) (cn rl clk ton : Nat) (sd : Int32) (hjn : jn ≤ 9) (hcn : cn ≤ 10) : Met l yX1_areVotesWell (gw yX1_areVotesWell cX1_areVotesWell 4 (some .boolean)) ({ frames := 2, cells := 0, slots := 0, locals := 50 } : Room) (gPc [.ref (A 0)] (fun H => va_P D vwCl (cw cA A jf jn kf rw cn rl clk ton sd) H) D cA) (rdI (fun r => r = b2i (fnd (fun c => !decide (kf 2 c = 0) && !decide (vdF (jf 0) (jf 1) jn (kf 2 c) (kf 0 c) = vmF (jf 0) (jf 1) jn (kf 2 c) (kf 0 c))) cn).isNone)) 0 0 nF := by
  refine gOf (by decide) (Nat.le_of_ble_eq_true rfl) ?_
  intro p e s m below meth c ls hx hb hml hr hlk hown hts hnm hP hK hl
  have hl : lv_has ls 4 [(0, .ref (A 0))] := hl
  refine lv_iconst (v := nI (0)) hx hb dX1_areVotesWell_0 gc_0 ?_
  refine lv_istore_n (lv' := [(1, .int (nI (0))), (0, .ref (A 0))]) hx hb dX1_areVotesWell_1 rfl hl (by decide) rfl (fun ls hl => ?_)
  have LP_4 : ∀ (n_2 i_1 : Nat) (x_3 : Int32), i_1 ≤ cn → cn + 1 ≤ i_1 + n_2 → x_3 = nI (i_1) → (fnd (fun c => !decide (kf 2 c = 0) && !decide (vdF (jf 0) (jf 1) jn (kf 2 c) (kf 0 c) = vmF (jf 0) (jf 1) jn (kf 2 c) (kf 0 c))) (i_1) = none) → ∀ (ls : Array Slot), lv_has ls 4 [(1, .int (x_3)), (0, .ref (A 0))] → W p l e ({ frames := 2, cells := 0, slots := 0, locals := 50 } : Room) s m ([.ref (A 0)] : List Value).toArray below meth c s.heap [] 0 0 (MQ below (rdI (fun r => r = b2i (fnd (fun c => !decide (kf 2 c = 0) && !decide (vdF (jf 0) (jf 1) jn (kf 2 c) (kf 0 c) = vmF (jf 0) (jf 1) jn (kf 2 c) (kf 0 c))) cn).isNone)) ([.ref (A 0)] : List Value).toArray s 0 0 nF) (F0 m 2 ls []) := by
    intro n_2
    induction n_2 with
    | zero => intro i_1 x_3 h1 h2; exact absurd h2 (by omega)
    | succ n_2 ih_6 =>
      intro i_1 x_3 h_7 h_8 e_5 hv ls hl
      subst e_5
      refine lv_iload_n hx hb dX1_areVotesWell_2 rfl (lv_at hl 0 rfl) ?_
      refine lv_aload_n hx hb dX1_areVotesWell_3 rfl (lv_at hl 1 rfl) ?_
      refine g_get (v := .ref (A 6)) hx hb hts hown hK hP 0 rfl rfl gu_wsX10 1 (by decide) gm_3_1 rfl dX1_areVotesWell_4 ?_
      refine g_get (v := .int (nI (cn))) hx hb hts hown hK hP 6 rfl rfl gu_wsX00 9 (by decide) gm_12_14 rfl dX1_areVotesWell_7 ?_
      refine g_icmp_ge (P := cn ≤ i_1) (tgt := 66) hx hb dX1_areVotesWell_10 (by decide) (nI_leI (by omega) (by omega)) (fun c_9 => ?_) (fun c_9 => ?_)
      · have d_9 : ¬ i_1 < cn := Nat.not_lt.mpr c_9
        have hN_10 : cn = i_1 := by omega
        subst hN_10
        refine lv_iconst (v := nI (1)) hx hb dX1_areVotesWell_66 gc_1 ?_
        exact g_zret (v := nI (1)) hx hb hr hlk rfl dX1_areVotesWell_67 (by rw [hv]; rfl)
      · have d_9 : i_1 < cn := Nat.not_le.mp c_9
        refine lv_aload_n hx hb dX1_areVotesWell_13 rfl (lv_at hl 1 rfl) ?_
        refine g_get (v := .ref (A 6)) hx hb hts hown hK hP 0 rfl rfl gu_wsX10 1 (by decide) gm_3_1 rfl dX1_areVotesWell_14 ?_
        refine g_get (v := .ref (A 9)) hx hb hts hown hK hP 6 rfl rfl gu_wsX00 2 (by decide) gm_12_15 rfl dX1_areVotesWell_17 ?_
        refine lv_iload_n hx hb dX1_areVotesWell_20 rfl (lv_at hl 0 rfl) ?_
        refine g_iald (x := kf 2 (i_1)) hx hb hK hP 9 rfl (by omega) (by decide) rfl dX1_areVotesWell_21 ?_
        refine lv_istore_n (lv' := [(2, .int (kf 2 (i_1))), (1, .int (nI (i_1))), (0, .ref (A 0))]) hx hb dX1_areVotesWell_22 rfl hl (by decide) rfl (fun ls hl => ?_)
        refine lv_aload_n hx hb dX1_areVotesWell_23 rfl (lv_at hl 2 rfl) ?_
        refine g_get (v := .ref (A 6)) hx hb hts hown hK hP 0 rfl rfl gu_wsX10 1 (by decide) gm_3_1 rfl dX1_areVotesWell_24 ?_
        refine g_get (v := .ref (A 7)) hx hb hts hown hK hP 6 rfl rfl gu_wsX00 0 (by decide) gm_16_12 rfl dX1_areVotesWell_27 ?_
        refine lv_iload_n hx hb dX1_areVotesWell_30 rfl (lv_at hl 1 rfl) ?_
        refine g_iald (x := kf 0 (i_1)) hx hb hK hP 7 rfl (by omega) (by decide) rfl dX1_areVotesWell_31 ?_
        refine lv_istore_n (lv' := [(3, .int (kf 0 (i_1))), (2, .int (kf 2 (i_1))), (1, .int (nI (i_1))), (0, .ref (A 0))]) hx hb dX1_areVotesWell_32 rfl hl (by decide) rfl (fun ls hl => ?_)
        refine lv_iload_n hx hb dX1_areVotesWell_33 rfl (lv_at hl 1 rfl) ?_
        refine g_if_eq (P := kf 2 (i_1) = 0) (tgt := 60) hx hb dX1_areVotesWell_34 (by decide) Iff.rfl (fun c_11 => ?_) (fun c_11 => ?_)
        · refine lv_iinc (v := nI (i_1 + 1)) (lv' := [(1, .int (nI (i_1 + 1))), (3, .int (kf 0 (i_1))), (2, .int (kf 2 (i_1))), (0, .ref (A 0))]) hx hb dX1_areVotesWell_60 hl (k := 2) rfl (inc_1 _) (by decide) rfl (fun ls hl => ?_)
          refine lv_goto (tgt := 2) hx hb dX1_areVotesWell_63 (by decide) ?_
          exact ih_6 (i_1 + 1) _ (by omega) (by omega) rfl (fnd_succ_none hv (by simp [c_9, d_9, c_11] <;> omega)) ls (lv_sub hl [0, 3] rfl)
        · refine lv_aload_n hx hb dX1_areVotesWell_37 rfl (lv_at hl 3 rfl) ?_
          refine g_get (v := .ref (A 1)) hx hb hts hown hK hP 0 rfl rfl gu_wsX10 0 (by decide) gm_2_21 rfl dX1_areVotesWell_38 ?_
          refine lv_iload_n hx hb dX1_areVotesWell_41 rfl (lv_at hl 1 rfl) ?_
          refine lv_iload_n hx hb dX1_areVotesWell_42 rfl (lv_at hl 0 rfl) ?_
          refine rd_calle (va_runV (As := [.int (kf 2 (i_1)), .int (kf 0 (i_1))]) (rest := []) ⟨hx, hb, hml, hown, hts⟩ (c_X3_verdictByCount l D cA (fun k => A (k + 1)) (jf) (jn) (kf 2 (i_1)) (kf 0 (i_1))  hjn) (cwV 2 hts (gWV gm_16_15 gm_16_16 gm_16_17 gm_2_5 gm_16_18) rfl rfl rfl (by decide +kernel) ⟨Nat.le_of_ble_eq_true rfl, Nat.le_of_ble_eq_true rfl⟩) (gPreV hK (g_rf hK hP (ci := 5) (q0 := 1) rfl rfl) (hP.sub [1, 2, 3, 4, 5] rfl)) rfl rfl hl.1 rfl (lv_room (Nat.le_of_ble_eq_true rfl)) dX1_areVotesWell_43 ⟨by omega, by omega⟩) ?_
          refine lv_aload_n hx hb dX1_areVotesWell_46 rfl (lv_at hl 3 rfl) ?_
          refine g_get (v := .ref (A 1)) hx hb hts hown hK hP 0 rfl rfl gu_wsX10 0 (by decide) gm_2_21 rfl dX1_areVotesWell_47 ?_
          refine lv_iload_n hx hb dX1_areVotesWell_50 rfl (lv_at hl 1 rfl) ?_
          refine lv_iload_n hx hb dX1_areVotesWell_51 rfl (lv_at hl 0 rfl) ?_
          refine rd_calle (va_runV (As := [.int (kf 2 (i_1)), .int (kf 0 (i_1))]) (rest := [.int (nI (vdF (jf 0) (jf 1) jn (kf 2 (i_1)) (kf 0 (i_1))))]) ⟨hx, hb, hml, hown, hts⟩ (c_X3_verdictOfMiddle l D cA (fun k => A (k + 1)) (jf) (jn) (kf 2 (i_1)) (kf 0 (i_1))  hjn) (cwV 2 hts (gWV gm_51_1 gm_27_8 gm_27_9 gm_2_5 gm_27_10) rfl rfl rfl (by decide +kernel) ⟨Nat.le_of_ble_eq_true rfl, Nat.le_of_ble_eq_true rfl⟩) (gPreV hK (g_rf hK hP (ci := 5) (q0 := 1) rfl rfl) (hP.sub [1, 2, 3, 4, 5] rfl)) rfl rfl hl.1 rfl (lv_room (Nat.le_of_ble_eq_true rfl)) dX1_areVotesWell_52 ⟨by omega, by omega⟩) ?_
          have hle_12 := vdF_le (jf 0) (jf 1) jn (kf 2 (i_1)) (kf 0 (i_1))
          have hle_13 := vmF_le (l := jf 0) (d := jf 1) (jn := jn) (panel := kf 2 (i_1)) (merit := kf 0 (i_1))
          refine g_icmp_eq (P := vdF (jf 0) (jf 1) jn (kf 2 (i_1)) (kf 0 (i_1)) = vmF (jf 0) (jf 1) jn (kf 2 (i_1)) (kf 0 (i_1))) (tgt := 60) hx hb dX1_areVotesWell_55 (by decide) (nI_eq (by omega) (by omega)) (fun c_14 => ?_) (fun c_14 => ?_)
          · refine lv_iinc (v := nI (i_1 + 1)) (lv' := [(1, .int (nI (i_1 + 1))), (3, .int (kf 0 (i_1))), (2, .int (kf 2 (i_1))), (0, .ref (A 0))]) hx hb dX1_areVotesWell_60 hl (k := 2) rfl (inc_1 _) (by decide) rfl (fun ls hl => ?_)
            refine lv_goto (tgt := 2) hx hb dX1_areVotesWell_63 (by decide) ?_
            exact ih_6 (i_1 + 1) _ (by omega) (by omega) rfl (fnd_succ_none hv (by simp [c_9, d_9, c_11, c_14] <;> omega)) ls (lv_sub hl [0, 3] rfl)
          · refine lv_iconst (v := nI (0)) hx hb dX1_areVotesWell_58 gc_0 ?_
            exact g_zret (v := nI (0)) hx hb hr hlk rfl dX1_areVotesWell_59 (by rw [fnd_stop hv (by simp [c_9, d_9, c_11, c_14] <;> omega) (cn) (by omega)]; rfl)
  exact LP_4 (cn + 1) 0 _ (by omega) (by omega) rfl rfl ls (lv_sub hl [0, 1] rfl)

set_option maxHeartbeats 1000000 in
set_option maxRecDepth 100000 in
theorem c_X1_areVerdictsWell (l : Launch) (D : va_G) (cA : Nat → ClassId) (A : Nat → Nat) (jf : Nat → Nat → Int32) (jn : Nat) (kf : Nat → Nat → Int32) (rw : Nat → Nat) (cn rl clk ton : Nat) (sd : Int32) (hcn : cn ≤ 10) : Met l yX1_areVerdictsWell (gw yX1_areVerdictsWell cX1_areVerdictsWell 2 (some .boolean)) ({ frames := 2, cells := 0, slots := 0, locals := 43 } : Room) (gPc [.ref (A 0)] (fun H => va_P D vwCl (cw cA A jf jn kf rw cn rl clk ton sd) H) D cA) (rdI (fun r => r = b2i (fnd (fun c => rpF kf c (nI ton)) cn).isNone)) 0 0 nF := by
  refine gOf (by decide) (Nat.le_of_ble_eq_true rfl) ?_
  intro p e s m below meth c ls hx hb hml hr hlk hown hts hnm hP hK hl
  have hl : lv_has ls 2 [(0, .ref (A 0))] := hl
  refine lv_iconst (v := nI (0)) hx hb dX1_areVerdictsWell_0 gc_0 ?_
  refine lv_istore_n (lv' := [(1, .int (nI (0))), (0, .ref (A 0))]) hx hb dX1_areVerdictsWell_1 rfl hl (by decide) rfl (fun ls hl => ?_)
  have LP_4 : ∀ (n_2 i_1 : Nat) (x_3 : Int32), i_1 ≤ cn → cn + 1 ≤ i_1 + n_2 → x_3 = nI (i_1) → (fnd (fun c => rpF kf c (nI ton)) (i_1) = none) → ∀ (ls : Array Slot), lv_has ls 2 [(1, .int (x_3)), (0, .ref (A 0))] → W p l e ({ frames := 2, cells := 0, slots := 0, locals := 43 } : Room) s m ([.ref (A 0)] : List Value).toArray below meth c s.heap [] 0 0 (MQ below (rdI (fun r => r = b2i (fnd (fun c => rpF kf c (nI ton)) cn).isNone)) ([.ref (A 0)] : List Value).toArray s 0 0 nF) (F0 m 2 ls []) := by
    intro n_2
    induction n_2 with
    | zero => intro i_1 x_3 h1 h2; exact absurd h2 (by omega)
    | succ n_2 ih_6 =>
      intro i_1 x_3 h_7 h_8 e_5 hv ls hl
      subst e_5
      refine lv_iload_n hx hb dX1_areVerdictsWell_2 rfl (lv_at hl 0 rfl) ?_
      refine lv_aload_n hx hb dX1_areVerdictsWell_3 rfl (lv_at hl 1 rfl) ?_
      refine g_get (v := .ref (A 6)) hx hb hts hown hK hP 0 rfl rfl gu_wsX10 1 (by decide) gm_3_1 rfl dX1_areVerdictsWell_4 ?_
      refine g_get (v := .int (nI (cn))) hx hb hts hown hK hP 6 rfl rfl gu_wsX00 9 (by decide) gm_12_14 rfl dX1_areVerdictsWell_7 ?_
      refine g_icmp_ge (P := cn ≤ i_1) (tgt := 36) hx hb dX1_areVerdictsWell_10 (by decide) (nI_leI (by omega) (by omega)) (fun c_9 => ?_) (fun c_9 => ?_)
      · have d_9 : ¬ i_1 < cn := Nat.not_lt.mpr c_9
        have hN_10 : cn = i_1 := by omega
        subst hN_10
        refine lv_iconst (v := nI (1)) hx hb dX1_areVerdictsWell_36 gc_1 ?_
        exact g_zret (v := nI (1)) hx hb hr hlk rfl dX1_areVerdictsWell_37 (by rw [hv]; rfl)
      · have d_9 : i_1 < cn := Nat.not_le.mp c_9
        refine lv_aload_n hx hb dX1_areVerdictsWell_13 rfl (lv_at hl 1 rfl) ?_
        refine g_get (v := .ref (A 6)) hx hb hts hown hK hP 0 rfl rfl gu_wsX10 1 (by decide) gm_3_1 rfl dX1_areVerdictsWell_14 ?_
        refine lv_iload_n hx hb dX1_areVerdictsWell_17 rfl (lv_at hl 0 rfl) ?_
        refine lv_aload_n hx hb dX1_areVerdictsWell_18 rfl (lv_at hl 1 rfl) ?_
        refine g_get (v := .int (nI (ton))) hx hb hts hown hK hP 0 rfl rfl gu_wsX10 3 (by decide) gm_3_3 rfl dX1_areVerdictsWell_19 ?_
        refine rd_calle (va_runV (As := [.int (nI (i_1)), .int (nI (ton))]) (rest := []) ⟨hx, hb, hml, hown, hts⟩ (c_X0_isRipe l D cA (fun k => A (k + 6)) (kf) (rw) (cn) (rl) (i_1) (nI (ton))  (by omega)) (cwV 2 hts (gWV gm_51_6 gm_23_9 gm_23_10 gm_3_0 gm_23_11) rfl rfl rfl (by decide +kernel) ⟨Nat.le_of_ble_eq_true rfl, Nat.le_of_ble_eq_true rfl⟩) (gPreV hK (g_rf hK hP (ci := 2) (q0 := 6) rfl rfl) (hP.sub [6, 7, 8, 9, 10, 11, 12, 13, 14, 15] rfl)) rfl rfl hl.1 rfl (lv_room (Nat.le_of_ble_eq_true rfl)) dX1_areVerdictsWell_22 ⟨by omega, by omega⟩) ?_
        refine g_if_eq (P := rpF kf (i_1) (nI (ton)) = false) (tgt := 30) hx hb dX1_areVerdictsWell_25 (by decide) b2i_0 (fun c_11 => ?_) (fun c_11 => ?_)
        · refine lv_iinc (v := nI (i_1 + 1)) (lv' := [(1, .int (nI (i_1 + 1))), (0, .ref (A 0))]) hx hb dX1_areVerdictsWell_30 hl (k := 0) rfl (inc_1 _) (by decide) rfl (fun ls hl => ?_)
          refine lv_goto (tgt := 2) hx hb dX1_areVerdictsWell_33 (by decide) ?_
          exact ih_6 (i_1 + 1) _ (by omega) (by omega) rfl (fnd_succ_none hv (by simp [c_9, d_9, c_11] <;> omega)) ls (lv_sub hl [0, 1] rfl)
        · have c_11 : rpF kf (i_1) (nI (ton)) = true := eq_true_of_ne_false c_11
          refine lv_iconst (v := nI (0)) hx hb dX1_areVerdictsWell_28 gc_0 ?_
          exact g_zret (v := nI (0)) hx hb hr hlk rfl dX1_areVerdictsWell_29 (by rw [fnd_stop hv (by simp [c_9, d_9, c_11] <;> omega) (cn) (by omega)]; rfl)
  exact LP_4 (cn + 1) 0 _ (by omega) (by omega) rfl rfl ls (lv_sub hl [0, 1] rfl)

