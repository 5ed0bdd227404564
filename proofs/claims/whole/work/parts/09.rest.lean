def jrr (a b : Int32) : Bool := decide (¬ a < -9) && decide (a ≤ nI 9) && decide (0 ≤ b) && decide (b ≤ nI 9)
def csr (a b : Int32) : Bool := decide (0 ≤ a) && decide (a ≤ nI 100) && decide (0 ≤ b) && decide (b ≤ nI 99)
def vmS (l d : Nat → Int32) (panel : Int32) : Nat → Int32 × (Int32 × Int32)
  | 0 => (nI 0, ((2147483647 : Int32), (-2147483648 : Int32)))
  | k + 1 => if hs panel k = true then ((vmS l d panel k).1 + (nI 5 * l k - d k), ((if nI 5 * l k - d k < (vmS l d panel k).2.1 then nI 5 * l k - d k else (vmS l d panel k).2.1), (if (vmS l d panel k).2.2 < nI 5 * l k - d k then nI 5 * l k - d k else (vmS l d panel k).2.2))) else vmS l d panel k
def vmF (l d : Nat → Int32) (jn : Nat) (panel merit : Int32) : Nat := if merit + ((vmS l d panel jn).1 - (vmS l d panel jn).2.1 - (vmS l d panel jn).2.2) < nI 50 then 2 else 1
theorem vmF_le {l d : Nat → Int32} {jn : Nat} {panel merit : Int32} : vmF l d jn panel merit ≤ 2 := by unfold vmF; split <;> omega
def lrS (k : Nat → Nat → Int32) : Nat → Int64
  | 0 => 0
  | n + 1 => if !clF k (n / 9) && hs (k 2 (n / 9)) (n % 9) then lrS k n + (1 <<< ((nI (6 * (n % 9))).toInt64 &&& 63)) else lrS k n
def lrF (k : Nat → Nat → Int32) (cn j : Nat) : Int32 := ((lrS k (cn * 9) >>> ((nI (6 * j)).toInt64 &&& 63)) &&& 63).toInt32
def tkN (k : Nat → Nat → Int32) (rw : Nat → Nat) (rl clk ton q : Nat) : Int32 := match fnd (fun j => decide (rw j = q)) rl with
  | none => -1
  | some j => if clk < 1 then -1 else if 99 < ton + 1 + j / clk then -1 else nI (ton + 1 + j / clk)
def ioF (cn k : Nat) (a b : Int32) : Bool := match k with
  | 0 => jrr a b
  | 1 => csr a b
  | 2 => isIx a cn
  | 3 => isIx a cn
  | 4 => isIx a cn
  | 5 => isIx a cn
  | _ => true
def rtF (k : Nat → Nat → Int32) (rw : Nat → Nat) (rl : Nat) (night : Int32) : Int32 := match fnd (fun j => decide (night ≤ k 1 (rw j))) rl with
  | none => -1
  | some j => k 1 (rw j)

set_option maxHeartbeats 1000000 in
set_option maxRecDepth 100000 in
theorem c_X7_isJurorRight (l : Launch) (D : va_G) (cA : Nat → ClassId) (a b : Int32)  : Met l yX7_isJurorRight (gw yX7_isJurorRight cX7_isJurorRight 2 (some .boolean)) ({ frames := 0, cells := 0, slots := 0, locals := 0 } : Room) (gPc [.int (a), .int (b)] (fun H => True) D cA) (rdI (fun r => r = b2i (jrr a b))) 0 0 nF := by
  refine gOf (by decide) (Nat.le_of_ble_eq_true rfl) ?_
  intro p e s m below meth c ls hx hb hml hr hlk hown hts hnm hP hK hl
  have hl : lv_has ls 2 [(0, .int (a)), (1, .int (b))] := hl
  refine lv_iload_n hx hb dX7_isJurorRight_0 rfl (lv_at hl 0 rfl) ?_
  refine lv_bipush (v := -9) hx hb dX7_isJurorRight_1 gb_m9 ?_
  refine g_icmp_lt (P := a < -9) (tgt := 26) hx hb dX7_isJurorRight_3 (by decide) Iff.rfl (fun c_1 => ?_) (fun c_1 => ?_)
  · have d_1 : ¬ -9 ≤ a := Int32.not_le.mpr c_1
    refine lv_iconst (v := nI (0)) hx hb dX7_isJurorRight_26 gc_0 ?_
    exact g_zret (v := nI (0)) hx hb hr hlk rfl dX7_isJurorRight_27 (by simp [jrr, b2i, c_1, d_1])
  · have d_1 : -9 ≤ a := Int32.not_lt.mp c_1
    refine lv_iload_n hx hb dX7_isJurorRight_6 rfl (lv_at hl 0 rfl) ?_
    refine lv_bipush (v := nI (9)) hx hb dX7_isJurorRight_7 gb_9 ?_
    refine g_icmp_gt (P := nI (9) < a) (tgt := 26) hx hb dX7_isJurorRight_9 (by decide) Iff.rfl (fun c_2 => ?_) (fun c_2 => ?_)
    · have d_2 : ¬ a ≤ nI (9) := Int32.not_le.mpr c_2
      refine lv_iconst (v := nI (0)) hx hb dX7_isJurorRight_26 gc_0 ?_
      exact g_zret (v := nI (0)) hx hb hr hlk rfl dX7_isJurorRight_27 (by simp [jrr, b2i, c_1, d_1, c_2, d_2])
    · have d_2 : a ≤ nI (9) := Int32.not_lt.mp c_2
      refine lv_iload_n hx hb dX7_isJurorRight_12 rfl (lv_at hl 1 rfl) ?_
      refine g_if_lt (P := b < 0) (tgt := 26) hx hb dX7_isJurorRight_13 (by decide) Iff.rfl (fun c_3 => ?_) (fun c_3 => ?_)
      · have d_3 : ¬ 0 ≤ b := Int32.not_le.mpr c_3
        refine lv_iconst (v := nI (0)) hx hb dX7_isJurorRight_26 gc_0 ?_
        exact g_zret (v := nI (0)) hx hb hr hlk rfl dX7_isJurorRight_27 (by simp [jrr, b2i, c_1, d_1, c_2, d_2, c_3, d_3])
      · have d_3 : 0 ≤ b := Int32.not_lt.mp c_3
        refine lv_iload_n hx hb dX7_isJurorRight_16 rfl (lv_at hl 1 rfl) ?_
        refine lv_bipush (v := nI (9)) hx hb dX7_isJurorRight_17 gb_9 ?_
        refine g_icmp_gt (P := nI (9) < b) (tgt := 26) hx hb dX7_isJurorRight_19 (by decide) Iff.rfl (fun c_4 => ?_) (fun c_4 => ?_)
        · have d_4 : ¬ b ≤ nI (9) := Int32.not_le.mpr c_4
          refine lv_iconst (v := nI (0)) hx hb dX7_isJurorRight_26 gc_0 ?_
          exact g_zret (v := nI (0)) hx hb hr hlk rfl dX7_isJurorRight_27 (by simp [jrr, b2i, c_1, d_1, c_2, d_2, c_3, d_3, c_4, d_4])
        · have d_4 : b ≤ nI (9) := Int32.not_lt.mp c_4
          refine lv_iconst (v := nI (1)) hx hb dX7_isJurorRight_22 gc_1 ?_
          refine lv_goto (tgt := 27) hx hb dX7_isJurorRight_23 (by decide) ?_
          exact g_zret (v := nI (1)) hx hb hr hlk rfl dX7_isJurorRight_27 (by simp [jrr, b2i, c_1, d_1, c_2, d_2, c_3, d_3, c_4, d_4])

set_option maxHeartbeats 1000000 in
set_option maxRecDepth 100000 in
theorem c_X7_isCaseRight (l : Launch) (D : va_G) (cA : Nat → ClassId) (a b : Int32)  : Met l yX7_isCaseRight (gw yX7_isCaseRight cX7_isCaseRight 2 (some .boolean)) ({ frames := 0, cells := 0, slots := 0, locals := 0 } : Room) (gPc [.int (a), .int (b)] (fun H => True) D cA) (rdI (fun r => r = b2i (csr a b))) 0 0 nF := by
  refine gOf (by decide) (Nat.le_of_ble_eq_true rfl) ?_
  intro p e s m below meth c ls hx hb hml hr hlk hown hts hnm hP hK hl
  have hl : lv_has ls 2 [(0, .int (a)), (1, .int (b))] := hl
  refine lv_iload_n hx hb dX7_isCaseRight_0 rfl (lv_at hl 0 rfl) ?_
  refine g_if_lt (P := a < 0) (tgt := 24) hx hb dX7_isCaseRight_1 (by decide) Iff.rfl (fun c_1 => ?_) (fun c_1 => ?_)
  · have d_1 : ¬ 0 ≤ a := Int32.not_le.mpr c_1
    refine lv_iconst (v := nI (0)) hx hb dX7_isCaseRight_24 gc_0 ?_
    exact g_zret (v := nI (0)) hx hb hr hlk rfl dX7_isCaseRight_25 (by simp [csr, b2i, c_1, d_1])
  · have d_1 : 0 ≤ a := Int32.not_lt.mp c_1
    refine lv_iload_n hx hb dX7_isCaseRight_4 rfl (lv_at hl 0 rfl) ?_
    refine lv_bipush (v := nI (100)) hx hb dX7_isCaseRight_5 gb_100 ?_
    refine g_icmp_gt (P := nI (100) < a) (tgt := 24) hx hb dX7_isCaseRight_7 (by decide) Iff.rfl (fun c_2 => ?_) (fun c_2 => ?_)
    · have d_2 : ¬ a ≤ nI (100) := Int32.not_le.mpr c_2
      refine lv_iconst (v := nI (0)) hx hb dX7_isCaseRight_24 gc_0 ?_
      exact g_zret (v := nI (0)) hx hb hr hlk rfl dX7_isCaseRight_25 (by simp [csr, b2i, c_1, d_1, c_2, d_2])
    · have d_2 : a ≤ nI (100) := Int32.not_lt.mp c_2
      refine lv_iload_n hx hb dX7_isCaseRight_10 rfl (lv_at hl 1 rfl) ?_
      refine g_if_lt (P := b < 0) (tgt := 24) hx hb dX7_isCaseRight_11 (by decide) Iff.rfl (fun c_3 => ?_) (fun c_3 => ?_)
      · have d_3 : ¬ 0 ≤ b := Int32.not_le.mpr c_3
        refine lv_iconst (v := nI (0)) hx hb dX7_isCaseRight_24 gc_0 ?_
        exact g_zret (v := nI (0)) hx hb hr hlk rfl dX7_isCaseRight_25 (by simp [csr, b2i, c_1, d_1, c_2, d_2, c_3, d_3])
      · have d_3 : 0 ≤ b := Int32.not_lt.mp c_3
        refine lv_iload_n hx hb dX7_isCaseRight_14 rfl (lv_at hl 1 rfl) ?_
        refine lv_bipush (v := nI (99)) hx hb dX7_isCaseRight_15 gb_99 ?_
        refine g_icmp_gt (P := nI (99) < b) (tgt := 24) hx hb dX7_isCaseRight_17 (by decide) Iff.rfl (fun c_4 => ?_) (fun c_4 => ?_)
        · have d_4 : ¬ b ≤ nI (99) := Int32.not_le.mpr c_4
          refine lv_iconst (v := nI (0)) hx hb dX7_isCaseRight_24 gc_0 ?_
          exact g_zret (v := nI (0)) hx hb hr hlk rfl dX7_isCaseRight_25 (by simp [csr, b2i, c_1, d_1, c_2, d_2, c_3, d_3, c_4, d_4])
        · have d_4 : b ≤ nI (99) := Int32.not_lt.mp c_4
          refine lv_iconst (v := nI (1)) hx hb dX7_isCaseRight_20 gc_1 ?_
          refine lv_goto (tgt := 25) hx hb dX7_isCaseRight_21 (by decide) ?_
          exact g_zret (v := nI (1)) hx hb hr hlk rfl dX7_isCaseRight_25 (by simp [csr, b2i, c_1, d_1, c_2, d_2, c_3, d_3, c_4, d_4])

set_option maxHeartbeats 1000000 in
set_option maxRecDepth 100000 in
theorem c_X3_sum_0 (l : Launch) (D : va_G) (cA : Nat → ClassId) (J : Nat → Nat) (jf : Nat → Nat → Int32) (jn : Nat) (hjn : jn ≤ 9) : Met l yX3_sum (gw yX3_sum cX3_sum 4 (some .int)) ({ frames := 0, cells := 0, slots := 0, locals := 0 } : Room) (gPc [.ref (J 0), .ref (J 1)] (fun H => va_P D vwCl (jw cA J jf jn) H) D cA) (rdI (fun r => r = isum (jf 0) jn)) 0 0 nF := by
  refine gOf (by decide) (Nat.le_of_ble_eq_true rfl) ?_
  intro p e s m below meth c ls hx hb hml hr hlk hown hts hnm hP hK hl
  have hl : lv_has ls 4 [(0, .ref (J 0)), (1, .ref (J 1))] := hl
  refine lv_iconst (v := nI (0)) hx hb dX3_sum_0 gc_0 ?_
  refine lv_istore_n (lv' := [(2, .int (nI (0))), (0, .ref (J 0)), (1, .ref (J 1))]) hx hb dX3_sum_1 rfl hl (by decide) rfl (fun ls hl => ?_)
  refine lv_iconst (v := nI (0)) hx hb dX3_sum_2 gc_0 ?_
  refine lv_istore_n (lv' := [(3, .int (nI (0))), (2, .int (nI (0))), (0, .ref (J 0)), (1, .ref (J 1))]) hx hb dX3_sum_3 rfl hl (by decide) rfl (fun ls hl => ?_)
  have LP_5 : ∀ (n_2 i_1 : Nat) (x_3 : Int32) (x_4 : Int32), i_1 ≤ jn → jn + 1 ≤ i_1 + n_2 → x_3 = nI (i_1) → x_4 = isum (jf 0) i_1 → ∀ (ls : Array Slot), lv_has ls 4 [(3, .int (x_3)), (2, .int (x_4)), (0, .ref (J 0)), (1, .ref (J 1))] → W p l e ({ frames := 0, cells := 0, slots := 0, locals := 0 } : Room) s m ([.ref (J 0), .ref (J 1)] : List Value).toArray below meth c s.heap [] 0 0 (MQ below (rdI (fun r => r = isum (jf 0) jn)) ([.ref (J 0), .ref (J 1)] : List Value).toArray s 0 0 nF) (F0 m 4 ls []) := by
    intro n_2
    induction n_2 with
    | zero => intro i_1 x_3 x_4 h1 h2; exact absurd h2 (by omega)
    | succ n_2 ih_8 =>
      intro i_1 x_3 x_4 h_9 h_10 e_6 e_7  ls hl
      subst e_6
      subst e_7
      refine lv_iload_n hx hb dX3_sum_4 rfl (lv_at hl 0 rfl) ?_
      refine lv_aload_n hx hb dX3_sum_5 rfl (lv_at hl 2 rfl) ?_
      refine g_get (v := .int (nI (jn))) hx hb hts hown hK hP 0 rfl rfl gu_wsX30 4 (by decide) gm_3_13 rfl dX3_sum_6 ?_
      refine g_icmp_ge (P := jn ≤ i_1) (tgt := 24) hx hb dX3_sum_9 (by decide) (nI_leI (by omega) (by omega)) (fun c_11 => ?_) (fun c_11 => ?_)
      · have d_11 : ¬ i_1 < jn := Nat.not_lt.mpr c_11
        have hN_12 : jn = i_1 := by omega
        subst hN_12
        refine lv_iload_n hx hb dX3_sum_24 rfl (lv_at hl 1 rfl) ?_
        exact g_iret (v := isum (jf 0) (jn)) hx hb hr hlk dX3_sum_25 (rfl)
      · have d_11 : i_1 < jn := Nat.not_le.mp c_11
        refine lv_iload_n hx hb dX3_sum_12 rfl (lv_at hl 1 rfl) ?_
        refine lv_aload_n hx hb dX3_sum_13 rfl (lv_at hl 3 rfl) ?_
        refine lv_iload_n hx hb dX3_sum_14 rfl (lv_at hl 0 rfl) ?_
        refine g_iald (x := jf 0 (i_1)) hx hb hK hP 1 rfl (by omega) (by decide) rfl dX3_sum_15 ?_
        refine lv_iadd hx hb dX3_sum_16 ?_
        refine lv_istore_n (lv' := [(2, .int ((isum (jf 0) i_1) + (jf 0 (i_1)))), (3, .int (nI (i_1))), (0, .ref (J 0)), (1, .ref (J 1))]) hx hb dX3_sum_17 rfl hl (by decide) rfl (fun ls hl => ?_)
        refine lv_iinc (v := nI (i_1 + 1)) (lv' := [(3, .int (nI (i_1 + 1))), (2, .int ((isum (jf 0) i_1) + (jf 0 (i_1)))), (0, .ref (J 0)), (1, .ref (J 1))]) hx hb dX3_sum_18 hl (k := 1) rfl (inc_1 _) (by decide) rfl (fun ls hl => ?_)
        refine lv_goto (tgt := 4) hx hb dX3_sum_21 (by decide) ?_
        exact ih_8 (i_1 + 1) _ _ (by omega) (by omega) rfl rfl  ls (lv_sub hl [0, 1, 2, 3] rfl)
  exact LP_5 (jn + 1) 0 _ _ (by omega) (by omega) rfl rfl  ls (lv_sub hl [0, 1, 2, 3] rfl)

set_option maxHeartbeats 1000000 in
set_option maxRecDepth 100000 in
theorem c_X3_sum_1 (l : Launch) (D : va_G) (cA : Nat → ClassId) (J : Nat → Nat) (jf : Nat → Nat → Int32) (jn : Nat) (hjn : jn ≤ 9) : Met l yX3_sum (gw yX3_sum cX3_sum 4 (some .int)) ({ frames := 0, cells := 0, slots := 0, locals := 0 } : Room) (gPc [.ref (J 0), .ref (J 2)] (fun H => va_P D vwCl (jw cA J jf jn) H) D cA) (rdI (fun r => r = isum (jf 1) jn)) 0 0 nF := by
  refine gOf (by decide) (Nat.le_of_ble_eq_true rfl) ?_
  intro p e s m below meth c ls hx hb hml hr hlk hown hts hnm hP hK hl
  have hl : lv_has ls 4 [(0, .ref (J 0)), (1, .ref (J 2))] := hl
  refine lv_iconst (v := nI (0)) hx hb dX3_sum_0 gc_0 ?_
  refine lv_istore_n (lv' := [(2, .int (nI (0))), (0, .ref (J 0)), (1, .ref (J 2))]) hx hb dX3_sum_1 rfl hl (by decide) rfl (fun ls hl => ?_)
  refine lv_iconst (v := nI (0)) hx hb dX3_sum_2 gc_0 ?_
  refine lv_istore_n (lv' := [(3, .int (nI (0))), (2, .int (nI (0))), (0, .ref (J 0)), (1, .ref (J 2))]) hx hb dX3_sum_3 rfl hl (by decide) rfl (fun ls hl => ?_)
  have LP_5 : ∀ (n_2 i_1 : Nat) (x_3 : Int32) (x_4 : Int32), i_1 ≤ jn → jn + 1 ≤ i_1 + n_2 → x_3 = nI (i_1) → x_4 = isum (jf 1) i_1 → ∀ (ls : Array Slot), lv_has ls 4 [(3, .int (x_3)), (2, .int (x_4)), (0, .ref (J 0)), (1, .ref (J 2))] → W p l e ({ frames := 0, cells := 0, slots := 0, locals := 0 } : Room) s m ([.ref (J 0), .ref (J 2)] : List Value).toArray below meth c s.heap [] 0 0 (MQ below (rdI (fun r => r = isum (jf 1) jn)) ([.ref (J 0), .ref (J 2)] : List Value).toArray s 0 0 nF) (F0 m 4 ls []) := by
    intro n_2
    induction n_2 with
    | zero => intro i_1 x_3 x_4 h1 h2; exact absurd h2 (by omega)
    | succ n_2 ih_8 =>
      intro i_1 x_3 x_4 h_9 h_10 e_6 e_7  ls hl
      subst e_6
      subst e_7
      refine lv_iload_n hx hb dX3_sum_4 rfl (lv_at hl 0 rfl) ?_
      refine lv_aload_n hx hb dX3_sum_5 rfl (lv_at hl 2 rfl) ?_
      refine g_get (v := .int (nI (jn))) hx hb hts hown hK hP 0 rfl rfl gu_wsX30 4 (by decide) gm_3_13 rfl dX3_sum_6 ?_
      refine g_icmp_ge (P := jn ≤ i_1) (tgt := 24) hx hb dX3_sum_9 (by decide) (nI_leI (by omega) (by omega)) (fun c_11 => ?_) (fun c_11 => ?_)
      · have d_11 : ¬ i_1 < jn := Nat.not_lt.mpr c_11
        have hN_12 : jn = i_1 := by omega
        subst hN_12
        refine lv_iload_n hx hb dX3_sum_24 rfl (lv_at hl 1 rfl) ?_
        exact g_iret (v := isum (jf 1) (jn)) hx hb hr hlk dX3_sum_25 (rfl)
      · have d_11 : i_1 < jn := Nat.not_le.mp c_11
        refine lv_iload_n hx hb dX3_sum_12 rfl (lv_at hl 1 rfl) ?_
        refine lv_aload_n hx hb dX3_sum_13 rfl (lv_at hl 3 rfl) ?_
        refine lv_iload_n hx hb dX3_sum_14 rfl (lv_at hl 0 rfl) ?_
        refine g_iald (x := jf 1 (i_1)) hx hb hK hP 2 rfl (by omega) (by decide) rfl dX3_sum_15 ?_
        refine lv_iadd hx hb dX3_sum_16 ?_
        refine lv_istore_n (lv' := [(2, .int ((isum (jf 1) i_1) + (jf 1 (i_1)))), (3, .int (nI (i_1))), (0, .ref (J 0)), (1, .ref (J 2))]) hx hb dX3_sum_17 rfl hl (by decide) rfl (fun ls hl => ?_)
        refine lv_iinc (v := nI (i_1 + 1)) (lv' := [(3, .int (nI (i_1 + 1))), (2, .int ((isum (jf 1) i_1) + (jf 1 (i_1)))), (0, .ref (J 0)), (1, .ref (J 2))]) hx hb dX3_sum_18 hl (k := 1) rfl (inc_1 _) (by decide) rfl (fun ls hl => ?_)
        refine lv_goto (tgt := 4) hx hb dX3_sum_21 (by decide) ?_
        exact ih_8 (i_1 + 1) _ _ (by omega) (by omega) rfl rfl  ls (lv_sub hl [0, 1, 2, 3] rfl)
  exact LP_5 (jn + 1) 0 _ _ (by omega) (by omega) rfl rfl  ls (lv_sub hl [0, 1, 2, 3] rfl)

set_option maxHeartbeats 1000000 in
set_option maxRecDepth 100000 in
theorem c_X0_sum_6 (l : Launch) (D : va_G) (cA : Nat → ClassId) (K : Nat → Nat) (kf : Nat → Nat → Int32) (rw : Nat → Nat) (cn rl : Nat) (hcn : cn ≤ 10) : Met l yX0_sum (gw yX0_sum cX0_sum 4 (some .int)) ({ frames := 0, cells := 0, slots := 0, locals := 0 } : Room) (gPc [.ref (K 0), .ref (K 7)] (fun H => va_P D vwCl (kw cA K kf rw cn rl) H) D cA) (rdI (fun r => r = isum (kf 6) cn)) 0 0 nF := by
  refine gOf (by decide) (Nat.le_of_ble_eq_true rfl) ?_
  intro p e s m below meth c ls hx hb hml hr hlk hown hts hnm hP hK hl
  have hl : lv_has ls 4 [(0, .ref (K 0)), (1, .ref (K 7))] := hl
  refine lv_iconst (v := nI (0)) hx hb dX0_sum_0 gc_0 ?_
  refine lv_istore_n (lv' := [(2, .int (nI (0))), (0, .ref (K 0)), (1, .ref (K 7))]) hx hb dX0_sum_1 rfl hl (by decide) rfl (fun ls hl => ?_)
  refine lv_iconst (v := nI (0)) hx hb dX0_sum_2 gc_0 ?_
  refine lv_istore_n (lv' := [(3, .int (nI (0))), (2, .int (nI (0))), (0, .ref (K 0)), (1, .ref (K 7))]) hx hb dX0_sum_3 rfl hl (by decide) rfl (fun ls hl => ?_)
  have LP_5 : ∀ (n_2 i_1 : Nat) (x_3 : Int32) (x_4 : Int32), i_1 ≤ cn → cn + 1 ≤ i_1 + n_2 → x_3 = nI (i_1) → x_4 = isum (kf 6) i_1 → ∀ (ls : Array Slot), lv_has ls 4 [(3, .int (x_3)), (2, .int (x_4)), (0, .ref (K 0)), (1, .ref (K 7))] → W p l e ({ frames := 0, cells := 0, slots := 0, locals := 0 } : Room) s m ([.ref (K 0), .ref (K 7)] : List Value).toArray below meth c s.heap [] 0 0 (MQ below (rdI (fun r => r = isum (kf 6) cn)) ([.ref (K 0), .ref (K 7)] : List Value).toArray s 0 0 nF) (F0 m 4 ls []) := by
    intro n_2
    induction n_2 with
    | zero => intro i_1 x_3 x_4 h1 h2; exact absurd h2 (by omega)
    | succ n_2 ih_8 =>
      intro i_1 x_3 x_4 h_9 h_10 e_6 e_7  ls hl
      subst e_6
      subst e_7
      refine lv_iload_n hx hb dX0_sum_4 rfl (lv_at hl 0 rfl) ?_
      refine lv_aload_n hx hb dX0_sum_5 rfl (lv_at hl 2 rfl) ?_
      refine g_get (v := .int (nI (cn))) hx hb hts hown hK hP 0 rfl rfl gu_wsX00 9 (by decide) gm_4_2 rfl dX0_sum_6 ?_
      refine g_icmp_ge (P := cn ≤ i_1) (tgt := 24) hx hb dX0_sum_9 (by decide) (nI_leI (by omega) (by omega)) (fun c_11 => ?_) (fun c_11 => ?_)
      · have d_11 : ¬ i_1 < cn := Nat.not_lt.mpr c_11
        have hN_12 : cn = i_1 := by omega
        subst hN_12
        refine lv_iload_n hx hb dX0_sum_24 rfl (lv_at hl 1 rfl) ?_
        exact g_iret (v := isum (kf 6) (cn)) hx hb hr hlk dX0_sum_25 (rfl)
      · have d_11 : i_1 < cn := Nat.not_le.mp c_11
        refine lv_iload_n hx hb dX0_sum_12 rfl (lv_at hl 1 rfl) ?_
        refine lv_aload_n hx hb dX0_sum_13 rfl (lv_at hl 3 rfl) ?_
        refine lv_iload_n hx hb dX0_sum_14 rfl (lv_at hl 0 rfl) ?_
        refine g_iald (x := kf 6 (i_1)) hx hb hK hP 7 rfl (by omega) (by decide) rfl dX0_sum_15 ?_
        refine lv_iadd hx hb dX0_sum_16 ?_
        refine lv_istore_n (lv' := [(2, .int ((isum (kf 6) i_1) + (kf 6 (i_1)))), (3, .int (nI (i_1))), (0, .ref (K 0)), (1, .ref (K 7))]) hx hb dX0_sum_17 rfl hl (by decide) rfl (fun ls hl => ?_)
        refine lv_iinc (v := nI (i_1 + 1)) (lv' := [(3, .int (nI (i_1 + 1))), (2, .int ((isum (kf 6) i_1) + (kf 6 (i_1)))), (0, .ref (K 0)), (1, .ref (K 7))]) hx hb dX0_sum_18 hl (k := 1) rfl (inc_1 _) (by decide) rfl (fun ls hl => ?_)
        refine lv_goto (tgt := 4) hx hb dX0_sum_21 (by decide) ?_
        exact ih_8 (i_1 + 1) _ _ (by omega) (by omega) rfl rfl  ls (lv_sub hl [0, 1, 2, 3] rfl)
  exact LP_5 (cn + 1) 0 _ _ (by omega) (by omega) rfl rfl  ls (lv_sub hl [0, 1, 2, 3] rfl)

set_option maxHeartbeats 1000000 in
set_option maxRecDepth 100000 in
theorem c_X0_sum_7 (l : Launch) (D : va_G) (cA : Nat → ClassId) (K : Nat → Nat) (kf : Nat → Nat → Int32) (rw : Nat → Nat) (cn rl : Nat) (hcn : cn ≤ 10) : Met l yX0_sum (gw yX0_sum cX0_sum 4 (some .int)) ({ frames := 0, cells := 0, slots := 0, locals := 0 } : Room) (gPc [.ref (K 0), .ref (K 8)] (fun H => va_P D vwCl (kw cA K kf rw cn rl) H) D cA) (rdI (fun r => r = isum (kf 7) cn)) 0 0 nF := by
  refine gOf (by decide) (Nat.le_of_ble_eq_true rfl) ?_
  intro p e s m below meth c ls hx hb hml hr hlk hown hts hnm hP hK hl
  have hl : lv_has ls 4 [(0, .ref (K 0)), (1, .ref (K 8))] := hl
  refine lv_iconst (v := nI (0)) hx hb dX0_sum_0 gc_0 ?_
  refine lv_istore_n (lv' := [(2, .int (nI (0))), (0, .ref (K 0)), (1, .ref (K 8))]) hx hb dX0_sum_1 rfl hl (by decide) rfl (fun ls hl => ?_)
  refine lv_iconst (v := nI (0)) hx hb dX0_sum_2 gc_0 ?_
  refine lv_istore_n (lv' := [(3, .int (nI (0))), (2, .int (nI (0))), (0, .ref (K 0)), (1, .ref (K 8))]) hx hb dX0_sum_3 rfl hl (by decide) rfl (fun ls hl => ?_)
  have LP_5 : ∀ (n_2 i_1 : Nat) (x_3 : Int32) (x_4 : Int32), i_1 ≤ cn → cn + 1 ≤ i_1 + n_2 → x_3 = nI (i_1) → x_4 = isum (kf 7) i_1 → ∀ (ls : Array Slot), lv_has ls 4 [(3, .int (x_3)), (2, .int (x_4)), (0, .ref (K 0)), (1, .ref (K 8))] → W p l e ({ frames := 0, cells := 0, slots := 0, locals := 0 } : Room) s m ([.ref (K 0), .ref (K 8)] : List Value).toArray below meth c s.heap [] 0 0 (MQ below (rdI (fun r => r = isum (kf 7) cn)) ([.ref (K 0), .ref (K 8)] : List Value).toArray s 0 0 nF) (F0 m 4 ls []) := by
    intro n_2
    induction n_2 with
    | zero => intro i_1 x_3 x_4 h1 h2; exact absurd h2 (by omega)
    | succ n_2 ih_8 =>
      intro i_1 x_3 x_4 h_9 h_10 e_6 e_7  ls hl
      subst e_6
      subst e_7
      refine lv_iload_n hx hb dX0_sum_4 rfl (lv_at hl 0 rfl) ?_
      refine lv_aload_n hx hb dX0_sum_5 rfl (lv_at hl 2 rfl) ?_
      refine g_get (v := .int (nI (cn))) hx hb hts hown hK hP 0 rfl rfl gu_wsX00 9 (by decide) gm_4_2 rfl dX0_sum_6 ?_
      refine g_icmp_ge (P := cn ≤ i_1) (tgt := 24) hx hb dX0_sum_9 (by decide) (nI_leI (by omega) (by omega)) (fun c_11 => ?_) (fun c_11 => ?_)
      · have d_11 : ¬ i_1 < cn := Nat.not_lt.mpr c_11
        have hN_12 : cn = i_1 := by omega
        subst hN_12
        refine lv_iload_n hx hb dX0_sum_24 rfl (lv_at hl 1 rfl) ?_
        exact g_iret (v := isum (kf 7) (cn)) hx hb hr hlk dX0_sum_25 (rfl)
      · have d_11 : i_1 < cn := Nat.not_le.mp c_11
        refine lv_iload_n hx hb dX0_sum_12 rfl (lv_at hl 1 rfl) ?_
        refine lv_aload_n hx hb dX0_sum_13 rfl (lv_at hl 3 rfl) ?_
        refine lv_iload_n hx hb dX0_sum_14 rfl (lv_at hl 0 rfl) ?_
        refine g_iald (x := kf 7 (i_1)) hx hb hK hP 8 rfl (by omega) (by decide) rfl dX0_sum_15 ?_
        refine lv_iadd hx hb dX0_sum_16 ?_
        refine lv_istore_n (lv' := [(2, .int ((isum (kf 7) i_1) + (kf 7 (i_1)))), (3, .int (nI (i_1))), (0, .ref (K 0)), (1, .ref (K 8))]) hx hb dX0_sum_17 rfl hl (by decide) rfl (fun ls hl => ?_)
        refine lv_iinc (v := nI (i_1 + 1)) (lv' := [(3, .int (nI (i_1 + 1))), (2, .int ((isum (kf 7) i_1) + (kf 7 (i_1)))), (0, .ref (K 0)), (1, .ref (K 8))]) hx hb dX0_sum_18 hl (k := 1) rfl (inc_1 _) (by decide) rfl (fun ls hl => ?_)
        refine lv_goto (tgt := 4) hx hb dX0_sum_21 (by decide) ?_
        exact ih_8 (i_1 + 1) _ _ (by omega) (by omega) rfl rfl  ls (lv_sub hl [0, 1, 2, 3] rfl)
  exact LP_5 (cn + 1) 0 _ _ (by omega) (by omega) rfl rfl  ls (lv_sub hl [0, 1, 2, 3] rfl)

set_option maxHeartbeats 1000000 in
set_option maxRecDepth 100000 in
theorem c_X3_verdictOfMiddle (l : Launch) (D : va_G) (cA : Nat → ClassId) (J : Nat → Nat) (jf : Nat → Nat → Int32) (jn : Nat) (panel merit : Int32) (hjn : jn ≤ 9) : Met l yX3_verdictOfMiddle (gw yX3_verdictOfMiddle cX3_verdictOfMiddle 8 (some .int)) ({ frames := 1, cells := 0, slots := 0, locals := 23 } : Room) (gPc [.ref (J 0), .int (panel), .int (merit)] (fun H => va_P D vwCl (jw cA J jf jn) H) D cA) (rdI (fun r => r = nI (vmF (jf 0) (jf 1) jn panel merit))) 0 0 nF := by
  refine gOf (by decide) (Nat.le_of_ble_eq_true rfl) ?_
  intro p e s m below meth c ls hx hb hml hr hlk hown hts hnm hP hK hl
  have hl : lv_has ls 8 [(0, .ref (J 0)), (1, .int (panel)), (2, .int (merit))] := hl
  refine lv_iconst (v := nI (0)) hx hb dX3_verdictOfMiddle_0 gc_0 ?_
  refine lv_istore_n (lv' := [(3, .int (nI (0))), (0, .ref (J 0)), (1, .int (panel)), (2, .int (merit))]) hx hb dX3_verdictOfMiddle_1 rfl hl (by decide) rfl (fun ls hl => ?_)
  refine lv_ldc (v := 2147483647) hx hb hown (hts _ (List.mem_cons_of_mem _ gm_27_11)) dX3_verdictOfMiddle_2 ?_
  refine lv_istore (lv' := [(4, .int ((2147483647 : Int32))), (3, .int (nI (0))), (0, .ref (J 0)), (1, .int (panel)), (2, .int (merit))]) hx hb dX3_verdictOfMiddle_4 hl (by decide) rfl (fun ls hl => ?_)
  refine lv_ldc (v := -2147483648) hx hb hown (hts _ (List.mem_cons_of_mem _ gm_27_12)) dX3_verdictOfMiddle_6 ?_
  refine lv_istore (lv' := [(5, .int ((-2147483648 : Int32))), (4, .int ((2147483647 : Int32))), (3, .int (nI (0))), (0, .ref (J 0)), (1, .int (panel)), (2, .int (merit))]) hx hb dX3_verdictOfMiddle_8 hl (by decide) rfl (fun ls hl => ?_)
  refine lv_iconst (v := nI (0)) hx hb dX3_verdictOfMiddle_10 gc_0 ?_
  refine lv_istore (lv' := [(6, .int (nI (0))), (5, .int ((-2147483648 : Int32))), (4, .int ((2147483647 : Int32))), (3, .int (nI (0))), (0, .ref (J 0)), (1, .int (panel)), (2, .int (merit))]) hx hb dX3_verdictOfMiddle_11 hl (by decide) rfl (fun ls hl => ?_)
  have LP_7 : ∀ (n_2 i_1 : Nat) (x_3 : Int32) (x_4 : Int32) (x_5 : Int32) (x_6 : Int32), i_1 ≤ jn → jn + 1 ≤ i_1 + n_2 → x_3 = nI (i_1) → x_4 = (vmS (jf 0) (jf 1) panel i_1).2.2 → x_5 = (vmS (jf 0) (jf 1) panel i_1).2.1 → x_6 = (vmS (jf 0) (jf 1) panel i_1).1 → ∀ (ls : Array Slot), lv_has ls 8 [(6, .int (x_3)), (5, .int (x_4)), (4, .int (x_5)), (3, .int (x_6)), (0, .ref (J 0)), (1, .int (panel)), (2, .int (merit))] → W p l e ({ frames := 1, cells := 0, slots := 0, locals := 23 } : Room) s m ([.ref (J 0), .int (panel), .int (merit)] : List Value).toArray below meth c s.heap [] 0 0 (MQ below (rdI (fun r => r = nI (vmF (jf 0) (jf 1) jn panel merit))) ([.ref (J 0), .int (panel), .int (merit)] : List Value).toArray s 0 0 nF) (F0 m 13 ls []) := by
    intro n_2
    induction n_2 with
    | zero => intro i_1 x_3 x_4 x_5 x_6 h1 h2; exact absurd h2 (by omega)
    | succ n_2 ih_12 =>
      intro i_1 x_3 x_4 x_5 x_6 h_13 h_14 e_8 e_9 e_10 e_11  ls hl
      subst e_8
      subst e_9
      subst e_10
      subst e_11
      refine lv_iload hx hb dX3_verdictOfMiddle_13 (lv_at hl 0 rfl) ?_
      refine lv_aload_n hx hb dX3_verdictOfMiddle_15 rfl (lv_at hl 4 rfl) ?_
      refine g_get (v := .int (nI (jn))) hx hb hts hown hK hP 0 rfl rfl gu_wsX30 4 (by decide) gm_3_13 rfl dX3_verdictOfMiddle_16 ?_
      refine g_icmp_ge (P := jn ≤ i_1) (tgt := 79) hx hb dX3_verdictOfMiddle_19 (by decide) (nI_leI (by omega) (by omega)) (fun c_15 => ?_) (fun c_15 => ?_)
      · have d_15 : ¬ i_1 < jn := Nat.not_lt.mpr c_15
        have hN_16 : jn = i_1 := by omega
        subst hN_16
        refine lv_iload_n hx hb dX3_verdictOfMiddle_79 rfl (lv_at hl 3 rfl) ?_
        refine lv_iload hx hb dX3_verdictOfMiddle_80 (lv_at hl 2 rfl) ?_
        refine lv_isub hx hb dX3_verdictOfMiddle_82 ?_
        refine lv_iload hx hb dX3_verdictOfMiddle_83 (lv_at hl 1 rfl) ?_
        refine lv_isub hx hb dX3_verdictOfMiddle_85 ?_
        refine lv_istore (lv' := [(6, .int ((((vmS (jf 0) (jf 1) panel (jn)).1) - ((vmS (jf 0) (jf 1) panel (jn)).2.1)) - ((vmS (jf 0) (jf 1) panel (jn)).2.2))), (5, .int ((vmS (jf 0) (jf 1) panel (jn)).2.2)), (4, .int ((vmS (jf 0) (jf 1) panel (jn)).2.1)), (3, .int ((vmS (jf 0) (jf 1) panel (jn)).1)), (0, .ref (J 0)), (1, .int (panel)), (2, .int (merit))]) hx hb dX3_verdictOfMiddle_86 hl (by decide) rfl (fun ls hl => ?_)
        refine lv_iload_n hx hb dX3_verdictOfMiddle_88 rfl (lv_at hl 6 rfl) ?_
        refine lv_iload hx hb dX3_verdictOfMiddle_89 (lv_at hl 0 rfl) ?_
        refine lv_iadd hx hb dX3_verdictOfMiddle_91 ?_
        refine lv_bipush (v := nI (50)) hx hb dX3_verdictOfMiddle_92 gb_50 ?_
        refine g_icmp_lt (P := (merit) + ((((vmS (jf 0) (jf 1) panel (jn)).1) - ((vmS (jf 0) (jf 1) panel (jn)).2.1)) - ((vmS (jf 0) (jf 1) panel (jn)).2.2)) < nI (50)) (tgt := 101) hx hb dX3_verdictOfMiddle_94 (by decide) Iff.rfl (fun c_17 => ?_) (fun c_17 => ?_)
        · have d_17 : ¬ nI (50) ≤ (merit) + ((((vmS (jf 0) (jf 1) panel (jn)).1) - ((vmS (jf 0) (jf 1) panel (jn)).2.1)) - ((vmS (jf 0) (jf 1) panel (jn)).2.2)) := Int32.not_le.mpr c_17
          refine lv_iconst (v := nI (2)) hx hb dX3_verdictOfMiddle_101 gc_2 ?_
          exact g_iret (v := nI (2)) hx hb hr hlk dX3_verdictOfMiddle_102 (by rw [vmF, if_pos c_17])
        · have d_17 : nI (50) ≤ (merit) + ((((vmS (jf 0) (jf 1) panel (jn)).1) - ((vmS (jf 0) (jf 1) panel (jn)).2.1)) - ((vmS (jf 0) (jf 1) panel (jn)).2.2)) := Int32.not_lt.mp c_17
          refine lv_iconst (v := nI (1)) hx hb dX3_verdictOfMiddle_97 gc_1 ?_
          refine lv_goto (tgt := 102) hx hb dX3_verdictOfMiddle_98 (by decide) ?_
          exact g_iret (v := nI (1)) hx hb hr hlk dX3_verdictOfMiddle_102 (by rw [vmF, if_neg c_17])
      · have d_15 : i_1 < jn := Nat.not_le.mp c_15
        refine lv_iload_n hx hb dX3_verdictOfMiddle_22 rfl (lv_at hl 5 rfl) ?_
        refine lv_iload hx hb dX3_verdictOfMiddle_23 (lv_at hl 0 rfl) ?_
        refine rd_calle (va_runSN (As := [.int (panel), .int (nI (i_1))]) (rest := []) ⟨hx, hb, hml, hown, hts⟩ (c_X7_isIn l D cA (panel) (i_1)) ⟨(va_cnB 2 hts (gWN gm_12_9) rfl rfl rfl (hK.2 _ (List.mem_of_getElem? (i := 10) rfl)) (hts _ (List.mem_cons_of_mem _ gm_1_2)) (by decide +kernel) ⟨Nat.le_of_ble_eq_true rfl, Nat.le_of_ble_eq_true rfl⟩), hts _ (List.mem_cons_of_mem _ gm_12_8), trivial⟩ (gPreS hK trivial) rfl rfl hl.1 rfl (lv_room (Nat.le_of_ble_eq_true rfl)) dX3_verdictOfMiddle_25 ⟨by omega, by omega⟩) ?_
        refine g_if_eq (P := hs (panel) (i_1) = false) (tgt := 73) hx hb dX3_verdictOfMiddle_28 (by decide) b2i_0 (fun c_18 => ?_) (fun c_18 => ?_)
        · refine lv_iinc (v := nI (i_1 + 1)) (lv' := [(6, .int (nI (i_1 + 1))), (5, .int ((vmS (jf 0) (jf 1) panel i_1).2.2)), (4, .int ((vmS (jf 0) (jf 1) panel i_1).2.1)), (3, .int ((vmS (jf 0) (jf 1) panel i_1).1)), (0, .ref (J 0)), (1, .int (panel)), (2, .int (merit))]) hx hb dX3_verdictOfMiddle_73 hl (k := 0) rfl (inc_1 _) (by decide) rfl (fun ls hl => ?_)
          refine lv_goto (tgt := 13) hx hb dX3_verdictOfMiddle_76 (by decide) ?_
          exact ih_12 (i_1 + 1) _ _ _ _ (by omega) (by omega) rfl (by simp [vmS, c_15, d_15, c_18]) (by simp [vmS, c_15, d_15, c_18]) (by simp [vmS, c_15, d_15, c_18])  ls (lv_sub hl [0, 1, 2, 3, 4, 5, 6] rfl)
        · have c_18 : hs (panel) (i_1) = true := eq_true_of_ne_false c_18
          refine lv_iconst (v := nI (5)) hx hb dX3_verdictOfMiddle_31 gc_5 ?_
          refine lv_aload_n hx hb dX3_verdictOfMiddle_32 rfl (lv_at hl 4 rfl) ?_
          refine g_get (v := .ref (J 1)) hx hb hts hown hK hP 0 rfl rfl gu_wsX30 0 (by decide) gm_3_9 rfl dX3_verdictOfMiddle_33 ?_
          refine lv_iload hx hb dX3_verdictOfMiddle_36 (lv_at hl 0 rfl) ?_
          refine g_iald (x := jf 0 (i_1)) hx hb hK hP 1 rfl (by omega) (by decide) rfl dX3_verdictOfMiddle_38 ?_
          refine lv_imul hx hb dX3_verdictOfMiddle_39 ?_
          refine lv_aload_n hx hb dX3_verdictOfMiddle_40 rfl (lv_at hl 4 rfl) ?_
          refine g_get (v := .ref (J 2)) hx hb hts hown hK hP 0 rfl rfl gu_wsX30 1 (by decide) gm_3_10 rfl dX3_verdictOfMiddle_41 ?_
          refine lv_iload hx hb dX3_verdictOfMiddle_44 (lv_at hl 0 rfl) ?_
          refine g_iald (x := jf 1 (i_1)) hx hb hK hP 2 rfl (by omega) (by decide) rfl dX3_verdictOfMiddle_46 ?_
          refine lv_isub hx hb dX3_verdictOfMiddle_47 ?_
          refine lv_istore (lv' := [(7, .int (((nI (5)) * (jf 0 (i_1))) - (jf 1 (i_1)))), (6, .int (nI (i_1))), (5, .int ((vmS (jf 0) (jf 1) panel i_1).2.2)), (4, .int ((vmS (jf 0) (jf 1) panel i_1).2.1)), (3, .int ((vmS (jf 0) (jf 1) panel i_1).1)), (0, .ref (J 0)), (1, .int (panel)), (2, .int (merit))]) hx hb dX3_verdictOfMiddle_48 hl (by decide) rfl (fun ls hl => ?_)
          refine lv_iload_n hx hb dX3_verdictOfMiddle_50 rfl (lv_at hl 4 rfl) ?_
          refine lv_iload hx hb dX3_verdictOfMiddle_51 (lv_at hl 0 rfl) ?_
          refine lv_iadd hx hb dX3_verdictOfMiddle_53 ?_
          refine lv_istore_n (lv' := [(3, .int (((vmS (jf 0) (jf 1) panel i_1).1) + (((nI (5)) * (jf 0 (i_1))) - (jf 1 (i_1))))), (7, .int (((nI (5)) * (jf 0 (i_1))) - (jf 1 (i_1)))), (6, .int (nI (i_1))), (5, .int ((vmS (jf 0) (jf 1) panel i_1).2.2)), (4, .int ((vmS (jf 0) (jf 1) panel i_1).2.1)), (0, .ref (J 0)), (1, .int (panel)), (2, .int (merit))]) hx hb dX3_verdictOfMiddle_54 rfl hl (by decide) rfl (fun ls hl => ?_)
          refine lv_iload hx hb dX3_verdictOfMiddle_55 (lv_at hl 4 rfl) ?_
          refine lv_iload hx hb dX3_verdictOfMiddle_57 (lv_at hl 1 rfl) ?_
          refine va_mmin hx hb (hml.trans hl.1.symm) hown (hts _ (List.mem_cons_of_mem _ gm_17_3)) (hts _ (List.mem_cons_of_mem _ gm_8_9)) (hts _ (List.mem_cons_of_mem _ gm_8_10)) (hts _ (List.mem_cons_of_mem _ gm_8_11)) (by decide) (Nat.le_of_ble_eq_true rfl) (Nat.zero_le _) (Nat.zero_le _) dX3_verdictOfMiddle_59 ?_
          refine lv_istore (lv' := [(4, .int ((if ((nI (5)) * (jf 0 (i_1))) - (jf 1 (i_1)) < (vmS (jf 0) (jf 1) panel i_1).2.1 then ((nI (5)) * (jf 0 (i_1))) - (jf 1 (i_1)) else (vmS (jf 0) (jf 1) panel i_1).2.1))), (3, .int (((vmS (jf 0) (jf 1) panel i_1).1) + (((nI (5)) * (jf 0 (i_1))) - (jf 1 (i_1))))), (7, .int (((nI (5)) * (jf 0 (i_1))) - (jf 1 (i_1)))), (6, .int (nI (i_1))), (5, .int ((vmS (jf 0) (jf 1) panel i_1).2.2)), (0, .ref (J 0)), (1, .int (panel)), (2, .int (merit))]) hx hb dX3_verdictOfMiddle_62 hl (by decide) rfl (fun ls hl => ?_)
          refine lv_iload hx hb dX3_verdictOfMiddle_64 (lv_at hl 4 rfl) ?_
          refine lv_iload hx hb dX3_verdictOfMiddle_66 (lv_at hl 2 rfl) ?_
          refine va_mmax hx hb (hml.trans hl.1.symm) hown (hts _ (List.mem_cons_of_mem _ gm_17_4)) (hts _ (List.mem_cons_of_mem _ gm_17_5)) (hts _ (List.mem_cons_of_mem _ gm_8_10)) (hts _ (List.mem_cons_of_mem _ gm_17_6)) (by decide) (Nat.le_of_ble_eq_true rfl) (Nat.zero_le _) (Nat.zero_le _) dX3_verdictOfMiddle_68 ?_
          refine lv_istore (lv' := [(5, .int ((if (vmS (jf 0) (jf 1) panel i_1).2.2 < ((nI (5)) * (jf 0 (i_1))) - (jf 1 (i_1)) then ((nI (5)) * (jf 0 (i_1))) - (jf 1 (i_1)) else (vmS (jf 0) (jf 1) panel i_1).2.2))), (4, .int ((if ((nI (5)) * (jf 0 (i_1))) - (jf 1 (i_1)) < (vmS (jf 0) (jf 1) panel i_1).2.1 then ((nI (5)) * (jf 0 (i_1))) - (jf 1 (i_1)) else (vmS (jf 0) (jf 1) panel i_1).2.1))), (3, .int (((vmS (jf 0) (jf 1) panel i_1).1) + (((nI (5)) * (jf 0 (i_1))) - (jf 1 (i_1))))), (7, .int (((nI (5)) * (jf 0 (i_1))) - (jf 1 (i_1)))), (6, .int (nI (i_1))), (0, .ref (J 0)), (1, .int (panel)), (2, .int (merit))]) hx hb dX3_verdictOfMiddle_71 hl (by decide) rfl (fun ls hl => ?_)
          refine lv_iinc (v := nI (i_1 + 1)) (lv' := [(6, .int (nI (i_1 + 1))), (5, .int ((if (vmS (jf 0) (jf 1) panel i_1).2.2 < ((nI (5)) * (jf 0 (i_1))) - (jf 1 (i_1)) then ((nI (5)) * (jf 0 (i_1))) - (jf 1 (i_1)) else (vmS (jf 0) (jf 1) panel i_1).2.2))), (4, .int ((if ((nI (5)) * (jf 0 (i_1))) - (jf 1 (i_1)) < (vmS (jf 0) (jf 1) panel i_1).2.1 then ((nI (5)) * (jf 0 (i_1))) - (jf 1 (i_1)) else (vmS (jf 0) (jf 1) panel i_1).2.1))), (3, .int (((vmS (jf 0) (jf 1) panel i_1).1) + (((nI (5)) * (jf 0 (i_1))) - (jf 1 (i_1))))), (7, .int (((nI (5)) * (jf 0 (i_1))) - (jf 1 (i_1)))), (0, .ref (J 0)), (1, .int (panel)), (2, .int (merit))]) hx hb dX3_verdictOfMiddle_73 hl (k := 4) rfl (inc_1 _) (by decide) rfl (fun ls hl => ?_)
          refine lv_goto (tgt := 13) hx hb dX3_verdictOfMiddle_76 (by decide) ?_
          exact ih_12 (i_1 + 1) _ _ _ _ (by omega) (by omega) rfl (by simp [vmS, c_15, d_15, c_18]) (by simp [vmS, c_15, d_15, c_18]) (by simp [vmS, c_15, d_15, c_18])  ls (lv_sub hl [0, 1, 2, 3, 5, 6, 7] rfl)
  exact LP_7 (jn + 1) 0 _ _ _ _ (by omega) (by omega) rfl rfl rfl rfl  ls (lv_sub hl [0, 1, 2, 3, 4, 5, 6] rfl)

set_option maxHeartbeats 1000000 in
set_option maxRecDepth 100000 in
theorem c_X0_withoutPanel (l : Launch) (D : va_G) (cA : Nat → ClassId) (K : Nat → Nat) (kf : Nat → Nat → Int32) (rw : Nat → Nat) (cn rl : Nat) (hcn : cn ≤ 10) : Met l yX0_withoutPanel (gw yX0_withoutPanel cX0_withoutPanel 3 (some .int)) ({ frames := 1, cells := 0, slots := 0, locals := 21 } : Room) (gPc [.ref (K 0)] (fun H => va_P D vwCl (kw cA K kf rw cn rl) H) D cA) (rdI (fun r => r = nI (fb_ct (fun c => !hpF kf c) cn))) 0 0 nF := by
  refine gOf (by decide) (Nat.le_of_ble_eq_true rfl) ?_
  intro p e s m below meth c ls hx hb hml hr hlk hown hts hnm hP hK hl
  have hl : lv_has ls 3 [(0, .ref (K 0))] := hl
  refine lv_iconst (v := nI (0)) hx hb dX0_withoutPanel_0 gc_0 ?_
  refine lv_istore_n (lv' := [(1, .int (nI (0))), (0, .ref (K 0))]) hx hb dX0_withoutPanel_1 rfl hl (by decide) rfl (fun ls hl => ?_)
  refine lv_iconst (v := nI (0)) hx hb dX0_withoutPanel_2 gc_0 ?_
  refine lv_istore_n (lv' := [(2, .int (nI (0))), (1, .int (nI (0))), (0, .ref (K 0))]) hx hb dX0_withoutPanel_3 rfl hl (by decide) rfl (fun ls hl => ?_)
  have LP_5 : ∀ (n_2 i_1 : Nat) (x_3 : Int32) (x_4 : Int32), i_1 ≤ cn → cn + 1 ≤ i_1 + n_2 → x_3 = nI (i_1) → x_4 = nI (fb_ct (fun c => !hpF kf c) i_1) → ∀ (ls : Array Slot), lv_has ls 3 [(2, .int (x_3)), (1, .int (x_4)), (0, .ref (K 0))] → W p l e ({ frames := 1, cells := 0, slots := 0, locals := 21 } : Room) s m ([.ref (K 0)] : List Value).toArray below meth c s.heap [] 0 0 (MQ below (rdI (fun r => r = nI (fb_ct (fun c => !hpF kf c) cn))) ([.ref (K 0)] : List Value).toArray s 0 0 nF) (F0 m 4 ls []) := by
    intro n_2
    induction n_2 with
    | zero => intro i_1 x_3 x_4 h1 h2; exact absurd h2 (by omega)
    | succ n_2 ih_8 =>
      intro i_1 x_3 x_4 h_9 h_10 e_6 e_7  ls hl
      subst e_6
      subst e_7
      refine lv_iload_n hx hb dX0_withoutPanel_4 rfl (lv_at hl 0 rfl) ?_
      refine lv_aload_n hx hb dX0_withoutPanel_5 rfl (lv_at hl 2 rfl) ?_
      refine g_get (v := .int (nI (cn))) hx hb hts hown hK hP 0 rfl rfl gu_wsX00 9 (by decide) gm_4_2 rfl dX0_withoutPanel_6 ?_
      refine g_icmp_ge (P := cn ≤ i_1) (tgt := 34) hx hb dX0_withoutPanel_9 (by decide) (nI_leI (by omega) (by omega)) (fun c_11 => ?_) (fun c_11 => ?_)
      · have d_11 : ¬ i_1 < cn := Nat.not_lt.mpr c_11
        have hN_12 : cn = i_1 := by omega
        subst hN_12
        refine lv_iload_n hx hb dX0_withoutPanel_34 rfl (lv_at hl 1 rfl) ?_
        exact g_iret (v := nI (fb_ct (fun c => !hpF kf c) (cn))) hx hb hr hlk dX0_withoutPanel_35 (rfl)
      · have d_11 : i_1 < cn := Nat.not_le.mp c_11
        refine lv_iload_n hx hb dX0_withoutPanel_12 rfl (lv_at hl 1 rfl) ?_
        refine lv_aload_n hx hb dX0_withoutPanel_13 rfl (lv_at hl 2 rfl) ?_
        refine lv_iload_n hx hb dX0_withoutPanel_14 rfl (lv_at hl 0 rfl) ?_
        refine rd_calle (va_runV (As := [.int (nI (i_1))]) (rest := [.int (nI (fb_ct (fun c => !hpF kf c) i_1))]) ⟨hx, hb, hml, hown, hts⟩ (c_X0_hasPanel l D cA K (kf) (rw) (cn) (rl) (i_1)  (by omega)) (cwV 1 hts (gWV gm_31_10 gm_12_1 gm_12_2 gm_3_0 gm_12_3) rfl rfl rfl (by decide +kernel) ⟨Nat.le_of_ble_eq_true rfl, Nat.le_of_ble_eq_true rfl⟩) (gPreV hK (g_rf hK hP (ci := 2) (q0 := 0) rfl rfl) hP) rfl rfl hl.1 rfl (lv_room (Nat.le_of_ble_eq_true rfl)) dX0_withoutPanel_15 ⟨by omega, by omega⟩) ?_
        refine g_if_eq (P := hpF kf (i_1) = false) (tgt := 25) hx hb dX0_withoutPanel_18 (by decide) b2i_0 (fun c_13 => ?_) (fun c_13 => ?_)
        · refine lv_iconst (v := nI (1)) hx hb dX0_withoutPanel_25 gc_1 ?_
          refine g_iadd hx hb dX0_withoutPanel_26 ?_
          refine lv_istore_n (lv' := [(1, .int (nI ((fb_ct (fun c => !hpF kf c) i_1) + (1)))), (2, .int (nI (i_1))), (0, .ref (K 0))]) hx hb dX0_withoutPanel_27 rfl hl (by decide) rfl (fun ls hl => ?_)
          refine lv_iinc (v := nI (i_1 + 1)) (lv' := [(2, .int (nI (i_1 + 1))), (1, .int (nI ((fb_ct (fun c => !hpF kf c) i_1) + (1)))), (0, .ref (K 0))]) hx hb dX0_withoutPanel_28 hl (k := 1) rfl (inc_1 _) (by decide) rfl (fun ls hl => ?_)
          refine lv_goto (tgt := 4) hx hb dX0_withoutPanel_31 (by decide) ?_
          exact ih_8 (i_1 + 1) _ _ (by omega) (by omega) rfl (by simp [fb_ct_succ, c_11, d_11, c_13])  ls (lv_sub hl [0, 1, 2] rfl)
        · have c_13 : hpF kf (i_1) = true := eq_true_of_ne_false c_13
          refine lv_iconst (v := nI (0)) hx hb dX0_withoutPanel_21 gc_0 ?_
          refine lv_goto (tgt := 26) hx hb dX0_withoutPanel_22 (by decide) ?_
          refine g_iadd hx hb dX0_withoutPanel_26 ?_
          refine lv_istore_n (lv' := [(1, .int (nI ((fb_ct (fun c => !hpF kf c) i_1) + (0)))), (2, .int (nI (i_1))), (0, .ref (K 0))]) hx hb dX0_withoutPanel_27 rfl hl (by decide) rfl (fun ls hl => ?_)
          refine lv_iinc (v := nI (i_1 + 1)) (lv' := [(2, .int (nI (i_1 + 1))), (1, .int (nI ((fb_ct (fun c => !hpF kf c) i_1) + (0)))), (0, .ref (K 0))]) hx hb dX0_withoutPanel_28 hl (k := 1) rfl (inc_1 _) (by decide) rfl (fun ls hl => ?_)
          refine lv_goto (tgt := 4) hx hb dX0_withoutPanel_31 (by decide) ?_
          exact ih_8 (i_1 + 1) _ _ (by omega) (by omega) rfl (by simp [fb_ct_succ, c_11, d_11, c_13])  ls (lv_sub hl [0, 1, 2] rfl)
  exact LP_5 (cn + 1) 0 _ _ (by omega) (by omega) rfl rfl  ls (lv_sub hl [0, 1, 2] rfl)

set_option maxHeartbeats 1000000 in
set_option maxRecDepth 100000 in
theorem c_X0_closed (l : Launch) (D : va_G) (cA : Nat → ClassId) (K : Nat → Nat) (kf : Nat → Nat → Int32) (rw : Nat → Nat) (cn rl : Nat) (hcn : cn ≤ 10) : Met l yX0_closed (gw yX0_closed cX0_closed 3 (some .int)) ({ frames := 1, cells := 0, slots := 0, locals := 21 } : Room) (gPc [.ref (K 0)] (fun H => va_P D vwCl (kw cA K kf rw cn rl) H) D cA) (rdI (fun r => r = nI (fb_ct (fun c => clF kf c) cn))) 0 0 nF := by
  refine gOf (by decide) (Nat.le_of_ble_eq_true rfl) ?_
  intro p e s m below meth c ls hx hb hml hr hlk hown hts hnm hP hK hl
  have hl : lv_has ls 3 [(0, .ref (K 0))] := hl
  refine lv_iconst (v := nI (0)) hx hb dX0_closed_0 gc_0 ?_
  refine lv_istore_n (lv' := [(1, .int (nI (0))), (0, .ref (K 0))]) hx hb dX0_closed_1 rfl hl (by decide) rfl (fun ls hl => ?_)
  refine lv_iconst (v := nI (0)) hx hb dX0_closed_2 gc_0 ?_
  refine lv_istore_n (lv' := [(2, .int (nI (0))), (1, .int (nI (0))), (0, .ref (K 0))]) hx hb dX0_closed_3 rfl hl (by decide) rfl (fun ls hl => ?_)
  have LP_5 : ∀ (n_2 i_1 : Nat) (x_3 : Int32) (x_4 : Int32), i_1 ≤ cn → cn + 1 ≤ i_1 + n_2 → x_3 = nI (i_1) → x_4 = nI (fb_ct (fun c => clF kf c) i_1) → ∀ (ls : Array Slot), lv_has ls 3 [(2, .int (x_3)), (1, .int (x_4)), (0, .ref (K 0))] → W p l e ({ frames := 1, cells := 0, slots := 0, locals := 21 } : Room) s m ([.ref (K 0)] : List Value).toArray below meth c s.heap [] 0 0 (MQ below (rdI (fun r => r = nI (fb_ct (fun c => clF kf c) cn))) ([.ref (K 0)] : List Value).toArray s 0 0 nF) (F0 m 4 ls []) := by
    intro n_2
    induction n_2 with
    | zero => intro i_1 x_3 x_4 h1 h2; exact absurd h2 (by omega)
    | succ n_2 ih_8 =>
      intro i_1 x_3 x_4 h_9 h_10 e_6 e_7  ls hl
      subst e_6
      subst e_7
      refine lv_iload_n hx hb dX0_closed_4 rfl (lv_at hl 0 rfl) ?_
      refine lv_aload_n hx hb dX0_closed_5 rfl (lv_at hl 2 rfl) ?_
      refine g_get (v := .int (nI (cn))) hx hb hts hown hK hP 0 rfl rfl gu_wsX00 9 (by decide) gm_4_2 rfl dX0_closed_6 ?_
      refine g_icmp_ge (P := cn ≤ i_1) (tgt := 34) hx hb dX0_closed_9 (by decide) (nI_leI (by omega) (by omega)) (fun c_11 => ?_) (fun c_11 => ?_)
      · have d_11 : ¬ i_1 < cn := Nat.not_lt.mpr c_11
        have hN_12 : cn = i_1 := by omega
        subst hN_12
        refine lv_iload_n hx hb dX0_closed_34 rfl (lv_at hl 1 rfl) ?_
        exact g_iret (v := nI (fb_ct (fun c => clF kf c) (cn))) hx hb hr hlk dX0_closed_35 (rfl)
      · have d_11 : i_1 < cn := Nat.not_le.mp c_11
        refine lv_iload_n hx hb dX0_closed_12 rfl (lv_at hl 1 rfl) ?_
        refine lv_aload_n hx hb dX0_closed_13 rfl (lv_at hl 2 rfl) ?_
        refine lv_iload_n hx hb dX0_closed_14 rfl (lv_at hl 0 rfl) ?_
        refine rd_calle (va_runV (As := [.int (nI (i_1))]) (rest := [.int (nI (fb_ct (fun c => clF kf c) i_1))]) ⟨hx, hb, hml, hown, hts⟩ (c_X0_isClosed l D cA K (kf) (rw) (cn) (rl) (i_1)  (by omega)) (cwV 1 hts (gWV gm_23_13 gm_12_17 gm_12_18 gm_3_0 gm_12_19) rfl rfl rfl (by decide +kernel) ⟨Nat.le_of_ble_eq_true rfl, Nat.le_of_ble_eq_true rfl⟩) (gPreV hK (g_rf hK hP (ci := 2) (q0 := 0) rfl rfl) hP) rfl rfl hl.1 rfl (lv_room (Nat.le_of_ble_eq_true rfl)) dX0_closed_15 ⟨by omega, by omega⟩) ?_
        refine g_if_eq (P := clF kf (i_1) = false) (tgt := 25) hx hb dX0_closed_18 (by decide) b2i_0 (fun c_13 => ?_) (fun c_13 => ?_)
        · refine lv_iconst (v := nI (0)) hx hb dX0_closed_25 gc_0 ?_
          refine g_iadd hx hb dX0_closed_26 ?_
          refine lv_istore_n (lv' := [(1, .int (nI ((fb_ct (fun c => clF kf c) i_1) + (0)))), (2, .int (nI (i_1))), (0, .ref (K 0))]) hx hb dX0_closed_27 rfl hl (by decide) rfl (fun ls hl => ?_)
          refine lv_iinc (v := nI (i_1 + 1)) (lv' := [(2, .int (nI (i_1 + 1))), (1, .int (nI ((fb_ct (fun c => clF kf c) i_1) + (0)))), (0, .ref (K 0))]) hx hb dX0_closed_28 hl (k := 1) rfl (inc_1 _) (by decide) rfl (fun ls hl => ?_)
          refine lv_goto (tgt := 4) hx hb dX0_closed_31 (by decide) ?_
          exact ih_8 (i_1 + 1) _ _ (by omega) (by omega) rfl (by simp [fb_ct_succ, c_11, d_11, c_13])  ls (lv_sub hl [0, 1, 2] rfl)
        · have c_13 : clF kf (i_1) = true := eq_true_of_ne_false c_13
          refine lv_iconst (v := nI (1)) hx hb dX0_closed_21 gc_1 ?_
          refine lv_goto (tgt := 26) hx hb dX0_closed_22 (by decide) ?_
          refine g_iadd hx hb dX0_closed_26 ?_
          refine lv_istore_n (lv' := [(1, .int (nI ((fb_ct (fun c => clF kf c) i_1) + (1)))), (2, .int (nI (i_1))), (0, .ref (K 0))]) hx hb dX0_closed_27 rfl hl (by decide) rfl (fun ls hl => ?_)
          refine lv_iinc (v := nI (i_1 + 1)) (lv' := [(2, .int (nI (i_1 + 1))), (1, .int (nI ((fb_ct (fun c => clF kf c) i_1) + (1)))), (0, .ref (K 0))]) hx hb dX0_closed_28 hl (k := 1) rfl (inc_1 _) (by decide) rfl (fun ls hl => ?_)
          refine lv_goto (tgt := 4) hx hb dX0_closed_31 (by decide) ?_
          exact ih_8 (i_1 + 1) _ _ (by omega) (by omega) rfl (by simp [fb_ct_succ, c_11, d_11, c_13])  ls (lv_sub hl [0, 1, 2] rfl)
  exact LP_5 (cn + 1) 0 _ _ (by omega) (by omega) rfl rfl  ls (lv_sub hl [0, 1, 2] rfl)

set_option maxHeartbeats 1000000 in
set_option maxRecDepth 100000 in
theorem c_X0_rolledBefore (l : Launch) (D : va_G) (cA : Nat → ClassId) (K : Nat → Nat) (kf : Nat → Nat → Int32) (rw : Nat → Nat) (cn rl : Nat) (night : Int32) (hrl : rl ≤ 10) (hrw : ∀ k, k < rl → rw k < 10) : Met l yX0_rolledBefore (gw yX0_rolledBefore cX0_rolledBefore 4 (some .int)) ({ frames := 0, cells := 0, slots := 0, locals := 0 } : Room) (gPc [.ref (K 0), .int (night)] (fun H => va_P D vwCl (kw cA K kf rw cn rl) H) D cA) (rdI (fun r => r = nI (fb_ct (fun k => decide (kf 1 (rw k) < night)) rl))) 0 0 nF := by
  refine gOf (by decide) (Nat.le_of_ble_eq_true rfl) ?_
  intro p e s m below meth c ls hx hb hml hr hlk hown hts hnm hP hK hl
  have hl : lv_has ls 4 [(0, .ref (K 0)), (1, .int (night))] := hl
  refine lv_iconst (v := nI (0)) hx hb dX0_rolledBefore_0 gc_0 ?_
  refine lv_istore_n (lv' := [(2, .int (nI (0))), (0, .ref (K 0)), (1, .int (night))]) hx hb dX0_rolledBefore_1 rfl hl (by decide) rfl (fun ls hl => ?_)
  refine lv_iconst (v := nI (0)) hx hb dX0_rolledBefore_2 gc_0 ?_
  refine lv_istore_n (lv' := [(3, .int (nI (0))), (2, .int (nI (0))), (0, .ref (K 0)), (1, .int (night))]) hx hb dX0_rolledBefore_3 rfl hl (by decide) rfl (fun ls hl => ?_)
  have LP_5 : ∀ (n_2 i_1 : Nat) (x_3 : Int32) (x_4 : Int32), i_1 ≤ rl → rl + 1 ≤ i_1 + n_2 → x_3 = nI (i_1) → x_4 = nI (fb_ct (fun k => decide (kf 1 (rw k) < night)) i_1) → ∀ (ls : Array Slot), lv_has ls 4 [(3, .int (x_3)), (2, .int (x_4)), (0, .ref (K 0)), (1, .int (night))] → W p l e ({ frames := 0, cells := 0, slots := 0, locals := 0 } : Room) s m ([.ref (K 0), .int (night)] : List Value).toArray below meth c s.heap [] 0 0 (MQ below (rdI (fun r => r = nI (fb_ct (fun k => decide (kf 1 (rw k) < night)) rl))) ([.ref (K 0), .int (night)] : List Value).toArray s 0 0 nF) (F0 m 4 ls []) := by
    intro n_2
    induction n_2 with
    | zero => intro i_1 x_3 x_4 h1 h2; exact absurd h2 (by omega)
    | succ n_2 ih_8 =>
      intro i_1 x_3 x_4 h_9 h_10 e_6 e_7  ls hl
      subst e_6
      subst e_7
      refine lv_iload_n hx hb dX0_rolledBefore_4 rfl (lv_at hl 0 rfl) ?_
      refine lv_aload_n hx hb dX0_rolledBefore_5 rfl (lv_at hl 2 rfl) ?_
      refine g_get (v := .int (nI (rl))) hx hb hts hown hK hP 0 rfl rfl gu_wsX00 10 (by decide) gm_4_3 rfl dX0_rolledBefore_6 ?_
      refine g_icmp_ge (P := rl ≤ i_1) (tgt := 41) hx hb dX0_rolledBefore_9 (by decide) (nI_leI (by omega) (by omega)) (fun c_11 => ?_) (fun c_11 => ?_)
      · have d_11 : ¬ i_1 < rl := Nat.not_lt.mpr c_11
        have hN_12 : rl = i_1 := by omega
        subst hN_12
        refine lv_iload_n hx hb dX0_rolledBefore_41 rfl (lv_at hl 1 rfl) ?_
        exact g_iret (v := nI (fb_ct (fun k => decide (kf 1 (rw k) < night)) (rl))) hx hb hr hlk dX0_rolledBefore_42 (rfl)
      · have d_11 : i_1 < rl := Nat.not_le.mp c_11
        have hrk_13 := hrw (i_1) (by omega)
        refine lv_iload_n hx hb dX0_rolledBefore_12 rfl (lv_at hl 1 rfl) ?_
        refine lv_aload_n hx hb dX0_rolledBefore_13 rfl (lv_at hl 2 rfl) ?_
        refine g_get (v := .ref (K 2)) hx hb hts hown hK hP 0 rfl rfl gu_wsX00 1 (by decide) gm_3_18 rfl dX0_rolledBefore_14 ?_
        refine lv_aload_n hx hb dX0_rolledBefore_17 rfl (lv_at hl 2 rfl) ?_
        refine g_get (v := .ref (K 9)) hx hb hts hown hK hP 0 rfl rfl gu_wsX00 8 (by decide) gm_4_1 rfl dX0_rolledBefore_18 ?_
        refine lv_iload_n hx hb dX0_rolledBefore_21 rfl (lv_at hl 0 rfl) ?_
        refine g_iald (x := nI ((rw) (i_1))) hx hb hK hP 9 rfl (by omega) (by decide) rfl dX0_rolledBefore_22 ?_
        refine g_iald (x := kf 1 ((rw) (i_1))) hx hb hK hP 2 rfl (by omega) (by decide) rfl dX0_rolledBefore_23 ?_
        refine lv_iload_n hx hb dX0_rolledBefore_24 rfl (lv_at hl 3 rfl) ?_
        refine g_icmp_ge (P := night ≤ kf 1 ((rw) (i_1))) (tgt := 32) hx hb dX0_rolledBefore_25 (by decide) Iff.rfl (fun c_14 => ?_) (fun c_14 => ?_)
        · have d_14 : ¬ kf 1 ((rw) (i_1)) < night := Int32.not_lt.mpr c_14
          refine lv_iconst (v := nI (0)) hx hb dX0_rolledBefore_32 gc_0 ?_
          refine g_iadd hx hb dX0_rolledBefore_33 ?_
          refine lv_istore_n (lv' := [(2, .int (nI ((fb_ct (fun k => decide (kf 1 (rw k) < night)) i_1) + (0)))), (3, .int (nI (i_1))), (0, .ref (K 0)), (1, .int (night))]) hx hb dX0_rolledBefore_34 rfl hl (by decide) rfl (fun ls hl => ?_)
          refine lv_iinc (v := nI (i_1 + 1)) (lv' := [(3, .int (nI (i_1 + 1))), (2, .int (nI ((fb_ct (fun k => decide (kf 1 (rw k) < night)) i_1) + (0)))), (0, .ref (K 0)), (1, .int (night))]) hx hb dX0_rolledBefore_35 hl (k := 1) rfl (inc_1 _) (by decide) rfl (fun ls hl => ?_)
          refine lv_goto (tgt := 4) hx hb dX0_rolledBefore_38 (by decide) ?_
          exact ih_8 (i_1 + 1) _ _ (by omega) (by omega) rfl (by simp [fb_ct_succ, c_11, d_11, c_14, d_14] <;> omega)  ls (lv_sub hl [0, 1, 2, 3] rfl)
        · have d_14 : kf 1 ((rw) (i_1)) < night := Int32.not_le.mp c_14
          refine lv_iconst (v := nI (1)) hx hb dX0_rolledBefore_28 gc_1 ?_
          refine lv_goto (tgt := 33) hx hb dX0_rolledBefore_29 (by decide) ?_
          refine g_iadd hx hb dX0_rolledBefore_33 ?_
          refine lv_istore_n (lv' := [(2, .int (nI ((fb_ct (fun k => decide (kf 1 (rw k) < night)) i_1) + (1)))), (3, .int (nI (i_1))), (0, .ref (K 0)), (1, .int (night))]) hx hb dX0_rolledBefore_34 rfl hl (by decide) rfl (fun ls hl => ?_)
          refine lv_iinc (v := nI (i_1 + 1)) (lv' := [(3, .int (nI (i_1 + 1))), (2, .int (nI ((fb_ct (fun k => decide (kf 1 (rw k) < night)) i_1) + (1)))), (0, .ref (K 0)), (1, .int (night))]) hx hb dX0_rolledBefore_35 hl (k := 1) rfl (inc_1 _) (by decide) rfl (fun ls hl => ?_)
          refine lv_goto (tgt := 4) hx hb dX0_rolledBefore_38 (by decide) ?_
          exact ih_8 (i_1 + 1) _ _ (by omega) (by omega) rfl (by simp [fb_ct_succ, c_11, d_11, c_14, d_14] <;> omega)  ls (lv_sub hl [0, 1, 2, 3] rfl)
  exact LP_5 (rl + 1) 0 _ _ (by omega) (by omega) rfl rfl  ls (lv_sub hl [0, 1, 2, 3] rfl)

set_option maxHeartbeats 1000000 in
set_option maxRecDepth 100000 in
theorem c_X0_rolledTermFrom (l : Launch) (D : va_G) (cA : Nat → ClassId) (K : Nat → Nat) (kf : Nat → Nat → Int32) (rw : Nat → Nat) (cn rl : Nat) (night : Int32) (hrl : rl ≤ 10) (hrw : ∀ k, k < rl → rw k < 10) : Met l yX0_rolledTermFrom (gw yX0_rolledTermFrom cX0_rolledTermFrom 3 (some .int)) ({ frames := 0, cells := 0, slots := 0, locals := 0 } : Room) (gPc [.ref (K 0), .int (night)] (fun H => va_P D vwCl (kw cA K kf rw cn rl) H) D cA) (rdI (fun r => r = rtF kf rw rl night)) 0 0 nF := by
  refine gOf (by decide) (Nat.le_of_ble_eq_true rfl) ?_
  intro p e s m below meth c ls hx hb hml hr hlk hown hts hnm hP hK hl
  have hl : lv_has ls 3 [(0, .ref (K 0)), (1, .int (night))] := hl
  refine lv_iconst (v := nI (0)) hx hb dX0_rolledTermFrom_0 gc_0 ?_
  refine lv_istore_n (lv' := [(2, .int (nI (0))), (0, .ref (K 0)), (1, .int (night))]) hx hb dX0_rolledTermFrom_1 rfl hl (by decide) rfl (fun ls hl => ?_)
  have LP_4 : ∀ (n_2 i_1 : Nat) (x_3 : Int32), i_1 ≤ rl → rl + 1 ≤ i_1 + n_2 → x_3 = nI (i_1) → (fnd (fun j => decide (night ≤ kf 1 (rw j))) (i_1) = none) → ∀ (ls : Array Slot), lv_has ls 3 [(2, .int (x_3)), (0, .ref (K 0)), (1, .int (night))] → W p l e ({ frames := 0, cells := 0, slots := 0, locals := 0 } : Room) s m ([.ref (K 0), .int (night)] : List Value).toArray below meth c s.heap [] 0 0 (MQ below (rdI (fun r => r = rtF kf rw rl night)) ([.ref (K 0), .int (night)] : List Value).toArray s 0 0 nF) (F0 m 2 ls []) := by
    intro n_2
    induction n_2 with
    | zero => intro i_1 x_3 h1 h2; exact absurd h2 (by omega)
    | succ n_2 ih_6 =>
      intro i_1 x_3 h_7 h_8 e_5 hv ls hl
      subst e_5
      refine lv_iload_n hx hb dX0_rolledTermFrom_2 rfl (lv_at hl 0 rfl) ?_
      refine lv_aload_n hx hb dX0_rolledTermFrom_3 rfl (lv_at hl 1 rfl) ?_
      refine g_get (v := .int (nI (rl))) hx hb hts hown hK hP 0 rfl rfl gu_wsX00 10 (by decide) gm_4_3 rfl dX0_rolledTermFrom_4 ?_
      refine g_icmp_ge (P := rl ≤ i_1) (tgt := 43) hx hb dX0_rolledTermFrom_7 (by decide) (nI_leI (by omega) (by omega)) (fun c_9 => ?_) (fun c_9 => ?_)
      · have d_9 : ¬ i_1 < rl := Nat.not_lt.mpr c_9
        have hN_10 : rl = i_1 := by omega
        subst hN_10
        refine lv_iconst (v := -1) hx hb dX0_rolledTermFrom_43 gc_m1 ?_
        exact g_iret (v := -1) hx hb hr hlk dX0_rolledTermFrom_44 (by rw [rtF, hv])
      · have d_9 : i_1 < rl := Nat.not_le.mp c_9
        have hrk_11 := hrw (i_1) (by omega)
        refine lv_aload_n hx hb dX0_rolledTermFrom_10 rfl (lv_at hl 1 rfl) ?_
        refine g_get (v := .ref (K 2)) hx hb hts hown hK hP 0 rfl rfl gu_wsX00 1 (by decide) gm_3_18 rfl dX0_rolledTermFrom_11 ?_
        refine lv_aload_n hx hb dX0_rolledTermFrom_14 rfl (lv_at hl 1 rfl) ?_
        refine g_get (v := .ref (K 9)) hx hb hts hown hK hP 0 rfl rfl gu_wsX00 8 (by decide) gm_4_1 rfl dX0_rolledTermFrom_15 ?_
        refine lv_iload_n hx hb dX0_rolledTermFrom_18 rfl (lv_at hl 0 rfl) ?_
        refine g_iald (x := nI ((rw) (i_1))) hx hb hK hP 9 rfl (by omega) (by decide) rfl dX0_rolledTermFrom_19 ?_
        refine g_iald (x := kf 1 ((rw) (i_1))) hx hb hK hP 2 rfl (by omega) (by decide) rfl dX0_rolledTermFrom_20 ?_
        refine lv_iload_n hx hb dX0_rolledTermFrom_21 rfl (lv_at hl 2 rfl) ?_
        refine g_icmp_lt (P := kf 1 ((rw) (i_1)) < night) (tgt := 37) hx hb dX0_rolledTermFrom_22 (by decide) Iff.rfl (fun c_12 => ?_) (fun c_12 => ?_)
        · have d_12 : ¬ night ≤ kf 1 ((rw) (i_1)) := Int32.not_le.mpr c_12
          refine lv_iinc (v := nI (i_1 + 1)) (lv' := [(2, .int (nI (i_1 + 1))), (0, .ref (K 0)), (1, .int (night))]) hx hb dX0_rolledTermFrom_37 hl (k := 0) rfl (inc_1 _) (by decide) rfl (fun ls hl => ?_)
          refine lv_goto (tgt := 2) hx hb dX0_rolledTermFrom_40 (by decide) ?_
          exact ih_6 (i_1 + 1) _ (by omega) (by omega) rfl (fnd_succ_none hv (by simp [c_9, d_9, c_12, d_12] <;> omega)) ls (lv_sub hl [0, 1, 2] rfl)
        · have d_12 : night ≤ kf 1 ((rw) (i_1)) := Int32.not_lt.mp c_12
          refine lv_aload_n hx hb dX0_rolledTermFrom_25 rfl (lv_at hl 1 rfl) ?_
          refine g_get (v := .ref (K 2)) hx hb hts hown hK hP 0 rfl rfl gu_wsX00 1 (by decide) gm_3_18 rfl dX0_rolledTermFrom_26 ?_
          refine lv_aload_n hx hb dX0_rolledTermFrom_29 rfl (lv_at hl 1 rfl) ?_
          refine g_get (v := .ref (K 9)) hx hb hts hown hK hP 0 rfl rfl gu_wsX00 8 (by decide) gm_4_1 rfl dX0_rolledTermFrom_30 ?_
          refine lv_iload_n hx hb dX0_rolledTermFrom_33 rfl (lv_at hl 0 rfl) ?_
          refine g_iald (x := nI ((rw) (i_1))) hx hb hK hP 9 rfl (by omega) (by decide) rfl dX0_rolledTermFrom_34 ?_
          refine g_iald (x := kf 1 ((rw) (i_1))) hx hb hK hP 2 rfl (by omega) (by decide) rfl dX0_rolledTermFrom_35 ?_
          exact g_iret (v := kf 1 ((rw) (i_1))) hx hb hr hlk dX0_rolledTermFrom_36 (by rw [rtF, fnd_stop hv (by simp [c_9, d_9, c_12, d_12]) rl (by omega)])
  exact LP_4 (rl + 1) 0 _ (by omega) (by omega) rfl rfl ls (lv_sub hl [0, 1, 2] rfl)

set_option maxHeartbeats 1000000 in
set_option maxRecDepth 100000 in
theorem c_X1_loadInRow (l : Launch) (D : va_G) (cA : Nat → ClassId) (A : Nat → Nat) (jf : Nat → Nat → Int32) (jn : Nat) (kf : Nat → Nat → Int32) (rw : Nat → Nat) (cn rl clk ton : Nat) (sd : Int32) (j : Nat) (hcn : cn ≤ 10) (hj9 : j < 9) : Met l yX1_loadInRow (gw yX1_loadInRow cX1_loadInRow 7 (some .int)) ({ frames := 1, cells := 0, slots := 0, locals := 21 } : Room) (gPc [.ref (A 0), .int (nI (j))] (fun H => va_P D vwCl (cw cA A jf jn kf rw cn rl clk ton sd) H) D cA) (rdI (fun r => r = lrF kf cn j)) 0 0 nF := by
  refine gOf (by decide) (Nat.le_of_ble_eq_true rfl) ?_
  intro p e s m below meth c ls hx hb hml hr hlk hown hts hnm hP hK hl
  have hl : lv_has ls 7 [(0, .ref (A 0)), (1, .int (nI (j)))] := hl
  refine lv_lconst (v := 0) hx hb dX1_loadInRow_0 rfl ?_
  refine lv_lstore_n (lv' := [(2, .long (0)), (0, .ref (A 0)), (1, .int (nI (j)))]) hx hb dX1_loadInRow_1 rfl hl (by decide) rfl (fun ls hl => ?_)
  refine lv_iconst (v := nI (0)) hx hb dX1_loadInRow_2 gc_0 ?_
  refine lv_istore (lv' := [(4, .int (nI (0))), (2, .long (0)), (0, .ref (A 0)), (1, .int (nI (j)))]) hx hb dX1_loadInRow_3 hl (by decide) rfl (fun ls hl => ?_)
  have LP_5 : ∀ (n_2 i_1 : Nat) (x_3 : Int32) (x_4 : Int64), i_1 ≤ cn * 9 → cn * 9 + 1 ≤ i_1 + n_2 → x_3 = nI (i_1) → x_4 = lrS kf i_1 → ∀ (ls : Array Slot), lv_has ls 7 [(4, .int (x_3)), (2, .long (x_4)), (0, .ref (A 0)), (1, .int (nI (j)))] → W p l e ({ frames := 1, cells := 0, slots := 0, locals := 21 } : Room) s m ([.ref (A 0), .int (nI (j))] : List Value).toArray below meth c s.heap [] 0 0 (MQ below (rdI (fun r => r = lrF kf cn j)) ([.ref (A 0), .int (nI (j))] : List Value).toArray s 0 0 nF) (F0 m 5 ls []) := by
    intro n_2
    induction n_2 with
    | zero => intro i_1 x_3 x_4 h1 h2; exact absurd h2 (by omega)
    | succ n_2 ih_8 =>
      intro i_1 x_3 x_4 h_9 h_10 e_6 e_7  ls hl
      subst e_6
      subst e_7
      refine lv_iload hx hb dX1_loadInRow_5 (lv_at hl 0 rfl) ?_
      refine lv_aload_n hx hb dX1_loadInRow_7 rfl (lv_at hl 2 rfl) ?_
      refine g_get (v := .ref (A 6)) hx hb hts hown hK hP 0 rfl rfl gu_wsX10 1 (by decide) gm_3_1 rfl dX1_loadInRow_8 ?_
      refine g_get (v := .int (nI (cn))) hx hb hts hown hK hP 6 rfl rfl gu_wsX00 9 (by decide) gm_12_14 rfl dX1_loadInRow_11 ?_
      refine lv_bipush (v := nI (9)) hx hb dX1_loadInRow_14 gb_9 ?_
      refine g_imul hx hb dX1_loadInRow_16 ?_
      refine g_icmp_ge (P := cn * 9 ≤ i_1) (tgt := 80) hx hb dX1_loadInRow_17 (by decide) (nI_leI (by omega) (by omega)) (fun c_11 => ?_) (fun c_11 => ?_)
      · have d_11 : ¬ i_1 < cn * 9 := Nat.not_lt.mpr c_11
        have hN_12 : cn * 9 = i_1 := by omega
        subst hN_12
        refine lv_lload_n hx hb dX1_loadInRow_80 rfl (lv_at hl 1 rfl) ?_
        refine lv_bipush (v := nI (6)) hx hb dX1_loadInRow_81 gb_6 ?_
        refine lv_iload_n hx hb dX1_loadInRow_83 rfl (lv_at hl 3 rfl) ?_
        refine g_imul hx hb dX1_loadInRow_84 ?_
        refine lv_lshr (v := (lrS kf (cn * 9) >>> ((nI (6 * j)).toInt64 &&& 63))) hx hb dX1_loadInRow_85 rfl ?_
        refine lv_ldc2 (v := 63) hx hb hown (hts _ (List.mem_cons_of_mem _ gm_28_9)) dX1_loadInRow_86 ?_
        refine lv_land hx hb dX1_loadInRow_89 ?_
        refine lv_l2i (v := (((lrS kf (cn * 9) >>> ((nI (6 * j)).toInt64 &&& 63)) &&& (63 : Int64))).toInt32) hx hb dX1_loadInRow_90 rfl ?_
        exact g_iret (v := (((lrS kf (cn * 9) >>> ((nI (6 * j)).toInt64 &&& 63)) &&& (63 : Int64))).toInt32) hx hb hr hlk dX1_loadInRow_91 (rfl)
      · have d_11 : i_1 < cn * 9 := Nat.not_le.mp c_11
        refine lv_iload hx hb dX1_loadInRow_20 (lv_at hl 0 rfl) ?_
        refine lv_bipush (v := nI (9)) hx hb dX1_loadInRow_22 gb_9 ?_
        refine g_idiv hx hb (by omega) (by omega) (by omega) dX1_loadInRow_24 ?_
        refine lv_istore (lv' := [(5, .int (nI ((i_1) / (9)))), (4, .int (nI (i_1))), (2, .long (lrS kf i_1)), (0, .ref (A 0)), (1, .int (nI (j)))]) hx hb dX1_loadInRow_25 hl (by decide) rfl (fun ls hl => ?_)
        refine lv_iload hx hb dX1_loadInRow_27 (lv_at hl 1 rfl) ?_
        refine lv_bipush (v := nI (9)) hx hb dX1_loadInRow_29 gb_9 ?_
        refine g_irem hx hb (by omega) (by omega) (by omega) dX1_loadInRow_31 ?_
        refine lv_istore (lv' := [(6, .int (nI ((i_1) % (9)))), (5, .int (nI ((i_1) / (9)))), (4, .int (nI (i_1))), (2, .long (lrS kf i_1)), (0, .ref (A 0)), (1, .int (nI (j)))]) hx hb dX1_loadInRow_32 hl (by decide) rfl (fun ls hl => ?_)
        refine lv_aload_n hx hb dX1_loadInRow_34 rfl (lv_at hl 4 rfl) ?_
        refine g_get (v := .ref (A 6)) hx hb hts hown hK hP 0 rfl rfl gu_wsX10 1 (by decide) gm_3_1 rfl dX1_loadInRow_35 ?_
        refine lv_iload hx hb dX1_loadInRow_38 (lv_at hl 1 rfl) ?_
        refine rd_calle (va_runV (As := [.int (nI ((i_1) / (9)))]) (rest := []) ⟨hx, hb, hml, hown, hts⟩ (c_X0_isClosed l D cA (fun k => A (k + 6)) (kf) (rw) (cn) (rl) ((i_1) / (9))  (by omega)) (cwV 1 hts (gWV gm_12_16 gm_12_17 gm_12_18 gm_3_0 gm_12_19) rfl rfl rfl (by decide +kernel) ⟨Nat.le_of_ble_eq_true rfl, Nat.le_of_ble_eq_true rfl⟩) (gPreV hK (g_rf hK hP (ci := 2) (q0 := 6) rfl rfl) (hP.sub [6, 7, 8, 9, 10, 11, 12, 13, 14, 15] rfl)) rfl rfl hl.1 rfl (lv_room (Nat.le_of_ble_eq_true rfl)) dX1_loadInRow_40 ⟨by omega, by omega⟩) ?_
        refine g_if_ne (P := clF kf ((i_1) / (9)) = false) (tgt := 74) hx hb dX1_loadInRow_43 (by decide) b2i_0 (fun c_13 => ?_) (fun c_13 => ?_)
        · have c_13 : clF kf ((i_1) / (9)) = true := eq_true_of_ne_false c_13
          refine lv_iinc (v := nI (i_1 + 1)) (lv' := [(4, .int (nI (i_1 + 1))), (6, .int (nI ((i_1) % (9)))), (5, .int (nI ((i_1) / (9)))), (2, .long (lrS kf i_1)), (0, .ref (A 0)), (1, .int (nI (j)))]) hx hb dX1_loadInRow_74 hl (k := 2) rfl (inc_1 _) (by decide) rfl (fun ls hl => ?_)
          refine lv_goto (tgt := 5) hx hb dX1_loadInRow_77 (by decide) ?_
          exact ih_8 (i_1 + 1) _ _ (by omega) (by omega) rfl (by simp [lrS, c_11, d_11, c_13])  ls (lv_sub hl [0, 3, 4, 5] rfl)
        · refine lv_aload_n hx hb dX1_loadInRow_46 rfl (lv_at hl 4 rfl) ?_
          refine g_get (v := .ref (A 6)) hx hb hts hown hK hP 0 rfl rfl gu_wsX10 1 (by decide) gm_3_1 rfl dX1_loadInRow_47 ?_
          refine g_get (v := .ref (A 9)) hx hb hts hown hK hP 6 rfl rfl gu_wsX00 2 (by decide) gm_12_15 rfl dX1_loadInRow_50 ?_
          refine lv_iload hx hb dX1_loadInRow_53 (lv_at hl 1 rfl) ?_
          refine g_iald (x := kf 2 ((i_1) / (9))) hx hb hK hP 9 rfl (by omega) (by decide) rfl dX1_loadInRow_55 ?_
          refine lv_iload hx hb dX1_loadInRow_56 (lv_at hl 0 rfl) ?_
          refine rd_calle (va_runSN (As := [.int (kf 2 ((i_1) / (9))), .int (nI ((i_1) % (9)))]) (rest := []) ⟨hx, hb, hml, hown, hts⟩ (c_X7_isIn l D cA (kf 2 ((i_1) / (9))) ((i_1) % (9))) ⟨(va_cnB 2 hts (gWN gm_12_9) rfl rfl rfl (hK.2 _ (List.mem_of_getElem? (i := 8) rfl)) (hts _ (List.mem_cons_of_mem _ gm_1_2)) (by decide +kernel) ⟨Nat.le_of_ble_eq_true rfl, Nat.le_of_ble_eq_true rfl⟩), hts _ (List.mem_cons_of_mem _ gm_12_8), trivial⟩ (gPreS hK trivial) rfl rfl hl.1 rfl (lv_room (Nat.le_of_ble_eq_true rfl)) dX1_loadInRow_58 ⟨by omega, by omega⟩) ?_
          refine g_if_eq (P := hs (kf 2 ((i_1) / (9))) ((i_1) % (9)) = false) (tgt := 74) hx hb dX1_loadInRow_61 (by decide) b2i_0 (fun c_14 => ?_) (fun c_14 => ?_)
          · refine lv_iinc (v := nI (i_1 + 1)) (lv' := [(4, .int (nI (i_1 + 1))), (6, .int (nI ((i_1) % (9)))), (5, .int (nI ((i_1) / (9)))), (2, .long (lrS kf i_1)), (0, .ref (A 0)), (1, .int (nI (j)))]) hx hb dX1_loadInRow_74 hl (k := 2) rfl (inc_1 _) (by decide) rfl (fun ls hl => ?_)
            refine lv_goto (tgt := 5) hx hb dX1_loadInRow_77 (by decide) ?_
            exact ih_8 (i_1 + 1) _ _ (by omega) (by omega) rfl (by simp [lrS, c_11, d_11, c_13, c_14])  ls (lv_sub hl [0, 3, 4, 5] rfl)
          · have c_14 : hs (kf 2 ((i_1) / (9))) ((i_1) % (9)) = true := eq_true_of_ne_false c_14
            refine lv_lload_n hx hb dX1_loadInRow_64 rfl (lv_at hl 3 rfl) ?_
            refine lv_lconst (v := 1) hx hb dX1_loadInRow_65 rfl ?_
            refine lv_bipush (v := nI (6)) hx hb dX1_loadInRow_66 gb_6 ?_
            refine lv_iload hx hb dX1_loadInRow_68 (lv_at hl 0 rfl) ?_
            refine g_imul hx hb dX1_loadInRow_70 ?_
            refine lv_lshl (v := (1 <<< ((nI ((6) * ((i_1) % (9)))).toInt64 &&& 63))) hx hb dX1_loadInRow_71 rfl ?_
            refine lv_ladd hx hb dX1_loadInRow_72 ?_
            refine lv_lstore_n (lv' := [(2, .long ((lrS kf i_1 + (1 <<< ((nI ((6) * ((i_1) % (9)))).toInt64 &&& 63))))), (6, .int (nI ((i_1) % (9)))), (5, .int (nI ((i_1) / (9)))), (4, .int (nI (i_1))), (0, .ref (A 0)), (1, .int (nI (j)))]) hx hb dX1_loadInRow_73 rfl hl (by decide) rfl (fun ls hl => ?_)
            refine lv_iinc (v := nI (i_1 + 1)) (lv' := [(4, .int (nI (i_1 + 1))), (2, .long ((lrS kf i_1 + (1 <<< ((nI ((6) * ((i_1) % (9)))).toInt64 &&& 63))))), (6, .int (nI ((i_1) % (9)))), (5, .int (nI ((i_1) / (9)))), (0, .ref (A 0)), (1, .int (nI (j)))]) hx hb dX1_loadInRow_74 hl (k := 3) rfl (inc_1 _) (by decide) rfl (fun ls hl => ?_)
            refine lv_goto (tgt := 5) hx hb dX1_loadInRow_77 (by decide) ?_
            exact ih_8 (i_1 + 1) _ _ (by omega) (by omega) rfl (by simp [lrS, c_11, d_11, c_13, c_14])  ls (lv_sub hl [0, 1, 4, 5] rfl)
  exact LP_5 (cn * 9 + 1) 0 _ _ (by omega) (by omega) rfl rfl  ls (lv_sub hl [0, 1, 2, 3] rfl)

set_option maxHeartbeats 1000000 in
set_option maxRecDepth 100000 in
theorem c_X1_takenIn (l : Launch) (D : va_G) (cA : Nat → ClassId) (A : Nat → Nat) (jf : Nat → Nat → Int32) (jn : Nat) (kf : Nat → Nat → Int32) (rw : Nat → Nat) (cn rl clk ton : Nat) (sd : Int32) (q : Nat) (hrl : rl ≤ 10) (hrw : ∀ k, k < rl → rw k < 10) (hq : q < 10) (hcl : clk ≤ 4) (htn : ton ≤ 99) : Met l yX1_takenIn (gw yX1_takenIn cX1_takenIn 4 (some .int)) ({ frames := 1, cells := 0, slots := 0, locals := 22 } : Room) (gPc [.ref (A 0), .int (nI (q))] (fun H => va_P D vwCl (cw cA A jf jn kf rw cn rl clk ton sd) H) D cA) (rdI (fun r => r = tkN kf rw rl clk ton q)) 0 0 nF := by
  refine gOf (by decide) (Nat.le_of_ble_eq_true rfl) ?_
  intro p e s m below meth c ls hx hb hml hr hlk hown hts hnm hP hK hl
  have hl : lv_has ls 4 [(0, .ref (A 0)), (1, .int (nI (q)))] := hl
  refine lv_aload_n hx hb dX1_takenIn_0 rfl (lv_at hl 0 rfl) ?_
  refine g_get (v := .ref (A 6)) hx hb hts hown hK hP 0 rfl rfl gu_wsX10 1 (by decide) gm_3_1 rfl dX1_takenIn_1 ?_
  refine lv_iload_n hx hb dX1_takenIn_4 rfl (lv_at hl 1 rfl) ?_
  refine rd_calle (va_runV (As := [.int (nI (q))]) (rest := []) ⟨hx, hb, hml, hown, hts⟩ (c_X0_placeOnRoll l D cA (fun k => A (k + 6)) (kf) (rw) (cn) (rl) (q)  hrl hrw (by omega)) (cwV 1 hts (gWV gm_32_15 gm_17_12 gm_17_13 gm_3_0 gm_17_14) rfl rfl rfl (by decide +kernel) ⟨Nat.le_of_ble_eq_true rfl, Nat.le_of_ble_eq_true rfl⟩) (gPreV hK (g_rf hK hP (ci := 2) (q0 := 6) rfl rfl) (hP.sub [6, 7, 8, 9, 10, 11, 12, 13, 14, 15] rfl)) rfl rfl hl.1 rfl (lv_room (Nat.le_of_ble_eq_true rfl)) dX1_takenIn_5 ⟨by omega, by omega⟩) ?_
  refine lv_istore_n (lv' := [(2, .int (oI (fnd (fun k => decide (rw k = (q))) rl))), (0, .ref (A 0)), (1, .int (nI (q)))]) hx hb dX1_takenIn_8 rfl hl (by decide) rfl (fun ls hl => ?_)
  refine lv_iload_n hx hb dX1_takenIn_9 rfl (lv_at hl 0 rfl) ?_
  refine lv_iconst (v := -1) hx hb dX1_takenIn_10 gc_m1 ?_
  refine g_icmp_eq (P := fnd (fun k => decide (rw k = (q))) rl = none) (tgt := 22) hx hb dX1_takenIn_11 (by decide) (oI_m1 (fun b q => by have := fnd_lt q; omega)) (fun c_1 => ?_) (fun c_1 => ?_)
  · refine lv_iconst (v := -1) hx hb dX1_takenIn_22 gc_m1 ?_
    exact g_iret (v := -1) hx hb hr hlk dX1_takenIn_23 (by rw [tkN, c_1])
  · obtain ⟨b_2, eb_3⟩ := o_some c_1
    have hb_4 := fnd_lt eb_3
    rw [eb_3] at hl
    have hl : lv_has ls 4 [(2, .int (nI (b_2))), (0, .ref (A 0)), (1, .int (nI (q)))] := hl
    refine lv_aload_n hx hb dX1_takenIn_14 rfl (lv_at hl 1 rfl) ?_
    refine g_get (v := .int (nI (clk))) hx hb hts hown hK hP 0 rfl rfl gu_wsX10 2 (by decide) gm_3_2 rfl dX1_takenIn_15 ?_
    refine lv_iconst (v := nI (1)) hx hb dX1_takenIn_18 gc_1 ?_
    refine g_icmp_ge (P := 1 ≤ clk) (tgt := 24) hx hb dX1_takenIn_19 (by decide) (nI_leI (by omega) (by omega)) (fun c_5 => ?_) (fun c_5 => ?_)
    · have d_5 : ¬ clk < 1 := Nat.not_lt.mpr c_5
      refine lv_aload_n hx hb dX1_takenIn_24 rfl (lv_at hl 1 rfl) ?_
      refine g_get (v := .int (nI (ton))) hx hb hts hown hK hP 0 rfl rfl gu_wsX10 3 (by decide) gm_3_3 rfl dX1_takenIn_25 ?_
      refine lv_iconst (v := nI (1)) hx hb dX1_takenIn_28 gc_1 ?_
      refine g_iadd hx hb dX1_takenIn_29 ?_
      refine lv_iload_n hx hb dX1_takenIn_30 rfl (lv_at hl 0 rfl) ?_
      refine lv_aload_n hx hb dX1_takenIn_31 rfl (lv_at hl 1 rfl) ?_
      refine g_get (v := .int (nI (clk))) hx hb hts hown hK hP 0 rfl rfl gu_wsX10 2 (by decide) gm_3_2 rfl dX1_takenIn_32 ?_
      refine g_idiv hx hb (by omega) (by omega) (by omega) dX1_takenIn_35 ?_
      have hdv_6 := Nat.div_le_self b_2 clk
      refine g_iadd hx hb dX1_takenIn_36 ?_
      refine lv_istore_n (lv' := [(3, .int (nI ((ton + 1) + ((b_2) / (clk))))), (2, .int (nI (b_2))), (0, .ref (A 0)), (1, .int (nI (q)))]) hx hb dX1_takenIn_37 rfl hl (by decide) rfl (fun ls hl => ?_)
      refine lv_iload_n hx hb dX1_takenIn_38 rfl (lv_at hl 0 rfl) ?_
      refine lv_bipush (v := nI (99)) hx hb dX1_takenIn_39 gb_99 ?_
      refine g_icmp_le (P := (ton + 1) + ((b_2) / (clk)) ≤ 99) (tgt := 48) hx hb dX1_takenIn_41 (by decide) (nI_leI (by omega) (by omega)) (fun c_7 => ?_) (fun c_7 => ?_)
      · have d_7 : ¬ 99 < (ton + 1) + ((b_2) / (clk)) := Nat.not_lt.mpr c_7
        refine lv_iload_n hx hb dX1_takenIn_48 rfl (lv_at hl 0 rfl) ?_
        exact g_iret (v := nI ((ton + 1) + ((b_2) / (clk)))) hx hb hr hlk dX1_takenIn_49 (by rw [tkN, eb_3]; show _ = if clk < 1 then _ else _; rw [if_neg (by omega), if_neg (by omega)])
      · have d_7 : 99 < (ton + 1) + ((b_2) / (clk)) := Nat.not_le.mp c_7
        refine lv_iconst (v := -1) hx hb dX1_takenIn_44 gc_m1 ?_
        refine lv_goto (tgt := 49) hx hb dX1_takenIn_45 (by decide) ?_
        exact g_iret (v := -1) hx hb hr hlk dX1_takenIn_49 (by rw [tkN, eb_3]; show _ = if clk < 1 then _ else _; rw [if_neg (by omega), if_pos (by omega)])
    · have d_5 : clk < 1 := Nat.not_le.mp c_5
      refine lv_iconst (v := -1) hx hb dX1_takenIn_22 gc_m1 ?_
      exact g_iret (v := -1) hx hb hr hlk dX1_takenIn_23 (by rw [tkN, eb_3]; show _ = if clk < 1 then _ else _; rw [if_pos (by omega)])

set_option maxHeartbeats 1000000 in
set_option maxRecDepth 100000 in
theorem c_X1_isOrderRight (l : Launch) (D : va_G) (cA : Nat → ClassId) (A : Nat → Nat) (jf : Nat → Nat → Int32) (jn : Nat) (kf : Nat → Nat → Int32) (rw : Nat → Nat) (cn rl clk ton : Nat) (sd : Int32) (kd : Nat) (a b : Int32) (hcn : cn ≤ 10) (hk7 : kd ≤ 7) : Met l yX1_isOrderRight (gw yX1_isOrderRight cX1_isOrderRight 4 (some .boolean)) ({ frames := 1, cells := 0, slots := 0, locals := 21 } : Room) (gPc [.ref (A 0), .int (nI (kd)), .int (a), .int (b)] (fun H => va_P D vwCl (cw cA A jf jn kf rw cn rl clk ton sd) H) D cA) (rdI (fun r => r = b2i (ioF cn kd a b))) 0 0 nF := by
  refine gOf (by decide) (Nat.le_of_ble_eq_true rfl) ?_
  intro p e s m below meth c ls hx hb hml hr hlk hown hts hnm hP hK hl
  have hl : lv_has ls 4 [(0, .ref (A 0)), (1, .int (nI (kd))), (2, .int (a)), (3, .int (b))] := hl
  refine lv_iload_n hx hb dX1_isOrderRight_0 rfl (lv_at hl 1 rfl) ?_
  have hsw_1 : kd = 0 ∨ kd = 1 ∨ kd = 2 ∨ kd = 3 ∨ kd = 4 ∨ kd = 5 ∨ kd = 6 ∨ kd = 7 := by omega
  rcases hsw_1 with rfl | rfl | rfl | rfl | rfl | rfl | rfl | rfl
  · refine lv_tableIn (off := 39) (tgt := 40) hx hb dX1_isOrderRight_1 (by decide +kernel) (by decide +kernel) (by decide +kernel) (by decide) ?_
    refine lv_iload_n hx hb dX1_isOrderRight_40 rfl (lv_at hl 2 rfl) ?_
    refine lv_iload_n hx hb dX1_isOrderRight_41 rfl (lv_at hl 3 rfl) ?_
    refine rd_calle (va_runSN (As := [.int (a), .int (b)]) (rest := []) ⟨hx, hb, hml, hown, hts⟩ (c_X7_isJurorRight l D cA (a) (b)) ⟨(va_cnB 2 hts (gWN gm_6_16) rfl rfl rfl (hK.2 _ (List.mem_of_getElem? (i := 12) rfl)) (hts _ (List.mem_cons_of_mem _ gm_1_2)) (by decide +kernel) ⟨Nat.le_of_ble_eq_true rfl, Nat.le_of_ble_eq_true rfl⟩), hts _ (List.mem_cons_of_mem _ gm_6_15), trivial⟩ (gPreS hK trivial) rfl rfl hl.1 rfl (lv_room (Nat.le_of_ble_eq_true rfl)) dX1_isOrderRight_42 ⟨by omega, by omega⟩) ?_
    exact g_zret (v := b2i (jrr (a) (b))) hx hb hr hlk b2i_n dX1_isOrderRight_45 (rfl)
  · refine lv_tableIn (off := 45) (tgt := 46) hx hb dX1_isOrderRight_1 (by decide +kernel) (by decide +kernel) (by decide +kernel) (by decide) ?_
    refine lv_iload_n hx hb dX1_isOrderRight_46 rfl (lv_at hl 2 rfl) ?_
    refine lv_iload_n hx hb dX1_isOrderRight_47 rfl (lv_at hl 3 rfl) ?_
    refine rd_calle (va_runSN (As := [.int (a), .int (b)]) (rest := []) ⟨hx, hb, hml, hown, hts⟩ (c_X7_isCaseRight l D cA (a) (b)) ⟨(va_cnB 2 hts (gWN gm_10_10) rfl rfl rfl (hK.2 _ (List.mem_of_getElem? (i := 13) rfl)) (hts _ (List.mem_cons_of_mem _ gm_1_2)) (by decide +kernel) ⟨Nat.le_of_ble_eq_true rfl, Nat.le_of_ble_eq_true rfl⟩), hts _ (List.mem_cons_of_mem _ gm_10_9), trivial⟩ (gPreS hK trivial) rfl rfl hl.1 rfl (lv_room (Nat.le_of_ble_eq_true rfl)) dX1_isOrderRight_48 ⟨by omega, by omega⟩) ?_
    exact g_zret (v := b2i (csr (a) (b))) hx hb hr hlk b2i_n dX1_isOrderRight_51 (rfl)
  · refine lv_tableIn (off := 51) (tgt := 52) hx hb dX1_isOrderRight_1 (by decide +kernel) (by decide +kernel) (by decide +kernel) (by decide) ?_
    refine lv_aload_n hx hb dX1_isOrderRight_52 rfl (lv_at hl 0 rfl) ?_
    refine g_get (v := .ref (A 6)) hx hb hts hown hK hP 0 rfl rfl gu_wsX10 1 (by decide) gm_3_1 rfl dX1_isOrderRight_53 ?_
    refine lv_iload_n hx hb dX1_isOrderRight_56 rfl (lv_at hl 2 rfl) ?_
    refine rd_calle (va_runV (As := [.int (a)]) (rest := []) ⟨hx, hb, hml, hown, hts⟩ (c_X0_has l D cA (fun k => A (k + 6)) (kf) (rw) (cn) (rl) (a)  hcn) (cwV 1 hts (gWV gm_44_9 gm_11_16 gm_11_17 gm_3_0 gm_11_18) rfl rfl rfl (by decide +kernel) ⟨Nat.le_of_ble_eq_true rfl, Nat.le_of_ble_eq_true rfl⟩) (gPreV hK (g_rf hK hP (ci := 2) (q0 := 6) rfl rfl) (hP.sub [6, 7, 8, 9, 10, 11, 12, 13, 14, 15] rfl)) rfl rfl hl.1 rfl (lv_room (Nat.le_of_ble_eq_true rfl)) dX1_isOrderRight_57 ⟨by omega, by omega⟩) ?_
    exact g_zret (v := b2i (isIx (a) cn)) hx hb hr hlk b2i_n dX1_isOrderRight_60 (rfl)
  · refine lv_tableIn (off := 51) (tgt := 52) hx hb dX1_isOrderRight_1 (by decide +kernel) (by decide +kernel) (by decide +kernel) (by decide) ?_
    refine lv_aload_n hx hb dX1_isOrderRight_52 rfl (lv_at hl 0 rfl) ?_
    refine g_get (v := .ref (A 6)) hx hb hts hown hK hP 0 rfl rfl gu_wsX10 1 (by decide) gm_3_1 rfl dX1_isOrderRight_53 ?_
    refine lv_iload_n hx hb dX1_isOrderRight_56 rfl (lv_at hl 2 rfl) ?_
    refine rd_calle (va_runV (As := [.int (a)]) (rest := []) ⟨hx, hb, hml, hown, hts⟩ (c_X0_has l D cA (fun k => A (k + 6)) (kf) (rw) (cn) (rl) (a)  hcn) (cwV 1 hts (gWV gm_44_9 gm_11_16 gm_11_17 gm_3_0 gm_11_18) rfl rfl rfl (by decide +kernel) ⟨Nat.le_of_ble_eq_true rfl, Nat.le_of_ble_eq_true rfl⟩) (gPreV hK (g_rf hK hP (ci := 2) (q0 := 6) rfl rfl) (hP.sub [6, 7, 8, 9, 10, 11, 12, 13, 14, 15] rfl)) rfl rfl hl.1 rfl (lv_room (Nat.le_of_ble_eq_true rfl)) dX1_isOrderRight_57 ⟨by omega, by omega⟩) ?_
    exact g_zret (v := b2i (isIx (a) cn)) hx hb hr hlk b2i_n dX1_isOrderRight_60 (rfl)
  · refine lv_tableIn (off := 51) (tgt := 52) hx hb dX1_isOrderRight_1 (by decide +kernel) (by decide +kernel) (by decide +kernel) (by decide) ?_
    refine lv_aload_n hx hb dX1_isOrderRight_52 rfl (lv_at hl 0 rfl) ?_
    refine g_get (v := .ref (A 6)) hx hb hts hown hK hP 0 rfl rfl gu_wsX10 1 (by decide) gm_3_1 rfl dX1_isOrderRight_53 ?_
    refine lv_iload_n hx hb dX1_isOrderRight_56 rfl (lv_at hl 2 rfl) ?_
    refine rd_calle (va_runV (As := [.int (a)]) (rest := []) ⟨hx, hb, hml, hown, hts⟩ (c_X0_has l D cA (fun k => A (k + 6)) (kf) (rw) (cn) (rl) (a)  hcn) (cwV 1 hts (gWV gm_44_9 gm_11_16 gm_11_17 gm_3_0 gm_11_18) rfl rfl rfl (by decide +kernel) ⟨Nat.le_of_ble_eq_true rfl, Nat.le_of_ble_eq_true rfl⟩) (gPreV hK (g_rf hK hP (ci := 2) (q0 := 6) rfl rfl) (hP.sub [6, 7, 8, 9, 10, 11, 12, 13, 14, 15] rfl)) rfl rfl hl.1 rfl (lv_room (Nat.le_of_ble_eq_true rfl)) dX1_isOrderRight_57 ⟨by omega, by omega⟩) ?_
    exact g_zret (v := b2i (isIx (a) cn)) hx hb hr hlk b2i_n dX1_isOrderRight_60 (rfl)
  · refine lv_tableIn (off := 51) (tgt := 52) hx hb dX1_isOrderRight_1 (by decide +kernel) (by decide +kernel) (by decide +kernel) (by decide) ?_
    refine lv_aload_n hx hb dX1_isOrderRight_52 rfl (lv_at hl 0 rfl) ?_
    refine g_get (v := .ref (A 6)) hx hb hts hown hK hP 0 rfl rfl gu_wsX10 1 (by decide) gm_3_1 rfl dX1_isOrderRight_53 ?_
    refine lv_iload_n hx hb dX1_isOrderRight_56 rfl (lv_at hl 2 rfl) ?_
    refine rd_calle (va_runV (As := [.int (a)]) (rest := []) ⟨hx, hb, hml, hown, hts⟩ (c_X0_has l D cA (fun k => A (k + 6)) (kf) (rw) (cn) (rl) (a)  hcn) (cwV 1 hts (gWV gm_44_9 gm_11_16 gm_11_17 gm_3_0 gm_11_18) rfl rfl rfl (by decide +kernel) ⟨Nat.le_of_ble_eq_true rfl, Nat.le_of_ble_eq_true rfl⟩) (gPreV hK (g_rf hK hP (ci := 2) (q0 := 6) rfl rfl) (hP.sub [6, 7, 8, 9, 10, 11, 12, 13, 14, 15] rfl)) rfl rfl hl.1 rfl (lv_room (Nat.le_of_ble_eq_true rfl)) dX1_isOrderRight_57 ⟨by omega, by omega⟩) ?_
    exact g_zret (v := b2i (isIx (a) cn)) hx hb hr hlk b2i_n dX1_isOrderRight_60 (rfl)
  · refine lv_tableOut (tgt := 61) hx hb dX1_isOrderRight_1 (by decide +kernel) (by decide) ?_
    refine lv_iconst (v := nI (1)) hx hb dX1_isOrderRight_61 gc_1 ?_
    exact g_zret (v := nI (1)) hx hb hr hlk rfl dX1_isOrderRight_62 (rfl)
  · refine lv_tableOut (tgt := 61) hx hb dX1_isOrderRight_1 (by decide +kernel) (by decide) ?_
    refine lv_iconst (v := nI (1)) hx hb dX1_isOrderRight_61 gc_1 ?_
    exact g_zret (v := nI (1)) hx hb hr hlk rfl dX1_isOrderRight_62 (rfl)

set_option maxHeartbeats 1000000 in
set_option maxRecDepth 100000 in
theorem c_X1_areLoadsWell (l : Launch) (D : va_G) (cA : Nat → ClassId) (A : Nat → Nat) (jf : Nat → Nat → Int32) (jn : Nat) (kf : Nat → Nat → Int32) (rw : Nat → Nat) (cn rl clk ton : Nat) (sd : Int32) (hjn : jn ≤ 9) (hcn : cn ≤ 10) : Met l yX1_areLoadsWell (gw yX1_areLoadsWell cX1_areLoadsWell 3 (some .boolean)) ({ frames := 2, cells := 0, slots := 0, locals := 47 } : Room) (gPc [.ref (A 0)] (fun H => va_P D vwCl (cw cA A jf jn kf rw cn rl clk ton sd) H) D cA) (rdI (fun r => r = b2i (fnd (fun j => !decide (nI (ldF kf cn j) = lrF kf cn j) || decide (3 < ldF kf cn j)) jn).isNone)) 0 0 nF := by
  refine gOf (by decide) (Nat.le_of_ble_eq_true rfl) ?_
  intro p e s m below meth c ls hx hb hml hr hlk hown hts hnm hP hK hl
  have hl : lv_has ls 3 [(0, .ref (A 0))] := hl
  refine lv_iconst (v := nI (0)) hx hb dX1_areLoadsWell_0 gc_0 ?_
  refine lv_istore_n (lv' := [(1, .int (nI (0))), (0, .ref (A 0))]) hx hb dX1_areLoadsWell_1 rfl hl (by decide) rfl (fun ls hl => ?_)
  have LP_4 : ∀ (n_2 i_1 : Nat) (x_3 : Int32), i_1 ≤ jn → jn + 1 ≤ i_1 + n_2 → x_3 = nI (i_1) → (fnd (fun j => !decide (nI (ldF kf cn j) = lrF kf cn j) || decide (3 < ldF kf cn j)) (i_1) = none) → ∀ (ls : Array Slot), lv_has ls 3 [(1, .int (x_3)), (0, .ref (A 0))] → W p l e ({ frames := 2, cells := 0, slots := 0, locals := 47 } : Room) s m ([.ref (A 0)] : List Value).toArray below meth c s.heap [] 0 0 (MQ below (rdI (fun r => r = b2i (fnd (fun j => !decide (nI (ldF kf cn j) = lrF kf cn j) || decide (3 < ldF kf cn j)) jn).isNone)) ([.ref (A 0)] : List Value).toArray s 0 0 nF) (F0 m 2 ls []) := by
    intro n_2
    induction n_2 with
    | zero => intro i_1 x_3 h1 h2; exact absurd h2 (by omega)
    | succ n_2 ih_6 =>
      intro i_1 x_3 h_7 h_8 e_5 hv ls hl
      subst e_5
      refine lv_iload_n hx hb dX1_areLoadsWell_2 rfl (lv_at hl 0 rfl) ?_
      refine lv_aload_n hx hb dX1_areLoadsWell_3 rfl (lv_at hl 1 rfl) ?_
      refine g_get (v := .ref (A 1)) hx hb hts hown hK hP 0 rfl rfl gu_wsX10 0 (by decide) gm_2_21 rfl dX1_areLoadsWell_4 ?_
      refine g_get (v := .int (nI (jn))) hx hb hts hown hK hP 1 rfl rfl gu_wsX30 4 (by decide) gm_13_0 rfl dX1_areLoadsWell_7 ?_
      refine g_icmp_ge (P := jn ≤ i_1) (tgt := 41) hx hb dX1_areLoadsWell_10 (by decide) (nI_leI (by omega) (by omega)) (fun c_9 => ?_) (fun c_9 => ?_)
      · have d_9 : ¬ i_1 < jn := Nat.not_lt.mpr c_9
        have hN_10 : jn = i_1 := by omega
        subst hN_10
        refine lv_iconst (v := nI (1)) hx hb dX1_areLoadsWell_41 gc_1 ?_
        exact g_zret (v := nI (1)) hx hb hr hlk rfl dX1_areLoadsWell_42 (by rw [hv]; rfl)
      · have d_9 : i_1 < jn := Nat.not_le.mp c_9
        refine lv_aload_n hx hb dX1_areLoadsWell_13 rfl (lv_at hl 1 rfl) ?_
        refine lv_iload_n hx hb dX1_areLoadsWell_14 rfl (lv_at hl 0 rfl) ?_
        refine rd_calle (va_runV (As := [.int (nI (i_1))]) (rest := []) ⟨hx, hb, hml, hown, hts⟩ (c_X1_loadOf l D cA A (jf) (jn) (kf) (rw) (cn) (rl) (clk) (ton) (sd) (i_1)  hcn) (cwV 1 hts (gWV gm_13_1 gm_12_11 gm_12_12 gm_1_16 gm_12_13) rfl rfl rfl (by decide +kernel) ⟨Nat.le_of_ble_eq_true rfl, Nat.le_of_ble_eq_true rfl⟩) (gPreV hK (g_rf hK hP (ci := 3) (q0 := 0) rfl rfl) hP) rfl rfl hl.1 rfl (lv_room (Nat.le_of_ble_eq_true rfl)) dX1_areLoadsWell_15 ⟨by omega, by omega⟩) ?_
        refine lv_istore_n (lv' := [(2, .int (nI (ldF kf cn (i_1)))), (1, .int (nI (i_1))), (0, .ref (A 0))]) hx hb dX1_areLoadsWell_18 rfl hl (by decide) rfl (fun ls hl => ?_)
        refine lv_iload_n hx hb dX1_areLoadsWell_19 rfl (lv_at hl 0 rfl) ?_
        have hle_11 := ldF_le kf cn (i_1)
        refine lv_aload_n hx hb dX1_areLoadsWell_20 rfl (lv_at hl 2 rfl) ?_
        refine lv_iload_n hx hb dX1_areLoadsWell_21 rfl (lv_at hl 1 rfl) ?_
        refine rd_calle (va_runV (As := [.int (nI (i_1))]) (rest := [.int (nI (ldF kf cn (i_1)))]) ⟨hx, hb, hml, hown, hts⟩ (c_X1_loadInRow l D cA A (jf) (jn) (kf) (rw) (cn) (rl) (clk) (ton) (sd) (i_1)  hcn (by omega)) (cwV 1 hts (gWV gm_50_14 gm_28_6 gm_28_7 gm_1_16 gm_28_8) rfl rfl rfl (by decide +kernel) ⟨Nat.le_of_ble_eq_true rfl, Nat.le_of_ble_eq_true rfl⟩) (gPreV hK (g_rf hK hP (ci := 3) (q0 := 0) rfl rfl) hP) rfl rfl hl.1 rfl (lv_room (Nat.le_of_ble_eq_true rfl)) dX1_areLoadsWell_22 ⟨by omega, by omega⟩) ?_
        refine g_icmp_ne (P := nI (ldF kf cn (i_1)) = lrF kf cn (i_1)) (tgt := 33) hx hb dX1_areLoadsWell_25 (by decide) Iff.rfl (fun c_12 => ?_) (fun c_12 => ?_)
        · refine lv_iconst (v := nI (0)) hx hb dX1_areLoadsWell_33 gc_0 ?_
          exact g_zret (v := nI (0)) hx hb hr hlk rfl dX1_areLoadsWell_34 (by rw [fnd_stop hv (by simp [c_9, d_9, c_12] <;> omega) (jn) (by omega)]; rfl)
        · refine lv_iload_n hx hb dX1_areLoadsWell_28 rfl (lv_at hl 0 rfl) ?_
          refine lv_iconst (v := nI (3)) hx hb dX1_areLoadsWell_29 gc_3 ?_
          refine g_icmp_le (P := ldF kf cn (i_1) ≤ 3) (tgt := 35) hx hb dX1_areLoadsWell_30 (by decide) (nI_leI (by omega) (by omega)) (fun c_13 => ?_) (fun c_13 => ?_)
          · have d_13 : ¬ 3 < ldF kf cn (i_1) := Nat.not_lt.mpr c_13
            refine lv_iinc (v := nI (i_1 + 1)) (lv' := [(1, .int (nI (i_1 + 1))), (2, .int (nI (ldF kf cn (i_1)))), (0, .ref (A 0))]) hx hb dX1_areLoadsWell_35 hl (k := 1) rfl (inc_1 _) (by decide) rfl (fun ls hl => ?_)
            refine lv_goto (tgt := 2) hx hb dX1_areLoadsWell_38 (by decide) ?_
            exact ih_6 (i_1 + 1) _ (by omega) (by omega) rfl (fnd_succ_none hv (by simp [c_9, d_9, c_12, c_13, d_13] <;> omega)) ls (lv_sub hl [0, 2] rfl)
          · have d_13 : 3 < ldF kf cn (i_1) := Nat.not_le.mp c_13
            refine lv_iconst (v := nI (0)) hx hb dX1_areLoadsWell_33 gc_0 ?_
            exact g_zret (v := nI (0)) hx hb hr hlk rfl dX1_areLoadsWell_34 (by rw [fnd_stop hv (by simp [c_9, d_9, c_12, c_13, d_13] <;> omega) (jn) (by omega)]; rfl)
  exact LP_4 (jn + 1) 0 _ (by omega) (by omega) rfl rfl ls (lv_sub hl [0, 1] rfl)

set_option maxHeartbeats 1000000 in
set_option maxRecDepth 100000 in
theorem c_X1_isRollWell (l : Launch) (D : va_G) (cA : Nat → ClassId) (A : Nat → Nat) (jf : Nat → Nat → Int32) (jn : Nat) (kf : Nat → Nat → Int32) (rw : Nat → Nat) (cn rl clk ton : Nat) (sd : Int32) (hcn : cn ≤ 10) (hrl : rl ≤ 10) (hrw : ∀ k, k < rl → rw k < 10) : Met l yX1_isRollWell (gw yX1_isRollWell cX1_isRollWell 2 (some .boolean)) ({ frames := 4, cells := 0, slots := 0, locals := 89 } : Room) (gPc [.ref (A 0)] (fun H => va_P D vwCl (cw cA A jf jn kf rw cn rl clk ton sd) H) D cA) (rdI (fun r => r = b2i (fnd (fun k => !decide (oI (if isIx (nI k) rl = true then some (rw (nI k).toNatClampNeg) else none) = oI (nthV (fhF kf cn) cn (nI k)))) (rl + 1)).isNone)) 0 0 nF := by
  refine gOf (by decide) (Nat.le_of_ble_eq_true rfl) ?_
  intro p e s m below meth c ls hx hb hml hr hlk hown hts hnm hP hK hl
  have hl : lv_has ls 2 [(0, .ref (A 0))] := hl
  refine lv_iconst (v := nI (0)) hx hb dX1_isRollWell_0 gc_0 ?_
  refine lv_istore_n (lv' := [(1, .int (nI (0))), (0, .ref (A 0))]) hx hb dX1_isRollWell_1 rfl hl (by decide) rfl (fun ls hl => ?_)
  have LP_4 : ∀ (n_2 i_1 : Nat) (x_3 : Int32), i_1 ≤ rl + 1 → rl + 1 + 1 ≤ i_1 + n_2 → x_3 = nI (i_1) → (fnd (fun k => !decide (oI (if isIx (nI k) rl = true then some (rw (nI k).toNatClampNeg) else none) = oI (nthV (fhF kf cn) cn (nI k)))) (i_1) = none) → ∀ (ls : Array Slot), lv_has ls 2 [(1, .int (x_3)), (0, .ref (A 0))] → W p l e ({ frames := 4, cells := 0, slots := 0, locals := 89 } : Room) s m ([.ref (A 0)] : List Value).toArray below meth c s.heap [] 0 0 (MQ below (rdI (fun r => r = b2i (fnd (fun k => !decide (oI (if isIx (nI k) rl = true then some (rw (nI k).toNatClampNeg) else none) = oI (nthV (fhF kf cn) cn (nI k)))) (rl + 1)).isNone)) ([.ref (A 0)] : List Value).toArray s 0 0 nF) (F0 m 2 ls []) := by
    intro n_2
    induction n_2 with
    | zero => intro i_1 x_3 h1 h2; exact absurd h2 (by omega)
    | succ n_2 ih_6 =>
      intro i_1 x_3 h_7 h_8 e_5 hv ls hl
      subst e_5
      refine lv_iload_n hx hb dX1_isRollWell_2 rfl (lv_at hl 0 rfl) ?_
      refine lv_aload_n hx hb dX1_isRollWell_3 rfl (lv_at hl 1 rfl) ?_
      refine g_get (v := .ref (A 6)) hx hb hts hown hK hP 0 rfl rfl gu_wsX10 1 (by decide) gm_3_1 rfl dX1_isRollWell_4 ?_
      refine g_get (v := .int (nI (rl))) hx hb hts hown hK hP 6 rfl rfl gu_wsX00 10 (by decide) gm_23_2 rfl dX1_isRollWell_7 ?_
      refine g_icmp_gt (P := rl < i_1) (tgt := 40) hx hb dX1_isRollWell_10 (by decide) (nI_ltI (by omega) (by omega)) (fun c_9 => ?_) (fun c_9 => ?_)
      · have d_9 : ¬ i_1 ≤ rl := Nat.not_le.mpr c_9
        have hN_10 : rl + 1 = i_1 := by omega
        subst hN_10
        refine lv_iconst (v := nI (1)) hx hb dX1_isRollWell_40 gc_1 ?_
        exact g_zret (v := nI (1)) hx hb hr hlk rfl dX1_isRollWell_41 (by rw [hv]; rfl)
      · have d_9 : i_1 ≤ rl := Nat.not_lt.mp c_9
        refine lv_aload_n hx hb dX1_isRollWell_13 rfl (lv_at hl 1 rfl) ?_
        refine g_get (v := .ref (A 6)) hx hb hts hown hK hP 0 rfl rfl gu_wsX10 1 (by decide) gm_3_1 rfl dX1_isRollWell_14 ?_
        refine lv_iload_n hx hb dX1_isRollWell_17 rfl (lv_at hl 0 rfl) ?_
        refine rd_calle (va_runV (As := [.int (nI (i_1))]) (rest := []) ⟨hx, hb, hml, hown, hts⟩ (c_X0_rowAt l D cA (fun k => A (k + 6)) (kf) (rw) (cn) (rl) (nI (i_1))  hrl hrw) (cwV 1 hts (gWV gm_50_19 gm_31_12 gm_31_13 gm_3_0 gm_31_14) rfl rfl rfl (by decide +kernel) ⟨Nat.le_of_ble_eq_true rfl, Nat.le_of_ble_eq_true rfl⟩) (gPreV hK (g_rf hK hP (ci := 2) (q0 := 6) rfl rfl) (hP.sub [6, 7, 8, 9, 10, 11, 12, 13, 14, 15] rfl)) rfl rfl hl.1 rfl (lv_room (Nat.le_of_ble_eq_true rfl)) dX1_isRollWell_18 ⟨by omega, by omega⟩) ?_
        refine lv_aload_n hx hb dX1_isRollWell_21 rfl (lv_at hl 1 rfl) ?_
        refine g_get (v := .ref (A 6)) hx hb hts hown hK hP 0 rfl rfl gu_wsX10 1 (by decide) gm_3_1 rfl dX1_isRollWell_22 ?_
        refine lv_iload_n hx hb dX1_isRollWell_25 rfl (lv_at hl 0 rfl) ?_
        refine rd_calle (va_runV (As := [.int (nI (i_1))]) (rest := [.int (oI (if isIx (nI (i_1)) rl = true then some (rw ((nI (i_1))).toNatClampNeg) else none))]) ⟨hx, hb, hml, hown, hts⟩ (c_X0_takenOutAt l D cA (fun k => A (k + 6)) (kf) (rw) (cn) (rl) (nI (i_1))  hcn) (cwV 1 hts (gWV gm_50_20 gm_30_22 gm_30_23 gm_3_0 gm_31_0) rfl rfl rfl (by decide +kernel) ⟨Nat.le_of_ble_eq_true rfl, Nat.le_of_ble_eq_true rfl⟩) (gPreV hK (g_rf hK hP (ci := 2) (q0 := 6) rfl rfl) (hP.sub [6, 7, 8, 9, 10, 11, 12, 13, 14, 15] rfl)) rfl rfl hl.1 rfl (lv_room (Nat.le_of_ble_eq_true rfl)) dX1_isRollWell_26 ⟨by omega, by omega⟩) ?_
        refine g_icmp_eq (P := oI (if isIx (nI (i_1)) rl = true then some (rw ((nI (i_1))).toNatClampNeg) else none) = oI (nthV (fhF kf cn) cn (nI (i_1)))) (tgt := 34) hx hb dX1_isRollWell_29 (by decide) Iff.rfl (fun c_11 => ?_) (fun c_11 => ?_)
        · refine lv_iinc (v := nI (i_1 + 1)) (lv' := [(1, .int (nI (i_1 + 1))), (0, .ref (A 0))]) hx hb dX1_isRollWell_34 hl (k := 0) rfl (inc_1 _) (by decide) rfl (fun ls hl => ?_)
          refine lv_goto (tgt := 2) hx hb dX1_isRollWell_37 (by decide) ?_
          exact ih_6 (i_1 + 1) _ (by omega) (by omega) rfl (fnd_succ_none hv (by simp [c_9, d_9, c_11] <;> omega)) ls (lv_sub hl [0, 1] rfl)
        · refine lv_iconst (v := nI (0)) hx hb dX1_isRollWell_32 gc_0 ?_
          exact g_zret (v := nI (0)) hx hb hr hlk rfl dX1_isRollWell_33 (by rw [fnd_stop hv (by simp [c_9, d_9, c_11] <;> omega) (rl + 1) (by omega)]; rfl)
  exact LP_4 (rl + 1 + 1) 0 _ (by omega) (by omega) rfl rfl ls (lv_sub hl [0, 1] rfl)

set_option maxHeartbeats 1000000 in
set_option maxRecDepth 100000 in
theorem c_X1_areVotesWell (l : Launch) (D : va_G) (cA : Nat → ClassId) (A : Nat → Nat) (jf : Nat → Nat → Int32) (jn : Nat) (kf : Nat → Nat → Int32) (rw : Nat → Nat) (cn rl clk ton : Nat) (sd : Int32) (hjn : jn ≤ 9) (hcn : cn ≤ 10) : Met l yX1_areVotesWell (gw yX1_areVotesWell cX1_areVotesWell 4 (some .boolean)) ({ frames := 2, cells := 0, slots := 0, locals := 50 } : Room) (gPc [.ref (A 0)] (fun H => va_P D vwCl (cw cA A jf jn kf rw cn rl clk ton sd) H) D cA) (rdI (fun r => r = b2i (fnd (fun c => !decide (kf 2 c = 0) && !decide (vdF (jf 0) (jf 1) jn (kf 2 c) (kf 0 c) = vmF (jf 0) (jf 1) jn (kf 2 c) (kf 0 c))) cn).isNone)) 0 0 nF := by
  refine gOf (by decide) (Nat.le_of_ble_eq_true rfl) ?_
  intro p e s m below meth c ls hx hb hml hr hlk hown hts hnm hP hK hl
  have hl : lv_has ls 4 [(0, .ref (A 0))] := hl
  refine lv_iconst (v := nI (0)) hx hb dX1_areVotesWell_0 gc_0 ?_
  refine lv_istore_n (lv' := [(1, .int (nI (0))), (0, .ref (A 0))]) hx hb dX1_areVotesWell_1 rfl hl (by decide) rfl (fun ls hl => ?_)
  have LP_4 : ∀ (n_2 i_1 : Nat) (x_3 : Int32), i_1 ≤ cn → cn + 1 ≤ i_1 + n_2 → x_3 = nI (i_1) → (fnd (fun c => !decide (kf 2 c = 0) && !decide (vdF (jf 0) (jf 1) jn (kf 2 c) (kf 0 c) = vmF (jf 0) (jf 1) jn (kf 2 c) (kf 0 c))) (i_1) = none) → ∀ (ls : Array Slot), lv_has ls 4 [(1, .int (x_3)), (0, .ref (A 0))] → W p l e ({ frames := 2, cells := 0, slots := 0, locals := 50 } : Room) s m ([.ref (A 0)] : List Value).toArray below meth c s.heap [] 0 0 (MQ below (rdI (fun r => r = b2i (fnd (fun c => !decide (kf 2 c = 0) && !decide (vdF (jf 0) (jf 1) jn (kf 2 c) (kf 0 c) = vmF (jf 0) (jf 1) jn (kf 2 c) (kf 0 c))) cn).isNone)) ([.ref (A 0)] : List Value).toArray s 0 0 nF) (F0 m 2 ls []) := by
    intro n_2
    induction n_2 with
    | zero => intro i_1 x_3 h1 h2; exact absurd h2 (by omega)
    | succ n_2 ih_6 =>
      intro i_1 x_3 h_7 h_8 e_5 hv ls hl
      subst e_5
      refine lv_iload_n hx hb dX1_areVotesWell_2 rfl (lv_at hl 0 rfl) ?_
      refine lv_aload_n hx hb dX1_areVotesWell_3 rfl (lv_at hl 1 rfl) ?_
      refine g_get (v := .ref (A 6)) hx hb hts hown hK hP 0 rfl rfl gu_wsX10 1 (by decide) gm_3_1 rfl dX1_areVotesWell_4 ?_
      refine g_get (v := .int (nI (cn))) hx hb hts hown hK hP 6 rfl rfl gu_wsX00 9 (by decide) gm_12_14 rfl dX1_areVotesWell_7 ?_
      refine g_icmp_ge (P := cn ≤ i_1) (tgt := 66) hx hb dX1_areVotesWell_10 (by decide) (nI_leI (by omega) (by omega)) (fun c_9 => ?_) (fun c_9 => ?_)
      · have d_9 : ¬ i_1 < cn := Nat.not_lt.mpr c_9
        have hN_10 : cn = i_1 := by omega
        subst hN_10
        refine lv_iconst (v := nI (1)) hx hb dX1_areVotesWell_66 gc_1 ?_
        exact g_zret (v := nI (1)) hx hb hr hlk rfl dX1_areVotesWell_67 (by rw [hv]; rfl)
      · have d_9 : i_1 < cn := Nat.not_le.mp c_9
        refine lv_aload_n hx hb dX1_areVotesWell_13 rfl (lv_at hl 1 rfl) ?_
        refine g_get (v := .ref (A 6)) hx hb hts hown hK hP 0 rfl rfl gu_wsX10 1 (by decide) gm_3_1 rfl dX1_areVotesWell_14 ?_
        refine g_get (v := .ref (A 9)) hx hb hts hown hK hP 6 rfl rfl gu_wsX00 2 (by decide) gm_12_15 rfl dX1_areVotesWell_17 ?_
        refine lv_iload_n hx hb dX1_areVotesWell_20 rfl (lv_at hl 0 rfl) ?_
        refine g_iald (x := kf 2 (i_1)) hx hb hK hP 9 rfl (by omega) (by decide) rfl dX1_areVotesWell_21 ?_
        refine lv_istore_n (lv' := [(2, .int (kf 2 (i_1))), (1, .int (nI (i_1))), (0, .ref (A 0))]) hx hb dX1_areVotesWell_22 rfl hl (by decide) rfl (fun ls hl => ?_)
        refine lv_aload_n hx hb dX1_areVotesWell_23 rfl (lv_at hl 2 rfl) ?_
        refine g_get (v := .ref (A 6)) hx hb hts hown hK hP 0 rfl rfl gu_wsX10 1 (by decide) gm_3_1 rfl dX1_areVotesWell_24 ?_
        refine g_get (v := .ref (A 7)) hx hb hts hown hK hP 6 rfl rfl gu_wsX00 0 (by decide) gm_16_12 rfl dX1_areVotesWell_27 ?_
        refine lv_iload_n hx hb dX1_areVotesWell_30 rfl (lv_at hl 1 rfl) ?_
        refine g_iald (x := kf 0 (i_1)) hx hb hK hP 7 rfl (by omega) (by decide) rfl dX1_areVotesWell_31 ?_
        refine lv_istore_n (lv' := [(3, .int (kf 0 (i_1))), (2, .int (kf 2 (i_1))), (1, .int (nI (i_1))), (0, .ref (A 0))]) hx hb dX1_areVotesWell_32 rfl hl (by decide) rfl (fun ls hl => ?_)
        refine lv_iload_n hx hb dX1_areVotesWell_33 rfl (lv_at hl 1 rfl) ?_
        refine g_if_eq (P := kf 2 (i_1) = 0) (tgt := 60) hx hb dX1_areVotesWell_34 (by decide) Iff.rfl (fun c_11 => ?_) (fun c_11 => ?_)
        · refine lv_iinc (v := nI (i_1 + 1)) (lv' := [(1, .int (nI (i_1 + 1))), (3, .int (kf 0 (i_1))), (2, .int (kf 2 (i_1))), (0, .ref (A 0))]) hx hb dX1_areVotesWell_60 hl (k := 2) rfl (inc_1 _) (by decide) rfl (fun ls hl => ?_)
          refine lv_goto (tgt := 2) hx hb dX1_areVotesWell_63 (by decide) ?_
          exact ih_6 (i_1 + 1) _ (by omega) (by omega) rfl (fnd_succ_none hv (by simp [c_9, d_9, c_11] <;> omega)) ls (lv_sub hl [0, 3] rfl)
        · refine lv_aload_n hx hb dX1_areVotesWell_37 rfl (lv_at hl 3 rfl) ?_
          refine g_get (v := .ref (A 1)) hx hb hts hown hK hP 0 rfl rfl gu_wsX10 0 (by decide) gm_2_21 rfl dX1_areVotesWell_38 ?_
          refine lv_iload_n hx hb dX1_areVotesWell_41 rfl (lv_at hl 1 rfl) ?_
          refine lv_iload_n hx hb dX1_areVotesWell_42 rfl (lv_at hl 0 rfl) ?_
          refine rd_calle (va_runV (As := [.int (kf 2 (i_1)), .int (kf 0 (i_1))]) (rest := []) ⟨hx, hb, hml, hown, hts⟩ (c_X3_verdictByCount l D cA (fun k => A (k + 1)) (jf) (jn) (kf 2 (i_1)) (kf 0 (i_1))  hjn) (cwV 2 hts (gWV gm_16_15 gm_16_16 gm_16_17 gm_2_5 gm_16_18) rfl rfl rfl (by decide +kernel) ⟨Nat.le_of_ble_eq_true rfl, Nat.le_of_ble_eq_true rfl⟩) (gPreV hK (g_rf hK hP (ci := 5) (q0 := 1) rfl rfl) (hP.sub [1, 2, 3, 4, 5] rfl)) rfl rfl hl.1 rfl (lv_room (Nat.le_of_ble_eq_true rfl)) dX1_areVotesWell_43 ⟨by omega, by omega⟩) ?_
          refine lv_aload_n hx hb dX1_areVotesWell_46 rfl (lv_at hl 3 rfl) ?_
          refine g_get (v := .ref (A 1)) hx hb hts hown hK hP 0 rfl rfl gu_wsX10 0 (by decide) gm_2_21 rfl dX1_areVotesWell_47 ?_
          refine lv_iload_n hx hb dX1_areVotesWell_50 rfl (lv_at hl 1 rfl) ?_
          refine lv_iload_n hx hb dX1_areVotesWell_51 rfl (lv_at hl 0 rfl) ?_
          refine rd_calle (va_runV (As := [.int (kf 2 (i_1)), .int (kf 0 (i_1))]) (rest := [.int (nI (vdF (jf 0) (jf 1) jn (kf 2 (i_1)) (kf 0 (i_1))))]) ⟨hx, hb, hml, hown, hts⟩ (c_X3_verdictOfMiddle l D cA (fun k => A (k + 1)) (jf) (jn) (kf 2 (i_1)) (kf 0 (i_1))  hjn) (cwV 2 hts (gWV gm_51_1 gm_27_8 gm_27_9 gm_2_5 gm_27_10) rfl rfl rfl (by decide +kernel) ⟨Nat.le_of_ble_eq_true rfl, Nat.le_of_ble_eq_true rfl⟩) (gPreV hK (g_rf hK hP (ci := 5) (q0 := 1) rfl rfl) (hP.sub [1, 2, 3, 4, 5] rfl)) rfl rfl hl.1 rfl (lv_room (Nat.le_of_ble_eq_true rfl)) dX1_areVotesWell_52 ⟨by omega, by omega⟩) ?_
          have hle_12 := vdF_le (jf 0) (jf 1) jn (kf 2 (i_1)) (kf 0 (i_1))
          have hle_13 := vmF_le (l := jf 0) (d := jf 1) (jn := jn) (panel := kf 2 (i_1)) (merit := kf 0 (i_1))
          refine g_icmp_eq (P := vdF (jf 0) (jf 1) jn (kf 2 (i_1)) (kf 0 (i_1)) = vmF (jf 0) (jf 1) jn (kf 2 (i_1)) (kf 0 (i_1))) (tgt := 60) hx hb dX1_areVotesWell_55 (by decide) (nI_eq (by omega) (by omega)) (fun c_14 => ?_) (fun c_14 => ?_)
          · refine lv_iinc (v := nI (i_1 + 1)) (lv' := [(1, .int (nI (i_1 + 1))), (3, .int (kf 0 (i_1))), (2, .int (kf 2 (i_1))), (0, .ref (A 0))]) hx hb dX1_areVotesWell_60 hl (k := 2) rfl (inc_1 _) (by decide) rfl (fun ls hl => ?_)
            refine lv_goto (tgt := 2) hx hb dX1_areVotesWell_63 (by decide) ?_
            exact ih_6 (i_1 + 1) _ (by omega) (by omega) rfl (fnd_succ_none hv (by simp [c_9, d_9, c_11, c_14] <;> omega)) ls (lv_sub hl [0, 3] rfl)
          · refine lv_iconst (v := nI (0)) hx hb dX1_areVotesWell_58 gc_0 ?_
            exact g_zret (v := nI (0)) hx hb hr hlk rfl dX1_areVotesWell_59 (by rw [fnd_stop hv (by simp [c_9, d_9, c_11, c_14] <;> omega) (cn) (by omega)]; rfl)
  exact LP_4 (cn + 1) 0 _ (by omega) (by omega) rfl rfl ls (lv_sub hl [0, 1] rfl)

set_option maxHeartbeats 1000000 in
set_option maxRecDepth 100000 in
theorem c_X1_areVerdictsWell (l : Launch) (D : va_G) (cA : Nat → ClassId) (A : Nat → Nat) (jf : Nat → Nat → Int32) (jn : Nat) (kf : Nat → Nat → Int32) (rw : Nat → Nat) (cn rl clk ton : Nat) (sd : Int32) (hcn : cn ≤ 10) : Met l yX1_areVerdictsWell (gw yX1_areVerdictsWell cX1_areVerdictsWell 2 (some .boolean)) ({ frames := 2, cells := 0, slots := 0, locals := 43 } : Room) (gPc [.ref (A 0)] (fun H => va_P D vwCl (cw cA A jf jn kf rw cn rl clk ton sd) H) D cA) (rdI (fun r => r = b2i (fnd (fun c => rpF kf c (nI ton)) cn).isNone)) 0 0 nF := by
  refine gOf (by decide) (Nat.le_of_ble_eq_true rfl) ?_
  intro p e s m below meth c ls hx hb hml hr hlk hown hts hnm hP hK hl
  have hl : lv_has ls 2 [(0, .ref (A 0))] := hl
  refine lv_iconst (v := nI (0)) hx hb dX1_areVerdictsWell_0 gc_0 ?_
  refine lv_istore_n (lv' := [(1, .int (nI (0))), (0, .ref (A 0))]) hx hb dX1_areVerdictsWell_1 rfl hl (by decide) rfl (fun ls hl => ?_)
  have LP_4 : ∀ (n_2 i_1 : Nat) (x_3 : Int32), i_1 ≤ cn → cn + 1 ≤ i_1 + n_2 → x_3 = nI (i_1) → (fnd (fun c => rpF kf c (nI ton)) (i_1) = none) → ∀ (ls : Array Slot), lv_has ls 2 [(1, .int (x_3)), (0, .ref (A 0))] → W p l e ({ frames := 2, cells := 0, slots := 0, locals := 43 } : Room) s m ([.ref (A 0)] : List Value).toArray below meth c s.heap [] 0 0 (MQ below (rdI (fun r => r = b2i (fnd (fun c => rpF kf c (nI ton)) cn).isNone)) ([.ref (A 0)] : List Value).toArray s 0 0 nF) (F0 m 2 ls []) := by
    intro n_2
    induction n_2 with
    | zero => intro i_1 x_3 h1 h2; exact absurd h2 (by omega)
    | succ n_2 ih_6 =>
      intro i_1 x_3 h_7 h_8 e_5 hv ls hl
      subst e_5
      refine lv_iload_n hx hb dX1_areVerdictsWell_2 rfl (lv_at hl 0 rfl) ?_
      refine lv_aload_n hx hb dX1_areVerdictsWell_3 rfl (lv_at hl 1 rfl) ?_
      refine g_get (v := .ref (A 6)) hx hb hts hown hK hP 0 rfl rfl gu_wsX10 1 (by decide) gm_3_1 rfl dX1_areVerdictsWell_4 ?_
      refine g_get (v := .int (nI (cn))) hx hb hts hown hK hP 6 rfl rfl gu_wsX00 9 (by decide) gm_12_14 rfl dX1_areVerdictsWell_7 ?_
      refine g_icmp_ge (P := cn ≤ i_1) (tgt := 36) hx hb dX1_areVerdictsWell_10 (by decide) (nI_leI (by omega) (by omega)) (fun c_9 => ?_) (fun c_9 => ?_)
      · have d_9 : ¬ i_1 < cn := Nat.not_lt.mpr c_9
        have hN_10 : cn = i_1 := by omega
        subst hN_10
        refine lv_iconst (v := nI (1)) hx hb dX1_areVerdictsWell_36 gc_1 ?_
        exact g_zret (v := nI (1)) hx hb hr hlk rfl dX1_areVerdictsWell_37 (by rw [hv]; rfl)
      · have d_9 : i_1 < cn := Nat.not_le.mp c_9
        refine lv_aload_n hx hb dX1_areVerdictsWell_13 rfl (lv_at hl 1 rfl) ?_
        refine g_get (v := .ref (A 6)) hx hb hts hown hK hP 0 rfl rfl gu_wsX10 1 (by decide) gm_3_1 rfl dX1_areVerdictsWell_14 ?_
        refine lv_iload_n hx hb dX1_areVerdictsWell_17 rfl (lv_at hl 0 rfl) ?_
        refine lv_aload_n hx hb dX1_areVerdictsWell_18 rfl (lv_at hl 1 rfl) ?_
        refine g_get (v := .int (nI (ton))) hx hb hts hown hK hP 0 rfl rfl gu_wsX10 3 (by decide) gm_3_3 rfl dX1_areVerdictsWell_19 ?_
        refine rd_calle (va_runV (As := [.int (nI (i_1)), .int (nI (ton))]) (rest := []) ⟨hx, hb, hml, hown, hts⟩ (c_X0_isRipe l D cA (fun k => A (k + 6)) (kf) (rw) (cn) (rl) (i_1) (nI (ton))  (by omega)) (cwV 2 hts (gWV gm_51_6 gm_23_9 gm_23_10 gm_3_0 gm_23_11) rfl rfl rfl (by decide +kernel) ⟨Nat.le_of_ble_eq_true rfl, Nat.le_of_ble_eq_true rfl⟩) (gPreV hK (g_rf hK hP (ci := 2) (q0 := 6) rfl rfl) (hP.sub [6, 7, 8, 9, 10, 11, 12, 13, 14, 15] rfl)) rfl rfl hl.1 rfl (lv_room (Nat.le_of_ble_eq_true rfl)) dX1_areVerdictsWell_22 ⟨by omega, by omega⟩) ?_
        refine g_if_eq (P := rpF kf (i_1) (nI (ton)) = false) (tgt := 30) hx hb dX1_areVerdictsWell_25 (by decide) b2i_0 (fun c_11 => ?_) (fun c_11 => ?_)
        · refine lv_iinc (v := nI (i_1 + 1)) (lv' := [(1, .int (nI (i_1 + 1))), (0, .ref (A 0))]) hx hb dX1_areVerdictsWell_30 hl (k := 0) rfl (inc_1 _) (by decide) rfl (fun ls hl => ?_)
          refine lv_goto (tgt := 2) hx hb dX1_areVerdictsWell_33 (by decide) ?_
          exact ih_6 (i_1 + 1) _ (by omega) (by omega) rfl (fnd_succ_none hv (by simp [c_9, d_9, c_11] <;> omega)) ls (lv_sub hl [0, 1] rfl)
        · have c_11 : rpF kf (i_1) (nI (ton)) = true := eq_true_of_ne_false c_11
          refine lv_iconst (v := nI (0)) hx hb dX1_areVerdictsWell_28 gc_0 ?_
          exact g_zret (v := nI (0)) hx hb hr hlk rfl dX1_areVerdictsWell_29 (by rw [fnd_stop hv (by simp [c_9, d_9, c_11] <;> omega) (cn) (by omega)]; rfl)
  exact LP_4 (cn + 1) 0 _ (by omega) (by omega) rfl rfl ls (lv_sub hl [0, 1] rfl)

theorem dec_1 {a : Nat} (h : 1 ≤ a) : nI a + Int32.ofInt (-1) = nI (a - 1) := by
  have e : Int32.ofInt (-1) = -(nI 1) := by decide +kernel
  rw [e, ← Int32.sub_eq_add_neg, pk_sub h]
theorem opC_n1 {b : Bool} (h : ¬ opC b = 1) : b = false := by cases b with
  | true => exact absurd rfl h
  | false => rfl
def mvF (merit l d : Int32) : Int32 := if forB merit l d = true then l - nI 1 else l + nI 1
def toS (panel merit : Int32) (d l0 : Nat → Int32) : Nat → Nat × (Nat → Int32)
  | 0 => (0, l0)
  | k + 1 => if hs panel k = true then (if mvF merit ((toS panel merit d l0 k).2 k) (d k) < -9 then toS panel merit d l0 k else if nI 9 < mvF merit ((toS panel merit d l0 k).2 k) (d k) then toS panel merit d l0 k else ((toS panel merit d l0 k).1 + 1, upd (toS panel merit d l0 k).2 k (mvF merit ((toS panel merit d l0 k).2 k) (d k)))) else toS panel merit d l0 k
theorem toS_no {panel merit : Int32} {d l0 : Nat → Int32} {k : Nat} (h : hs panel k = false) : toS panel merit d l0 (k + 1) = toS panel merit d l0 k := by rw [toS, if_neg (bnt h)]
theorem toS_lo {panel merit : Int32} {d l0 : Nat → Int32} {k : Nat} {v : Int32} (h : hs panel k = true) (e : mvF merit ((toS panel merit d l0 k).2 k) (d k) = v) (h2 : v < -9) : toS panel merit d l0 (k + 1) = toS panel merit d l0 k := by rw [toS, if_pos h, e, if_pos h2]
theorem toS_hi {panel merit : Int32} {d l0 : Nat → Int32} {k : Nat} {v : Int32} (h : hs panel k = true) (e : mvF merit ((toS panel merit d l0 k).2 k) (d k) = v) (h2 : ¬ v < -9) (h3 : nI 9 < v) : toS panel merit d l0 (k + 1) = toS panel merit d l0 k := by rw [toS, if_pos h, e, if_neg h2, if_pos h3]
theorem toS_up {panel merit : Int32} {d l0 : Nat → Int32} {k : Nat} {v : Int32} (h : hs panel k = true) (e : mvF merit ((toS panel merit d l0 k).2 k) (d k) = v) (h2 : ¬ v < -9) (h3 : ¬ nI 9 < v) : toS panel merit d l0 (k + 1) = ((toS panel merit d l0 k).1 + 1, upd (toS panel merit d l0 k).2 k v) := by rw [toS, if_pos h, e, if_neg h2, if_neg h3]
theorem toS_n {panel merit : Int32} {d l0 : Nat → Int32} : ∀ k, (toS panel merit d l0 k).1 ≤ k
  | 0 => Nat.le_refl 0
  | k + 1 => by
    have ih := toS_n (panel := panel) (merit := merit) (d := d) (l0 := l0) k
    unfold toS
    split
    · split
      · omega
      · split
        · omega
        · show _ + 1 ≤ k + 1; omega
    · omega
theorem mvF_t {merit l d : Int32} (h : forB merit l d = true) : mvF merit l d = l - nI 1 := by rw [mvF, if_pos h]
theorem mvF_f {merit l d : Int32} (h : forB merit l d = false) : mvF merit l d = l + nI 1 := by rw [mvF, if_neg (bnt h)]
abbrev T3 : Type := (Nat → Int32) × ((Nat → Int32) × (Nat → Int32))
def tvU (out : Bool) (z : T3) (k : Nat) : T3 := (upd z.1 k (if out = true then (if nI 9 < z.1 k + nI 1 then nI 9 else z.1 k + nI 1) else (if z.1 k - nI 1 < nI 0 then nI 0 else z.1 k - nI 1)), (upd z.2.1 k (z.2.1 k + nI 1), upd z.2.2 k (z.2.2 k + (if out = true then nI 1 else nI 0))))
def tvS (panel merit : Int32) (vd : Nat) (l : Nat → Int32) (z0 : T3) : Nat → T3
  | 0 => z0
  | k + 1 => if hs panel k = true then tvU (!decide (opC (forB merit (l k) ((tvS panel merit vd l z0 k).1 k)) = vd)) (tvS panel merit vd l z0 k) k else tvS panel merit vd l z0 k
theorem tvS_no {panel merit : Int32} {vd : Nat} {l : Nat → Int32} {z0 : T3} {k : Nat} (h : hs panel k = false) : tvS panel merit vd l z0 (k + 1) = tvS panel merit vd l z0 k := by rw [tvS, if_neg (bnt h)]
theorem tvS_in {panel merit : Int32} {vd : Nat} {l : Nat → Int32} {z0 : T3} {k : Nat} (h : hs panel k = true) (e : opC (forB merit (l k) ((tvS panel merit vd l z0 k).1 k)) = vd) : tvS panel merit vd l z0 (k + 1) = tvU false (tvS panel merit vd l z0 k) k := by rw [tvS, if_pos h, decide_eq_true e]; rfl
theorem tvS_out {panel merit : Int32} {vd : Nat} {l : Nat → Int32} {z0 : T3} {k : Nat} (h : hs panel k = true) (e : ¬ opC (forB merit (l k) ((tvS panel merit vd l z0 k).1 k)) = vd) : tvS panel merit vd l z0 (k + 1) = tvU true (tvS panel merit vd l z0 k) k := by rw [tvS, if_pos h, decide_eq_false e]; rfl
abbrev Q4 : Type := (Nat → Int32) × T3
def ttL (jn : Nat) (panel merit : Int32) (z : Q4) : Nat → Int32 := (toS panel merit z.2.1 z.1 jn).2
def ttV (jn : Nat) (panel merit : Int32) (z : Q4) : Nat := vdF (ttL jn panel merit z) z.2.1 jn panel merit
def ttS (jn : Nat) (panel merit : Int32) (z0 : Q4) : Nat → Q4
  | 0 => z0
  | 1 => z0
  | k + 2 => (ttL jn panel merit (ttS jn panel merit z0 (k + 1)), tvS panel merit (ttV jn panel merit (ttS jn panel merit z0 (k + 1))) (ttL jn panel merit (ttS jn panel merit z0 (k + 1))) (ttS jn panel merit z0 (k + 1)).2 jn)
theorem ttS_s {jn : Nat} {panel merit : Int32} {z0 : Q4} : ∀ {i : Nat}, 1 ≤ i → ttS jn panel merit z0 (i + 1) = (ttL jn panel merit (ttS jn panel merit z0 i), tvS panel merit (ttV jn panel merit (ttS jn panel merit z0 i)) (ttL jn panel merit (ttS jn panel merit z0 i)) (ttS jn panel merit z0 i).2 jn)
  | 0, h => absurd h (by decide)
  | _ + 1, _ => rfl
def ttQ (jn : Nat) (panel merit : Int32) (z0 : Q4) (k : Nat) : Bool := decide (0 < k) && !decide (ttV jn panel merit (ttS jn panel merit z0 k) = vdF z0.1 z0.2.1 jn panel merit)
theorem ttQ_t {jn : Nat} {panel merit : Int32} {z0 : Q4} {i : Nat} (h : 1 ≤ i) (c : ¬ ttV jn panel merit (ttS jn panel merit z0 i) = vdF z0.1 z0.2.1 jn panel merit) : ttQ jn panel merit z0 i = true := by
  rw [ttQ, decide_eq_true (show 0 < i from h), decide_eq_false c]; rfl
theorem ttQ_f {jn : Nat} {panel merit : Int32} {z0 : Q4} {i : Nat} (c : ttV jn panel merit (ttS jn panel merit z0 i) = vdF z0.1 z0.2.1 jn panel merit) : ttQ jn panel merit z0 i = false := by
  rw [ttQ, decide_eq_true c]; simp
def ttF (jn : Nat) (panel merit : Int32) (z0 : Q4) : Nat := (fnd (ttQ jn panel merit z0) 41).getD 0
def crS (kf : Nat → Nat → Int32) (night : Int32) : Nat → (Nat → Int32)
  | 0 => kf 5
  | k + 1 => if rpF (va_up kf 5 (crS kf night k)) k night = true then upd (crS kf night k) k night else crS kf night k
def enS (rw : Nat → Nat) (rl : Nat) : Nat → (Nat → Nat)
  | 0 => rw
  | t + 1 => updN (enS rw rl t) (rl - t) (enS rw rl t (rl - t - 1))
theorem enS_lo {rw : Nat → Nat} {rl j : Nat} : ∀ t, t ≤ rl → j ≤ rl - t → enS rw rl t j = rw j
  | 0, _, _ => rfl
  | t + 1, h, hj => by
    show updN (enS rw rl t) (rl - t) _ j = _
    rw [updN, if_neg (by omega), enS_lo t (by omega) (by omega)]
def enT (kf : Nat → Nat → Int32) (rw : Nat → Nat) (rl q : Nat) : Nat := (fnd (fun t => !cbF kf q (rw (rl - t - 1))) rl).getD rl
def enO (kf : Nat → Nat → Int32) (rw : Nat → Nat) (rl q : Nat) : Nat → Nat := updN (enS rw rl (enT kf rw rl q)) (rl - enT kf rw rl q) q
def stS (rw : Nat → Nat) (p : Nat) : Nat → (Nat → Nat)
  | 0 => rw
  | t + 1 => updN (stS rw p t) (p + t) (stS rw p t (p + t + 1))
def stO (rw : Nat → Nat) (rl q : Nat) : (Nat → Nat) × Nat := match fnd (fun j => decide (rw j = q)) rl with
  | none => (rw, rl)
  | some p => (stS rw p (rl - 1 - p), rl - 1)
theorem stO_none {rw : Nat → Nat} {rl q : Nat} (h : fnd (fun j => decide (rw j = q)) rl = none) : stO rw rl q = (rw, rl) := by rw [stO, h]
theorem stO_some {rw : Nat → Nat} {rl q p : Nat} (h : fnd (fun j => decide (rw j = q)) rl = some p) : stO rw rl q = (stS rw p (rl - 1 - p), rl - 1) := by rw [stO, h]
theorem updN_lt {f : Nat → Nat} {k v j n : Nat} (h : f j < n) (hv : v < n) : updN f k v j < n := by unfold updN; split <;> assumption
theorem stS_lt {rw : Nat → Nat} {p n m : Nat} (h : ∀ j, j < m → rw j < n) : ∀ t, p + t < m → ∀ j, j < m → stS rw p t j < n
  | 0, _, j, hj => h j hj
  | t + 1, ht, j, hj => updN_lt (stS_lt h t (by omega) j hj) (stS_lt h t (by omega) _ (by omega))

set_option maxHeartbeats 1000000 in
set_option maxRecDepth 100000 in
theorem c_X3_add (l : Launch) (D : va_G) (cA : Nat → ClassId) (J : Nat → Nat) (jf : Nat → Nat → Int32) (jn : Nat) (a b : Int32) (hA : aInj 5 J) (hj9 : jn < 9) : Met l yX3_add (gw yX3_add cX3_add 4 (some .int)) ({ frames := 0, cells := 0, slots := 0, locals := 0 } : Room) (gPc [.ref (J 0), .int (a), .int (b)] (fun H => va_P D vwCl (jw cA J (jf) (jn)) H) D cA) (wrI (fun r H => r = nI jn ∧ va_P D vwCl (jw cA J (va_up (va_up (va_up (va_up (jf) 0 (upd (jf 0) jn a)) 1 (upd (jf 1) jn b)) 2 (upd (jf 2) jn (nI 0))) 3 (upd (jf 3) jn (nI 0))) (jn + 1)) H) (aS 5 J)) 0 0 (aS 5 J) := by
  refine gOf (by decide) (Nat.le_of_ble_eq_true rfl) ?_
  intro p e s m below meth c ls hx hb hml hr hlk hown hts hnm hP hK hl
  have hl : lv_has ls 4 [(0, .ref (J 0)), (1, .int (a)), (2, .int (b))] := hl
  have hD : va_D (aS 5 J) (jw cA J (jf) (jn)) := jwD hA
  have hS : va_S (aS 5 J) s.heap s.heap [] := va_S.rf
  refine lv_aload_n hx hb dX3_add_0 rfl (lv_at hl 0 rfl) ?_
  refine g_get (v := .int (nI (jn))) hx hb hts hown hK hP 0 rfl rfl gu_wsX30 4 (by decide) gm_3_13 rfl dX3_add_1 ?_
  refine lv_bipush (v := nI (9)) hx hb dX3_add_4 gb_9 ?_
  refine g_icmp_lt (P := jn < 9) (tgt := 11) hx hb dX3_add_6 (by decide) (nI_ltI (by omega) (by omega)) (fun c_1 => ?_) (fun c_1 => ?_)
  · have d_1 : ¬ 9 ≤ jn := Nat.not_le.mpr c_1
    refine lv_aload_n hx hb dX3_add_11 rfl (lv_at hl 0 rfl) ?_
    refine g_get (v := .int (nI (jn))) hx hb hts hown hK hP 0 rfl rfl gu_wsX30 4 (by decide) gm_3_13 rfl dX3_add_12 ?_
    refine lv_istore_n (lv' := [(3, .int (nI (jn))), (0, .ref (J 0)), (1, .int (a)), (2, .int (b))]) hx hb dX3_add_15 rfl hl (by decide) rfl (fun ls hl => ?_)
    refine lv_aload_n hx hb dX3_add_16 rfl (lv_at hl 1 rfl) ?_
    refine g_get (v := .ref (J 1)) hx hb hts hown hK hP 0 rfl rfl gu_wsX30 0 (by decide) gm_3_9 rfl dX3_add_17 ?_
    refine lv_iload_n hx hb dX3_add_20 rfl (lv_at hl 0 rfl) ?_
    refine lv_iload_n hx hb dX3_add_21 rfl (lv_at hl 2 rfl) ?_
    refine g_iast (ws' := jw cA J (va_up (jf) 0 (upd (jf 0) (jn) (a))) (jn)) hx hb hK hP hD hS 1 rfl (by omega) (by decide) (by first | rfl | (rw [updN_nI]; rfl)) dX3_add_22 (fun H locs hP hD hS => ?_)
    refine lv_aload_n hx hb dX3_add_23 rfl (lv_at hl 1 rfl) ?_
    refine g_get (v := .ref (J 2)) hx hb hts hown hK hP 0 rfl rfl gu_wsX30 1 (by decide) gm_3_10 rfl dX3_add_24 ?_
    refine lv_iload_n hx hb dX3_add_27 rfl (lv_at hl 0 rfl) ?_
    refine lv_iload_n hx hb dX3_add_28 rfl (lv_at hl 3 rfl) ?_
    refine g_iast (ws' := jw cA J (va_up (va_up (jf) 0 (upd (jf 0) (jn) (a))) 1 (upd (jf 1) (jn) (b))) (jn)) hx hb hK hP hD hS 2 rfl (by omega) (by decide) (by first | rfl | (rw [updN_nI]; rfl)) dX3_add_29 (fun H locs hP hD hS => ?_)
    refine lv_aload_n hx hb dX3_add_30 rfl (lv_at hl 1 rfl) ?_
    refine g_get (v := .ref (J 3)) hx hb hts hown hK hP 0 rfl rfl gu_wsX30 2 (by decide) gm_3_11 rfl dX3_add_31 ?_
    refine lv_iload_n hx hb dX3_add_34 rfl (lv_at hl 0 rfl) ?_
    refine lv_iconst (v := nI (0)) hx hb dX3_add_35 gc_0 ?_
    refine g_iast (ws' := jw cA J (va_up (va_up (va_up (jf) 0 (upd (jf 0) (jn) (a))) 1 (upd (jf 1) (jn) (b))) 2 (upd (jf 2) (jn) (nI (0)))) (jn)) hx hb hK hP hD hS 3 rfl (by omega) (by decide) (by first | rfl | (rw [updN_nI]; rfl)) dX3_add_36 (fun H locs hP hD hS => ?_)
    refine lv_aload_n hx hb dX3_add_37 rfl (lv_at hl 1 rfl) ?_
    refine g_get (v := .ref (J 4)) hx hb hts hown hK hP 0 rfl rfl gu_wsX30 3 (by decide) gm_3_12 rfl dX3_add_38 ?_
    refine lv_iload_n hx hb dX3_add_41 rfl (lv_at hl 0 rfl) ?_
    refine lv_iconst (v := nI (0)) hx hb dX3_add_42 gc_0 ?_
    refine g_iast (ws' := jw cA J (va_up (va_up (va_up (va_up (jf) 0 (upd (jf 0) (jn) (a))) 1 (upd (jf 1) (jn) (b))) 2 (upd (jf 2) (jn) (nI (0)))) 3 (upd (jf 3) (jn) (nI (0)))) (jn)) hx hb hK hP hD hS 4 rfl (by omega) (by decide) (by first | rfl | (rw [updN_nI]; rfl)) dX3_add_43 (fun H locs hP hD hS => ?_)
    refine lv_aload_n hx hb dX3_add_44 rfl (lv_at hl 1 rfl) ?_
    refine lv_dup hx hb dX3_add_45 rfl ?_
    refine g_get (v := .int (nI (jn))) hx hb hts hown hK hP 0 rfl rfl gu_wsX30 4 (by decide) gm_3_13 rfl dX3_add_46 ?_
    refine lv_iconst (v := nI (1)) hx hb dX3_add_49 gc_1 ?_
    refine g_iadd hx hb dX3_add_50 ?_
    refine g_put (ws' := jw cA J (va_up (va_up (va_up (va_up (jf) 0 (upd (jf 0) (jn) (a))) 1 (upd (jf 1) (jn) (b))) 2 (upd (jf 2) (jn) (nI (0)))) 3 (upd (jf 3) (jn) (nI (0)))) (jn + 1)) hx hb hts hown hK hP hD hS 0 rfl rfl gu_wsX30 tyX3_ok nmX3 4 (by decide) gm_3_13 rfl rfl rfl (Nat.le_of_ble_eq_true rfl) (by first | rfl | (rw [updN_nI]; rfl)) dX3_add_51 (fun H locs hP hD hS => ?_)
    refine lv_iload_n hx hb dX3_add_54 rfl (lv_at hl 0 rfl) ?_
    exact g_iretW (v := nI (jn)) hx hb hr hlk hS dX3_add_55 (⟨rfl, hP⟩)
  · have d_1 : 9 ≤ jn := Nat.not_lt.mp c_1
    exact absurd c_1 (by omega)

set_option maxHeartbeats 1000000 in
set_option maxRecDepth 100000 in
theorem c_X0_add (l : Launch) (D : va_G) (cA : Nat → ClassId) (K : Nat → Nat) (kf : Nat → Nat → Int32) (rw : Nat → Nat) (cn rl : Nat) (a b : Int32) (hA : aInj 10 K) (hc9 : cn < 10) : Met l yX0_add (gw yX0_add cX0_add 4 (some .int)) ({ frames := 0, cells := 0, slots := 0, locals := 0 } : Room) (gPc [.ref (K 0), .int (a), .int (b)] (fun H => va_P D vwCl (kw cA K (kf) (rw) (cn) (rl)) H) D cA) (wrI (fun r H => r = nI cn ∧ va_P D vwCl (kw cA K (va_up (va_up (va_up (va_up (va_up (va_up (va_up (va_up (kf) 0 (upd (kf 0) cn a)) 1 (upd (kf 1) cn b)) 2 (upd (kf 2) cn (nI 0))) 3 (upd (kf 3) cn (nI 0))) 4 (upd (kf 4) cn (-1))) 5 (upd (kf 5) cn (-1))) 6 (upd (kf 6) cn (nI 0))) 7 (upd (kf 7) cn (nI 0))) rw (cn + 1) rl) H) (aS 10 K)) 0 0 (aS 10 K) := by
  refine gOf (by decide) (Nat.le_of_ble_eq_true rfl) ?_
  intro p e s m below meth c ls hx hb hml hr hlk hown hts hnm hP hK hl
  have hl : lv_has ls 4 [(0, .ref (K 0)), (1, .int (a)), (2, .int (b))] := hl
  have hD : va_D (aS 10 K) (kw cA K (kf) (rw) (cn) (rl)) := kwD hA
  have hS : va_S (aS 10 K) s.heap s.heap [] := va_S.rf
  refine lv_aload_n hx hb dX0_add_0 rfl (lv_at hl 0 rfl) ?_
  refine g_get (v := .int (nI (cn))) hx hb hts hown hK hP 0 rfl rfl gu_wsX00 9 (by decide) gm_4_2 rfl dX0_add_1 ?_
  refine lv_bipush (v := nI (10)) hx hb dX0_add_4 gb_10 ?_
  refine g_icmp_lt (P := cn < 10) (tgt := 11) hx hb dX0_add_6 (by decide) (nI_ltI (by omega) (by omega)) (fun c_1 => ?_) (fun c_1 => ?_)
  · have d_1 : ¬ 10 ≤ cn := Nat.not_le.mpr c_1
    refine lv_aload_n hx hb dX0_add_11 rfl (lv_at hl 0 rfl) ?_
    refine g_get (v := .int (nI (cn))) hx hb hts hown hK hP 0 rfl rfl gu_wsX00 9 (by decide) gm_4_2 rfl dX0_add_12 ?_
    refine lv_istore_n (lv' := [(3, .int (nI (cn))), (0, .ref (K 0)), (1, .int (a)), (2, .int (b))]) hx hb dX0_add_15 rfl hl (by decide) rfl (fun ls hl => ?_)
    refine lv_aload_n hx hb dX0_add_16 rfl (lv_at hl 1 rfl) ?_
    refine g_get (v := .ref (K 1)) hx hb hts hown hK hP 0 rfl rfl gu_wsX00 0 (by decide) gm_3_17 rfl dX0_add_17 ?_
    refine lv_iload_n hx hb dX0_add_20 rfl (lv_at hl 0 rfl) ?_
    refine lv_iload_n hx hb dX0_add_21 rfl (lv_at hl 2 rfl) ?_
    refine g_iast (ws' := kw cA K (va_up (kf) 0 (upd (kf 0) (cn) (a))) (rw) (cn) (rl)) hx hb hK hP hD hS 1 rfl (by omega) (by decide) (by first | rfl | (rw [updN_nI]; rfl)) dX0_add_22 (fun H locs hP hD hS => ?_)
    refine lv_aload_n hx hb dX0_add_23 rfl (lv_at hl 1 rfl) ?_
    refine g_get (v := .ref (K 2)) hx hb hts hown hK hP 0 rfl rfl gu_wsX00 1 (by decide) gm_3_18 rfl dX0_add_24 ?_
    refine lv_iload_n hx hb dX0_add_27 rfl (lv_at hl 0 rfl) ?_
    refine lv_iload_n hx hb dX0_add_28 rfl (lv_at hl 3 rfl) ?_
    refine g_iast (ws' := kw cA K (va_up (va_up (kf) 0 (upd (kf 0) (cn) (a))) 1 (upd (kf 1) (cn) (b))) (rw) (cn) (rl)) hx hb hK hP hD hS 2 rfl (by omega) (by decide) (by first | rfl | (rw [updN_nI]; rfl)) dX0_add_29 (fun H locs hP hD hS => ?_)
    refine lv_aload_n hx hb dX0_add_30 rfl (lv_at hl 1 rfl) ?_
    refine g_get (v := .ref (K 3)) hx hb hts hown hK hP 0 rfl rfl gu_wsX00 2 (by decide) gm_3_19 rfl dX0_add_31 ?_
    refine lv_iload_n hx hb dX0_add_34 rfl (lv_at hl 0 rfl) ?_
    refine lv_iconst (v := nI (0)) hx hb dX0_add_35 gc_0 ?_
    refine g_iast (ws' := kw cA K (va_up (va_up (va_up (kf) 0 (upd (kf 0) (cn) (a))) 1 (upd (kf 1) (cn) (b))) 2 (upd (kf 2) (cn) (nI (0)))) (rw) (cn) (rl)) hx hb hK hP hD hS 3 rfl (by omega) (by decide) (by first | rfl | (rw [updN_nI]; rfl)) dX0_add_36 (fun H locs hP hD hS => ?_)
    refine lv_aload_n hx hb dX0_add_37 rfl (lv_at hl 1 rfl) ?_
    refine g_get (v := .ref (K 4)) hx hb hts hown hK hP 0 rfl rfl gu_wsX00 3 (by decide) gm_3_20 rfl dX0_add_38 ?_
    refine lv_iload_n hx hb dX0_add_41 rfl (lv_at hl 0 rfl) ?_
    refine lv_iconst (v := nI (0)) hx hb dX0_add_42 gc_0 ?_
    refine g_iast (ws' := kw cA K (va_up (va_up (va_up (va_up (kf) 0 (upd (kf 0) (cn) (a))) 1 (upd (kf 1) (cn) (b))) 2 (upd (kf 2) (cn) (nI (0)))) 3 (upd (kf 3) (cn) (nI (0)))) (rw) (cn) (rl)) hx hb hK hP hD hS 4 rfl (by omega) (by decide) (by first | rfl | (rw [updN_nI]; rfl)) dX0_add_43 (fun H locs hP hD hS => ?_)
    refine lv_aload_n hx hb dX0_add_44 rfl (lv_at hl 1 rfl) ?_
    refine g_get (v := .ref (K 5)) hx hb hts hown hK hP 0 rfl rfl gu_wsX00 4 (by decide) gm_3_21 rfl dX0_add_45 ?_
    refine lv_iload_n hx hb dX0_add_48 rfl (lv_at hl 0 rfl) ?_
    refine lv_iconst (v := -1) hx hb dX0_add_49 gc_m1 ?_
    refine g_iast (ws' := kw cA K (va_up (va_up (va_up (va_up (va_up (kf) 0 (upd (kf 0) (cn) (a))) 1 (upd (kf 1) (cn) (b))) 2 (upd (kf 2) (cn) (nI (0)))) 3 (upd (kf 3) (cn) (nI (0)))) 4 (upd (kf 4) (cn) (-1))) (rw) (cn) (rl)) hx hb hK hP hD hS 5 rfl (by omega) (by decide) (by first | rfl | (rw [updN_nI]; rfl)) dX0_add_50 (fun H locs hP hD hS => ?_)
    refine lv_aload_n hx hb dX0_add_51 rfl (lv_at hl 1 rfl) ?_
    refine g_get (v := .ref (K 6)) hx hb hts hown hK hP 0 rfl rfl gu_wsX00 5 (by decide) gm_3_22 rfl dX0_add_52 ?_
    refine lv_iload_n hx hb dX0_add_55 rfl (lv_at hl 0 rfl) ?_
    refine lv_iconst (v := -1) hx hb dX0_add_56 gc_m1 ?_
    refine g_iast (ws' := kw cA K (va_up (va_up (va_up (va_up (va_up (va_up (kf) 0 (upd (kf 0) (cn) (a))) 1 (upd (kf 1) (cn) (b))) 2 (upd (kf 2) (cn) (nI (0)))) 3 (upd (kf 3) (cn) (nI (0)))) 4 (upd (kf 4) (cn) (-1))) 5 (upd (kf 5) (cn) (-1))) (rw) (cn) (rl)) hx hb hK hP hD hS 6 rfl (by omega) (by decide) (by first | rfl | (rw [updN_nI]; rfl)) dX0_add_57 (fun H locs hP hD hS => ?_)
    refine lv_aload_n hx hb dX0_add_58 rfl (lv_at hl 1 rfl) ?_
    refine g_get (v := .ref (K 7)) hx hb hts hown hK hP 0 rfl rfl gu_wsX00 6 (by decide) gm_3_23 rfl dX0_add_59 ?_
    refine lv_iload_n hx hb dX0_add_62 rfl (lv_at hl 0 rfl) ?_
    refine lv_iconst (v := nI (0)) hx hb dX0_add_63 gc_0 ?_
    refine g_iast (ws' := kw cA K (va_up (va_up (va_up (va_up (va_up (va_up (va_up (kf) 0 (upd (kf 0) (cn) (a))) 1 (upd (kf 1) (cn) (b))) 2 (upd (kf 2) (cn) (nI (0)))) 3 (upd (kf 3) (cn) (nI (0)))) 4 (upd (kf 4) (cn) (-1))) 5 (upd (kf 5) (cn) (-1))) 6 (upd (kf 6) (cn) (nI (0)))) (rw) (cn) (rl)) hx hb hK hP hD hS 7 rfl (by omega) (by decide) (by first | rfl | (rw [updN_nI]; rfl)) dX0_add_64 (fun H locs hP hD hS => ?_)
    refine lv_aload_n hx hb dX0_add_65 rfl (lv_at hl 1 rfl) ?_
    refine g_get (v := .ref (K 8)) hx hb hts hown hK hP 0 rfl rfl gu_wsX00 7 (by decide) gm_4_0 rfl dX0_add_66 ?_
    refine lv_iload_n hx hb dX0_add_69 rfl (lv_at hl 0 rfl) ?_
    refine lv_iconst (v := nI (0)) hx hb dX0_add_70 gc_0 ?_
    refine g_iast (ws' := kw cA K (va_up (va_up (va_up (va_up (va_up (va_up (va_up (va_up (kf) 0 (upd (kf 0) (cn) (a))) 1 (upd (kf 1) (cn) (b))) 2 (upd (kf 2) (cn) (nI (0)))) 3 (upd (kf 3) (cn) (nI (0)))) 4 (upd (kf 4) (cn) (-1))) 5 (upd (kf 5) (cn) (-1))) 6 (upd (kf 6) (cn) (nI (0)))) 7 (upd (kf 7) (cn) (nI (0)))) (rw) (cn) (rl)) hx hb hK hP hD hS 8 rfl (by omega) (by decide) (by first | rfl | (rw [updN_nI]; rfl)) dX0_add_71 (fun H locs hP hD hS => ?_)
    refine lv_aload_n hx hb dX0_add_72 rfl (lv_at hl 1 rfl) ?_
    refine lv_dup hx hb dX0_add_73 rfl ?_
    refine g_get (v := .int (nI (cn))) hx hb hts hown hK hP 0 rfl rfl gu_wsX00 9 (by decide) gm_4_2 rfl dX0_add_74 ?_
    refine lv_iconst (v := nI (1)) hx hb dX0_add_77 gc_1 ?_
    refine g_iadd hx hb dX0_add_78 ?_
    refine g_put (ws' := kw cA K (va_up (va_up (va_up (va_up (va_up (va_up (va_up (va_up (kf) 0 (upd (kf 0) (cn) (a))) 1 (upd (kf 1) (cn) (b))) 2 (upd (kf 2) (cn) (nI (0)))) 3 (upd (kf 3) (cn) (nI (0)))) 4 (upd (kf 4) (cn) (-1))) 5 (upd (kf 5) (cn) (-1))) 6 (upd (kf 6) (cn) (nI (0)))) 7 (upd (kf 7) (cn) (nI (0)))) (rw) (cn + 1) (rl)) hx hb hts hown hK hP hD hS 0 rfl rfl gu_wsX00 tyX0_ok nmX0 9 (by decide) gm_4_2 rfl rfl rfl (Nat.le_of_ble_eq_true rfl) (by first | rfl | (rw [updN_nI]; rfl)) dX0_add_79 (fun H locs hP hD hS => ?_)
    refine lv_iload_n hx hb dX0_add_82 rfl (lv_at hl 0 rfl) ?_
    exact g_iretW (v := nI (cn)) hx hb hr hlk hS dX0_add_83 (⟨rfl, hP⟩)
  · have d_1 : 10 ≤ cn := Nat.not_lt.mp c_1
    exact absurd c_1 (by omega)

set_option maxHeartbeats 1000000 in
set_option maxRecDepth 100000 in
theorem c_X3_thinkOver (l : Launch) (D : va_G) (cA : Nat → ClassId) (J : Nat → Nat) (jf : Nat → Nat → Int32) (jn : Nat) (panel merit : Int32) (hA : aInj 5 J) (hjn : jn ≤ 9) : Met l yX3_thinkOver (gw yX3_thinkOver cX3_thinkOver 6 (some .int)) ({ frames := 1, cells := 0, slots := 0, locals := 22 } : Room) (gPc [.ref (J 0), .int (panel), .int (merit)] (fun H => va_P D vwCl (jw cA J (jf) (jn)) H) D cA) (wrI (fun r H => r = nI (toS panel merit (jf 1) (jf 0) jn).1 ∧ va_P D vwCl (jw cA J (va_up jf 0 ((toS panel merit (jf 1) (jf 0) jn).2)) jn) H) (aS 5 J)) 0 0 (aS 5 J) := by
  refine gOf (by decide) (Nat.le_of_ble_eq_true rfl) ?_
  intro p e s m below meth c ls hx hb hml hr hlk hown hts hnm hP hK hl
  have hl : lv_has ls 6 [(0, .ref (J 0)), (1, .int (panel)), (2, .int (merit))] := hl
  have hD : va_D (aS 5 J) (jw cA J (jf) (jn)) := jwD hA
  have hS : va_S (aS 5 J) s.heap s.heap [] := va_S.rf
  refine lv_iconst (v := nI (0)) hx hb dX3_thinkOver_0 gc_0 ?_
  refine lv_istore_n (lv' := [(3, .int (nI (0))), (0, .ref (J 0)), (1, .int (panel)), (2, .int (merit))]) hx hb dX3_thinkOver_1 rfl hl (by decide) rfl (fun ls hl => ?_)
  refine lv_iconst (v := nI (0)) hx hb dX3_thinkOver_2 gc_0 ?_
  refine lv_istore (lv' := [(4, .int (nI (0))), (3, .int (nI (0))), (0, .ref (J 0)), (1, .int (panel)), (2, .int (merit))]) hx hb dX3_thinkOver_3 hl (by decide) rfl (fun ls hl => ?_)
  have LP_6 : ∀ (n_2 i_1 : Nat) (x_3 x_4 : Int32) (F_5 : Nat → Int32) (H : Heap) (locs : List Loc), i_1 ≤ jn → jn + 1 ≤ i_1 + n_2 → x_3 = nI (i_1) → x_4 = nI ((toS panel merit (jf 1) (jf 0) i_1).1) → F_5 = (toS panel merit (jf 1) (jf 0) i_1).2 → va_P D vwCl (jw cA J (va_up (jf) 0 (F_5)) (jn)) H → va_S (aS 5 J) s.heap H locs → ∀ (ls : Array Slot), lv_has ls 6 [(4, .int (x_3)), (3, .int (x_4)), (0, .ref (J 0)), (1, .int (panel)), (2, .int (merit))] → W p l e ({ frames := 1, cells := 0, slots := 0, locals := 22 } : Room) s m ([.ref (J 0), .int (panel), .int (merit)] : List Value).toArray below meth c H locs 0 0 (MQ below (wrI (fun r H => r = nI (toS panel merit (jf 1) (jf 0) jn).1 ∧ va_P D vwCl (jw cA J (va_up jf 0 ((toS panel merit (jf 1) (jf 0) jn).2)) jn) H) (aS 5 J)) ([.ref (J 0), .int (panel), .int (merit)] : List Value).toArray s 0 0 (aS 5 J)) (F0 m 5 ls []) := by
    intro n_2
    induction n_2 with
    | zero => intro i_1 x_3 x_4 F_5 H locs h1 h2; exact absurd h2 (by omega)
    | succ n_2 ih_7 =>
      intro i_1 x_3 x_4 F_5 H locs h_8 h_9 e_10 e_11 e_12 hP hS ls hl
      subst e_10
      subst e_11
      subst e_12
      have hD : va_D (aS 5 J) (jw cA J (va_up (jf) 0 ((toS panel merit (jf 1) (jf 0) i_1).2)) (jn)) := jwD hA
      refine lv_iload hx hb dX3_thinkOver_5 (lv_at hl 0 rfl) ?_
      refine lv_aload_n hx hb dX3_thinkOver_7 rfl (lv_at hl 2 rfl) ?_
      refine g_get (v := .int (nI (jn))) hx hb hts hown hK hP 0 rfl rfl gu_wsX30 4 (by decide) gm_3_13 rfl dX3_thinkOver_8 ?_
      refine g_icmp_ge (P := jn ≤ i_1) (tgt := 89) hx hb dX3_thinkOver_11 (by decide) (nI_leI (by omega) (by omega)) (fun c_13 => ?_) (fun c_13 => ?_)
      · have d_13 : ¬ i_1 < jn := Nat.not_lt.mpr c_13
        have hN_14 : jn = i_1 := by omega
        subst hN_14
        refine lv_iload_n hx hb dX3_thinkOver_89 rfl (lv_at hl 1 rfl) ?_
        exact g_iretW (v := nI ((toS panel merit (jf 1) (jf 0) (jn)).1)) hx hb hr hlk hS dX3_thinkOver_90 (⟨rfl, hP⟩)
      · have d_13 : i_1 < jn := Nat.not_le.mp c_13
        refine lv_iload_n hx hb dX3_thinkOver_14 rfl (lv_at hl 3 rfl) ?_
        refine lv_iload hx hb dX3_thinkOver_15 (lv_at hl 0 rfl) ?_
        refine rd_calle (va_runSN (As := [.int (panel), .int (nI (i_1))]) (rest := []) ⟨hx, hb, hml, hown, hts⟩ (c_X7_isIn l D cA (panel) (i_1)) ⟨(va_cnB 2 hts (gWN gm_12_9) rfl rfl rfl (hK.2 _ (List.mem_of_getElem? (i := 10) rfl)) (hts _ (List.mem_cons_of_mem _ gm_1_2)) (by decide +kernel) ⟨Nat.le_of_ble_eq_true rfl, Nat.le_of_ble_eq_true rfl⟩), hts _ (List.mem_cons_of_mem _ gm_12_8), trivial⟩ (gPreS hK trivial) rfl rfl hl.1 rfl (lv_room (Nat.le_of_ble_eq_true rfl)) dX3_thinkOver_17 ⟨by omega, by omega⟩) ?_
        refine g_if_eq (P := hs (panel) (i_1) = false) (tgt := 83) hx hb dX3_thinkOver_20 (by decide) b2i_0 (fun c_15 => ?_) (fun c_15 => ?_)
        · refine lv_iinc (v := nI (i_1 + 1)) (lv' := [(4, .int (nI (i_1 + 1))), (3, .int (nI ((toS panel merit (jf 1) (jf 0) i_1).1))), (0, .ref (J 0)), (1, .int (panel)), (2, .int (merit))]) hx hb dX3_thinkOver_83 hl (k := 0) rfl (inc_1 _) (by decide) rfl (fun ls hl => ?_)
          refine lv_goto (tgt := 5) hx hb dX3_thinkOver_86 (by decide) ?_
          exact ih_7 (i_1 + 1) _ _ ((toS panel merit (jf 1) (jf 0) i_1).2) H locs (by omega) (by omega) rfl (by rw [toS_no c_15]) (by rw [toS_no c_15]) hP hS ls (lv_sub hl [0, 1, 2, 3, 4] rfl)
        · have c_15 : hs (panel) (i_1) = true := eq_true_of_ne_false c_15
          refine lv_aload_n hx hb dX3_thinkOver_23 rfl (lv_at hl 2 rfl) ?_
          refine lv_iload hx hb dX3_thinkOver_24 (lv_at hl 0 rfl) ?_
          refine lv_iload_n hx hb dX3_thinkOver_26 rfl (lv_at hl 4 rfl) ?_
          refine rd_calle (va_runV (As := [.int (nI (i_1)), .int (merit)]) (rest := []) ⟨hx, hb, hml, hown, hts⟩ (c_X3_opinion l D cA J (va_up (jf) 0 ((toS panel merit (jf 1) (jf 0) i_1).2)) (jn) (i_1) (merit)  (by omega)) (cwV 2 hts (gWV gm_16_19 gm_16_20 gm_16_21 gm_2_5 gm_16_22) rfl rfl rfl (by decide +kernel) ⟨Nat.le_of_ble_eq_true rfl, Nat.le_of_ble_eq_true rfl⟩) (gPreV hK (g_rf hK hP (ci := 5) (q0 := 0) rfl rfl) hP) rfl rfl hl.1 rfl (lv_room (Nat.le_of_ble_eq_true rfl)) dX3_thinkOver_27 ⟨by omega, by omega⟩) ?_
          refine lv_iconst (v := nI (1)) hx hb dX3_thinkOver_30 gc_1 ?_
          refine g_icmp_ne (P := opC (forB (merit) (((toS panel merit (jf 1) (jf 0) i_1).2) (i_1)) (jf 1 (i_1))) = 1) (tgt := 46) hx hb dX3_thinkOver_31 (by decide) (nI_eq (by omega) (by omega)) (fun c_16 => ?_) (fun c_16 => ?_)
          · have cop_17 : forB (merit) (((toS panel merit (jf 1) (jf 0) i_1).2) (i_1)) (jf 1 (i_1)) = false := opC_n1 c_16
            refine lv_aload_n hx hb dX3_thinkOver_46 rfl (lv_at hl 2 rfl) ?_
            refine g_get (v := .ref (J 1)) hx hb hts hown hK hP 0 rfl rfl gu_wsX30 0 (by decide) gm_3_9 rfl dX3_thinkOver_47 ?_
            refine lv_iload hx hb dX3_thinkOver_50 (lv_at hl 0 rfl) ?_
            refine g_iald (x := ((toS panel merit (jf 1) (jf 0) i_1).2) (i_1)) hx hb hK hP 1 rfl (by omega) (by decide) rfl dX3_thinkOver_52 ?_
            refine lv_iconst (v := nI (1)) hx hb dX3_thinkOver_53 gc_1 ?_
            refine lv_iadd hx hb dX3_thinkOver_54 ?_
            refine lv_istore (lv' := [(5, .int ((((toS panel merit (jf 1) (jf 0) i_1).2) (i_1)) + (nI (1)))), (4, .int (nI (i_1))), (3, .int (nI ((toS panel merit (jf 1) (jf 0) i_1).1))), (0, .ref (J 0)), (1, .int (panel)), (2, .int (merit))]) hx hb dX3_thinkOver_55 hl (by decide) rfl (fun ls hl => ?_)
            refine lv_iload hx hb dX3_thinkOver_57 (lv_at hl 0 rfl) ?_
            refine lv_bipush (v := -9) hx hb dX3_thinkOver_59 gb_m9 ?_
            refine g_icmp_lt (P := (((toS panel merit (jf 1) (jf 0) i_1).2) (i_1)) + (nI (1)) < -9) (tgt := 83) hx hb dX3_thinkOver_61 (by decide) Iff.rfl (fun c_18 => ?_) (fun c_18 => ?_)
            · have d_18 : ¬ -9 ≤ (((toS panel merit (jf 1) (jf 0) i_1).2) (i_1)) + (nI (1)) := Int32.not_le.mpr c_18
              refine lv_iinc (v := nI (i_1 + 1)) (lv' := [(4, .int (nI (i_1 + 1))), (5, .int ((((toS panel merit (jf 1) (jf 0) i_1).2) (i_1)) + (nI (1)))), (3, .int (nI ((toS panel merit (jf 1) (jf 0) i_1).1))), (0, .ref (J 0)), (1, .int (panel)), (2, .int (merit))]) hx hb dX3_thinkOver_83 hl (k := 1) rfl (inc_1 _) (by decide) rfl (fun ls hl => ?_)
              refine lv_goto (tgt := 5) hx hb dX3_thinkOver_86 (by decide) ?_
              exact ih_7 (i_1 + 1) _ _ ((toS panel merit (jf 1) (jf 0) i_1).2) H locs (by omega) (by omega) rfl (by rw [toS_lo c_15 (mvF_f cop_17) c_18]) (by rw [toS_lo c_15 (mvF_f cop_17) c_18]) hP hS ls (lv_sub hl [0, 2, 3, 4, 5] rfl)
            · have d_18 : -9 ≤ (((toS panel merit (jf 1) (jf 0) i_1).2) (i_1)) + (nI (1)) := Int32.not_lt.mp c_18
              refine lv_iload hx hb dX3_thinkOver_64 (lv_at hl 0 rfl) ?_
              refine lv_bipush (v := nI (9)) hx hb dX3_thinkOver_66 gb_9 ?_
              refine g_icmp_gt (P := nI (9) < (((toS panel merit (jf 1) (jf 0) i_1).2) (i_1)) + (nI (1))) (tgt := 83) hx hb dX3_thinkOver_68 (by decide) Iff.rfl (fun c_19 => ?_) (fun c_19 => ?_)
              · have d_19 : ¬ (((toS panel merit (jf 1) (jf 0) i_1).2) (i_1)) + (nI (1)) ≤ nI (9) := Int32.not_le.mpr c_19
                refine lv_iinc (v := nI (i_1 + 1)) (lv' := [(4, .int (nI (i_1 + 1))), (5, .int ((((toS panel merit (jf 1) (jf 0) i_1).2) (i_1)) + (nI (1)))), (3, .int (nI ((toS panel merit (jf 1) (jf 0) i_1).1))), (0, .ref (J 0)), (1, .int (panel)), (2, .int (merit))]) hx hb dX3_thinkOver_83 hl (k := 1) rfl (inc_1 _) (by decide) rfl (fun ls hl => ?_)
                refine lv_goto (tgt := 5) hx hb dX3_thinkOver_86 (by decide) ?_
                exact ih_7 (i_1 + 1) _ _ ((toS panel merit (jf 1) (jf 0) i_1).2) H locs (by omega) (by omega) rfl (by rw [toS_hi c_15 (mvF_f cop_17) c_18 c_19]) (by rw [toS_hi c_15 (mvF_f cop_17) c_18 c_19]) hP hS ls (lv_sub hl [0, 2, 3, 4, 5] rfl)
              · have d_19 : (((toS panel merit (jf 1) (jf 0) i_1).2) (i_1)) + (nI (1)) ≤ nI (9) := Int32.not_lt.mp c_19
                refine lv_aload_n hx hb dX3_thinkOver_71 rfl (lv_at hl 3 rfl) ?_
                refine g_get (v := .ref (J 1)) hx hb hts hown hK hP 0 rfl rfl gu_wsX30 0 (by decide) gm_3_9 rfl dX3_thinkOver_72 ?_
                refine lv_iload hx hb dX3_thinkOver_75 (lv_at hl 1 rfl) ?_
                refine lv_iload hx hb dX3_thinkOver_77 (lv_at hl 0 rfl) ?_
                refine g_iast (ws' := jw cA J (va_up (jf) 0 (upd ((toS panel merit (jf 1) (jf 0) i_1).2) (i_1) ((((toS panel merit (jf 1) (jf 0) i_1).2) (i_1)) + (nI (1))))) (jn)) hx hb hK hP hD hS 1 rfl (by omega) (by decide) (by first | rfl | (rw [updN_nI]; rfl)) dX3_thinkOver_79 (fun H locs hP hD hS => ?_)
                refine lv_iinc (v := nI ((toS panel merit (jf 1) (jf 0) i_1).1 + 1)) (lv' := [(3, .int (nI ((toS panel merit (jf 1) (jf 0) i_1).1 + 1))), (5, .int ((((toS panel merit (jf 1) (jf 0) i_1).2) (i_1)) + (nI (1)))), (4, .int (nI (i_1))), (0, .ref (J 0)), (1, .int (panel)), (2, .int (merit))]) hx hb dX3_thinkOver_80 hl (k := 2) rfl (inc_1 _) (by decide) rfl (fun ls hl => ?_)
                refine lv_iinc (v := nI (i_1 + 1)) (lv' := [(4, .int (nI (i_1 + 1))), (3, .int (nI ((toS panel merit (jf 1) (jf 0) i_1).1 + 1))), (5, .int ((((toS panel merit (jf 1) (jf 0) i_1).2) (i_1)) + (nI (1)))), (0, .ref (J 0)), (1, .int (panel)), (2, .int (merit))]) hx hb dX3_thinkOver_83 hl (k := 2) rfl (inc_1 _) (by decide) rfl (fun ls hl => ?_)
                refine lv_goto (tgt := 5) hx hb dX3_thinkOver_86 (by decide) ?_
                exact ih_7 (i_1 + 1) _ _ (upd ((toS panel merit (jf 1) (jf 0) i_1).2) (i_1) ((((toS panel merit (jf 1) (jf 0) i_1).2) (i_1)) + (nI (1)))) H locs (by omega) (by omega) rfl (by rw [toS_up c_15 (mvF_f cop_17) c_18 c_19]) (by rw [toS_up c_15 (mvF_f cop_17) c_18 c_19]) hP hS ls (lv_sub hl [0, 1, 3, 4, 5] rfl)
          · have cop_20 : forB (merit) (((toS panel merit (jf 1) (jf 0) i_1).2) (i_1)) (jf 1 (i_1)) = true := (opC_1 _).mp c_16
            refine lv_aload_n hx hb dX3_thinkOver_34 rfl (lv_at hl 2 rfl) ?_
            refine g_get (v := .ref (J 1)) hx hb hts hown hK hP 0 rfl rfl gu_wsX30 0 (by decide) gm_3_9 rfl dX3_thinkOver_35 ?_
            refine lv_iload hx hb dX3_thinkOver_38 (lv_at hl 0 rfl) ?_
            refine g_iald (x := ((toS panel merit (jf 1) (jf 0) i_1).2) (i_1)) hx hb hK hP 1 rfl (by omega) (by decide) rfl dX3_thinkOver_40 ?_
            refine lv_iconst (v := nI (1)) hx hb dX3_thinkOver_41 gc_1 ?_
            refine lv_isub hx hb dX3_thinkOver_42 ?_
            refine lv_goto (tgt := 55) hx hb dX3_thinkOver_43 (by decide) ?_
            refine lv_istore (lv' := [(5, .int ((((toS panel merit (jf 1) (jf 0) i_1).2) (i_1)) - (nI (1)))), (4, .int (nI (i_1))), (3, .int (nI ((toS panel merit (jf 1) (jf 0) i_1).1))), (0, .ref (J 0)), (1, .int (panel)), (2, .int (merit))]) hx hb dX3_thinkOver_55 hl (by decide) rfl (fun ls hl => ?_)
            refine lv_iload hx hb dX3_thinkOver_57 (lv_at hl 0 rfl) ?_
            refine lv_bipush (v := -9) hx hb dX3_thinkOver_59 gb_m9 ?_
            refine g_icmp_lt (P := (((toS panel merit (jf 1) (jf 0) i_1).2) (i_1)) - (nI (1)) < -9) (tgt := 83) hx hb dX3_thinkOver_61 (by decide) Iff.rfl (fun c_21 => ?_) (fun c_21 => ?_)
            · have d_21 : ¬ -9 ≤ (((toS panel merit (jf 1) (jf 0) i_1).2) (i_1)) - (nI (1)) := Int32.not_le.mpr c_21
              refine lv_iinc (v := nI (i_1 + 1)) (lv' := [(4, .int (nI (i_1 + 1))), (5, .int ((((toS panel merit (jf 1) (jf 0) i_1).2) (i_1)) - (nI (1)))), (3, .int (nI ((toS panel merit (jf 1) (jf 0) i_1).1))), (0, .ref (J 0)), (1, .int (panel)), (2, .int (merit))]) hx hb dX3_thinkOver_83 hl (k := 1) rfl (inc_1 _) (by decide) rfl (fun ls hl => ?_)
              refine lv_goto (tgt := 5) hx hb dX3_thinkOver_86 (by decide) ?_
              exact ih_7 (i_1 + 1) _ _ ((toS panel merit (jf 1) (jf 0) i_1).2) H locs (by omega) (by omega) rfl (by rw [toS_lo c_15 (mvF_t cop_20) c_21]) (by rw [toS_lo c_15 (mvF_t cop_20) c_21]) hP hS ls (lv_sub hl [0, 2, 3, 4, 5] rfl)
            · have d_21 : -9 ≤ (((toS panel merit (jf 1) (jf 0) i_1).2) (i_1)) - (nI (1)) := Int32.not_lt.mp c_21
              refine lv_iload hx hb dX3_thinkOver_64 (lv_at hl 0 rfl) ?_
              refine lv_bipush (v := nI (9)) hx hb dX3_thinkOver_66 gb_9 ?_
              refine g_icmp_gt (P := nI (9) < (((toS panel merit (jf 1) (jf 0) i_1).2) (i_1)) - (nI (1))) (tgt := 83) hx hb dX3_thinkOver_68 (by decide) Iff.rfl (fun c_22 => ?_) (fun c_22 => ?_)
              · have d_22 : ¬ (((toS panel merit (jf 1) (jf 0) i_1).2) (i_1)) - (nI (1)) ≤ nI (9) := Int32.not_le.mpr c_22
                refine lv_iinc (v := nI (i_1 + 1)) (lv' := [(4, .int (nI (i_1 + 1))), (5, .int ((((toS panel merit (jf 1) (jf 0) i_1).2) (i_1)) - (nI (1)))), (3, .int (nI ((toS panel merit (jf 1) (jf 0) i_1).1))), (0, .ref (J 0)), (1, .int (panel)), (2, .int (merit))]) hx hb dX3_thinkOver_83 hl (k := 1) rfl (inc_1 _) (by decide) rfl (fun ls hl => ?_)
                refine lv_goto (tgt := 5) hx hb dX3_thinkOver_86 (by decide) ?_
                exact ih_7 (i_1 + 1) _ _ ((toS panel merit (jf 1) (jf 0) i_1).2) H locs (by omega) (by omega) rfl (by rw [toS_hi c_15 (mvF_t cop_20) c_21 c_22]) (by rw [toS_hi c_15 (mvF_t cop_20) c_21 c_22]) hP hS ls (lv_sub hl [0, 2, 3, 4, 5] rfl)
              · have d_22 : (((toS panel merit (jf 1) (jf 0) i_1).2) (i_1)) - (nI (1)) ≤ nI (9) := Int32.not_lt.mp c_22
                refine lv_aload_n hx hb dX3_thinkOver_71 rfl (lv_at hl 3 rfl) ?_
                refine g_get (v := .ref (J 1)) hx hb hts hown hK hP 0 rfl rfl gu_wsX30 0 (by decide) gm_3_9 rfl dX3_thinkOver_72 ?_
                refine lv_iload hx hb dX3_thinkOver_75 (lv_at hl 1 rfl) ?_
                refine lv_iload hx hb dX3_thinkOver_77 (lv_at hl 0 rfl) ?_
                refine g_iast (ws' := jw cA J (va_up (jf) 0 (upd ((toS panel merit (jf 1) (jf 0) i_1).2) (i_1) ((((toS panel merit (jf 1) (jf 0) i_1).2) (i_1)) - (nI (1))))) (jn)) hx hb hK hP hD hS 1 rfl (by omega) (by decide) (by first | rfl | (rw [updN_nI]; rfl)) dX3_thinkOver_79 (fun H locs hP hD hS => ?_)
                refine lv_iinc (v := nI ((toS panel merit (jf 1) (jf 0) i_1).1 + 1)) (lv' := [(3, .int (nI ((toS panel merit (jf 1) (jf 0) i_1).1 + 1))), (5, .int ((((toS panel merit (jf 1) (jf 0) i_1).2) (i_1)) - (nI (1)))), (4, .int (nI (i_1))), (0, .ref (J 0)), (1, .int (panel)), (2, .int (merit))]) hx hb dX3_thinkOver_80 hl (k := 2) rfl (inc_1 _) (by decide) rfl (fun ls hl => ?_)
                refine lv_iinc (v := nI (i_1 + 1)) (lv' := [(4, .int (nI (i_1 + 1))), (3, .int (nI ((toS panel merit (jf 1) (jf 0) i_1).1 + 1))), (5, .int ((((toS panel merit (jf 1) (jf 0) i_1).2) (i_1)) - (nI (1)))), (0, .ref (J 0)), (1, .int (panel)), (2, .int (merit))]) hx hb dX3_thinkOver_83 hl (k := 2) rfl (inc_1 _) (by decide) rfl (fun ls hl => ?_)
                refine lv_goto (tgt := 5) hx hb dX3_thinkOver_86 (by decide) ?_
                exact ih_7 (i_1 + 1) _ _ (upd ((toS panel merit (jf 1) (jf 0) i_1).2) (i_1) ((((toS panel merit (jf 1) (jf 0) i_1).2) (i_1)) - (nI (1)))) H locs (by omega) (by omega) rfl (by rw [toS_up c_15 (mvF_t cop_20) c_21 c_22]) (by rw [toS_up c_15 (mvF_t cop_20) c_21 c_22]) hP hS ls (lv_sub hl [0, 1, 3, 4, 5] rfl)
  exact LP_6 (jn + 1) 0 _ _ (jf 0) s.heap [] (by omega) (by omega) rfl rfl rfl hP hS ls (lv_sub hl [0, 1, 2, 3, 4] rfl)

set_option maxHeartbeats 1000000 in
set_option maxRecDepth 100000 in
theorem c_X3_takeVerdict (l : Launch) (D : va_G) (cA : Nat → ClassId) (J : Nat → Nat) (jf : Nat → Nat → Int32) (jn : Nat) (panel merit : Int32) (vd : Nat) (hA : aInj 5 J) (hjn : jn ≤ 9) (hvd : vd ≤ 2) : Met l yX3_takeVerdict (gw yX3_takeVerdict cX3_takeVerdict 6 none) ({ frames := 1, cells := 0, slots := 0, locals := 23 } : Room) (gPc [.ref (J 0), .int (panel), .int (merit), .int (nI (vd))] (fun H => va_P D vwCl (jw cA J (jf) (jn)) H) D cA) (wrV (fun H => va_P D vwCl (jw cA J (va_up (va_up (va_up jf 1 ((tvS panel merit vd (jf 0) (jf 1, (jf 2, jf 3)) jn).1)) 2 ((tvS panel merit vd (jf 0) (jf 1, (jf 2, jf 3)) jn).2.1)) 3 ((tvS panel merit vd (jf 0) (jf 1, (jf 2, jf 3)) jn).2.2)) jn) H) (aS 5 J)) 0 0 (aS 5 J) := by
  refine gOf (by decide) (Nat.le_of_ble_eq_true rfl) ?_
  intro p e s m below meth c ls hx hb hml hr hlk hown hts hnm hP hK hl
  have hl : lv_has ls 6 [(0, .ref (J 0)), (1, .int (panel)), (2, .int (merit)), (3, .int (nI (vd)))] := hl
  have hD : va_D (aS 5 J) (jw cA J (jf) (jn)) := jwD hA
  have hS : va_S (aS 5 J) s.heap s.heap [] := va_S.rf
  refine lv_iconst (v := nI (0)) hx hb dX3_takeVerdict_0 gc_0 ?_
  refine lv_istore (lv' := [(4, .int (nI (0))), (0, .ref (J 0)), (1, .int (panel)), (2, .int (merit)), (3, .int (nI (vd)))]) hx hb dX3_takeVerdict_1 hl (by decide) rfl (fun ls hl => ?_)
  have LP_7 : ∀ (n_2 i_1 : Nat) (x_3 : Int32) (F_4 : Nat → Int32) (F_5 : Nat → Int32) (F_6 : Nat → Int32) (H : Heap) (locs : List Loc), i_1 ≤ jn → jn + 1 ≤ i_1 + n_2 → x_3 = nI (i_1) → F_4 = (tvS panel merit vd (jf 0) (jf 1, (jf 2, jf 3)) i_1).1 → F_5 = (tvS panel merit vd (jf 0) (jf 1, (jf 2, jf 3)) i_1).2.1 → F_6 = (tvS panel merit vd (jf 0) (jf 1, (jf 2, jf 3)) i_1).2.2 → va_P D vwCl (jw cA J (va_up (va_up (va_up (jf) 1 (F_4)) 2 (F_5)) 3 (F_6)) (jn)) H → va_S (aS 5 J) s.heap H locs → ∀ (ls : Array Slot), lv_has ls 6 [(4, .int (x_3)), (0, .ref (J 0)), (1, .int (panel)), (2, .int (merit)), (3, .int (nI (vd)))] → W p l e ({ frames := 1, cells := 0, slots := 0, locals := 23 } : Room) s m ([.ref (J 0), .int (panel), .int (merit), .int (nI (vd))] : List Value).toArray below meth c H locs 0 0 (MQ below (wrV (fun H => va_P D vwCl (jw cA J (va_up (va_up (va_up jf 1 ((tvS panel merit vd (jf 0) (jf 1, (jf 2, jf 3)) jn).1)) 2 ((tvS panel merit vd (jf 0) (jf 1, (jf 2, jf 3)) jn).2.1)) 3 ((tvS panel merit vd (jf 0) (jf 1, (jf 2, jf 3)) jn).2.2)) jn) H) (aS 5 J)) ([.ref (J 0), .int (panel), .int (merit), .int (nI (vd))] : List Value).toArray s 0 0 (aS 5 J)) (F0 m 3 ls []) := by
    intro n_2
    induction n_2 with
    | zero => intro i_1 x_3 F_4 F_5 F_6 H locs h1 h2; exact absurd h2 (by omega)
    | succ n_2 ih_8 =>
      intro i_1 x_3 F_4 F_5 F_6 H locs h_9 h_10 e_11 e_12 e_13 e_14 hP hS ls hl
      subst e_11
      subst e_12
      subst e_13
      subst e_14
      have hD : va_D (aS 5 J) (jw cA J (va_up (va_up (va_up (jf) 1 ((tvS panel merit vd (jf 0) (jf 1, (jf 2, jf 3)) i_1).1)) 2 ((tvS panel merit vd (jf 0) (jf 1, (jf 2, jf 3)) i_1).2.1)) 3 ((tvS panel merit vd (jf 0) (jf 1, (jf 2, jf 3)) i_1).2.2)) (jn)) := jwD hA
      refine lv_iload hx hb dX3_takeVerdict_3 (lv_at hl 0 rfl) ?_
      refine lv_aload_n hx hb dX3_takeVerdict_5 rfl (lv_at hl 1 rfl) ?_
      refine g_get (v := .int (nI (jn))) hx hb hts hown hK hP 0 rfl rfl gu_wsX30 4 (by decide) gm_3_13 rfl dX3_takeVerdict_6 ?_
      refine g_icmp_ge (P := jn ≤ i_1) (tgt := 118) hx hb dX3_takeVerdict_9 (by decide) (nI_leI (by omega) (by omega)) (fun c_15 => ?_) (fun c_15 => ?_)
      · have d_15 : ¬ i_1 < jn := Nat.not_lt.mpr c_15
        have hN_16 : jn = i_1 := by omega
        subst hN_16
        exact g_vretW hx hb hr hlk hS dX3_takeVerdict_118 (hP)
      · have d_15 : i_1 < jn := Nat.not_le.mp c_15
        refine lv_iload_n hx hb dX3_takeVerdict_12 rfl (lv_at hl 2 rfl) ?_
        refine lv_iload hx hb dX3_takeVerdict_13 (lv_at hl 0 rfl) ?_
        refine rd_calle (va_runSN (As := [.int (panel), .int (nI (i_1))]) (rest := []) ⟨hx, hb, hml, hown, hts⟩ (c_X7_isIn l D cA (panel) (i_1)) ⟨(va_cnB 2 hts (gWN gm_12_9) rfl rfl rfl (hK.2 _ (List.mem_of_getElem? (i := 10) rfl)) (hts _ (List.mem_cons_of_mem _ gm_1_2)) (by decide +kernel) ⟨Nat.le_of_ble_eq_true rfl, Nat.le_of_ble_eq_true rfl⟩), hts _ (List.mem_cons_of_mem _ gm_12_8), trivial⟩ (gPreS hK trivial) rfl rfl hl.1 rfl (lv_room (Nat.le_of_ble_eq_true rfl)) dX3_takeVerdict_15 ⟨by omega, by omega⟩) ?_
        refine g_if_eq (P := hs (panel) (i_1) = false) (tgt := 112) hx hb dX3_takeVerdict_18 (by decide) b2i_0 (fun c_17 => ?_) (fun c_17 => ?_)
        · refine lv_iinc (v := nI (i_1 + 1)) (lv' := [(4, .int (nI (i_1 + 1))), (0, .ref (J 0)), (1, .int (panel)), (2, .int (merit)), (3, .int (nI (vd)))]) hx hb dX3_takeVerdict_112 hl (k := 0) rfl (inc_1 _) (by decide) rfl (fun ls hl => ?_)
          refine lv_goto (tgt := 3) hx hb dX3_takeVerdict_115 (by decide) ?_
          exact ih_8 (i_1 + 1) _ ((tvS panel merit vd (jf 0) (jf 1, (jf 2, jf 3)) i_1).1) ((tvS panel merit vd (jf 0) (jf 1, (jf 2, jf 3)) i_1).2.1) ((tvS panel merit vd (jf 0) (jf 1, (jf 2, jf 3)) i_1).2.2) H locs (by omega) (by omega) rfl (by rw [tvS_no c_17]) (by rw [tvS_no c_17]) (by rw [tvS_no c_17]) hP hS ls (lv_sub hl [0, 1, 2, 3, 4] rfl)
        · have c_17 : hs (panel) (i_1) = true := eq_true_of_ne_false c_17
          refine lv_aload_n hx hb dX3_takeVerdict_21 rfl (lv_at hl 1 rfl) ?_
          refine lv_iload hx hb dX3_takeVerdict_22 (lv_at hl 0 rfl) ?_
          refine lv_iload_n hx hb dX3_takeVerdict_24 rfl (lv_at hl 3 rfl) ?_
          refine rd_calle (va_runV (As := [.int (nI (i_1)), .int (merit)]) (rest := []) ⟨hx, hb, hml, hown, hts⟩ (c_X3_opinion l D cA J (va_up (va_up (va_up (jf) 1 ((tvS panel merit vd (jf 0) (jf 1, (jf 2, jf 3)) i_1).1)) 2 ((tvS panel merit vd (jf 0) (jf 1, (jf 2, jf 3)) i_1).2.1)) 3 ((tvS panel merit vd (jf 0) (jf 1, (jf 2, jf 3)) i_1).2.2)) (jn) (i_1) (merit)  (by omega)) (cwV 2 hts (gWV gm_16_19 gm_16_20 gm_16_21 gm_2_5 gm_16_22) rfl rfl rfl (by decide +kernel) ⟨Nat.le_of_ble_eq_true rfl, Nat.le_of_ble_eq_true rfl⟩) (gPreV hK (g_rf hK hP (ci := 5) (q0 := 0) rfl rfl) hP) rfl rfl hl.1 rfl (lv_room (Nat.le_of_ble_eq_true rfl)) dX3_takeVerdict_25 ⟨by omega, by omega⟩) ?_
          refine lv_iload_n hx hb dX3_takeVerdict_28 rfl (lv_at hl 4 rfl) ?_
          have hle_18 := opC_le (forB (merit) (jf 0 (i_1)) (((tvS panel merit vd (jf 0) (jf 1, (jf 2, jf 3)) i_1).1) (i_1)))
          refine g_icmp_eq (P := opC (forB (merit) (jf 0 (i_1)) (((tvS panel merit vd (jf 0) (jf 1, (jf 2, jf 3)) i_1).1) (i_1))) = vd) (tgt := 36) hx hb dX3_takeVerdict_29 (by decide) (nI_eq (by omega) (by omega)) (fun c_19 => ?_) (fun c_19 => ?_)
          · refine lv_iconst (v := nI (0)) hx hb dX3_takeVerdict_36 gc_0 ?_
            refine lv_istore (lv' := [(5, .int (nI (0))), (4, .int (nI (i_1))), (0, .ref (J 0)), (1, .int (panel)), (2, .int (merit)), (3, .int (nI (vd)))]) hx hb dX3_takeVerdict_37 hl (by decide) rfl (fun ls hl => ?_)
            refine lv_aload_n hx hb dX3_takeVerdict_39 rfl (lv_at hl 2 rfl) ?_
            refine g_get (v := .ref (J 3)) hx hb hts hown hK hP 0 rfl rfl gu_wsX30 2 (by decide) gm_3_11 rfl dX3_takeVerdict_40 ?_
            refine lv_iload hx hb dX3_takeVerdict_43 (lv_at hl 1 rfl) ?_
            refine lv_dup2_11 hx hb dX3_takeVerdict_45 rfl rfl ?_
            refine g_iald (x := ((tvS panel merit vd (jf 0) (jf 1, (jf 2, jf 3)) i_1).2.1) (i_1)) hx hb hK hP 3 rfl (by omega) (by decide) rfl dX3_takeVerdict_46 ?_
            refine lv_iconst (v := nI (1)) hx hb dX3_takeVerdict_47 gc_1 ?_
            refine lv_iadd hx hb dX3_takeVerdict_48 ?_
            refine g_iast (ws' := jw cA J (va_up (va_up (va_up (jf) 1 ((tvS panel merit vd (jf 0) (jf 1, (jf 2, jf 3)) i_1).1)) 2 (upd ((tvS panel merit vd (jf 0) (jf 1, (jf 2, jf 3)) i_1).2.1) (i_1) ((((tvS panel merit vd (jf 0) (jf 1, (jf 2, jf 3)) i_1).2.1) (i_1)) + (nI (1))))) 3 ((tvS panel merit vd (jf 0) (jf 1, (jf 2, jf 3)) i_1).2.2)) (jn)) hx hb hK hP hD hS 3 rfl (by omega) (by decide) (by first | rfl | (rw [updN_nI]; rfl)) dX3_takeVerdict_49 (fun H locs hP hD hS => ?_)
            refine lv_aload_n hx hb dX3_takeVerdict_50 rfl (lv_at hl 2 rfl) ?_
            refine g_get (v := .ref (J 4)) hx hb hts hown hK hP 0 rfl rfl gu_wsX30 3 (by decide) gm_3_12 rfl dX3_takeVerdict_51 ?_
            refine lv_iload hx hb dX3_takeVerdict_54 (lv_at hl 1 rfl) ?_
            refine lv_dup2_11 hx hb dX3_takeVerdict_56 rfl rfl ?_
            refine g_iald (x := ((tvS panel merit vd (jf 0) (jf 1, (jf 2, jf 3)) i_1).2.2) (i_1)) hx hb hK hP 4 rfl (by omega) (by decide) rfl dX3_takeVerdict_57 ?_
            refine lv_iload hx hb dX3_takeVerdict_58 (lv_at hl 0 rfl) ?_
            refine g_if_eq (P := 0 = 0) (tgt := 67) hx hb dX3_takeVerdict_60 (by decide) (nI_z (by omega)) (fun c_20 => ?_) (fun c_20 => ?_)
            · refine lv_iconst (v := nI (0)) hx hb dX3_takeVerdict_67 gc_0 ?_
              refine lv_iadd hx hb dX3_takeVerdict_68 ?_
              refine g_iast (ws' := jw cA J (va_up (va_up (va_up (jf) 1 ((tvS panel merit vd (jf 0) (jf 1, (jf 2, jf 3)) i_1).1)) 2 (upd ((tvS panel merit vd (jf 0) (jf 1, (jf 2, jf 3)) i_1).2.1) (i_1) ((((tvS panel merit vd (jf 0) (jf 1, (jf 2, jf 3)) i_1).2.1) (i_1)) + (nI (1))))) 3 (upd ((tvS panel merit vd (jf 0) (jf 1, (jf 2, jf 3)) i_1).2.2) (i_1) ((((tvS panel merit vd (jf 0) (jf 1, (jf 2, jf 3)) i_1).2.2) (i_1)) + (nI (0))))) (jn)) hx hb hK hP hD hS 4 rfl (by omega) (by decide) (by first | rfl | (rw [updN_nI]; rfl)) dX3_takeVerdict_69 (fun H locs hP hD hS => ?_)
              refine lv_aload_n hx hb dX3_takeVerdict_70 rfl (lv_at hl 2 rfl) ?_
              refine g_get (v := .ref (J 2)) hx hb hts hown hK hP 0 rfl rfl gu_wsX30 1 (by decide) gm_3_10 rfl dX3_takeVerdict_71 ?_
              refine lv_iload hx hb dX3_takeVerdict_74 (lv_at hl 1 rfl) ?_
              refine lv_iload hx hb dX3_takeVerdict_76 (lv_at hl 0 rfl) ?_
              refine g_if_eq (P := 0 = 0) (tgt := 98) hx hb dX3_takeVerdict_78 (by decide) (nI_z (by omega)) (fun c_21 => ?_) (fun c_21 => ?_)
              · refine lv_aload_n hx hb dX3_takeVerdict_98 rfl (lv_at hl 2 rfl) ?_
                refine g_get (v := .ref (J 2)) hx hb hts hown hK hP 0 rfl rfl gu_wsX30 1 (by decide) gm_3_10 rfl dX3_takeVerdict_99 ?_
                refine lv_iload hx hb dX3_takeVerdict_102 (lv_at hl 1 rfl) ?_
                refine g_iald (x := ((tvS panel merit vd (jf 0) (jf 1, (jf 2, jf 3)) i_1).1) (i_1)) hx hb hK hP 2 rfl (by omega) (by decide) rfl dX3_takeVerdict_104 ?_
                refine lv_iconst (v := nI (1)) hx hb dX3_takeVerdict_105 gc_1 ?_
                refine lv_isub hx hb dX3_takeVerdict_106 ?_
                refine lv_iconst (v := nI (0)) hx hb dX3_takeVerdict_107 gc_0 ?_
                refine va_mmax hx hb (hml.trans hl.1.symm) hown (hts _ (List.mem_cons_of_mem _ gm_17_4)) (hts _ (List.mem_cons_of_mem _ gm_17_5)) (hts _ (List.mem_cons_of_mem _ gm_8_10)) (hts _ (List.mem_cons_of_mem _ gm_17_6)) (by decide) (Nat.le_of_ble_eq_true rfl) (Nat.zero_le _) (Nat.zero_le _) dX3_takeVerdict_108 ?_
                refine g_iast (ws' := jw cA J (va_up (va_up (va_up (jf) 1 (upd ((tvS panel merit vd (jf 0) (jf 1, (jf 2, jf 3)) i_1).1) (i_1) ((if (((tvS panel merit vd (jf 0) (jf 1, (jf 2, jf 3)) i_1).1) (i_1)) - (nI (1)) < nI (0) then nI (0) else (((tvS panel merit vd (jf 0) (jf 1, (jf 2, jf 3)) i_1).1) (i_1)) - (nI (1)))))) 2 (upd ((tvS panel merit vd (jf 0) (jf 1, (jf 2, jf 3)) i_1).2.1) (i_1) ((((tvS panel merit vd (jf 0) (jf 1, (jf 2, jf 3)) i_1).2.1) (i_1)) + (nI (1))))) 3 (upd ((tvS panel merit vd (jf 0) (jf 1, (jf 2, jf 3)) i_1).2.2) (i_1) ((((tvS panel merit vd (jf 0) (jf 1, (jf 2, jf 3)) i_1).2.2) (i_1)) + (nI (0))))) (jn)) hx hb hK hP hD hS 2 rfl (by omega) (by decide) (by first | rfl | (rw [updN_nI]; rfl)) dX3_takeVerdict_111 (fun H locs hP hD hS => ?_)
                refine lv_iinc (v := nI (i_1 + 1)) (lv' := [(4, .int (nI (i_1 + 1))), (5, .int (nI (0))), (0, .ref (J 0)), (1, .int (panel)), (2, .int (merit)), (3, .int (nI (vd)))]) hx hb dX3_takeVerdict_112 hl (k := 1) rfl (inc_1 _) (by decide) rfl (fun ls hl => ?_)
                refine lv_goto (tgt := 3) hx hb dX3_takeVerdict_115 (by decide) ?_
                exact ih_8 (i_1 + 1) _ (upd ((tvS panel merit vd (jf 0) (jf 1, (jf 2, jf 3)) i_1).1) (i_1) ((if (((tvS panel merit vd (jf 0) (jf 1, (jf 2, jf 3)) i_1).1) (i_1)) - (nI (1)) < nI (0) then nI (0) else (((tvS panel merit vd (jf 0) (jf 1, (jf 2, jf 3)) i_1).1) (i_1)) - (nI (1))))) (upd ((tvS panel merit vd (jf 0) (jf 1, (jf 2, jf 3)) i_1).2.1) (i_1) ((((tvS panel merit vd (jf 0) (jf 1, (jf 2, jf 3)) i_1).2.1) (i_1)) + (nI (1)))) (upd ((tvS panel merit vd (jf 0) (jf 1, (jf 2, jf 3)) i_1).2.2) (i_1) ((((tvS panel merit vd (jf 0) (jf 1, (jf 2, jf 3)) i_1).2.2) (i_1)) + (nI (0)))) H locs (by omega) (by omega) rfl (by rw [tvS_in c_17 c_19] <;> rfl) (by rw [tvS_in c_17 c_19] <;> rfl) (by rw [tvS_in c_17 c_19] <;> rfl) hP hS ls (lv_sub hl [0, 2, 3, 4, 5] rfl)
              · exact absurd c_21 (by decide)
            · exact absurd c_20 (by decide)
          · refine lv_iconst (v := nI (1)) hx hb dX3_takeVerdict_32 gc_1 ?_
            refine lv_goto (tgt := 37) hx hb dX3_takeVerdict_33 (by decide) ?_
            refine lv_istore (lv' := [(5, .int (nI (1))), (4, .int (nI (i_1))), (0, .ref (J 0)), (1, .int (panel)), (2, .int (merit)), (3, .int (nI (vd)))]) hx hb dX3_takeVerdict_37 hl (by decide) rfl (fun ls hl => ?_)
            refine lv_aload_n hx hb dX3_takeVerdict_39 rfl (lv_at hl 2 rfl) ?_
            refine g_get (v := .ref (J 3)) hx hb hts hown hK hP 0 rfl rfl gu_wsX30 2 (by decide) gm_3_11 rfl dX3_takeVerdict_40 ?_
            refine lv_iload hx hb dX3_takeVerdict_43 (lv_at hl 1 rfl) ?_
            refine lv_dup2_11 hx hb dX3_takeVerdict_45 rfl rfl ?_
            refine g_iald (x := ((tvS panel merit vd (jf 0) (jf 1, (jf 2, jf 3)) i_1).2.1) (i_1)) hx hb hK hP 3 rfl (by omega) (by decide) rfl dX3_takeVerdict_46 ?_
            refine lv_iconst (v := nI (1)) hx hb dX3_takeVerdict_47 gc_1 ?_
            refine lv_iadd hx hb dX3_takeVerdict_48 ?_
            refine g_iast (ws' := jw cA J (va_up (va_up (va_up (jf) 1 ((tvS panel merit vd (jf 0) (jf 1, (jf 2, jf 3)) i_1).1)) 2 (upd ((tvS panel merit vd (jf 0) (jf 1, (jf 2, jf 3)) i_1).2.1) (i_1) ((((tvS panel merit vd (jf 0) (jf 1, (jf 2, jf 3)) i_1).2.1) (i_1)) + (nI (1))))) 3 ((tvS panel merit vd (jf 0) (jf 1, (jf 2, jf 3)) i_1).2.2)) (jn)) hx hb hK hP hD hS 3 rfl (by omega) (by decide) (by first | rfl | (rw [updN_nI]; rfl)) dX3_takeVerdict_49 (fun H locs hP hD hS => ?_)
            refine lv_aload_n hx hb dX3_takeVerdict_50 rfl (lv_at hl 2 rfl) ?_
            refine g_get (v := .ref (J 4)) hx hb hts hown hK hP 0 rfl rfl gu_wsX30 3 (by decide) gm_3_12 rfl dX3_takeVerdict_51 ?_
            refine lv_iload hx hb dX3_takeVerdict_54 (lv_at hl 1 rfl) ?_
            refine lv_dup2_11 hx hb dX3_takeVerdict_56 rfl rfl ?_
            refine g_iald (x := ((tvS panel merit vd (jf 0) (jf 1, (jf 2, jf 3)) i_1).2.2) (i_1)) hx hb hK hP 4 rfl (by omega) (by decide) rfl dX3_takeVerdict_57 ?_
            refine lv_iload hx hb dX3_takeVerdict_58 (lv_at hl 0 rfl) ?_
            refine g_if_eq (P := 1 = 0) (tgt := 67) hx hb dX3_takeVerdict_60 (by decide) (nI_z (by omega)) (fun c_22 => ?_) (fun c_22 => ?_)
            · exact absurd c_22 (by decide)
            · refine lv_iconst (v := nI (1)) hx hb dX3_takeVerdict_63 gc_1 ?_
              refine lv_goto (tgt := 68) hx hb dX3_takeVerdict_64 (by decide) ?_
              refine lv_iadd hx hb dX3_takeVerdict_68 ?_
              refine g_iast (ws' := jw cA J (va_up (va_up (va_up (jf) 1 ((tvS panel merit vd (jf 0) (jf 1, (jf 2, jf 3)) i_1).1)) 2 (upd ((tvS panel merit vd (jf 0) (jf 1, (jf 2, jf 3)) i_1).2.1) (i_1) ((((tvS panel merit vd (jf 0) (jf 1, (jf 2, jf 3)) i_1).2.1) (i_1)) + (nI (1))))) 3 (upd ((tvS panel merit vd (jf 0) (jf 1, (jf 2, jf 3)) i_1).2.2) (i_1) ((((tvS panel merit vd (jf 0) (jf 1, (jf 2, jf 3)) i_1).2.2) (i_1)) + (nI (1))))) (jn)) hx hb hK hP hD hS 4 rfl (by omega) (by decide) (by first | rfl | (rw [updN_nI]; rfl)) dX3_takeVerdict_69 (fun H locs hP hD hS => ?_)
              refine lv_aload_n hx hb dX3_takeVerdict_70 rfl (lv_at hl 2 rfl) ?_
              refine g_get (v := .ref (J 2)) hx hb hts hown hK hP 0 rfl rfl gu_wsX30 1 (by decide) gm_3_10 rfl dX3_takeVerdict_71 ?_
              refine lv_iload hx hb dX3_takeVerdict_74 (lv_at hl 1 rfl) ?_
              refine lv_iload hx hb dX3_takeVerdict_76 (lv_at hl 0 rfl) ?_
              refine g_if_eq (P := 1 = 0) (tgt := 98) hx hb dX3_takeVerdict_78 (by decide) (nI_z (by omega)) (fun c_23 => ?_) (fun c_23 => ?_)
              · exact absurd c_23 (by decide)
              · refine lv_aload_n hx hb dX3_takeVerdict_81 rfl (lv_at hl 2 rfl) ?_
                refine g_get (v := .ref (J 2)) hx hb hts hown hK hP 0 rfl rfl gu_wsX30 1 (by decide) gm_3_10 rfl dX3_takeVerdict_82 ?_
                refine lv_iload hx hb dX3_takeVerdict_85 (lv_at hl 1 rfl) ?_
                refine g_iald (x := ((tvS panel merit vd (jf 0) (jf 1, (jf 2, jf 3)) i_1).1) (i_1)) hx hb hK hP 2 rfl (by omega) (by decide) rfl dX3_takeVerdict_87 ?_
                refine lv_iconst (v := nI (1)) hx hb dX3_takeVerdict_88 gc_1 ?_
                refine lv_iadd hx hb dX3_takeVerdict_89 ?_
                refine lv_bipush (v := nI (9)) hx hb dX3_takeVerdict_90 gb_9 ?_
                refine va_mmin hx hb (hml.trans hl.1.symm) hown (hts _ (List.mem_cons_of_mem _ gm_17_3)) (hts _ (List.mem_cons_of_mem _ gm_8_9)) (hts _ (List.mem_cons_of_mem _ gm_8_10)) (hts _ (List.mem_cons_of_mem _ gm_8_11)) (by decide) (Nat.le_of_ble_eq_true rfl) (Nat.zero_le _) (Nat.zero_le _) dX3_takeVerdict_92 ?_
                refine lv_goto (tgt := 111) hx hb dX3_takeVerdict_95 (by decide) ?_
                refine g_iast (ws' := jw cA J (va_up (va_up (va_up (jf) 1 (upd ((tvS panel merit vd (jf 0) (jf 1, (jf 2, jf 3)) i_1).1) (i_1) ((if nI (9) < (((tvS panel merit vd (jf 0) (jf 1, (jf 2, jf 3)) i_1).1) (i_1)) + (nI (1)) then nI (9) else (((tvS panel merit vd (jf 0) (jf 1, (jf 2, jf 3)) i_1).1) (i_1)) + (nI (1)))))) 2 (upd ((tvS panel merit vd (jf 0) (jf 1, (jf 2, jf 3)) i_1).2.1) (i_1) ((((tvS panel merit vd (jf 0) (jf 1, (jf 2, jf 3)) i_1).2.1) (i_1)) + (nI (1))))) 3 (upd ((tvS panel merit vd (jf 0) (jf 1, (jf 2, jf 3)) i_1).2.2) (i_1) ((((tvS panel merit vd (jf 0) (jf 1, (jf 2, jf 3)) i_1).2.2) (i_1)) + (nI (1))))) (jn)) hx hb hK hP hD hS 2 rfl (by omega) (by decide) (by first | rfl | (rw [updN_nI]; rfl)) dX3_takeVerdict_111 (fun H locs hP hD hS => ?_)
                refine lv_iinc (v := nI (i_1 + 1)) (lv' := [(4, .int (nI (i_1 + 1))), (5, .int (nI (1))), (0, .ref (J 0)), (1, .int (panel)), (2, .int (merit)), (3, .int (nI (vd)))]) hx hb dX3_takeVerdict_112 hl (k := 1) rfl (inc_1 _) (by decide) rfl (fun ls hl => ?_)
                refine lv_goto (tgt := 3) hx hb dX3_takeVerdict_115 (by decide) ?_
                exact ih_8 (i_1 + 1) _ (upd ((tvS panel merit vd (jf 0) (jf 1, (jf 2, jf 3)) i_1).1) (i_1) ((if nI (9) < (((tvS panel merit vd (jf 0) (jf 1, (jf 2, jf 3)) i_1).1) (i_1)) + (nI (1)) then nI (9) else (((tvS panel merit vd (jf 0) (jf 1, (jf 2, jf 3)) i_1).1) (i_1)) + (nI (1))))) (upd ((tvS panel merit vd (jf 0) (jf 1, (jf 2, jf 3)) i_1).2.1) (i_1) ((((tvS panel merit vd (jf 0) (jf 1, (jf 2, jf 3)) i_1).2.1) (i_1)) + (nI (1)))) (upd ((tvS panel merit vd (jf 0) (jf 1, (jf 2, jf 3)) i_1).2.2) (i_1) ((((tvS panel merit vd (jf 0) (jf 1, (jf 2, jf 3)) i_1).2.2) (i_1)) + (nI (1)))) H locs (by omega) (by omega) rfl (by rw [tvS_out c_17 c_19] <;> rfl) (by rw [tvS_out c_17 c_19] <;> rfl) (by rw [tvS_out c_17 c_19] <;> rfl) hP hS ls (lv_sub hl [0, 2, 3, 4, 5] rfl)
  exact LP_7 (jn + 1) 0 _ (jf 1) (jf 2) (jf 3) s.heap [] (by omega) (by omega) rfl rfl rfl rfl hP hS ls (lv_sub hl [0, 1, 2, 3, 4] rfl)

set_option maxHeartbeats 1000000 in
set_option maxRecDepth 100000 in
theorem c_X3_thoughtsToTurn (l : Launch) (D : va_G) (cA : Nat → ClassId) (J : Nat → Nat) (jf : Nat → Nat → Int32) (jn : Nat) (panel merit : Int32) (hA : aInj 5 J) (hjn : jn ≤ 9) : Met l yX3_thoughtsToTurn (gw yX3_thoughtsToTurn cX3_thoughtsToTurn 6 (some .int)) ({ frames := 2, cells := 0, slots := 0, locals := 48 } : Room) (gPc [.ref (J 0), .int (panel), .int (merit)] (fun H => va_P D vwCl (jw cA J (jf) (jn)) H) D cA) (wrI (fun r H => r = nI (ttF jn panel merit (jf 0, (jf 1, (jf 2, jf 3)))) ∧ ∃ jf9 : Nat → Nat → Int32, va_P D vwCl (jw cA J jf9 jn) H) (aS 5 J)) 0 0 (aS 5 J) := by
  refine gOf (by decide) (Nat.le_of_ble_eq_true rfl) ?_
  intro p e s m below meth c ls hx hb hml hr hlk hown hts hnm hP hK hl
  have hl : lv_has ls 6 [(0, .ref (J 0)), (1, .int (panel)), (2, .int (merit))] := hl
  have hD : va_D (aS 5 J) (jw cA J (jf) (jn)) := jwD hA
  have hS : va_S (aS 5 J) s.heap s.heap [] := va_S.rf
  refine lv_aload_n hx hb dX3_thoughtsToTurn_0 rfl (lv_at hl 0 rfl) ?_
  refine lv_iload_n hx hb dX3_thoughtsToTurn_1 rfl (lv_at hl 1 rfl) ?_
  refine lv_iload_n hx hb dX3_thoughtsToTurn_2 rfl (lv_at hl 2 rfl) ?_
  refine rd_calle (va_runV (As := [.int (panel), .int (merit)]) (rest := []) ⟨hx, hb, hml, hown, hts⟩ (c_X3_verdictByCount l D cA J (jf) (jn) (panel) (merit)  hjn) (cwV 2 hts (gWV gm_29_19 gm_16_16 gm_16_17 gm_2_5 gm_16_18) rfl rfl rfl (by decide +kernel) ⟨Nat.le_of_ble_eq_true rfl, Nat.le_of_ble_eq_true rfl⟩) (gPreV hK (g_rf hK hP (ci := 5) (q0 := 0) rfl rfl) hP) rfl rfl hl.1 rfl (lv_room (Nat.le_of_ble_eq_true rfl)) dX3_thoughtsToTurn_3 ⟨by omega, by omega⟩) ?_
  refine lv_istore_n (lv' := [(3, .int (nI (vdF (jf 0) (jf 1) jn (panel) (merit)))), (0, .ref (J 0)), (1, .int (panel)), (2, .int (merit))]) hx hb dX3_thoughtsToTurn_6 rfl hl (by decide) rfl (fun ls hl => ?_)
  refine lv_iconst (v := nI (1)) hx hb dX3_thoughtsToTurn_7 gc_1 ?_
  refine lv_istore (lv' := [(4, .int (nI (1))), (3, .int (nI (vdF (jf 0) (jf 1) jn (panel) (merit)))), (0, .ref (J 0)), (1, .int (panel)), (2, .int (merit))]) hx hb dX3_thoughtsToTurn_8 hl (by decide) rfl (fun ls hl => ?_)
  have LP_8 : ∀ (n_2 i_1 : Nat) (x_3 : Int32) (F_4 : Nat → Int32) (F_5 : Nat → Int32) (F_6 : Nat → Int32) (F_7 : Nat → Int32) (H : Heap) (locs : List Loc), i_1 ≤ 41 → 41 + 1 ≤ i_1 + n_2 → x_3 = nI (i_1) → F_4 = (ttS jn panel merit (jf 0, (jf 1, (jf 2, jf 3))) i_1).1 → F_5 = (ttS jn panel merit (jf 0, (jf 1, (jf 2, jf 3))) i_1).2.1 → F_6 = (ttS jn panel merit (jf 0, (jf 1, (jf 2, jf 3))) i_1).2.2.1 → F_7 = (ttS jn panel merit (jf 0, (jf 1, (jf 2, jf 3))) i_1).2.2.2 → (fnd (ttQ jn panel merit (jf 0, (jf 1, (jf 2, jf 3)))) (i_1) = none) → (1 ≤ i_1) → va_P D vwCl (jw cA J (va_up (va_up (va_up (va_up (jf) 0 (F_4)) 1 (F_5)) 2 (F_6)) 3 (F_7)) (jn)) H → va_S (aS 5 J) s.heap H locs → ∀ (ls : Array Slot), lv_has ls 6 [(4, .int (x_3)), (3, .int (nI (vdF (jf 0) (jf 1) jn (panel) (merit)))), (0, .ref (J 0)), (1, .int (panel)), (2, .int (merit))] → W p l e ({ frames := 2, cells := 0, slots := 0, locals := 48 } : Room) s m ([.ref (J 0), .int (panel), .int (merit)] : List Value).toArray below meth c H locs 0 0 (MQ below (wrI (fun r H => r = nI (ttF jn panel merit (jf 0, (jf 1, (jf 2, jf 3)))) ∧ ∃ jf9 : Nat → Nat → Int32, va_P D vwCl (jw cA J jf9 jn) H) (aS 5 J)) ([.ref (J 0), .int (panel), .int (merit)] : List Value).toArray s 0 0 (aS 5 J)) (F0 m 10 ls []) := by
    intro n_2
    induction n_2 with
    | zero => intro i_1 x_3 F_4 F_5 F_6 F_7 H locs h1 h2; exact absurd h2 (by omega)
    | succ n_2 ih_9 =>
      intro i_1 x_3 F_4 F_5 F_6 F_7 H locs h_10 h_11 e_12 e_13 e_14 e_15 e_16 hv hp1 hP hS ls hl
      subst e_12
      subst e_13
      subst e_14
      subst e_15
      subst e_16
      have hD : va_D (aS 5 J) (jw cA J (va_up (va_up (va_up (va_up (jf) 0 ((ttS jn panel merit (jf 0, (jf 1, (jf 2, jf 3))) i_1).1)) 1 ((ttS jn panel merit (jf 0, (jf 1, (jf 2, jf 3))) i_1).2.1)) 2 ((ttS jn panel merit (jf 0, (jf 1, (jf 2, jf 3))) i_1).2.2.1)) 3 ((ttS jn panel merit (jf 0, (jf 1, (jf 2, jf 3))) i_1).2.2.2)) (jn)) := jwD hA
      refine lv_iload hx hb dX3_thoughtsToTurn_10 (lv_at hl 0 rfl) ?_
      refine lv_bipush (v := nI (40)) hx hb dX3_thoughtsToTurn_12 gb_40 ?_
      refine g_icmp_gt (P := 40 < i_1) (tgt := 55) hx hb dX3_thoughtsToTurn_14 (by decide) (nI_ltI (by omega) (by omega)) (fun c_17 => ?_) (fun c_17 => ?_)
      · have d_17 : ¬ i_1 ≤ 40 := Nat.not_le.mpr c_17
        have hN_18 : 41 = i_1 := by omega
        subst hN_18
        refine lv_iconst (v := nI (0)) hx hb dX3_thoughtsToTurn_55 gc_0 ?_
        exact g_iretW (v := nI (0)) hx hb hr hlk hS dX3_thoughtsToTurn_56 (⟨by rw [ttF, hv]; rfl, _, hP⟩)
      · have d_17 : i_1 ≤ 40 := Nat.not_lt.mp c_17
        refine lv_aload_n hx hb dX3_thoughtsToTurn_17 rfl (lv_at hl 2 rfl) ?_
        refine lv_iload_n hx hb dX3_thoughtsToTurn_18 rfl (lv_at hl 3 rfl) ?_
        refine lv_iload_n hx hb dX3_thoughtsToTurn_19 rfl (lv_at hl 4 rfl) ?_
        refine wr_calli (va_runV (As := [.int (panel), .int (merit)]) (rest := []) ⟨hx, hb, hml, hown, hts⟩ (c_X3_thinkOver l D cA J (va_up (va_up (va_up (va_up (jf) 0 ((ttS jn panel merit (jf 0, (jf 1, (jf 2, jf 3))) i_1).1)) 1 ((ttS jn panel merit (jf 0, (jf 1, (jf 2, jf 3))) i_1).2.1)) 2 ((ttS jn panel merit (jf 0, (jf 1, (jf 2, jf 3))) i_1).2.2.1)) 3 ((ttS jn panel merit (jf 0, (jf 1, (jf 2, jf 3))) i_1).2.2.2)) (jn) (panel) (merit) hA hjn) (cwV 2 hts (gWV gm_29_20 gm_19_16 gm_19_17 gm_2_5 gm_19_18) rfl rfl rfl (by decide +kernel) ⟨Nat.le_of_ble_eq_true rfl, Nat.le_of_ble_eq_true rfl⟩) (gPreV hK (g_rf hK hP (ci := 5) (q0 := 0) rfl rfl) hP) rfl rfl hl.1 rfl (lv_room (Nat.le_of_ble_eq_true rfl)) dX3_thoughtsToTurn_20 ⟨by omega, by omega⟩) hS (fun q _ h => h) (fun q h => h) (fun r H locs hw9 hz9 hk9 hS => ?_)
        obtain ⟨rfl, hP⟩ := hw9
        have hP : va_P D vwCl (jw cA J (va_up (va_up (va_up (va_up (jf) 0 ((toS (panel) (merit) (((ttS jn panel merit (jf 0, (jf 1, (jf 2, jf 3))) i_1).2.1)) (((ttS jn panel merit (jf 0, (jf 1, (jf 2, jf 3))) i_1).1)) jn).2)) 1 ((ttS jn panel merit (jf 0, (jf 1, (jf 2, jf 3))) i_1).2.1)) 2 ((ttS jn panel merit (jf 0, (jf 1, (jf 2, jf 3))) i_1).2.2.1)) 3 ((ttS jn panel merit (jf 0, (jf 1, (jf 2, jf 3))) i_1).2.2.2)) (jn)) H := hP
        have hD : va_D (aS 5 J) (jw cA J (va_up (va_up (va_up (va_up (jf) 0 ((toS (panel) (merit) (((ttS jn panel merit (jf 0, (jf 1, (jf 2, jf 3))) i_1).2.1)) (((ttS jn panel merit (jf 0, (jf 1, (jf 2, jf 3))) i_1).1)) jn).2)) 1 ((ttS jn panel merit (jf 0, (jf 1, (jf 2, jf 3))) i_1).2.1)) 2 ((ttS jn panel merit (jf 0, (jf 1, (jf 2, jf 3))) i_1).2.2.1)) 3 ((ttS jn panel merit (jf 0, (jf 1, (jf 2, jf 3))) i_1).2.2.2)) (jn)) := jwD hA
        refine lv_pop hx hb dX3_thoughtsToTurn_23 rfl ?_
        refine lv_aload_n hx hb dX3_thoughtsToTurn_24 rfl (lv_at hl 2 rfl) ?_
        refine lv_iload_n hx hb dX3_thoughtsToTurn_25 rfl (lv_at hl 3 rfl) ?_
        refine lv_iload_n hx hb dX3_thoughtsToTurn_26 rfl (lv_at hl 4 rfl) ?_
        refine rd_calle (va_runV (As := [.int (panel), .int (merit)]) (rest := []) ⟨hx, hb, hml, hown, hts⟩ (c_X3_verdictByCount l D cA J (va_up (va_up (va_up (va_up (jf) 0 ((toS (panel) (merit) (((ttS jn panel merit (jf 0, (jf 1, (jf 2, jf 3))) i_1).2.1)) (((ttS jn panel merit (jf 0, (jf 1, (jf 2, jf 3))) i_1).1)) jn).2)) 1 ((ttS jn panel merit (jf 0, (jf 1, (jf 2, jf 3))) i_1).2.1)) 2 ((ttS jn panel merit (jf 0, (jf 1, (jf 2, jf 3))) i_1).2.2.1)) 3 ((ttS jn panel merit (jf 0, (jf 1, (jf 2, jf 3))) i_1).2.2.2)) (jn) (panel) (merit)  hjn) (cwV 2 hts (gWV gm_29_19 gm_16_16 gm_16_17 gm_2_5 gm_16_18) rfl rfl rfl (by decide +kernel) ⟨Nat.le_of_ble_eq_true rfl, Nat.le_of_ble_eq_true rfl⟩) (gPreV hK (g_rf hK hP (ci := 5) (q0 := 0) rfl rfl) hP) rfl rfl hl.1 rfl (lv_room (Nat.le_of_ble_eq_true rfl)) dX3_thoughtsToTurn_27 ⟨by omega, by omega⟩) ?_
        have hle_19 := vdF_le ((toS (panel) (merit) (((ttS jn panel merit (jf 0, (jf 1, (jf 2, jf 3))) i_1).2.1)) (((ttS jn panel merit (jf 0, (jf 1, (jf 2, jf 3))) i_1).1)) jn).2) ((ttS jn panel merit (jf 0, (jf 1, (jf 2, jf 3))) i_1).2.1) jn panel merit
        have hle_20 := vdF_le (jf 0) (jf 1) jn panel merit
        refine lv_istore (lv' := [(5, .int (nI (vdF (((toS (panel) (merit) (((ttS jn panel merit (jf 0, (jf 1, (jf 2, jf 3))) i_1).2.1)) (((ttS jn panel merit (jf 0, (jf 1, (jf 2, jf 3))) i_1).1)) jn).2)) (((ttS jn panel merit (jf 0, (jf 1, (jf 2, jf 3))) i_1).2.1)) jn (panel) (merit)))), (4, .int (nI (i_1))), (3, .int (nI (vdF (jf 0) (jf 1) jn (panel) (merit)))), (0, .ref (J 0)), (1, .int (panel)), (2, .int (merit))]) hx hb dX3_thoughtsToTurn_30 hl (by decide) rfl (fun ls hl => ?_)
        refine lv_iload hx hb dX3_thoughtsToTurn_32 (lv_at hl 0 rfl) ?_
        refine lv_iload_n hx hb dX3_thoughtsToTurn_34 rfl (lv_at hl 2 rfl) ?_
        refine g_icmp_eq (P := vdF (((toS (panel) (merit) (((ttS jn panel merit (jf 0, (jf 1, (jf 2, jf 3))) i_1).2.1)) (((ttS jn panel merit (jf 0, (jf 1, (jf 2, jf 3))) i_1).1)) jn).2)) (((ttS jn panel merit (jf 0, (jf 1, (jf 2, jf 3))) i_1).2.1)) jn (panel) (merit) = vdF (jf 0) (jf 1) jn (panel) (merit)) (tgt := 41) hx hb dX3_thoughtsToTurn_35 (by decide) (nI_eq (by omega) (by omega)) (fun c_21 => ?_) (fun c_21 => ?_)
        · refine lv_aload_n hx hb dX3_thoughtsToTurn_41 rfl (lv_at hl 3 rfl) ?_
          refine lv_iload_n hx hb dX3_thoughtsToTurn_42 rfl (lv_at hl 4 rfl) ?_
          refine lv_iload_n hx hb dX3_thoughtsToTurn_43 rfl (lv_at hl 5 rfl) ?_
          refine lv_iload hx hb dX3_thoughtsToTurn_44 (lv_at hl 0 rfl) ?_
          refine wr_callv (va_runV (As := [.int (panel), .int (merit), .int (nI (vdF (((toS (panel) (merit) (((ttS jn panel merit (jf 0, (jf 1, (jf 2, jf 3))) i_1).2.1)) (((ttS jn panel merit (jf 0, (jf 1, (jf 2, jf 3))) i_1).1)) jn).2)) (((ttS jn panel merit (jf 0, (jf 1, (jf 2, jf 3))) i_1).2.1)) jn (panel) (merit)))]) (rest := []) ⟨hx, hb, hml, hown, hts⟩ (c_X3_takeVerdict l D cA J (va_up (va_up (va_up (va_up (jf) 0 ((toS (panel) (merit) (((ttS jn panel merit (jf 0, (jf 1, (jf 2, jf 3))) i_1).2.1)) (((ttS jn panel merit (jf 0, (jf 1, (jf 2, jf 3))) i_1).1)) jn).2)) 1 ((ttS jn panel merit (jf 0, (jf 1, (jf 2, jf 3))) i_1).2.1)) 2 ((ttS jn panel merit (jf 0, (jf 1, (jf 2, jf 3))) i_1).2.2.1)) 3 ((ttS jn panel merit (jf 0, (jf 1, (jf 2, jf 3))) i_1).2.2.2)) (jn) (panel) (merit) (vdF (((toS (panel) (merit) (((ttS jn panel merit (jf 0, (jf 1, (jf 2, jf 3))) i_1).2.1)) (((ttS jn panel merit (jf 0, (jf 1, (jf 2, jf 3))) i_1).1)) jn).2)) (((ttS jn panel merit (jf 0, (jf 1, (jf 2, jf 3))) i_1).2.1)) jn (panel) (merit)) hA hjn (by omega)) (cwV 3 hts (gWV gm_29_21 gm_17_0 gm_17_1 gm_2_5 gm_17_2) rfl rfl rfl (by decide +kernel) ⟨Nat.le_of_ble_eq_true rfl, Nat.le_of_ble_eq_true rfl⟩) (gPreV hK (g_rf hK hP (ci := 5) (q0 := 0) rfl rfl) hP) rfl rfl hl.1 rfl (lv_room (Nat.le_of_ble_eq_true rfl)) dX3_thoughtsToTurn_46 ⟨by omega, by omega⟩) hS (fun q _ h => h) (fun q h => h) (fun H locs hP hz9 hk9 hS => ?_)
          have hP : va_P D vwCl (jw cA J (va_up (va_up (va_up (va_up (jf) 0 ((toS (panel) (merit) (((ttS jn panel merit (jf 0, (jf 1, (jf 2, jf 3))) i_1).2.1)) (((ttS jn panel merit (jf 0, (jf 1, (jf 2, jf 3))) i_1).1)) jn).2)) 1 ((tvS (panel) (merit) (vdF (((toS (panel) (merit) (((ttS jn panel merit (jf 0, (jf 1, (jf 2, jf 3))) i_1).2.1)) (((ttS jn panel merit (jf 0, (jf 1, (jf 2, jf 3))) i_1).1)) jn).2)) (((ttS jn panel merit (jf 0, (jf 1, (jf 2, jf 3))) i_1).2.1)) jn (panel) (merit)) (((toS (panel) (merit) (((ttS jn panel merit (jf 0, (jf 1, (jf 2, jf 3))) i_1).2.1)) (((ttS jn panel merit (jf 0, (jf 1, (jf 2, jf 3))) i_1).1)) jn).2)) (((ttS jn panel merit (jf 0, (jf 1, (jf 2, jf 3))) i_1).2.1), (((ttS jn panel merit (jf 0, (jf 1, (jf 2, jf 3))) i_1).2.2.1), ((ttS jn panel merit (jf 0, (jf 1, (jf 2, jf 3))) i_1).2.2.2))) jn).1)) 2 ((tvS (panel) (merit) (vdF (((toS (panel) (merit) (((ttS jn panel merit (jf 0, (jf 1, (jf 2, jf 3))) i_1).2.1)) (((ttS jn panel merit (jf 0, (jf 1, (jf 2, jf 3))) i_1).1)) jn).2)) (((ttS jn panel merit (jf 0, (jf 1, (jf 2, jf 3))) i_1).2.1)) jn (panel) (merit)) (((toS (panel) (merit) (((ttS jn panel merit (jf 0, (jf 1, (jf 2, jf 3))) i_1).2.1)) (((ttS jn panel merit (jf 0, (jf 1, (jf 2, jf 3))) i_1).1)) jn).2)) (((ttS jn panel merit (jf 0, (jf 1, (jf 2, jf 3))) i_1).2.1), (((ttS jn panel merit (jf 0, (jf 1, (jf 2, jf 3))) i_1).2.2.1), ((ttS jn panel merit (jf 0, (jf 1, (jf 2, jf 3))) i_1).2.2.2))) jn).2.1)) 3 ((tvS (panel) (merit) (vdF (((toS (panel) (merit) (((ttS jn panel merit (jf 0, (jf 1, (jf 2, jf 3))) i_1).2.1)) (((ttS jn panel merit (jf 0, (jf 1, (jf 2, jf 3))) i_1).1)) jn).2)) (((ttS jn panel merit (jf 0, (jf 1, (jf 2, jf 3))) i_1).2.1)) jn (panel) (merit)) (((toS (panel) (merit) (((ttS jn panel merit (jf 0, (jf 1, (jf 2, jf 3))) i_1).2.1)) (((ttS jn panel merit (jf 0, (jf 1, (jf 2, jf 3))) i_1).1)) jn).2)) (((ttS jn panel merit (jf 0, (jf 1, (jf 2, jf 3))) i_1).2.1), (((ttS jn panel merit (jf 0, (jf 1, (jf 2, jf 3))) i_1).2.2.1), ((ttS jn panel merit (jf 0, (jf 1, (jf 2, jf 3))) i_1).2.2.2))) jn).2.2)) (jn)) H := hP
          have hD : va_D (aS 5 J) (jw cA J (va_up (va_up (va_up (va_up (jf) 0 ((toS (panel) (merit) (((ttS jn panel merit (jf 0, (jf 1, (jf 2, jf 3))) i_1).2.1)) (((ttS jn panel merit (jf 0, (jf 1, (jf 2, jf 3))) i_1).1)) jn).2)) 1 ((tvS (panel) (merit) (vdF (((toS (panel) (merit) (((ttS jn panel merit (jf 0, (jf 1, (jf 2, jf 3))) i_1).2.1)) (((ttS jn panel merit (jf 0, (jf 1, (jf 2, jf 3))) i_1).1)) jn).2)) (((ttS jn panel merit (jf 0, (jf 1, (jf 2, jf 3))) i_1).2.1)) jn (panel) (merit)) (((toS (panel) (merit) (((ttS jn panel merit (jf 0, (jf 1, (jf 2, jf 3))) i_1).2.1)) (((ttS jn panel merit (jf 0, (jf 1, (jf 2, jf 3))) i_1).1)) jn).2)) (((ttS jn panel merit (jf 0, (jf 1, (jf 2, jf 3))) i_1).2.1), (((ttS jn panel merit (jf 0, (jf 1, (jf 2, jf 3))) i_1).2.2.1), ((ttS jn panel merit (jf 0, (jf 1, (jf 2, jf 3))) i_1).2.2.2))) jn).1)) 2 ((tvS (panel) (merit) (vdF (((toS (panel) (merit) (((ttS jn panel merit (jf 0, (jf 1, (jf 2, jf 3))) i_1).2.1)) (((ttS jn panel merit (jf 0, (jf 1, (jf 2, jf 3))) i_1).1)) jn).2)) (((ttS jn panel merit (jf 0, (jf 1, (jf 2, jf 3))) i_1).2.1)) jn (panel) (merit)) (((toS (panel) (merit) (((ttS jn panel merit (jf 0, (jf 1, (jf 2, jf 3))) i_1).2.1)) (((ttS jn panel merit (jf 0, (jf 1, (jf 2, jf 3))) i_1).1)) jn).2)) (((ttS jn panel merit (jf 0, (jf 1, (jf 2, jf 3))) i_1).2.1), (((ttS jn panel merit (jf 0, (jf 1, (jf 2, jf 3))) i_1).2.2.1), ((ttS jn panel merit (jf 0, (jf 1, (jf 2, jf 3))) i_1).2.2.2))) jn).2.1)) 3 ((tvS (panel) (merit) (vdF (((toS (panel) (merit) (((ttS jn panel merit (jf 0, (jf 1, (jf 2, jf 3))) i_1).2.1)) (((ttS jn panel merit (jf 0, (jf 1, (jf 2, jf 3))) i_1).1)) jn).2)) (((ttS jn panel merit (jf 0, (jf 1, (jf 2, jf 3))) i_1).2.1)) jn (panel) (merit)) (((toS (panel) (merit) (((ttS jn panel merit (jf 0, (jf 1, (jf 2, jf 3))) i_1).2.1)) (((ttS jn panel merit (jf 0, (jf 1, (jf 2, jf 3))) i_1).1)) jn).2)) (((ttS jn panel merit (jf 0, (jf 1, (jf 2, jf 3))) i_1).2.1), (((ttS jn panel merit (jf 0, (jf 1, (jf 2, jf 3))) i_1).2.2.1), ((ttS jn panel merit (jf 0, (jf 1, (jf 2, jf 3))) i_1).2.2.2))) jn).2.2)) (jn)) := jwD hA
          refine lv_iinc (v := nI (i_1 + 1)) (lv' := [(4, .int (nI (i_1 + 1))), (5, .int (nI (vdF (((toS (panel) (merit) (((ttS jn panel merit (jf 0, (jf 1, (jf 2, jf 3))) i_1).2.1)) (((ttS jn panel merit (jf 0, (jf 1, (jf 2, jf 3))) i_1).1)) jn).2)) (((ttS jn panel merit (jf 0, (jf 1, (jf 2, jf 3))) i_1).2.1)) jn (panel) (merit)))), (3, .int (nI (vdF (jf 0) (jf 1) jn (panel) (merit)))), (0, .ref (J 0)), (1, .int (panel)), (2, .int (merit))]) hx hb dX3_thoughtsToTurn_49 hl (k := 1) rfl (inc_1 _) (by decide) rfl (fun ls hl => ?_)
          refine lv_goto (tgt := 10) hx hb dX3_thoughtsToTurn_52 (by decide) ?_
          exact ih_9 (i_1 + 1) _ ((toS (panel) (merit) (((ttS jn panel merit (jf 0, (jf 1, (jf 2, jf 3))) i_1).2.1)) (((ttS jn panel merit (jf 0, (jf 1, (jf 2, jf 3))) i_1).1)) jn).2) ((tvS (panel) (merit) (vdF (((toS (panel) (merit) (((ttS jn panel merit (jf 0, (jf 1, (jf 2, jf 3))) i_1).2.1)) (((ttS jn panel merit (jf 0, (jf 1, (jf 2, jf 3))) i_1).1)) jn).2)) (((ttS jn panel merit (jf 0, (jf 1, (jf 2, jf 3))) i_1).2.1)) jn (panel) (merit)) (((toS (panel) (merit) (((ttS jn panel merit (jf 0, (jf 1, (jf 2, jf 3))) i_1).2.1)) (((ttS jn panel merit (jf 0, (jf 1, (jf 2, jf 3))) i_1).1)) jn).2)) (((ttS jn panel merit (jf 0, (jf 1, (jf 2, jf 3))) i_1).2.1), (((ttS jn panel merit (jf 0, (jf 1, (jf 2, jf 3))) i_1).2.2.1), ((ttS jn panel merit (jf 0, (jf 1, (jf 2, jf 3))) i_1).2.2.2))) jn).1) ((tvS (panel) (merit) (vdF (((toS (panel) (merit) (((ttS jn panel merit (jf 0, (jf 1, (jf 2, jf 3))) i_1).2.1)) (((ttS jn panel merit (jf 0, (jf 1, (jf 2, jf 3))) i_1).1)) jn).2)) (((ttS jn panel merit (jf 0, (jf 1, (jf 2, jf 3))) i_1).2.1)) jn (panel) (merit)) (((toS (panel) (merit) (((ttS jn panel merit (jf 0, (jf 1, (jf 2, jf 3))) i_1).2.1)) (((ttS jn panel merit (jf 0, (jf 1, (jf 2, jf 3))) i_1).1)) jn).2)) (((ttS jn panel merit (jf 0, (jf 1, (jf 2, jf 3))) i_1).2.1), (((ttS jn panel merit (jf 0, (jf 1, (jf 2, jf 3))) i_1).2.2.1), ((ttS jn panel merit (jf 0, (jf 1, (jf 2, jf 3))) i_1).2.2.2))) jn).2.1) ((tvS (panel) (merit) (vdF (((toS (panel) (merit) (((ttS jn panel merit (jf 0, (jf 1, (jf 2, jf 3))) i_1).2.1)) (((ttS jn panel merit (jf 0, (jf 1, (jf 2, jf 3))) i_1).1)) jn).2)) (((ttS jn panel merit (jf 0, (jf 1, (jf 2, jf 3))) i_1).2.1)) jn (panel) (merit)) (((toS (panel) (merit) (((ttS jn panel merit (jf 0, (jf 1, (jf 2, jf 3))) i_1).2.1)) (((ttS jn panel merit (jf 0, (jf 1, (jf 2, jf 3))) i_1).1)) jn).2)) (((ttS jn panel merit (jf 0, (jf 1, (jf 2, jf 3))) i_1).2.1), (((ttS jn panel merit (jf 0, (jf 1, (jf 2, jf 3))) i_1).2.2.1), ((ttS jn panel merit (jf 0, (jf 1, (jf 2, jf 3))) i_1).2.2.2))) jn).2.2) H locs (by omega) (by omega) rfl (by rw [ttS_s hp1]; rfl) (by rw [ttS_s hp1]; rfl) (by rw [ttS_s hp1]; rfl) (by rw [ttS_s hp1]; rfl) (fnd_succ_none hv (ttQ_f c_21)) (by omega) hP hS ls (lv_sub hl [0, 2, 3, 4, 5] rfl)
        · refine lv_iload hx hb dX3_thoughtsToTurn_38 (lv_at hl 1 rfl) ?_
          exact g_iretW (v := nI (i_1)) hx hb hr hlk hS dX3_thoughtsToTurn_40 (⟨by rw [ttF, fnd_stop hv (ttQ_t hp1 c_21) 41 (by omega)]; rfl, _, hP⟩)
  exact LP_8 (41 + 1) 1 _ (jf 0) (jf 1) (jf 2) (jf 3) s.heap [] (by omega) (by omega) rfl rfl rfl rfl rfl rfl (Nat.le_refl 1) hP hS ls (lv_sub hl [0, 1, 2, 3, 4] rfl)

set_option maxHeartbeats 1000000 in
set_option maxRecDepth 100000 in
theorem c_X0_closeRipe (l : Launch) (D : va_G) (cA : Nat → ClassId) (K : Nat → Nat) (kf : Nat → Nat → Int32) (rw : Nat → Nat) (cn rl : Nat) (night : Int32) (hA : aInj 10 K) (hcn : cn ≤ 10) : Met l yX0_closeRipe (gw yX0_closeRipe cX0_closeRipe 3 none) ({ frames := 2, cells := 0, slots := 0, locals := 43 } : Room) (gPc [.ref (K 0), .int (night)] (fun H => va_P D vwCl (kw cA K (kf) (rw) (cn) (rl)) H) D cA) (wrV (fun H => va_P D vwCl (kw cA K (va_up kf 5 (crS kf night cn)) rw cn rl) H) (aS 10 K)) 0 0 (aS 10 K) := by
  refine gOf (by decide) (Nat.le_of_ble_eq_true rfl) ?_
  intro p e s m below meth c ls hx hb hml hr hlk hown hts hnm hP hK hl
  have hl : lv_has ls 3 [(0, .ref (K 0)), (1, .int (night))] := hl
  have hD : va_D (aS 10 K) (kw cA K (kf) (rw) (cn) (rl)) := kwD hA
  have hS : va_S (aS 10 K) s.heap s.heap [] := va_S.rf
  refine lv_iconst (v := nI (0)) hx hb dX0_closeRipe_0 gc_0 ?_
  refine lv_istore_n (lv' := [(2, .int (nI (0))), (0, .ref (K 0)), (1, .int (night))]) hx hb dX0_closeRipe_1 rfl hl (by decide) rfl (fun ls hl => ?_)
  have LP_5 : ∀ (n_2 i_1 : Nat) (x_3 : Int32) (F_4 : Nat → Int32) (H : Heap) (locs : List Loc), i_1 ≤ cn → cn + 1 ≤ i_1 + n_2 → x_3 = nI (i_1) → F_4 = crS kf night i_1 → va_P D vwCl (kw cA K (va_up (kf) 5 (F_4)) (rw) (cn) (rl)) H → va_S (aS 10 K) s.heap H locs → ∀ (ls : Array Slot), lv_has ls 3 [(2, .int (x_3)), (0, .ref (K 0)), (1, .int (night))] → W p l e ({ frames := 2, cells := 0, slots := 0, locals := 43 } : Room) s m ([.ref (K 0), .int (night)] : List Value).toArray below meth c H locs 0 0 (MQ below (wrV (fun H => va_P D vwCl (kw cA K (va_up kf 5 (crS kf night cn)) rw cn rl) H) (aS 10 K)) ([.ref (K 0), .int (night)] : List Value).toArray s 0 0 (aS 10 K)) (F0 m 2 ls []) := by
    intro n_2
    induction n_2 with
    | zero => intro i_1 x_3 F_4 H locs h1 h2; exact absurd h2 (by omega)
    | succ n_2 ih_6 =>
      intro i_1 x_3 F_4 H locs h_7 h_8 e_9 e_10 hP hS ls hl
      subst e_9
      subst e_10
      have hD : va_D (aS 10 K) (kw cA K (va_up (kf) 5 (crS kf night i_1)) (rw) (cn) (rl)) := kwD hA
      refine lv_iload_n hx hb dX0_closeRipe_2 rfl (lv_at hl 0 rfl) ?_
      refine lv_aload_n hx hb dX0_closeRipe_3 rfl (lv_at hl 1 rfl) ?_
      refine g_get (v := .int (nI (cn))) hx hb hts hown hK hP 0 rfl rfl gu_wsX00 9 (by decide) gm_4_2 rfl dX0_closeRipe_4 ?_
      refine g_icmp_ge (P := cn ≤ i_1) (tgt := 32) hx hb dX0_closeRipe_7 (by decide) (nI_leI (by omega) (by omega)) (fun c_11 => ?_) (fun c_11 => ?_)
      · have d_11 : ¬ i_1 < cn := Nat.not_lt.mpr c_11
        have hN_12 : cn = i_1 := by omega
        subst hN_12
        exact g_vretW hx hb hr hlk hS dX0_closeRipe_32 (hP)
      · have d_11 : i_1 < cn := Nat.not_le.mp c_11
        refine lv_aload_n hx hb dX0_closeRipe_10 rfl (lv_at hl 1 rfl) ?_
        refine lv_iload_n hx hb dX0_closeRipe_11 rfl (lv_at hl 0 rfl) ?_
        refine lv_iload_n hx hb dX0_closeRipe_12 rfl (lv_at hl 2 rfl) ?_
        refine rd_calle (va_runV (As := [.int (nI (i_1)), .int (night)]) (rest := []) ⟨hx, hb, hml, hown, hts⟩ (c_X0_isRipe l D cA K (va_up (kf) 5 (crS kf night i_1)) (rw) (cn) (rl) (i_1) (night)  (by omega)) (cwV 2 hts (gWV gm_23_8 gm_23_9 gm_23_10 gm_3_0 gm_23_11) rfl rfl rfl (by decide +kernel) ⟨Nat.le_of_ble_eq_true rfl, Nat.le_of_ble_eq_true rfl⟩) (gPreV hK (g_rf hK hP (ci := 2) (q0 := 0) rfl rfl) hP) rfl rfl hl.1 rfl (lv_room (Nat.le_of_ble_eq_true rfl)) dX0_closeRipe_13 ⟨by omega, by omega⟩) ?_
        refine g_if_eq (P := rpF (va_up (kf) 5 (crS kf night i_1)) (i_1) (night) = false) (tgt := 26) hx hb dX0_closeRipe_16 (by decide) b2i_0 (fun c_13 => ?_) (fun c_13 => ?_)
        · refine lv_iinc (v := nI (i_1 + 1)) (lv' := [(2, .int (nI (i_1 + 1))), (0, .ref (K 0)), (1, .int (night))]) hx hb dX0_closeRipe_26 hl (k := 0) rfl (inc_1 _) (by decide) rfl (fun ls hl => ?_)
          refine lv_goto (tgt := 2) hx hb dX0_closeRipe_29 (by decide) ?_
          exact ih_6 (i_1 + 1) _ (crS kf night i_1) H locs (by omega) (by omega) rfl (by rw [crS, if_neg (bnt c_13)]) hP hS ls (lv_sub hl [0, 1, 2] rfl)
        · have c_13 : rpF (va_up (kf) 5 (crS kf night i_1)) (i_1) (night) = true := eq_true_of_ne_false c_13
          refine lv_aload_n hx hb dX0_closeRipe_19 rfl (lv_at hl 1 rfl) ?_
          refine g_get (v := .ref (K 6)) hx hb hts hown hK hP 0 rfl rfl gu_wsX00 5 (by decide) gm_3_22 rfl dX0_closeRipe_20 ?_
          refine lv_iload_n hx hb dX0_closeRipe_23 rfl (lv_at hl 0 rfl) ?_
          refine lv_iload_n hx hb dX0_closeRipe_24 rfl (lv_at hl 2 rfl) ?_
          refine g_iast (ws' := kw cA K (va_up (kf) 5 (upd (crS kf night i_1) (i_1) (night))) (rw) (cn) (rl)) hx hb hK hP hD hS 6 rfl (by omega) (by decide) (by first | rfl | (rw [updN_nI]; rfl)) dX0_closeRipe_25 (fun H locs hP hD hS => ?_)
          refine lv_iinc (v := nI (i_1 + 1)) (lv' := [(2, .int (nI (i_1 + 1))), (0, .ref (K 0)), (1, .int (night))]) hx hb dX0_closeRipe_26 hl (k := 0) rfl (inc_1 _) (by decide) rfl (fun ls hl => ?_)
          refine lv_goto (tgt := 2) hx hb dX0_closeRipe_29 (by decide) ?_
          exact ih_6 (i_1 + 1) _ (upd (crS kf night i_1) (i_1) (night)) H locs (by omega) (by omega) rfl (by rw [crS, if_pos c_13]) hP hS ls (lv_sub hl [0, 1, 2] rfl)
  exact LP_5 (cn + 1) 0 _ (kf 5) s.heap [] (by omega) (by omega) rfl rfl hP hS ls (lv_sub hl [0, 1, 2] rfl)

set_option maxHeartbeats 1000000 in
set_option maxRecDepth 100000 in
theorem c_X0_enroll (l : Launch) (D : va_G) (cA : Nat → ClassId) (K : Nat → Nat) (kf : Nat → Nat → Int32) (rw : Nat → Nat) (cn rl : Nat) (q : Nat) (hA : aInj 10 K) (hr9 : rl ≤ 9) (hrw : ∀ k, k < rl → rw k < 10) (hq : q < 10) : Met l yX0_enroll (gw yX0_enroll cX0_enroll 3 none) ({ frames := 1, cells := 0, slots := 0, locals := 22 } : Room) (gPc [.ref (K 0), .int (nI (q))] (fun H => va_P D vwCl (kw cA K (kf) (rw) (cn) (rl)) H) D cA) (wrV (fun H => va_P D vwCl (kw cA K kf (enO kf rw rl q) cn (rl + 1)) H) (aS 10 K)) 0 0 (aS 10 K) := by
  refine gOf (by decide) (Nat.le_of_ble_eq_true rfl) ?_
  intro p e s m below meth c ls hx hb hml hr hlk hown hts hnm hP hK hl
  have hl : lv_has ls 3 [(0, .ref (K 0)), (1, .int (nI (q)))] := hl
  have hD : va_D (aS 10 K) (kw cA K (kf) (rw) (cn) (rl)) := kwD hA
  have hS : va_S (aS 10 K) s.heap s.heap [] := va_S.rf
  refine lv_aload_n hx hb dX0_enroll_0 rfl (lv_at hl 0 rfl) ?_
  refine g_get (v := .int (nI (rl))) hx hb hts hown hK hP 0 rfl rfl gu_wsX00 10 (by decide) gm_4_3 rfl dX0_enroll_1 ?_
  refine lv_bipush (v := nI (10)) hx hb dX0_enroll_4 gb_10 ?_
  refine g_icmp_lt (P := rl < 10) (tgt := 10) hx hb dX0_enroll_6 (by decide) (nI_ltI (by omega) (by omega)) (fun c_1 => ?_) (fun c_1 => ?_)
  · have d_1 : ¬ 10 ≤ rl := Nat.not_le.mpr c_1
    refine lv_aload_n hx hb dX0_enroll_10 rfl (lv_at hl 0 rfl) ?_
    refine g_get (v := .int (nI (rl))) hx hb hts hown hK hP 0 rfl rfl gu_wsX00 10 (by decide) gm_4_3 rfl dX0_enroll_11 ?_
    refine lv_istore_n (lv' := [(2, .int (nI (rl))), (0, .ref (K 0)), (1, .int (nI (q)))]) hx hb dX0_enroll_14 rfl hl (by decide) rfl (fun ls hl => ?_)
    have LP_6 : ∀ (n_3 i_2 : Nat) (x_4 : Int32) (F_5 : Nat → Nat) (H : Heap) (locs : List Loc), i_2 ≤ rl → rl + 1 ≤ i_2 + n_3 → x_4 = nI (rl - i_2) → F_5 = enS rw rl i_2 → (fnd (fun t => !cbF kf q (rw (rl - t - 1))) (i_2) = none) → va_P D vwCl (kw cA K (kf) (F_5) (cn) (rl)) H → va_S (aS 10 K) s.heap H locs → ∀ (ls : Array Slot), lv_has ls 3 [(2, .int (x_4)), (0, .ref (K 0)), (1, .int (nI (q)))] → W p l e ({ frames := 1, cells := 0, slots := 0, locals := 22 } : Room) s m ([.ref (K 0), .int (nI (q))] : List Value).toArray below meth c H locs 0 0 (MQ below (wrV (fun H => va_P D vwCl (kw cA K kf (enO kf rw rl q) cn (rl + 1)) H) (aS 10 K)) ([.ref (K 0), .int (nI (q))] : List Value).toArray s 0 0 (aS 10 K)) (F0 m 15 ls []) := by
      intro n_3
      induction n_3 with
      | zero => intro i_2 x_4 F_5 H locs h1 h2; exact absurd h2 (by omega)
      | succ n_3 ih_7 =>
        intro i_2 x_4 F_5 H locs h_8 h_9 e_10 e_11 hv hP hS ls hl
        subst e_10
        subst e_11
        have hD : va_D (aS 10 K) (kw cA K (kf) (enS rw rl i_2) (cn) (rl)) := kwD hA
        refine lv_iload_n hx hb dX0_enroll_15 rfl (lv_at hl 0 rfl) ?_
        refine g_if_le (P := rl - i_2 = 0) (tgt := 55) hx hb dX0_enroll_16 (by decide) (nI_ez (a := rl - i_2) (by omega)) (fun c_12 => ?_) (fun c_12 => ?_)
        · have hN_13 : rl = i_2 := by omega
          subst hN_13
          refine lv_aload_n hx hb dX0_enroll_55 rfl (lv_at hl 1 rfl) ?_
          refine g_get (v := .ref (K 9)) hx hb hts hown hK hP 0 rfl rfl gu_wsX00 8 (by decide) gm_4_1 rfl dX0_enroll_56 ?_
          refine lv_iload_n hx hb dX0_enroll_59 rfl (lv_at hl 0 rfl) ?_
          refine lv_iload_n hx hb dX0_enroll_60 rfl (lv_at hl 2 rfl) ?_
          refine g_iast (ws' := kw cA K (kf) (updN (enS rw rl (rl)) (rl - (rl)) (q)) (cn) (rl)) hx hb hK hP hD hS 9 rfl (by omega) (by decide) (by first | rfl | (rw [updN_nI]; rfl)) dX0_enroll_61 (fun H locs hP hD hS => ?_)
          refine lv_aload_n hx hb dX0_enroll_62 rfl (lv_at hl 1 rfl) ?_
          refine lv_dup hx hb dX0_enroll_63 rfl ?_
          refine g_get (v := .int (nI (rl))) hx hb hts hown hK hP 0 rfl rfl gu_wsX00 10 (by decide) gm_4_3 rfl dX0_enroll_64 ?_
          refine lv_iconst (v := nI (1)) hx hb dX0_enroll_67 gc_1 ?_
          refine g_iadd hx hb dX0_enroll_68 ?_
          refine g_put (ws' := kw cA K (kf) (updN (enS rw rl (rl)) (rl - (rl)) (q)) (cn) (rl + 1)) hx hb hts hown hK hP hD hS 0 rfl rfl gu_wsX00 tyX0_ok nmX0 10 (by decide) gm_4_3 rfl rfl rfl (Nat.le_of_ble_eq_true rfl) (by first | rfl | (rw [updN_nI]; rfl)) dX0_enroll_69 (fun H locs hP hD hS => ?_)
          exact g_vretW hx hb hr hlk hS dX0_enroll_72 (by have e9 : enT kf rw rl q = rl := (by rw [enT, hv]; rfl); rw [enO, e9]; exact hP)
        · refine lv_aload_n hx hb dX0_enroll_19 rfl (lv_at hl 1 rfl) ?_
          refine lv_iload_n hx hb dX0_enroll_20 rfl (lv_at hl 2 rfl) ?_
          refine lv_aload_n hx hb dX0_enroll_21 rfl (lv_at hl 1 rfl) ?_
          refine g_get (v := .ref (K 9)) hx hb hts hown hK hP 0 rfl rfl gu_wsX00 8 (by decide) gm_4_1 rfl dX0_enroll_22 ?_
          refine lv_iload_n hx hb dX0_enroll_25 rfl (lv_at hl 0 rfl) ?_
          refine lv_iconst (v := nI (1)) hx hb dX0_enroll_26 gc_1 ?_
          refine g_isub hx hb (by omega) dX0_enroll_27 ?_
          have hrk_14 := hrw (rl - i_2 - 1) (by omega)
          refine g_iald (x := nI (rw (rl - i_2 - 1))) hx hb hK hP 9 rfl (by omega) (by decide) (by rw [enS_lo i_2 (by omega) (by omega)]) dX0_enroll_28 ?_
          refine rd_calle (va_runV (As := [.int (nI (q)), .int (nI (rw (rl - i_2 - 1)))]) (rest := []) ⟨hx, hb, hml, hown, hts⟩ (c_X0_comesBefore l D cA K (kf) (enS rw rl i_2) (cn) (rl) (q) (rw (rl - i_2 - 1))  (by omega) (by omega)) (cwV 2 hts (gWV gm_13_15 gm_13_16 gm_13_17 gm_3_0 gm_13_18) rfl rfl rfl (by decide +kernel) ⟨Nat.le_of_ble_eq_true rfl, Nat.le_of_ble_eq_true rfl⟩) (gPreV hK (g_rf hK hP (ci := 2) (q0 := 0) rfl rfl) hP) rfl rfl hl.1 rfl (lv_room (Nat.le_of_ble_eq_true rfl)) dX0_enroll_29 ⟨by omega, by omega⟩) ?_
          refine g_if_eq (P := cbF kf (q) (rw (rl - i_2 - 1)) = false) (tgt := 55) hx hb dX0_enroll_32 (by decide) b2i_0 (fun c_15 => ?_) (fun c_15 => ?_)
          · refine lv_aload_n hx hb dX0_enroll_55 rfl (lv_at hl 1 rfl) ?_
            refine g_get (v := .ref (K 9)) hx hb hts hown hK hP 0 rfl rfl gu_wsX00 8 (by decide) gm_4_1 rfl dX0_enroll_56 ?_
            refine lv_iload_n hx hb dX0_enroll_59 rfl (lv_at hl 0 rfl) ?_
            refine lv_iload_n hx hb dX0_enroll_60 rfl (lv_at hl 2 rfl) ?_
            refine g_iast (ws' := kw cA K (kf) (updN (enS rw rl i_2) (rl - i_2) (q)) (cn) (rl)) hx hb hK hP hD hS 9 rfl (by omega) (by decide) (by first | rfl | (rw [updN_nI]; rfl)) dX0_enroll_61 (fun H locs hP hD hS => ?_)
            refine lv_aload_n hx hb dX0_enroll_62 rfl (lv_at hl 1 rfl) ?_
            refine lv_dup hx hb dX0_enroll_63 rfl ?_
            refine g_get (v := .int (nI (rl))) hx hb hts hown hK hP 0 rfl rfl gu_wsX00 10 (by decide) gm_4_3 rfl dX0_enroll_64 ?_
            refine lv_iconst (v := nI (1)) hx hb dX0_enroll_67 gc_1 ?_
            refine g_iadd hx hb dX0_enroll_68 ?_
            refine g_put (ws' := kw cA K (kf) (updN (enS rw rl i_2) (rl - i_2) (q)) (cn) (rl + 1)) hx hb hts hown hK hP hD hS 0 rfl rfl gu_wsX00 tyX0_ok nmX0 10 (by decide) gm_4_3 rfl rfl rfl (Nat.le_of_ble_eq_true rfl) (by first | rfl | (rw [updN_nI]; rfl)) dX0_enroll_69 (fun H locs hP hD hS => ?_)
            exact g_vretW hx hb hr hlk hS dX0_enroll_72 (by have e9 : enT kf rw rl q = i_2 := (by rw [enT, fnd_stop hv (by rw [c_15]; rfl) rl (by omega)]; rfl); rw [enO, e9]; exact hP)
          · have c_15 : cbF kf (q) (rw (rl - i_2 - 1)) = true := eq_true_of_ne_false c_15
            refine lv_aload_n hx hb dX0_enroll_35 rfl (lv_at hl 1 rfl) ?_
            refine g_get (v := .ref (K 9)) hx hb hts hown hK hP 0 rfl rfl gu_wsX00 8 (by decide) gm_4_1 rfl dX0_enroll_36 ?_
            refine lv_iload_n hx hb dX0_enroll_39 rfl (lv_at hl 0 rfl) ?_
            refine lv_aload_n hx hb dX0_enroll_40 rfl (lv_at hl 1 rfl) ?_
            refine g_get (v := .ref (K 9)) hx hb hts hown hK hP 0 rfl rfl gu_wsX00 8 (by decide) gm_4_1 rfl dX0_enroll_41 ?_
            refine lv_iload_n hx hb dX0_enroll_44 rfl (lv_at hl 0 rfl) ?_
            refine lv_iconst (v := nI (1)) hx hb dX0_enroll_45 gc_1 ?_
            refine g_isub hx hb (by omega) dX0_enroll_46 ?_
            refine g_iald (x := nI (rw (rl - i_2 - 1))) hx hb hK hP 9 rfl (by omega) (by decide) (by rw [enS_lo i_2 (by omega) (by omega)]) dX0_enroll_47 ?_
            refine g_iast (ws' := kw cA K (kf) (updN (enS rw rl i_2) (rl - i_2) (rw (rl - i_2 - 1))) (cn) (rl)) hx hb hK hP hD hS 9 rfl (by omega) (by decide) (by first | rfl | (rw [updN_nI]; rfl)) dX0_enroll_48 (fun H locs hP hD hS => ?_)
            refine lv_iinc (v := nI (rl - i_2 - 1)) (lv' := [(2, .int (nI (rl - i_2 - 1))), (0, .ref (K 0)), (1, .int (nI (q)))]) hx hb dX0_enroll_49 hl (k := 0) rfl (dec_1 (by omega)) (by decide) rfl (fun ls hl => ?_)
            refine lv_goto (tgt := 15) hx hb dX0_enroll_52 (by decide) ?_
            exact ih_7 (i_2 + 1) _ (updN (enS rw rl i_2) (rl - i_2) (rw (rl - i_2 - 1))) H locs (by omega) (by omega) rfl (by rw [enS, enS_lo (j := rl - i_2 - 1) i_2 (by omega) (by omega)]) (fnd_succ_none hv (by rw [c_15]; rfl)) hP hS ls (lv_sub hl [0, 1, 2] rfl)
    exact LP_6 (rl + 1) 0 _ (rw) s.heap [] (by omega) (by omega) rfl rfl rfl hP hS ls (lv_sub hl [0, 1, 2] rfl)
  · have d_1 : 10 ≤ rl := Nat.not_lt.mp c_1
    exact absurd c_1 (by omega)

set_option maxHeartbeats 1000000 in
set_option maxRecDepth 100000 in
theorem c_X0_strike (l : Launch) (D : va_G) (cA : Nat → ClassId) (K : Nat → Nat) (kf : Nat → Nat → Int32) (rw : Nat → Nat) (cn rl : Nat) (q : Nat) (hA : aInj 10 K) (hrl : rl ≤ 10) (hrw : ∀ k, k < rl → rw k < 10) (hq : q < 10) : Met l yX0_strike (gw yX0_strike cX0_strike 4 none) ({ frames := 1, cells := 0, slots := 0, locals := 22 } : Room) (gPc [.ref (K 0), .int (nI (q))] (fun H => va_P D vwCl (kw cA K (kf) (rw) (cn) (rl)) H) D cA) (wrV (fun H => va_P D vwCl (kw cA K kf (stO rw rl q).1 cn (stO rw rl q).2) H) (aS 10 K)) 0 0 (aS 10 K) := by
  refine gOf (by decide) (Nat.le_of_ble_eq_true rfl) ?_
  intro p e s m below meth c ls hx hb hml hr hlk hown hts hnm hP hK hl
  have hl : lv_has ls 4 [(0, .ref (K 0)), (1, .int (nI (q)))] := hl
  have hD : va_D (aS 10 K) (kw cA K (kf) (rw) (cn) (rl)) := kwD hA
  have hS : va_S (aS 10 K) s.heap s.heap [] := va_S.rf
  refine lv_aload_n hx hb dX0_strike_0 rfl (lv_at hl 0 rfl) ?_
  refine lv_iload_n hx hb dX0_strike_1 rfl (lv_at hl 1 rfl) ?_
  refine rd_calle (va_runV (As := [.int (nI (q))]) (rest := []) ⟨hx, hb, hml, hown, hts⟩ (c_X0_placeOnRoll l D cA K (kf) (rw) (cn) (rl) (q)  hrl hrw (by omega)) (cwV 1 hts (gWV gm_17_11 gm_17_12 gm_17_13 gm_3_0 gm_17_14) rfl rfl rfl (by decide +kernel) ⟨Nat.le_of_ble_eq_true rfl, Nat.le_of_ble_eq_true rfl⟩) (gPreV hK (g_rf hK hP (ci := 2) (q0 := 0) rfl rfl) hP) rfl rfl hl.1 rfl (lv_room (Nat.le_of_ble_eq_true rfl)) dX0_strike_2 ⟨by omega, by omega⟩) ?_
  refine lv_istore_n (lv' := [(2, .int (oI (fnd (fun k => decide (rw k = (q))) rl))), (0, .ref (K 0)), (1, .int (nI (q)))]) hx hb dX0_strike_5 rfl hl (by decide) rfl (fun ls hl => ?_)
  refine lv_iload_n hx hb dX0_strike_6 rfl (lv_at hl 0 rfl) ?_
  refine lv_iconst (v := -1) hx hb dX0_strike_7 gc_m1 ?_
  refine g_icmp_ne (P := fnd (fun k => decide (rw k = (q))) rl = none) (tgt := 12) hx hb dX0_strike_8 (by decide) (oI_m1 (fun b q => by have := fnd_lt q; omega)) (fun c_1 => ?_) (fun c_1 => ?_)
  · obtain ⟨b_2, eb_3⟩ := o_some c_1
    have hb_4 := fnd_lt eb_3
    rw [eb_3] at hl
    have hl : lv_has ls 4 [(2, .int (nI (b_2))), (0, .ref (K 0)), (1, .int (nI (q)))] := hl
    refine lv_aload_n hx hb dX0_strike_12 rfl (lv_at hl 1 rfl) ?_
    refine lv_dup hx hb dX0_strike_13 rfl ?_
    refine g_get (v := .int (nI (rl))) hx hb hts hown hK hP 0 rfl rfl gu_wsX00 10 (by decide) gm_4_3 rfl dX0_strike_14 ?_
    refine lv_iconst (v := nI (1)) hx hb dX0_strike_17 gc_1 ?_
    refine g_isub hx hb (by omega) dX0_strike_18 ?_
    refine g_put (ws' := kw cA K (kf) (rw) (cn) (rl - 1)) hx hb hts hown hK hP hD hS 0 rfl rfl gu_wsX00 tyX0_ok nmX0 10 (by decide) gm_4_3 rfl rfl rfl (Nat.le_of_ble_eq_true rfl) (by first | rfl | (rw [updN_nI]; rfl)) dX0_strike_19 (fun H locs hP hD hS => ?_)
    refine lv_iload_n hx hb dX0_strike_22 rfl (lv_at hl 0 rfl) ?_
    refine lv_istore_n (lv' := [(3, .int (nI (b_2))), (2, .int (nI (b_2))), (0, .ref (K 0)), (1, .int (nI (q)))]) hx hb dX0_strike_23 rfl hl (by decide) rfl (fun ls hl => ?_)
    have LP_9 : ∀ (n_6 i_5 : Nat) (x_7 : Int32) (F_8 : Nat → Nat) (H : Heap) (locs : List Loc), i_5 ≤ (rl - 1 - b_2) → (rl - 1 - b_2) + 1 ≤ i_5 + n_6 → x_7 = nI (b_2 + i_5) → F_8 = stS rw b_2 i_5 → va_P D vwCl (kw cA K (kf) (F_8) (cn) (rl - 1)) H → va_S (aS 10 K) s.heap H locs → ∀ (ls : Array Slot), lv_has ls 4 [(3, .int (x_7)), (2, .int (nI (b_2))), (0, .ref (K 0)), (1, .int (nI (q)))] → W p l e ({ frames := 1, cells := 0, slots := 0, locals := 22 } : Room) s m ([.ref (K 0), .int (nI (q))] : List Value).toArray below meth c H locs 0 0 (MQ below (wrV (fun H => va_P D vwCl (kw cA K kf (stO rw rl q).1 cn (stO rw rl q).2) H) (aS 10 K)) ([.ref (K 0), .int (nI (q))] : List Value).toArray s 0 0 (aS 10 K)) (F0 m 24 ls []) := by
      intro n_6
      induction n_6 with
      | zero => intro i_5 x_7 F_8 H locs h1 h2; exact absurd h2 (by omega)
      | succ n_6 ih_10 =>
        intro i_5 x_7 F_8 H locs h_11 h_12 e_13 e_14 hP hS ls hl
        subst e_13
        subst e_14
        have hD : va_D (aS 10 K) (kw cA K (kf) (stS rw b_2 i_5) (cn) (rl - 1)) := kwD hA
        refine lv_iload_n hx hb dX0_strike_24 rfl (lv_at hl 0 rfl) ?_
        refine lv_aload_n hx hb dX0_strike_25 rfl (lv_at hl 2 rfl) ?_
        refine g_get (v := .int (nI (rl - 1))) hx hb hts hown hK hP 0 rfl rfl gu_wsX00 10 (by decide) gm_4_3 rfl dX0_strike_26 ?_
        refine g_icmp_ge (P := rl - 1 ≤ b_2 + i_5) (tgt := 52) hx hb dX0_strike_29 (by decide) (nI_leI (by omega) (by omega)) (fun c_15 => ?_) (fun c_15 => ?_)
        · have d_15 : ¬ b_2 + i_5 < rl - 1 := Nat.not_lt.mpr c_15
          have hN_16 : rl - 1 - b_2 = i_5 := by omega
          subst hN_16
          exact g_vretW hx hb hr hlk hS dX0_strike_52 (by rw [stO_some eb_3]; exact hP)
        · have d_15 : b_2 + i_5 < rl - 1 := Nat.not_le.mp c_15
          refine lv_aload_n hx hb dX0_strike_32 rfl (lv_at hl 2 rfl) ?_
          refine g_get (v := .ref (K 9)) hx hb hts hown hK hP 0 rfl rfl gu_wsX00 8 (by decide) gm_4_1 rfl dX0_strike_33 ?_
          refine lv_iload_n hx hb dX0_strike_36 rfl (lv_at hl 0 rfl) ?_
          refine lv_aload_n hx hb dX0_strike_37 rfl (lv_at hl 2 rfl) ?_
          refine g_get (v := .ref (K 9)) hx hb hts hown hK hP 0 rfl rfl gu_wsX00 8 (by decide) gm_4_1 rfl dX0_strike_38 ?_
          refine lv_iload_n hx hb dX0_strike_41 rfl (lv_at hl 0 rfl) ?_
          refine lv_iconst (v := nI (1)) hx hb dX0_strike_42 gc_1 ?_
          refine g_iadd hx hb dX0_strike_43 ?_
          refine g_iald (x := nI ((stS rw b_2 i_5) ((b_2 + i_5) + (1)))) hx hb hK hP 9 rfl (by omega) (by decide) rfl dX0_strike_44 ?_
          refine g_iast (ws' := kw cA K (kf) (updN (stS rw b_2 i_5) (b_2 + i_5) ((stS rw b_2 i_5) ((b_2 + i_5) + (1)))) (cn) (rl - 1)) hx hb hK hP hD hS 9 rfl (by omega) (by decide) (by first | rfl | (rw [updN_nI]; rfl)) dX0_strike_45 (fun H locs hP hD hS => ?_)
          refine lv_iinc (v := nI (b_2 + i_5 + 1)) (lv' := [(3, .int (nI (b_2 + i_5 + 1))), (2, .int (nI (b_2))), (0, .ref (K 0)), (1, .int (nI (q)))]) hx hb dX0_strike_46 hl (k := 0) rfl (inc_1 _) (by decide) rfl (fun ls hl => ?_)
          refine lv_goto (tgt := 24) hx hb dX0_strike_49 (by decide) ?_
          exact ih_10 (i_5 + 1) _ (updN (stS rw b_2 i_5) (b_2 + i_5) ((stS rw b_2 i_5) ((b_2 + i_5) + (1)))) H locs (by omega) (by omega) rfl rfl hP hS ls (lv_sub hl [0, 1, 2, 3] rfl)
    exact LP_9 ((rl - 1 - b_2) + 1) 0 _ (rw) H locs (by omega) (by omega) rfl rfl hP hS ls (lv_sub hl [0, 1, 2, 3] rfl)
  · exact g_vretW hx hb hr hlk hS dX0_strike_11 (by rw [stO_none c_1]; exact hP)

abbrev CS : Type := (Nat → Nat → Int32) × (Nat × ((Nat → Nat → Int32) × ((Nat → Nat) × (Nat × (Nat × (Nat × (Nat × Int32)))))))
def zJ (z : CS) : Nat → Nat → Int32 := z.1
def zjn (z : CS) : Nat := z.2.1
def zK (z : CS) : Nat → Nat → Int32 := z.2.2.1
def zrw (z : CS) : Nat → Nat := z.2.2.2.1
def zcn (z : CS) : Nat := z.2.2.2.2.1
def zrl (z : CS) : Nat := z.2.2.2.2.2.1
def zck (z : CS) : Nat := z.2.2.2.2.2.2.1
def ztn (z : CS) : Nat := z.2.2.2.2.2.2.2.1
def zsd (z : CS) : Int32 := z.2.2.2.2.2.2.2.2
def cz (cA : Nat → ClassId) (A : Nat → Nat) (z : CS) : va_W := cw cA A (zJ z) (zjn z) (zK z) (zrw z) (zcn z) (zrl z) (zck z) (ztn z) (zsd z)
def mkz (jf : Nat → Nat → Int32) (jn : Nat) (kf : Nat → Nat → Int32) (rw : Nat → Nat) (cn rl clk ton : Nat) (sd : Int32) : CS := (jf, (jn, (kf, (rw, (cn, (rl, (clk, (ton, sd))))))))
/-- a juror comes -/
def zAddJ (z : CS) (a b : Int32) : CS := mkz (va_up (va_up (va_up (va_up (zJ z) 0 (upd (zJ z 0) (zjn z) a)) 1 (upd (zJ z 1) (zjn z) b)) 2 (upd (zJ z 2) (zjn z) (nI 0))) 3 (upd (zJ z 3) (zjn z) (nI 0))) (zjn z + 1) (zK z) (zrw z) (zcn z) (zrl z) (zck z) (ztn z) (zsd z)
def zAddK (z : CS) (a b : Int32) : CS := mkz (zJ z) (zjn z) (va_up (va_up (va_up (va_up (va_up (va_up (va_up (va_up (zK z) 0 (upd (zK z 0) (zcn z) a)) 1 (upd (zK z 1) (zcn z) b)) 2 (upd (zK z 2) (zcn z) (nI 0))) 3 (upd (zK z 3) (zcn z) (nI 0))) 4 (upd (zK z 4) (zcn z) (-1))) 5 (upd (zK z 5) (zcn z) (-1))) 6 (upd (zK z 6) (zcn z) (nI 0))) 7 (upd (zK z 7) (zcn z) (nI 0))) (zrw z) (zcn z + 1) (zrl z) (zck z) (ztn z) (zsd z)
def cpS (d : Nat → Int32) (kf : Nat → Nat → Int32) (jn cn : Nat) : Nat → Int32
  | 0 => nI 0
  | k + 1 => match fcF d kf jn cn (cpS d kf jn cn k) with
    | none => cpS d kf jn cn k ||| nI 0
    | some j => cpS d kf jn cn k ||| (nI 1 <<< (nI j &&& 31))
theorem cpS_none {d : Nat → Int32} {kf : Nat → Nat → Int32} {jn cn k : Nat} (h : fcF d kf jn cn (cpS d kf jn cn k) = none) : cpS d kf jn cn (k + 1) = cpS d kf jn cn k ||| nI 0 := by
  show (match fcF d kf jn cn (cpS d kf jn cn k) with | none => _ | some j => _) = _
  rw [h]
theorem cpS_some {d : Nat → Int32} {kf : Nat → Nat → Int32} {jn cn k j : Nat} (h : fcF d kf jn cn (cpS d kf jn cn k) = some j) : cpS d kf jn cn (k + 1) = cpS d kf jn cn k ||| (nI 1 <<< (nI j &&& 31)) := by
  show (match fcF d kf jn cn (cpS d kf jn cn k) with | none => _ | some j => _) = _
  rw [h]
def zPan (z : CS) : Int32 := cpS (zJ z 1) (zK z) (zjn z) (zcn z) 3
def zCall (z : CS) (q : Nat) : CS := mkz (zJ z) (zjn z) (va_up (zK z) 2 (upd (zK z 2) q (zPan z))) (enO (va_up (zK z) 2 (upd (zK z 2) q (zPan z))) (zrw z) (zrl z) q) (zcn z) (zrl z + 1) (zck z) (ztn z) (zsd z)
def zVd (z : CS) (q : Nat) : Nat := vdF (zJ z 0) (zJ z 1) (zjn z) (zK z 2 q) (zK z 0 q)
def zTv (z : CS) (q : Nat) : T3 := tvS (zK z 2 q) (zK z 0 q) (zVd z q) (zJ z 0) (zJ z 1, (zJ z 2, zJ z 3)) (zjn z)
def zSay (z : CS) (q : Nat) : CS := mkz (va_up (va_up (va_up (zJ z) 1 (zTv z q).1) 2 (zTv z q).2.1) 3 (zTv z q).2.2) (zjn z) (va_up (va_up (zK z) 3 (upd (zK z 3) q (nI (zVd z q)))) 4 (upd (zK z 4) q (nI (ztn z)))) (stO (zrw z) (zrl z) q).1 (zcn z) (stO (zrw z) (zrl z) q).2 (zck z) (ztn z) (zsd z + nI 1)
def zUnK (z : CS) (q : Nat) : Nat → Nat → Int32 := va_up (va_up (va_up (zK z) 3 (upd (zK z 3) q (nI 0))) 4 (upd (zK z 4) q (-1))) 6 (upd (zK z 6) q (zK z 6 q + nI 1))
def zTo (z : CS) (q : Nat) : Nat × (Nat → Int32) := toS (zK z 2 q) (zK z 0 q) (zJ z 1) (zJ z 0) (zjn z)
def zUns (z : CS) (q : Nat) : CS := mkz (va_up (zJ z) 0 (zTo z q).2) (zjn z) (zUnK z q) (enO (zUnK z q) (zrw z) (zrl z) q) (zcn z) (zrl z + 1) (zck z) (ztn z) (zsd z)
def zOut (z : CS) (q : Nat) : Option Nat := dbF (zJ z 1) (zjn z) (zK z 2 q)
def zIn (z : CS) (q : Nat) : Option Nat := fcF (zJ z 1) (zK z) (zjn z) (zcn z) (zK z 2 q)
def zApP (z : CS) (q : Nat) : Int32 := match zOut z q, zIn z q with
  | some a, some b => ((zK z 2 q &&& ((nI 1 <<< (nI a &&& 31)) ^^^ -1)) ||| (nI 1 <<< (nI b &&& 31)))
  | _, _ => zK z 2 q
def zApK (z : CS) (q : Nat) : Nat → Nat → Int32 := va_up (va_up (va_up (zK z) 2 (upd (zK z 2) q (zApP z q))) 1 (upd (zK z 1) q (if nI 99 < zK z 1 q + nI 3 then nI 99 else zK z 1 q + nI 3))) 7 (upd (zK z 7) q (zK z 7 q + nI 1))
def zAp (z : CS) (q : Nat) : CS := mkz (zJ z) (zjn z) (zApK z q) (zrw z) (zcn z) (zrl z) (zck z) (ztn z) (zsd z)
def zNi (z : CS) : CS := mkz (zJ z) (zjn z) (va_up (zK z) 5 (crS (zK z) (nI (ztn z + 1)) (zcn z))) (zrw z) (zcn z) (zrl z) (zck z) (ztn z + 1) (zsd z)
def zNs (z : CS) : Nat → CS
  | 0 => zNi z
  | k + 1 => zSay (zNs z k) (zrw (zNs z k) 0)
def zTk (z : CS) : Nat := if zrl z < zck z then zrl z else zck z
/-- the court's rows are in their bounds -/
def zOk (z : CS) : Prop := zjn z ≤ 9 ∧ zcn z ≤ 10 ∧ zrl z ≤ 10 ∧ (∀ k, k < zrl z → zrw z k < 10) ∧ zck z ≤ 4 ∧ ztn z ≤ 99
theorem fnd_0 {rw : Nat → Nat} {rl : Nat} (h : 0 < rl) : fnd (fun j => decide (rw j = rw 0)) rl = some 0 := fnd_stop (n := 0) rfl (by simp) rl h
theorem stO_le {rw : Nat → Nat} {rl q n : Nat} (h : ∀ k, k < rl → rw k < n) : (stO rw rl q).2 ≤ rl ∧ ∀ k, k < (stO rw rl q).2 → (stO rw rl q).1 k < n := by
  cases e : fnd (fun j => decide (rw j = q)) rl with
  | none => rw [stO_none e]; exact ⟨Nat.le_refl _, h⟩
  | some p =>
    have hp := fnd_lt e
    rw [stO_some e]
    exact ⟨Nat.sub_le _ _, fun k hk => stS_lt h _ (by omega) k (by have : k < rl - 1 := hk; omega)⟩
theorem stO_0 {rw : Nat → Nat} {rl : Nat} (h : 0 < rl) : (stO rw rl (rw 0)).2 = rl - 1 := by rw [stO_some (fnd_0 h)]
theorem zSay_ok {z : CS} {q : Nat} (h : zOk z) : zOk (zSay z q) := by
  obtain ⟨h1, h2, h3, h4, h5, h6⟩ := h
  have hs := stO_le (q := q) h4
  exact ⟨h1, h2, Nat.le_trans hs.1 h3, hs.2, h5, h6⟩
theorem zNi_ok {z : CS} (h : zOk z) (ht : ztn z < 99) : zOk (zNi z) := by
  obtain ⟨h1, h2, h3, h4, h5, h6⟩ := h
  exact ⟨h1, h2, h3, h4, h5, ht⟩
theorem zNs_ok {z : CS} (h : zOk z) (ht : ztn z < 99) : ∀ k, zOk (zNs z k)
  | 0 => zNi_ok h ht
  | k + 1 => zSay_ok (zNs_ok h ht k)
theorem zNs_rl {z : CS} : ∀ k, k ≤ zrl z → zrl (zNs z k) = zrl z - k
  | 0, _ => rfl
  | k + 1, h => by
    have ih := zNs_rl (z := z) k (by omega)
    show (stO (zrw (zNs z k)) (zrl (zNs z k)) (zrw (zNs z k) 0)).2 = _
    rw [stO_0 (by omega), ih]
    omega
theorem zNs_ck {z : CS} : ∀ k, zck (zNs z k) = zck z
  | 0 => rfl
  | k + 1 => zNs_ck k
theorem zNs_tn {z : CS} : ∀ k, ztn (zNs z k) = ztn z + 1
  | 0 => rfl
  | k + 1 => zNs_tn k
theorem zNs_jn {z : CS} : ∀ k, zjn (zNs z k) = zjn z
  | 0 => rfl
  | k + 1 => zNs_jn k
theorem zNs_cn {z : CS} : ∀ k, zcn (zNs z k) = zcn z
  | 0 => rfl
  | k + 1 => zNs_cn k

set_option maxHeartbeats 1000000 in
set_option maxRecDepth 100000 in
theorem c_X1_callPanel (l : Launch) (D : va_G) (cA : Nat → ClassId) (A : Nat → Nat) (jf : Nat → Nat → Int32) (jn : Nat) (kf : Nat → Nat → Int32) (rw : Nat → Nat) (cn rl clk ton : Nat) (sd : Int32) (q : Nat) (hA : aInj 16 A) (hjn : jn ≤ 9) (hcn : cn ≤ 10) (hr9 : rl ≤ 9) (hrw : ∀ k, k < rl → rw k < 10) (hq : q < 10) : Met l yX1_callPanel (gw yX1_callPanel cX1_callPanel 5 (some .int)) ({ frames := 3, cells := 0, slots := 0, locals := 70 } : Room) (gPc [.ref (A 0), .int (nI (q))] (fun H => va_P D vwCl (cw cA A (jf) (jn) (kf) (rw) (cn) (rl) (clk) (ton) (sd)) H) D cA) (wrI (fun r H => r = zPan (mkz jf jn kf rw cn rl clk ton sd) ∧ va_P D vwCl (cz cA A (zCall (mkz jf jn kf rw cn rl clk ton sd) q)) H) (aS 16 A)) 0 0 (aS 16 A) := by
  refine gOf (by decide) (Nat.le_of_ble_eq_true rfl) ?_
  intro p e s m below meth c ls hx hb hml hr hlk hown hts hnm hP hK hl
  have hl : lv_has ls 5 [(0, .ref (A 0)), (1, .int (nI (q)))] := hl
  have hD : va_D (aS 16 A) (cw cA A (jf) (jn) (kf) (rw) (cn) (rl) (clk) (ton) (sd)) := cwD hA
  have hS : va_S (aS 16 A) s.heap s.heap [] := va_S.rf
  refine lv_iconst (v := nI (0)) hx hb dX1_callPanel_0 gc_0 ?_
  refine lv_istore_n (lv' := [(2, .int (nI (0))), (0, .ref (A 0)), (1, .int (nI (q)))]) hx hb dX1_callPanel_1 rfl hl (by decide) rfl (fun ls hl => ?_)
  refine lv_iconst (v := nI (0)) hx hb dX1_callPanel_2 gc_0 ?_
  refine lv_istore_n (lv' := [(3, .int (nI (0))), (2, .int (nI (0))), (0, .ref (A 0)), (1, .int (nI (q)))]) hx hb dX1_callPanel_3 rfl hl (by decide) rfl (fun ls hl => ?_)
  have LP_5 : ∀ (n_2 i_1 : Nat) (x_3 : Int32) (x_4 : Int32), i_1 ≤ 3 → 3 + 1 ≤ i_1 + n_2 → x_3 = nI (i_1) → x_4 = cpS (jf 1) kf jn cn i_1 → ∀ (ls : Array Slot), lv_has ls 5 [(3, .int (x_3)), (2, .int (x_4)), (0, .ref (A 0)), (1, .int (nI (q)))] → W p l e ({ frames := 3, cells := 0, slots := 0, locals := 70 } : Room) s m ([.ref (A 0), .int (nI (q))] : List Value).toArray below meth c s.heap [] 0 0 (MQ below (wrI (fun r H => r = zPan (mkz jf jn kf rw cn rl clk ton sd) ∧ va_P D vwCl (cz cA A (zCall (mkz jf jn kf rw cn rl clk ton sd) q)) H) (aS 16 A)) ([.ref (A 0), .int (nI (q))] : List Value).toArray s 0 0 (aS 16 A)) (F0 m 4 ls []) := by
    intro n_2
    induction n_2 with
    | zero => intro i_1 x_3 x_4 h1 h2; exact absurd h2 (by omega)
    | succ n_2 ih_8 =>
      intro i_1 x_3 x_4 h_9 h_10 e_6 e_7  ls hl
      subst e_6
      subst e_7
      refine lv_iload_n hx hb dX1_callPanel_4 rfl (lv_at hl 0 rfl) ?_
      refine lv_iconst (v := nI (3)) hx hb dX1_callPanel_5 gc_3 ?_
      refine g_icmp_ge (P := 3 ≤ i_1) (tgt := 39) hx hb dX1_callPanel_6 (by decide) (nI_leI (by omega) (by omega)) (fun c_11 => ?_) (fun c_11 => ?_)
      · have d_11 : ¬ i_1 < 3 := Nat.not_lt.mpr c_11
        have hN_12 : 3 = i_1 := by omega
        subst hN_12
        refine lv_aload_n hx hb dX1_callPanel_39 rfl (lv_at hl 2 rfl) ?_
        refine g_get (v := .ref (A 6)) hx hb hts hown hK hP 0 rfl rfl gu_wsX10 1 (by decide) gm_3_1 rfl dX1_callPanel_40 ?_
        refine g_get (v := .ref (A 9)) hx hb hts hown hK hP 6 rfl rfl gu_wsX00 2 (by decide) gm_12_15 rfl dX1_callPanel_43 ?_
        refine lv_iload_n hx hb dX1_callPanel_46 rfl (lv_at hl 3 rfl) ?_
        refine lv_iload_n hx hb dX1_callPanel_47 rfl (lv_at hl 1 rfl) ?_
        refine g_iast (ws' := cw cA A (jf) (jn) (va_up (kf) 2 (upd (kf 2) (q) (cpS (jf 1) kf jn cn (3)))) (rw) (cn) (rl) (clk) (ton) (sd)) hx hb hK hP hD hS 9 rfl (by omega) (by decide) (by first | rfl | (rw [updN_nI]; rfl)) dX1_callPanel_48 (fun H locs hP hD hS => ?_)
        refine lv_aload_n hx hb dX1_callPanel_49 rfl (lv_at hl 2 rfl) ?_
        refine g_get (v := .ref (A 6)) hx hb hts hown hK hP 0 rfl rfl gu_wsX10 1 (by decide) gm_3_1 rfl dX1_callPanel_50 ?_
        refine lv_iload_n hx hb dX1_callPanel_53 rfl (lv_at hl 3 rfl) ?_
        refine wr_callv (va_runV (As := [.int (nI (q))]) (rest := []) ⟨hx, hb, hml, hown, hts⟩ (c_X0_enroll l D cA (fun k => A (k + 6)) (va_up (kf) 2 (upd (kf 2) (q) (cpS (jf 1) kf jn cn (3)))) (rw) (cn) (rl) (q) (aInj_s hA 6 (by decide)) (by omega) hrw (by omega)) (cwV 1 hts (gWV gm_13_11 gm_13_12 gm_13_13 gm_3_0 gm_13_14) rfl rfl rfl (by decide +kernel) ⟨Nat.le_of_ble_eq_true rfl, Nat.le_of_ble_eq_true rfl⟩) (gPreV hK (g_rf hK hP (ci := 2) (q0 := 6) rfl rfl) (hP.sub [6, 7, 8, 9, 10, 11, 12, 13, 14, 15] rfl)) rfl rfl hl.1 rfl (lv_room (Nat.le_of_ble_eq_true rfl)) dX1_callPanel_54 ⟨by omega, by omega⟩) hS (fun q _ h => aS_up (m := 10) (a := 6) (by decide) h) (fun q h => aS_up (m := 10) (a := 6) (by decide) h) (fun H locs hPn hz9 hk9 hS => ?_)
        have hP : va_P D vwCl (cw cA A (jf) (jn) (va_up (kf) 2 (upd (kf 2) (q) (cpS (jf 1) kf jn cn (3)))) (enO (va_up (kf) 2 (upd (kf 2) (q) (cpS (jf 1) kf jn cn (3)))) rw rl (q)) (cn) (rl + 1) (clk) (ton) (sd)) H := cw_K hA hP hPn hk9
        have hD : va_D (aS 16 A) (cw cA A (jf) (jn) (va_up (kf) 2 (upd (kf 2) (q) (cpS (jf 1) kf jn cn (3)))) (enO (va_up (kf) 2 (upd (kf 2) (q) (cpS (jf 1) kf jn cn (3)))) rw rl (q)) (cn) (rl + 1) (clk) (ton) (sd)) := cwD hA
        refine lv_iload_n hx hb dX1_callPanel_57 rfl (lv_at hl 1 rfl) ?_
        exact g_iretW (v := cpS (jf 1) kf jn cn (3)) hx hb hr hlk hS dX1_callPanel_58 (⟨rfl, hP⟩)
      · have d_11 : i_1 < 3 := Nat.not_le.mp c_11
        refine lv_aload_n hx hb dX1_callPanel_9 rfl (lv_at hl 2 rfl) ?_
        refine lv_iload_n hx hb dX1_callPanel_10 rfl (lv_at hl 1 rfl) ?_
        refine rd_calle (va_runV (As := [.int (cpS (jf 1) kf jn cn i_1)]) (rest := []) ⟨hx, hb, hml, hown, hts⟩ (c_X1_firstCallable l D cA A (jf) (jn) (kf) (rw) (cn) (rl) (clk) (ton) (sd) (cpS (jf 1) kf jn cn i_1)  hjn hcn) (cwV 1 hts (gWV gm_13_6 gm_13_7 gm_13_8 gm_1_16 gm_13_9) rfl rfl rfl (by decide +kernel) ⟨Nat.le_of_ble_eq_true rfl, Nat.le_of_ble_eq_true rfl⟩) (gPreV hK (g_rf hK hP (ci := 3) (q0 := 0) rfl rfl) hP) rfl rfl hl.1 rfl (lv_room (Nat.le_of_ble_eq_true rfl)) dX1_callPanel_11 ⟨by omega, by omega⟩) ?_
        refine lv_istore (lv' := [(4, .int (oI (fcF (jf 1) kf jn cn (cpS (jf 1) kf jn cn i_1)))), (3, .int (nI (i_1))), (2, .int (cpS (jf 1) kf jn cn i_1)), (0, .ref (A 0)), (1, .int (nI (q)))]) hx hb dX1_callPanel_14 hl (by decide) rfl (fun ls hl => ?_)
        refine lv_iload_n hx hb dX1_callPanel_16 rfl (lv_at hl 2 rfl) ?_
        refine lv_iload hx hb dX1_callPanel_17 (lv_at hl 0 rfl) ?_
        refine lv_iconst (v := -1) hx hb dX1_callPanel_19 gc_m1 ?_
        refine g_icmp_ne (P := fcF (jf 1) kf jn cn (cpS (jf 1) kf jn cn i_1) = none) (tgt := 27) hx hb dX1_callPanel_20 (by decide) (oI_m1 (fun b q => by have := fcF_lt _ _ q; omega)) (fun c_13 => ?_) (fun c_13 => ?_)
        · obtain ⟨b_14, eb_15⟩ := o_some c_13
          have hb_16 := fcF_lt _ _ eb_15
          rw [eb_15] at hl
          have hl : lv_has ls 5 [(4, .int (nI (b_14))), (3, .int (nI (i_1))), (2, .int (cpS (jf 1) kf jn cn i_1)), (0, .ref (A 0)), (1, .int (nI (q)))] := hl
          refine lv_iconst (v := nI (1)) hx hb dX1_callPanel_27 gc_1 ?_
          refine lv_iload hx hb dX1_callPanel_28 (lv_at hl 0 rfl) ?_
          refine lv_ishl hx hb dX1_callPanel_30 ?_
          refine lv_ior hx hb dX1_callPanel_31 ?_
          refine lv_istore_n (lv' := [(2, .int ((cpS (jf 1) kf jn cn i_1) ||| ((nI (1)) <<< ((nI (b_14)) &&& 31)))), (4, .int (nI (b_14))), (3, .int (nI (i_1))), (0, .ref (A 0)), (1, .int (nI (q)))]) hx hb dX1_callPanel_32 rfl hl (by decide) rfl (fun ls hl => ?_)
          refine lv_iinc (v := nI (i_1 + 1)) (lv' := [(3, .int (nI (i_1 + 1))), (2, .int ((cpS (jf 1) kf jn cn i_1) ||| ((nI (1)) <<< ((nI (b_14)) &&& 31)))), (4, .int (nI (b_14))), (0, .ref (A 0)), (1, .int (nI (q)))]) hx hb dX1_callPanel_33 hl (k := 2) rfl (inc_1 _) (by decide) rfl (fun ls hl => ?_)
          refine lv_goto (tgt := 4) hx hb dX1_callPanel_36 (by decide) ?_
          exact ih_8 (i_1 + 1) _ _ (by omega) (by omega) rfl (by rw [cpS_some eb_15])  ls (lv_sub hl [0, 1, 3, 4] rfl)
        · refine lv_iconst (v := nI (0)) hx hb dX1_callPanel_23 gc_0 ?_
          refine lv_goto (tgt := 31) hx hb dX1_callPanel_24 (by decide) ?_
          refine lv_ior hx hb dX1_callPanel_31 ?_
          refine lv_istore_n (lv' := [(2, .int ((cpS (jf 1) kf jn cn i_1) ||| (nI (0)))), (4, .int (oI (fcF (jf 1) kf jn cn (cpS (jf 1) kf jn cn i_1)))), (3, .int (nI (i_1))), (0, .ref (A 0)), (1, .int (nI (q)))]) hx hb dX1_callPanel_32 rfl hl (by decide) rfl (fun ls hl => ?_)
          refine lv_iinc (v := nI (i_1 + 1)) (lv' := [(3, .int (nI (i_1 + 1))), (2, .int ((cpS (jf 1) kf jn cn i_1) ||| (nI (0)))), (4, .int (oI (fcF (jf 1) kf jn cn (cpS (jf 1) kf jn cn i_1)))), (0, .ref (A 0)), (1, .int (nI (q)))]) hx hb dX1_callPanel_33 hl (k := 2) rfl (inc_1 _) (by decide) rfl (fun ls hl => ?_)
          refine lv_goto (tgt := 4) hx hb dX1_callPanel_36 (by decide) ?_
          exact ih_8 (i_1 + 1) _ _ (by omega) (by omega) rfl (by rw [cpS_none c_13])  ls (lv_sub hl [0, 1, 3, 4] rfl)
  exact LP_5 (3 + 1) 0 _ _ (by omega) (by omega) rfl rfl  ls (lv_sub hl [0, 1, 2, 3] rfl)

set_option maxHeartbeats 1000000 in
set_option maxRecDepth 100000 in
theorem c_X1_sayVerdict (l : Launch) (D : va_G) (cA : Nat → ClassId) (A : Nat → Nat) (jf : Nat → Nat → Int32) (jn : Nat) (kf : Nat → Nat → Int32) (rw : Nat → Nat) (cn rl clk ton : Nat) (sd : Int32) (q : Nat) (hA : aInj 16 A) (hjn : jn ≤ 9) (hcn : cn ≤ 10) (hrl : rl ≤ 10) (hrw : ∀ k, k < rl → rw k < 10) (hq : q < 10) : Met l yX1_sayVerdict (gw yX1_sayVerdict cX1_sayVerdict 4 (some .int)) ({ frames := 2, cells := 0, slots := 0, locals := 48 } : Room) (gPc [.ref (A 0), .int (nI (q))] (fun H => va_P D vwCl (cw cA A (jf) (jn) (kf) (rw) (cn) (rl) (clk) (ton) (sd)) H) D cA) (wrI (fun r H => r = nI (zVd (mkz jf jn kf rw cn rl clk ton sd) q) ∧ va_P D vwCl (cz cA A (zSay (mkz jf jn kf rw cn rl clk ton sd) q)) H) (aS 16 A)) 0 0 (aS 16 A) := by
  refine gOf (by decide) (Nat.le_of_ble_eq_true rfl) ?_
  intro p e s m below meth c ls hx hb hml hr hlk hown hts hnm hP hK hl
  have hl : lv_has ls 4 [(0, .ref (A 0)), (1, .int (nI (q)))] := hl
  have hD : va_D (aS 16 A) (cw cA A (jf) (jn) (kf) (rw) (cn) (rl) (clk) (ton) (sd)) := cwD hA
  have hS : va_S (aS 16 A) s.heap s.heap [] := va_S.rf
  refine lv_aload_n hx hb dX1_sayVerdict_0 rfl (lv_at hl 0 rfl) ?_
  refine g_get (v := .ref (A 6)) hx hb hts hown hK hP 0 rfl rfl gu_wsX10 1 (by decide) gm_3_1 rfl dX1_sayVerdict_1 ?_
  refine g_get (v := .ref (A 9)) hx hb hts hown hK hP 6 rfl rfl gu_wsX00 2 (by decide) gm_12_15 rfl dX1_sayVerdict_4 ?_
  refine lv_iload_n hx hb dX1_sayVerdict_7 rfl (lv_at hl 1 rfl) ?_
  refine g_iald (x := kf 2 (q)) hx hb hK hP 9 rfl (by omega) (by decide) rfl dX1_sayVerdict_8 ?_
  refine lv_istore_n (lv' := [(2, .int (kf 2 (q))), (0, .ref (A 0)), (1, .int (nI (q)))]) hx hb dX1_sayVerdict_9 rfl hl (by decide) rfl (fun ls hl => ?_)
  refine lv_aload_n hx hb dX1_sayVerdict_10 rfl (lv_at hl 1 rfl) ?_
  refine g_get (v := .ref (A 1)) hx hb hts hown hK hP 0 rfl rfl gu_wsX10 0 (by decide) gm_2_21 rfl dX1_sayVerdict_11 ?_
  refine lv_iload_n hx hb dX1_sayVerdict_14 rfl (lv_at hl 0 rfl) ?_
  refine lv_aload_n hx hb dX1_sayVerdict_15 rfl (lv_at hl 1 rfl) ?_
  refine g_get (v := .ref (A 6)) hx hb hts hown hK hP 0 rfl rfl gu_wsX10 1 (by decide) gm_3_1 rfl dX1_sayVerdict_16 ?_
  refine g_get (v := .ref (A 7)) hx hb hts hown hK hP 6 rfl rfl gu_wsX00 0 (by decide) gm_16_12 rfl dX1_sayVerdict_19 ?_
  refine lv_iload_n hx hb dX1_sayVerdict_22 rfl (lv_at hl 2 rfl) ?_
  refine g_iald (x := kf 0 (q)) hx hb hK hP 7 rfl (by omega) (by decide) rfl dX1_sayVerdict_23 ?_
  refine rd_calle (va_runV (As := [.int (kf 2 (q)), .int (kf 0 (q))]) (rest := []) ⟨hx, hb, hml, hown, hts⟩ (c_X3_verdictByCount l D cA (fun k => A (k + 1)) (jf) (jn) (kf 2 (q)) (kf 0 (q))  hjn) (cwV 2 hts (gWV gm_16_15 gm_16_16 gm_16_17 gm_2_5 gm_16_18) rfl rfl rfl (by decide +kernel) ⟨Nat.le_of_ble_eq_true rfl, Nat.le_of_ble_eq_true rfl⟩) (gPreV hK (g_rf hK hP (ci := 5) (q0 := 1) rfl rfl) (hP.sub [1, 2, 3, 4, 5] rfl)) rfl rfl hl.1 rfl (lv_room (Nat.le_of_ble_eq_true rfl)) dX1_sayVerdict_24 ⟨by omega, by omega⟩) ?_
  refine lv_istore_n (lv' := [(3, .int (nI (vdF (jf 0) (jf 1) jn (kf 2 (q)) (kf 0 (q))))), (2, .int (kf 2 (q))), (0, .ref (A 0)), (1, .int (nI (q)))]) hx hb dX1_sayVerdict_27 rfl hl (by decide) rfl (fun ls hl => ?_)
  refine lv_aload_n hx hb dX1_sayVerdict_28 rfl (lv_at hl 2 rfl) ?_
  refine g_get (v := .ref (A 1)) hx hb hts hown hK hP 0 rfl rfl gu_wsX10 0 (by decide) gm_2_21 rfl dX1_sayVerdict_29 ?_
  refine lv_iload_n hx hb dX1_sayVerdict_32 rfl (lv_at hl 1 rfl) ?_
  refine lv_aload_n hx hb dX1_sayVerdict_33 rfl (lv_at hl 2 rfl) ?_
  refine g_get (v := .ref (A 6)) hx hb hts hown hK hP 0 rfl rfl gu_wsX10 1 (by decide) gm_3_1 rfl dX1_sayVerdict_34 ?_
  refine g_get (v := .ref (A 7)) hx hb hts hown hK hP 6 rfl rfl gu_wsX00 0 (by decide) gm_16_12 rfl dX1_sayVerdict_37 ?_
  refine lv_iload_n hx hb dX1_sayVerdict_40 rfl (lv_at hl 3 rfl) ?_
  refine g_iald (x := kf 0 (q)) hx hb hK hP 7 rfl (by omega) (by decide) rfl dX1_sayVerdict_41 ?_
  refine lv_iload_n hx hb dX1_sayVerdict_42 rfl (lv_at hl 0 rfl) ?_
  have hle_1 := vdF_le (jf 0) (jf 1) jn (kf 2 q) (kf 0 q)
  refine wr_callv (va_runV (As := [.int (kf 2 (q)), .int (kf 0 (q)), .int (nI (vdF (jf 0) (jf 1) jn (kf 2 (q)) (kf 0 (q))))]) (rest := []) ⟨hx, hb, hml, hown, hts⟩ (c_X3_takeVerdict l D cA (fun k => A (k + 1)) (jf) (jn) (kf 2 (q)) (kf 0 (q)) (vdF (jf 0) (jf 1) jn (kf 2 (q)) (kf 0 (q))) (aInj_s hA 1 (by decide)) hjn (by omega)) (cwV 3 hts (gWV gm_16_23 gm_17_0 gm_17_1 gm_2_5 gm_17_2) rfl rfl rfl (by decide +kernel) ⟨Nat.le_of_ble_eq_true rfl, Nat.le_of_ble_eq_true rfl⟩) (gPreV hK (g_rf hK hP (ci := 5) (q0 := 1) rfl rfl) (hP.sub [1, 2, 3, 4, 5] rfl)) rfl rfl hl.1 rfl (lv_room (Nat.le_of_ble_eq_true rfl)) dX1_sayVerdict_43 ⟨by omega, by omega⟩) hS (fun q _ h => aS_up (m := 5) (a := 1) (by decide) h) (fun q h => aS_up (m := 5) (a := 1) (by decide) h) (fun H locs hPn hz9 hk9 hS => ?_)
  have hP : va_P D vwCl (cw cA A (va_up (va_up (va_up (jf) 1 ((tvS (kf 2 (q)) (kf 0 (q)) (vdF (jf 0) (jf 1) jn (kf 2 (q)) (kf 0 (q))) (jf 0) (jf 1, (jf 2, jf 3)) jn).1)) 2 ((tvS (kf 2 (q)) (kf 0 (q)) (vdF (jf 0) (jf 1) jn (kf 2 (q)) (kf 0 (q))) (jf 0) (jf 1, (jf 2, jf 3)) jn).2.1)) 3 ((tvS (kf 2 (q)) (kf 0 (q)) (vdF (jf 0) (jf 1) jn (kf 2 (q)) (kf 0 (q))) (jf 0) (jf 1, (jf 2, jf 3)) jn).2.2)) (jn) (kf) (rw) (cn) (rl) (clk) (ton) (sd)) H := cw_J hA hP hPn hk9
  have hD : va_D (aS 16 A) (cw cA A (va_up (va_up (va_up (jf) 1 ((tvS (kf 2 (q)) (kf 0 (q)) (vdF (jf 0) (jf 1) jn (kf 2 (q)) (kf 0 (q))) (jf 0) (jf 1, (jf 2, jf 3)) jn).1)) 2 ((tvS (kf 2 (q)) (kf 0 (q)) (vdF (jf 0) (jf 1) jn (kf 2 (q)) (kf 0 (q))) (jf 0) (jf 1, (jf 2, jf 3)) jn).2.1)) 3 ((tvS (kf 2 (q)) (kf 0 (q)) (vdF (jf 0) (jf 1) jn (kf 2 (q)) (kf 0 (q))) (jf 0) (jf 1, (jf 2, jf 3)) jn).2.2)) (jn) (kf) (rw) (cn) (rl) (clk) (ton) (sd)) := cwD hA
  refine lv_aload_n hx hb dX1_sayVerdict_46 rfl (lv_at hl 2 rfl) ?_
  refine g_get (v := .ref (A 6)) hx hb hts hown hK hP 0 rfl rfl gu_wsX10 1 (by decide) gm_3_1 rfl dX1_sayVerdict_47 ?_
  refine g_get (v := .ref (A 10)) hx hb hts hown hK hP 6 rfl rfl gu_wsX00 3 (by decide) gm_16_13 rfl dX1_sayVerdict_50 ?_
  refine lv_iload_n hx hb dX1_sayVerdict_53 rfl (lv_at hl 3 rfl) ?_
  refine lv_iload_n hx hb dX1_sayVerdict_54 rfl (lv_at hl 0 rfl) ?_
  refine g_iast (ws' := cw cA A (va_up (va_up (va_up (jf) 1 ((tvS (kf 2 (q)) (kf 0 (q)) (vdF (jf 0) (jf 1) jn (kf 2 (q)) (kf 0 (q))) (jf 0) (jf 1, (jf 2, jf 3)) jn).1)) 2 ((tvS (kf 2 (q)) (kf 0 (q)) (vdF (jf 0) (jf 1) jn (kf 2 (q)) (kf 0 (q))) (jf 0) (jf 1, (jf 2, jf 3)) jn).2.1)) 3 ((tvS (kf 2 (q)) (kf 0 (q)) (vdF (jf 0) (jf 1) jn (kf 2 (q)) (kf 0 (q))) (jf 0) (jf 1, (jf 2, jf 3)) jn).2.2)) (jn) (va_up (kf) 3 (upd (kf 3) (q) (nI (vdF (jf 0) (jf 1) jn (kf 2 (q)) (kf 0 (q)))))) (rw) (cn) (rl) (clk) (ton) (sd)) hx hb hK hP hD hS 10 rfl (by omega) (by decide) (by first | rfl | (rw [updN_nI]; rfl)) dX1_sayVerdict_55 (fun H locs hP hD hS => ?_)
  refine lv_aload_n hx hb dX1_sayVerdict_56 rfl (lv_at hl 2 rfl) ?_
  refine g_get (v := .ref (A 6)) hx hb hts hown hK hP 0 rfl rfl gu_wsX10 1 (by decide) gm_3_1 rfl dX1_sayVerdict_57 ?_
  refine g_get (v := .ref (A 11)) hx hb hts hown hK hP 6 rfl rfl gu_wsX00 4 (by decide) gm_16_14 rfl dX1_sayVerdict_60 ?_
  refine lv_iload_n hx hb dX1_sayVerdict_63 rfl (lv_at hl 3 rfl) ?_
  refine lv_aload_n hx hb dX1_sayVerdict_64 rfl (lv_at hl 2 rfl) ?_
  refine g_get (v := .int (nI (ton))) hx hb hts hown hK hP 0 rfl rfl gu_wsX10 3 (by decide) gm_3_3 rfl dX1_sayVerdict_65 ?_
  refine g_iast (ws' := cw cA A (va_up (va_up (va_up (jf) 1 ((tvS (kf 2 (q)) (kf 0 (q)) (vdF (jf 0) (jf 1) jn (kf 2 (q)) (kf 0 (q))) (jf 0) (jf 1, (jf 2, jf 3)) jn).1)) 2 ((tvS (kf 2 (q)) (kf 0 (q)) (vdF (jf 0) (jf 1) jn (kf 2 (q)) (kf 0 (q))) (jf 0) (jf 1, (jf 2, jf 3)) jn).2.1)) 3 ((tvS (kf 2 (q)) (kf 0 (q)) (vdF (jf 0) (jf 1) jn (kf 2 (q)) (kf 0 (q))) (jf 0) (jf 1, (jf 2, jf 3)) jn).2.2)) (jn) (va_up (va_up (kf) 3 (upd (kf 3) (q) (nI (vdF (jf 0) (jf 1) jn (kf 2 (q)) (kf 0 (q)))))) 4 (upd (kf 4) (q) (nI (ton)))) (rw) (cn) (rl) (clk) (ton) (sd)) hx hb hK hP hD hS 11 rfl (by omega) (by decide) (by first | rfl | (rw [updN_nI]; rfl)) dX1_sayVerdict_68 (fun H locs hP hD hS => ?_)
  refine lv_aload_n hx hb dX1_sayVerdict_69 rfl (lv_at hl 2 rfl) ?_
  refine g_get (v := .ref (A 6)) hx hb hts hown hK hP 0 rfl rfl gu_wsX10 1 (by decide) gm_3_1 rfl dX1_sayVerdict_70 ?_
  refine lv_iload_n hx hb dX1_sayVerdict_73 rfl (lv_at hl 3 rfl) ?_
  refine wr_callv (va_runV (As := [.int (nI (q))]) (rest := []) ⟨hx, hb, hml, hown, hts⟩ (c_X0_strike l D cA (fun k => A (k + 6)) (va_up (va_up (kf) 3 (upd (kf 3) (q) (nI (vdF (jf 0) (jf 1) jn (kf 2 (q)) (kf 0 (q)))))) 4 (upd (kf 4) (q) (nI (ton)))) (rw) (cn) (rl) (q) (aInj_s hA 6 (by decide)) hrl hrw (by omega)) (cwV 1 hts (gWV gm_17_7 gm_17_8 gm_17_9 gm_3_0 gm_17_10) rfl rfl rfl (by decide +kernel) ⟨Nat.le_of_ble_eq_true rfl, Nat.le_of_ble_eq_true rfl⟩) (gPreV hK (g_rf hK hP (ci := 2) (q0 := 6) rfl rfl) (hP.sub [6, 7, 8, 9, 10, 11, 12, 13, 14, 15] rfl)) rfl rfl hl.1 rfl (lv_room (Nat.le_of_ble_eq_true rfl)) dX1_sayVerdict_74 ⟨by omega, by omega⟩) hS (fun q _ h => aS_up (m := 10) (a := 6) (by decide) h) (fun q h => aS_up (m := 10) (a := 6) (by decide) h) (fun H locs hPn hz9 hk9 hS => ?_)
  have hP : va_P D vwCl (cw cA A (va_up (va_up (va_up (jf) 1 ((tvS (kf 2 (q)) (kf 0 (q)) (vdF (jf 0) (jf 1) jn (kf 2 (q)) (kf 0 (q))) (jf 0) (jf 1, (jf 2, jf 3)) jn).1)) 2 ((tvS (kf 2 (q)) (kf 0 (q)) (vdF (jf 0) (jf 1) jn (kf 2 (q)) (kf 0 (q))) (jf 0) (jf 1, (jf 2, jf 3)) jn).2.1)) 3 ((tvS (kf 2 (q)) (kf 0 (q)) (vdF (jf 0) (jf 1) jn (kf 2 (q)) (kf 0 (q))) (jf 0) (jf 1, (jf 2, jf 3)) jn).2.2)) (jn) (va_up (va_up (kf) 3 (upd (kf 3) (q) (nI (vdF (jf 0) (jf 1) jn (kf 2 (q)) (kf 0 (q)))))) 4 (upd (kf 4) (q) (nI (ton)))) ((stO rw rl (q)).1) (cn) ((stO rw rl (q)).2) (clk) (ton) (sd)) H := cw_K hA hP hPn hk9
  have hD : va_D (aS 16 A) (cw cA A (va_up (va_up (va_up (jf) 1 ((tvS (kf 2 (q)) (kf 0 (q)) (vdF (jf 0) (jf 1) jn (kf 2 (q)) (kf 0 (q))) (jf 0) (jf 1, (jf 2, jf 3)) jn).1)) 2 ((tvS (kf 2 (q)) (kf 0 (q)) (vdF (jf 0) (jf 1) jn (kf 2 (q)) (kf 0 (q))) (jf 0) (jf 1, (jf 2, jf 3)) jn).2.1)) 3 ((tvS (kf 2 (q)) (kf 0 (q)) (vdF (jf 0) (jf 1) jn (kf 2 (q)) (kf 0 (q))) (jf 0) (jf 1, (jf 2, jf 3)) jn).2.2)) (jn) (va_up (va_up (kf) 3 (upd (kf 3) (q) (nI (vdF (jf 0) (jf 1) jn (kf 2 (q)) (kf 0 (q)))))) 4 (upd (kf 4) (q) (nI (ton)))) ((stO rw rl (q)).1) (cn) ((stO rw rl (q)).2) (clk) (ton) (sd)) := cwD hA
  refine lv_aload_n hx hb dX1_sayVerdict_77 rfl (lv_at hl 2 rfl) ?_
  refine lv_dup hx hb dX1_sayVerdict_78 rfl ?_
  refine g_get (v := .int (sd)) hx hb hts hown hK hP 0 rfl rfl gu_wsX10 4 (by decide) gm_3_4 rfl dX1_sayVerdict_79 ?_
  refine lv_iconst (v := nI (1)) hx hb dX1_sayVerdict_82 gc_1 ?_
  refine lv_iadd hx hb dX1_sayVerdict_83 ?_
  refine g_put (ws' := cw cA A (va_up (va_up (va_up (jf) 1 ((tvS (kf 2 (q)) (kf 0 (q)) (vdF (jf 0) (jf 1) jn (kf 2 (q)) (kf 0 (q))) (jf 0) (jf 1, (jf 2, jf 3)) jn).1)) 2 ((tvS (kf 2 (q)) (kf 0 (q)) (vdF (jf 0) (jf 1) jn (kf 2 (q)) (kf 0 (q))) (jf 0) (jf 1, (jf 2, jf 3)) jn).2.1)) 3 ((tvS (kf 2 (q)) (kf 0 (q)) (vdF (jf 0) (jf 1) jn (kf 2 (q)) (kf 0 (q))) (jf 0) (jf 1, (jf 2, jf 3)) jn).2.2)) (jn) (va_up (va_up (kf) 3 (upd (kf 3) (q) (nI (vdF (jf 0) (jf 1) jn (kf 2 (q)) (kf 0 (q)))))) 4 (upd (kf 4) (q) (nI (ton)))) ((stO rw rl (q)).1) (cn) ((stO rw rl (q)).2) (clk) (ton) ((sd) + (nI (1)))) hx hb hts hown hK hP hD hS 0 rfl rfl gu_wsX10 tyX1_ok nmX1 4 (by decide) gm_3_4 rfl rfl rfl (Nat.le_of_ble_eq_true rfl) (by first | rfl | (rw [updN_nI]; rfl)) dX1_sayVerdict_84 (fun H locs hP hD hS => ?_)
  refine lv_iload_n hx hb dX1_sayVerdict_87 rfl (lv_at hl 0 rfl) ?_
  exact g_iretW (v := nI (vdF (jf 0) (jf 1) jn (kf 2 (q)) (kf 0 (q)))) hx hb hr hlk hS dX1_sayVerdict_88 (⟨rfl, hP⟩)

set_option maxHeartbeats 1000000 in
set_option maxRecDepth 100000 in
theorem c_X1_unsayVerdict (l : Launch) (D : va_G) (cA : Nat → ClassId) (A : Nat → Nat) (jf : Nat → Nat → Int32) (jn : Nat) (kf : Nat → Nat → Int32) (rw : Nat → Nat) (cn rl clk ton : Nat) (sd : Int32) (q : Nat) (hA : aInj 16 A) (hjn : jn ≤ 9) (hcn : cn ≤ 10) (hr9 : rl ≤ 9) (hrw : ∀ k, k < rl → rw k < 10) (hq : q < 10) : Met l yX1_unsayVerdict (gw yX1_unsayVerdict cX1_unsayVerdict 2 (some .int)) ({ frames := 2, cells := 0, slots := 0, locals := 47 } : Room) (gPc [.ref (A 0), .int (nI (q))] (fun H => va_P D vwCl (cw cA A (jf) (jn) (kf) (rw) (cn) (rl) (clk) (ton) (sd)) H) D cA) (wrI (fun r H => r = nI (zTo (mkz jf jn kf rw cn rl clk ton sd) q).1 ∧ va_P D vwCl (cz cA A (zUns (mkz jf jn kf rw cn rl clk ton sd) q)) H) (aS 16 A)) 0 0 (aS 16 A) := by
  refine gOf (by decide) (Nat.le_of_ble_eq_true rfl) ?_
  intro p e s m below meth c ls hx hb hml hr hlk hown hts hnm hP hK hl
  have hl : lv_has ls 2 [(0, .ref (A 0)), (1, .int (nI (q)))] := hl
  have hD : va_D (aS 16 A) (cw cA A (jf) (jn) (kf) (rw) (cn) (rl) (clk) (ton) (sd)) := cwD hA
  have hS : va_S (aS 16 A) s.heap s.heap [] := va_S.rf
  refine lv_aload_n hx hb dX1_unsayVerdict_0 rfl (lv_at hl 0 rfl) ?_
  refine g_get (v := .ref (A 6)) hx hb hts hown hK hP 0 rfl rfl gu_wsX10 1 (by decide) gm_3_1 rfl dX1_unsayVerdict_1 ?_
  refine g_get (v := .ref (A 10)) hx hb hts hown hK hP 6 rfl rfl gu_wsX00 3 (by decide) gm_16_13 rfl dX1_unsayVerdict_4 ?_
  refine lv_iload_n hx hb dX1_unsayVerdict_7 rfl (lv_at hl 1 rfl) ?_
  refine lv_iconst (v := nI (0)) hx hb dX1_unsayVerdict_8 gc_0 ?_
  refine g_iast (ws' := cw cA A (jf) (jn) (va_up (kf) 3 (upd (kf 3) (q) (nI (0)))) (rw) (cn) (rl) (clk) (ton) (sd)) hx hb hK hP hD hS 10 rfl (by omega) (by decide) (by first | rfl | (rw [updN_nI]; rfl)) dX1_unsayVerdict_9 (fun H locs hP hD hS => ?_)
  refine lv_aload_n hx hb dX1_unsayVerdict_10 rfl (lv_at hl 0 rfl) ?_
  refine g_get (v := .ref (A 6)) hx hb hts hown hK hP 0 rfl rfl gu_wsX10 1 (by decide) gm_3_1 rfl dX1_unsayVerdict_11 ?_
  refine g_get (v := .ref (A 11)) hx hb hts hown hK hP 6 rfl rfl gu_wsX00 4 (by decide) gm_16_14 rfl dX1_unsayVerdict_14 ?_
  refine lv_iload_n hx hb dX1_unsayVerdict_17 rfl (lv_at hl 1 rfl) ?_
  refine lv_iconst (v := -1) hx hb dX1_unsayVerdict_18 gc_m1 ?_
  refine g_iast (ws' := cw cA A (jf) (jn) (va_up (va_up (kf) 3 (upd (kf 3) (q) (nI (0)))) 4 (upd (kf 4) (q) (-1))) (rw) (cn) (rl) (clk) (ton) (sd)) hx hb hK hP hD hS 11 rfl (by omega) (by decide) (by first | rfl | (rw [updN_nI]; rfl)) dX1_unsayVerdict_19 (fun H locs hP hD hS => ?_)
  refine lv_aload_n hx hb dX1_unsayVerdict_20 rfl (lv_at hl 0 rfl) ?_
  refine g_get (v := .ref (A 6)) hx hb hts hown hK hP 0 rfl rfl gu_wsX10 1 (by decide) gm_3_1 rfl dX1_unsayVerdict_21 ?_
  refine g_get (v := .ref (A 13)) hx hb hts hown hK hP 6 rfl rfl gu_wsX00 6 (by decide) gm_19_14 rfl dX1_unsayVerdict_24 ?_
  refine lv_iload_n hx hb dX1_unsayVerdict_27 rfl (lv_at hl 1 rfl) ?_
  refine lv_dup2_11 hx hb dX1_unsayVerdict_28 rfl rfl ?_
  refine g_iald (x := kf 6 (q)) hx hb hK hP 13 rfl (by omega) (by decide) rfl dX1_unsayVerdict_29 ?_
  refine lv_iconst (v := nI (1)) hx hb dX1_unsayVerdict_30 gc_1 ?_
  refine lv_iadd hx hb dX1_unsayVerdict_31 ?_
  refine g_iast (ws' := cw cA A (jf) (jn) (va_up (va_up (va_up (kf) 3 (upd (kf 3) (q) (nI (0)))) 4 (upd (kf 4) (q) (-1))) 6 (upd (kf 6) (q) ((kf 6 (q)) + (nI (1))))) (rw) (cn) (rl) (clk) (ton) (sd)) hx hb hK hP hD hS 13 rfl (by omega) (by decide) (by first | rfl | (rw [updN_nI]; rfl)) dX1_unsayVerdict_32 (fun H locs hP hD hS => ?_)
  refine lv_aload_n hx hb dX1_unsayVerdict_33 rfl (lv_at hl 0 rfl) ?_
  refine g_get (v := .ref (A 6)) hx hb hts hown hK hP 0 rfl rfl gu_wsX10 1 (by decide) gm_3_1 rfl dX1_unsayVerdict_34 ?_
  refine lv_iload_n hx hb dX1_unsayVerdict_37 rfl (lv_at hl 1 rfl) ?_
  refine wr_callv (va_runV (As := [.int (nI (q))]) (rest := []) ⟨hx, hb, hml, hown, hts⟩ (c_X0_enroll l D cA (fun k => A (k + 6)) (va_up (va_up (va_up (kf) 3 (upd (kf 3) (q) (nI (0)))) 4 (upd (kf 4) (q) (-1))) 6 (upd (kf 6) (q) ((kf 6 (q)) + (nI (1))))) (rw) (cn) (rl) (q) (aInj_s hA 6 (by decide)) (by omega) hrw (by omega)) (cwV 1 hts (gWV gm_13_11 gm_13_12 gm_13_13 gm_3_0 gm_13_14) rfl rfl rfl (by decide +kernel) ⟨Nat.le_of_ble_eq_true rfl, Nat.le_of_ble_eq_true rfl⟩) (gPreV hK (g_rf hK hP (ci := 2) (q0 := 6) rfl rfl) (hP.sub [6, 7, 8, 9, 10, 11, 12, 13, 14, 15] rfl)) rfl rfl hl.1 rfl (lv_room (Nat.le_of_ble_eq_true rfl)) dX1_unsayVerdict_38 ⟨by omega, by omega⟩) hS (fun q _ h => aS_up (m := 10) (a := 6) (by decide) h) (fun q h => aS_up (m := 10) (a := 6) (by decide) h) (fun H locs hPn hz9 hk9 hS => ?_)
  have hP : va_P D vwCl (cw cA A (jf) (jn) (va_up (va_up (va_up (kf) 3 (upd (kf 3) (q) (nI (0)))) 4 (upd (kf 4) (q) (-1))) 6 (upd (kf 6) (q) ((kf 6 (q)) + (nI (1))))) (enO (va_up (va_up (va_up (kf) 3 (upd (kf 3) (q) (nI (0)))) 4 (upd (kf 4) (q) (-1))) 6 (upd (kf 6) (q) ((kf 6 (q)) + (nI (1))))) rw rl (q)) (cn) (rl + 1) (clk) (ton) (sd)) H := cw_K hA hP hPn hk9
  have hD : va_D (aS 16 A) (cw cA A (jf) (jn) (va_up (va_up (va_up (kf) 3 (upd (kf 3) (q) (nI (0)))) 4 (upd (kf 4) (q) (-1))) 6 (upd (kf 6) (q) ((kf 6 (q)) + (nI (1))))) (enO (va_up (va_up (va_up (kf) 3 (upd (kf 3) (q) (nI (0)))) 4 (upd (kf 4) (q) (-1))) 6 (upd (kf 6) (q) ((kf 6 (q)) + (nI (1))))) rw rl (q)) (cn) (rl + 1) (clk) (ton) (sd)) := cwD hA
  refine lv_aload_n hx hb dX1_unsayVerdict_41 rfl (lv_at hl 0 rfl) ?_
  refine g_get (v := .ref (A 1)) hx hb hts hown hK hP 0 rfl rfl gu_wsX10 0 (by decide) gm_2_21 rfl dX1_unsayVerdict_42 ?_
  refine lv_aload_n hx hb dX1_unsayVerdict_45 rfl (lv_at hl 0 rfl) ?_
  refine g_get (v := .ref (A 6)) hx hb hts hown hK hP 0 rfl rfl gu_wsX10 1 (by decide) gm_3_1 rfl dX1_unsayVerdict_46 ?_
  refine g_get (v := .ref (A 9)) hx hb hts hown hK hP 6 rfl rfl gu_wsX00 2 (by decide) gm_12_15 rfl dX1_unsayVerdict_49 ?_
  refine lv_iload_n hx hb dX1_unsayVerdict_52 rfl (lv_at hl 1 rfl) ?_
  refine g_iald (x := kf 2 (q)) hx hb hK hP 9 rfl (by omega) (by decide) rfl dX1_unsayVerdict_53 ?_
  refine lv_aload_n hx hb dX1_unsayVerdict_54 rfl (lv_at hl 0 rfl) ?_
  refine g_get (v := .ref (A 6)) hx hb hts hown hK hP 0 rfl rfl gu_wsX10 1 (by decide) gm_3_1 rfl dX1_unsayVerdict_55 ?_
  refine g_get (v := .ref (A 7)) hx hb hts hown hK hP 6 rfl rfl gu_wsX00 0 (by decide) gm_16_12 rfl dX1_unsayVerdict_58 ?_
  refine lv_iload_n hx hb dX1_unsayVerdict_61 rfl (lv_at hl 1 rfl) ?_
  refine g_iald (x := kf 0 (q)) hx hb hK hP 7 rfl (by omega) (by decide) rfl dX1_unsayVerdict_62 ?_
  refine wr_calli (va_runV (As := [.int (kf 2 (q)), .int (kf 0 (q))]) (rest := []) ⟨hx, hb, hml, hown, hts⟩ (c_X3_thinkOver l D cA (fun k => A (k + 1)) (jf) (jn) (kf 2 (q)) (kf 0 (q)) (aInj_s hA 1 (by decide)) hjn) (cwV 2 hts (gWV gm_19_15 gm_19_16 gm_19_17 gm_2_5 gm_19_18) rfl rfl rfl (by decide +kernel) ⟨Nat.le_of_ble_eq_true rfl, Nat.le_of_ble_eq_true rfl⟩) (gPreV hK (g_rf hK hP (ci := 5) (q0 := 1) rfl rfl) (hP.sub [1, 2, 3, 4, 5] rfl)) rfl rfl hl.1 rfl (lv_room (Nat.le_of_ble_eq_true rfl)) dX1_unsayVerdict_63 ⟨by omega, by omega⟩) hS (fun q _ h => aS_up (m := 5) (a := 1) (by decide) h) (fun q h => aS_up (m := 5) (a := 1) (by decide) h) (fun r H locs hw9 hz9 hk9 hS => ?_)
  obtain ⟨rfl, hPn⟩ := hw9
  have hP : va_P D vwCl (cw cA A (va_up (jf) 0 ((toS (kf 2 (q)) (kf 0 (q)) (jf 1) (jf 0) jn).2)) (jn) (va_up (va_up (va_up (kf) 3 (upd (kf 3) (q) (nI (0)))) 4 (upd (kf 4) (q) (-1))) 6 (upd (kf 6) (q) ((kf 6 (q)) + (nI (1))))) (enO (va_up (va_up (va_up (kf) 3 (upd (kf 3) (q) (nI (0)))) 4 (upd (kf 4) (q) (-1))) 6 (upd (kf 6) (q) ((kf 6 (q)) + (nI (1))))) rw rl (q)) (cn) (rl + 1) (clk) (ton) (sd)) H := cw_J hA hP hPn hk9
  have hD : va_D (aS 16 A) (cw cA A (va_up (jf) 0 ((toS (kf 2 (q)) (kf 0 (q)) (jf 1) (jf 0) jn).2)) (jn) (va_up (va_up (va_up (kf) 3 (upd (kf 3) (q) (nI (0)))) 4 (upd (kf 4) (q) (-1))) 6 (upd (kf 6) (q) ((kf 6 (q)) + (nI (1))))) (enO (va_up (va_up (va_up (kf) 3 (upd (kf 3) (q) (nI (0)))) 4 (upd (kf 4) (q) (-1))) 6 (upd (kf 6) (q) ((kf 6 (q)) + (nI (1))))) rw rl (q)) (cn) (rl + 1) (clk) (ton) (sd)) := cwD hA
  exact g_iretW (v := nI ((toS (kf 2 (q)) (kf 0 (q)) (jf 1) (jf 0) jn).1)) hx hb hr hlk hS dX1_unsayVerdict_66 (⟨rfl, hP⟩)

theorem zApP_s {z : CS} {q a b : Nat} (h1 : zOut z q = some a) (h2 : zIn z q = some b) : zApP z q = ((zK z 2 q &&& ((nI 1 <<< (nI a &&& 31)) ^^^ -1)) ||| (nI 1 <<< (nI b &&& 31))) := by
  rw [zApP, h1, h2]

set_option maxHeartbeats 1000000 in
set_option maxRecDepth 100000 in
theorem c_X1_voteAnew (l : Launch) (D : va_G) (cA : Nat → ClassId) (A : Nat → Nat) (jf : Nat → Nat → Int32) (jn : Nat) (kf : Nat → Nat → Int32) (rw : Nat → Nat) (cn rl clk ton : Nat) (sd : Int32) (q : Nat) (hA : aInj 16 A) (hjn : jn ≤ 9) (hcn : cn ≤ 10) (hrl : rl ≤ 10) (hrw : ∀ k, k < rl → rw k < 10) (hq : q < 10) (hout : ¬ zOut (mkz jf jn kf rw cn rl clk ton sd) q = none) (hin : ¬ zIn (mkz jf jn kf rw cn rl clk ton sd) q = none) : Met l yX1_voteAnew (gw yX1_voteAnew cX1_voteAnew 5 (some .int)) ({ frames := 3, cells := 0, slots := 0, locals := 71 } : Room) (gPc [.ref (A 0), .int (nI (q))] (fun H => va_P D vwCl (cw cA A (jf) (jn) (kf) (rw) (cn) (rl) (clk) (ton) (sd)) H) D cA) (wrI (fun r H => r = nI (zVd (zAp (mkz jf jn kf rw cn rl clk ton sd) q) q) ∧ va_P D vwCl (cz cA A (zSay (zAp (mkz jf jn kf rw cn rl clk ton sd) q) q)) H) (aS 16 A)) 0 0 (aS 16 A) := by
  refine gOf (by decide) (Nat.le_of_ble_eq_true rfl) ?_
  intro p e s m below meth c ls hx hb hml hr hlk hown hts hnm hP hK hl
  have hl : lv_has ls 5 [(0, .ref (A 0)), (1, .int (nI (q)))] := hl
  have hD : va_D (aS 16 A) (cw cA A (jf) (jn) (kf) (rw) (cn) (rl) (clk) (ton) (sd)) := cwD hA
  have hS : va_S (aS 16 A) s.heap s.heap [] := va_S.rf
  refine lv_aload_n hx hb dX1_voteAnew_0 rfl (lv_at hl 0 rfl) ?_
  refine g_get (v := .ref (A 6)) hx hb hts hown hK hP 0 rfl rfl gu_wsX10 1 (by decide) gm_3_1 rfl dX1_voteAnew_1 ?_
  refine g_get (v := .ref (A 9)) hx hb hts hown hK hP 6 rfl rfl gu_wsX00 2 (by decide) gm_12_15 rfl dX1_voteAnew_4 ?_
  refine lv_iload_n hx hb dX1_voteAnew_7 rfl (lv_at hl 1 rfl) ?_
  refine g_iald (x := kf 2 (q)) hx hb hK hP 9 rfl (by omega) (by decide) rfl dX1_voteAnew_8 ?_
  refine lv_istore_n (lv' := [(2, .int (kf 2 (q))), (0, .ref (A 0)), (1, .int (nI (q)))]) hx hb dX1_voteAnew_9 rfl hl (by decide) rfl (fun ls hl => ?_)
  refine lv_aload_n hx hb dX1_voteAnew_10 rfl (lv_at hl 1 rfl) ?_
  refine g_get (v := .ref (A 1)) hx hb hts hown hK hP 0 rfl rfl gu_wsX10 0 (by decide) gm_2_21 rfl dX1_voteAnew_11 ?_
  refine lv_iload_n hx hb dX1_voteAnew_14 rfl (lv_at hl 0 rfl) ?_
  refine rd_calle (va_runV (As := [.int (kf 2 (q))]) (rest := []) ⟨hx, hb, hml, hown, hts⟩ (c_X3_mostDoubtfulOf l D cA (fun k => A (k + 1)) (jf) (jn) (kf 2 (q))  hjn) (cwV 1 hts (gWV gm_20_23 gm_21_0 gm_21_1 gm_2_5 gm_21_2) rfl rfl rfl (by decide +kernel) ⟨Nat.le_of_ble_eq_true rfl, Nat.le_of_ble_eq_true rfl⟩) (gPreV hK (g_rf hK hP (ci := 5) (q0 := 1) rfl rfl) (hP.sub [1, 2, 3, 4, 5] rfl)) rfl rfl hl.1 rfl (lv_room (Nat.le_of_ble_eq_true rfl)) dX1_voteAnew_15 ⟨by omega, by omega⟩) ?_
  refine lv_istore_n (lv' := [(3, .int (oI (dbF (jf 1) jn (kf 2 (q))))), (2, .int (kf 2 (q))), (0, .ref (A 0)), (1, .int (nI (q)))]) hx hb dX1_voteAnew_18 rfl hl (by decide) rfl (fun ls hl => ?_)
  refine lv_aload_n hx hb dX1_voteAnew_19 rfl (lv_at hl 2 rfl) ?_
  refine lv_iload_n hx hb dX1_voteAnew_20 rfl (lv_at hl 1 rfl) ?_
  refine rd_calle (va_runV (As := [.int (kf 2 (q))]) (rest := []) ⟨hx, hb, hml, hown, hts⟩ (c_X1_firstCallable l D cA A (jf) (jn) (kf) (rw) (cn) (rl) (clk) (ton) (sd) (kf 2 (q))  hjn hcn) (cwV 1 hts (gWV gm_13_6 gm_13_7 gm_13_8 gm_1_16 gm_13_9) rfl rfl rfl (by decide +kernel) ⟨Nat.le_of_ble_eq_true rfl, Nat.le_of_ble_eq_true rfl⟩) (gPreV hK (g_rf hK hP (ci := 3) (q0 := 0) rfl rfl) hP) rfl rfl hl.1 rfl (lv_room (Nat.le_of_ble_eq_true rfl)) dX1_voteAnew_21 ⟨by omega, by omega⟩) ?_
  refine lv_istore (lv' := [(4, .int (oI (fcF (jf 1) kf jn cn (kf 2 (q))))), (3, .int (oI (dbF (jf 1) jn (kf 2 (q))))), (2, .int (kf 2 (q))), (0, .ref (A 0)), (1, .int (nI (q)))]) hx hb dX1_voteAnew_24 hl (by decide) rfl (fun ls hl => ?_)
  refine lv_iload_n hx hb dX1_voteAnew_26 rfl (lv_at hl 1 rfl) ?_
  refine lv_iconst (v := -1) hx hb dX1_voteAnew_27 gc_m1 ?_
  refine g_icmp_eq (P := dbF (jf 1) jn (kf 2 (q)) = none) (tgt := 58) hx hb dX1_voteAnew_28 (by decide) (oI_m1 (by first | exact (fun b q => by have := bst_lt q; omega) | exact (fun b q => by have := fcF_lt _ _ q; omega))) (fun c_1 => ?_) (fun c_1 => ?_)
  · exact absurd c_1 hout
  · obtain ⟨b_2, eb_3⟩ := o_some c_1
    have hb_4 := bst_lt eb_3
    rw [eb_3] at hl
    have hl : lv_has ls 5 [(4, .int (oI (fcF (jf 1) kf jn cn (kf 2 (q))))), (3, .int (nI (b_2))), (2, .int (kf 2 (q))), (0, .ref (A 0)), (1, .int (nI (q)))] := hl
    refine lv_iload hx hb dX1_voteAnew_31 (lv_at hl 0 rfl) ?_
    refine lv_iconst (v := -1) hx hb dX1_voteAnew_33 gc_m1 ?_
    refine g_icmp_eq (P := fcF (jf 1) kf jn cn (kf 2 (q)) = none) (tgt := 58) hx hb dX1_voteAnew_34 (by decide) (oI_m1 (by first | exact (fun b q => by have := bst_lt q; omega) | exact (fun b q => by have := fcF_lt _ _ q; omega))) (fun c_5 => ?_) (fun c_5 => ?_)
    · exact absurd c_5 hin
    · obtain ⟨b_6, eb_7⟩ := o_some c_5
      have hb_8 := fcF_lt _ _ eb_7
      rw [eb_7] at hl
      have hl : lv_has ls 5 [(4, .int (nI (b_6))), (3, .int (nI (b_2))), (2, .int (kf 2 (q))), (0, .ref (A 0)), (1, .int (nI (q)))] := hl
      refine lv_aload_n hx hb dX1_voteAnew_37 rfl (lv_at hl 3 rfl) ?_
      refine g_get (v := .ref (A 6)) hx hb hts hown hK hP 0 rfl rfl gu_wsX10 1 (by decide) gm_3_1 rfl dX1_voteAnew_38 ?_
      refine g_get (v := .ref (A 9)) hx hb hts hown hK hP 6 rfl rfl gu_wsX00 2 (by decide) gm_12_15 rfl dX1_voteAnew_41 ?_
      refine lv_iload_n hx hb dX1_voteAnew_44 rfl (lv_at hl 4 rfl) ?_
      refine lv_iload_n hx hb dX1_voteAnew_45 rfl (lv_at hl 2 rfl) ?_
      refine lv_iconst (v := nI (1)) hx hb dX1_voteAnew_46 gc_1 ?_
      refine lv_iload_n hx hb dX1_voteAnew_47 rfl (lv_at hl 1 rfl) ?_
      refine lv_ishl hx hb dX1_voteAnew_48 ?_
      refine lv_iconst (v := -1) hx hb dX1_voteAnew_49 gc_m1 ?_
      refine lv_ixor hx hb dX1_voteAnew_50 ?_
      refine lv_iand hx hb dX1_voteAnew_51 ?_
      refine lv_iconst (v := nI (1)) hx hb dX1_voteAnew_52 gc_1 ?_
      refine lv_iload hx hb dX1_voteAnew_53 (lv_at hl 0 rfl) ?_
      refine lv_ishl hx hb dX1_voteAnew_55 ?_
      refine lv_ior hx hb dX1_voteAnew_56 ?_
      refine g_iast (ws' := cw cA A (jf) (jn) (va_up (kf) 2 (upd (kf 2) (q) (((kf 2 (q)) &&& (((nI (1)) <<< ((nI (b_2)) &&& 31)) ^^^ (-1))) ||| ((nI (1)) <<< ((nI (b_6)) &&& 31))))) (rw) (cn) (rl) (clk) (ton) (sd)) hx hb hK hP hD hS 9 rfl (by omega) (by decide) (by first | rfl | (rw [updN_nI]; rfl)) dX1_voteAnew_57 (fun H locs hP hD hS => ?_)
      refine lv_aload_n hx hb dX1_voteAnew_58 rfl (lv_at hl 3 rfl) ?_
      refine g_get (v := .ref (A 6)) hx hb hts hown hK hP 0 rfl rfl gu_wsX10 1 (by decide) gm_3_1 rfl dX1_voteAnew_59 ?_
      refine g_get (v := .ref (A 8)) hx hb hts hown hK hP 6 rfl rfl gu_wsX00 1 (by decide) gm_20_20 rfl dX1_voteAnew_62 ?_
      refine lv_iload_n hx hb dX1_voteAnew_65 rfl (lv_at hl 4 rfl) ?_
      refine lv_aload_n hx hb dX1_voteAnew_66 rfl (lv_at hl 3 rfl) ?_
      refine g_get (v := .ref (A 6)) hx hb hts hown hK hP 0 rfl rfl gu_wsX10 1 (by decide) gm_3_1 rfl dX1_voteAnew_67 ?_
      refine g_get (v := .ref (A 8)) hx hb hts hown hK hP 6 rfl rfl gu_wsX00 1 (by decide) gm_20_20 rfl dX1_voteAnew_70 ?_
      refine lv_iload_n hx hb dX1_voteAnew_73 rfl (lv_at hl 4 rfl) ?_
      refine g_iald (x := kf 1 (q)) hx hb hK hP 8 rfl (by omega) (by decide) rfl dX1_voteAnew_74 ?_
      refine lv_iconst (v := nI (3)) hx hb dX1_voteAnew_75 gc_3 ?_
      refine lv_iadd hx hb dX1_voteAnew_76 ?_
      refine lv_bipush (v := nI (99)) hx hb dX1_voteAnew_77 gb_99 ?_
      refine va_mmin hx hb (hml.trans hl.1.symm) hown (hts _ (List.mem_cons_of_mem _ gm_20_21)) (hts _ (List.mem_cons_of_mem _ gm_8_9)) (hts _ (List.mem_cons_of_mem _ gm_8_10)) (hts _ (List.mem_cons_of_mem _ gm_8_11)) (by decide) (Nat.le_of_ble_eq_true rfl) (Nat.zero_le _) (Nat.zero_le _) dX1_voteAnew_79 ?_
      refine g_iast (ws' := cw cA A (jf) (jn) (va_up (va_up (kf) 1 (upd (kf 1) (q) ((if nI (99) < (kf 1 (q)) + (nI (3)) then nI (99) else (kf 1 (q)) + (nI (3)))))) 2 (upd (kf 2) (q) (((kf 2 (q)) &&& (((nI (1)) <<< ((nI (b_2)) &&& 31)) ^^^ (-1))) ||| ((nI (1)) <<< ((nI (b_6)) &&& 31))))) (rw) (cn) (rl) (clk) (ton) (sd)) hx hb hK hP hD hS 8 rfl (by omega) (by decide) (by first | rfl | (rw [updN_nI]; rfl)) dX1_voteAnew_82 (fun H locs hP hD hS => ?_)
      refine lv_aload_n hx hb dX1_voteAnew_83 rfl (lv_at hl 3 rfl) ?_
      refine g_get (v := .ref (A 6)) hx hb hts hown hK hP 0 rfl rfl gu_wsX10 1 (by decide) gm_3_1 rfl dX1_voteAnew_84 ?_
      refine g_get (v := .ref (A 14)) hx hb hts hown hK hP 6 rfl rfl gu_wsX00 7 (by decide) gm_20_22 rfl dX1_voteAnew_87 ?_
      refine lv_iload_n hx hb dX1_voteAnew_90 rfl (lv_at hl 4 rfl) ?_
      refine lv_dup2_11 hx hb dX1_voteAnew_91 rfl rfl ?_
      refine g_iald (x := kf 7 (q)) hx hb hK hP 14 rfl (by omega) (by decide) rfl dX1_voteAnew_92 ?_
      refine lv_iconst (v := nI (1)) hx hb dX1_voteAnew_93 gc_1 ?_
      refine lv_iadd hx hb dX1_voteAnew_94 ?_
      refine g_iast (ws' := cw cA A (jf) (jn) (va_up (va_up (va_up (kf) 1 (upd (kf 1) (q) ((if nI (99) < (kf 1 (q)) + (nI (3)) then nI (99) else (kf 1 (q)) + (nI (3)))))) 2 (upd (kf 2) (q) (((kf 2 (q)) &&& (((nI (1)) <<< ((nI (b_2)) &&& 31)) ^^^ (-1))) ||| ((nI (1)) <<< ((nI (b_6)) &&& 31))))) 7 (upd (kf 7) (q) ((kf 7 (q)) + (nI (1))))) (rw) (cn) (rl) (clk) (ton) (sd)) hx hb hK hP hD hS 14 rfl (by omega) (by decide) (by first | rfl | (rw [updN_nI]; rfl)) dX1_voteAnew_95 (fun H locs hP hD hS => ?_)
      refine lv_aload_n hx hb dX1_voteAnew_96 rfl (lv_at hl 3 rfl) ?_
      refine lv_iload_n hx hb dX1_voteAnew_97 rfl (lv_at hl 4 rfl) ?_
      refine wr_calli (va_runV (As := [.int (nI (q))]) (rest := []) ⟨hx, hb, hml, hown, hts⟩ (c_X1_sayVerdict l D cA A (jf) (jn) (va_up (va_up (va_up (kf) 1 (upd (kf 1) (q) ((if nI (99) < (kf 1 (q)) + (nI (3)) then nI (99) else (kf 1 (q)) + (nI (3)))))) 2 (upd (kf 2) (q) (((kf 2 (q)) &&& (((nI (1)) <<< ((nI (b_2)) &&& 31)) ^^^ (-1))) ||| ((nI (1)) <<< ((nI (b_6)) &&& 31))))) 7 (upd (kf 7) (q) ((kf 7 (q)) + (nI (1))))) (rw) (cn) (rl) (clk) (ton) (sd) (q) hA hjn hcn hrl hrw (by omega)) (cwV 1 hts (gWV gm_21_3 gm_16_9 gm_16_10 gm_1_16 gm_16_11) rfl rfl rfl (by decide +kernel) ⟨Nat.le_of_ble_eq_true rfl, Nat.le_of_ble_eq_true rfl⟩) (gPreV hK (g_rf hK hP (ci := 3) (q0 := 0) rfl rfl) hP) rfl rfl hl.1 rfl (lv_room (Nat.le_of_ble_eq_true rfl)) dX1_voteAnew_98 ⟨by omega, by omega⟩) hS (fun q _ h => h) (fun q h => h) (fun r H locs hw9 hz9 hk9 hS => ?_)
      obtain ⟨rfl, hP⟩ := hw9
      exact g_iretW (v := nI (zVd (mkz (jf) (jn) (va_up (va_up (va_up (kf) 1 (upd (kf 1) (q) ((if nI (99) < (kf 1 (q)) + (nI (3)) then nI (99) else (kf 1 (q)) + (nI (3)))))) 2 (upd (kf 2) (q) (((kf 2 (q)) &&& (((nI (1)) <<< ((nI (b_2)) &&& 31)) ^^^ (-1))) ||| ((nI (1)) <<< ((nI (b_6)) &&& 31))))) 7 (upd (kf 7) (q) ((kf 7 (q)) + (nI (1))))) (rw) (cn) (rl) (clk) (ton) (sd)) (q))) hx hb hr hlk hS dX1_voteAnew_101 (by have e9 := zApP_s (z := (mkz jf jn kf rw cn rl clk ton sd)) eb_3 eb_7; exact ⟨by rw [zAp, zApK, e9]; rfl, by rw [zAp, zApK, e9]; exact hP⟩)

set_option maxHeartbeats 1000000 in
set_option maxRecDepth 100000 in
theorem c_X1_addClerk (l : Launch) (D : va_G) (cA : Nat → ClassId) (A : Nat → Nat) (jf : Nat → Nat → Int32) (jn : Nat) (kf : Nat → Nat → Int32) (rw : Nat → Nat) (cn rl clk ton : Nat) (sd : Int32) (hA : aInj 16 A)  : Met l yX1_addClerk (gw yX1_addClerk cX1_addClerk 1 (some .int)) ({ frames := 0, cells := 0, slots := 0, locals := 0 } : Room) (gPc [.ref (A 0)] (fun H => va_P D vwCl (cw cA A (jf) (jn) (kf) (rw) (cn) (rl) (clk) (ton) (sd)) H) D cA) (wrI (fun r H => r = nI (clk + 1) ∧ va_P D vwCl (cw cA A jf jn kf rw cn rl (clk + 1) ton sd) H) (aS 16 A)) 0 0 (aS 16 A) := by
  refine gOf (by decide) (Nat.le_of_ble_eq_true rfl) ?_
  intro p e s m below meth c ls hx hb hml hr hlk hown hts hnm hP hK hl
  have hl : lv_has ls 1 [(0, .ref (A 0))] := hl
  have hD : va_D (aS 16 A) (cw cA A (jf) (jn) (kf) (rw) (cn) (rl) (clk) (ton) (sd)) := cwD hA
  have hS : va_S (aS 16 A) s.heap s.heap [] := va_S.rf
  refine lv_aload_n hx hb dX1_addClerk_0 rfl (lv_at hl 0 rfl) ?_
  refine lv_dup hx hb dX1_addClerk_1 rfl ?_
  refine g_get (v := .int (nI (clk))) hx hb hts hown hK hP 0 rfl rfl gu_wsX10 2 (by decide) gm_3_2 rfl dX1_addClerk_2 ?_
  refine lv_iconst (v := nI (1)) hx hb dX1_addClerk_5 gc_1 ?_
  refine g_iadd hx hb dX1_addClerk_6 ?_
  refine g_put (ws' := cw cA A (jf) (jn) (kf) (rw) (cn) (rl) (clk + 1) (ton) (sd)) hx hb hts hown hK hP hD hS 0 rfl rfl gu_wsX10 tyX1_ok nmX1 2 (by decide) gm_3_2 rfl rfl rfl (Nat.le_of_ble_eq_true rfl) (by first | rfl | (rw [updN_nI]; rfl)) dX1_addClerk_7 (fun H locs hP hD hS => ?_)
  refine lv_aload_n hx hb dX1_addClerk_10 rfl (lv_at hl 0 rfl) ?_
  refine g_get (v := .int (nI (clk + 1))) hx hb hts hown hK hP 0 rfl rfl gu_wsX10 2 (by decide) gm_3_2 rfl dX1_addClerk_11 ?_
  exact g_iretW (v := nI (clk + 1)) hx hb hr hlk hS dX1_addClerk_14 (⟨rfl, hP⟩)

set_option maxHeartbeats 1000000 in
set_option maxRecDepth 100000 in
theorem c_X1_passNight (l : Launch) (D : va_G) (cA : Nat → ClassId) (A : Nat → Nat) (jf : Nat → Nat → Int32) (jn : Nat) (kf : Nat → Nat → Int32) (rw : Nat → Nat) (cn rl clk ton : Nat) (sd : Int32) (hA : aInj 16 A) (hjn : jn ≤ 9) (hcn : cn ≤ 10) (hrl : rl ≤ 10) (hrw : ∀ k, k < rl → rw k < 10) (hck : clk ≤ 4) (htn : ton < 99) : Met l yX1_passNight (gw yX1_passNight cX1_passNight 3 (some .int)) ({ frames := 3, cells := 0, slots := 0, locals := 71 } : Room) (gPc [.ref (A 0)] (fun H => va_P D vwCl (cw cA A (jf) (jn) (kf) (rw) (cn) (rl) (clk) (ton) (sd)) H) D cA) (wrI (fun r H => r = nI (zTk (mkz jf jn kf rw cn rl clk ton sd)) ∧ va_P D vwCl (cz cA A (zNs (mkz jf jn kf rw cn rl clk ton sd) (zTk (mkz jf jn kf rw cn rl clk ton sd)))) H) (aS 16 A)) 0 0 (aS 16 A) := by
  refine gOf (by decide) (Nat.le_of_ble_eq_true rfl) ?_
  intro p e s m below meth c ls hx hb hml hr hlk hown hts hnm hP hK hl
  have hl : lv_has ls 3 [(0, .ref (A 0))] := hl
  have hD : va_D (aS 16 A) (cw cA A (jf) (jn) (kf) (rw) (cn) (rl) (clk) (ton) (sd)) := cwD hA
  have hS : va_S (aS 16 A) s.heap s.heap [] := va_S.rf
  refine lv_aload_n hx hb dX1_passNight_0 rfl (lv_at hl 0 rfl) ?_
  refine lv_dup hx hb dX1_passNight_1 rfl ?_
  refine g_get (v := .int (nI (ton))) hx hb hts hown hK hP 0 rfl rfl gu_wsX10 3 (by decide) gm_3_3 rfl dX1_passNight_2 ?_
  refine lv_iconst (v := nI (1)) hx hb dX1_passNight_5 gc_1 ?_
  refine g_iadd hx hb dX1_passNight_6 ?_
  refine g_put (ws' := cw cA A (jf) (jn) (kf) (rw) (cn) (rl) (clk) (ton + 1) (sd)) hx hb hts hown hK hP hD hS 0 rfl rfl gu_wsX10 tyX1_ok nmX1 3 (by decide) gm_3_3 rfl rfl rfl (Nat.le_of_ble_eq_true rfl) (by first | rfl | (rw [updN_nI]; rfl)) dX1_passNight_7 (fun H locs hP hD hS => ?_)
  refine lv_aload_n hx hb dX1_passNight_10 rfl (lv_at hl 0 rfl) ?_
  refine g_get (v := .ref (A 6)) hx hb hts hown hK hP 0 rfl rfl gu_wsX10 1 (by decide) gm_3_1 rfl dX1_passNight_11 ?_
  refine lv_aload_n hx hb dX1_passNight_14 rfl (lv_at hl 0 rfl) ?_
  refine g_get (v := .int (nI (ton + 1))) hx hb hts hown hK hP 0 rfl rfl gu_wsX10 3 (by decide) gm_3_3 rfl dX1_passNight_15 ?_
  refine wr_callv (va_runV (As := [.int (nI (ton + 1))]) (rest := []) ⟨hx, hb, hml, hown, hts⟩ (c_X0_closeRipe l D cA (fun k => A (k + 6)) (kf) (rw) (cn) (rl) (nI (ton + 1)) (aInj_s hA 6 (by decide)) hcn) (cwV 1 hts (gWV gm_23_4 gm_23_5 gm_23_6 gm_3_0 gm_23_7) rfl rfl rfl (by decide +kernel) ⟨Nat.le_of_ble_eq_true rfl, Nat.le_of_ble_eq_true rfl⟩) (gPreV hK (g_rf hK hP (ci := 2) (q0 := 6) rfl rfl) (hP.sub [6, 7, 8, 9, 10, 11, 12, 13, 14, 15] rfl)) rfl rfl hl.1 rfl (lv_room (Nat.le_of_ble_eq_true rfl)) dX1_passNight_18 ⟨by omega, by omega⟩) hS (fun q _ h => aS_up (m := 10) (a := 6) (by decide) h) (fun q h => aS_up (m := 10) (a := 6) (by decide) h) (fun H locs hPn hz9 hk9 hS => ?_)
  have hP : va_P D vwCl (cw cA A (jf) (jn) (va_up (kf) 5 (crS kf (nI (ton + 1)) cn)) (rw) (cn) (rl) (clk) (ton + 1) (sd)) H := cw_K hA hP hPn hk9
  have hD : va_D (aS 16 A) (cw cA A (jf) (jn) (va_up (kf) 5 (crS kf (nI (ton + 1)) cn)) (rw) (cn) (rl) (clk) (ton + 1) (sd)) := cwD hA
  refine lv_aload_n hx hb dX1_passNight_21 rfl (lv_at hl 0 rfl) ?_
  refine g_get (v := .int (nI (clk))) hx hb hts hown hK hP 0 rfl rfl gu_wsX10 2 (by decide) gm_3_2 rfl dX1_passNight_22 ?_
  refine lv_aload_n hx hb dX1_passNight_25 rfl (lv_at hl 0 rfl) ?_
  refine g_get (v := .ref (A 6)) hx hb hts hown hK hP 0 rfl rfl gu_wsX10 1 (by decide) gm_3_1 rfl dX1_passNight_26 ?_
  refine g_get (v := .int (nI (rl))) hx hb hts hown hK hP 6 rfl rfl gu_wsX00 10 (by decide) gm_23_2 rfl dX1_passNight_29 ?_
  refine va_mmin hx hb (hml.trans hl.1.symm) hown (hts _ (List.mem_cons_of_mem _ gm_20_21)) (hts _ (List.mem_cons_of_mem _ gm_8_9)) (hts _ (List.mem_cons_of_mem _ gm_8_10)) (hts _ (List.mem_cons_of_mem _ gm_8_11)) (by decide) (Nat.le_of_ble_eq_true rfl) (Nat.zero_le _) (Nat.zero_le _) dX1_passNight_32 ?_
  refine g_top (z := nI (if rl < clk then rl else clk)) (mmin_n (by omega) (by omega)) ?_
  refine lv_istore_n (lv' := [(1, .int (nI ((if rl < clk then rl else clk)))), (0, .ref (A 0))]) hx hb dX1_passNight_35 rfl hl (by decide) rfl (fun ls hl => ?_)
  refine lv_iconst (v := nI (0)) hx hb dX1_passNight_36 gc_0 ?_
  refine lv_istore_n (lv' := [(2, .int (nI (0))), (1, .int (nI (zTk (mkz jf jn kf rw cn rl clk ton sd)))), (0, .ref (A 0))]) hx hb dX1_passNight_37 rfl hl (by decide) rfl (fun ls hl => ?_)
  have LP_3 : ∀ (n_2 i_1 : Nat) (H : Heap) (locs : List Loc), i_1 ≤ zTk (mkz jf jn kf rw cn rl clk ton sd) → zTk (mkz jf jn kf rw cn rl clk ton sd) + 1 ≤ i_1 + n_2 → va_P D vwCl (cz cA A (zNs (mkz jf jn kf rw cn rl clk ton sd) i_1)) H → va_S (aS 16 A) s.heap H locs → ∀ (ls : Array Slot), lv_has ls 3 [(2, .int (nI (i_1))), (1, .int (nI (zTk (mkz jf jn kf rw cn rl clk ton sd)))), (0, .ref (A 0))] → W p l e ({ frames := 3, cells := 0, slots := 0, locals := 71 } : Room) s m ([.ref (A 0)] : List Value).toArray below meth c H locs 0 0 (MQ below (wrI (fun r H => r = nI (zTk (mkz jf jn kf rw cn rl clk ton sd)) ∧ va_P D vwCl (cz cA A (zNs (mkz jf jn kf rw cn rl clk ton sd) (zTk (mkz jf jn kf rw cn rl clk ton sd)))) H) (aS 16 A)) ([.ref (A 0)] : List Value).toArray s 0 0 (aS 16 A)) (F0 m 38 ls []) := by
    intro n_2
    induction n_2 with
    | zero => intro i_1 H locs h1 h2; exact absurd h2 (by omega)
    | succ n_2 ih_4 =>
      intro i_1 H locs h_5 h_6 hP hS ls hl
      have hP : va_P D vwCl (cw cA A ((zJ (zNs (mkz jf jn kf rw cn rl clk ton sd) i_1))) (zjn (zNs (mkz jf jn kf rw cn rl clk ton sd) i_1)) ((zK (zNs (mkz jf jn kf rw cn rl clk ton sd) i_1))) (zrw (zNs (mkz jf jn kf rw cn rl clk ton sd) i_1)) (zcn (zNs (mkz jf jn kf rw cn rl clk ton sd) i_1)) (zrl (zNs (mkz jf jn kf rw cn rl clk ton sd) i_1)) (zck (zNs (mkz jf jn kf rw cn rl clk ton sd) i_1)) (ztn (zNs (mkz jf jn kf rw cn rl clk ton sd) i_1)) (zsd (zNs (mkz jf jn kf rw cn rl clk ton sd) i_1))) H := hP
      have hD : va_D (aS 16 A) (cw cA A ((zJ (zNs (mkz jf jn kf rw cn rl clk ton sd) i_1))) (zjn (zNs (mkz jf jn kf rw cn rl clk ton sd) i_1)) ((zK (zNs (mkz jf jn kf rw cn rl clk ton sd) i_1))) (zrw (zNs (mkz jf jn kf rw cn rl clk ton sd) i_1)) (zcn (zNs (mkz jf jn kf rw cn rl clk ton sd) i_1)) (zrl (zNs (mkz jf jn kf rw cn rl clk ton sd) i_1)) (zck (zNs (mkz jf jn kf rw cn rl clk ton sd) i_1)) (ztn (zNs (mkz jf jn kf rw cn rl clk ton sd) i_1)) (zsd (zNs (mkz jf jn kf rw cn rl clk ton sd) i_1))) := cwD hA
      have hok := zNs_ok (z := (mkz jf jn kf rw cn rl clk ton sd)) ⟨hjn, hcn, hrl, hrw, hck, Nat.le_of_lt htn⟩ htn i_1
      have htk : zTk (mkz jf jn kf rw cn rl clk ton sd) ≤ rl := by show (if rl < clk then rl else clk) ≤ rl; split <;> omega
      have hrli : zrl (zNs (mkz jf jn kf rw cn rl clk ton sd) i_1) = rl - i_1 := zNs_rl (z := (mkz jf jn kf rw cn rl clk ton sd)) i_1 (show i_1 ≤ rl by omega)
      refine lv_iload_n hx hb dX1_passNight_38 rfl (lv_at hl 0 rfl) ?_
      refine lv_iload_n hx hb dX1_passNight_39 rfl (lv_at hl 1 rfl) ?_
      refine g_icmp_ge (P := zTk (mkz jf jn kf rw cn rl clk ton sd) ≤ i_1) (tgt := 63) hx hb dX1_passNight_40 (by decide) (nI_leI (by omega) (by omega)) (fun c_7 => ?_) (fun c_7 => ?_)
      · have d_7 : ¬ i_1 < zTk (mkz jf jn kf rw cn rl clk ton sd) := Nat.not_lt.mpr c_7
        have hN_8 : zTk (mkz jf jn kf rw cn rl clk ton sd) = i_1 := by omega
        subst hN_8
        refine lv_iload_n hx hb dX1_passNight_63 rfl (lv_at hl 1 rfl) ?_
        exact g_iretW (v := nI (zTk (mkz jf jn kf rw cn rl clk ton sd))) hx hb hr hlk hS dX1_passNight_64 (⟨rfl, hP⟩)
      · have d_7 : i_1 < zTk (mkz jf jn kf rw cn rl clk ton sd) := Nat.not_le.mp c_7
        refine lv_aload_n hx hb dX1_passNight_43 rfl (lv_at hl 2 rfl) ?_
        refine lv_aload_n hx hb dX1_passNight_44 rfl (lv_at hl 2 rfl) ?_
        refine g_get (v := .ref (A 6)) hx hb hts hown hK hP 0 rfl rfl gu_wsX10 1 (by decide) gm_3_1 rfl dX1_passNight_45 ?_
        refine g_get (v := .ref (A 15)) hx hb hts hown hK hP 6 rfl rfl gu_wsX00 8 (by decide) gm_23_3 rfl dX1_passNight_48 ?_
        refine lv_iconst (v := nI (0)) hx hb dX1_passNight_51 gc_0 ?_
        have hrk9 := hok.2.2.2.1 0 (by rw [hrli]; omega)
        refine g_iald (x := nI ((zrw (zNs (mkz jf jn kf rw cn rl clk ton sd) i_1)) (0))) hx hb hK hP 15 rfl (by omega) (by decide) rfl dX1_passNight_52 ?_
        refine wr_calli (va_runV (As := [.int (nI ((zrw (zNs (mkz jf jn kf rw cn rl clk ton sd) i_1)) (0)))]) (rest := []) ⟨hx, hb, hml, hown, hts⟩ (c_X1_sayVerdict l D cA A ((zJ (zNs (mkz jf jn kf rw cn rl clk ton sd) i_1))) (zjn (zNs (mkz jf jn kf rw cn rl clk ton sd) i_1)) ((zK (zNs (mkz jf jn kf rw cn rl clk ton sd) i_1))) (zrw (zNs (mkz jf jn kf rw cn rl clk ton sd) i_1)) (zcn (zNs (mkz jf jn kf rw cn rl clk ton sd) i_1)) (zrl (zNs (mkz jf jn kf rw cn rl clk ton sd) i_1)) (zck (zNs (mkz jf jn kf rw cn rl clk ton sd) i_1)) (ztn (zNs (mkz jf jn kf rw cn rl clk ton sd) i_1)) (zsd (zNs (mkz jf jn kf rw cn rl clk ton sd) i_1)) ((zrw (zNs (mkz jf jn kf rw cn rl clk ton sd) i_1)) (0)) hA hok.1 hok.2.1 hok.2.2.1 hok.2.2.2.1 hrk9) (cwV 1 hts (gWV gm_21_3 gm_16_9 gm_16_10 gm_1_16 gm_16_11) rfl rfl rfl (by decide +kernel) ⟨Nat.le_of_ble_eq_true rfl, Nat.le_of_ble_eq_true rfl⟩) (gPreV hK (g_rf hK hP (ci := 3) (q0 := 0) rfl rfl) hP) rfl rfl hl.1 rfl (lv_room (Nat.le_of_ble_eq_true rfl)) dX1_passNight_53 ⟨by omega, by omega⟩) hS (fun q _ h => h) (fun q h => h) (fun r H locs hw9 hz9 hk9 hS => ?_)
        obtain ⟨rfl, hP⟩ := hw9
        refine lv_pop hx hb dX1_passNight_56 rfl ?_
        refine lv_iinc (v := nI (i_1 + 1)) (lv' := [(2, .int (nI (i_1 + 1))), (1, .int (nI (zTk (mkz jf jn kf rw cn rl clk ton sd)))), (0, .ref (A 0))]) hx hb dX1_passNight_57 hl (k := 0) rfl (inc_1 _) (by decide) rfl (fun ls hl => ?_)
        refine lv_goto (tgt := 38) hx hb dX1_passNight_60 (by decide) ?_
        exact ih_4 (i_1 + 1) H locs (by omega) (by omega) hP hS ls (lv_sub hl [0, 1, 2] rfl)
  exact LP_3 (zTk (mkz jf jn kf rw cn rl clk ton sd) + 1) 0 H locs (by omega) (by omega) hP hS ls (lv_sub hl [0, 1, 2] rfl)

def zObey (z : CS) (kd : Nat) (a b : Int32) : CS := match kd with
  | 0 => zAddJ z a b
  | 1 => zAddK z a b
  | 2 => zCall z a.toNatClampNeg
  | 3 => zSay z a.toNatClampNeg
  | 4 => zUns z a.toNatClampNeg
  | 5 => zSay (zAp z a.toNatClampNeg) a.toNatClampNeg
  | 6 => mkz (zJ z) (zjn z) (zK z) (zrw z) (zcn z) (zrl z) (zck z + 1) (ztn z) (zsd z)
  | _ => zNs z (zTk z)
/-- what an order asks of the court -/
def zMay (z : CS) (kd : Nat) (a : Int32) : Prop := match kd with
  | 0 => zjn z < 9
  | 1 => zcn z < 10
  | 2 => isIx a (zcn z) = true ∧ zrl z ≤ 9
  | 3 => isIx a (zcn z) = true
  | 4 => isIx a (zcn z) = true ∧ zrl z ≤ 9
  | 5 => isIx a (zcn z) = true ∧ (¬ zOut z a.toNatClampNeg = none ∧ ¬ zIn z a.toNatClampNeg = none)
  | 6 => True
  | _ => ztn z < 99

set_option maxHeartbeats 1000000 in
set_option maxRecDepth 100000 in
theorem c_X1_obey (l : Launch) (D : va_G) (cA : Nat → ClassId) (A : Nat → Nat) (jf : Nat → Nat → Int32) (jn : Nat) (kf : Nat → Nat → Int32) (rw : Nat → Nat) (cn rl clk ton : Nat) (sd : Int32) (kd : Nat) (a b : Int32) (hA : aInj 16 A) (hjn : jn ≤ 9) (hcn : cn ≤ 10) (hrl : rl ≤ 10) (hrw : ∀ k, k < rl → rw k < 10) (hck : clk ≤ 4) (hmay : zMay (mkz jf jn kf rw cn rl clk ton sd) kd a) (hk7 : kd ≤ 7) : Met l yX1_obey (gw yX1_obey cX1_obey 4 none) ({ frames := 4, cells := 0, slots := 0, locals := 95 } : Room) (gPc [.ref (A 0), .int (nI (kd)), .int (a), .int (b)] (fun H => va_P D vwCl (cw cA A (jf) (jn) (kf) (rw) (cn) (rl) (clk) (ton) (sd)) H) D cA) (wrV (fun H => va_P D vwCl (cz cA A (zObey (mkz jf jn kf rw cn rl clk ton sd) kd a b)) H) (aS 16 A)) 0 0 (aS 16 A) := by
  refine gOf (by decide) (Nat.le_of_ble_eq_true rfl) ?_
  intro p e s m below meth c ls hx hb hml hr hlk hown hts hnm hP hK hl
  have hl : lv_has ls 4 [(0, .ref (A 0)), (1, .int (nI (kd))), (2, .int (a)), (3, .int (b))] := hl
  have hD : va_D (aS 16 A) (cw cA A (jf) (jn) (kf) (rw) (cn) (rl) (clk) (ton) (sd)) := cwD hA
  have hS : va_S (aS 16 A) s.heap s.heap [] := va_S.rf
  refine lv_iload_n hx hb dX1_obey_0 rfl (lv_at hl 1 rfl) ?_
  have hsw_1 : kd = 0 ∨ kd = 1 ∨ kd = 2 ∨ kd = 3 ∨ kd = 4 ∨ kd = 5 ∨ kd = 6 ∨ kd = 7 := by omega
  rcases hsw_1 with rfl | rfl | rfl | rfl | rfl | rfl | rfl | rfl
  · refine lv_tableIn (off := 43) (tgt := 44) hx hb dX1_obey_1 (by decide +kernel) (by decide +kernel) (by decide +kernel) (by decide) ?_
    have hj9 : jn < 9 := hmay
    refine lv_aload_n hx hb dX1_obey_44 rfl (lv_at hl 0 rfl) ?_
    refine g_get (v := .ref (A 1)) hx hb hts hown hK hP 0 rfl rfl gu_wsX10 0 (by decide) gm_2_21 rfl dX1_obey_45 ?_
    refine lv_iload_n hx hb dX1_obey_48 rfl (lv_at hl 2 rfl) ?_
    refine lv_iload_n hx hb dX1_obey_49 rfl (lv_at hl 3 rfl) ?_
    refine wr_calli (va_runV (As := [.int (a), .int (b)]) (rest := []) ⟨hx, hb, hml, hown, hts⟩ (c_X3_add l D cA (fun k => A (k + 1)) (jf) (jn) (a) (b) (aInj_s hA 1 (by decide)) (by omega)) (cwV 2 hts (gWV gm_45_1 gm_8_13 gm_8_14 gm_2_5 gm_8_15) rfl rfl rfl (by decide +kernel) ⟨Nat.le_of_ble_eq_true rfl, Nat.le_of_ble_eq_true rfl⟩) (gPreV hK (g_rf hK hP (ci := 5) (q0 := 1) rfl rfl) (hP.sub [1, 2, 3, 4, 5] rfl)) rfl rfl hl.1 rfl (lv_room (Nat.le_of_ble_eq_true rfl)) dX1_obey_50 ⟨by omega, by omega⟩) hS (fun q _ h => aS_up (m := 5) (a := 1) (by decide) h) (fun q h => aS_up (m := 5) (a := 1) (by decide) h) (fun r H locs hw9 hz9 hk9 hS => ?_)
    obtain ⟨rfl, hPn⟩ := hw9
    have hP : va_P D vwCl (cw cA A (va_up (va_up (va_up (va_up (jf) 0 (upd (jf 0) jn (a))) 1 (upd (jf 1) jn (b))) 2 (upd (jf 2) jn (nI 0))) 3 (upd (jf 3) jn (nI 0))) (jn + 1) (kf) (rw) (cn) (rl) (clk) (ton) (sd)) H := cw_J hA hP hPn hk9
    have hD : va_D (aS 16 A) (cw cA A (va_up (va_up (va_up (va_up (jf) 0 (upd (jf 0) jn (a))) 1 (upd (jf 1) jn (b))) 2 (upd (jf 2) jn (nI 0))) 3 (upd (jf 3) jn (nI 0))) (jn + 1) (kf) (rw) (cn) (rl) (clk) (ton) (sd)) := cwD hA
    refine lv_pop hx hb dX1_obey_53 rfl ?_
    refine lv_goto (tgt := 119) hx hb dX1_obey_54 (by decide) ?_
    exact g_vretW hx hb hr hlk hS dX1_obey_119 (hP)
  · refine lv_tableIn (off := 56) (tgt := 57) hx hb dX1_obey_1 (by decide +kernel) (by decide +kernel) (by decide +kernel) (by decide) ?_
    have hc9 : cn < 10 := hmay
    refine lv_aload_n hx hb dX1_obey_57 rfl (lv_at hl 0 rfl) ?_
    refine g_get (v := .ref (A 6)) hx hb hts hown hK hP 0 rfl rfl gu_wsX10 1 (by decide) gm_3_1 rfl dX1_obey_58 ?_
    refine lv_iload_n hx hb dX1_obey_61 rfl (lv_at hl 2 rfl) ?_
    refine lv_iload_n hx hb dX1_obey_62 rfl (lv_at hl 3 rfl) ?_
    refine wr_calli (va_runV (As := [.int (a), .int (b)]) (rest := []) ⟨hx, hb, hml, hown, hts⟩ (c_X0_add l D cA (fun k => A (k + 6)) (kf) (rw) (cn) (rl) (a) (b) (aInj_s hA 6 (by decide)) (by omega)) (cwV 2 hts (gWV gm_45_2 gm_10_18 gm_10_19 gm_3_0 gm_10_20) rfl rfl rfl (by decide +kernel) ⟨Nat.le_of_ble_eq_true rfl, Nat.le_of_ble_eq_true rfl⟩) (gPreV hK (g_rf hK hP (ci := 2) (q0 := 6) rfl rfl) (hP.sub [6, 7, 8, 9, 10, 11, 12, 13, 14, 15] rfl)) rfl rfl hl.1 rfl (lv_room (Nat.le_of_ble_eq_true rfl)) dX1_obey_63 ⟨by omega, by omega⟩) hS (fun q _ h => aS_up (m := 10) (a := 6) (by decide) h) (fun q h => aS_up (m := 10) (a := 6) (by decide) h) (fun r H locs hw9 hz9 hk9 hS => ?_)
    obtain ⟨rfl, hPn⟩ := hw9
    have hP : va_P D vwCl (cw cA A (jf) (jn) (va_up (va_up (va_up (va_up (va_up (va_up (va_up (va_up (kf) 0 (upd (kf 0) cn (a))) 1 (upd (kf 1) cn (b))) 2 (upd (kf 2) cn (nI 0))) 3 (upd (kf 3) cn (nI 0))) 4 (upd (kf 4) cn (-1))) 5 (upd (kf 5) cn (-1))) 6 (upd (kf 6) cn (nI 0))) 7 (upd (kf 7) cn (nI 0))) (rw) (cn + 1) (rl) (clk) (ton) (sd)) H := cw_K hA hP hPn hk9
    have hD : va_D (aS 16 A) (cw cA A (jf) (jn) (va_up (va_up (va_up (va_up (va_up (va_up (va_up (va_up (kf) 0 (upd (kf 0) cn (a))) 1 (upd (kf 1) cn (b))) 2 (upd (kf 2) cn (nI 0))) 3 (upd (kf 3) cn (nI 0))) 4 (upd (kf 4) cn (-1))) 5 (upd (kf 5) cn (-1))) 6 (upd (kf 6) cn (nI 0))) 7 (upd (kf 7) cn (nI 0))) (rw) (cn + 1) (rl) (clk) (ton) (sd)) := cwD hA
    refine lv_pop hx hb dX1_obey_66 rfl ?_
    refine lv_goto (tgt := 119) hx hb dX1_obey_67 (by decide) ?_
    exact g_vretW hx hb hr hlk hS dX1_obey_119 (hP)
  · refine lv_tableIn (off := 69) (tgt := 70) hx hb dX1_obey_1 (by decide +kernel) (by decide +kernel) (by decide +kernel) (by decide) ?_
    obtain ⟨q9, hq9, e9⟩ := isIx_n (hmay.1 : isIx a cn = true) (by omega)
    subst e9
    have hk9 : (nI q9).toNatClampNeg = q9 := nI_clamp (by omega)
    have hr9 : rl ≤ 9 := hmay.2
    refine lv_aload_n hx hb dX1_obey_70 rfl (lv_at hl 0 rfl) ?_
    refine lv_iload_n hx hb dX1_obey_71 rfl (lv_at hl 2 rfl) ?_
    refine wr_calli (va_runV (As := [.int (nI (q9))]) (rest := []) ⟨hx, hb, hml, hown, hts⟩ (c_X1_callPanel l D cA A (jf) (jn) (kf) (rw) (cn) (rl) (clk) (ton) (sd) (q9) hA hjn hcn hr9 hrw (by omega)) (cwV 1 hts (gWV gm_45_3 gm_13_3 gm_13_4 gm_1_16 gm_13_5) rfl rfl rfl (by decide +kernel) ⟨Nat.le_of_ble_eq_true rfl, Nat.le_of_ble_eq_true rfl⟩) (gPreV hK (g_rf hK hP (ci := 3) (q0 := 0) rfl rfl) hP) rfl rfl hl.1 rfl (lv_room (Nat.le_of_ble_eq_true rfl)) dX1_obey_72 ⟨by omega, by omega⟩) hS (fun q _ h => h) (fun q h => h) (fun r H locs hw9 hz9 hk9 hS => ?_)
    obtain ⟨rfl, hP⟩ := hw9
    refine lv_pop hx hb dX1_obey_75 rfl ?_
    refine lv_goto (tgt := 119) hx hb dX1_obey_76 (by decide) ?_
    exact g_vretW hx hb hr hlk hS dX1_obey_119 (by show va_P D vwCl (cz cA A (zObey _ 2 (nI q9) b)) H; rw [zObey, hk9]; exact hP)
  · refine lv_tableIn (off := 78) (tgt := 79) hx hb dX1_obey_1 (by decide +kernel) (by decide +kernel) (by decide +kernel) (by decide) ?_
    obtain ⟨q9, hq9, e9⟩ := isIx_n (hmay : isIx a cn = true) (by omega)
    subst e9
    have hk9 : (nI q9).toNatClampNeg = q9 := nI_clamp (by omega)
    refine lv_aload_n hx hb dX1_obey_79 rfl (lv_at hl 0 rfl) ?_
    refine lv_iload_n hx hb dX1_obey_80 rfl (lv_at hl 2 rfl) ?_
    refine wr_calli (va_runV (As := [.int (nI (q9))]) (rest := []) ⟨hx, hb, hml, hown, hts⟩ (c_X1_sayVerdict l D cA A (jf) (jn) (kf) (rw) (cn) (rl) (clk) (ton) (sd) (q9) hA hjn hcn hrl hrw (by omega)) (cwV 1 hts (gWV gm_21_3 gm_16_9 gm_16_10 gm_1_16 gm_16_11) rfl rfl rfl (by decide +kernel) ⟨Nat.le_of_ble_eq_true rfl, Nat.le_of_ble_eq_true rfl⟩) (gPreV hK (g_rf hK hP (ci := 3) (q0 := 0) rfl rfl) hP) rfl rfl hl.1 rfl (lv_room (Nat.le_of_ble_eq_true rfl)) dX1_obey_81 ⟨by omega, by omega⟩) hS (fun q _ h => h) (fun q h => h) (fun r H locs hw9 hz9 hk9 hS => ?_)
    obtain ⟨rfl, hP⟩ := hw9
    refine lv_pop hx hb dX1_obey_84 rfl ?_
    refine lv_goto (tgt := 119) hx hb dX1_obey_85 (by decide) ?_
    exact g_vretW hx hb hr hlk hS dX1_obey_119 (by show va_P D vwCl (cz cA A (zObey _ 3 (nI q9) b)) H; rw [zObey, hk9]; exact hP)
  · refine lv_tableIn (off := 87) (tgt := 88) hx hb dX1_obey_1 (by decide +kernel) (by decide +kernel) (by decide +kernel) (by decide) ?_
    obtain ⟨q9, hq9, e9⟩ := isIx_n (hmay.1 : isIx a cn = true) (by omega)
    subst e9
    have hk9 : (nI q9).toNatClampNeg = q9 := nI_clamp (by omega)
    have hr9 : rl ≤ 9 := hmay.2
    refine lv_aload_n hx hb dX1_obey_88 rfl (lv_at hl 0 rfl) ?_
    refine lv_iload_n hx hb dX1_obey_89 rfl (lv_at hl 2 rfl) ?_
    refine wr_calli (va_runV (As := [.int (nI (q9))]) (rest := []) ⟨hx, hb, hml, hown, hts⟩ (c_X1_unsayVerdict l D cA A (jf) (jn) (kf) (rw) (cn) (rl) (clk) (ton) (sd) (q9) hA hjn hcn hr9 hrw (by omega)) (cwV 1 hts (gWV gm_45_4 gm_19_11 gm_19_12 gm_1_16 gm_19_13) rfl rfl rfl (by decide +kernel) ⟨Nat.le_of_ble_eq_true rfl, Nat.le_of_ble_eq_true rfl⟩) (gPreV hK (g_rf hK hP (ci := 3) (q0 := 0) rfl rfl) hP) rfl rfl hl.1 rfl (lv_room (Nat.le_of_ble_eq_true rfl)) dX1_obey_90 ⟨by omega, by omega⟩) hS (fun q _ h => h) (fun q h => h) (fun r H locs hw9 hz9 hk9 hS => ?_)
    obtain ⟨rfl, hP⟩ := hw9
    refine lv_pop hx hb dX1_obey_93 rfl ?_
    refine lv_goto (tgt := 119) hx hb dX1_obey_94 (by decide) ?_
    exact g_vretW hx hb hr hlk hS dX1_obey_119 (by show va_P D vwCl (cz cA A (zObey _ 4 (nI q9) b)) H; rw [zObey, hk9]; exact hP)
  · refine lv_tableIn (off := 96) (tgt := 97) hx hb dX1_obey_1 (by decide +kernel) (by decide +kernel) (by decide +kernel) (by decide) ?_
    obtain ⟨q9, hq9, e9⟩ := isIx_n (hmay.1 : isIx a cn = true) (by omega)
    subst e9
    have hk9 : (nI q9).toNatClampNeg = q9 := nI_clamp (by omega)
    have hout : ¬ zOut (mkz jf jn kf rw cn rl clk ton sd) q9 = none := by have z9 := hmay.2.1; rw [hk9] at z9; exact z9
    have hin : ¬ zIn (mkz jf jn kf rw cn rl clk ton sd) q9 = none := by have z9 := hmay.2.2; rw [hk9] at z9; exact z9
    refine lv_aload_n hx hb dX1_obey_97 rfl (lv_at hl 0 rfl) ?_
    refine lv_iload_n hx hb dX1_obey_98 rfl (lv_at hl 2 rfl) ?_
    refine wr_calli (va_runV (As := [.int (nI (q9))]) (rest := []) ⟨hx, hb, hml, hown, hts⟩ (c_X1_voteAnew l D cA A (jf) (jn) (kf) (rw) (cn) (rl) (clk) (ton) (sd) (q9) hA hjn hcn hrl hrw (by omega) hout hin) (cwV 1 hts (gWV gm_45_5 gm_20_17 gm_20_18 gm_1_16 gm_20_19) rfl rfl rfl (by decide +kernel) ⟨Nat.le_of_ble_eq_true rfl, Nat.le_of_ble_eq_true rfl⟩) (gPreV hK (g_rf hK hP (ci := 3) (q0 := 0) rfl rfl) hP) rfl rfl hl.1 rfl (lv_room (Nat.le_of_ble_eq_true rfl)) dX1_obey_99 ⟨by omega, by omega⟩) hS (fun q _ h => h) (fun q h => h) (fun r H locs hw9 hz9 hk9 hS => ?_)
    obtain ⟨rfl, hP⟩ := hw9
    refine lv_pop hx hb dX1_obey_102 rfl ?_
    refine lv_goto (tgt := 119) hx hb dX1_obey_103 (by decide) ?_
    exact g_vretW hx hb hr hlk hS dX1_obey_119 (by show va_P D vwCl (cz cA A (zObey _ 5 (nI q9) b)) H; rw [zObey, hk9]; exact hP)
  · refine lv_tableIn (off := 105) (tgt := 106) hx hb dX1_obey_1 (by decide +kernel) (by decide +kernel) (by decide +kernel) (by decide) ?_
    refine lv_aload_n hx hb dX1_obey_106 rfl (lv_at hl 0 rfl) ?_
    refine wr_calli (va_runV (As := []) (rest := []) ⟨hx, hb, hml, hown, hts⟩ (c_X1_addClerk l D cA A (jf) (jn) (kf) (rw) (cn) (rl) (clk) (ton) (sd)  hA) (cwV 0 hts (gWV gm_45_6 gm_22_2 gm_22_3 gm_1_16 gm_22_4) rfl rfl rfl (by decide +kernel) ⟨Nat.le_of_ble_eq_true rfl, Nat.le_of_ble_eq_true rfl⟩) (gPreV hK (g_rf hK hP (ci := 3) (q0 := 0) rfl rfl) hP) rfl rfl hl.1 rfl (lv_room (Nat.le_of_ble_eq_true rfl)) dX1_obey_107 ⟨by omega, by omega⟩) hS (fun q _ h => h) (fun q h => h) (fun r H locs hw9 hz9 hk9 hS => ?_)
    obtain ⟨rfl, hP⟩ := hw9
    have hP : va_P D vwCl (cw cA A (jf) (jn) (kf) (rw) (cn) (rl) (clk + 1) (ton) (sd)) H := hP
    have hD : va_D (aS 16 A) (cw cA A (jf) (jn) (kf) (rw) (cn) (rl) (clk + 1) (ton) (sd)) := cwD hA
    refine lv_pop hx hb dX1_obey_110 rfl ?_
    refine lv_goto (tgt := 119) hx hb dX1_obey_111 (by decide) ?_
    exact g_vretW hx hb hr hlk hS dX1_obey_119 (hP)
  · refine lv_tableOut (tgt := 114) hx hb dX1_obey_1 (by decide +kernel) (by decide) ?_
    have htn : ton < 99 := hmay
    refine lv_aload_n hx hb dX1_obey_114 rfl (lv_at hl 0 rfl) ?_
    refine wr_calli (va_runV (As := []) (rest := []) ⟨hx, hb, hml, hown, hts⟩ (c_X1_passNight l D cA A (jf) (jn) (kf) (rw) (cn) (rl) (clk) (ton) (sd)  hA hjn hcn hrl hrw hck htn) (cwV 0 hts (gWV gm_45_7 gm_22_23 gm_23_0 gm_1_16 gm_23_1) rfl rfl rfl (by decide +kernel) ⟨Nat.le_of_ble_eq_true rfl, Nat.le_of_ble_eq_true rfl⟩) (gPreV hK (g_rf hK hP (ci := 3) (q0 := 0) rfl rfl) hP) rfl rfl hl.1 rfl (lv_room (Nat.le_of_ble_eq_true rfl)) dX1_obey_115 ⟨by omega, by omega⟩) hS (fun q _ h => h) (fun q h => h) (fun r H locs hw9 hz9 hk9 hS => ?_)
    obtain ⟨rfl, hP⟩ := hw9
    refine lv_pop hx hb dX1_obey_118 rfl ?_
    exact g_vretW hx hb hr hlk hS dX1_obey_119 (hP)

