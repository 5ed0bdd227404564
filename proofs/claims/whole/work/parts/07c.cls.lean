def ldF (k : Nat → Nat → Int32) (cn j : Nat) : Nat := fb_ct (fun c => !clF k c && hs (k 2 c) j) cn
theorem ldF_le (k : Nat → Nat → Int32) (cn j : Nat) : ldF k cn j ≤ cn := fb_ct_le _ _
def cdF (k : Nat → Nat → Int32) (cn : Nat) (but : Int32) (j : Nat) : Bool := !hs but j && decide (ldF k cn j < 3)
def cwF (k : Nat → Nat → Int32) (cn jn : Nat) (but : Int32) : Nat := fb_ct (cdF k cn but) jn
def fcl (k : Nat → Nat → Int32) (cn : Nat) (but : Int32) (j : Nat) : Nat := if hs but j = true then 3 else ldF k cn j
def fcS (d : Nat → Int32) (k : Nat → Nat → Int32) (cn : Nat) (but : Int32) : Nat → Option Nat × Nat
  | 0 => (none, 3)
  | n + 1 => if fcl k cn but n < (fcS d k cn but n).2 then (some n, fcl k cn but n)
    else if fcl k cn but n = (fcS d k cn but n).2 then (match (fcS d k cn but n).1 with
      | none => fcS d k cn but n
      | some b => if d b ≤ d n then fcS d k cn but n else (some n, fcl k cn but n))
    else fcS d k cn but n
theorem fcS_win {d : Nat → Int32} {k : Nat → Nat → Int32} {cn n : Nat} {but : Int32} (h : fcl k cn but n < (fcS d k cn but n).2) : fcS d k cn but (n + 1) = (some n, fcl k cn but n) := by rw [fcS, if_pos h]
theorem fcS_keep1 {d : Nat → Int32} {k : Nat → Nat → Int32} {cn n : Nat} {but : Int32} (h : ¬ fcl k cn but n < (fcS d k cn but n).2) (h2 : ¬ fcl k cn but n = (fcS d k cn but n).2) : fcS d k cn but (n + 1) = fcS d k cn but n := by rw [fcS, if_neg h, if_neg h2]
theorem fcS_none {d : Nat → Int32} {k : Nat → Nat → Int32} {cn n : Nat} {but : Int32} (h2 : fcl k cn but n = (fcS d k cn but n).2) (h3 : (fcS d k cn but n).1 = none) : fcS d k cn but (n + 1) = fcS d k cn but n := by rw [fcS, if_neg (by omega), if_pos h2, h3]
theorem fcS_keep {d : Nat → Int32} {k : Nat → Nat → Int32} {cn n b : Nat} {but : Int32} (h2 : fcl k cn but n = (fcS d k cn but n).2) (h3 : (fcS d k cn but n).1 = some b) (h4 : d b ≤ d n) : fcS d k cn but (n + 1) = fcS d k cn but n := by rw [fcS, if_neg (by omega), if_pos h2, h3]; exact if_pos h4
theorem fcS_twin {d : Nat → Int32} {k : Nat → Nat → Int32} {cn n b : Nat} {but : Int32} (h2 : fcl k cn but n = (fcS d k cn but n).2) (h3 : (fcS d k cn but n).1 = some b) (h4 : ¬ d b ≤ d n) : fcS d k cn but (n + 1) = (some n, fcl k cn but n) := by rw [fcS, if_neg (by omega), if_pos h2, h3]; exact if_neg h4
theorem fcS_le (d : Nat → Int32) (k : Nat → Nat → Int32) (cn : Nat) (but : Int32) : ∀ n, (fcS d k cn but n).2 ≤ 3
  | 0 => Nat.le_refl 3
  | n + 1 => by
    have h := fcS_le d k cn but n
    unfold fcS
    split
    · show fcl k cn but n ≤ 3; omega
    · split
      · split
        · exact h
        · split
          · exact h
          · show fcl k cn but n ≤ 3; omega
      · exact h
theorem fcS_lt (d : Nat → Int32) (k : Nat → Nat → Int32) (cn : Nat) (but : Int32) : ∀ n b, (fcS d k cn but n).1 = some b → b < n
  | 0, b, h => by cases h
  | n + 1, b, h => by
    have ih := fcS_lt d k cn but n
    unfold fcS at h
    split at h
    · cases h; omega
    · split at h
      · split at h
        · have := ih b h; omega
        · split at h
          · have := ih b h; omega
          · cases h; omega
      · have := ih b h; omega
theorem fcl_le (k : Nat → Nat → Int32) (cn : Nat) (but : Int32) (j : Nat) (h : cn ≤ 10) : fcl k cn but j ≤ 10 := by
  unfold fcl
  split
  · omega
  · have := ldF_le k cn j; omega
def fcF (d : Nat → Int32) (k : Nat → Nat → Int32) (jn cn : Nat) (but : Int32) : Option Nat := (fcS d k cn but jn).1
theorem fcF_lt {d : Nat → Int32} {k : Nat → Nat → Int32} {jn cn : Nat} (but : Int32) (b : Nat) (h : fcF d k jn cn but = some b) : b < jn := fcS_lt d k cn but jn b h
def tkF (k : Nat → Nat → Int32) (rw : Nat → Nat) (rl clk ton q : Nat) : Option Nat := match fnd (fun j => decide (rw j = q)) rl with
  | none => none
  | some j => if clk < 1 then none else if 99 < ton + 1 + j / clk then none else some (ton + 1 + j / clk)

set_option maxHeartbeats 1000000 in
set_option maxRecDepth 100000 in
theorem c_X1_loadOf (l : Launch) (D : va_G) (cA : Nat → ClassId) (A : Nat → Nat) (jf : Nat → Nat → Int32) (jn : Nat) (kf : Nat → Nat → Int32) (rw : Nat → Nat) (cn rl clk ton : Nat) (sd : Int32) (j : Nat) (hcn : cn ≤ 10) : Met l yX1_loadOf (gw yX1_loadOf cX1_loadOf 4 (some .int)) ({ frames := 1, cells := 0, slots := 0, locals := 21 } : Room) (gPc [.ref (A 0), .int (nI (j))] (fun H => va_P D vwCl (cw cA A jf jn kf rw cn rl clk ton sd) H) D cA) (rdI (fun r => r = nI (ldF kf cn j))) 0 0 nF := by
  refine gOf (by decide) (Nat.le_of_ble_eq_true rfl) ?_
  intro p e s m below meth c ls hx hb hml hr hlk hown hts hnm hP hK hl
  have hl : lv_has ls 4 [(0, .ref (A 0)), (1, .int (nI (j)))] := hl
  refine lv_iconst (v := nI (0)) hx hb dX1_loadOf_0 gc_0 ?_
  refine lv_istore_n (lv' := [(2, .int (nI (0))), (0, .ref (A 0)), (1, .int (nI (j)))]) hx hb dX1_loadOf_1 rfl hl (by decide) rfl (fun ls hl => ?_)
  refine lv_iconst (v := nI (0)) hx hb dX1_loadOf_2 gc_0 ?_
  refine lv_istore_n (lv' := [(3, .int (nI (0))), (2, .int (nI (0))), (0, .ref (A 0)), (1, .int (nI (j)))]) hx hb dX1_loadOf_3 rfl hl (by decide) rfl (fun ls hl => ?_)
  have LP_5 : ∀ (n_2 i_1 : Nat) (x_3 : Int32) (x_4 : Int32), i_1 ≤ cn → cn + 1 ≤ i_1 + n_2 → x_3 = nI (i_1) → x_4 = nI (fb_ct (fun c => !clF kf c && hs (kf 2 c) j) i_1) → ∀ (ls : Array Slot), lv_has ls 4 [(3, .int (x_3)), (2, .int (x_4)), (0, .ref (A 0)), (1, .int (nI (j)))] → W p l e ({ frames := 1, cells := 0, slots := 0, locals := 21 } : Room) s m ([.ref (A 0), .int (nI (j))] : List Value).toArray below meth c s.heap [] 0 0 (MQ below (rdI (fun r => r = nI (ldF kf cn j))) ([.ref (A 0), .int (nI (j))] : List Value).toArray s 0 0 nF) (F0 m 4 ls []) := by
    intro n_2
    induction n_2 with
    | zero => intro i_1 x_3 x_4 h1 h2; exact absurd h2 (by omega)
    | succ n_2 ih_8 =>
      intro i_1 x_3 x_4 h_9 h_10 e_6 e_7  ls hl
      subst e_6
      subst e_7
      refine lv_iload_n hx hb dX1_loadOf_4 rfl (lv_at hl 0 rfl) ?_
      refine lv_aload_n hx hb dX1_loadOf_5 rfl (lv_at hl 2 rfl) ?_
      refine g_get (v := .ref (A 6)) hx hb hts hown hK hP 0 rfl rfl gu_wsX10 1 (by decide) gm_3_1 rfl dX1_loadOf_6 ?_
      refine g_get (v := .int (nI (cn))) hx hb hts hown hK hP 6 rfl rfl gu_wsX00 9 (by decide) gm_12_14 rfl dX1_loadOf_9 ?_
      refine g_icmp_ge (P := cn ≤ i_1) (tgt := 51) hx hb dX1_loadOf_12 (by decide) (nI_leI (by omega) (by omega)) (fun c_11 => ?_) (fun c_11 => ?_)
      · have d_11 : ¬ i_1 < cn := Nat.not_lt.mpr c_11
        have hN_12 : cn = i_1 := by omega
        subst hN_12
        refine lv_iload_n hx hb dX1_loadOf_51 rfl (lv_at hl 1 rfl) ?_
        exact g_iret (v := nI (fb_ct (fun c => !clF kf c && hs (kf 2 c) j) (cn))) hx hb hr hlk dX1_loadOf_52 (rfl)
      · have d_11 : i_1 < cn := Nat.not_le.mp c_11
        refine lv_aload_n hx hb dX1_loadOf_15 rfl (lv_at hl 2 rfl) ?_
        refine g_get (v := .ref (A 6)) hx hb hts hown hK hP 0 rfl rfl gu_wsX10 1 (by decide) gm_3_1 rfl dX1_loadOf_16 ?_
        refine lv_iload_n hx hb dX1_loadOf_19 rfl (lv_at hl 0 rfl) ?_
        refine rd_calle (va_runV (As := [.int (nI (i_1))]) (rest := []) ⟨hx, hb, hml, hown, hts⟩ (c_X0_isClosed l D cA (fun k => A (k + 6)) kf rw cn rl (i_1) (by omega)) (cwV 1 hts (gWV gm_12_16 gm_12_17 gm_12_18 gm_3_0 gm_12_19) rfl rfl rfl (by decide +kernel) ⟨Nat.le_of_ble_eq_true rfl, Nat.le_of_ble_eq_true rfl⟩) (gPreV hK (g_rf hK hP (ci := 2) (q0 := 6) rfl rfl) (hP.sub [6, 7, 8, 9, 10, 11, 12, 13, 14, 15] rfl)) rfl rfl hl.1 rfl (lv_room (Nat.le_of_ble_eq_true rfl)) dX1_loadOf_20 ⟨by omega, by omega⟩) ?_
        refine g_if_ne (P := clF kf (i_1) = false) (tgt := 45) hx hb dX1_loadOf_23 (by decide) b2i_0 (fun c_13 => ?_) (fun c_13 => ?_)
        · have c_13 : clF kf (i_1) = true := eq_true_of_ne_false c_13
          refine lv_iinc (v := nI (i_1 + 1)) (lv' := [(3, .int (nI (i_1 + 1))), (2, .int (nI (fb_ct (fun c => !clF kf c && hs (kf 2 c) j) i_1))), (0, .ref (A 0)), (1, .int (nI (j)))]) hx hb dX1_loadOf_45 hl (k := 0) rfl (inc_1 _) (by decide) rfl (fun ls hl => ?_)
          refine lv_goto (tgt := 4) hx hb dX1_loadOf_48 (by decide) ?_
          exact ih_8 (i_1 + 1) _ _ (by omega) (by omega) rfl (by simp [fb_ct_succ, c_11, d_11, c_13])  ls (lv_sub hl [0, 1, 2, 3] rfl)
        · refine lv_aload_n hx hb dX1_loadOf_26 rfl (lv_at hl 2 rfl) ?_
          refine g_get (v := .ref (A 6)) hx hb hts hown hK hP 0 rfl rfl gu_wsX10 1 (by decide) gm_3_1 rfl dX1_loadOf_27 ?_
          refine g_get (v := .ref (A 9)) hx hb hts hown hK hP 6 rfl rfl gu_wsX00 2 (by decide) gm_12_15 rfl dX1_loadOf_30 ?_
          refine lv_iload_n hx hb dX1_loadOf_33 rfl (lv_at hl 0 rfl) ?_
          refine g_iald (x := kf 2 (i_1)) hx hb hK hP 9 rfl (by omega) (by decide) rfl dX1_loadOf_34 ?_
          refine lv_iload_n hx hb dX1_loadOf_35 rfl (lv_at hl 3 rfl) ?_
          refine rd_calle (va_runSN (As := [.int (kf 2 (i_1)), .int (nI (j))]) (rest := []) ⟨hx, hb, hml, hown, hts⟩ (c_X7_isIn l D cA (kf 2 (i_1)) (j)) ⟨(va_cnB 2 hts (gWN gm_12_9) rfl rfl rfl (hK.2 _ (List.mem_of_getElem? (i := 8) rfl)) (hts _ (List.mem_cons_of_mem _ gm_1_2)) (by decide +kernel) ⟨Nat.le_of_ble_eq_true rfl, Nat.le_of_ble_eq_true rfl⟩), hts _ (List.mem_cons_of_mem _ gm_12_8), trivial⟩ (gPreS hK trivial) rfl rfl hl.1 rfl (lv_room (Nat.le_of_ble_eq_true rfl)) dX1_loadOf_36 ⟨by omega, by omega⟩) ?_
          refine g_if_eq (P := hs (kf 2 (i_1)) (j) = false) (tgt := 45) hx hb dX1_loadOf_39 (by decide) b2i_0 (fun c_14 => ?_) (fun c_14 => ?_)
          · refine lv_iinc (v := nI (i_1 + 1)) (lv' := [(3, .int (nI (i_1 + 1))), (2, .int (nI (fb_ct (fun c => !clF kf c && hs (kf 2 c) j) i_1))), (0, .ref (A 0)), (1, .int (nI (j)))]) hx hb dX1_loadOf_45 hl (k := 0) rfl (inc_1 _) (by decide) rfl (fun ls hl => ?_)
            refine lv_goto (tgt := 4) hx hb dX1_loadOf_48 (by decide) ?_
            exact ih_8 (i_1 + 1) _ _ (by omega) (by omega) rfl (by simp [fb_ct_succ, c_11, d_11, c_13, c_14])  ls (lv_sub hl [0, 1, 2, 3] rfl)
          · have c_14 : hs (kf 2 (i_1)) (j) = true := eq_true_of_ne_false c_14
            refine lv_iinc (v := nI (fb_ct (fun c => !clF kf c && hs (kf 2 c) j) i_1 + 1)) (lv' := [(2, .int (nI (fb_ct (fun c => !clF kf c && hs (kf 2 c) j) i_1 + 1))), (3, .int (nI (i_1))), (0, .ref (A 0)), (1, .int (nI (j)))]) hx hb dX1_loadOf_42 hl (k := 1) rfl (inc_1 _) (by decide) rfl (fun ls hl => ?_)
            refine lv_iinc (v := nI (i_1 + 1)) (lv' := [(3, .int (nI (i_1 + 1))), (2, .int (nI (fb_ct (fun c => !clF kf c && hs (kf 2 c) j) i_1 + 1))), (0, .ref (A 0)), (1, .int (nI (j)))]) hx hb dX1_loadOf_45 hl (k := 1) rfl (inc_1 _) (by decide) rfl (fun ls hl => ?_)
            refine lv_goto (tgt := 4) hx hb dX1_loadOf_48 (by decide) ?_
            exact ih_8 (i_1 + 1) _ _ (by omega) (by omega) rfl (by simp [fb_ct_succ, c_11, d_11, c_13, c_14])  ls (lv_sub hl [0, 1, 2, 3] rfl)
  exact LP_5 (cn + 1) 0 _ _ (by omega) (by omega) rfl rfl  ls (lv_sub hl [0, 1, 2, 3] rfl)

set_option maxHeartbeats 1000000 in
set_option maxRecDepth 100000 in
theorem c_X1_callableWithout (l : Launch) (D : va_G) (cA : Nat → ClassId) (A : Nat → Nat) (jf : Nat → Nat → Int32) (jn : Nat) (kf : Nat → Nat → Int32) (rw : Nat → Nat) (cn rl clk ton : Nat) (sd : Int32) (but : Int32) (hjn : jn ≤ 9) (hcn : cn ≤ 10) : Met l yX1_callableWithout (gw yX1_callableWithout cX1_callableWithout 4 (some .int)) ({ frames := 2, cells := 0, slots := 0, locals := 44 } : Room) (gPc [.ref (A 0), .int (but)] (fun H => va_P D vwCl (cw cA A jf jn kf rw cn rl clk ton sd) H) D cA) (rdI (fun r => r = nI (cwF kf cn jn but))) 0 0 nF := by
  refine gOf (by decide) (Nat.le_of_ble_eq_true rfl) ?_
  intro p e s m below meth c ls hx hb hml hr hlk hown hts hnm hP hK hl
  have hl : lv_has ls 4 [(0, .ref (A 0)), (1, .int (but))] := hl
  refine lv_iconst (v := nI (0)) hx hb dX1_callableWithout_0 gc_0 ?_
  refine lv_istore_n (lv' := [(2, .int (nI (0))), (0, .ref (A 0)), (1, .int (but))]) hx hb dX1_callableWithout_1 rfl hl (by decide) rfl (fun ls hl => ?_)
  refine lv_iconst (v := nI (0)) hx hb dX1_callableWithout_2 gc_0 ?_
  refine lv_istore_n (lv' := [(3, .int (nI (0))), (2, .int (nI (0))), (0, .ref (A 0)), (1, .int (but))]) hx hb dX1_callableWithout_3 rfl hl (by decide) rfl (fun ls hl => ?_)
  have LP_5 : ∀ (n_2 i_1 : Nat) (x_3 : Int32) (x_4 : Int32), i_1 ≤ jn → jn + 1 ≤ i_1 + n_2 → x_3 = nI (i_1) → x_4 = nI (fb_ct (cdF kf cn but) i_1) → ∀ (ls : Array Slot), lv_has ls 4 [(3, .int (x_3)), (2, .int (x_4)), (0, .ref (A 0)), (1, .int (but))] → W p l e ({ frames := 2, cells := 0, slots := 0, locals := 44 } : Room) s m ([.ref (A 0), .int (but)] : List Value).toArray below meth c s.heap [] 0 0 (MQ below (rdI (fun r => r = nI (cwF kf cn jn but))) ([.ref (A 0), .int (but)] : List Value).toArray s 0 0 nF) (F0 m 4 ls []) := by
    intro n_2
    induction n_2 with
    | zero => intro i_1 x_3 x_4 h1 h2; exact absurd h2 (by omega)
    | succ n_2 ih_8 =>
      intro i_1 x_3 x_4 h_9 h_10 e_6 e_7  ls hl
      subst e_6
      subst e_7
      refine lv_iload_n hx hb dX1_callableWithout_4 rfl (lv_at hl 0 rfl) ?_
      refine lv_aload_n hx hb dX1_callableWithout_5 rfl (lv_at hl 2 rfl) ?_
      refine g_get (v := .ref (A 1)) hx hb hts hown hK hP 0 rfl rfl gu_wsX10 0 (by decide) gm_2_21 rfl dX1_callableWithout_6 ?_
      refine g_get (v := .int (nI (jn))) hx hb hts hown hK hP 1 rfl rfl gu_wsX30 4 (by decide) gm_13_0 rfl dX1_callableWithout_9 ?_
      refine g_icmp_ge (P := jn ≤ i_1) (tgt := 46) hx hb dX1_callableWithout_12 (by decide) (nI_leI (by omega) (by omega)) (fun c_11 => ?_) (fun c_11 => ?_)
      · have d_11 : ¬ i_1 < jn := Nat.not_lt.mpr c_11
        have hN_12 : jn = i_1 := by omega
        subst hN_12
        refine lv_iload_n hx hb dX1_callableWithout_46 rfl (lv_at hl 1 rfl) ?_
        exact g_iret (v := nI (fb_ct (cdF kf cn but) (jn))) hx hb hr hlk dX1_callableWithout_47 (rfl)
      · have d_11 : i_1 < jn := Nat.not_le.mp c_11
        refine lv_iload_n hx hb dX1_callableWithout_15 rfl (lv_at hl 1 rfl) ?_
        refine lv_iload_n hx hb dX1_callableWithout_16 rfl (lv_at hl 3 rfl) ?_
        refine lv_iload_n hx hb dX1_callableWithout_17 rfl (lv_at hl 0 rfl) ?_
        refine rd_calle (va_runSN (As := [.int (but), .int (nI (i_1))]) (rest := [.int (nI (fb_ct (cdF kf cn but) i_1))]) ⟨hx, hb, hml, hown, hts⟩ (c_X7_isIn l D cA (but) (i_1)) ⟨(va_cnB 2 hts (gWN gm_12_9) rfl rfl rfl (hK.2 _ (List.mem_of_getElem? (i := 8) rfl)) (hts _ (List.mem_cons_of_mem _ gm_1_2)) (by decide +kernel) ⟨Nat.le_of_ble_eq_true rfl, Nat.le_of_ble_eq_true rfl⟩), hts _ (List.mem_cons_of_mem _ gm_12_8), trivial⟩ (gPreS hK trivial) rfl rfl hl.1 rfl (lv_room (Nat.le_of_ble_eq_true rfl)) dX1_callableWithout_18 ⟨by omega, by omega⟩) ?_
        refine g_if_ne (P := hs (but) (i_1) = false) (tgt := 37) hx hb dX1_callableWithout_21 (by decide) b2i_0 (fun c_13 => ?_) (fun c_13 => ?_)
        · have c_13 : hs (but) (i_1) = true := eq_true_of_ne_false c_13
          refine lv_iconst (v := nI (0)) hx hb dX1_callableWithout_37 gc_0 ?_
          refine g_iadd hx hb dX1_callableWithout_38 ?_
          refine lv_istore_n (lv' := [(2, .int (nI ((fb_ct (cdF kf cn but) i_1) + (0)))), (3, .int (nI (i_1))), (0, .ref (A 0)), (1, .int (but))]) hx hb dX1_callableWithout_39 rfl hl (by decide) rfl (fun ls hl => ?_)
          refine lv_iinc (v := nI (i_1 + 1)) (lv' := [(3, .int (nI (i_1 + 1))), (2, .int (nI ((fb_ct (cdF kf cn but) i_1) + (0)))), (0, .ref (A 0)), (1, .int (but))]) hx hb dX1_callableWithout_40 hl (k := 1) rfl (inc_1 _) (by decide) rfl (fun ls hl => ?_)
          refine lv_goto (tgt := 4) hx hb dX1_callableWithout_43 (by decide) ?_
          exact ih_8 (i_1 + 1) _ _ (by omega) (by omega) rfl (by simp [fb_ct_succ, cdF, c_11, d_11, c_13] <;> omega)  ls (lv_sub hl [0, 1, 2, 3] rfl)
        · refine lv_aload_n hx hb dX1_callableWithout_24 rfl (lv_at hl 2 rfl) ?_
          refine lv_iload_n hx hb dX1_callableWithout_25 rfl (lv_at hl 0 rfl) ?_
          refine rd_calle (va_runV (As := [.int (nI (i_1))]) (rest := [.int (nI (fb_ct (cdF kf cn but) i_1))]) ⟨hx, hb, hml, hown, hts⟩ (c_X1_loadOf l D cA A jf jn kf rw cn rl clk ton sd (i_1) hcn) (cwV 1 hts (gWV gm_13_1 gm_12_11 gm_12_12 gm_1_16 gm_12_13) rfl rfl rfl (by decide +kernel) ⟨Nat.le_of_ble_eq_true rfl, Nat.le_of_ble_eq_true rfl⟩) (gPreV hK (g_rf hK hP (ci := 3) (q0 := 0) rfl rfl) hP) rfl rfl hl.1 rfl (lv_room (Nat.le_of_ble_eq_true rfl)) dX1_callableWithout_26 ⟨by omega, by omega⟩) ?_
          refine lv_iconst (v := nI (3)) hx hb dX1_callableWithout_29 gc_3 ?_
          have hle_14 := ldF_le kf cn (i_1)
          refine g_icmp_ge (P := 3 ≤ ldF kf cn (i_1)) (tgt := 37) hx hb dX1_callableWithout_30 (by decide) (nI_leI (by omega) (by omega)) (fun c_15 => ?_) (fun c_15 => ?_)
          · have d_15 : ¬ ldF kf cn (i_1) < 3 := Nat.not_lt.mpr c_15
            refine lv_iconst (v := nI (0)) hx hb dX1_callableWithout_37 gc_0 ?_
            refine g_iadd hx hb dX1_callableWithout_38 ?_
            refine lv_istore_n (lv' := [(2, .int (nI ((fb_ct (cdF kf cn but) i_1) + (0)))), (3, .int (nI (i_1))), (0, .ref (A 0)), (1, .int (but))]) hx hb dX1_callableWithout_39 rfl hl (by decide) rfl (fun ls hl => ?_)
            refine lv_iinc (v := nI (i_1 + 1)) (lv' := [(3, .int (nI (i_1 + 1))), (2, .int (nI ((fb_ct (cdF kf cn but) i_1) + (0)))), (0, .ref (A 0)), (1, .int (but))]) hx hb dX1_callableWithout_40 hl (k := 1) rfl (inc_1 _) (by decide) rfl (fun ls hl => ?_)
            refine lv_goto (tgt := 4) hx hb dX1_callableWithout_43 (by decide) ?_
            exact ih_8 (i_1 + 1) _ _ (by omega) (by omega) rfl (by simp [fb_ct_succ, cdF, c_11, d_11, c_13, c_15, d_15] <;> omega)  ls (lv_sub hl [0, 1, 2, 3] rfl)
          · have d_15 : ldF kf cn (i_1) < 3 := Nat.not_le.mp c_15
            refine lv_iconst (v := nI (1)) hx hb dX1_callableWithout_33 gc_1 ?_
            refine lv_goto (tgt := 38) hx hb dX1_callableWithout_34 (by decide) ?_
            refine g_iadd hx hb dX1_callableWithout_38 ?_
            refine lv_istore_n (lv' := [(2, .int (nI ((fb_ct (cdF kf cn but) i_1) + (1)))), (3, .int (nI (i_1))), (0, .ref (A 0)), (1, .int (but))]) hx hb dX1_callableWithout_39 rfl hl (by decide) rfl (fun ls hl => ?_)
            refine lv_iinc (v := nI (i_1 + 1)) (lv' := [(3, .int (nI (i_1 + 1))), (2, .int (nI ((fb_ct (cdF kf cn but) i_1) + (1)))), (0, .ref (A 0)), (1, .int (but))]) hx hb dX1_callableWithout_40 hl (k := 1) rfl (inc_1 _) (by decide) rfl (fun ls hl => ?_)
            refine lv_goto (tgt := 4) hx hb dX1_callableWithout_43 (by decide) ?_
            exact ih_8 (i_1 + 1) _ _ (by omega) (by omega) rfl (by simp [fb_ct_succ, cdF, c_11, d_11, c_13, c_15, d_15] <;> omega)  ls (lv_sub hl [0, 1, 2, 3] rfl)
  exact LP_5 (jn + 1) 0 _ _ (by omega) (by omega) rfl rfl  ls (lv_sub hl [0, 1, 2, 3] rfl)

set_option maxHeartbeats 1000000 in
set_option maxRecDepth 100000 in
theorem c_X1_firstCallable (l : Launch) (D : va_G) (cA : Nat → ClassId) (A : Nat → Nat) (jf : Nat → Nat → Int32) (jn : Nat) (kf : Nat → Nat → Int32) (rw : Nat → Nat) (cn rl clk ton : Nat) (sd : Int32) (but : Int32) (hjn : jn ≤ 9) (hcn : cn ≤ 10) : Met l yX1_firstCallable (gw yX1_firstCallable cX1_firstCallable 7 (some .int)) ({ frames := 2, cells := 0, slots := 0, locals := 44 } : Room) (gPc [.ref (A 0), .int (but)] (fun H => va_P D vwCl (cw cA A jf jn kf rw cn rl clk ton sd) H) D cA) (rdI (fun r => r = oI (fcF (jf 1) kf jn cn but))) 0 0 nF := by
  refine gOf (by decide) (Nat.le_of_ble_eq_true rfl) ?_
  intro p e s m below meth c ls hx hb hml hr hlk hown hts hnm hP hK hl
  have hl : lv_has ls 7 [(0, .ref (A 0)), (1, .int (but))] := hl
  refine lv_iconst (v := -1) hx hb dX1_firstCallable_0 gc_m1 ?_
  refine lv_istore_n (lv' := [(2, .int (-1)), (0, .ref (A 0)), (1, .int (but))]) hx hb dX1_firstCallable_1 rfl hl (by decide) rfl (fun ls hl => ?_)
  refine lv_iconst (v := nI (3)) hx hb dX1_firstCallable_2 gc_3 ?_
  refine lv_istore_n (lv' := [(3, .int (nI (3))), (2, .int (-1)), (0, .ref (A 0)), (1, .int (but))]) hx hb dX1_firstCallable_3 rfl hl (by decide) rfl (fun ls hl => ?_)
  refine lv_iconst (v := nI (0)) hx hb dX1_firstCallable_4 gc_0 ?_
  refine lv_istore (lv' := [(4, .int (nI (0))), (3, .int (nI (3))), (2, .int (-1)), (0, .ref (A 0)), (1, .int (but))]) hx hb dX1_firstCallable_5 hl (by decide) rfl (fun ls hl => ?_)
  have LP_6 : ∀ (n_2 i_1 : Nat) (x_3 : Int32) (x_4 : Int32) (x_5 : Int32), i_1 ≤ jn → jn + 1 ≤ i_1 + n_2 → x_3 = nI (i_1) → x_4 = nI ((fcS (jf 1) kf cn but i_1).2) → x_5 = oI ((fcS (jf 1) kf cn but i_1).1) → ∀ (ls : Array Slot), lv_has ls 7 [(4, .int (x_3)), (3, .int (x_4)), (2, .int (x_5)), (0, .ref (A 0)), (1, .int (but))] → W p l e ({ frames := 2, cells := 0, slots := 0, locals := 44 } : Room) s m ([.ref (A 0), .int (but)] : List Value).toArray below meth c s.heap [] 0 0 (MQ below (rdI (fun r => r = oI (fcF (jf 1) kf jn cn but))) ([.ref (A 0), .int (but)] : List Value).toArray s 0 0 nF) (F0 m 7 ls []) := by
    intro n_2
    induction n_2 with
    | zero => intro i_1 x_3 x_4 x_5 h1 h2; exact absurd h2 (by omega)
    | succ n_2 ih_10 =>
      intro i_1 x_3 x_4 x_5 h_11 h_12 e_7 e_8 e_9  ls hl
      subst e_7
      subst e_8
      subst e_9
      refine lv_iload hx hb dX1_firstCallable_7 (lv_at hl 0 rfl) ?_
      refine lv_aload_n hx hb dX1_firstCallable_9 rfl (lv_at hl 3 rfl) ?_
      refine g_get (v := .ref (A 1)) hx hb hts hown hK hP 0 rfl rfl gu_wsX10 0 (by decide) gm_2_21 rfl dX1_firstCallable_10 ?_
      refine g_get (v := .int (nI (jn))) hx hb hts hown hK hP 1 rfl rfl gu_wsX30 4 (by decide) gm_13_0 rfl dX1_firstCallable_13 ?_
      refine g_icmp_ge (P := jn ≤ i_1) (tgt := 103) hx hb dX1_firstCallable_16 (by decide) (nI_leI (by omega) (by omega)) (fun c_13 => ?_) (fun c_13 => ?_)
      · have d_13 : ¬ i_1 < jn := Nat.not_lt.mpr c_13
        have hN_14 : jn = i_1 := by omega
        subst hN_14
        refine lv_iload_n hx hb dX1_firstCallable_103 rfl (lv_at hl 2 rfl) ?_
        exact g_iret (v := oI ((fcS (jf 1) kf cn but (jn)).1)) hx hb hr hlk dX1_firstCallable_104 (rfl)
      · have d_13 : i_1 < jn := Nat.not_le.mp c_13
        refine lv_iload_n hx hb dX1_firstCallable_19 rfl (lv_at hl 4 rfl) ?_
        refine lv_iload hx hb dX1_firstCallable_20 (lv_at hl 0 rfl) ?_
        refine rd_calle (va_runSN (As := [.int (but), .int (nI (i_1))]) (rest := []) ⟨hx, hb, hml, hown, hts⟩ (c_X7_isIn l D cA (but) (i_1)) ⟨(va_cnB 2 hts (gWN gm_12_9) rfl rfl rfl (hK.2 _ (List.mem_of_getElem? (i := 8) rfl)) (hts _ (List.mem_cons_of_mem _ gm_1_2)) (by decide +kernel) ⟨Nat.le_of_ble_eq_true rfl, Nat.le_of_ble_eq_true rfl⟩), hts _ (List.mem_cons_of_mem _ gm_12_8), trivial⟩ (gPreS hK trivial) rfl rfl hl.1 rfl (lv_room (Nat.le_of_ble_eq_true rfl)) dX1_firstCallable_22 ⟨by omega, by omega⟩) ?_
        refine g_if_eq (P := hs (but) (i_1) = false) (tgt := 32) hx hb dX1_firstCallable_25 (by decide) b2i_0 (fun c_15 => ?_) (fun c_15 => ?_)
        · refine lv_aload_n hx hb dX1_firstCallable_32 rfl (lv_at hl 3 rfl) ?_
          refine lv_iload hx hb dX1_firstCallable_33 (lv_at hl 0 rfl) ?_
          refine rd_calle (va_runV (As := [.int (nI (i_1))]) (rest := []) ⟨hx, hb, hml, hown, hts⟩ (c_X1_loadOf l D cA A jf jn kf rw cn rl clk ton sd (i_1) hcn) (cwV 1 hts (gWV gm_13_1 gm_12_11 gm_12_12 gm_1_16 gm_12_13) rfl rfl rfl (by decide +kernel) ⟨Nat.le_of_ble_eq_true rfl, Nat.le_of_ble_eq_true rfl⟩) (gPreV hK (g_rf hK hP (ci := 3) (q0 := 0) rfl rfl) hP) rfl rfl hl.1 rfl (lv_room (Nat.le_of_ble_eq_true rfl)) dX1_firstCallable_35 ⟨by omega, by omega⟩) ?_
          refine g_top (z := nI (fcl kf cn but (i_1))) (by simp [fcl, c_13, d_13, c_15]) ?_
          have hle_16 := fcl_le kf cn but (i_1) hcn
          have hle_17 := fcS_le (jf 1) kf cn but (i_1)
          refine lv_istore (lv' := [(5, .int (nI (fcl kf cn but (i_1)))), (4, .int (nI (i_1))), (3, .int (nI ((fcS (jf 1) kf cn but i_1).2))), (2, .int (oI ((fcS (jf 1) kf cn but i_1).1))), (0, .ref (A 0)), (1, .int (but))]) hx hb dX1_firstCallable_38 hl (by decide) rfl (fun ls hl => ?_)
          refine lv_iload hx hb dX1_firstCallable_40 (lv_at hl 0 rfl) ?_
          refine lv_iload_n hx hb dX1_firstCallable_42 rfl (lv_at hl 2 rfl) ?_
          refine g_icmp_ne (P := fcl kf cn but (i_1) = (fcS (jf 1) kf cn but i_1).2) (tgt := 77) hx hb dX1_firstCallable_43 (by decide) (nI_eq (by omega) (by omega)) (fun c_18 => ?_) (fun c_18 => ?_)
          · refine lv_iconst (v := nI (0)) hx hb dX1_firstCallable_77 gc_0 ?_
            refine lv_istore (lv' := [(6, .int (nI (0))), (5, .int (nI (fcl kf cn but (i_1)))), (4, .int (nI (i_1))), (3, .int (nI ((fcS (jf 1) kf cn but i_1).2))), (2, .int (oI ((fcS (jf 1) kf cn but i_1).1))), (0, .ref (A 0)), (1, .int (but))]) hx hb dX1_firstCallable_78 hl (by decide) rfl (fun ls hl => ?_)
            refine lv_iload hx hb dX1_firstCallable_80 (lv_at hl 1 rfl) ?_
            refine lv_iload_n hx hb dX1_firstCallable_82 rfl (lv_at hl 3 rfl) ?_
            refine g_icmp_lt (P := fcl kf cn but (i_1) < (fcS (jf 1) kf cn but i_1).2) (tgt := 91) hx hb dX1_firstCallable_83 (by decide) (nI_ltI (by omega) (by omega)) (fun c_19 => ?_) (fun c_19 => ?_)
            · have d_19 : ¬ (fcS (jf 1) kf cn but i_1).2 ≤ fcl kf cn but (i_1) := Nat.not_le.mpr c_19
              refine lv_iload hx hb dX1_firstCallable_91 (lv_at hl 2 rfl) ?_
              refine lv_istore_n (lv' := [(2, .int (nI (i_1))), (6, .int (nI (0))), (5, .int (nI (fcl kf cn but (i_1)))), (4, .int (nI (i_1))), (3, .int (nI ((fcS (jf 1) kf cn but i_1).2))), (0, .ref (A 0)), (1, .int (but))]) hx hb dX1_firstCallable_93 rfl hl (by decide) rfl (fun ls hl => ?_)
              refine lv_iload hx hb dX1_firstCallable_94 (lv_at hl 2 rfl) ?_
              refine lv_istore_n (lv' := [(3, .int (nI (fcl kf cn but (i_1)))), (2, .int (nI (i_1))), (6, .int (nI (0))), (5, .int (nI (fcl kf cn but (i_1)))), (4, .int (nI (i_1))), (0, .ref (A 0)), (1, .int (but))]) hx hb dX1_firstCallable_96 rfl hl (by decide) rfl (fun ls hl => ?_)
              refine lv_iinc (v := nI (i_1 + 1)) (lv' := [(4, .int (nI (i_1 + 1))), (3, .int (nI (fcl kf cn but (i_1)))), (2, .int (nI (i_1))), (6, .int (nI (0))), (5, .int (nI (fcl kf cn but (i_1)))), (0, .ref (A 0)), (1, .int (but))]) hx hb dX1_firstCallable_97 hl (k := 4) rfl (inc_1 _) (by decide) rfl (fun ls hl => ?_)
              refine lv_goto (tgt := 7) hx hb dX1_firstCallable_100 (by decide) ?_
              exact ih_10 (i_1 + 1) _ _ _ (by omega) (by omega) rfl (by rw [fcS_win c_19] <;> rfl) (by rw [fcS_win c_19] <;> rfl)  ls (lv_sub hl [0, 1, 2, 5, 6] rfl)
            · have d_19 : (fcS (jf 1) kf cn but i_1).2 ≤ fcl kf cn but (i_1) := Nat.not_lt.mp c_19
              refine lv_iload hx hb dX1_firstCallable_86 (lv_at hl 0 rfl) ?_
              refine g_if_eq (P := 0 = 0) (tgt := 97) hx hb dX1_firstCallable_88 (by decide) (nI_z (by omega)) (fun c_20 => ?_) (fun c_20 => ?_)
              · refine lv_iinc (v := nI (i_1 + 1)) (lv' := [(4, .int (nI (i_1 + 1))), (6, .int (nI (0))), (5, .int (nI (fcl kf cn but (i_1)))), (3, .int (nI ((fcS (jf 1) kf cn but i_1).2))), (2, .int (oI ((fcS (jf 1) kf cn but i_1).1))), (0, .ref (A 0)), (1, .int (but))]) hx hb dX1_firstCallable_97 hl (k := 2) rfl (inc_1 _) (by decide) rfl (fun ls hl => ?_)
                refine lv_goto (tgt := 7) hx hb dX1_firstCallable_100 (by decide) ?_
                exact ih_10 (i_1 + 1) _ _ _ (by omega) (by omega) rfl (by rw [fcS_keep1 c_19 c_18]) (by rw [fcS_keep1 c_19 c_18])  ls (lv_sub hl [0, 3, 4, 5, 6] rfl)
              · exact absurd c_20 (by decide)
          · refine lv_iload_n hx hb dX1_firstCallable_46 rfl (lv_at hl 3 rfl) ?_
            refine lv_iconst (v := -1) hx hb dX1_firstCallable_47 gc_m1 ?_
            refine g_icmp_eq (P := (fcS (jf 1) kf cn but i_1).1 = none) (tgt := 77) hx hb dX1_firstCallable_48 (by decide) (oI_m1 (fun b q => by have := fcS_lt _ _ _ _ _ _ q; omega)) (fun c_21 => ?_) (fun c_21 => ?_)
            · refine lv_iconst (v := nI (0)) hx hb dX1_firstCallable_77 gc_0 ?_
              refine lv_istore (lv' := [(6, .int (nI (0))), (5, .int (nI (fcl kf cn but (i_1)))), (4, .int (nI (i_1))), (3, .int (nI ((fcS (jf 1) kf cn but i_1).2))), (2, .int (oI ((fcS (jf 1) kf cn but i_1).1))), (0, .ref (A 0)), (1, .int (but))]) hx hb dX1_firstCallable_78 hl (by decide) rfl (fun ls hl => ?_)
              refine lv_iload hx hb dX1_firstCallable_80 (lv_at hl 1 rfl) ?_
              refine lv_iload_n hx hb dX1_firstCallable_82 rfl (lv_at hl 3 rfl) ?_
              refine g_icmp_lt (P := fcl kf cn but (i_1) < (fcS (jf 1) kf cn but i_1).2) (tgt := 91) hx hb dX1_firstCallable_83 (by decide) (nI_ltI (by omega) (by omega)) (fun c_22 => ?_) (fun c_22 => ?_)
              · have d_22 : ¬ (fcS (jf 1) kf cn but i_1).2 ≤ fcl kf cn but (i_1) := Nat.not_le.mpr c_22
                refine lv_iload hx hb dX1_firstCallable_91 (lv_at hl 2 rfl) ?_
                refine lv_istore_n (lv' := [(2, .int (nI (i_1))), (6, .int (nI (0))), (5, .int (nI (fcl kf cn but (i_1)))), (4, .int (nI (i_1))), (3, .int (nI ((fcS (jf 1) kf cn but i_1).2))), (0, .ref (A 0)), (1, .int (but))]) hx hb dX1_firstCallable_93 rfl hl (by decide) rfl (fun ls hl => ?_)
                refine lv_iload hx hb dX1_firstCallable_94 (lv_at hl 2 rfl) ?_
                refine lv_istore_n (lv' := [(3, .int (nI (fcl kf cn but (i_1)))), (2, .int (nI (i_1))), (6, .int (nI (0))), (5, .int (nI (fcl kf cn but (i_1)))), (4, .int (nI (i_1))), (0, .ref (A 0)), (1, .int (but))]) hx hb dX1_firstCallable_96 rfl hl (by decide) rfl (fun ls hl => ?_)
                refine lv_iinc (v := nI (i_1 + 1)) (lv' := [(4, .int (nI (i_1 + 1))), (3, .int (nI (fcl kf cn but (i_1)))), (2, .int (nI (i_1))), (6, .int (nI (0))), (5, .int (nI (fcl kf cn but (i_1)))), (0, .ref (A 0)), (1, .int (but))]) hx hb dX1_firstCallable_97 hl (k := 4) rfl (inc_1 _) (by decide) rfl (fun ls hl => ?_)
                refine lv_goto (tgt := 7) hx hb dX1_firstCallable_100 (by decide) ?_
                exact ih_10 (i_1 + 1) _ _ _ (by omega) (by omega) rfl (by exfalso; omega) (by exfalso; omega)  ls (lv_sub hl [0, 1, 2, 5, 6] rfl)
              · have d_22 : (fcS (jf 1) kf cn but i_1).2 ≤ fcl kf cn but (i_1) := Nat.not_lt.mp c_22
                refine lv_iload hx hb dX1_firstCallable_86 (lv_at hl 0 rfl) ?_
                refine g_if_eq (P := 0 = 0) (tgt := 97) hx hb dX1_firstCallable_88 (by decide) (nI_z (by omega)) (fun c_23 => ?_) (fun c_23 => ?_)
                · refine lv_iinc (v := nI (i_1 + 1)) (lv' := [(4, .int (nI (i_1 + 1))), (6, .int (nI (0))), (5, .int (nI (fcl kf cn but (i_1)))), (3, .int (nI ((fcS (jf 1) kf cn but i_1).2))), (2, .int (oI ((fcS (jf 1) kf cn but i_1).1))), (0, .ref (A 0)), (1, .int (but))]) hx hb dX1_firstCallable_97 hl (k := 2) rfl (inc_1 _) (by decide) rfl (fun ls hl => ?_)
                  refine lv_goto (tgt := 7) hx hb dX1_firstCallable_100 (by decide) ?_
                  exact ih_10 (i_1 + 1) _ _ _ (by omega) (by omega) rfl (by rw [fcS_none c_18 c_21]) (by rw [fcS_none c_18 c_21])  ls (lv_sub hl [0, 3, 4, 5, 6] rfl)
                · exact absurd c_23 (by decide)
            · obtain ⟨b_24, eb_25⟩ := o_some c_21
              have hb_26 := fcS_lt _ _ _ _ _ _ eb_25
              rw [eb_25] at hl
              have hl : lv_has ls 7 [(5, .int (nI (fcl kf cn but (i_1)))), (4, .int (nI (i_1))), (3, .int (nI ((fcS (jf 1) kf cn but i_1).2))), (2, .int (nI (b_24))), (0, .ref (A 0)), (1, .int (but))] := hl
              refine lv_aload_n hx hb dX1_firstCallable_51 rfl (lv_at hl 4 rfl) ?_
              refine g_get (v := .ref (A 1)) hx hb hts hown hK hP 0 rfl rfl gu_wsX10 0 (by decide) gm_2_21 rfl dX1_firstCallable_52 ?_
              refine g_get (v := .ref (A 3)) hx hb hts hown hK hP 1 rfl rfl gu_wsX30 1 (by decide) gm_13_10 rfl dX1_firstCallable_55 ?_
              refine lv_iload hx hb dX1_firstCallable_58 (lv_at hl 1 rfl) ?_
              refine g_iald (x := jf 1 (i_1)) hx hb hK hP 3 rfl (by omega) (by decide) rfl dX1_firstCallable_60 ?_
              refine lv_aload_n hx hb dX1_firstCallable_61 rfl (lv_at hl 4 rfl) ?_
              refine g_get (v := .ref (A 1)) hx hb hts hown hK hP 0 rfl rfl gu_wsX10 0 (by decide) gm_2_21 rfl dX1_firstCallable_62 ?_
              refine g_get (v := .ref (A 3)) hx hb hts hown hK hP 1 rfl rfl gu_wsX30 1 (by decide) gm_13_10 rfl dX1_firstCallable_65 ?_
              refine lv_iload_n hx hb dX1_firstCallable_68 rfl (lv_at hl 3 rfl) ?_
              refine g_iald (x := jf 1 (b_24)) hx hb hK hP 3 rfl (by omega) (by decide) rfl dX1_firstCallable_69 ?_
              refine g_icmp_ge (P := jf 1 (b_24) ≤ jf 1 (i_1)) (tgt := 77) hx hb dX1_firstCallable_70 (by decide) Iff.rfl (fun c_27 => ?_) (fun c_27 => ?_)
              · have d_27 : ¬ jf 1 (i_1) < jf 1 (b_24) := Int32.not_lt.mpr c_27
                refine lv_iconst (v := nI (0)) hx hb dX1_firstCallable_77 gc_0 ?_
                refine lv_istore (lv' := [(6, .int (nI (0))), (5, .int (nI (fcl kf cn but (i_1)))), (4, .int (nI (i_1))), (3, .int (nI ((fcS (jf 1) kf cn but i_1).2))), (2, .int (nI (b_24))), (0, .ref (A 0)), (1, .int (but))]) hx hb dX1_firstCallable_78 hl (by decide) rfl (fun ls hl => ?_)
                refine lv_iload hx hb dX1_firstCallable_80 (lv_at hl 1 rfl) ?_
                refine lv_iload_n hx hb dX1_firstCallable_82 rfl (lv_at hl 3 rfl) ?_
                refine g_icmp_lt (P := fcl kf cn but (i_1) < (fcS (jf 1) kf cn but i_1).2) (tgt := 91) hx hb dX1_firstCallable_83 (by decide) (nI_ltI (by omega) (by omega)) (fun c_28 => ?_) (fun c_28 => ?_)
                · have d_28 : ¬ (fcS (jf 1) kf cn but i_1).2 ≤ fcl kf cn but (i_1) := Nat.not_le.mpr c_28
                  refine lv_iload hx hb dX1_firstCallable_91 (lv_at hl 2 rfl) ?_
                  refine lv_istore_n (lv' := [(2, .int (nI (i_1))), (6, .int (nI (0))), (5, .int (nI (fcl kf cn but (i_1)))), (4, .int (nI (i_1))), (3, .int (nI ((fcS (jf 1) kf cn but i_1).2))), (0, .ref (A 0)), (1, .int (but))]) hx hb dX1_firstCallable_93 rfl hl (by decide) rfl (fun ls hl => ?_)
                  refine lv_iload hx hb dX1_firstCallable_94 (lv_at hl 2 rfl) ?_
                  refine lv_istore_n (lv' := [(3, .int (nI (fcl kf cn but (i_1)))), (2, .int (nI (i_1))), (6, .int (nI (0))), (5, .int (nI (fcl kf cn but (i_1)))), (4, .int (nI (i_1))), (0, .ref (A 0)), (1, .int (but))]) hx hb dX1_firstCallable_96 rfl hl (by decide) rfl (fun ls hl => ?_)
                  refine lv_iinc (v := nI (i_1 + 1)) (lv' := [(4, .int (nI (i_1 + 1))), (3, .int (nI (fcl kf cn but (i_1)))), (2, .int (nI (i_1))), (6, .int (nI (0))), (5, .int (nI (fcl kf cn but (i_1)))), (0, .ref (A 0)), (1, .int (but))]) hx hb dX1_firstCallable_97 hl (k := 4) rfl (inc_1 _) (by decide) rfl (fun ls hl => ?_)
                  refine lv_goto (tgt := 7) hx hb dX1_firstCallable_100 (by decide) ?_
                  exact ih_10 (i_1 + 1) _ _ _ (by omega) (by omega) rfl (by exfalso; omega) (by exfalso; omega)  ls (lv_sub hl [0, 1, 2, 5, 6] rfl)
                · have d_28 : (fcS (jf 1) kf cn but i_1).2 ≤ fcl kf cn but (i_1) := Nat.not_lt.mp c_28
                  refine lv_iload hx hb dX1_firstCallable_86 (lv_at hl 0 rfl) ?_
                  refine g_if_eq (P := 0 = 0) (tgt := 97) hx hb dX1_firstCallable_88 (by decide) (nI_z (by omega)) (fun c_29 => ?_) (fun c_29 => ?_)
                  · refine lv_iinc (v := nI (i_1 + 1)) (lv' := [(4, .int (nI (i_1 + 1))), (6, .int (nI (0))), (5, .int (nI (fcl kf cn but (i_1)))), (3, .int (nI ((fcS (jf 1) kf cn but i_1).2))), (2, .int (nI (b_24))), (0, .ref (A 0)), (1, .int (but))]) hx hb dX1_firstCallable_97 hl (k := 2) rfl (inc_1 _) (by decide) rfl (fun ls hl => ?_)
                    refine lv_goto (tgt := 7) hx hb dX1_firstCallable_100 (by decide) ?_
                    exact ih_10 (i_1 + 1) _ _ _ (by omega) (by omega) rfl (by rw [fcS_keep c_18 eb_25 c_27]) (by rw [fcS_keep c_18 eb_25 c_27]; rw [eb_25]; rfl)  ls (lv_sub hl [0, 3, 4, 5, 6] rfl)
                  · exact absurd c_29 (by decide)
              · have d_27 : jf 1 (i_1) < jf 1 (b_24) := Int32.not_le.mp c_27
                refine lv_iconst (v := nI (1)) hx hb dX1_firstCallable_73 gc_1 ?_
                refine lv_goto (tgt := 78) hx hb dX1_firstCallable_74 (by decide) ?_
                refine lv_istore (lv' := [(6, .int (nI (1))), (5, .int (nI (fcl kf cn but (i_1)))), (4, .int (nI (i_1))), (3, .int (nI ((fcS (jf 1) kf cn but i_1).2))), (2, .int (nI (b_24))), (0, .ref (A 0)), (1, .int (but))]) hx hb dX1_firstCallable_78 hl (by decide) rfl (fun ls hl => ?_)
                refine lv_iload hx hb dX1_firstCallable_80 (lv_at hl 1 rfl) ?_
                refine lv_iload_n hx hb dX1_firstCallable_82 rfl (lv_at hl 3 rfl) ?_
                refine g_icmp_lt (P := fcl kf cn but (i_1) < (fcS (jf 1) kf cn but i_1).2) (tgt := 91) hx hb dX1_firstCallable_83 (by decide) (nI_ltI (by omega) (by omega)) (fun c_30 => ?_) (fun c_30 => ?_)
                · have d_30 : ¬ (fcS (jf 1) kf cn but i_1).2 ≤ fcl kf cn but (i_1) := Nat.not_le.mpr c_30
                  refine lv_iload hx hb dX1_firstCallable_91 (lv_at hl 2 rfl) ?_
                  refine lv_istore_n (lv' := [(2, .int (nI (i_1))), (6, .int (nI (1))), (5, .int (nI (fcl kf cn but (i_1)))), (4, .int (nI (i_1))), (3, .int (nI ((fcS (jf 1) kf cn but i_1).2))), (0, .ref (A 0)), (1, .int (but))]) hx hb dX1_firstCallable_93 rfl hl (by decide) rfl (fun ls hl => ?_)
                  refine lv_iload hx hb dX1_firstCallable_94 (lv_at hl 2 rfl) ?_
                  refine lv_istore_n (lv' := [(3, .int (nI (fcl kf cn but (i_1)))), (2, .int (nI (i_1))), (6, .int (nI (1))), (5, .int (nI (fcl kf cn but (i_1)))), (4, .int (nI (i_1))), (0, .ref (A 0)), (1, .int (but))]) hx hb dX1_firstCallable_96 rfl hl (by decide) rfl (fun ls hl => ?_)
                  refine lv_iinc (v := nI (i_1 + 1)) (lv' := [(4, .int (nI (i_1 + 1))), (3, .int (nI (fcl kf cn but (i_1)))), (2, .int (nI (i_1))), (6, .int (nI (1))), (5, .int (nI (fcl kf cn but (i_1)))), (0, .ref (A 0)), (1, .int (but))]) hx hb dX1_firstCallable_97 hl (k := 4) rfl (inc_1 _) (by decide) rfl (fun ls hl => ?_)
                  refine lv_goto (tgt := 7) hx hb dX1_firstCallable_100 (by decide) ?_
                  exact ih_10 (i_1 + 1) _ _ _ (by omega) (by omega) rfl (by exfalso; omega) (by exfalso; omega)  ls (lv_sub hl [0, 1, 2, 5, 6] rfl)
                · have d_30 : (fcS (jf 1) kf cn but i_1).2 ≤ fcl kf cn but (i_1) := Nat.not_lt.mp c_30
                  refine lv_iload hx hb dX1_firstCallable_86 (lv_at hl 0 rfl) ?_
                  refine g_if_eq (P := 1 = 0) (tgt := 97) hx hb dX1_firstCallable_88 (by decide) (nI_z (by omega)) (fun c_31 => ?_) (fun c_31 => ?_)
                  · exact absurd c_31 (by decide)
                  · refine lv_iload hx hb dX1_firstCallable_91 (lv_at hl 2 rfl) ?_
                    refine lv_istore_n (lv' := [(2, .int (nI (i_1))), (6, .int (nI (1))), (5, .int (nI (fcl kf cn but (i_1)))), (4, .int (nI (i_1))), (3, .int (nI ((fcS (jf 1) kf cn but i_1).2))), (0, .ref (A 0)), (1, .int (but))]) hx hb dX1_firstCallable_93 rfl hl (by decide) rfl (fun ls hl => ?_)
                    refine lv_iload hx hb dX1_firstCallable_94 (lv_at hl 2 rfl) ?_
                    refine lv_istore_n (lv' := [(3, .int (nI (fcl kf cn but (i_1)))), (2, .int (nI (i_1))), (6, .int (nI (1))), (5, .int (nI (fcl kf cn but (i_1)))), (4, .int (nI (i_1))), (0, .ref (A 0)), (1, .int (but))]) hx hb dX1_firstCallable_96 rfl hl (by decide) rfl (fun ls hl => ?_)
                    refine lv_iinc (v := nI (i_1 + 1)) (lv' := [(4, .int (nI (i_1 + 1))), (3, .int (nI (fcl kf cn but (i_1)))), (2, .int (nI (i_1))), (6, .int (nI (1))), (5, .int (nI (fcl kf cn but (i_1)))), (0, .ref (A 0)), (1, .int (but))]) hx hb dX1_firstCallable_97 hl (k := 4) rfl (inc_1 _) (by decide) rfl (fun ls hl => ?_)
                    refine lv_goto (tgt := 7) hx hb dX1_firstCallable_100 (by decide) ?_
                    exact ih_10 (i_1 + 1) _ _ _ (by omega) (by omega) rfl (by rw [fcS_twin c_18 eb_25 c_27] <;> rfl) (by rw [fcS_twin c_18 eb_25 c_27] <;> rfl)  ls (lv_sub hl [0, 1, 2, 5, 6] rfl)
        · have c_15 : hs (but) (i_1) = true := eq_true_of_ne_false c_15
          refine lv_iconst (v := nI (3)) hx hb dX1_firstCallable_28 gc_3 ?_
          refine lv_goto (tgt := 38) hx hb dX1_firstCallable_29 (by decide) ?_
          refine g_top (z := nI (fcl kf cn but (i_1))) (by simp [fcl, c_13, d_13, c_15]) ?_
          have hle_32 := fcl_le kf cn but (i_1) hcn
          have hle_33 := fcS_le (jf 1) kf cn but (i_1)
          refine lv_istore (lv' := [(5, .int (nI (fcl kf cn but (i_1)))), (4, .int (nI (i_1))), (3, .int (nI ((fcS (jf 1) kf cn but i_1).2))), (2, .int (oI ((fcS (jf 1) kf cn but i_1).1))), (0, .ref (A 0)), (1, .int (but))]) hx hb dX1_firstCallable_38 hl (by decide) rfl (fun ls hl => ?_)
          refine lv_iload hx hb dX1_firstCallable_40 (lv_at hl 0 rfl) ?_
          refine lv_iload_n hx hb dX1_firstCallable_42 rfl (lv_at hl 2 rfl) ?_
          refine g_icmp_ne (P := fcl kf cn but (i_1) = (fcS (jf 1) kf cn but i_1).2) (tgt := 77) hx hb dX1_firstCallable_43 (by decide) (nI_eq (by omega) (by omega)) (fun c_34 => ?_) (fun c_34 => ?_)
          · refine lv_iconst (v := nI (0)) hx hb dX1_firstCallable_77 gc_0 ?_
            refine lv_istore (lv' := [(6, .int (nI (0))), (5, .int (nI (fcl kf cn but (i_1)))), (4, .int (nI (i_1))), (3, .int (nI ((fcS (jf 1) kf cn but i_1).2))), (2, .int (oI ((fcS (jf 1) kf cn but i_1).1))), (0, .ref (A 0)), (1, .int (but))]) hx hb dX1_firstCallable_78 hl (by decide) rfl (fun ls hl => ?_)
            refine lv_iload hx hb dX1_firstCallable_80 (lv_at hl 1 rfl) ?_
            refine lv_iload_n hx hb dX1_firstCallable_82 rfl (lv_at hl 3 rfl) ?_
            refine g_icmp_lt (P := fcl kf cn but (i_1) < (fcS (jf 1) kf cn but i_1).2) (tgt := 91) hx hb dX1_firstCallable_83 (by decide) (nI_ltI (by omega) (by omega)) (fun c_35 => ?_) (fun c_35 => ?_)
            · have d_35 : ¬ (fcS (jf 1) kf cn but i_1).2 ≤ fcl kf cn but (i_1) := Nat.not_le.mpr c_35
              refine lv_iload hx hb dX1_firstCallable_91 (lv_at hl 2 rfl) ?_
              refine lv_istore_n (lv' := [(2, .int (nI (i_1))), (6, .int (nI (0))), (5, .int (nI (fcl kf cn but (i_1)))), (4, .int (nI (i_1))), (3, .int (nI ((fcS (jf 1) kf cn but i_1).2))), (0, .ref (A 0)), (1, .int (but))]) hx hb dX1_firstCallable_93 rfl hl (by decide) rfl (fun ls hl => ?_)
              refine lv_iload hx hb dX1_firstCallable_94 (lv_at hl 2 rfl) ?_
              refine lv_istore_n (lv' := [(3, .int (nI (fcl kf cn but (i_1)))), (2, .int (nI (i_1))), (6, .int (nI (0))), (5, .int (nI (fcl kf cn but (i_1)))), (4, .int (nI (i_1))), (0, .ref (A 0)), (1, .int (but))]) hx hb dX1_firstCallable_96 rfl hl (by decide) rfl (fun ls hl => ?_)
              refine lv_iinc (v := nI (i_1 + 1)) (lv' := [(4, .int (nI (i_1 + 1))), (3, .int (nI (fcl kf cn but (i_1)))), (2, .int (nI (i_1))), (6, .int (nI (0))), (5, .int (nI (fcl kf cn but (i_1)))), (0, .ref (A 0)), (1, .int (but))]) hx hb dX1_firstCallable_97 hl (k := 4) rfl (inc_1 _) (by decide) rfl (fun ls hl => ?_)
              refine lv_goto (tgt := 7) hx hb dX1_firstCallable_100 (by decide) ?_
              exact ih_10 (i_1 + 1) _ _ _ (by omega) (by omega) rfl (by rw [fcS_win c_35] <;> rfl) (by rw [fcS_win c_35] <;> rfl)  ls (lv_sub hl [0, 1, 2, 5, 6] rfl)
            · have d_35 : (fcS (jf 1) kf cn but i_1).2 ≤ fcl kf cn but (i_1) := Nat.not_lt.mp c_35
              refine lv_iload hx hb dX1_firstCallable_86 (lv_at hl 0 rfl) ?_
              refine g_if_eq (P := 0 = 0) (tgt := 97) hx hb dX1_firstCallable_88 (by decide) (nI_z (by omega)) (fun c_36 => ?_) (fun c_36 => ?_)
              · refine lv_iinc (v := nI (i_1 + 1)) (lv' := [(4, .int (nI (i_1 + 1))), (6, .int (nI (0))), (5, .int (nI (fcl kf cn but (i_1)))), (3, .int (nI ((fcS (jf 1) kf cn but i_1).2))), (2, .int (oI ((fcS (jf 1) kf cn but i_1).1))), (0, .ref (A 0)), (1, .int (but))]) hx hb dX1_firstCallable_97 hl (k := 2) rfl (inc_1 _) (by decide) rfl (fun ls hl => ?_)
                refine lv_goto (tgt := 7) hx hb dX1_firstCallable_100 (by decide) ?_
                exact ih_10 (i_1 + 1) _ _ _ (by omega) (by omega) rfl (by rw [fcS_keep1 c_35 c_34]) (by rw [fcS_keep1 c_35 c_34])  ls (lv_sub hl [0, 3, 4, 5, 6] rfl)
              · exact absurd c_36 (by decide)
          · refine lv_iload_n hx hb dX1_firstCallable_46 rfl (lv_at hl 3 rfl) ?_
            refine lv_iconst (v := -1) hx hb dX1_firstCallable_47 gc_m1 ?_
            refine g_icmp_eq (P := (fcS (jf 1) kf cn but i_1).1 = none) (tgt := 77) hx hb dX1_firstCallable_48 (by decide) (oI_m1 (fun b q => by have := fcS_lt _ _ _ _ _ _ q; omega)) (fun c_37 => ?_) (fun c_37 => ?_)
            · refine lv_iconst (v := nI (0)) hx hb dX1_firstCallable_77 gc_0 ?_
              refine lv_istore (lv' := [(6, .int (nI (0))), (5, .int (nI (fcl kf cn but (i_1)))), (4, .int (nI (i_1))), (3, .int (nI ((fcS (jf 1) kf cn but i_1).2))), (2, .int (oI ((fcS (jf 1) kf cn but i_1).1))), (0, .ref (A 0)), (1, .int (but))]) hx hb dX1_firstCallable_78 hl (by decide) rfl (fun ls hl => ?_)
              refine lv_iload hx hb dX1_firstCallable_80 (lv_at hl 1 rfl) ?_
              refine lv_iload_n hx hb dX1_firstCallable_82 rfl (lv_at hl 3 rfl) ?_
              refine g_icmp_lt (P := fcl kf cn but (i_1) < (fcS (jf 1) kf cn but i_1).2) (tgt := 91) hx hb dX1_firstCallable_83 (by decide) (nI_ltI (by omega) (by omega)) (fun c_38 => ?_) (fun c_38 => ?_)
              · have d_38 : ¬ (fcS (jf 1) kf cn but i_1).2 ≤ fcl kf cn but (i_1) := Nat.not_le.mpr c_38
                refine lv_iload hx hb dX1_firstCallable_91 (lv_at hl 2 rfl) ?_
                refine lv_istore_n (lv' := [(2, .int (nI (i_1))), (6, .int (nI (0))), (5, .int (nI (fcl kf cn but (i_1)))), (4, .int (nI (i_1))), (3, .int (nI ((fcS (jf 1) kf cn but i_1).2))), (0, .ref (A 0)), (1, .int (but))]) hx hb dX1_firstCallable_93 rfl hl (by decide) rfl (fun ls hl => ?_)
                refine lv_iload hx hb dX1_firstCallable_94 (lv_at hl 2 rfl) ?_
                refine lv_istore_n (lv' := [(3, .int (nI (fcl kf cn but (i_1)))), (2, .int (nI (i_1))), (6, .int (nI (0))), (5, .int (nI (fcl kf cn but (i_1)))), (4, .int (nI (i_1))), (0, .ref (A 0)), (1, .int (but))]) hx hb dX1_firstCallable_96 rfl hl (by decide) rfl (fun ls hl => ?_)
                refine lv_iinc (v := nI (i_1 + 1)) (lv' := [(4, .int (nI (i_1 + 1))), (3, .int (nI (fcl kf cn but (i_1)))), (2, .int (nI (i_1))), (6, .int (nI (0))), (5, .int (nI (fcl kf cn but (i_1)))), (0, .ref (A 0)), (1, .int (but))]) hx hb dX1_firstCallable_97 hl (k := 4) rfl (inc_1 _) (by decide) rfl (fun ls hl => ?_)
                refine lv_goto (tgt := 7) hx hb dX1_firstCallable_100 (by decide) ?_
                exact ih_10 (i_1 + 1) _ _ _ (by omega) (by omega) rfl (by exfalso; omega) (by exfalso; omega)  ls (lv_sub hl [0, 1, 2, 5, 6] rfl)
              · have d_38 : (fcS (jf 1) kf cn but i_1).2 ≤ fcl kf cn but (i_1) := Nat.not_lt.mp c_38
                refine lv_iload hx hb dX1_firstCallable_86 (lv_at hl 0 rfl) ?_
                refine g_if_eq (P := 0 = 0) (tgt := 97) hx hb dX1_firstCallable_88 (by decide) (nI_z (by omega)) (fun c_39 => ?_) (fun c_39 => ?_)
                · refine lv_iinc (v := nI (i_1 + 1)) (lv' := [(4, .int (nI (i_1 + 1))), (6, .int (nI (0))), (5, .int (nI (fcl kf cn but (i_1)))), (3, .int (nI ((fcS (jf 1) kf cn but i_1).2))), (2, .int (oI ((fcS (jf 1) kf cn but i_1).1))), (0, .ref (A 0)), (1, .int (but))]) hx hb dX1_firstCallable_97 hl (k := 2) rfl (inc_1 _) (by decide) rfl (fun ls hl => ?_)
                  refine lv_goto (tgt := 7) hx hb dX1_firstCallable_100 (by decide) ?_
                  exact ih_10 (i_1 + 1) _ _ _ (by omega) (by omega) rfl (by rw [fcS_none c_34 c_37]) (by rw [fcS_none c_34 c_37])  ls (lv_sub hl [0, 3, 4, 5, 6] rfl)
                · exact absurd c_39 (by decide)
            · obtain ⟨b_40, eb_41⟩ := o_some c_37
              have hb_42 := fcS_lt _ _ _ _ _ _ eb_41
              rw [eb_41] at hl
              have hl : lv_has ls 7 [(5, .int (nI (fcl kf cn but (i_1)))), (4, .int (nI (i_1))), (3, .int (nI ((fcS (jf 1) kf cn but i_1).2))), (2, .int (nI (b_40))), (0, .ref (A 0)), (1, .int (but))] := hl
              refine lv_aload_n hx hb dX1_firstCallable_51 rfl (lv_at hl 4 rfl) ?_
              refine g_get (v := .ref (A 1)) hx hb hts hown hK hP 0 rfl rfl gu_wsX10 0 (by decide) gm_2_21 rfl dX1_firstCallable_52 ?_
              refine g_get (v := .ref (A 3)) hx hb hts hown hK hP 1 rfl rfl gu_wsX30 1 (by decide) gm_13_10 rfl dX1_firstCallable_55 ?_
              refine lv_iload hx hb dX1_firstCallable_58 (lv_at hl 1 rfl) ?_
              refine g_iald (x := jf 1 (i_1)) hx hb hK hP 3 rfl (by omega) (by decide) rfl dX1_firstCallable_60 ?_
              refine lv_aload_n hx hb dX1_firstCallable_61 rfl (lv_at hl 4 rfl) ?_
              refine g_get (v := .ref (A 1)) hx hb hts hown hK hP 0 rfl rfl gu_wsX10 0 (by decide) gm_2_21 rfl dX1_firstCallable_62 ?_
              refine g_get (v := .ref (A 3)) hx hb hts hown hK hP 1 rfl rfl gu_wsX30 1 (by decide) gm_13_10 rfl dX1_firstCallable_65 ?_
              refine lv_iload_n hx hb dX1_firstCallable_68 rfl (lv_at hl 3 rfl) ?_
              refine g_iald (x := jf 1 (b_40)) hx hb hK hP 3 rfl (by omega) (by decide) rfl dX1_firstCallable_69 ?_
              refine g_icmp_ge (P := jf 1 (b_40) ≤ jf 1 (i_1)) (tgt := 77) hx hb dX1_firstCallable_70 (by decide) Iff.rfl (fun c_43 => ?_) (fun c_43 => ?_)
              · have d_43 : ¬ jf 1 (i_1) < jf 1 (b_40) := Int32.not_lt.mpr c_43
                refine lv_iconst (v := nI (0)) hx hb dX1_firstCallable_77 gc_0 ?_
                refine lv_istore (lv' := [(6, .int (nI (0))), (5, .int (nI (fcl kf cn but (i_1)))), (4, .int (nI (i_1))), (3, .int (nI ((fcS (jf 1) kf cn but i_1).2))), (2, .int (nI (b_40))), (0, .ref (A 0)), (1, .int (but))]) hx hb dX1_firstCallable_78 hl (by decide) rfl (fun ls hl => ?_)
                refine lv_iload hx hb dX1_firstCallable_80 (lv_at hl 1 rfl) ?_
                refine lv_iload_n hx hb dX1_firstCallable_82 rfl (lv_at hl 3 rfl) ?_
                refine g_icmp_lt (P := fcl kf cn but (i_1) < (fcS (jf 1) kf cn but i_1).2) (tgt := 91) hx hb dX1_firstCallable_83 (by decide) (nI_ltI (by omega) (by omega)) (fun c_44 => ?_) (fun c_44 => ?_)
                · have d_44 : ¬ (fcS (jf 1) kf cn but i_1).2 ≤ fcl kf cn but (i_1) := Nat.not_le.mpr c_44
                  refine lv_iload hx hb dX1_firstCallable_91 (lv_at hl 2 rfl) ?_
                  refine lv_istore_n (lv' := [(2, .int (nI (i_1))), (6, .int (nI (0))), (5, .int (nI (fcl kf cn but (i_1)))), (4, .int (nI (i_1))), (3, .int (nI ((fcS (jf 1) kf cn but i_1).2))), (0, .ref (A 0)), (1, .int (but))]) hx hb dX1_firstCallable_93 rfl hl (by decide) rfl (fun ls hl => ?_)
                  refine lv_iload hx hb dX1_firstCallable_94 (lv_at hl 2 rfl) ?_
                  refine lv_istore_n (lv' := [(3, .int (nI (fcl kf cn but (i_1)))), (2, .int (nI (i_1))), (6, .int (nI (0))), (5, .int (nI (fcl kf cn but (i_1)))), (4, .int (nI (i_1))), (0, .ref (A 0)), (1, .int (but))]) hx hb dX1_firstCallable_96 rfl hl (by decide) rfl (fun ls hl => ?_)
                  refine lv_iinc (v := nI (i_1 + 1)) (lv' := [(4, .int (nI (i_1 + 1))), (3, .int (nI (fcl kf cn but (i_1)))), (2, .int (nI (i_1))), (6, .int (nI (0))), (5, .int (nI (fcl kf cn but (i_1)))), (0, .ref (A 0)), (1, .int (but))]) hx hb dX1_firstCallable_97 hl (k := 4) rfl (inc_1 _) (by decide) rfl (fun ls hl => ?_)
                  refine lv_goto (tgt := 7) hx hb dX1_firstCallable_100 (by decide) ?_
                  exact ih_10 (i_1 + 1) _ _ _ (by omega) (by omega) rfl (by exfalso; omega) (by exfalso; omega)  ls (lv_sub hl [0, 1, 2, 5, 6] rfl)
                · have d_44 : (fcS (jf 1) kf cn but i_1).2 ≤ fcl kf cn but (i_1) := Nat.not_lt.mp c_44
                  refine lv_iload hx hb dX1_firstCallable_86 (lv_at hl 0 rfl) ?_
                  refine g_if_eq (P := 0 = 0) (tgt := 97) hx hb dX1_firstCallable_88 (by decide) (nI_z (by omega)) (fun c_45 => ?_) (fun c_45 => ?_)
                  · refine lv_iinc (v := nI (i_1 + 1)) (lv' := [(4, .int (nI (i_1 + 1))), (6, .int (nI (0))), (5, .int (nI (fcl kf cn but (i_1)))), (3, .int (nI ((fcS (jf 1) kf cn but i_1).2))), (2, .int (nI (b_40))), (0, .ref (A 0)), (1, .int (but))]) hx hb dX1_firstCallable_97 hl (k := 2) rfl (inc_1 _) (by decide) rfl (fun ls hl => ?_)
                    refine lv_goto (tgt := 7) hx hb dX1_firstCallable_100 (by decide) ?_
                    exact ih_10 (i_1 + 1) _ _ _ (by omega) (by omega) rfl (by rw [fcS_keep c_34 eb_41 c_43]) (by rw [fcS_keep c_34 eb_41 c_43]; rw [eb_41]; rfl)  ls (lv_sub hl [0, 3, 4, 5, 6] rfl)
                  · exact absurd c_45 (by decide)
              · have d_43 : jf 1 (i_1) < jf 1 (b_40) := Int32.not_le.mp c_43
                refine lv_iconst (v := nI (1)) hx hb dX1_firstCallable_73 gc_1 ?_
                refine lv_goto (tgt := 78) hx hb dX1_firstCallable_74 (by decide) ?_
                refine lv_istore (lv' := [(6, .int (nI (1))), (5, .int (nI (fcl kf cn but (i_1)))), (4, .int (nI (i_1))), (3, .int (nI ((fcS (jf 1) kf cn but i_1).2))), (2, .int (nI (b_40))), (0, .ref (A 0)), (1, .int (but))]) hx hb dX1_firstCallable_78 hl (by decide) rfl (fun ls hl => ?_)
                refine lv_iload hx hb dX1_firstCallable_80 (lv_at hl 1 rfl) ?_
                refine lv_iload_n hx hb dX1_firstCallable_82 rfl (lv_at hl 3 rfl) ?_
                refine g_icmp_lt (P := fcl kf cn but (i_1) < (fcS (jf 1) kf cn but i_1).2) (tgt := 91) hx hb dX1_firstCallable_83 (by decide) (nI_ltI (by omega) (by omega)) (fun c_46 => ?_) (fun c_46 => ?_)
                · have d_46 : ¬ (fcS (jf 1) kf cn but i_1).2 ≤ fcl kf cn but (i_1) := Nat.not_le.mpr c_46
                  refine lv_iload hx hb dX1_firstCallable_91 (lv_at hl 2 rfl) ?_
                  refine lv_istore_n (lv' := [(2, .int (nI (i_1))), (6, .int (nI (1))), (5, .int (nI (fcl kf cn but (i_1)))), (4, .int (nI (i_1))), (3, .int (nI ((fcS (jf 1) kf cn but i_1).2))), (0, .ref (A 0)), (1, .int (but))]) hx hb dX1_firstCallable_93 rfl hl (by decide) rfl (fun ls hl => ?_)
                  refine lv_iload hx hb dX1_firstCallable_94 (lv_at hl 2 rfl) ?_
                  refine lv_istore_n (lv' := [(3, .int (nI (fcl kf cn but (i_1)))), (2, .int (nI (i_1))), (6, .int (nI (1))), (5, .int (nI (fcl kf cn but (i_1)))), (4, .int (nI (i_1))), (0, .ref (A 0)), (1, .int (but))]) hx hb dX1_firstCallable_96 rfl hl (by decide) rfl (fun ls hl => ?_)
                  refine lv_iinc (v := nI (i_1 + 1)) (lv' := [(4, .int (nI (i_1 + 1))), (3, .int (nI (fcl kf cn but (i_1)))), (2, .int (nI (i_1))), (6, .int (nI (1))), (5, .int (nI (fcl kf cn but (i_1)))), (0, .ref (A 0)), (1, .int (but))]) hx hb dX1_firstCallable_97 hl (k := 4) rfl (inc_1 _) (by decide) rfl (fun ls hl => ?_)
                  refine lv_goto (tgt := 7) hx hb dX1_firstCallable_100 (by decide) ?_
                  exact ih_10 (i_1 + 1) _ _ _ (by omega) (by omega) rfl (by exfalso; omega) (by exfalso; omega)  ls (lv_sub hl [0, 1, 2, 5, 6] rfl)
                · have d_46 : (fcS (jf 1) kf cn but i_1).2 ≤ fcl kf cn but (i_1) := Nat.not_lt.mp c_46
                  refine lv_iload hx hb dX1_firstCallable_86 (lv_at hl 0 rfl) ?_
                  refine g_if_eq (P := 1 = 0) (tgt := 97) hx hb dX1_firstCallable_88 (by decide) (nI_z (by omega)) (fun c_47 => ?_) (fun c_47 => ?_)
                  · exact absurd c_47 (by decide)
                  · refine lv_iload hx hb dX1_firstCallable_91 (lv_at hl 2 rfl) ?_
                    refine lv_istore_n (lv' := [(2, .int (nI (i_1))), (6, .int (nI (1))), (5, .int (nI (fcl kf cn but (i_1)))), (4, .int (nI (i_1))), (3, .int (nI ((fcS (jf 1) kf cn but i_1).2))), (0, .ref (A 0)), (1, .int (but))]) hx hb dX1_firstCallable_93 rfl hl (by decide) rfl (fun ls hl => ?_)
                    refine lv_iload hx hb dX1_firstCallable_94 (lv_at hl 2 rfl) ?_
                    refine lv_istore_n (lv' := [(3, .int (nI (fcl kf cn but (i_1)))), (2, .int (nI (i_1))), (6, .int (nI (1))), (5, .int (nI (fcl kf cn but (i_1)))), (4, .int (nI (i_1))), (0, .ref (A 0)), (1, .int (but))]) hx hb dX1_firstCallable_96 rfl hl (by decide) rfl (fun ls hl => ?_)
                    refine lv_iinc (v := nI (i_1 + 1)) (lv' := [(4, .int (nI (i_1 + 1))), (3, .int (nI (fcl kf cn but (i_1)))), (2, .int (nI (i_1))), (6, .int (nI (1))), (5, .int (nI (fcl kf cn but (i_1)))), (0, .ref (A 0)), (1, .int (but))]) hx hb dX1_firstCallable_97 hl (k := 4) rfl (inc_1 _) (by decide) rfl (fun ls hl => ?_)
                    refine lv_goto (tgt := 7) hx hb dX1_firstCallable_100 (by decide) ?_
                    exact ih_10 (i_1 + 1) _ _ _ (by omega) (by omega) rfl (by rw [fcS_twin c_34 eb_41 c_43] <;> rfl) (by rw [fcS_twin c_34 eb_41 c_43] <;> rfl)  ls (lv_sub hl [0, 1, 2, 5, 6] rfl)
  exact LP_6 (jn + 1) 0 _ _ _ (by omega) (by omega) rfl rfl rfl  ls (lv_sub hl [0, 1, 2, 3, 4] rfl)

set_option maxHeartbeats 1000000 in
set_option maxRecDepth 100000 in
theorem c_X1_callableAt (l : Launch) (D : va_G) (cA : Nat → ClassId) (A : Nat → Nat) (jf : Nat → Nat → Int32) (jn : Nat) (kf : Nat → Nat → Int32) (rw : Nat → Nat) (cn rl clk ton : Nat) (sd : Int32) (v : Int32) (hjn : jn ≤ 9) (hcn : cn ≤ 10) : Met l yX1_callableAt (gw yX1_callableAt cX1_callableAt 5 (some .int)) ({ frames := 3, cells := 0, slots := 0, locals := 70 } : Room) (gPc [.ref (A 0), .int (v)] (fun H => va_P D vwCl (cw cA A jf jn kf rw cn rl clk ton sd) H) D cA) (rdI (fun r => r = oI (nthV (fcF (jf 1) kf jn cn) jn v))) 0 0 nF := by
  refine gOf (by decide) (Nat.le_of_ble_eq_true rfl) ?_
  intro p e s m below meth c ls hx hb hml hr hlk hown hts hnm hP hK hl
  have hl : lv_has ls 5 [(0, .ref (A 0)), (1, .int (v))] := hl
  refine lv_aload_n hx hb dX1_callableAt_0 rfl (lv_at hl 0 rfl) ?_
  refine g_get (v := .ref (A 1)) hx hb hts hown hK hP 0 rfl rfl gu_wsX10 0 (by decide) gm_2_21 rfl dX1_callableAt_1 ?_
  refine lv_iload_n hx hb dX1_callableAt_4 rfl (lv_at hl 1 rfl) ?_
  refine rd_calle (va_runV (As := [.int (v)]) (rest := []) ⟨hx, hb, hml, hown, hts⟩ (c_X3_has l D cA (fun k => A (k + 1)) jf jn (v) hjn) (cwV 1 hts (gWV gm_29_2 gm_25_2 gm_25_3 gm_2_5 gm_25_4) rfl rfl rfl (by decide +kernel) ⟨Nat.le_of_ble_eq_true rfl, Nat.le_of_ble_eq_true rfl⟩) (gPreV hK (g_rf hK hP (ci := 5) (q0 := 1) rfl rfl) (hP.sub [1, 2, 3, 4, 5] rfl)) rfl rfl hl.1 rfl (lv_room (Nat.le_of_ble_eq_true rfl)) dX1_callableAt_5 ⟨by omega, by omega⟩) ?_
  refine g_if_ne (P := isIx (v) jn = false) (tgt := 13) hx hb dX1_callableAt_8 (by decide) b2i_0 (fun c_1 => ?_) (fun c_1 => ?_)
  · have c_1 : isIx (v) jn = true := eq_true_of_ne_false c_1
    obtain ⟨j_2, hj_4, ej_3⟩ := isIx_n c_1 (by omega)
    rw [ej_3] at hl
    have hl : lv_has ls 5 [(0, .ref (A 0)), (1, .int (nI (j_2)))] := hl
    refine lv_iconst (v := nI (0)) hx hb dX1_callableAt_13 gc_0 ?_
    refine lv_istore_n (lv' := [(2, .int (nI (0))), (0, .ref (A 0)), (1, .int (nI (j_2)))]) hx hb dX1_callableAt_14 rfl hl (by decide) rfl (fun ls hl => ?_)
    refine lv_aload_n hx hb dX1_callableAt_15 rfl (lv_at hl 1 rfl) ?_
    refine lv_iload_n hx hb dX1_callableAt_16 rfl (lv_at hl 0 rfl) ?_
    refine rd_calle (va_runV (As := [.int (nI (0))]) (rest := []) ⟨hx, hb, hml, hown, hts⟩ (c_X1_firstCallable l D cA A jf jn kf rw cn rl clk ton sd (nI (0)) hjn hcn) (cwV 1 hts (gWV gm_13_6 gm_13_7 gm_13_8 gm_1_16 gm_13_9) rfl rfl rfl (by decide +kernel) ⟨Nat.le_of_ble_eq_true rfl, Nat.le_of_ble_eq_true rfl⟩) (gPreV hK (g_rf hK hP (ci := 3) (q0 := 0) rfl rfl) hP) rfl rfl hl.1 rfl (lv_room (Nat.le_of_ble_eq_true rfl)) dX1_callableAt_17 ⟨by omega, by omega⟩) ?_
    refine lv_istore_n (lv' := [(3, .int (oI (fcF (jf 1) kf jn cn (nI (0))))), (2, .int (nI (0))), (0, .ref (A 0)), (1, .int (nI (j_2)))]) hx hb dX1_callableAt_20 rfl hl (by decide) rfl (fun ls hl => ?_)
    refine lv_iconst (v := nI (0)) hx hb dX1_callableAt_21 gc_0 ?_
    refine lv_istore (lv' := [(4, .int (nI (0))), (3, .int (oI (fcF (jf 1) kf jn cn (nI (0))))), (2, .int (nI (0))), (0, .ref (A 0)), (1, .int (nI (j_2)))]) hx hb dX1_callableAt_22 hl (by decide) rfl (fun ls hl => ?_)
    have LP_10 : ∀ (n_6 i_5 : Nat) (x_7 : Int32) (x_8 : Int32) (x_9 : Int32), i_5 ≤ j_2 → j_2 + 1 ≤ i_5 + n_6 → x_7 = nI (i_5) → x_8 = oI ((nthS (fcF (jf 1) kf jn cn) i_5).2) → x_9 = (nthS (fcF (jf 1) kf jn cn) i_5).1 → ∀ (ls : Array Slot), lv_has ls 5 [(4, .int (x_7)), (3, .int (x_8)), (2, .int (x_9)), (0, .ref (A 0)), (1, .int (nI (j_2)))] → W p l e ({ frames := 3, cells := 0, slots := 0, locals := 70 } : Room) s m ([.ref (A 0), .int (v)] : List Value).toArray below meth c s.heap [] 0 0 (MQ below (rdI (fun r => r = oI (nthV (fcF (jf 1) kf jn cn) jn v))) ([.ref (A 0), .int (v)] : List Value).toArray s 0 0 nF) (F0 m 24 ls []) := by
      intro n_6
      induction n_6 with
      | zero => intro i_5 x_7 x_8 x_9 h1 h2; exact absurd h2 (by omega)
      | succ n_6 ih_14 =>
        intro i_5 x_7 x_8 x_9 h_15 h_16 e_11 e_12 e_13  ls hl
        subst e_11
        subst e_12
        subst e_13
        refine lv_iload hx hb dX1_callableAt_24 (lv_at hl 0 rfl) ?_
        refine lv_iload_n hx hb dX1_callableAt_26 rfl (lv_at hl 4 rfl) ?_
        refine g_icmp_ge (P := j_2 ≤ i_5) (tgt := 53) hx hb dX1_callableAt_27 (by decide) (nI_leI (by omega) (by omega)) (fun c_17 => ?_) (fun c_17 => ?_)
        · have d_17 : ¬ i_5 < j_2 := Nat.not_lt.mpr c_17
          have hN_18 : j_2 = i_5 := by omega
          subst hN_18
          refine lv_iload_n hx hb dX1_callableAt_53 rfl (lv_at hl 1 rfl) ?_
          exact g_iret (v := oI ((nthS (fcF (jf 1) kf jn cn) (j_2)).2)) hx hb hr hlk dX1_callableAt_54 (by rw [nthV_in hj_4 (by omega) ej_3])
        · have d_17 : i_5 < j_2 := Nat.not_le.mp c_17
          refine lv_iload_n hx hb dX1_callableAt_30 rfl (lv_at hl 1 rfl) ?_
          refine lv_iconst (v := -1) hx hb dX1_callableAt_31 gc_m1 ?_
          refine g_icmp_eq (P := (nthS (fcF (jf 1) kf jn cn) i_5).2 = none) (tgt := 53) hx hb dX1_callableAt_32 (by decide) (oI_m1 (fun b q => by have := nthS_lt fcF_lt _ _ q; omega)) (fun c_19 => ?_) (fun c_19 => ?_)
          · refine lv_iload_n hx hb dX1_callableAt_53 rfl (lv_at hl 1 rfl) ?_
            exact g_iret (v := oI ((nthS (fcF (jf 1) kf jn cn) i_5).2)) hx hb hr hlk dX1_callableAt_54 (by rw [nthV_in hj_4 (by omega) ej_3, nthS_none c_19 j_2 (by omega)])
          · obtain ⟨b_20, eb_21⟩ := o_some c_19
            have hb_22 := nthS_lt fcF_lt _ _ eb_21
            rw [eb_21] at hl
            have hl : lv_has ls 5 [(4, .int (nI (i_5))), (3, .int (nI (b_20))), (2, .int ((nthS (fcF (jf 1) kf jn cn) i_5).1)), (0, .ref (A 0)), (1, .int (nI (j_2)))] := hl
            refine lv_iload_n hx hb dX1_callableAt_35 rfl (lv_at hl 2 rfl) ?_
            refine lv_iconst (v := nI (1)) hx hb dX1_callableAt_36 gc_1 ?_
            refine lv_iload_n hx hb dX1_callableAt_37 rfl (lv_at hl 1 rfl) ?_
            refine lv_ishl hx hb dX1_callableAt_38 ?_
            refine lv_ior hx hb dX1_callableAt_39 ?_
            refine lv_istore_n (lv' := [(2, .int (((nthS (fcF (jf 1) kf jn cn) i_5).1) ||| ((nI (1)) <<< ((nI (b_20)) &&& 31)))), (4, .int (nI (i_5))), (3, .int (nI (b_20))), (0, .ref (A 0)), (1, .int (nI (j_2)))]) hx hb dX1_callableAt_40 rfl hl (by decide) rfl (fun ls hl => ?_)
            refine lv_aload_n hx hb dX1_callableAt_41 rfl (lv_at hl 3 rfl) ?_
            refine lv_iload_n hx hb dX1_callableAt_42 rfl (lv_at hl 0 rfl) ?_
            refine rd_calle (va_runV (As := [.int (((nthS (fcF (jf 1) kf jn cn) i_5).1) ||| ((nI (1)) <<< ((nI (b_20)) &&& 31)))]) (rest := []) ⟨hx, hb, hml, hown, hts⟩ (c_X1_firstCallable l D cA A jf jn kf rw cn rl clk ton sd (((nthS (fcF (jf 1) kf jn cn) i_5).1) ||| ((nI (1)) <<< ((nI (b_20)) &&& 31))) hjn hcn) (cwV 1 hts (gWV gm_13_6 gm_13_7 gm_13_8 gm_1_16 gm_13_9) rfl rfl rfl (by decide +kernel) ⟨Nat.le_of_ble_eq_true rfl, Nat.le_of_ble_eq_true rfl⟩) (gPreV hK (g_rf hK hP (ci := 3) (q0 := 0) rfl rfl) hP) rfl rfl hl.1 rfl (lv_room (Nat.le_of_ble_eq_true rfl)) dX1_callableAt_43 ⟨by omega, by omega⟩) ?_
            refine lv_istore_n (lv' := [(3, .int (oI (fcF (jf 1) kf jn cn (((nthS (fcF (jf 1) kf jn cn) i_5).1) ||| ((nI (1)) <<< ((nI (b_20)) &&& 31)))))), (2, .int (((nthS (fcF (jf 1) kf jn cn) i_5).1) ||| ((nI (1)) <<< ((nI (b_20)) &&& 31)))), (4, .int (nI (i_5))), (0, .ref (A 0)), (1, .int (nI (j_2)))]) hx hb dX1_callableAt_46 rfl hl (by decide) rfl (fun ls hl => ?_)
            refine lv_iinc (v := nI (i_5 + 1)) (lv' := [(4, .int (nI (i_5 + 1))), (3, .int (oI (fcF (jf 1) kf jn cn (((nthS (fcF (jf 1) kf jn cn) i_5).1) ||| ((nI (1)) <<< ((nI (b_20)) &&& 31)))))), (2, .int (((nthS (fcF (jf 1) kf jn cn) i_5).1) ||| ((nI (1)) <<< ((nI (b_20)) &&& 31)))), (0, .ref (A 0)), (1, .int (nI (j_2)))]) hx hb dX1_callableAt_47 hl (k := 2) rfl (inc_1 _) (by decide) rfl (fun ls hl => ?_)
            refine lv_goto (tgt := 24) hx hb dX1_callableAt_50 (by decide) ?_
            exact ih_14 (i_5 + 1) _ _ _ (by omega) (by omega) rfl (by rw [nthS_some eb_21]) (by rw [nthS_some eb_21])  ls (lv_sub hl [0, 1, 2, 3, 4] rfl)
    exact LP_10 (j_2 + 1) 0 _ _ _ (by omega) (by omega) rfl rfl rfl  ls (lv_sub hl [0, 1, 2, 3, 4] rfl)
  · refine lv_iconst (v := -1) hx hb dX1_callableAt_11 gc_m1 ?_
    exact g_iret (v := -1) hx hb hr hlk dX1_callableAt_12 (by rw [nthV_out c_1]; rfl)

set_option maxHeartbeats 1000000 in
set_option maxRecDepth 100000 in
theorem c_X0_rowAt (l : Launch) (D : va_G) (cA : Nat → ClassId) (K : Nat → Nat) (kf : Nat → Nat → Int32) (rw : Nat → Nat) (cn rl : Nat) (v : Int32) (hrl : rl ≤ 10) (hrw : ∀ k, k < rl → rw k < 10) : Met l yX0_rowAt (gw yX0_rowAt cX0_rowAt 2 (some .int)) ({ frames := 0, cells := 0, slots := 0, locals := 0 } : Room) (gPc [.ref (K 0), .int (v)] (fun H => va_P D vwCl (kw cA K kf rw cn rl) H) D cA) (rdI (fun r => r = oI (if isIx v rl = true then some (rw v.toNatClampNeg) else none))) 0 0 nF := by
  refine gOf (by decide) (Nat.le_of_ble_eq_true rfl) ?_
  intro p e s m below meth c ls hx hb hml hr hlk hown hts hnm hP hK hl
  have hl : lv_has ls 2 [(0, .ref (K 0)), (1, .int (v))] := hl
  refine lv_iload_n hx hb dX0_rowAt_0 rfl (lv_at hl 1 rfl) ?_
  refine g_if_lt (P := v < 0) (tgt := 21) hx hb dX0_rowAt_1 (by decide) Iff.rfl (fun c_1 => ?_) (fun c_1 => ?_)
  · have d_1 : ¬ 0 ≤ v := Int32.not_le.mpr c_1
    refine lv_iconst (v := -1) hx hb dX0_rowAt_21 gc_m1 ?_
    exact g_iret (v := -1) hx hb hr hlk dX0_rowAt_22 (by rw [isIx_code v (by omega)]; simp [c_1, d_1, oI])
  · have d_1 : 0 ≤ v := Int32.not_lt.mp c_1
    refine lv_iload_n hx hb dX0_rowAt_4 rfl (lv_at hl 1 rfl) ?_
    refine lv_aload_n hx hb dX0_rowAt_5 rfl (lv_at hl 0 rfl) ?_
    refine g_get (v := .int (nI (rl))) hx hb hts hown hK hP 0 rfl rfl gu_wsX00 10 (by decide) gm_4_3 rfl dX0_rowAt_6 ?_
    refine g_icmp_ge (P := nI (rl) ≤ v) (tgt := 21) hx hb dX0_rowAt_9 (by decide) Iff.rfl (fun c_2 => ?_) (fun c_2 => ?_)
    · have d_2 : ¬ v < nI (rl) := Int32.not_lt.mpr c_2
      refine lv_iconst (v := -1) hx hb dX0_rowAt_21 gc_m1 ?_
      exact g_iret (v := -1) hx hb hr hlk dX0_rowAt_22 (by rw [isIx_code v (by omega)]; simp [c_1, d_1, c_2, d_2, oI])
    · have d_2 : v < nI (rl) := Int32.not_le.mp c_2
      obtain ⟨j_3, hj_4, ej_5⟩ := isIx_n (by rw [isIx_code v (by omega)]; simp [c_1, d_1, c_2, d_2, c_2] : isIx v rl = true) (by omega)
      rw [ej_5] at hl
      have hl : lv_has ls 2 [(0, .ref (K 0)), (1, .int (nI (j_3)))] := hl
      refine lv_aload_n hx hb dX0_rowAt_12 rfl (lv_at hl 0 rfl) ?_
      refine g_get (v := .ref (K 9)) hx hb hts hown hK hP 0 rfl rfl gu_wsX00 8 (by decide) gm_4_1 rfl dX0_rowAt_13 ?_
      refine lv_iload_n hx hb dX0_rowAt_16 rfl (lv_at hl 1 rfl) ?_
      refine g_iald (x := nI (rw (j_3))) hx hb hK hP 9 rfl (by omega) (by decide) rfl dX0_rowAt_17 ?_
      refine lv_goto (tgt := 22) hx hb dX0_rowAt_18 (by decide) ?_
      exact g_iret (v := nI (rw (j_3))) hx hb hr hlk dX0_rowAt_22 (by rw [if_pos (by rw [ej_5]; exact isIx_t hj_4 (by omega)), ej_5, nI_clamp (by omega)]; rfl)

