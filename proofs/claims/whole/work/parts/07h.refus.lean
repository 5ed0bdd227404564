def rwd (cA : Nat → ClassId) (B : Nat → Nat) (rs dt : Int32) (jf : Nat → Nat → Int32) (jn : Nat) (kf : Nat → Nat → Int32) (rw : Nat → Nat) (cn rl clk ton : Nat) (sd : Int32) : va_W := (B 0, .inr (7, [.int rs, .int dt])) :: cw cA (fun k => B (k + 1)) jf jn kf rw cn rl clk ton sd
theorem rwdD {cA : Nat → ClassId} {B : Nat → Nat} {rs dt : Int32} {jf : Nat → Nat → Int32} {jn : Nat} {kf : Nat → Nat → Int32} {rw : Nat → Nat} {cn rl clk ton : Nat} {sd : Int32} (h : aInj 17 B) : va_D (aS 17 B) (rwd cA B rs dt jf jn kf rw cn rl clk ton sd) := wD h rfl
abbrev RS : Type := Int32 × Int32
def rfJ (jn : Nat) : Option RS := if jn < 9 then none else some (nI 1, nI 9)
def rfK (cn : Nat) : Option RS := if cn < 10 then none else some (nI 1, nI 10)
def rfClk (clk : Nat) : Option RS := if clk < 4 then none else some (nI 1, nI 4)
def rfNt (ton rl : Nat) : Option RS := if ton < 99 then none else some (nI 8, nI rl)
def rfCall (kf : Nat → Nat → Int32) (jn cn q : Nat) : Option RS := if hpF kf q = true then some (nI 2, nI (ldF kf cn ((fnd (hs (kf 2 q)) jn).getD 0))) else if cwF kf cn jn (nI 0) < 3 then some (nI 3, nI (cwF kf cn jn (nI 0))) else none
def rfVote (kf : Nat → Nat → Int32) (q : Nat) : Option RS := if hpF kf q = false then some (nI 4, kf 1 q) else if clF kf q = true then some (nI 6, kf 5 q) else if hvF kf q = true then some (nI 2, kf 3 q) else none
def rfUns (kf : Nat → Nat → Int32) (q : Nat) : Option RS := if hvF kf q = false then some (nI 5, kf 6 q) else if clF kf q = true then some (nI 6, kf 5 q) else none
def rfApp (kf : Nat → Nat → Int32) (jn cn q : Nat) : Option RS := if (rfUns kf q).isSome = true then rfUns kf q else if kf 7 q < nI 2 then (if cwF kf cn jn (kf 2 q) < 1 then some (nI 3, nI (cwF kf cn jn (kf 2 q))) else none) else some (nI 7, kf 3 q)
def rfOrd (kf : Nat → Nat → Int32) (jn cn rl clk ton kd : Nat) (a : Int32) : Option RS := match kd with
  | 0 => rfJ jn
  | 1 => rfK cn
  | 2 => rfCall kf jn cn a.toNatClampNeg
  | 3 => rfVote kf a.toNatClampNeg
  | 4 => rfUns kf a.toNatClampNeg
  | 5 => rfApp kf jn cn a.toNatClampNeg
  | 6 => rfClk clk
  | _ => rfNt ton rl
theorem cwF_le (k : Nat → Nat → Int32) (cn jn : Nat) (but : Int32) : cwF k cn jn but ≤ jn := fb_ct_le _ _

set_option maxHeartbeats 1000000 in
set_option maxRecDepth 100000 in
theorem c_X5_isFor (l : Launch) (D : va_G) (cA : Nat → ClassId) (B : Nat → Nat) (rs dt : Int32) (jf : Nat → Nat → Int32) (jn : Nat) (kf : Nat → Nat → Int32) (rw : Nat → Nat) (cn rl clk ton : Nat) (sd : Int32) (w d : Int32) (hA : aInj 17 B)  : Met l yX5_isFor (gw yX5_isFor cX5_isFor 3 (some .boolean)) ({ frames := 0, cells := 0, slots := 0, locals := 0 } : Room) (gPc [.ref (B 0), .int (w), .int (d)] (fun H => va_P D vwCl (rwd cA B (rs) (dt) (jf) (jn) (kf) (rw) (cn) (rl) (clk) (ton) (sd)) H) D cA) (wrI (fun r H => r = b2i true ∧ va_P D vwCl (rwd cA B w d jf jn kf rw cn rl clk ton sd) H) (aS 17 B)) 0 0 (aS 17 B) := by
  refine gOf (by decide) (Nat.le_of_ble_eq_true rfl) ?_
  intro p e s m below meth c ls hx hb hml hr hlk hown hts hnm hP hK hl
  have hl : lv_has ls 3 [(0, .ref (B 0)), (1, .int (w)), (2, .int (d))] := hl
  have hD : va_D (aS 17 B) (rwd cA B (rs) (dt) (jf) (jn) (kf) (rw) (cn) (rl) (clk) (ton) (sd)) := rwdD hA
  have hS : va_S (aS 17 B) s.heap s.heap [] := va_S.rf
  refine lv_aload_n hx hb dX5_isFor_0 rfl (lv_at hl 0 rfl) ?_
  refine lv_iload_n hx hb dX5_isFor_1 rfl (lv_at hl 1 rfl) ?_
  refine g_put (ws' := rwd cA B (w) (dt) (jf) (jn) (kf) (rw) (cn) (rl) (clk) (ton) (sd)) hx hb hts hown hK hP hD hS 0 rfl rfl gu_wsX50 tyX5_ok nmX5 0 (by decide) gm_4_15 rfl rfl rfl (Nat.le_of_ble_eq_true rfl) (by first | rfl | (rw [updN_nI]; rfl)) dX5_isFor_2 (fun H locs hP hD hS => ?_)
  refine lv_aload_n hx hb dX5_isFor_5 rfl (lv_at hl 0 rfl) ?_
  refine lv_iload_n hx hb dX5_isFor_6 rfl (lv_at hl 2 rfl) ?_
  refine g_put (ws' := rwd cA B (w) (d) (jf) (jn) (kf) (rw) (cn) (rl) (clk) (ton) (sd)) hx hb hts hown hK hP hD hS 0 rfl rfl gu_wsX50 tyX5_ok nmX5 1 (by decide) gm_4_16 rfl rfl rfl (Nat.le_of_ble_eq_true rfl) (by first | rfl | (rw [updN_nI]; rfl)) dX5_isFor_7 (fun H locs hP hD hS => ?_)
  refine lv_iconst (v := nI (1)) hx hb dX5_isFor_10 gc_1 ?_
  exact g_zretW (v := nI (1)) hx hb hr hlk rfl hS dX5_isFor_11 (⟨rfl, hP⟩)

set_option maxHeartbeats 1000000 in
set_option maxRecDepth 100000 in
theorem c_X5_ofJuror (l : Launch) (D : va_G) (cA : Nat → ClassId) (B : Nat → Nat) (rs dt : Int32) (jf : Nat → Nat → Int32) (jn : Nat) (kf : Nat → Nat → Int32) (rw : Nat → Nat) (cn rl clk ton : Nat) (sd : Int32) (hA : aInj 17 B) (hjn : jn ≤ 9) : Met l yX5_ofJuror (gw yX5_ofJuror cX5_ofJuror 2 (some .boolean)) ({ frames := 1, cells := 0, slots := 0, locals := 22 } : Room) (gPc [.ref (B 0), .ref (B 1)] (fun H => va_P D vwCl (rwd cA B (rs) (dt) (jf) (jn) (kf) (rw) (cn) (rl) (clk) (ton) (sd)) H) D cA) (wrI (fun r H => r = b2i (rfJ jn).isSome ∧ va_P D vwCl (rwd cA B ((rfJ jn).getD (rs, dt)).1 ((rfJ jn).getD (rs, dt)).2 jf jn kf rw cn rl clk ton sd) H) (aS 17 B)) 0 0 (aS 17 B) := by
  refine gOf (by decide) (Nat.le_of_ble_eq_true rfl) ?_
  intro p e s m below meth c ls hx hb hml hr hlk hown hts hnm hP hK hl
  have hl : lv_has ls 2 [(0, .ref (B 0)), (1, .ref (B 1))] := hl
  have hD : va_D (aS 17 B) (rwd cA B (rs) (dt) (jf) (jn) (kf) (rw) (cn) (rl) (clk) (ton) (sd)) := rwdD hA
  have hS : va_S (aS 17 B) s.heap s.heap [] := va_S.rf
  refine lv_aload_n hx hb dX5_ofJuror_0 rfl (lv_at hl 1 rfl) ?_
  refine g_get (v := .ref (B 2)) hx hb hts hown hK hP 1 rfl rfl gu_wsX10 0 (by decide) gm_6_21 rfl dX5_ofJuror_1 ?_
  refine g_get (v := .int (nI (jn))) hx hb hts hown hK hP 2 rfl rfl gu_wsX30 4 (by decide) gm_6_22 rfl dX5_ofJuror_4 ?_
  refine lv_bipush (v := nI (9)) hx hb dX5_ofJuror_7 gb_9 ?_
  refine g_icmp_lt (P := jn < 9) (tgt := 26) hx hb dX5_ofJuror_9 (by decide) (nI_ltI (by omega) (by omega)) (fun c_1 => ?_) (fun c_1 => ?_)
  · have d_1 : ¬ 9 ≤ jn := Nat.not_le.mpr c_1
    refine lv_iconst (v := nI (0)) hx hb dX5_ofJuror_26 gc_0 ?_
    exact g_zretW (v := nI (0)) hx hb hr hlk rfl hS dX5_ofJuror_27 (by have e9 : rfJ jn = none := (by simp [rfJ, c_1, d_1]) ; rw [e9]; exact ⟨rfl, hP⟩)
  · have d_1 : 9 ≤ jn := Nat.not_lt.mp c_1
    refine lv_aload_n hx hb dX5_ofJuror_12 rfl (lv_at hl 0 rfl) ?_
    refine lv_iconst (v := nI (1)) hx hb dX5_ofJuror_13 gc_1 ?_
    refine lv_bipush (v := nI (9)) hx hb dX5_ofJuror_14 gb_9 ?_
    refine wr_calli (va_runV (As := [.int (nI (1)), .int (nI (9))]) (rest := []) ⟨hx, hb, hml, hown, hts⟩ (c_X5_isFor l D cA B (rs) (dt) (jf) (jn) (kf) (rw) (cn) (rl) (clk) (ton) (sd) (nI (1)) (nI (9)) hA) (cwV 2 hts (gWV gm_6_23 gm_7_0 gm_7_1 gm_2_1 gm_7_2) rfl rfl rfl (by decide +kernel) ⟨Nat.le_of_ble_eq_true rfl, Nat.le_of_ble_eq_true rfl⟩) (gPreV hK (g_rf hK hP (ci := 7) (q0 := 0) rfl rfl) hP) rfl rfl hl.1 rfl (lv_room (Nat.le_of_ble_eq_true rfl)) dX5_ofJuror_16 ⟨by omega, by omega⟩) hS (fun q _ h => h) (fun q h => h) (fun r H locs hw9 hz9 hk9 hS => ?_)
    obtain ⟨rfl, hP⟩ := hw9
    have hD : va_D (aS 17 B) (rwd cA B (nI (1)) (nI (9)) (jf) (jn) (kf) (rw) (cn) (rl) (clk) (ton) (sd)) := rwdD hA
    refine g_if_eq (P := true = false) (tgt := 26) hx hb dX5_ofJuror_19 (by decide) b2i_0 (fun c_2 => ?_) (fun c_2 => ?_)
    · exact absurd c_2 (by decide)
    · have c_2 : true = true := eq_true_of_ne_false c_2
      refine lv_iconst (v := nI (1)) hx hb dX5_ofJuror_22 gc_1 ?_
      refine lv_goto (tgt := 27) hx hb dX5_ofJuror_23 (by decide) ?_
      exact g_zretW (v := nI (1)) hx hb hr hlk rfl hS dX5_ofJuror_27 (by have e9 : rfJ jn = some (nI (1), nI (9)) := (by simp [rfJ, c_1, d_1, c_2]) ; rw [e9]; exact ⟨rfl, hP⟩)

set_option maxHeartbeats 1000000 in
set_option maxRecDepth 100000 in
theorem c_X5_ofCase (l : Launch) (D : va_G) (cA : Nat → ClassId) (B : Nat → Nat) (rs dt : Int32) (jf : Nat → Nat → Int32) (jn : Nat) (kf : Nat → Nat → Int32) (rw : Nat → Nat) (cn rl clk ton : Nat) (sd : Int32) (hA : aInj 17 B) (hcn : cn ≤ 10) : Met l yX5_ofCase (gw yX5_ofCase cX5_ofCase 2 (some .boolean)) ({ frames := 1, cells := 0, slots := 0, locals := 22 } : Room) (gPc [.ref (B 0), .ref (B 1)] (fun H => va_P D vwCl (rwd cA B (rs) (dt) (jf) (jn) (kf) (rw) (cn) (rl) (clk) (ton) (sd)) H) D cA) (wrI (fun r H => r = b2i (rfK cn).isSome ∧ va_P D vwCl (rwd cA B ((rfK cn).getD (rs, dt)).1 ((rfK cn).getD (rs, dt)).2 jf jn kf rw cn rl clk ton sd) H) (aS 17 B)) 0 0 (aS 17 B) := by
  refine gOf (by decide) (Nat.le_of_ble_eq_true rfl) ?_
  intro p e s m below meth c ls hx hb hml hr hlk hown hts hnm hP hK hl
  have hl : lv_has ls 2 [(0, .ref (B 0)), (1, .ref (B 1))] := hl
  have hD : va_D (aS 17 B) (rwd cA B (rs) (dt) (jf) (jn) (kf) (rw) (cn) (rl) (clk) (ton) (sd)) := rwdD hA
  have hS : va_S (aS 17 B) s.heap s.heap [] := va_S.rf
  refine lv_aload_n hx hb dX5_ofCase_0 rfl (lv_at hl 1 rfl) ?_
  refine g_get (v := .ref (B 7)) hx hb hts hown hK hP 1 rfl rfl gu_wsX10 1 (by decide) gm_10_15 rfl dX5_ofCase_1 ?_
  refine g_get (v := .int (nI (cn))) hx hb hts hown hK hP 7 rfl rfl gu_wsX00 9 (by decide) gm_10_16 rfl dX5_ofCase_4 ?_
  refine lv_bipush (v := nI (10)) hx hb dX5_ofCase_7 gb_10 ?_
  refine g_icmp_lt (P := cn < 10) (tgt := 26) hx hb dX5_ofCase_9 (by decide) (nI_ltI (by omega) (by omega)) (fun c_1 => ?_) (fun c_1 => ?_)
  · have d_1 : ¬ 10 ≤ cn := Nat.not_le.mpr c_1
    refine lv_iconst (v := nI (0)) hx hb dX5_ofCase_26 gc_0 ?_
    exact g_zretW (v := nI (0)) hx hb hr hlk rfl hS dX5_ofCase_27 (by have e9 : rfK cn = none := (by simp [rfK, c_1, d_1]) ; rw [e9]; exact ⟨rfl, hP⟩)
  · have d_1 : 10 ≤ cn := Nat.not_lt.mp c_1
    refine lv_aload_n hx hb dX5_ofCase_12 rfl (lv_at hl 0 rfl) ?_
    refine lv_iconst (v := nI (1)) hx hb dX5_ofCase_13 gc_1 ?_
    refine lv_bipush (v := nI (10)) hx hb dX5_ofCase_14 gb_10 ?_
    refine wr_calli (va_runV (As := [.int (nI (1)), .int (nI (10))]) (rest := []) ⟨hx, hb, hml, hown, hts⟩ (c_X5_isFor l D cA B (rs) (dt) (jf) (jn) (kf) (rw) (cn) (rl) (clk) (ton) (sd) (nI (1)) (nI (10)) hA) (cwV 2 hts (gWV gm_6_23 gm_7_0 gm_7_1 gm_2_1 gm_7_2) rfl rfl rfl (by decide +kernel) ⟨Nat.le_of_ble_eq_true rfl, Nat.le_of_ble_eq_true rfl⟩) (gPreV hK (g_rf hK hP (ci := 7) (q0 := 0) rfl rfl) hP) rfl rfl hl.1 rfl (lv_room (Nat.le_of_ble_eq_true rfl)) dX5_ofCase_16 ⟨by omega, by omega⟩) hS (fun q _ h => h) (fun q h => h) (fun r H locs hw9 hz9 hk9 hS => ?_)
    obtain ⟨rfl, hP⟩ := hw9
    have hD : va_D (aS 17 B) (rwd cA B (nI (1)) (nI (10)) (jf) (jn) (kf) (rw) (cn) (rl) (clk) (ton) (sd)) := rwdD hA
    refine g_if_eq (P := true = false) (tgt := 26) hx hb dX5_ofCase_19 (by decide) b2i_0 (fun c_2 => ?_) (fun c_2 => ?_)
    · exact absurd c_2 (by decide)
    · have c_2 : true = true := eq_true_of_ne_false c_2
      refine lv_iconst (v := nI (1)) hx hb dX5_ofCase_22 gc_1 ?_
      refine lv_goto (tgt := 27) hx hb dX5_ofCase_23 (by decide) ?_
      exact g_zretW (v := nI (1)) hx hb hr hlk rfl hS dX5_ofCase_27 (by have e9 : rfK cn = some (nI (1), nI (10)) := (by simp [rfK, c_1, d_1, c_2]) ; rw [e9]; exact ⟨rfl, hP⟩)

set_option maxHeartbeats 1000000 in
set_option maxRecDepth 100000 in
theorem c_X5_ofClerk (l : Launch) (D : va_G) (cA : Nat → ClassId) (B : Nat → Nat) (rs dt : Int32) (jf : Nat → Nat → Int32) (jn : Nat) (kf : Nat → Nat → Int32) (rw : Nat → Nat) (cn rl clk ton : Nat) (sd : Int32) (hA : aInj 17 B) (hck : clk ≤ 4) : Met l yX5_ofClerk (gw yX5_ofClerk cX5_ofClerk 2 (some .boolean)) ({ frames := 1, cells := 0, slots := 0, locals := 22 } : Room) (gPc [.ref (B 0), .ref (B 1)] (fun H => va_P D vwCl (rwd cA B (rs) (dt) (jf) (jn) (kf) (rw) (cn) (rl) (clk) (ton) (sd)) H) D cA) (wrI (fun r H => r = b2i (rfClk clk).isSome ∧ va_P D vwCl (rwd cA B ((rfClk clk).getD (rs, dt)).1 ((rfClk clk).getD (rs, dt)).2 jf jn kf rw cn rl clk ton sd) H) (aS 17 B)) 0 0 (aS 17 B) := by
  refine gOf (by decide) (Nat.le_of_ble_eq_true rfl) ?_
  intro p e s m below meth c ls hx hb hml hr hlk hown hts hnm hP hK hl
  have hl : lv_has ls 2 [(0, .ref (B 0)), (1, .ref (B 1))] := hl
  have hD : va_D (aS 17 B) (rwd cA B (rs) (dt) (jf) (jn) (kf) (rw) (cn) (rl) (clk) (ton) (sd)) := rwdD hA
  have hS : va_S (aS 17 B) s.heap s.heap [] := va_S.rf
  refine lv_aload_n hx hb dX5_ofClerk_0 rfl (lv_at hl 1 rfl) ?_
  refine g_get (v := .int (nI (clk))) hx hb hts hown hK hP 1 rfl rfl gu_wsX10 2 (by decide) gm_22_0 rfl dX5_ofClerk_1 ?_
  refine lv_iconst (v := nI (4)) hx hb dX5_ofClerk_4 gc_4 ?_
  refine g_icmp_lt (P := clk < 4) (tgt := 21) hx hb dX5_ofClerk_5 (by decide) (nI_ltI (by omega) (by omega)) (fun c_1 => ?_) (fun c_1 => ?_)
  · have d_1 : ¬ 4 ≤ clk := Nat.not_le.mpr c_1
    refine lv_iconst (v := nI (0)) hx hb dX5_ofClerk_21 gc_0 ?_
    exact g_zretW (v := nI (0)) hx hb hr hlk rfl hS dX5_ofClerk_22 (by have e9 : rfClk clk = none := (by simp [rfClk, c_1, d_1]) ; rw [e9]; exact ⟨rfl, hP⟩)
  · have d_1 : 4 ≤ clk := Nat.not_lt.mp c_1
    refine lv_aload_n hx hb dX5_ofClerk_8 rfl (lv_at hl 0 rfl) ?_
    refine lv_iconst (v := nI (1)) hx hb dX5_ofClerk_9 gc_1 ?_
    refine lv_iconst (v := nI (4)) hx hb dX5_ofClerk_10 gc_4 ?_
    refine wr_calli (va_runV (As := [.int (nI (1)), .int (nI (4))]) (rest := []) ⟨hx, hb, hml, hown, hts⟩ (c_X5_isFor l D cA B (rs) (dt) (jf) (jn) (kf) (rw) (cn) (rl) (clk) (ton) (sd) (nI (1)) (nI (4)) hA) (cwV 2 hts (gWV gm_6_23 gm_7_0 gm_7_1 gm_2_1 gm_7_2) rfl rfl rfl (by decide +kernel) ⟨Nat.le_of_ble_eq_true rfl, Nat.le_of_ble_eq_true rfl⟩) (gPreV hK (g_rf hK hP (ci := 7) (q0 := 0) rfl rfl) hP) rfl rfl hl.1 rfl (lv_room (Nat.le_of_ble_eq_true rfl)) dX5_ofClerk_11 ⟨by omega, by omega⟩) hS (fun q _ h => h) (fun q h => h) (fun r H locs hw9 hz9 hk9 hS => ?_)
    obtain ⟨rfl, hP⟩ := hw9
    have hD : va_D (aS 17 B) (rwd cA B (nI (1)) (nI (4)) (jf) (jn) (kf) (rw) (cn) (rl) (clk) (ton) (sd)) := rwdD hA
    refine g_if_eq (P := true = false) (tgt := 21) hx hb dX5_ofClerk_14 (by decide) b2i_0 (fun c_2 => ?_) (fun c_2 => ?_)
    · exact absurd c_2 (by decide)
    · have c_2 : true = true := eq_true_of_ne_false c_2
      refine lv_iconst (v := nI (1)) hx hb dX5_ofClerk_17 gc_1 ?_
      refine lv_goto (tgt := 22) hx hb dX5_ofClerk_18 (by decide) ?_
      exact g_zretW (v := nI (1)) hx hb hr hlk rfl hS dX5_ofClerk_22 (by have e9 : rfClk clk = some (nI (1), nI (4)) := (by simp [rfClk, c_1, d_1, c_2]) ; rw [e9]; exact ⟨rfl, hP⟩)

set_option maxHeartbeats 1000000 in
set_option maxRecDepth 100000 in
theorem c_X5_ofNight (l : Launch) (D : va_G) (cA : Nat → ClassId) (B : Nat → Nat) (rs dt : Int32) (jf : Nat → Nat → Int32) (jn : Nat) (kf : Nat → Nat → Int32) (rw : Nat → Nat) (cn rl clk ton : Nat) (sd : Int32) (hA : aInj 17 B) (htn : ton ≤ 99) : Met l yX5_ofNight (gw yX5_ofNight cX5_ofNight 2 (some .boolean)) ({ frames := 1, cells := 0, slots := 0, locals := 22 } : Room) (gPc [.ref (B 0), .ref (B 1)] (fun H => va_P D vwCl (rwd cA B (rs) (dt) (jf) (jn) (kf) (rw) (cn) (rl) (clk) (ton) (sd)) H) D cA) (wrI (fun r H => r = b2i (rfNt ton rl).isSome ∧ va_P D vwCl (rwd cA B ((rfNt ton rl).getD (rs, dt)).1 ((rfNt ton rl).getD (rs, dt)).2 jf jn kf rw cn rl clk ton sd) H) (aS 17 B)) 0 0 (aS 17 B) := by
  refine gOf (by decide) (Nat.le_of_ble_eq_true rfl) ?_
  intro p e s m below meth c ls hx hb hml hr hlk hown hts hnm hP hK hl
  have hl : lv_has ls 2 [(0, .ref (B 0)), (1, .ref (B 1))] := hl
  have hD : va_D (aS 17 B) (rwd cA B (rs) (dt) (jf) (jn) (kf) (rw) (cn) (rl) (clk) (ton) (sd)) := rwdD hA
  have hS : va_S (aS 17 B) s.heap s.heap [] := va_S.rf
  refine lv_aload_n hx hb dX5_ofNight_0 rfl (lv_at hl 1 rfl) ?_
  refine g_get (v := .int (nI (ton))) hx hb hts hown hK hP 1 rfl rfl gu_wsX10 3 (by decide) gm_22_20 rfl dX5_ofNight_1 ?_
  refine lv_bipush (v := nI (99)) hx hb dX5_ofNight_4 gb_99 ?_
  refine g_icmp_lt (P := ton < 99) (tgt := 29) hx hb dX5_ofNight_6 (by decide) (nI_ltI (by omega) (by omega)) (fun c_1 => ?_) (fun c_1 => ?_)
  · have d_1 : ¬ 99 ≤ ton := Nat.not_le.mpr c_1
    refine lv_iconst (v := nI (0)) hx hb dX5_ofNight_29 gc_0 ?_
    exact g_zretW (v := nI (0)) hx hb hr hlk rfl hS dX5_ofNight_30 (by have e9 : rfNt ton rl = none := (by simp [rfNt, c_1, d_1]) ; rw [e9]; exact ⟨rfl, hP⟩)
  · have d_1 : 99 ≤ ton := Nat.not_lt.mp c_1
    refine lv_aload_n hx hb dX5_ofNight_9 rfl (lv_at hl 0 rfl) ?_
    refine lv_bipush (v := nI (8)) hx hb dX5_ofNight_10 gb_8 ?_
    refine lv_aload_n hx hb dX5_ofNight_12 rfl (lv_at hl 1 rfl) ?_
    refine g_get (v := .ref (B 7)) hx hb hts hown hK hP 1 rfl rfl gu_wsX10 1 (by decide) gm_10_15 rfl dX5_ofNight_13 ?_
    refine g_get (v := .int (nI (rl))) hx hb hts hown hK hP 7 rfl rfl gu_wsX00 10 (by decide) gm_22_21 rfl dX5_ofNight_16 ?_
    refine wr_calli (va_runV (As := [.int (nI (8)), .int (nI (rl))]) (rest := []) ⟨hx, hb, hml, hown, hts⟩ (c_X5_isFor l D cA B (rs) (dt) (jf) (jn) (kf) (rw) (cn) (rl) (clk) (ton) (sd) (nI (8)) (nI (rl)) hA) (cwV 2 hts (gWV gm_6_23 gm_7_0 gm_7_1 gm_2_1 gm_7_2) rfl rfl rfl (by decide +kernel) ⟨Nat.le_of_ble_eq_true rfl, Nat.le_of_ble_eq_true rfl⟩) (gPreV hK (g_rf hK hP (ci := 7) (q0 := 0) rfl rfl) hP) rfl rfl hl.1 rfl (lv_room (Nat.le_of_ble_eq_true rfl)) dX5_ofNight_19 ⟨by omega, by omega⟩) hS (fun q _ h => h) (fun q h => h) (fun r H locs hw9 hz9 hk9 hS => ?_)
    obtain ⟨rfl, hP⟩ := hw9
    have hD : va_D (aS 17 B) (rwd cA B (nI (8)) (nI (rl)) (jf) (jn) (kf) (rw) (cn) (rl) (clk) (ton) (sd)) := rwdD hA
    refine g_if_eq (P := true = false) (tgt := 29) hx hb dX5_ofNight_22 (by decide) b2i_0 (fun c_2 => ?_) (fun c_2 => ?_)
    · exact absurd c_2 (by decide)
    · have c_2 : true = true := eq_true_of_ne_false c_2
      refine lv_iconst (v := nI (1)) hx hb dX5_ofNight_25 gc_1 ?_
      refine lv_goto (tgt := 30) hx hb dX5_ofNight_26 (by decide) ?_
      exact g_zretW (v := nI (1)) hx hb hr hlk rfl hS dX5_ofNight_30 (by have e9 : rfNt ton rl = some (nI (8), nI (rl)) := (by simp [rfNt, c_1, d_1, c_2]) ; rw [e9]; exact ⟨rfl, hP⟩)

set_option maxHeartbeats 1000000 in
set_option maxRecDepth 100000 in
theorem c_X5_ofCall (l : Launch) (D : va_G) (cA : Nat → ClassId) (B : Nat → Nat) (rs dt : Int32) (jf : Nat → Nat → Int32) (jn : Nat) (kf : Nat → Nat → Int32) (rw : Nat → Nat) (cn rl clk ton : Nat) (sd : Int32) (q : Nat) (hA : aInj 17 B) (hjn : jn ≤ 9) (hcn : cn ≤ 10) (hq : q < 10) (hlo : hpF kf q = true → fnd (hs (kf 2 q)) jn ≠ none) : Met l yX5_ofCall (gw yX5_ofCall cX5_ofCall 4 (some .boolean)) ({ frames := 3, cells := 0, slots := 0, locals := 67 } : Room) (gPc [.ref (B 0), .ref (B 1), .int (nI (q))] (fun H => va_P D vwCl (rwd cA B (rs) (dt) (jf) (jn) (kf) (rw) (cn) (rl) (clk) (ton) (sd)) H) D cA) (wrI (fun r H => r = b2i (rfCall kf jn cn q).isSome ∧ va_P D vwCl (rwd cA B ((rfCall kf jn cn q).getD (rs, dt)).1 ((rfCall kf jn cn q).getD (rs, dt)).2 jf jn kf rw cn rl clk ton sd) H) (aS 17 B)) 0 0 (aS 17 B) := by
  refine gOf (by decide) (Nat.le_of_ble_eq_true rfl) ?_
  intro p e s m below meth c ls hx hb hml hr hlk hown hts hnm hP hK hl
  have hl : lv_has ls 4 [(0, .ref (B 0)), (1, .ref (B 1)), (2, .int (nI (q)))] := hl
  have hD : va_D (aS 17 B) (rwd cA B (rs) (dt) (jf) (jn) (kf) (rw) (cn) (rl) (clk) (ton) (sd)) := rwdD hA
  have hS : va_S (aS 17 B) s.heap s.heap [] := va_S.rf
  refine lv_aload_n hx hb dX5_ofCall_0 rfl (lv_at hl 1 rfl) ?_
  refine g_get (v := .ref (B 7)) hx hb hts hown hK hP 1 rfl rfl gu_wsX10 1 (by decide) gm_10_15 rfl dX5_ofCall_1 ?_
  refine lv_iload_n hx hb dX5_ofCall_4 rfl (lv_at hl 2 rfl) ?_
  refine rd_calle (va_runV (As := [.int (nI (q))]) (rest := []) ⟨hx, hb, hml, hown, hts⟩ (c_X0_hasPanel l D cA (fun k => B (k + 7)) (kf) (rw) (cn) (rl) (q)  (by omega)) (cwV 1 hts (gWV gm_12_0 gm_12_1 gm_12_2 gm_3_0 gm_12_3) rfl rfl rfl (by decide +kernel) ⟨Nat.le_of_ble_eq_true rfl, Nat.le_of_ble_eq_true rfl⟩) (gPreV hK (g_rf hK hP (ci := 2) (q0 := 7) rfl rfl) (hP.sub [7, 8, 9, 10, 11, 12, 13, 14, 15, 16] rfl)) rfl rfl hl.1 rfl (lv_room (Nat.le_of_ble_eq_true rfl)) dX5_ofCall_5 ⟨by omega, by omega⟩) ?_
  refine g_if_eq (P := hpF kf (q) = false) (tgt := 37) hx hb dX5_ofCall_8 (by decide) b2i_0 (fun c_1 => ?_) (fun c_1 => ?_)
  · refine lv_aload_n hx hb dX5_ofCall_37 rfl (lv_at hl 1 rfl) ?_
    refine lv_iconst (v := nI (0)) hx hb dX5_ofCall_38 gc_0 ?_
    refine rd_calle (va_runV (As := [.int (nI (0))]) (rest := []) ⟨hx, hb, hml, hown, hts⟩ (c_X1_callableWithout l D cA (fun k => B (k + 1)) (jf) (jn) (kf) (rw) (cn) (rl) (clk) (ton) (sd) (nI (0))  hjn hcn) (cwV 1 hts (gWV gm_12_20 gm_12_21 gm_12_22 gm_1_16 gm_12_23) rfl rfl rfl (by decide +kernel) ⟨Nat.le_of_ble_eq_true rfl, Nat.le_of_ble_eq_true rfl⟩) (gPreV hK (g_rf hK hP (ci := 3) (q0 := 1) rfl rfl) (hP.sub [1, 2, 3, 4, 5, 6, 7, 8, 9, 10, 11, 12, 13, 14, 15, 16] rfl)) rfl rfl hl.1 rfl (lv_room (Nat.le_of_ble_eq_true rfl)) dX5_ofCall_39 ⟨by omega, by omega⟩) ?_
    refine lv_istore_n (lv' := [(3, .int (nI (cwF kf cn jn (nI (0))))), (0, .ref (B 0)), (1, .ref (B 1)), (2, .int (nI (q)))]) hx hb dX5_ofCall_42 rfl hl (by decide) rfl (fun ls hl => ?_)
    have hcw_2 := cwF_le kf cn jn (nI 0)
    refine lv_iload_n hx hb dX5_ofCall_43 rfl (lv_at hl 0 rfl) ?_
    refine lv_iconst (v := nI (3)) hx hb dX5_ofCall_44 gc_3 ?_
    refine g_icmp_ge (P := 3 ≤ cwF kf cn jn (nI (0))) (tgt := 61) hx hb dX5_ofCall_45 (by decide) (nI_leI (by omega) (by omega)) (fun c_3 => ?_) (fun c_3 => ?_)
    · have d_3 : ¬ cwF kf cn jn (nI (0)) < 3 := Nat.not_lt.mpr c_3
      refine lv_iconst (v := nI (0)) hx hb dX5_ofCall_61 gc_0 ?_
      exact g_zretW (v := nI (0)) hx hb hr hlk rfl hS dX5_ofCall_62 (by have e9 : rfCall kf jn cn q = none := (by simp [rfCall, c_1, c_3, d_3]) ; rw [e9]; exact ⟨rfl, hP⟩)
    · have d_3 : cwF kf cn jn (nI (0)) < 3 := Nat.not_le.mp c_3
      refine lv_aload_n hx hb dX5_ofCall_48 rfl (lv_at hl 1 rfl) ?_
      refine lv_iconst (v := nI (3)) hx hb dX5_ofCall_49 gc_3 ?_
      refine lv_iload_n hx hb dX5_ofCall_50 rfl (lv_at hl 0 rfl) ?_
      refine wr_calli (va_runV (As := [.int (nI (3)), .int (nI (cwF kf cn jn (nI (0))))]) (rest := []) ⟨hx, hb, hml, hown, hts⟩ (c_X5_isFor l D cA B (rs) (dt) (jf) (jn) (kf) (rw) (cn) (rl) (clk) (ton) (sd) (nI (3)) (nI (cwF kf cn jn (nI (0)))) hA) (cwV 2 hts (gWV gm_6_23 gm_7_0 gm_7_1 gm_2_1 gm_7_2) rfl rfl rfl (by decide +kernel) ⟨Nat.le_of_ble_eq_true rfl, Nat.le_of_ble_eq_true rfl⟩) (gPreV hK (g_rf hK hP (ci := 7) (q0 := 0) rfl rfl) hP) rfl rfl hl.1 rfl (lv_room (Nat.le_of_ble_eq_true rfl)) dX5_ofCall_51 ⟨by omega, by omega⟩) hS (fun q _ h => h) (fun q h => h) (fun r H locs hw9 hz9 hk9 hS => ?_)
      obtain ⟨rfl, hP⟩ := hw9
      have hD : va_D (aS 17 B) (rwd cA B (nI (3)) (nI (cwF kf cn jn (nI (0)))) (jf) (jn) (kf) (rw) (cn) (rl) (clk) (ton) (sd)) := rwdD hA
      refine g_if_eq (P := true = false) (tgt := 61) hx hb dX5_ofCall_54 (by decide) b2i_0 (fun c_4 => ?_) (fun c_4 => ?_)
      · exact absurd c_4 (by decide)
      · have c_4 : true = true := eq_true_of_ne_false c_4
        refine lv_iconst (v := nI (1)) hx hb dX5_ofCall_57 gc_1 ?_
        refine lv_goto (tgt := 62) hx hb dX5_ofCall_58 (by decide) ?_
        exact g_zretW (v := nI (1)) hx hb hr hlk rfl hS dX5_ofCall_62 (by have e9 : rfCall kf jn cn q = some (nI (3), nI (cwF kf cn jn (nI (0)))) := (by simp [rfCall, c_1, c_3, d_3, c_4]) ; rw [e9]; exact ⟨rfl, hP⟩)
  · have c_1 : hpF kf (q) = true := eq_true_of_ne_false c_1
    refine lv_aload_n hx hb dX5_ofCall_11 rfl (lv_at hl 0 rfl) ?_
    refine lv_iconst (v := nI (2)) hx hb dX5_ofCall_12 gc_2 ?_
    refine lv_aload_n hx hb dX5_ofCall_13 rfl (lv_at hl 1 rfl) ?_
    refine lv_aload_n hx hb dX5_ofCall_14 rfl (lv_at hl 1 rfl) ?_
    refine g_get (v := .ref (B 2)) hx hb hts hown hK hP 1 rfl rfl gu_wsX10 0 (by decide) gm_6_21 rfl dX5_ofCall_15 ?_
    refine lv_aload_n hx hb dX5_ofCall_18 rfl (lv_at hl 1 rfl) ?_
    refine g_get (v := .ref (B 7)) hx hb hts hown hK hP 1 rfl rfl gu_wsX10 1 (by decide) gm_10_15 rfl dX5_ofCall_19 ?_
    refine g_get (v := .ref (B 10)) hx hb hts hown hK hP 7 rfl rfl gu_wsX00 2 (by decide) gm_11_23 rfl dX5_ofCall_22 ?_
    refine lv_iload_n hx hb dX5_ofCall_25 rfl (lv_at hl 2 rfl) ?_
    refine g_iald (x := kf 2 (q)) hx hb hK hP 10 rfl (by omega) (by decide) rfl dX5_ofCall_26 ?_
    refine rd_calle (va_runV (As := [.int (kf 2 (q))]) (rest := [.ref (B 1), .int (nI (2)), .ref (B 0)]) ⟨hx, hb, hml, hown, hts⟩ (c_X3_lowestOf l D cA (fun k => B (k + 2)) (jf) (jn) (kf 2 (q))  hjn) (cwV 1 hts (gWV gm_12_4 gm_12_5 gm_12_6 gm_2_5 gm_12_7) rfl rfl rfl (by decide +kernel) ⟨Nat.le_of_ble_eq_true rfl, Nat.le_of_ble_eq_true rfl⟩) (gPreV hK (g_rf hK hP (ci := 5) (q0 := 2) rfl rfl) (hP.sub [2, 3, 4, 5, 6] rfl)) rfl rfl hl.1 rfl (lv_room (Nat.le_of_ble_eq_true rfl)) dX5_ofCall_27 ⟨by omega, by omega⟩) ?_
    obtain ⟨j9, hj9⟩ := Option.ne_none_iff_exists'.mp (hlo c_1)
    have hj8 : j9 < jn := fnd_lt hj9
    refine g_top (z := nI j9) (by rw [hj9]; rfl) ?_
    refine rd_calle (va_runV (As := [.int (nI (j9))]) (rest := [.int (nI (2)), .ref (B 0)]) ⟨hx, hb, hml, hown, hts⟩ (c_X1_loadOf l D cA (fun k => B (k + 1)) (jf) (jn) (kf) (rw) (cn) (rl) (clk) (ton) (sd) (j9)  hcn) (cwV 1 hts (gWV gm_12_10 gm_12_11 gm_12_12 gm_1_16 gm_12_13) rfl rfl rfl (by decide +kernel) ⟨Nat.le_of_ble_eq_true rfl, Nat.le_of_ble_eq_true rfl⟩) (gPreV hK (g_rf hK hP (ci := 3) (q0 := 1) rfl rfl) (hP.sub [1, 2, 3, 4, 5, 6, 7, 8, 9, 10, 11, 12, 13, 14, 15, 16] rfl)) rfl rfl hl.1 rfl (lv_room (Nat.le_of_ble_eq_true rfl)) dX5_ofCall_30 ⟨by omega, by omega⟩) ?_
    refine wr_calli (va_runV (As := [.int (nI (2)), .int (nI (ldF kf cn (j9)))]) (rest := []) ⟨hx, hb, hml, hown, hts⟩ (c_X5_isFor l D cA B (rs) (dt) (jf) (jn) (kf) (rw) (cn) (rl) (clk) (ton) (sd) (nI (2)) (nI (ldF kf cn (j9))) hA) (cwV 2 hts (gWV gm_6_23 gm_7_0 gm_7_1 gm_2_1 gm_7_2) rfl rfl rfl (by decide +kernel) ⟨Nat.le_of_ble_eq_true rfl, Nat.le_of_ble_eq_true rfl⟩) (gPreV hK (g_rf hK hP (ci := 7) (q0 := 0) rfl rfl) hP) rfl rfl hl.1 rfl (lv_room (Nat.le_of_ble_eq_true rfl)) dX5_ofCall_33 ⟨by omega, by omega⟩) hS (fun q _ h => h) (fun q h => h) (fun r H locs hw9 hz9 hk9 hS => ?_)
    obtain ⟨rfl, hP⟩ := hw9
    have hD : va_D (aS 17 B) (rwd cA B (nI (2)) (nI (ldF kf cn (j9))) (jf) (jn) (kf) (rw) (cn) (rl) (clk) (ton) (sd)) := rwdD hA
    exact g_zretW (v := b2i (true)) hx hb hr hlk b2i_n hS dX5_ofCall_36 (by have e9 : rfCall kf jn cn q = some (nI (2), nI (ldF kf cn (j9))) := (by simp [rfCall, c_1, hj9]) ; rw [e9]; exact ⟨rfl, hP⟩)

set_option maxHeartbeats 1000000 in
set_option maxRecDepth 100000 in
theorem c_X5_ofVote (l : Launch) (D : va_G) (cA : Nat → ClassId) (B : Nat → Nat) (rs dt : Int32) (jf : Nat → Nat → Int32) (jn : Nat) (kf : Nat → Nat → Int32) (rw : Nat → Nat) (cn rl clk ton : Nat) (sd : Int32) (q : Nat) (hA : aInj 17 B) (hq : q < 10) : Met l yX5_ofVote (gw yX5_ofVote cX5_ofVote 3 (some .boolean)) ({ frames := 1, cells := 0, slots := 0, locals := 22 } : Room) (gPc [.ref (B 0), .ref (B 1), .int (nI (q))] (fun H => va_P D vwCl (rwd cA B (rs) (dt) (jf) (jn) (kf) (rw) (cn) (rl) (clk) (ton) (sd)) H) D cA) (wrI (fun r H => r = b2i (rfVote kf q).isSome ∧ va_P D vwCl (rwd cA B ((rfVote kf q).getD (rs, dt)).1 ((rfVote kf q).getD (rs, dt)).2 jf jn kf rw cn rl clk ton sd) H) (aS 17 B)) 0 0 (aS 17 B) := by
  refine gOf (by decide) (Nat.le_of_ble_eq_true rfl) ?_
  intro p e s m below meth c ls hx hb hml hr hlk hown hts hnm hP hK hl
  have hl : lv_has ls 3 [(0, .ref (B 0)), (1, .ref (B 1)), (2, .int (nI (q)))] := hl
  have hD : va_D (aS 17 B) (rwd cA B (rs) (dt) (jf) (jn) (kf) (rw) (cn) (rl) (clk) (ton) (sd)) := rwdD hA
  have hS : va_S (aS 17 B) s.heap s.heap [] := va_S.rf
  refine lv_aload_n hx hb dX5_ofVote_0 rfl (lv_at hl 1 rfl) ?_
  refine g_get (v := .ref (B 7)) hx hb hts hown hK hP 1 rfl rfl gu_wsX10 1 (by decide) gm_10_15 rfl dX5_ofVote_1 ?_
  refine lv_iload_n hx hb dX5_ofVote_4 rfl (lv_at hl 2 rfl) ?_
  refine rd_calle (va_runV (As := [.int (nI (q))]) (rest := []) ⟨hx, hb, hml, hown, hts⟩ (c_X0_hasPanel l D cA (fun k => B (k + 7)) (kf) (rw) (cn) (rl) (q)  (by omega)) (cwV 1 hts (gWV gm_12_0 gm_12_1 gm_12_2 gm_3_0 gm_12_3) rfl rfl rfl (by decide +kernel) ⟨Nat.le_of_ble_eq_true rfl, Nat.le_of_ble_eq_true rfl⟩) (gPreV hK (g_rf hK hP (ci := 2) (q0 := 7) rfl rfl) (hP.sub [7, 8, 9, 10, 11, 12, 13, 14, 15, 16] rfl)) rfl rfl hl.1 rfl (lv_room (Nat.le_of_ble_eq_true rfl)) dX5_ofVote_5 ⟨by omega, by omega⟩) ?_
  refine g_if_ne (P := hpF kf (q) = false) (tgt := 26) hx hb dX5_ofVote_8 (by decide) b2i_0 (fun c_1 => ?_) (fun c_1 => ?_)
  · have c_1 : hpF kf (q) = true := eq_true_of_ne_false c_1
    refine lv_aload_n hx hb dX5_ofVote_26 rfl (lv_at hl 1 rfl) ?_
    refine g_get (v := .ref (B 7)) hx hb hts hown hK hP 1 rfl rfl gu_wsX10 1 (by decide) gm_10_15 rfl dX5_ofVote_27 ?_
    refine lv_iload_n hx hb dX5_ofVote_30 rfl (lv_at hl 2 rfl) ?_
    refine rd_calle (va_runV (As := [.int (nI (q))]) (rest := []) ⟨hx, hb, hml, hown, hts⟩ (c_X0_isClosed l D cA (fun k => B (k + 7)) (kf) (rw) (cn) (rl) (q)  (by omega)) (cwV 1 hts (gWV gm_16_3 gm_12_17 gm_12_18 gm_3_0 gm_12_19) rfl rfl rfl (by decide +kernel) ⟨Nat.le_of_ble_eq_true rfl, Nat.le_of_ble_eq_true rfl⟩) (gPreV hK (g_rf hK hP (ci := 2) (q0 := 7) rfl rfl) (hP.sub [7, 8, 9, 10, 11, 12, 13, 14, 15, 16] rfl)) rfl rfl hl.1 rfl (lv_room (Nat.le_of_ble_eq_true rfl)) dX5_ofVote_31 ⟨by omega, by omega⟩) ?_
    refine g_if_eq (P := clF kf (q) = false) (tgt := 53) hx hb dX5_ofVote_34 (by decide) b2i_0 (fun c_2 => ?_) (fun c_2 => ?_)
    · refine lv_aload_n hx hb dX5_ofVote_53 rfl (lv_at hl 1 rfl) ?_
      refine g_get (v := .ref (B 7)) hx hb hts hown hK hP 1 rfl rfl gu_wsX10 1 (by decide) gm_10_15 rfl dX5_ofVote_54 ?_
      refine lv_iload_n hx hb dX5_ofVote_57 rfl (lv_at hl 2 rfl) ?_
      refine rd_calle (va_runV (As := [.int (nI (q))]) (rest := []) ⟨hx, hb, hml, hown, hts⟩ (c_X0_hasVerdict l D cA (fun k => B (k + 7)) (kf) (rw) (cn) (rl) (q)  (by omega)) (cwV 1 hts (gWV gm_16_4 gm_16_5 gm_16_6 gm_3_0 gm_16_7) rfl rfl rfl (by decide +kernel) ⟨Nat.le_of_ble_eq_true rfl, Nat.le_of_ble_eq_true rfl⟩) (gPreV hK (g_rf hK hP (ci := 2) (q0 := 7) rfl rfl) (hP.sub [7, 8, 9, 10, 11, 12, 13, 14, 15, 16] rfl)) rfl rfl hl.1 rfl (lv_room (Nat.le_of_ble_eq_true rfl)) dX5_ofVote_58 ⟨by omega, by omega⟩) ?_
      refine g_if_eq (P := hvF kf (q) = false) (tgt := 85) hx hb dX5_ofVote_61 (by decide) b2i_0 (fun c_3 => ?_) (fun c_3 => ?_)
      · refine lv_iconst (v := nI (0)) hx hb dX5_ofVote_85 gc_0 ?_
        exact g_zretW (v := nI (0)) hx hb hr hlk rfl hS dX5_ofVote_86 (by have e9 : rfVote kf q = none := (by simp [rfVote, c_1, c_2, c_3]) ; rw [e9]; exact ⟨rfl, hP⟩)
      · have c_3 : hvF kf (q) = true := eq_true_of_ne_false c_3
        refine lv_aload_n hx hb dX5_ofVote_64 rfl (lv_at hl 0 rfl) ?_
        refine lv_iconst (v := nI (2)) hx hb dX5_ofVote_65 gc_2 ?_
        refine lv_aload_n hx hb dX5_ofVote_66 rfl (lv_at hl 1 rfl) ?_
        refine g_get (v := .ref (B 7)) hx hb hts hown hK hP 1 rfl rfl gu_wsX10 1 (by decide) gm_10_15 rfl dX5_ofVote_67 ?_
        refine g_get (v := .ref (B 11)) hx hb hts hown hK hP 7 rfl rfl gu_wsX00 3 (by decide) gm_16_2 rfl dX5_ofVote_70 ?_
        refine lv_iload_n hx hb dX5_ofVote_73 rfl (lv_at hl 2 rfl) ?_
        refine g_iald (x := kf 3 (q)) hx hb hK hP 11 rfl (by omega) (by decide) rfl dX5_ofVote_74 ?_
        refine wr_calli (va_runV (As := [.int (nI (2)), .int (kf 3 (q))]) (rest := []) ⟨hx, hb, hml, hown, hts⟩ (c_X5_isFor l D cA B (rs) (dt) (jf) (jn) (kf) (rw) (cn) (rl) (clk) (ton) (sd) (nI (2)) (kf 3 (q)) hA) (cwV 2 hts (gWV gm_6_23 gm_7_0 gm_7_1 gm_2_1 gm_7_2) rfl rfl rfl (by decide +kernel) ⟨Nat.le_of_ble_eq_true rfl, Nat.le_of_ble_eq_true rfl⟩) (gPreV hK (g_rf hK hP (ci := 7) (q0 := 0) rfl rfl) hP) rfl rfl hl.1 rfl (lv_room (Nat.le_of_ble_eq_true rfl)) dX5_ofVote_75 ⟨by omega, by omega⟩) hS (fun q _ h => h) (fun q h => h) (fun r H locs hw9 hz9 hk9 hS => ?_)
        obtain ⟨rfl, hP⟩ := hw9
        have hD : va_D (aS 17 B) (rwd cA B (nI (2)) (kf 3 (q)) (jf) (jn) (kf) (rw) (cn) (rl) (clk) (ton) (sd)) := rwdD hA
        refine g_if_eq (P := true = false) (tgt := 85) hx hb dX5_ofVote_78 (by decide) b2i_0 (fun c_4 => ?_) (fun c_4 => ?_)
        · exact absurd c_4 (by decide)
        · have c_4 : true = true := eq_true_of_ne_false c_4
          refine lv_iconst (v := nI (1)) hx hb dX5_ofVote_81 gc_1 ?_
          refine lv_goto (tgt := 86) hx hb dX5_ofVote_82 (by decide) ?_
          exact g_zretW (v := nI (1)) hx hb hr hlk rfl hS dX5_ofVote_86 (by have e9 : rfVote kf q = some (nI (2), kf 3 (q)) := (by simp [rfVote, c_1, c_2, c_3, c_4]) ; rw [e9]; exact ⟨rfl, hP⟩)
    · have c_2 : clF kf (q) = true := eq_true_of_ne_false c_2
      refine lv_aload_n hx hb dX5_ofVote_37 rfl (lv_at hl 0 rfl) ?_
      refine lv_bipush (v := nI (6)) hx hb dX5_ofVote_38 gb_6 ?_
      refine lv_aload_n hx hb dX5_ofVote_40 rfl (lv_at hl 1 rfl) ?_
      refine g_get (v := .ref (B 7)) hx hb hts hown hK hP 1 rfl rfl gu_wsX10 1 (by decide) gm_10_15 rfl dX5_ofVote_41 ?_
      refine g_get (v := .ref (B 13)) hx hb hts hown hK hP 7 rfl rfl gu_wsX00 5 (by decide) gm_16_1 rfl dX5_ofVote_44 ?_
      refine lv_iload_n hx hb dX5_ofVote_47 rfl (lv_at hl 2 rfl) ?_
      refine g_iald (x := kf 5 (q)) hx hb hK hP 13 rfl (by omega) (by decide) rfl dX5_ofVote_48 ?_
      refine wr_calli (va_runV (As := [.int (nI (6)), .int (kf 5 (q))]) (rest := []) ⟨hx, hb, hml, hown, hts⟩ (c_X5_isFor l D cA B (rs) (dt) (jf) (jn) (kf) (rw) (cn) (rl) (clk) (ton) (sd) (nI (6)) (kf 5 (q)) hA) (cwV 2 hts (gWV gm_6_23 gm_7_0 gm_7_1 gm_2_1 gm_7_2) rfl rfl rfl (by decide +kernel) ⟨Nat.le_of_ble_eq_true rfl, Nat.le_of_ble_eq_true rfl⟩) (gPreV hK (g_rf hK hP (ci := 7) (q0 := 0) rfl rfl) hP) rfl rfl hl.1 rfl (lv_room (Nat.le_of_ble_eq_true rfl)) dX5_ofVote_49 ⟨by omega, by omega⟩) hS (fun q _ h => h) (fun q h => h) (fun r H locs hw9 hz9 hk9 hS => ?_)
      obtain ⟨rfl, hP⟩ := hw9
      have hD : va_D (aS 17 B) (rwd cA B (nI (6)) (kf 5 (q)) (jf) (jn) (kf) (rw) (cn) (rl) (clk) (ton) (sd)) := rwdD hA
      exact g_zretW (v := b2i (true)) hx hb hr hlk b2i_n hS dX5_ofVote_52 (by have e9 : rfVote kf q = some (nI (6), kf 5 (q)) := (by simp [rfVote, c_1, c_2]) ; rw [e9]; exact ⟨rfl, hP⟩)
  · refine lv_aload_n hx hb dX5_ofVote_11 rfl (lv_at hl 0 rfl) ?_
    refine lv_iconst (v := nI (4)) hx hb dX5_ofVote_12 gc_4 ?_
    refine lv_aload_n hx hb dX5_ofVote_13 rfl (lv_at hl 1 rfl) ?_
    refine g_get (v := .ref (B 7)) hx hb hts hown hK hP 1 rfl rfl gu_wsX10 1 (by decide) gm_10_15 rfl dX5_ofVote_14 ?_
    refine g_get (v := .ref (B 9)) hx hb hts hown hK hP 7 rfl rfl gu_wsX00 1 (by decide) gm_16_0 rfl dX5_ofVote_17 ?_
    refine lv_iload_n hx hb dX5_ofVote_20 rfl (lv_at hl 2 rfl) ?_
    refine g_iald (x := kf 1 (q)) hx hb hK hP 9 rfl (by omega) (by decide) rfl dX5_ofVote_21 ?_
    refine wr_calli (va_runV (As := [.int (nI (4)), .int (kf 1 (q))]) (rest := []) ⟨hx, hb, hml, hown, hts⟩ (c_X5_isFor l D cA B (rs) (dt) (jf) (jn) (kf) (rw) (cn) (rl) (clk) (ton) (sd) (nI (4)) (kf 1 (q)) hA) (cwV 2 hts (gWV gm_6_23 gm_7_0 gm_7_1 gm_2_1 gm_7_2) rfl rfl rfl (by decide +kernel) ⟨Nat.le_of_ble_eq_true rfl, Nat.le_of_ble_eq_true rfl⟩) (gPreV hK (g_rf hK hP (ci := 7) (q0 := 0) rfl rfl) hP) rfl rfl hl.1 rfl (lv_room (Nat.le_of_ble_eq_true rfl)) dX5_ofVote_22 ⟨by omega, by omega⟩) hS (fun q _ h => h) (fun q h => h) (fun r H locs hw9 hz9 hk9 hS => ?_)
    obtain ⟨rfl, hP⟩ := hw9
    have hD : va_D (aS 17 B) (rwd cA B (nI (4)) (kf 1 (q)) (jf) (jn) (kf) (rw) (cn) (rl) (clk) (ton) (sd)) := rwdD hA
    exact g_zretW (v := b2i (true)) hx hb hr hlk b2i_n hS dX5_ofVote_25 (by have e9 : rfVote kf q = some (nI (4), kf 1 (q)) := (by simp [rfVote, c_1]) ; rw [e9]; exact ⟨rfl, hP⟩)

set_option maxHeartbeats 1000000 in
set_option maxRecDepth 100000 in
theorem c_X5_ofUnsay (l : Launch) (D : va_G) (cA : Nat → ClassId) (B : Nat → Nat) (rs dt : Int32) (jf : Nat → Nat → Int32) (jn : Nat) (kf : Nat → Nat → Int32) (rw : Nat → Nat) (cn rl clk ton : Nat) (sd : Int32) (q : Nat) (hA : aInj 17 B) (hq : q < 10) : Met l yX5_ofUnsay (gw yX5_ofUnsay cX5_ofUnsay 3 (some .boolean)) ({ frames := 1, cells := 0, slots := 0, locals := 22 } : Room) (gPc [.ref (B 0), .ref (B 1), .int (nI (q))] (fun H => va_P D vwCl (rwd cA B (rs) (dt) (jf) (jn) (kf) (rw) (cn) (rl) (clk) (ton) (sd)) H) D cA) (wrI (fun r H => r = b2i (rfUns kf q).isSome ∧ va_P D vwCl (rwd cA B ((rfUns kf q).getD (rs, dt)).1 ((rfUns kf q).getD (rs, dt)).2 jf jn kf rw cn rl clk ton sd) H) (aS 17 B)) 0 0 (aS 17 B) := by
  refine gOf (by decide) (Nat.le_of_ble_eq_true rfl) ?_
  intro p e s m below meth c ls hx hb hml hr hlk hown hts hnm hP hK hl
  have hl : lv_has ls 3 [(0, .ref (B 0)), (1, .ref (B 1)), (2, .int (nI (q)))] := hl
  have hD : va_D (aS 17 B) (rwd cA B (rs) (dt) (jf) (jn) (kf) (rw) (cn) (rl) (clk) (ton) (sd)) := rwdD hA
  have hS : va_S (aS 17 B) s.heap s.heap [] := va_S.rf
  refine lv_aload_n hx hb dX5_ofUnsay_0 rfl (lv_at hl 1 rfl) ?_
  refine g_get (v := .ref (B 7)) hx hb hts hown hK hP 1 rfl rfl gu_wsX10 1 (by decide) gm_10_15 rfl dX5_ofUnsay_1 ?_
  refine lv_iload_n hx hb dX5_ofUnsay_4 rfl (lv_at hl 2 rfl) ?_
  refine rd_calle (va_runV (As := [.int (nI (q))]) (rest := []) ⟨hx, hb, hml, hown, hts⟩ (c_X0_hasVerdict l D cA (fun k => B (k + 7)) (kf) (rw) (cn) (rl) (q)  (by omega)) (cwV 1 hts (gWV gm_16_4 gm_16_5 gm_16_6 gm_3_0 gm_16_7) rfl rfl rfl (by decide +kernel) ⟨Nat.le_of_ble_eq_true rfl, Nat.le_of_ble_eq_true rfl⟩) (gPreV hK (g_rf hK hP (ci := 2) (q0 := 7) rfl rfl) (hP.sub [7, 8, 9, 10, 11, 12, 13, 14, 15, 16] rfl)) rfl rfl hl.1 rfl (lv_room (Nat.le_of_ble_eq_true rfl)) dX5_ofUnsay_5 ⟨by omega, by omega⟩) ?_
  refine g_if_ne (P := hvF kf (q) = false) (tgt := 26) hx hb dX5_ofUnsay_8 (by decide) b2i_0 (fun c_1 => ?_) (fun c_1 => ?_)
  · have c_1 : hvF kf (q) = true := eq_true_of_ne_false c_1
    refine lv_aload_n hx hb dX5_ofUnsay_26 rfl (lv_at hl 1 rfl) ?_
    refine g_get (v := .ref (B 7)) hx hb hts hown hK hP 1 rfl rfl gu_wsX10 1 (by decide) gm_10_15 rfl dX5_ofUnsay_27 ?_
    refine lv_iload_n hx hb dX5_ofUnsay_30 rfl (lv_at hl 2 rfl) ?_
    refine rd_calle (va_runV (As := [.int (nI (q))]) (rest := []) ⟨hx, hb, hml, hown, hts⟩ (c_X0_isClosed l D cA (fun k => B (k + 7)) (kf) (rw) (cn) (rl) (q)  (by omega)) (cwV 1 hts (gWV gm_16_3 gm_12_17 gm_12_18 gm_3_0 gm_12_19) rfl rfl rfl (by decide +kernel) ⟨Nat.le_of_ble_eq_true rfl, Nat.le_of_ble_eq_true rfl⟩) (gPreV hK (g_rf hK hP (ci := 2) (q0 := 7) rfl rfl) (hP.sub [7, 8, 9, 10, 11, 12, 13, 14, 15, 16] rfl)) rfl rfl hl.1 rfl (lv_room (Nat.le_of_ble_eq_true rfl)) dX5_ofUnsay_31 ⟨by omega, by omega⟩) ?_
    refine g_if_eq (P := clF kf (q) = false) (tgt := 59) hx hb dX5_ofUnsay_34 (by decide) b2i_0 (fun c_2 => ?_) (fun c_2 => ?_)
    · refine lv_iconst (v := nI (0)) hx hb dX5_ofUnsay_59 gc_0 ?_
      exact g_zretW (v := nI (0)) hx hb hr hlk rfl hS dX5_ofUnsay_60 (by have e9 : rfUns kf q = none := (by simp [rfUns, c_1, c_2]) ; rw [e9]; exact ⟨rfl, hP⟩)
    · have c_2 : clF kf (q) = true := eq_true_of_ne_false c_2
      refine lv_aload_n hx hb dX5_ofUnsay_37 rfl (lv_at hl 0 rfl) ?_
      refine lv_bipush (v := nI (6)) hx hb dX5_ofUnsay_38 gb_6 ?_
      refine lv_aload_n hx hb dX5_ofUnsay_40 rfl (lv_at hl 1 rfl) ?_
      refine g_get (v := .ref (B 7)) hx hb hts hown hK hP 1 rfl rfl gu_wsX10 1 (by decide) gm_10_15 rfl dX5_ofUnsay_41 ?_
      refine g_get (v := .ref (B 13)) hx hb hts hown hK hP 7 rfl rfl gu_wsX00 5 (by decide) gm_16_1 rfl dX5_ofUnsay_44 ?_
      refine lv_iload_n hx hb dX5_ofUnsay_47 rfl (lv_at hl 2 rfl) ?_
      refine g_iald (x := kf 5 (q)) hx hb hK hP 13 rfl (by omega) (by decide) rfl dX5_ofUnsay_48 ?_
      refine wr_calli (va_runV (As := [.int (nI (6)), .int (kf 5 (q))]) (rest := []) ⟨hx, hb, hml, hown, hts⟩ (c_X5_isFor l D cA B (rs) (dt) (jf) (jn) (kf) (rw) (cn) (rl) (clk) (ton) (sd) (nI (6)) (kf 5 (q)) hA) (cwV 2 hts (gWV gm_6_23 gm_7_0 gm_7_1 gm_2_1 gm_7_2) rfl rfl rfl (by decide +kernel) ⟨Nat.le_of_ble_eq_true rfl, Nat.le_of_ble_eq_true rfl⟩) (gPreV hK (g_rf hK hP (ci := 7) (q0 := 0) rfl rfl) hP) rfl rfl hl.1 rfl (lv_room (Nat.le_of_ble_eq_true rfl)) dX5_ofUnsay_49 ⟨by omega, by omega⟩) hS (fun q _ h => h) (fun q h => h) (fun r H locs hw9 hz9 hk9 hS => ?_)
      obtain ⟨rfl, hP⟩ := hw9
      have hD : va_D (aS 17 B) (rwd cA B (nI (6)) (kf 5 (q)) (jf) (jn) (kf) (rw) (cn) (rl) (clk) (ton) (sd)) := rwdD hA
      refine g_if_eq (P := true = false) (tgt := 59) hx hb dX5_ofUnsay_52 (by decide) b2i_0 (fun c_3 => ?_) (fun c_3 => ?_)
      · exact absurd c_3 (by decide)
      · have c_3 : true = true := eq_true_of_ne_false c_3
        refine lv_iconst (v := nI (1)) hx hb dX5_ofUnsay_55 gc_1 ?_
        refine lv_goto (tgt := 60) hx hb dX5_ofUnsay_56 (by decide) ?_
        exact g_zretW (v := nI (1)) hx hb hr hlk rfl hS dX5_ofUnsay_60 (by have e9 : rfUns kf q = some (nI (6), kf 5 (q)) := (by simp [rfUns, c_1, c_2, c_3]) ; rw [e9]; exact ⟨rfl, hP⟩)
  · refine lv_aload_n hx hb dX5_ofUnsay_11 rfl (lv_at hl 0 rfl) ?_
    refine lv_iconst (v := nI (5)) hx hb dX5_ofUnsay_12 gc_5 ?_
    refine lv_aload_n hx hb dX5_ofUnsay_13 rfl (lv_at hl 1 rfl) ?_
    refine g_get (v := .ref (B 7)) hx hb hts hown hK hP 1 rfl rfl gu_wsX10 1 (by decide) gm_10_15 rfl dX5_ofUnsay_14 ?_
    refine g_get (v := .ref (B 14)) hx hb hts hown hK hP 7 rfl rfl gu_wsX00 6 (by decide) gm_19_9 rfl dX5_ofUnsay_17 ?_
    refine lv_iload_n hx hb dX5_ofUnsay_20 rfl (lv_at hl 2 rfl) ?_
    refine g_iald (x := kf 6 (q)) hx hb hK hP 14 rfl (by omega) (by decide) rfl dX5_ofUnsay_21 ?_
    refine wr_calli (va_runV (As := [.int (nI (5)), .int (kf 6 (q))]) (rest := []) ⟨hx, hb, hml, hown, hts⟩ (c_X5_isFor l D cA B (rs) (dt) (jf) (jn) (kf) (rw) (cn) (rl) (clk) (ton) (sd) (nI (5)) (kf 6 (q)) hA) (cwV 2 hts (gWV gm_6_23 gm_7_0 gm_7_1 gm_2_1 gm_7_2) rfl rfl rfl (by decide +kernel) ⟨Nat.le_of_ble_eq_true rfl, Nat.le_of_ble_eq_true rfl⟩) (gPreV hK (g_rf hK hP (ci := 7) (q0 := 0) rfl rfl) hP) rfl rfl hl.1 rfl (lv_room (Nat.le_of_ble_eq_true rfl)) dX5_ofUnsay_22 ⟨by omega, by omega⟩) hS (fun q _ h => h) (fun q h => h) (fun r H locs hw9 hz9 hk9 hS => ?_)
    obtain ⟨rfl, hP⟩ := hw9
    have hD : va_D (aS 17 B) (rwd cA B (nI (5)) (kf 6 (q)) (jf) (jn) (kf) (rw) (cn) (rl) (clk) (ton) (sd)) := rwdD hA
    exact g_zretW (v := b2i (true)) hx hb hr hlk b2i_n hS dX5_ofUnsay_25 (by have e9 : rfUns kf q = some (nI (5), kf 6 (q)) := (by simp [rfUns, c_1]) ; rw [e9]; exact ⟨rfl, hP⟩)

set_option maxHeartbeats 1000000 in
set_option maxRecDepth 100000 in
theorem c_X5_ofAppeal (l : Launch) (D : va_G) (cA : Nat → ClassId) (B : Nat → Nat) (rs dt : Int32) (jf : Nat → Nat → Int32) (jn : Nat) (kf : Nat → Nat → Int32) (rw : Nat → Nat) (cn rl clk ton : Nat) (sd : Int32) (q : Nat) (hA : aInj 17 B) (hjn : jn ≤ 9) (hcn : cn ≤ 10) (hq : q < 10) : Met l yX5_ofAppeal (gw yX5_ofAppeal cX5_ofAppeal 4 (some .boolean)) ({ frames := 3, cells := 0, slots := 0, locals := 67 } : Room) (gPc [.ref (B 0), .ref (B 1), .int (nI (q))] (fun H => va_P D vwCl (rwd cA B (rs) (dt) (jf) (jn) (kf) (rw) (cn) (rl) (clk) (ton) (sd)) H) D cA) (wrI (fun r H => r = b2i (rfApp kf jn cn q).isSome ∧ va_P D vwCl (rwd cA B ((rfApp kf jn cn q).getD (rs, dt)).1 ((rfApp kf jn cn q).getD (rs, dt)).2 jf jn kf rw cn rl clk ton sd) H) (aS 17 B)) 0 0 (aS 17 B) := by
  refine gOf (by decide) (Nat.le_of_ble_eq_true rfl) ?_
  intro p e s m below meth c ls hx hb hml hr hlk hown hts hnm hP hK hl
  have hl : lv_has ls 4 [(0, .ref (B 0)), (1, .ref (B 1)), (2, .int (nI (q)))] := hl
  have hD : va_D (aS 17 B) (rwd cA B (rs) (dt) (jf) (jn) (kf) (rw) (cn) (rl) (clk) (ton) (sd)) := rwdD hA
  have hS : va_S (aS 17 B) s.heap s.heap [] := va_S.rf
  refine lv_aload_n hx hb dX5_ofAppeal_0 rfl (lv_at hl 0 rfl) ?_
  refine lv_aload_n hx hb dX5_ofAppeal_1 rfl (lv_at hl 1 rfl) ?_
  refine lv_iload_n hx hb dX5_ofAppeal_2 rfl (lv_at hl 2 rfl) ?_
  refine wr_calli (va_runV (As := [.ref (B 1), .int (nI (q))]) (rest := []) ⟨hx, hb, hml, hown, hts⟩ (c_X5_ofUnsay l D cA B (rs) (dt) (jf) (jn) (kf) (rw) (cn) (rl) (clk) (ton) (sd) (q) hA (by omega)) (cwV 2 hts (gWV gm_20_15 gm_19_6 gm_19_7 gm_2_1 gm_19_8) rfl rfl rfl (by decide +kernel) ⟨Nat.le_of_ble_eq_true rfl, Nat.le_of_ble_eq_true rfl⟩) (gPreV hK (g_rf hK hP (ci := 7) (q0 := 0) rfl rfl) hP) rfl rfl hl.1 rfl (lv_room (Nat.le_of_ble_eq_true rfl)) dX5_ofAppeal_3 ⟨by omega, by omega⟩) hS (fun q _ h => h) (fun q h => h) (fun r H locs hw9 hz9 hk9 hS => ?_)
  obtain ⟨rfl, hP⟩ := hw9
  have hP : va_P D vwCl (rwd cA B (((rfUns kf (q)).getD (rs, dt)).1) (((rfUns kf (q)).getD (rs, dt)).2) (jf) (jn) (kf) (rw) (cn) (rl) (clk) (ton) (sd)) H := hP
  have hD : va_D (aS 17 B) (rwd cA B (((rfUns kf (q)).getD (rs, dt)).1) (((rfUns kf (q)).getD (rs, dt)).2) (jf) (jn) (kf) (rw) (cn) (rl) (clk) (ton) (sd)) := rwdD hA
  refine g_if_eq (P := (rfUns kf (q)).isSome = false) (tgt := 11) hx hb dX5_ofAppeal_6 (by decide) b2i_0 (fun c_1 => ?_) (fun c_1 => ?_)
  · refine lv_aload_n hx hb dX5_ofAppeal_11 rfl (lv_at hl 1 rfl) ?_
    refine g_get (v := .ref (B 7)) hx hb hts hown hK hP 1 rfl rfl gu_wsX10 1 (by decide) gm_10_15 rfl dX5_ofAppeal_12 ?_
    refine g_get (v := .ref (B 15)) hx hb hts hown hK hP 7 rfl rfl gu_wsX00 7 (by decide) gm_20_14 rfl dX5_ofAppeal_15 ?_
    refine lv_iload_n hx hb dX5_ofAppeal_18 rfl (lv_at hl 2 rfl) ?_
    refine g_iald (x := kf 7 (q)) hx hb hK hP 15 rfl (by omega) (by decide) rfl dX5_ofAppeal_19 ?_
    refine lv_iconst (v := nI (2)) hx hb dX5_ofAppeal_20 gc_2 ?_
    refine g_icmp_lt (P := kf 7 (q) < nI (2)) (tgt := 40) hx hb dX5_ofAppeal_21 (by decide) Iff.rfl (fun c_2 => ?_) (fun c_2 => ?_)
    · have d_2 : ¬ nI (2) ≤ kf 7 (q) := Int32.not_le.mpr c_2
      refine lv_aload_n hx hb dX5_ofAppeal_40 rfl (lv_at hl 1 rfl) ?_
      refine lv_aload_n hx hb dX5_ofAppeal_41 rfl (lv_at hl 1 rfl) ?_
      refine g_get (v := .ref (B 7)) hx hb hts hown hK hP 1 rfl rfl gu_wsX10 1 (by decide) gm_10_15 rfl dX5_ofAppeal_42 ?_
      refine g_get (v := .ref (B 10)) hx hb hts hown hK hP 7 rfl rfl gu_wsX00 2 (by decide) gm_11_23 rfl dX5_ofAppeal_45 ?_
      refine lv_iload_n hx hb dX5_ofAppeal_48 rfl (lv_at hl 2 rfl) ?_
      refine g_iald (x := kf 2 (q)) hx hb hK hP 10 rfl (by omega) (by decide) rfl dX5_ofAppeal_49 ?_
      refine rd_calle (va_runV (As := [.int (kf 2 (q))]) (rest := []) ⟨hx, hb, hml, hown, hts⟩ (c_X1_callableWithout l D cA (fun k => B (k + 1)) (jf) (jn) (kf) (rw) (cn) (rl) (clk) (ton) (sd) (kf 2 (q))  hjn hcn) (cwV 1 hts (gWV gm_12_20 gm_12_21 gm_12_22 gm_1_16 gm_12_23) rfl rfl rfl (by decide +kernel) ⟨Nat.le_of_ble_eq_true rfl, Nat.le_of_ble_eq_true rfl⟩) (gPreV hK (g_rf hK hP (ci := 3) (q0 := 1) rfl rfl) (hP.sub [1, 2, 3, 4, 5, 6, 7, 8, 9, 10, 11, 12, 13, 14, 15, 16] rfl)) rfl rfl hl.1 rfl (lv_room (Nat.le_of_ble_eq_true rfl)) dX5_ofAppeal_50 ⟨by omega, by omega⟩) ?_
      refine lv_istore_n (lv' := [(3, .int (nI (cwF kf cn jn (kf 2 (q))))), (0, .ref (B 0)), (1, .ref (B 1)), (2, .int (nI (q)))]) hx hb dX5_ofAppeal_53 rfl hl (by decide) rfl (fun ls hl => ?_)
      have hcw_3 := cwF_le kf cn jn (kf 2 q)
      refine lv_iload_n hx hb dX5_ofAppeal_54 rfl (lv_at hl 0 rfl) ?_
      refine lv_iconst (v := nI (1)) hx hb dX5_ofAppeal_55 gc_1 ?_
      refine g_icmp_ge (P := 1 ≤ cwF kf cn jn (kf 2 (q))) (tgt := 72) hx hb dX5_ofAppeal_56 (by decide) (nI_leI (by omega) (by omega)) (fun c_4 => ?_) (fun c_4 => ?_)
      · have d_4 : ¬ cwF kf cn jn (kf 2 (q)) < 1 := Nat.not_lt.mpr c_4
        refine lv_iconst (v := nI (0)) hx hb dX5_ofAppeal_72 gc_0 ?_
        exact g_zretW (v := nI (0)) hx hb hr hlk rfl hS dX5_ofAppeal_73 (by have e8 : rfUns kf (q) = none := Option.not_isSome_iff_eq_none.mp (by rw [c_1]; decide) ; rw [e8] at hP ; have e9 : rfApp kf jn cn q = none := (by simp [rfApp, c_1, c_2, d_2, c_4, d_4]) ; rw [e9]; exact ⟨rfl, hP⟩)
      · have d_4 : cwF kf cn jn (kf 2 (q)) < 1 := Nat.not_le.mp c_4
        refine lv_aload_n hx hb dX5_ofAppeal_59 rfl (lv_at hl 1 rfl) ?_
        refine lv_iconst (v := nI (3)) hx hb dX5_ofAppeal_60 gc_3 ?_
        refine lv_iload_n hx hb dX5_ofAppeal_61 rfl (lv_at hl 0 rfl) ?_
        refine wr_calli (va_runV (As := [.int (nI (3)), .int (nI (cwF kf cn jn (kf 2 (q))))]) (rest := []) ⟨hx, hb, hml, hown, hts⟩ (c_X5_isFor l D cA B (((rfUns kf (q)).getD (rs, dt)).1) (((rfUns kf (q)).getD (rs, dt)).2) (jf) (jn) (kf) (rw) (cn) (rl) (clk) (ton) (sd) (nI (3)) (nI (cwF kf cn jn (kf 2 (q)))) hA) (cwV 2 hts (gWV gm_6_23 gm_7_0 gm_7_1 gm_2_1 gm_7_2) rfl rfl rfl (by decide +kernel) ⟨Nat.le_of_ble_eq_true rfl, Nat.le_of_ble_eq_true rfl⟩) (gPreV hK (g_rf hK hP (ci := 7) (q0 := 0) rfl rfl) hP) rfl rfl hl.1 rfl (lv_room (Nat.le_of_ble_eq_true rfl)) dX5_ofAppeal_62 ⟨by omega, by omega⟩) hS (fun q _ h => h) (fun q h => h) (fun r H locs hw9 hz9 hk9 hS => ?_)
        obtain ⟨rfl, hP⟩ := hw9
        have hD : va_D (aS 17 B) (rwd cA B (nI (3)) (nI (cwF kf cn jn (kf 2 (q)))) (jf) (jn) (kf) (rw) (cn) (rl) (clk) (ton) (sd)) := rwdD hA
        refine g_if_eq (P := true = false) (tgt := 72) hx hb dX5_ofAppeal_65 (by decide) b2i_0 (fun c_5 => ?_) (fun c_5 => ?_)
        · exact absurd c_5 (by decide)
        · have c_5 : true = true := eq_true_of_ne_false c_5
          refine lv_iconst (v := nI (1)) hx hb dX5_ofAppeal_68 gc_1 ?_
          refine lv_goto (tgt := 73) hx hb dX5_ofAppeal_69 (by decide) ?_
          exact g_zretW (v := nI (1)) hx hb hr hlk rfl hS dX5_ofAppeal_73 (by have e9 : rfApp kf jn cn q = some (nI (3), nI (cwF kf cn jn (kf 2 (q)))) := (by simp [rfApp, c_1, c_2, d_2, c_4, d_4, c_5]) ; rw [e9]; exact ⟨rfl, hP⟩)
    · have d_2 : nI (2) ≤ kf 7 (q) := Int32.not_lt.mp c_2
      refine lv_aload_n hx hb dX5_ofAppeal_24 rfl (lv_at hl 0 rfl) ?_
      refine lv_bipush (v := nI (7)) hx hb dX5_ofAppeal_25 gb_7 ?_
      refine lv_aload_n hx hb dX5_ofAppeal_27 rfl (lv_at hl 1 rfl) ?_
      refine g_get (v := .ref (B 7)) hx hb hts hown hK hP 1 rfl rfl gu_wsX10 1 (by decide) gm_10_15 rfl dX5_ofAppeal_28 ?_
      refine g_get (v := .ref (B 11)) hx hb hts hown hK hP 7 rfl rfl gu_wsX00 3 (by decide) gm_16_2 rfl dX5_ofAppeal_31 ?_
      refine lv_iload_n hx hb dX5_ofAppeal_34 rfl (lv_at hl 2 rfl) ?_
      refine g_iald (x := kf 3 (q)) hx hb hK hP 11 rfl (by omega) (by decide) rfl dX5_ofAppeal_35 ?_
      refine wr_calli (va_runV (As := [.int (nI (7)), .int (kf 3 (q))]) (rest := []) ⟨hx, hb, hml, hown, hts⟩ (c_X5_isFor l D cA B (((rfUns kf (q)).getD (rs, dt)).1) (((rfUns kf (q)).getD (rs, dt)).2) (jf) (jn) (kf) (rw) (cn) (rl) (clk) (ton) (sd) (nI (7)) (kf 3 (q)) hA) (cwV 2 hts (gWV gm_6_23 gm_7_0 gm_7_1 gm_2_1 gm_7_2) rfl rfl rfl (by decide +kernel) ⟨Nat.le_of_ble_eq_true rfl, Nat.le_of_ble_eq_true rfl⟩) (gPreV hK (g_rf hK hP (ci := 7) (q0 := 0) rfl rfl) hP) rfl rfl hl.1 rfl (lv_room (Nat.le_of_ble_eq_true rfl)) dX5_ofAppeal_36 ⟨by omega, by omega⟩) hS (fun q _ h => h) (fun q h => h) (fun r H locs hw9 hz9 hk9 hS => ?_)
      obtain ⟨rfl, hP⟩ := hw9
      have hD : va_D (aS 17 B) (rwd cA B (nI (7)) (kf 3 (q)) (jf) (jn) (kf) (rw) (cn) (rl) (clk) (ton) (sd)) := rwdD hA
      exact g_zretW (v := b2i (true)) hx hb hr hlk b2i_n hS dX5_ofAppeal_39 (by have e9 : rfApp kf jn cn q = some (nI (7), kf 3 (q)) := (by simp [rfApp, c_1, c_2, d_2]) ; rw [e9]; exact ⟨rfl, hP⟩)
  · have c_1 : (rfUns kf (q)).isSome = true := eq_true_of_ne_false c_1
    refine lv_iconst (v := nI (1)) hx hb dX5_ofAppeal_9 gc_1 ?_
    exact g_zretW (v := nI (1)) hx hb hr hlk rfl hS dX5_ofAppeal_10 (by have e9 : rfApp kf jn cn q = rfUns kf (q) := (by rw [rfApp, if_pos c_1]) ; rw [e9]; exact ⟨by rw [c_1]; rfl, hP⟩)

set_option maxHeartbeats 1000000 in
set_option maxRecDepth 100000 in
theorem c_X5_ofOrder (l : Launch) (D : va_G) (cA : Nat → ClassId) (B : Nat → Nat) (rs dt : Int32) (jf : Nat → Nat → Int32) (jn : Nat) (kf : Nat → Nat → Int32) (rw : Nat → Nat) (cn rl clk ton : Nat) (sd : Int32) (kd : Nat) (a : Int32) (hA : aInj 17 B) (hjn : jn ≤ 9) (hcn : cn ≤ 10) (hck : clk ≤ 4) (htn : ton ≤ 99) (hk7 : kd ≤ 7) (hmx : 2 ≤ kd → kd ≤ 5 → isIx a cn = true) (hlo : kd = 2 → hpF kf a.toNatClampNeg = true → fnd (hs (kf 2 a.toNatClampNeg)) jn ≠ none) : Met l yX5_ofOrder (gw yX5_ofOrder cX5_ofOrder 4 (some .boolean)) ({ frames := 4, cells := 0, slots := 0, locals := 90 } : Room) (gPc [.ref (B 0), .ref (B 1), .int (nI (kd)), .int (a)] (fun H => va_P D vwCl (rwd cA B (rs) (dt) (jf) (jn) (kf) (rw) (cn) (rl) (clk) (ton) (sd)) H) D cA) (wrI (fun r H => r = b2i (rfOrd kf jn cn rl clk ton kd a).isSome ∧ va_P D vwCl (rwd cA B ((rfOrd kf jn cn rl clk ton kd a).getD (rs, dt)).1 ((rfOrd kf jn cn rl clk ton kd a).getD (rs, dt)).2 jf jn kf rw cn rl clk ton sd) H) (aS 17 B)) 0 0 (aS 17 B) := by
  refine gOf (by decide) (Nat.le_of_ble_eq_true rfl) ?_
  intro p e s m below meth c ls hx hb hml hr hlk hown hts hnm hP hK hl
  have hl : lv_has ls 4 [(0, .ref (B 0)), (1, .ref (B 1)), (2, .int (nI (kd))), (3, .int (a))] := hl
  have hD : va_D (aS 17 B) (rwd cA B (rs) (dt) (jf) (jn) (kf) (rw) (cn) (rl) (clk) (ton) (sd)) := rwdD hA
  have hS : va_S (aS 17 B) s.heap s.heap [] := va_S.rf
  refine lv_iload_n hx hb dX5_ofOrder_0 rfl (lv_at hl 2 rfl) ?_
  have hsw_1 : kd = 0 ∨ kd = 1 ∨ kd = 2 ∨ kd = 3 ∨ kd = 4 ∨ kd = 5 ∨ kd = 6 ∨ kd = 7 := by omega
  rcases hsw_1 with rfl | rfl | rfl | rfl | rfl | rfl | rfl | rfl
  · refine lv_tableIn (off := 43) (tgt := 44) hx hb dX5_ofOrder_1 (by decide +kernel) (by decide +kernel) (by decide +kernel) (by decide) ?_
    refine lv_aload_n hx hb dX5_ofOrder_44 rfl (lv_at hl 0 rfl) ?_
    refine lv_aload_n hx hb dX5_ofOrder_45 rfl (lv_at hl 1 rfl) ?_
    refine wr_calli (va_runV (As := [.ref (B 1)]) (rest := []) ⟨hx, hb, hml, hown, hts⟩ (c_X5_ofJuror l D cA B (rs) (dt) (jf) (jn) (kf) (rw) (cn) (rl) (clk) (ton) (sd)  hA hjn) (cwV 1 hts (gWV gm_44_14 gm_6_18 gm_6_19 gm_2_1 gm_6_20) rfl rfl rfl (by decide +kernel) ⟨Nat.le_of_ble_eq_true rfl, Nat.le_of_ble_eq_true rfl⟩) (gPreV hK (g_rf hK hP (ci := 7) (q0 := 0) rfl rfl) hP) rfl rfl hl.1 rfl (lv_room (Nat.le_of_ble_eq_true rfl)) dX5_ofOrder_46 ⟨by omega, by omega⟩) hS (fun q _ h => h) (fun q h => h) (fun r H locs hw9 hz9 hk9 hS => ?_)
    obtain ⟨rfl, hP⟩ := hw9
    have hP : va_P D vwCl (rwd cA B (((rfJ jn).getD (rs, dt)).1) (((rfJ jn).getD (rs, dt)).2) (jf) (jn) (kf) (rw) (cn) (rl) (clk) (ton) (sd)) H := hP
    have hD : va_D (aS 17 B) (rwd cA B (((rfJ jn).getD (rs, dt)).1) (((rfJ jn).getD (rs, dt)).2) (jf) (jn) (kf) (rw) (cn) (rl) (clk) (ton) (sd)) := rwdD hA
    exact g_zretW (v := b2i ((rfJ jn).isSome)) hx hb hr hlk b2i_n hS dX5_ofOrder_49 (⟨rfl, hP⟩)
  · refine lv_tableIn (off := 49) (tgt := 50) hx hb dX5_ofOrder_1 (by decide +kernel) (by decide +kernel) (by decide +kernel) (by decide) ?_
    refine lv_aload_n hx hb dX5_ofOrder_50 rfl (lv_at hl 0 rfl) ?_
    refine lv_aload_n hx hb dX5_ofOrder_51 rfl (lv_at hl 1 rfl) ?_
    refine wr_calli (va_runV (As := [.ref (B 1)]) (rest := []) ⟨hx, hb, hml, hown, hts⟩ (c_X5_ofCase l D cA B (rs) (dt) (jf) (jn) (kf) (rw) (cn) (rl) (clk) (ton) (sd)  hA hcn) (cwV 1 hts (gWV gm_44_15 gm_10_12 gm_10_13 gm_2_1 gm_10_14) rfl rfl rfl (by decide +kernel) ⟨Nat.le_of_ble_eq_true rfl, Nat.le_of_ble_eq_true rfl⟩) (gPreV hK (g_rf hK hP (ci := 7) (q0 := 0) rfl rfl) hP) rfl rfl hl.1 rfl (lv_room (Nat.le_of_ble_eq_true rfl)) dX5_ofOrder_52 ⟨by omega, by omega⟩) hS (fun q _ h => h) (fun q h => h) (fun r H locs hw9 hz9 hk9 hS => ?_)
    obtain ⟨rfl, hP⟩ := hw9
    have hP : va_P D vwCl (rwd cA B (((rfK cn).getD (rs, dt)).1) (((rfK cn).getD (rs, dt)).2) (jf) (jn) (kf) (rw) (cn) (rl) (clk) (ton) (sd)) H := hP
    have hD : va_D (aS 17 B) (rwd cA B (((rfK cn).getD (rs, dt)).1) (((rfK cn).getD (rs, dt)).2) (jf) (jn) (kf) (rw) (cn) (rl) (clk) (ton) (sd)) := rwdD hA
    exact g_zretW (v := b2i ((rfK cn).isSome)) hx hb hr hlk b2i_n hS dX5_ofOrder_55 (⟨rfl, hP⟩)
  · refine lv_tableIn (off := 55) (tgt := 56) hx hb dX5_ofOrder_1 (by decide +kernel) (by decide +kernel) (by decide +kernel) (by decide) ?_
    obtain ⟨q9, hq9, e9⟩ := isIx_n (n := cn) (hmx (by decide) (by decide)) (by omega)
    subst e9
    have hkq9 : (nI q9).toNatClampNeg = q9 := nI_clamp (by omega)
    have hlo : hpF kf q9 = true → fnd (hs (kf 2 q9)) jn ≠ none := by have := hlo rfl; rw [hkq9] at this; exact this
    refine lv_aload_n hx hb dX5_ofOrder_56 rfl (lv_at hl 0 rfl) ?_
    refine lv_aload_n hx hb dX5_ofOrder_57 rfl (lv_at hl 1 rfl) ?_
    refine lv_iload_n hx hb dX5_ofOrder_58 rfl (lv_at hl 3 rfl) ?_
    refine wr_calli (va_runV (As := [.ref (B 1), .int (nI (q9))]) (rest := []) ⟨hx, hb, hml, hown, hts⟩ (c_X5_ofCall l D cA B (rs) (dt) (jf) (jn) (kf) (rw) (cn) (rl) (clk) (ton) (sd) (q9) hA hjn hcn (by omega) hlo) (cwV 2 hts (gWV gm_44_16 gm_11_20 gm_11_21 gm_2_1 gm_11_22) rfl rfl rfl (by decide +kernel) ⟨Nat.le_of_ble_eq_true rfl, Nat.le_of_ble_eq_true rfl⟩) (gPreV hK (g_rf hK hP (ci := 7) (q0 := 0) rfl rfl) hP) rfl rfl hl.1 rfl (lv_room (Nat.le_of_ble_eq_true rfl)) dX5_ofOrder_59 ⟨by omega, by omega⟩) hS (fun q _ h => h) (fun q h => h) (fun r H locs hw9 hz9 hk9 hS => ?_)
    obtain ⟨rfl, hP⟩ := hw9
    have hP : va_P D vwCl (rwd cA B (((rfCall kf jn cn (q9)).getD (rs, dt)).1) (((rfCall kf jn cn (q9)).getD (rs, dt)).2) (jf) (jn) (kf) (rw) (cn) (rl) (clk) (ton) (sd)) H := hP
    have hD : va_D (aS 17 B) (rwd cA B (((rfCall kf jn cn (q9)).getD (rs, dt)).1) (((rfCall kf jn cn (q9)).getD (rs, dt)).2) (jf) (jn) (kf) (rw) (cn) (rl) (clk) (ton) (sd)) := rwdD hA
    exact g_zretW (v := b2i ((rfCall kf jn cn (q9)).isSome)) hx hb hr hlk b2i_n hS dX5_ofOrder_62 (by have e9 : rfOrd kf jn cn rl clk ton 2 (nI q9) = rfCall kf jn cn (q9) := (by show rfCall kf jn cn (nI q9).toNatClampNeg = _; rw [hkq9]) ; rw [e9]; exact ⟨rfl, hP⟩)
  · refine lv_tableIn (off := 62) (tgt := 63) hx hb dX5_ofOrder_1 (by decide +kernel) (by decide +kernel) (by decide +kernel) (by decide) ?_
    obtain ⟨q9, hq9, e9⟩ := isIx_n (n := cn) (hmx (by decide) (by decide)) (by omega)
    subst e9
    have hkq9 : (nI q9).toNatClampNeg = q9 := nI_clamp (by omega)
    refine lv_aload_n hx hb dX5_ofOrder_63 rfl (lv_at hl 0 rfl) ?_
    refine lv_aload_n hx hb dX5_ofOrder_64 rfl (lv_at hl 1 rfl) ?_
    refine lv_iload_n hx hb dX5_ofOrder_65 rfl (lv_at hl 3 rfl) ?_
    refine wr_calli (va_runV (As := [.ref (B 1), .int (nI (q9))]) (rest := []) ⟨hx, hb, hml, hown, hts⟩ (c_X5_ofVote l D cA B (rs) (dt) (jf) (jn) (kf) (rw) (cn) (rl) (clk) (ton) (sd) (q9) hA (by omega)) (cwV 2 hts (gWV gm_44_17 gm_15_21 gm_15_22 gm_2_1 gm_15_23) rfl rfl rfl (by decide +kernel) ⟨Nat.le_of_ble_eq_true rfl, Nat.le_of_ble_eq_true rfl⟩) (gPreV hK (g_rf hK hP (ci := 7) (q0 := 0) rfl rfl) hP) rfl rfl hl.1 rfl (lv_room (Nat.le_of_ble_eq_true rfl)) dX5_ofOrder_66 ⟨by omega, by omega⟩) hS (fun q _ h => h) (fun q h => h) (fun r H locs hw9 hz9 hk9 hS => ?_)
    obtain ⟨rfl, hP⟩ := hw9
    have hP : va_P D vwCl (rwd cA B (((rfVote kf (q9)).getD (rs, dt)).1) (((rfVote kf (q9)).getD (rs, dt)).2) (jf) (jn) (kf) (rw) (cn) (rl) (clk) (ton) (sd)) H := hP
    have hD : va_D (aS 17 B) (rwd cA B (((rfVote kf (q9)).getD (rs, dt)).1) (((rfVote kf (q9)).getD (rs, dt)).2) (jf) (jn) (kf) (rw) (cn) (rl) (clk) (ton) (sd)) := rwdD hA
    exact g_zretW (v := b2i ((rfVote kf (q9)).isSome)) hx hb hr hlk b2i_n hS dX5_ofOrder_69 (by have e9 : rfOrd kf jn cn rl clk ton 3 (nI q9) = rfVote kf (q9) := (by show rfVote kf (nI q9).toNatClampNeg = _; rw [hkq9]) ; rw [e9]; exact ⟨rfl, hP⟩)
  · refine lv_tableIn (off := 69) (tgt := 70) hx hb dX5_ofOrder_1 (by decide +kernel) (by decide +kernel) (by decide +kernel) (by decide) ?_
    obtain ⟨q9, hq9, e9⟩ := isIx_n (n := cn) (hmx (by decide) (by decide)) (by omega)
    subst e9
    have hkq9 : (nI q9).toNatClampNeg = q9 := nI_clamp (by omega)
    refine lv_aload_n hx hb dX5_ofOrder_70 rfl (lv_at hl 0 rfl) ?_
    refine lv_aload_n hx hb dX5_ofOrder_71 rfl (lv_at hl 1 rfl) ?_
    refine lv_iload_n hx hb dX5_ofOrder_72 rfl (lv_at hl 3 rfl) ?_
    refine wr_calli (va_runV (As := [.ref (B 1), .int (nI (q9))]) (rest := []) ⟨hx, hb, hml, hown, hts⟩ (c_X5_ofUnsay l D cA B (rs) (dt) (jf) (jn) (kf) (rw) (cn) (rl) (clk) (ton) (sd) (q9) hA (by omega)) (cwV 2 hts (gWV gm_20_15 gm_19_6 gm_19_7 gm_2_1 gm_19_8) rfl rfl rfl (by decide +kernel) ⟨Nat.le_of_ble_eq_true rfl, Nat.le_of_ble_eq_true rfl⟩) (gPreV hK (g_rf hK hP (ci := 7) (q0 := 0) rfl rfl) hP) rfl rfl hl.1 rfl (lv_room (Nat.le_of_ble_eq_true rfl)) dX5_ofOrder_73 ⟨by omega, by omega⟩) hS (fun q _ h => h) (fun q h => h) (fun r H locs hw9 hz9 hk9 hS => ?_)
    obtain ⟨rfl, hP⟩ := hw9
    have hP : va_P D vwCl (rwd cA B (((rfUns kf (q9)).getD (rs, dt)).1) (((rfUns kf (q9)).getD (rs, dt)).2) (jf) (jn) (kf) (rw) (cn) (rl) (clk) (ton) (sd)) H := hP
    have hD : va_D (aS 17 B) (rwd cA B (((rfUns kf (q9)).getD (rs, dt)).1) (((rfUns kf (q9)).getD (rs, dt)).2) (jf) (jn) (kf) (rw) (cn) (rl) (clk) (ton) (sd)) := rwdD hA
    exact g_zretW (v := b2i ((rfUns kf (q9)).isSome)) hx hb hr hlk b2i_n hS dX5_ofOrder_76 (by have e9 : rfOrd kf jn cn rl clk ton 4 (nI q9) = rfUns kf (q9) := (by show rfUns kf (nI q9).toNatClampNeg = _; rw [hkq9]) ; rw [e9]; exact ⟨rfl, hP⟩)
  · refine lv_tableIn (off := 76) (tgt := 77) hx hb dX5_ofOrder_1 (by decide +kernel) (by decide +kernel) (by decide +kernel) (by decide) ?_
    obtain ⟨q9, hq9, e9⟩ := isIx_n (n := cn) (hmx (by decide) (by decide)) (by omega)
    subst e9
    have hkq9 : (nI q9).toNatClampNeg = q9 := nI_clamp (by omega)
    refine lv_aload_n hx hb dX5_ofOrder_77 rfl (lv_at hl 0 rfl) ?_
    refine lv_aload_n hx hb dX5_ofOrder_78 rfl (lv_at hl 1 rfl) ?_
    refine lv_iload_n hx hb dX5_ofOrder_79 rfl (lv_at hl 3 rfl) ?_
    refine wr_calli (va_runV (As := [.ref (B 1), .int (nI (q9))]) (rest := []) ⟨hx, hb, hml, hown, hts⟩ (c_X5_ofAppeal l D cA B (rs) (dt) (jf) (jn) (kf) (rw) (cn) (rl) (clk) (ton) (sd) (q9) hA hjn hcn (by omega)) (cwV 2 hts (gWV gm_44_18 gm_20_11 gm_20_12 gm_2_1 gm_20_13) rfl rfl rfl (by decide +kernel) ⟨Nat.le_of_ble_eq_true rfl, Nat.le_of_ble_eq_true rfl⟩) (gPreV hK (g_rf hK hP (ci := 7) (q0 := 0) rfl rfl) hP) rfl rfl hl.1 rfl (lv_room (Nat.le_of_ble_eq_true rfl)) dX5_ofOrder_80 ⟨by omega, by omega⟩) hS (fun q _ h => h) (fun q h => h) (fun r H locs hw9 hz9 hk9 hS => ?_)
    obtain ⟨rfl, hP⟩ := hw9
    have hP : va_P D vwCl (rwd cA B (((rfApp kf jn cn (q9)).getD (rs, dt)).1) (((rfApp kf jn cn (q9)).getD (rs, dt)).2) (jf) (jn) (kf) (rw) (cn) (rl) (clk) (ton) (sd)) H := hP
    have hD : va_D (aS 17 B) (rwd cA B (((rfApp kf jn cn (q9)).getD (rs, dt)).1) (((rfApp kf jn cn (q9)).getD (rs, dt)).2) (jf) (jn) (kf) (rw) (cn) (rl) (clk) (ton) (sd)) := rwdD hA
    exact g_zretW (v := b2i ((rfApp kf jn cn (q9)).isSome)) hx hb hr hlk b2i_n hS dX5_ofOrder_83 (by have e9 : rfOrd kf jn cn rl clk ton 5 (nI q9) = rfApp kf jn cn (q9) := (by show rfApp kf jn cn (nI q9).toNatClampNeg = _; rw [hkq9]) ; rw [e9]; exact ⟨rfl, hP⟩)
  · refine lv_tableIn (off := 83) (tgt := 84) hx hb dX5_ofOrder_1 (by decide +kernel) (by decide +kernel) (by decide +kernel) (by decide) ?_
    refine lv_aload_n hx hb dX5_ofOrder_84 rfl (lv_at hl 0 rfl) ?_
    refine lv_aload_n hx hb dX5_ofOrder_85 rfl (lv_at hl 1 rfl) ?_
    refine wr_calli (va_runV (As := [.ref (B 1)]) (rest := []) ⟨hx, hb, hml, hown, hts⟩ (c_X5_ofClerk l D cA B (rs) (dt) (jf) (jn) (kf) (rw) (cn) (rl) (clk) (ton) (sd)  hA hck) (cwV 1 hts (gWV gm_44_19 gm_21_21 gm_21_22 gm_2_1 gm_21_23) rfl rfl rfl (by decide +kernel) ⟨Nat.le_of_ble_eq_true rfl, Nat.le_of_ble_eq_true rfl⟩) (gPreV hK (g_rf hK hP (ci := 7) (q0 := 0) rfl rfl) hP) rfl rfl hl.1 rfl (lv_room (Nat.le_of_ble_eq_true rfl)) dX5_ofOrder_86 ⟨by omega, by omega⟩) hS (fun q _ h => h) (fun q h => h) (fun r H locs hw9 hz9 hk9 hS => ?_)
    obtain ⟨rfl, hP⟩ := hw9
    have hP : va_P D vwCl (rwd cA B (((rfClk clk).getD (rs, dt)).1) (((rfClk clk).getD (rs, dt)).2) (jf) (jn) (kf) (rw) (cn) (rl) (clk) (ton) (sd)) H := hP
    have hD : va_D (aS 17 B) (rwd cA B (((rfClk clk).getD (rs, dt)).1) (((rfClk clk).getD (rs, dt)).2) (jf) (jn) (kf) (rw) (cn) (rl) (clk) (ton) (sd)) := rwdD hA
    exact g_zretW (v := b2i ((rfClk clk).isSome)) hx hb hr hlk b2i_n hS dX5_ofOrder_89 (⟨rfl, hP⟩)
  · refine lv_tableOut (tgt := 90) hx hb dX5_ofOrder_1 (by decide +kernel) (by decide) ?_
    refine lv_aload_n hx hb dX5_ofOrder_90 rfl (lv_at hl 0 rfl) ?_
    refine lv_aload_n hx hb dX5_ofOrder_91 rfl (lv_at hl 1 rfl) ?_
    refine wr_calli (va_runV (As := [.ref (B 1)]) (rest := []) ⟨hx, hb, hml, hown, hts⟩ (c_X5_ofNight l D cA B (rs) (dt) (jf) (jn) (kf) (rw) (cn) (rl) (clk) (ton) (sd)  hA htn) (cwV 1 hts (gWV gm_44_20 gm_22_17 gm_22_18 gm_2_1 gm_22_19) rfl rfl rfl (by decide +kernel) ⟨Nat.le_of_ble_eq_true rfl, Nat.le_of_ble_eq_true rfl⟩) (gPreV hK (g_rf hK hP (ci := 7) (q0 := 0) rfl rfl) hP) rfl rfl hl.1 rfl (lv_room (Nat.le_of_ble_eq_true rfl)) dX5_ofOrder_92 ⟨by omega, by omega⟩) hS (fun q _ h => h) (fun q h => h) (fun r H locs hw9 hz9 hk9 hS => ?_)
    obtain ⟨rfl, hP⟩ := hw9
    have hP : va_P D vwCl (rwd cA B (((rfNt ton rl).getD (rs, dt)).1) (((rfNt ton rl).getD (rs, dt)).2) (jf) (jn) (kf) (rw) (cn) (rl) (clk) (ton) (sd)) H := hP
    have hD : va_D (aS 17 B) (rwd cA B (((rfNt ton rl).getD (rs, dt)).1) (((rfNt ton rl).getD (rs, dt)).2) (jf) (jn) (kf) (rw) (cn) (rl) (clk) (ton) (sd)) := rwdD hA
    exact g_zretW (v := b2i ((rfNt ton rl).isSome)) hx hb hr hlk b2i_n hS dX5_ofOrder_95 (⟨rfl, hP⟩)

