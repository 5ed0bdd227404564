def twd (cA : Nat → ClassId) (B : Nat → Nat) (tc : Nat → Nat) (tl to kd fi se ta nu : Int32) : va_W := [(B 0, .inr (8, [.ref (B 1), .int tl, .int to, .int kd, .int fi, .int se, .int ta, .int nu])), (B 1, .inl (cA 1, 60, .inl (fun j => nI (tc j))))]
theorem twdD {cA : Nat → ClassId} {B : Nat → Nat} {tc : Nat → Nat} {tl to kd fi se ta nu : Int32} (h : aInj 2 B) : va_D (aS 2 B) (twd cA B tc tl to kd fi se ta nu) := wD h rfl
def pkN (tc : Nat → Nat) (tl ta : Nat) : Nat := if ta < tl then tc ta else 0
theorem pkN_t {tc : Nat → Nat} {tl ta : Nat} (h : ta < tl) : pkN tc tl ta = tc ta := if_pos h
theorem pkN_f {tc : Nat → Nat} {tl ta : Nat} (h : ¬ ta < tl) : pkN tc tl ta = 0 := if_neg h
theorem pkN_lt {tc : Nat → Nat} {tl : Nat} (h : ∀ k, k < tl → tc k < 65536) (ta : Nat) : pkN tc tl ta < 65536 := by
  unfold pkN
  split
  · exact h _ (by assumption)
  · decide
def dgB (w : Nat) : Bool := decide (48 ≤ w) && decide (w ≤ 57)
def tkO (tc : Nat → Nat) (tl ta w : Nat) : Bool × Nat := if pkN tc tl ta = w then (true, ta + 1) else (false, ta)
theorem tkO_t {tc : Nat → Nat} {tl ta w : Nat} (h : (tkO tc tl ta w).1 = true) : (tkO tc tl ta w).2 = ta + 1 := by unfold tkO at h ⊢; split at h <;> simp_all
theorem tkO_f {tc : Nat → Nat} {tl ta w : Nat} (h : (tkO tc tl ta w).1 = false) : (tkO tc tl ta w).2 = ta := by unfold tkO at h ⊢; split at h <;> simp_all
theorem tkO_le {tc : Nat → Nat} {tl ta w : Nat} (hw : 0 < w) (h : ta ≤ tl) : (tkO tc tl ta w).2 ≤ tl := by
  unfold tkO pkN
  split
  · split
    · show ta + 1 ≤ tl; omega
    · exact h
  · split
    · omega
    · exact h
theorem tkO_lt {tc : Nat → Nat} {tl ta w : Nat} (hw : 0 < w) (h : (tkO tc tl ta w).1 = true) : ta < tl := by
  unfold tkO pkN at h
  split at h
  · assumption
  · split at h
    · omega
    · cases h
def dgP (tc : Nat → Nat) (tl a k : Nat) : Bool := !dgB (pkN tc tl (a + k))
def dgN (tc : Nat → Nat) (tl a most : Nat) : Nat := (fnd (dgP tc tl a) most).getD most
def dgV (tc : Nat → Nat) (tl a : Nat) : Nat → Int32
  | 0 => nI 0
  | k + 1 => nI 10 * dgV tc tl a k + (nI (pkN tc tl (a + k)) - nI 48)
theorem dgN_all {tc : Nat → Nat} {tl a most : Nat} (h : fnd (dgP tc tl a) most = none) : dgN tc tl a most = most := by rw [dgN, h]; rfl
theorem dgN_at {tc : Nat → Nat} {tl a most i : Nat} (h : fnd (dgP tc tl a) i = none) (hd : dgB (pkN tc tl (a + i)) = false) (hi : i < most) : dgN tc tl a most = i := by rw [dgN, fnd_stop h (by rw [dgP, hd]; rfl) most hi]; rfl
theorem dgP_no {tc : Nat → Nat} {tl a i : Nat} (h : fnd (dgP tc tl a) i = none) (hd : dgB (pkN tc tl (a + i)) = true) : fnd (dgP tc tl a) (i + 1) = none := fnd_succ_none h (by rw [dgP, hd]; rfl)
theorem dgB_0 : dgB 0 = false := rfl
theorem dgP_le {tc : Nat → Nat} {tl a : Nat} (ha : a ≤ tl) : ∀ i, fnd (dgP tc tl a) i = none → a + i ≤ tl
  | 0, _ => ha
  | i + 1, h => by
    rcases Nat.lt_or_ge (a + i) tl with z | z
    · omega
    · have e := fnd_some.fnd_no h i (Nat.lt_succ_self i)
      rw [dgP, pkN_f (by omega), dgB_0] at e
      cases e
def rnA (tc : Nat → Nat) (tl a most : Nat) (ng : Bool) : Bool × (Nat × Int32) := (decide (0 < dgN tc tl a most), (a + dgN tc tl a most, if ng = true then -(dgV tc tl a (dgN tc tl a most)) else dgV tc tl a (dgN tc tl a most)))
def rnO (tc : Nat → Nat) (tl ta most : Nat) (sg : Bool) : Bool × (Nat × Int32) := if (tkO tc tl ta 32).1 = true then (if (sg && (tkO tc tl (ta + 1) 45).1) = true then rnA tc tl (ta + 1 + 1) most true else rnA tc tl (ta + 1) most false) else (false, (ta, nI 0))
theorem rnA_le {tc : Nat → Nat} {tl a most : Nat} {ng : Bool} (ha : a ≤ tl) : (rnA tc tl a most ng).2.1 ≤ tl := by
  show a + dgN tc tl a most ≤ tl
  unfold dgN
  cases e : fnd (dgP tc tl a) most with
  | none => exact dgP_le ha _ e
  | some i => exact dgP_le ha i (by
      cases e2 : fnd (dgP tc tl a) i with
      | none => rfl
      | some j =>
        have h1 := fnd_lt e2
        have h2 := (fnd_some e).2 j h1
        rw [(fnd_some e2).1] at h2
        cases h2)
theorem rnO_le {tc : Nat → Nat} {tl ta most : Nat} {sg : Bool} (h : ta ≤ tl) : (rnO tc tl ta most sg).2.1 ≤ tl := by
  unfold rnO
  split
  · have h1 := tkO_lt (by decide) (by assumption : (tkO tc tl ta 32).1 = true)
    split
    · have h3 : (tkO tc tl (ta + 1) 45).1 = true := by
        have := (by assumption : (sg && (tkO tc tl (ta + 1) 45).1) = true)
        cases sg <;> simp_all
      have h2 := tkO_lt (by decide) h3
      exact rnA_le (by omega)
    · exact rnA_le (by omega)
  · exact h

set_option maxHeartbeats 1000000 in
set_option maxRecDepth 100000 in
theorem c_X6_peek (l : Launch) (D : va_G) (cA : Nat → ClassId) (B : Nat → Nat) (tc : Nat → Nat) (tl to : Nat) (kd fi se : Int32) (ta : Nat) (nu : Int32) (htc : ∀ k, k < tl → tc k < 65536) (htl : tl ≤ 60) (hta : ta ≤ tl) : Met l yX6_peek (gw yX6_peek cX6_peek 1 (some .char)) ({ frames := 0, cells := 0, slots := 0, locals := 0 } : Room) (gPc [.ref (B 0)] (fun H => va_P D vwCl (twd cA B (tc) (nI (tl)) (nI (to)) (kd) (fi) (se) (nI (ta)) (nu)) H) D cA) (rdI (fun r => r = nI (pkN tc tl ta))) 0 0 nF := by
  refine gOf (by decide) (Nat.le_of_ble_eq_true rfl) ?_
  intro p e s m below meth c ls hx hb hml hr hlk hown hts hnm hP hK hl
  have hl : lv_has ls 1 [(0, .ref (B 0))] := hl
  refine lv_aload_n hx hb dX6_peek_0 rfl (lv_at hl 0 rfl) ?_
  refine g_get (v := .int (nI (ta))) hx hb hts hown hK hP 0 rfl rfl gu_wsX60 6 (by decide) gm_5_3 rfl dX6_peek_1 ?_
  refine lv_aload_n hx hb dX6_peek_4 rfl (lv_at hl 0 rfl) ?_
  refine g_get (v := .int (nI (tl))) hx hb hts hown hK hP 0 rfl rfl gu_wsX60 1 (by decide) gm_4_22 rfl dX6_peek_5 ?_
  refine g_icmp_ge (P := tl ≤ ta) (tgt := 23) hx hb dX6_peek_8 (by decide) (nI_leI (by omega) (by omega)) (fun c_1 => ?_) (fun c_1 => ?_)
  · have d_1 : ¬ ta < tl := Nat.not_lt.mpr c_1
    refine lv_iconst (v := nI (0)) hx hb dX6_peek_23 gc_0 ?_
    exact g_cret (v := nI (0)) hx hb hr hlk (pk_charN (by omega)).1 dX6_peek_24 (by rw [pkN_f (by omega)])
  · have d_1 : ta < tl := Nat.not_le.mp c_1
    refine lv_aload_n hx hb dX6_peek_11 rfl (lv_at hl 0 rfl) ?_
    refine g_get (v := .ref (B 1)) hx hb hts hown hK hP 0 rfl rfl gu_wsX60 0 (by decide) gm_4_21 rfl dX6_peek_12 ?_
    refine lv_aload_n hx hb dX6_peek_15 rfl (lv_at hl 0 rfl) ?_
    refine g_get (v := .int (nI (ta))) hx hb hts hown hK hP 0 rfl rfl gu_wsX60 6 (by decide) gm_5_3 rfl dX6_peek_16 ?_
    refine g_cald (x := nI (tc (ta))) hx hb hK hP 1 rfl (by omega) (by decide) rfl dX6_peek_19 ?_
    have htc9 := htc ta (by omega)
    refine lv_goto (tgt := 24) hx hb dX6_peek_20 (by decide) ?_
    exact g_cret (v := nI (tc (ta))) hx hb hr hlk (pk_charN (by omega)).1 dX6_peek_24 (by rw [pkN_t (by omega)])

set_option maxHeartbeats 1000000 in
set_option maxRecDepth 100000 in
theorem c_X6_isDigit (l : Launch) (D : va_G) (cA : Nat → ClassId) (w : Nat) (hw : w < 65536) : Met l yX6_isDigit (gw yX6_isDigit cX6_isDigit 1 (some .boolean)) ({ frames := 0, cells := 0, slots := 0, locals := 0 } : Room) (gPc [.int (nI (w))] (fun H => True) D cA) (rdI (fun r => r = b2i (dgB w))) 0 0 nF := by
  refine gOf (by decide) (Nat.le_of_ble_eq_true rfl) ?_
  intro p e s m below meth c ls hx hb hml hr hlk hown hts hnm hP hK hl
  have hl : lv_has ls 1 [(0, .int (nI (w)))] := hl
  refine lv_iload_n hx hb dX6_isDigit_0 rfl (lv_at hl 0 rfl) ?_
  refine lv_bipush (v := nI (48)) hx hb dX6_isDigit_1 gb_48 ?_
  refine g_icmp_lt (P := w < 48) (tgt := 16) hx hb dX6_isDigit_3 (by decide) (nI_ltI (by omega) (by omega)) (fun c_1 => ?_) (fun c_1 => ?_)
  · have d_1 : ¬ 48 ≤ w := Nat.not_le.mpr c_1
    refine lv_iconst (v := nI (0)) hx hb dX6_isDigit_16 gc_0 ?_
    exact g_zret (v := nI (0)) hx hb hr hlk rfl dX6_isDigit_17 (by simp [dgB, b2i, c_1, d_1])
  · have d_1 : 48 ≤ w := Nat.not_lt.mp c_1
    refine lv_iload_n hx hb dX6_isDigit_6 rfl (lv_at hl 0 rfl) ?_
    refine lv_bipush (v := nI (57)) hx hb dX6_isDigit_7 gb_57 ?_
    refine g_icmp_gt (P := 57 < w) (tgt := 16) hx hb dX6_isDigit_9 (by decide) (nI_ltI (by omega) (by omega)) (fun c_2 => ?_) (fun c_2 => ?_)
    · have d_2 : ¬ w ≤ 57 := Nat.not_le.mpr c_2
      refine lv_iconst (v := nI (0)) hx hb dX6_isDigit_16 gc_0 ?_
      exact g_zret (v := nI (0)) hx hb hr hlk rfl dX6_isDigit_17 (by simp [dgB, b2i, c_1, d_1, c_2, d_2])
    · have d_2 : w ≤ 57 := Nat.not_lt.mp c_2
      refine lv_iconst (v := nI (1)) hx hb dX6_isDigit_12 gc_1 ?_
      refine lv_goto (tgt := 17) hx hb dX6_isDigit_13 (by decide) ?_
      exact g_zret (v := nI (1)) hx hb hr hlk rfl dX6_isDigit_17 (by simp [dgB, b2i, c_1, d_1, c_2, d_2])

set_option maxHeartbeats 1000000 in
set_option maxRecDepth 100000 in
theorem c_X6_add (l : Launch) (D : va_G) (cA : Nat → ClassId) (B : Nat → Nat) (tc : Nat → Nat) (tl to : Nat) (kd fi se : Int32) (ta : Nat) (nu : Int32) (w : Nat) (hA : aInj 2 B) (hw : w < 65536) (hl60 : tl < 60) : Met l yX6_add (gw yX6_add cX6_add 2 (some .int)) ({ frames := 0, cells := 0, slots := 0, locals := 0 } : Room) (gPc [.ref (B 0), .int (nI (w))] (fun H => va_P D vwCl (twd cA B (tc) (nI (tl)) (nI (to)) (kd) (fi) (se) (nI (ta)) (nu)) H) D cA) (wrI (fun r H => r = nI (tl + 1) ∧ va_P D vwCl (twd cA B (updN tc tl w) (nI (tl + 1)) (nI to) (kd) (fi) (se) (nI ta) (nu)) H) (aS 2 B)) 0 0 (aS 2 B) := by
  refine gOf (by decide) (Nat.le_of_ble_eq_true rfl) ?_
  intro p e s m below meth c ls hx hb hml hr hlk hown hts hnm hP hK hl
  have hl : lv_has ls 2 [(0, .ref (B 0)), (1, .int (nI (w)))] := hl
  have hD : va_D (aS 2 B) (twd cA B (tc) (nI (tl)) (nI (to)) (kd) (fi) (se) (nI (ta)) (nu)) := twdD hA
  have hS : va_S (aS 2 B) s.heap s.heap [] := va_S.rf
  refine lv_aload_n hx hb dX6_add_0 rfl (lv_at hl 0 rfl) ?_
  refine g_get (v := .int (nI (tl))) hx hb hts hown hK hP 0 rfl rfl gu_wsX60 1 (by decide) gm_4_22 rfl dX6_add_1 ?_
  refine lv_bipush (v := nI (60)) hx hb dX6_add_4 gb_60 ?_
  refine g_icmp_ge (P := 60 ≤ tl) (tgt := 29) hx hb dX6_add_6 (by decide) (nI_leI (by omega) (by omega)) (fun c_1 => ?_) (fun c_1 => ?_)
  · have d_1 : ¬ tl < 60 := Nat.not_lt.mpr c_1
    omega
  · have d_1 : tl < 60 := Nat.not_le.mp c_1
    refine lv_aload_n hx hb dX6_add_9 rfl (lv_at hl 0 rfl) ?_
    refine g_get (v := .ref (B 1)) hx hb hts hown hK hP 0 rfl rfl gu_wsX60 0 (by decide) gm_4_21 rfl dX6_add_10 ?_
    refine lv_aload_n hx hb dX6_add_13 rfl (lv_at hl 0 rfl) ?_
    refine g_get (v := .int (nI (tl))) hx hb hts hown hK hP 0 rfl rfl gu_wsX60 1 (by decide) gm_4_22 rfl dX6_add_14 ?_
    refine lv_iload_n hx hb dX6_add_17 rfl (lv_at hl 1 rfl) ?_
    refine g_cast (ws' := twd cA B (updN (tc) (tl) (w)) (nI (tl)) (nI (to)) (kd) (fi) (se) (nI (ta)) (nu)) hx hb hK hP hD hS 1 rfl (by omega) (by decide) (by omega) (by first | rfl | (rw [updN_nI]; rfl)) dX6_add_18 (fun H locs hP hD hS => ?_)
    refine lv_aload_n hx hb dX6_add_19 rfl (lv_at hl 0 rfl) ?_
    refine lv_dup hx hb dX6_add_20 rfl ?_
    refine g_get (v := .int (nI (tl))) hx hb hts hown hK hP 0 rfl rfl gu_wsX60 1 (by decide) gm_4_22 rfl dX6_add_21 ?_
    refine lv_iconst (v := nI (1)) hx hb dX6_add_24 gc_1 ?_
    refine g_iadd hx hb dX6_add_25 ?_
    refine g_put (ws' := twd cA B (updN (tc) (tl) (w)) (nI (tl + 1)) (nI (to)) (kd) (fi) (se) (nI (ta)) (nu)) hx hb hts hown hK hP hD hS 0 rfl rfl gu_wsX60 tyX6_ok nmX6 1 (by decide) gm_4_22 rfl rfl rfl (Nat.le_of_ble_eq_true rfl) (by first | rfl | (rw [updN_nI]; rfl)) dX6_add_26 (fun H locs hP hD hS => ?_)
    refine lv_aload_n hx hb dX6_add_29 rfl (lv_at hl 0 rfl) ?_
    refine g_get (v := .int (nI (tl + 1))) hx hb hts hown hK hP 0 rfl rfl gu_wsX60 1 (by decide) gm_4_22 rfl dX6_add_30 ?_
    exact g_iretW (v := nI (tl + 1)) hx hb hr hlk hS dX6_add_33 (⟨rfl, hP⟩)

set_option maxHeartbeats 1000000 in
set_option maxRecDepth 100000 in
theorem c_X6_rewind (l : Launch) (D : va_G) (cA : Nat → ClassId) (B : Nat → Nat) (tc : Nat → Nat) (tl to : Nat) (kd fi se : Int32) (ta : Nat) (nu : Int32) (hA : aInj 2 B)  : Met l yX6_rewind (gw yX6_rewind cX6_rewind 1 none) ({ frames := 0, cells := 0, slots := 0, locals := 0 } : Room) (gPc [.ref (B 0)] (fun H => va_P D vwCl (twd cA B (tc) (nI (tl)) (nI (to)) (kd) (fi) (se) (nI (ta)) (nu)) H) D cA) (wrV (fun H => va_P D vwCl (twd cA B (tc) (nI tl) (nI to) (kd) (fi) (se) (nI 0) (nu)) H) (aS 2 B)) 0 0 (aS 2 B) := by
  refine gOf (by decide) (Nat.le_of_ble_eq_true rfl) ?_
  intro p e s m below meth c ls hx hb hml hr hlk hown hts hnm hP hK hl
  have hl : lv_has ls 1 [(0, .ref (B 0))] := hl
  have hD : va_D (aS 2 B) (twd cA B (tc) (nI (tl)) (nI (to)) (kd) (fi) (se) (nI (ta)) (nu)) := twdD hA
  have hS : va_S (aS 2 B) s.heap s.heap [] := va_S.rf
  refine lv_aload_n hx hb dX6_rewind_0 rfl (lv_at hl 0 rfl) ?_
  refine lv_iconst (v := nI (0)) hx hb dX6_rewind_1 gc_0 ?_
  refine g_put (ws' := twd cA B (tc) (nI (tl)) (nI (to)) (kd) (fi) (se) (nI (0)) (nu)) hx hb hts hown hK hP hD hS 0 rfl rfl gu_wsX60 tyX6_ok nmX6 6 (by decide) gm_5_3 rfl rfl rfl (Nat.le_of_ble_eq_true rfl) (by first | rfl | (rw [updN_nI]; rfl)) dX6_rewind_2 (fun H locs hP hD hS => ?_)
  exact g_vretW hx hb hr hlk hS dX6_rewind_5 (hP)

set_option maxHeartbeats 1000000 in
set_option maxRecDepth 100000 in
theorem c_X6_take (l : Launch) (D : va_G) (cA : Nat → ClassId) (B : Nat → Nat) (tc : Nat → Nat) (tl to : Nat) (kd fi se : Int32) (ta : Nat) (nu : Int32) (w : Nat) (hA : aInj 2 B) (htc : ∀ k, k < tl → tc k < 65536) (htl : tl ≤ 60) (hta : ta ≤ tl) (hw : w < 65536) : Met l yX6_take (gw yX6_take cX6_take 3 (some .boolean)) ({ frames := 1, cells := 0, slots := 0, locals := 20 } : Room) (gPc [.ref (B 0), .int (nI (w))] (fun H => va_P D vwCl (twd cA B (tc) (nI (tl)) (nI (to)) (kd) (fi) (se) (nI (ta)) (nu)) H) D cA) (wrI (fun r H => r = b2i (tkO tc tl ta w).1 ∧ va_P D vwCl (twd cA B (tc) (nI tl) (nI to) (kd) (fi) (se) (nI (tkO tc tl ta w).2) (nu)) H) (aS 2 B)) 0 0 (aS 2 B) := by
  refine gOf (by decide) (Nat.le_of_ble_eq_true rfl) ?_
  intro p e s m below meth c ls hx hb hml hr hlk hown hts hnm hP hK hl
  have hl : lv_has ls 3 [(0, .ref (B 0)), (1, .int (nI (w)))] := hl
  have hD : va_D (aS 2 B) (twd cA B (tc) (nI (tl)) (nI (to)) (kd) (fi) (se) (nI (ta)) (nu)) := twdD hA
  have hS : va_S (aS 2 B) s.heap s.heap [] := va_S.rf
  refine lv_aload_n hx hb dX6_take_0 rfl (lv_at hl 0 rfl) ?_
  refine rd_calle (va_runV (As := []) (rest := []) ⟨hx, hb, hml, hown, hts⟩ (c_X6_peek l D cA B (tc) (tl) (to) (kd) (fi) (se) (ta) (nu)  htc htl (by omega)) (cwV 0 hts (gWV gm_40_11 gm_40_12 gm_40_13 gm_2_9 gm_40_14) rfl rfl rfl (by decide +kernel) ⟨Nat.le_of_ble_eq_true rfl, Nat.le_of_ble_eq_true rfl⟩) (gPreV hK (g_rf hK hP (ci := 8) (q0 := 0) rfl rfl) hP) rfl rfl hl.1 rfl (lv_room (Nat.le_of_ble_eq_true rfl)) dX6_take_1 ⟨by omega, by omega⟩) ?_
  have hpk_1 := pkN_lt htc (ta)
  refine lv_iload_n hx hb dX6_take_4 rfl (lv_at hl 1 rfl) ?_
  refine g_icmp_ne (P := pkN tc tl ta = w) (tgt := 12) hx hb dX6_take_5 (by decide) (nI_eq (by omega) (by omega)) (fun c_2 => ?_) (fun c_2 => ?_)
  · refine lv_iconst (v := nI (0)) hx hb dX6_take_12 gc_0 ?_
    refine lv_istore_n (lv' := [(2, .int (nI (0))), (0, .ref (B 0)), (1, .int (nI (w)))]) hx hb dX6_take_13 rfl hl (by decide) rfl (fun ls hl => ?_)
    refine lv_aload_n hx hb dX6_take_14 rfl (lv_at hl 1 rfl) ?_
    refine lv_dup hx hb dX6_take_15 rfl ?_
    refine g_get (v := .int (nI (ta))) hx hb hts hown hK hP 0 rfl rfl gu_wsX60 6 (by decide) gm_5_3 rfl dX6_take_16 ?_
    refine lv_iload_n hx hb dX6_take_19 rfl (lv_at hl 0 rfl) ?_
    refine g_if_eq (P := 0 = 0) (tgt := 27) hx hb dX6_take_20 (by decide) (nI_z (by omega)) (fun c_3 => ?_) (fun c_3 => ?_)
    · refine lv_iconst (v := nI (0)) hx hb dX6_take_27 gc_0 ?_
      refine g_iadd hx hb dX6_take_28 ?_
      refine g_put (ws' := twd cA B (tc) (nI (tl)) (nI (to)) (kd) (fi) (se) (nI (ta + 0)) (nu)) hx hb hts hown hK hP hD hS 0 rfl rfl gu_wsX60 tyX6_ok nmX6 6 (by decide) gm_5_3 rfl rfl rfl (Nat.le_of_ble_eq_true rfl) (by first | rfl | (rw [updN_nI]; rfl)) dX6_take_29 (fun H locs hP hD hS => ?_)
      refine lv_iload_n hx hb dX6_take_32 rfl (lv_at hl 0 rfl) ?_
      exact g_zretW (v := nI (0)) hx hb hr hlk rfl hS dX6_take_33 (by rw [tkO, if_neg c_2]; exact ⟨rfl, hP⟩)
    · exact absurd c_3 (by decide)
  · refine lv_iconst (v := nI (1)) hx hb dX6_take_8 gc_1 ?_
    refine lv_goto (tgt := 13) hx hb dX6_take_9 (by decide) ?_
    refine lv_istore_n (lv' := [(2, .int (nI (1))), (0, .ref (B 0)), (1, .int (nI (w)))]) hx hb dX6_take_13 rfl hl (by decide) rfl (fun ls hl => ?_)
    refine lv_aload_n hx hb dX6_take_14 rfl (lv_at hl 1 rfl) ?_
    refine lv_dup hx hb dX6_take_15 rfl ?_
    refine g_get (v := .int (nI (ta))) hx hb hts hown hK hP 0 rfl rfl gu_wsX60 6 (by decide) gm_5_3 rfl dX6_take_16 ?_
    refine lv_iload_n hx hb dX6_take_19 rfl (lv_at hl 0 rfl) ?_
    refine g_if_eq (P := 1 = 0) (tgt := 27) hx hb dX6_take_20 (by decide) (nI_z (by omega)) (fun c_4 => ?_) (fun c_4 => ?_)
    · exact absurd c_4 (by decide)
    · refine lv_iconst (v := nI (1)) hx hb dX6_take_23 gc_1 ?_
      refine lv_goto (tgt := 28) hx hb dX6_take_24 (by decide) ?_
      refine g_iadd hx hb dX6_take_28 ?_
      refine g_put (ws' := twd cA B (tc) (nI (tl)) (nI (to)) (kd) (fi) (se) (nI (ta + 1)) (nu)) hx hb hts hown hK hP hD hS 0 rfl rfl gu_wsX60 tyX6_ok nmX6 6 (by decide) gm_5_3 rfl rfl rfl (Nat.le_of_ble_eq_true rfl) (by first | rfl | (rw [updN_nI]; rfl)) dX6_take_29 (fun H locs hP hD hS => ?_)
      refine lv_iload_n hx hb dX6_take_32 rfl (lv_at hl 0 rfl) ?_
      exact g_zretW (v := nI (1)) hx hb hr hlk rfl hS dX6_take_33 (by rw [tkO, if_pos c_2]; exact ⟨rfl, hP⟩)

set_option maxHeartbeats 1000000 in
set_option maxRecDepth 100000 in
theorem c_X6_readNumber (l : Launch) (D : va_G) (cA : Nat → ClassId) (B : Nat → Nat) (tc : Nat → Nat) (tl to : Nat) (kd fi se : Int32) (ta : Nat) (nu : Int32) (most : Nat) (sg : Bool) (hA : aInj 2 B) (htc : ∀ k, k < tl → tc k < 65536) (htl : tl ≤ 60) (hta : ta ≤ tl) (hm3 : most ≤ 3) : Met l yX6_readNumber (gw yX6_readNumber cX6_readNumber 5 (some .boolean)) ({ frames := 2, cells := 0, slots := 0, locals := 42 } : Room) (gPc [.ref (B 0), .int (nI (most)), .int (b2i (sg))] (fun H => va_P D vwCl (twd cA B (tc) (nI (tl)) (nI (to)) (kd) (fi) (se) (nI (ta)) (nu)) H) D cA) (wrI (fun r H => r = b2i (rnO tc tl ta most sg).1 ∧ va_P D vwCl (twd cA B (tc) (nI tl) (nI to) (kd) (fi) (se) (nI (rnO tc tl ta most sg).2.1) ((rnO tc tl ta most sg).2.2)) H) (aS 2 B)) 0 0 (aS 2 B) := by
  refine gOf (by decide) (Nat.le_of_ble_eq_true rfl) ?_
  intro p e s m below meth c ls hx hb hml hr hlk hown hts hnm hP hK hl
  have hl : lv_has ls 5 [(0, .ref (B 0)), (1, .int (nI (most))), (2, .int (b2i (sg)))] := hl
  have hD : va_D (aS 2 B) (twd cA B (tc) (nI (tl)) (nI (to)) (kd) (fi) (se) (nI (ta)) (nu)) := twdD hA
  have hS : va_S (aS 2 B) s.heap s.heap [] := va_S.rf
  refine lv_aload_n hx hb dX6_readNumber_0 rfl (lv_at hl 0 rfl) ?_
  refine lv_iconst (v := nI (0)) hx hb dX6_readNumber_1 gc_0 ?_
  refine g_put (ws' := twd cA B (tc) (nI (tl)) (nI (to)) (kd) (fi) (se) (nI (ta)) (nI (0))) hx hb hts hown hK hP hD hS 0 rfl rfl gu_wsX60 tyX6_ok nmX6 7 (by decide) gm_5_4 rfl rfl rfl (Nat.le_of_ble_eq_true rfl) (by first | rfl | (rw [updN_nI]; rfl)) dX6_readNumber_2 (fun H locs hP hD hS => ?_)
  refine lv_aload_n hx hb dX6_readNumber_5 rfl (lv_at hl 0 rfl) ?_
  refine lv_bipush (v := nI (32)) hx hb dX6_readNumber_6 gb_32 ?_
  refine wr_calli (va_runV (As := [.int (nI (32))]) (rest := []) ⟨hx, hb, hml, hown, hts⟩ (c_X6_take l D cA B (tc) (tl) (to) (kd) (fi) (se) (ta) (nI (0)) (32) hA htc htl (by omega) (by omega)) (cwV 1 hts (gWV gm_40_7 gm_40_8 gm_40_9 gm_2_9 gm_40_10) rfl rfl rfl (by decide +kernel) ⟨Nat.le_of_ble_eq_true rfl, Nat.le_of_ble_eq_true rfl⟩) (gPreV hK (g_rf hK hP (ci := 8) (q0 := 0) rfl rfl) hP) rfl rfl hl.1 rfl (lv_room (Nat.le_of_ble_eq_true rfl)) dX6_readNumber_8 ⟨by omega, by omega⟩) hS (fun q _ h => h) (fun q h => h) (fun r H locs hw9 hz9 hk9 hS => ?_)
  obtain ⟨rfl, hP⟩ := hw9
  have hP : va_P D vwCl (twd cA B (tc) (nI (tl)) (nI (to)) (kd) (fi) (se) (nI ((tkO tc tl ta (32)).2)) (nI (0))) H := hP
  have hD : va_D (aS 2 B) (twd cA B (tc) (nI (tl)) (nI (to)) (kd) (fi) (se) (nI ((tkO tc tl ta (32)).2)) (nI (0))) := twdD hA
  refine g_if_ne (P := (tkO tc tl ta (32)).1 = false) (tgt := 16) hx hb dX6_readNumber_11 (by decide) b2i_0 (fun c_1 => ?_) (fun c_1 => ?_)
  · have c_1 : (tkO tc tl ta (32)).1 = true := eq_true_of_ne_false c_1
    have hta1 := tkO_lt (by decide) c_1
    rw [tkO_t c_1] at hP
    have hD : va_D (aS 2 B) (twd cA B (tc) (nI (tl)) (nI (to)) (kd) (fi) (se) (nI (ta + 1)) (nI (0))) := twdD hA
    refine lv_iload_n hx hb dX6_readNumber_16 rfl (lv_at hl 2 rfl) ?_
    refine g_if_eq (P := sg = false) (tgt := 33) hx hb dX6_readNumber_17 (by decide) b2i_0 (fun c_2 => ?_) (fun c_2 => ?_)
    · refine lv_iconst (v := nI (0)) hx hb dX6_readNumber_33 gc_0 ?_
      refine lv_istore_n (lv' := [(3, .int (nI (0))), (0, .ref (B 0)), (1, .int (nI (most))), (2, .int (b2i (sg)))]) hx hb dX6_readNumber_34 rfl hl (by decide) rfl (fun ls hl => ?_)
      refine lv_iconst (v := nI (0)) hx hb dX6_readNumber_35 gc_0 ?_
      refine lv_istore (lv' := [(4, .int (nI (0))), (3, .int (nI (0))), (0, .ref (B 0)), (1, .int (nI (most))), (2, .int (b2i (sg)))]) hx hb dX6_readNumber_36 hl (by decide) rfl (fun ls hl => ?_)
      have LP_8 : ∀ (n_4 i_3 : Nat) (x_5 X_6 X_7 : Int32) (H : Heap) (locs : List Loc), i_3 ≤ most → most + 1 ≤ i_3 + n_4 → x_5 = nI (i_3) → X_6 = dgV tc tl (ta + 1) i_3 → X_7 = nI (ta + 1 + i_3) → (fnd (dgP tc tl (ta + 1)) (i_3) = none) → va_P D vwCl (twd cA B (tc) (nI (tl)) (nI (to)) (kd) (fi) (se) (X_7) (X_6)) H → va_S (aS 2 B) s.heap H locs → ∀ (ls : Array Slot), lv_has ls 5 [(4, .int (x_5)), (3, .int (nI (0))), (0, .ref (B 0)), (1, .int (nI (most))), (2, .int (b2i (sg)))] → W p l e ({ frames := 2, cells := 0, slots := 0, locals := 42 } : Room) s m ([.ref (B 0), .int (nI (most)), .int (b2i (sg))] : List Value).toArray below meth c H locs 0 0 (MQ below (wrI (fun r H => r = b2i (rnO tc tl ta most sg).1 ∧ va_P D vwCl (twd cA B (tc) (nI tl) (nI to) (kd) (fi) (se) (nI (rnO tc tl ta most sg).2.1) ((rnO tc tl ta most sg).2.2)) H) (aS 2 B)) ([.ref (B 0), .int (nI (most)), .int (b2i (sg))] : List Value).toArray s 0 0 (aS 2 B)) (F0 m 38 ls []) := by
        intro n_4
        induction n_4 with
        | zero => intro i_3 x_5 X_6 X_7 H locs h1 h2; exact absurd h2 (by omega)
        | succ n_4 ih_9 =>
          intro i_3 x_5 X_6 X_7 H locs h_10 h_11 e_12 e_13 e_14 hv hP hS ls hl
          subst e_12
          subst e_13
          subst e_14
          have hD : va_D (aS 2 B) (twd cA B (tc) (nI (tl)) (nI (to)) (kd) (fi) (se) (nI (ta + 1 + i_3)) (dgV tc tl (ta + 1) i_3)) := twdD hA
          have hle9 := dgP_le (tc := tc) (tl := tl) (a := ta + 1) (by omega) i_3 hv
          refine lv_iload hx hb dX6_readNumber_38 (lv_at hl 0 rfl) ?_
          refine lv_iload_n hx hb dX6_readNumber_40 rfl (lv_at hl 3 rfl) ?_
          refine g_icmp_ge (P := most ≤ i_3) (tgt := 89) hx hb dX6_readNumber_41 (by decide) (nI_leI (by omega) (by omega)) (fun c_15 => ?_) (fun c_15 => ?_)
          · have d_15 : ¬ i_3 < most := Nat.not_lt.mpr c_15
            have hN_16 : most = i_3 := by omega
            subst hN_16
            refine lv_aload_n hx hb dX6_readNumber_89 rfl (lv_at hl 2 rfl) ?_
            refine lv_iload_n hx hb dX6_readNumber_90 rfl (lv_at hl 1 rfl) ?_
            refine g_if_eq (P := 0 = 0) (tgt := 102) hx hb dX6_readNumber_91 (by decide) (nI_z (by omega)) (fun c_17 => ?_) (fun c_17 => ?_)
            · refine lv_aload_n hx hb dX6_readNumber_102 rfl (lv_at hl 2 rfl) ?_
              refine g_get (v := .int (dgV tc tl (ta + 1) (most))) hx hb hts hown hK hP 0 rfl rfl gu_wsX60 7 (by decide) gm_5_4 rfl dX6_readNumber_103 ?_
              refine g_put (ws' := twd cA B (tc) (nI (tl)) (nI (to)) (kd) (fi) (se) (nI (ta + 1 + (most))) (dgV tc tl (ta + 1) (most))) hx hb hts hown hK hP hD hS 0 rfl rfl gu_wsX60 tyX6_ok nmX6 7 (by decide) gm_5_4 rfl rfl rfl (Nat.le_of_ble_eq_true rfl) (by first | rfl | (rw [updN_nI]; rfl)) dX6_readNumber_106 (fun H locs hP hD hS => ?_)
              refine lv_iload hx hb dX6_readNumber_109 (lv_at hl 0 rfl) ?_
              refine g_if_le (P := (most) = 0) (tgt := 118) hx hb dX6_readNumber_111 (by decide) (nI_ez (a := (most)) (by omega)) (fun c_18 => ?_) (fun c_18 => ?_)
              · refine lv_iconst (v := nI (0)) hx hb dX6_readNumber_118 gc_0 ?_
                exact g_zretW (v := nI (0)) hx hb hr hlk rfl hS dX6_readNumber_119 (by have e8 := dgN_all hv ; have e9 : rnO tc tl ta most sg = rnA tc tl (ta + 1) most false := (by rw [rnO, if_pos c_1, if_neg (by rw [c_2]; exact Bool.false_ne_true)]) ; rw [e9, rnA, e8]; exact ⟨by rw [decide_eq_false (by omega)]; rfl, hP⟩)
              · refine lv_iconst (v := nI (1)) hx hb dX6_readNumber_114 gc_1 ?_
                refine lv_goto (tgt := 119) hx hb dX6_readNumber_115 (by decide) ?_
                exact g_zretW (v := nI (1)) hx hb hr hlk rfl hS dX6_readNumber_119 (by have e8 := dgN_all hv ; have e9 : rnO tc tl ta most sg = rnA tc tl (ta + 1) most false := (by rw [rnO, if_pos c_1, if_neg (by rw [c_2]; exact Bool.false_ne_true)]) ; rw [e9, rnA, e8]; exact ⟨by rw [decide_eq_true (by omega)]; rfl, hP⟩)
            · exact absurd c_17 (by decide)
          · have d_15 : i_3 < most := Nat.not_le.mp c_15
            refine lv_aload_n hx hb dX6_readNumber_44 rfl (lv_at hl 2 rfl) ?_
            refine rd_calle (va_runV (As := []) (rest := []) ⟨hx, hb, hml, hown, hts⟩ (c_X6_peek l D cA B (tc) (tl) (to) (kd) (fi) (se) (ta + 1 + i_3) (dgV tc tl (ta + 1) i_3)  htc htl (by omega)) (cwV 0 hts (gWV gm_40_11 gm_40_12 gm_40_13 gm_2_9 gm_40_14) rfl rfl rfl (by decide +kernel) ⟨Nat.le_of_ble_eq_true rfl, Nat.le_of_ble_eq_true rfl⟩) (gPreV hK (g_rf hK hP (ci := 8) (q0 := 0) rfl rfl) hP) rfl rfl hl.1 rfl (lv_room (Nat.le_of_ble_eq_true rfl)) dX6_readNumber_45 ⟨by omega, by omega⟩) ?_
            have hpk_19 := pkN_lt htc (ta + 1 + i_3)
            refine rd_calle (va_runS (As := [.int (nI (pkN tc tl (ta + 1 + i_3)))]) (rest := []) ⟨hx, hb, hml, hown, hts⟩ (c_X6_isDigit l D cA (pkN tc tl (ta + 1 + i_3)) (by omega)) (cwS 1 hts (gWS gm_43_12 gm_43_13 gm_2_9 gm_43_14) rfl rfl rfl (by decide +kernel) ⟨Nat.le_of_ble_eq_true rfl, Nat.le_of_ble_eq_true rfl⟩) (gPreS hK trivial) rfl rfl hl.1 rfl (lv_room (Nat.le_of_ble_eq_true rfl)) dX6_readNumber_48 ⟨by omega, by omega⟩) ?_
            refine g_if_eq (P := dgB (pkN tc tl (ta + 1 + i_3)) = false) (tgt := 89) hx hb dX6_readNumber_51 (by decide) b2i_0 (fun c_20 => ?_) (fun c_20 => ?_)
            · refine lv_aload_n hx hb dX6_readNumber_89 rfl (lv_at hl 2 rfl) ?_
              refine lv_iload_n hx hb dX6_readNumber_90 rfl (lv_at hl 1 rfl) ?_
              refine g_if_eq (P := 0 = 0) (tgt := 102) hx hb dX6_readNumber_91 (by decide) (nI_z (by omega)) (fun c_21 => ?_) (fun c_21 => ?_)
              · refine lv_aload_n hx hb dX6_readNumber_102 rfl (lv_at hl 2 rfl) ?_
                refine g_get (v := .int (dgV tc tl (ta + 1) i_3)) hx hb hts hown hK hP 0 rfl rfl gu_wsX60 7 (by decide) gm_5_4 rfl dX6_readNumber_103 ?_
                refine g_put (ws' := twd cA B (tc) (nI (tl)) (nI (to)) (kd) (fi) (se) (nI (ta + 1 + i_3)) (dgV tc tl (ta + 1) i_3)) hx hb hts hown hK hP hD hS 0 rfl rfl gu_wsX60 tyX6_ok nmX6 7 (by decide) gm_5_4 rfl rfl rfl (Nat.le_of_ble_eq_true rfl) (by first | rfl | (rw [updN_nI]; rfl)) dX6_readNumber_106 (fun H locs hP hD hS => ?_)
                refine lv_iload hx hb dX6_readNumber_109 (lv_at hl 0 rfl) ?_
                refine g_if_le (P := i_3 = 0) (tgt := 118) hx hb dX6_readNumber_111 (by decide) (nI_ez (a := i_3) (by omega)) (fun c_22 => ?_) (fun c_22 => ?_)
                · refine lv_iconst (v := nI (0)) hx hb dX6_readNumber_118 gc_0 ?_
                  exact g_zretW (v := nI (0)) hx hb hr hlk rfl hS dX6_readNumber_119 (by have e8 := dgN_at hv c_20 (by omega) ; have e9 : rnO tc tl ta most sg = rnA tc tl (ta + 1) most false := (by rw [rnO, if_pos c_1, if_neg (by rw [c_2]; exact Bool.false_ne_true)]) ; rw [e9, rnA, e8]; exact ⟨by rw [decide_eq_false (by omega)]; rfl, hP⟩)
                · refine lv_iconst (v := nI (1)) hx hb dX6_readNumber_114 gc_1 ?_
                  refine lv_goto (tgt := 119) hx hb dX6_readNumber_115 (by decide) ?_
                  exact g_zretW (v := nI (1)) hx hb hr hlk rfl hS dX6_readNumber_119 (by have e8 := dgN_at hv c_20 (by omega) ; have e9 : rnO tc tl ta most sg = rnA tc tl (ta + 1) most false := (by rw [rnO, if_pos c_1, if_neg (by rw [c_2]; exact Bool.false_ne_true)]) ; rw [e9, rnA, e8]; exact ⟨by rw [decide_eq_true (by omega)]; rfl, hP⟩)
              · exact absurd c_21 (by decide)
            · have c_20 : dgB (pkN tc tl (ta + 1 + i_3)) = true := eq_true_of_ne_false c_20
              refine lv_aload_n hx hb dX6_readNumber_54 rfl (lv_at hl 2 rfl) ?_
              refine lv_bipush (v := nI (10)) hx hb dX6_readNumber_55 gb_10 ?_
              refine lv_aload_n hx hb dX6_readNumber_57 rfl (lv_at hl 2 rfl) ?_
              refine g_get (v := .int (dgV tc tl (ta + 1) i_3)) hx hb hts hown hK hP 0 rfl rfl gu_wsX60 7 (by decide) gm_5_4 rfl dX6_readNumber_58 ?_
              refine lv_imul hx hb dX6_readNumber_61 ?_
              refine lv_aload_n hx hb dX6_readNumber_62 rfl (lv_at hl 2 rfl) ?_
              refine rd_calle (va_runV (As := []) (rest := [.int ((nI (10)) * (dgV tc tl (ta + 1) i_3)), .ref (B 0)]) ⟨hx, hb, hml, hown, hts⟩ (c_X6_peek l D cA B (tc) (tl) (to) (kd) (fi) (se) (ta + 1 + i_3) (dgV tc tl (ta + 1) i_3)  htc htl (by omega)) (cwV 0 hts (gWV gm_40_11 gm_40_12 gm_40_13 gm_2_9 gm_40_14) rfl rfl rfl (by decide +kernel) ⟨Nat.le_of_ble_eq_true rfl, Nat.le_of_ble_eq_true rfl⟩) (gPreV hK (g_rf hK hP (ci := 8) (q0 := 0) rfl rfl) hP) rfl rfl hl.1 rfl (lv_room (Nat.le_of_ble_eq_true rfl)) dX6_readNumber_63 ⟨by omega, by omega⟩) ?_
              have hpk_23 := pkN_lt htc (ta + 1 + i_3)
              refine lv_bipush (v := nI (48)) hx hb dX6_readNumber_66 gb_48 ?_
              refine lv_isub hx hb dX6_readNumber_68 ?_
              refine lv_iadd hx hb dX6_readNumber_69 ?_
              refine g_put (ws' := twd cA B (tc) (nI (tl)) (nI (to)) (kd) (fi) (se) (nI (ta + 1 + i_3)) (((nI (10)) * (dgV tc tl (ta + 1) i_3)) + ((nI (pkN tc tl (ta + 1 + i_3))) - (nI (48))))) hx hb hts hown hK hP hD hS 0 rfl rfl gu_wsX60 tyX6_ok nmX6 7 (by decide) gm_5_4 rfl rfl rfl (Nat.le_of_ble_eq_true rfl) (by first | rfl | (rw [updN_nI]; rfl)) dX6_readNumber_70 (fun H locs hP hD hS => ?_)
              refine lv_aload_n hx hb dX6_readNumber_73 rfl (lv_at hl 2 rfl) ?_
              refine lv_dup hx hb dX6_readNumber_74 rfl ?_
              refine g_get (v := .int (nI (ta + 1 + i_3))) hx hb hts hown hK hP 0 rfl rfl gu_wsX60 6 (by decide) gm_5_3 rfl dX6_readNumber_75 ?_
              refine lv_iconst (v := nI (1)) hx hb dX6_readNumber_78 gc_1 ?_
              refine g_iadd hx hb dX6_readNumber_79 ?_
              refine g_put (ws' := twd cA B (tc) (nI (tl)) (nI (to)) (kd) (fi) (se) (nI ((ta + 1 + i_3) + (1))) (((nI (10)) * (dgV tc tl (ta + 1) i_3)) + ((nI (pkN tc tl (ta + 1 + i_3))) - (nI (48))))) hx hb hts hown hK hP hD hS 0 rfl rfl gu_wsX60 tyX6_ok nmX6 6 (by decide) gm_5_3 rfl rfl rfl (Nat.le_of_ble_eq_true rfl) (by first | rfl | (rw [updN_nI]; rfl)) dX6_readNumber_80 (fun H locs hP hD hS => ?_)
              refine lv_iinc (v := nI (i_3 + 1)) (lv' := [(4, .int (nI (i_3 + 1))), (3, .int (nI (0))), (0, .ref (B 0)), (1, .int (nI (most))), (2, .int (b2i (sg)))]) hx hb dX6_readNumber_83 hl (k := 0) rfl (inc_1 _) (by decide) rfl (fun ls hl => ?_)
              refine lv_goto (tgt := 38) hx hb dX6_readNumber_86 (by decide) ?_
              exact ih_9 (i_3 + 1) _ (((nI (10)) * (dgV tc tl (ta + 1) i_3)) + ((nI (pkN tc tl (ta + 1 + i_3))) - (nI (48)))) (nI ((ta + 1 + i_3) + (1))) H locs (by omega) (by omega) rfl rfl rfl (dgP_no hv c_20) hP hS ls (lv_sub hl [0, 1, 2, 3, 4] rfl)
      exact LP_8 (most + 1) 0 _ (nI (0)) (nI (ta + 1)) H locs (by omega) (by omega) rfl rfl rfl rfl hP hS ls (lv_sub hl [0, 1, 2, 3, 4] rfl)
    · have c_2 : sg = true := eq_true_of_ne_false c_2
      refine lv_aload_n hx hb dX6_readNumber_20 rfl (lv_at hl 0 rfl) ?_
      refine lv_bipush (v := nI (45)) hx hb dX6_readNumber_21 gb_45 ?_
      refine wr_calli (va_runV (As := [.int (nI (45))]) (rest := []) ⟨hx, hb, hml, hown, hts⟩ (c_X6_take l D cA B (tc) (tl) (to) (kd) (fi) (se) (ta + 1) (nI (0)) (45) hA htc htl (by omega) (by omega)) (cwV 1 hts (gWV gm_40_7 gm_40_8 gm_40_9 gm_2_9 gm_40_10) rfl rfl rfl (by decide +kernel) ⟨Nat.le_of_ble_eq_true rfl, Nat.le_of_ble_eq_true rfl⟩) (gPreV hK (g_rf hK hP (ci := 8) (q0 := 0) rfl rfl) hP) rfl rfl hl.1 rfl (lv_room (Nat.le_of_ble_eq_true rfl)) dX6_readNumber_23 ⟨by omega, by omega⟩) hS (fun q _ h => h) (fun q h => h) (fun r H locs hw9 hz9 hk9 hS => ?_)
      obtain ⟨rfl, hP⟩ := hw9
      have hP : va_P D vwCl (twd cA B (tc) (nI (tl)) (nI (to)) (kd) (fi) (se) (nI ((tkO tc tl (ta + 1) (45)).2)) (nI (0))) H := hP
      have hD : va_D (aS 2 B) (twd cA B (tc) (nI (tl)) (nI (to)) (kd) (fi) (se) (nI ((tkO tc tl (ta + 1) (45)).2)) (nI (0))) := twdD hA
      refine g_if_eq (P := (tkO tc tl (ta + 1) (45)).1 = false) (tgt := 33) hx hb dX6_readNumber_26 (by decide) b2i_0 (fun c_24 => ?_) (fun c_24 => ?_)
      · rw [tkO_f c_24] at hP
        have hD : va_D (aS 2 B) (twd cA B (tc) (nI (tl)) (nI (to)) (kd) (fi) (se) (nI (ta + 1)) (nI (0))) := twdD hA
        refine lv_iconst (v := nI (0)) hx hb dX6_readNumber_33 gc_0 ?_
        refine lv_istore_n (lv' := [(3, .int (nI (0))), (0, .ref (B 0)), (1, .int (nI (most))), (2, .int (b2i (sg)))]) hx hb dX6_readNumber_34 rfl hl (by decide) rfl (fun ls hl => ?_)
        refine lv_iconst (v := nI (0)) hx hb dX6_readNumber_35 gc_0 ?_
        refine lv_istore (lv' := [(4, .int (nI (0))), (3, .int (nI (0))), (0, .ref (B 0)), (1, .int (nI (most))), (2, .int (b2i (sg)))]) hx hb dX6_readNumber_36 hl (by decide) rfl (fun ls hl => ?_)
        have LP_30 : ∀ (n_26 i_25 : Nat) (x_27 X_28 X_29 : Int32) (H : Heap) (locs : List Loc), i_25 ≤ most → most + 1 ≤ i_25 + n_26 → x_27 = nI (i_25) → X_28 = dgV tc tl (ta + 1) i_25 → X_29 = nI (ta + 1 + i_25) → (fnd (dgP tc tl (ta + 1)) (i_25) = none) → va_P D vwCl (twd cA B (tc) (nI (tl)) (nI (to)) (kd) (fi) (se) (X_29) (X_28)) H → va_S (aS 2 B) s.heap H locs → ∀ (ls : Array Slot), lv_has ls 5 [(4, .int (x_27)), (3, .int (nI (0))), (0, .ref (B 0)), (1, .int (nI (most))), (2, .int (b2i (sg)))] → W p l e ({ frames := 2, cells := 0, slots := 0, locals := 42 } : Room) s m ([.ref (B 0), .int (nI (most)), .int (b2i (sg))] : List Value).toArray below meth c H locs 0 0 (MQ below (wrI (fun r H => r = b2i (rnO tc tl ta most sg).1 ∧ va_P D vwCl (twd cA B (tc) (nI tl) (nI to) (kd) (fi) (se) (nI (rnO tc tl ta most sg).2.1) ((rnO tc tl ta most sg).2.2)) H) (aS 2 B)) ([.ref (B 0), .int (nI (most)), .int (b2i (sg))] : List Value).toArray s 0 0 (aS 2 B)) (F0 m 38 ls []) := by
          intro n_26
          induction n_26 with
          | zero => intro i_25 x_27 X_28 X_29 H locs h1 h2; exact absurd h2 (by omega)
          | succ n_26 ih_31 =>
            intro i_25 x_27 X_28 X_29 H locs h_32 h_33 e_34 e_35 e_36 hv hP hS ls hl
            subst e_34
            subst e_35
            subst e_36
            have hD : va_D (aS 2 B) (twd cA B (tc) (nI (tl)) (nI (to)) (kd) (fi) (se) (nI (ta + 1 + i_25)) (dgV tc tl (ta + 1) i_25)) := twdD hA
            have hle9 := dgP_le (tc := tc) (tl := tl) (a := ta + 1) (by omega) i_25 hv
            refine lv_iload hx hb dX6_readNumber_38 (lv_at hl 0 rfl) ?_
            refine lv_iload_n hx hb dX6_readNumber_40 rfl (lv_at hl 3 rfl) ?_
            refine g_icmp_ge (P := most ≤ i_25) (tgt := 89) hx hb dX6_readNumber_41 (by decide) (nI_leI (by omega) (by omega)) (fun c_37 => ?_) (fun c_37 => ?_)
            · have d_37 : ¬ i_25 < most := Nat.not_lt.mpr c_37
              have hN_38 : most = i_25 := by omega
              subst hN_38
              refine lv_aload_n hx hb dX6_readNumber_89 rfl (lv_at hl 2 rfl) ?_
              refine lv_iload_n hx hb dX6_readNumber_90 rfl (lv_at hl 1 rfl) ?_
              refine g_if_eq (P := 0 = 0) (tgt := 102) hx hb dX6_readNumber_91 (by decide) (nI_z (by omega)) (fun c_39 => ?_) (fun c_39 => ?_)
              · refine lv_aload_n hx hb dX6_readNumber_102 rfl (lv_at hl 2 rfl) ?_
                refine g_get (v := .int (dgV tc tl (ta + 1) (most))) hx hb hts hown hK hP 0 rfl rfl gu_wsX60 7 (by decide) gm_5_4 rfl dX6_readNumber_103 ?_
                refine g_put (ws' := twd cA B (tc) (nI (tl)) (nI (to)) (kd) (fi) (se) (nI (ta + 1 + (most))) (dgV tc tl (ta + 1) (most))) hx hb hts hown hK hP hD hS 0 rfl rfl gu_wsX60 tyX6_ok nmX6 7 (by decide) gm_5_4 rfl rfl rfl (Nat.le_of_ble_eq_true rfl) (by first | rfl | (rw [updN_nI]; rfl)) dX6_readNumber_106 (fun H locs hP hD hS => ?_)
                refine lv_iload hx hb dX6_readNumber_109 (lv_at hl 0 rfl) ?_
                refine g_if_le (P := (most) = 0) (tgt := 118) hx hb dX6_readNumber_111 (by decide) (nI_ez (a := (most)) (by omega)) (fun c_40 => ?_) (fun c_40 => ?_)
                · refine lv_iconst (v := nI (0)) hx hb dX6_readNumber_118 gc_0 ?_
                  exact g_zretW (v := nI (0)) hx hb hr hlk rfl hS dX6_readNumber_119 (by have e8 := dgN_all hv ; have e9 : rnO tc tl ta most sg = rnA tc tl (ta + 1) most false := (by rw [rnO, if_pos c_1, if_neg (by rw [c_2, c_24]; decide)]) ; rw [e9, rnA, e8]; exact ⟨by rw [decide_eq_false (by omega)]; rfl, hP⟩)
                · refine lv_iconst (v := nI (1)) hx hb dX6_readNumber_114 gc_1 ?_
                  refine lv_goto (tgt := 119) hx hb dX6_readNumber_115 (by decide) ?_
                  exact g_zretW (v := nI (1)) hx hb hr hlk rfl hS dX6_readNumber_119 (by have e8 := dgN_all hv ; have e9 : rnO tc tl ta most sg = rnA tc tl (ta + 1) most false := (by rw [rnO, if_pos c_1, if_neg (by rw [c_2, c_24]; decide)]) ; rw [e9, rnA, e8]; exact ⟨by rw [decide_eq_true (by omega)]; rfl, hP⟩)
              · exact absurd c_39 (by decide)
            · have d_37 : i_25 < most := Nat.not_le.mp c_37
              refine lv_aload_n hx hb dX6_readNumber_44 rfl (lv_at hl 2 rfl) ?_
              refine rd_calle (va_runV (As := []) (rest := []) ⟨hx, hb, hml, hown, hts⟩ (c_X6_peek l D cA B (tc) (tl) (to) (kd) (fi) (se) (ta + 1 + i_25) (dgV tc tl (ta + 1) i_25)  htc htl (by omega)) (cwV 0 hts (gWV gm_40_11 gm_40_12 gm_40_13 gm_2_9 gm_40_14) rfl rfl rfl (by decide +kernel) ⟨Nat.le_of_ble_eq_true rfl, Nat.le_of_ble_eq_true rfl⟩) (gPreV hK (g_rf hK hP (ci := 8) (q0 := 0) rfl rfl) hP) rfl rfl hl.1 rfl (lv_room (Nat.le_of_ble_eq_true rfl)) dX6_readNumber_45 ⟨by omega, by omega⟩) ?_
              have hpk_41 := pkN_lt htc (ta + 1 + i_25)
              refine rd_calle (va_runS (As := [.int (nI (pkN tc tl (ta + 1 + i_25)))]) (rest := []) ⟨hx, hb, hml, hown, hts⟩ (c_X6_isDigit l D cA (pkN tc tl (ta + 1 + i_25)) (by omega)) (cwS 1 hts (gWS gm_43_12 gm_43_13 gm_2_9 gm_43_14) rfl rfl rfl (by decide +kernel) ⟨Nat.le_of_ble_eq_true rfl, Nat.le_of_ble_eq_true rfl⟩) (gPreS hK trivial) rfl rfl hl.1 rfl (lv_room (Nat.le_of_ble_eq_true rfl)) dX6_readNumber_48 ⟨by omega, by omega⟩) ?_
              refine g_if_eq (P := dgB (pkN tc tl (ta + 1 + i_25)) = false) (tgt := 89) hx hb dX6_readNumber_51 (by decide) b2i_0 (fun c_42 => ?_) (fun c_42 => ?_)
              · refine lv_aload_n hx hb dX6_readNumber_89 rfl (lv_at hl 2 rfl) ?_
                refine lv_iload_n hx hb dX6_readNumber_90 rfl (lv_at hl 1 rfl) ?_
                refine g_if_eq (P := 0 = 0) (tgt := 102) hx hb dX6_readNumber_91 (by decide) (nI_z (by omega)) (fun c_43 => ?_) (fun c_43 => ?_)
                · refine lv_aload_n hx hb dX6_readNumber_102 rfl (lv_at hl 2 rfl) ?_
                  refine g_get (v := .int (dgV tc tl (ta + 1) i_25)) hx hb hts hown hK hP 0 rfl rfl gu_wsX60 7 (by decide) gm_5_4 rfl dX6_readNumber_103 ?_
                  refine g_put (ws' := twd cA B (tc) (nI (tl)) (nI (to)) (kd) (fi) (se) (nI (ta + 1 + i_25)) (dgV tc tl (ta + 1) i_25)) hx hb hts hown hK hP hD hS 0 rfl rfl gu_wsX60 tyX6_ok nmX6 7 (by decide) gm_5_4 rfl rfl rfl (Nat.le_of_ble_eq_true rfl) (by first | rfl | (rw [updN_nI]; rfl)) dX6_readNumber_106 (fun H locs hP hD hS => ?_)
                  refine lv_iload hx hb dX6_readNumber_109 (lv_at hl 0 rfl) ?_
                  refine g_if_le (P := i_25 = 0) (tgt := 118) hx hb dX6_readNumber_111 (by decide) (nI_ez (a := i_25) (by omega)) (fun c_44 => ?_) (fun c_44 => ?_)
                  · refine lv_iconst (v := nI (0)) hx hb dX6_readNumber_118 gc_0 ?_
                    exact g_zretW (v := nI (0)) hx hb hr hlk rfl hS dX6_readNumber_119 (by have e8 := dgN_at hv c_42 (by omega) ; have e9 : rnO tc tl ta most sg = rnA tc tl (ta + 1) most false := (by rw [rnO, if_pos c_1, if_neg (by rw [c_2, c_24]; decide)]) ; rw [e9, rnA, e8]; exact ⟨by rw [decide_eq_false (by omega)]; rfl, hP⟩)
                  · refine lv_iconst (v := nI (1)) hx hb dX6_readNumber_114 gc_1 ?_
                    refine lv_goto (tgt := 119) hx hb dX6_readNumber_115 (by decide) ?_
                    exact g_zretW (v := nI (1)) hx hb hr hlk rfl hS dX6_readNumber_119 (by have e8 := dgN_at hv c_42 (by omega) ; have e9 : rnO tc tl ta most sg = rnA tc tl (ta + 1) most false := (by rw [rnO, if_pos c_1, if_neg (by rw [c_2, c_24]; decide)]) ; rw [e9, rnA, e8]; exact ⟨by rw [decide_eq_true (by omega)]; rfl, hP⟩)
                · exact absurd c_43 (by decide)
              · have c_42 : dgB (pkN tc tl (ta + 1 + i_25)) = true := eq_true_of_ne_false c_42
                refine lv_aload_n hx hb dX6_readNumber_54 rfl (lv_at hl 2 rfl) ?_
                refine lv_bipush (v := nI (10)) hx hb dX6_readNumber_55 gb_10 ?_
                refine lv_aload_n hx hb dX6_readNumber_57 rfl (lv_at hl 2 rfl) ?_
                refine g_get (v := .int (dgV tc tl (ta + 1) i_25)) hx hb hts hown hK hP 0 rfl rfl gu_wsX60 7 (by decide) gm_5_4 rfl dX6_readNumber_58 ?_
                refine lv_imul hx hb dX6_readNumber_61 ?_
                refine lv_aload_n hx hb dX6_readNumber_62 rfl (lv_at hl 2 rfl) ?_
                refine rd_calle (va_runV (As := []) (rest := [.int ((nI (10)) * (dgV tc tl (ta + 1) i_25)), .ref (B 0)]) ⟨hx, hb, hml, hown, hts⟩ (c_X6_peek l D cA B (tc) (tl) (to) (kd) (fi) (se) (ta + 1 + i_25) (dgV tc tl (ta + 1) i_25)  htc htl (by omega)) (cwV 0 hts (gWV gm_40_11 gm_40_12 gm_40_13 gm_2_9 gm_40_14) rfl rfl rfl (by decide +kernel) ⟨Nat.le_of_ble_eq_true rfl, Nat.le_of_ble_eq_true rfl⟩) (gPreV hK (g_rf hK hP (ci := 8) (q0 := 0) rfl rfl) hP) rfl rfl hl.1 rfl (lv_room (Nat.le_of_ble_eq_true rfl)) dX6_readNumber_63 ⟨by omega, by omega⟩) ?_
                have hpk_45 := pkN_lt htc (ta + 1 + i_25)
                refine lv_bipush (v := nI (48)) hx hb dX6_readNumber_66 gb_48 ?_
                refine lv_isub hx hb dX6_readNumber_68 ?_
                refine lv_iadd hx hb dX6_readNumber_69 ?_
                refine g_put (ws' := twd cA B (tc) (nI (tl)) (nI (to)) (kd) (fi) (se) (nI (ta + 1 + i_25)) (((nI (10)) * (dgV tc tl (ta + 1) i_25)) + ((nI (pkN tc tl (ta + 1 + i_25))) - (nI (48))))) hx hb hts hown hK hP hD hS 0 rfl rfl gu_wsX60 tyX6_ok nmX6 7 (by decide) gm_5_4 rfl rfl rfl (Nat.le_of_ble_eq_true rfl) (by first | rfl | (rw [updN_nI]; rfl)) dX6_readNumber_70 (fun H locs hP hD hS => ?_)
                refine lv_aload_n hx hb dX6_readNumber_73 rfl (lv_at hl 2 rfl) ?_
                refine lv_dup hx hb dX6_readNumber_74 rfl ?_
                refine g_get (v := .int (nI (ta + 1 + i_25))) hx hb hts hown hK hP 0 rfl rfl gu_wsX60 6 (by decide) gm_5_3 rfl dX6_readNumber_75 ?_
                refine lv_iconst (v := nI (1)) hx hb dX6_readNumber_78 gc_1 ?_
                refine g_iadd hx hb dX6_readNumber_79 ?_
                refine g_put (ws' := twd cA B (tc) (nI (tl)) (nI (to)) (kd) (fi) (se) (nI ((ta + 1 + i_25) + (1))) (((nI (10)) * (dgV tc tl (ta + 1) i_25)) + ((nI (pkN tc tl (ta + 1 + i_25))) - (nI (48))))) hx hb hts hown hK hP hD hS 0 rfl rfl gu_wsX60 tyX6_ok nmX6 6 (by decide) gm_5_3 rfl rfl rfl (Nat.le_of_ble_eq_true rfl) (by first | rfl | (rw [updN_nI]; rfl)) dX6_readNumber_80 (fun H locs hP hD hS => ?_)
                refine lv_iinc (v := nI (i_25 + 1)) (lv' := [(4, .int (nI (i_25 + 1))), (3, .int (nI (0))), (0, .ref (B 0)), (1, .int (nI (most))), (2, .int (b2i (sg)))]) hx hb dX6_readNumber_83 hl (k := 0) rfl (inc_1 _) (by decide) rfl (fun ls hl => ?_)
                refine lv_goto (tgt := 38) hx hb dX6_readNumber_86 (by decide) ?_
                exact ih_31 (i_25 + 1) _ (((nI (10)) * (dgV tc tl (ta + 1) i_25)) + ((nI (pkN tc tl (ta + 1 + i_25))) - (nI (48)))) (nI ((ta + 1 + i_25) + (1))) H locs (by omega) (by omega) rfl rfl rfl (dgP_no hv c_42) hP hS ls (lv_sub hl [0, 1, 2, 3, 4] rfl)
        exact LP_30 (most + 1) 0 _ (nI (0)) (nI (ta + 1)) H locs (by omega) (by omega) rfl rfl rfl rfl hP hS ls (lv_sub hl [0, 1, 2, 3, 4] rfl)
      · have c_24 : (tkO tc tl (ta + 1) (45)).1 = true := eq_true_of_ne_false c_24
        have hta2 := tkO_lt (by decide) c_24
        rw [tkO_t c_24] at hP
        have hD : va_D (aS 2 B) (twd cA B (tc) (nI (tl)) (nI (to)) (kd) (fi) (se) (nI (ta + 1 + 1)) (nI (0))) := twdD hA
        refine lv_iconst (v := nI (1)) hx hb dX6_readNumber_29 gc_1 ?_
        refine lv_goto (tgt := 34) hx hb dX6_readNumber_30 (by decide) ?_
        refine lv_istore_n (lv' := [(3, .int (nI (1))), (0, .ref (B 0)), (1, .int (nI (most))), (2, .int (b2i (sg)))]) hx hb dX6_readNumber_34 rfl hl (by decide) rfl (fun ls hl => ?_)
        refine lv_iconst (v := nI (0)) hx hb dX6_readNumber_35 gc_0 ?_
        refine lv_istore (lv' := [(4, .int (nI (0))), (3, .int (nI (1))), (0, .ref (B 0)), (1, .int (nI (most))), (2, .int (b2i (sg)))]) hx hb dX6_readNumber_36 hl (by decide) rfl (fun ls hl => ?_)
        have LP_51 : ∀ (n_47 i_46 : Nat) (x_48 X_49 X_50 : Int32) (H : Heap) (locs : List Loc), i_46 ≤ most → most + 1 ≤ i_46 + n_47 → x_48 = nI (i_46) → X_49 = dgV tc tl (ta + 1 + 1) i_46 → X_50 = nI (ta + 1 + 1 + i_46) → (fnd (dgP tc tl (ta + 1 + 1)) (i_46) = none) → va_P D vwCl (twd cA B (tc) (nI (tl)) (nI (to)) (kd) (fi) (se) (X_50) (X_49)) H → va_S (aS 2 B) s.heap H locs → ∀ (ls : Array Slot), lv_has ls 5 [(4, .int (x_48)), (3, .int (nI (1))), (0, .ref (B 0)), (1, .int (nI (most))), (2, .int (b2i (sg)))] → W p l e ({ frames := 2, cells := 0, slots := 0, locals := 42 } : Room) s m ([.ref (B 0), .int (nI (most)), .int (b2i (sg))] : List Value).toArray below meth c H locs 0 0 (MQ below (wrI (fun r H => r = b2i (rnO tc tl ta most sg).1 ∧ va_P D vwCl (twd cA B (tc) (nI tl) (nI to) (kd) (fi) (se) (nI (rnO tc tl ta most sg).2.1) ((rnO tc tl ta most sg).2.2)) H) (aS 2 B)) ([.ref (B 0), .int (nI (most)), .int (b2i (sg))] : List Value).toArray s 0 0 (aS 2 B)) (F0 m 38 ls []) := by
          intro n_47
          induction n_47 with
          | zero => intro i_46 x_48 X_49 X_50 H locs h1 h2; exact absurd h2 (by omega)
          | succ n_47 ih_52 =>
            intro i_46 x_48 X_49 X_50 H locs h_53 h_54 e_55 e_56 e_57 hv hP hS ls hl
            subst e_55
            subst e_56
            subst e_57
            have hD : va_D (aS 2 B) (twd cA B (tc) (nI (tl)) (nI (to)) (kd) (fi) (se) (nI (ta + 1 + 1 + i_46)) (dgV tc tl (ta + 1 + 1) i_46)) := twdD hA
            have hle9 := dgP_le (tc := tc) (tl := tl) (a := ta + 1 + 1) (by omega) i_46 hv
            refine lv_iload hx hb dX6_readNumber_38 (lv_at hl 0 rfl) ?_
            refine lv_iload_n hx hb dX6_readNumber_40 rfl (lv_at hl 3 rfl) ?_
            refine g_icmp_ge (P := most ≤ i_46) (tgt := 89) hx hb dX6_readNumber_41 (by decide) (nI_leI (by omega) (by omega)) (fun c_58 => ?_) (fun c_58 => ?_)
            · have d_58 : ¬ i_46 < most := Nat.not_lt.mpr c_58
              have hN_59 : most = i_46 := by omega
              subst hN_59
              refine lv_aload_n hx hb dX6_readNumber_89 rfl (lv_at hl 2 rfl) ?_
              refine lv_iload_n hx hb dX6_readNumber_90 rfl (lv_at hl 1 rfl) ?_
              refine g_if_eq (P := 1 = 0) (tgt := 102) hx hb dX6_readNumber_91 (by decide) (nI_z (by omega)) (fun c_60 => ?_) (fun c_60 => ?_)
              · exact absurd c_60 (by decide)
              · refine lv_aload_n hx hb dX6_readNumber_94 rfl (lv_at hl 2 rfl) ?_
                refine g_get (v := .int (dgV tc tl (ta + 1 + 1) (most))) hx hb hts hown hK hP 0 rfl rfl gu_wsX60 7 (by decide) gm_5_4 rfl dX6_readNumber_95 ?_
                refine lv_ineg hx hb dX6_readNumber_98 ?_
                refine lv_goto (tgt := 106) hx hb dX6_readNumber_99 (by decide) ?_
                refine g_put (ws' := twd cA B (tc) (nI (tl)) (nI (to)) (kd) (fi) (se) (nI (ta + 1 + 1 + (most))) (-(dgV tc tl (ta + 1 + 1) (most)))) hx hb hts hown hK hP hD hS 0 rfl rfl gu_wsX60 tyX6_ok nmX6 7 (by decide) gm_5_4 rfl rfl rfl (Nat.le_of_ble_eq_true rfl) (by first | rfl | (rw [updN_nI]; rfl)) dX6_readNumber_106 (fun H locs hP hD hS => ?_)
                refine lv_iload hx hb dX6_readNumber_109 (lv_at hl 0 rfl) ?_
                refine g_if_le (P := (most) = 0) (tgt := 118) hx hb dX6_readNumber_111 (by decide) (nI_ez (a := (most)) (by omega)) (fun c_61 => ?_) (fun c_61 => ?_)
                · refine lv_iconst (v := nI (0)) hx hb dX6_readNumber_118 gc_0 ?_
                  exact g_zretW (v := nI (0)) hx hb hr hlk rfl hS dX6_readNumber_119 (by have e8 := dgN_all hv ; have e9 : rnO tc tl ta most sg = rnA tc tl (ta + 1 + 1) most true := (by rw [rnO, if_pos c_1, if_pos (by rw [c_2, c_24]; rfl)]) ; rw [e9, rnA, e8]; exact ⟨by rw [decide_eq_false (by omega)]; rfl, hP⟩)
                · refine lv_iconst (v := nI (1)) hx hb dX6_readNumber_114 gc_1 ?_
                  refine lv_goto (tgt := 119) hx hb dX6_readNumber_115 (by decide) ?_
                  exact g_zretW (v := nI (1)) hx hb hr hlk rfl hS dX6_readNumber_119 (by have e8 := dgN_all hv ; have e9 : rnO tc tl ta most sg = rnA tc tl (ta + 1 + 1) most true := (by rw [rnO, if_pos c_1, if_pos (by rw [c_2, c_24]; rfl)]) ; rw [e9, rnA, e8]; exact ⟨by rw [decide_eq_true (by omega)]; rfl, hP⟩)
            · have d_58 : i_46 < most := Nat.not_le.mp c_58
              refine lv_aload_n hx hb dX6_readNumber_44 rfl (lv_at hl 2 rfl) ?_
              refine rd_calle (va_runV (As := []) (rest := []) ⟨hx, hb, hml, hown, hts⟩ (c_X6_peek l D cA B (tc) (tl) (to) (kd) (fi) (se) (ta + 1 + 1 + i_46) (dgV tc tl (ta + 1 + 1) i_46)  htc htl (by omega)) (cwV 0 hts (gWV gm_40_11 gm_40_12 gm_40_13 gm_2_9 gm_40_14) rfl rfl rfl (by decide +kernel) ⟨Nat.le_of_ble_eq_true rfl, Nat.le_of_ble_eq_true rfl⟩) (gPreV hK (g_rf hK hP (ci := 8) (q0 := 0) rfl rfl) hP) rfl rfl hl.1 rfl (lv_room (Nat.le_of_ble_eq_true rfl)) dX6_readNumber_45 ⟨by omega, by omega⟩) ?_
              have hpk_62 := pkN_lt htc (ta + 1 + 1 + i_46)
              refine rd_calle (va_runS (As := [.int (nI (pkN tc tl (ta + 1 + 1 + i_46)))]) (rest := []) ⟨hx, hb, hml, hown, hts⟩ (c_X6_isDigit l D cA (pkN tc tl (ta + 1 + 1 + i_46)) (by omega)) (cwS 1 hts (gWS gm_43_12 gm_43_13 gm_2_9 gm_43_14) rfl rfl rfl (by decide +kernel) ⟨Nat.le_of_ble_eq_true rfl, Nat.le_of_ble_eq_true rfl⟩) (gPreS hK trivial) rfl rfl hl.1 rfl (lv_room (Nat.le_of_ble_eq_true rfl)) dX6_readNumber_48 ⟨by omega, by omega⟩) ?_
              refine g_if_eq (P := dgB (pkN tc tl (ta + 1 + 1 + i_46)) = false) (tgt := 89) hx hb dX6_readNumber_51 (by decide) b2i_0 (fun c_63 => ?_) (fun c_63 => ?_)
              · refine lv_aload_n hx hb dX6_readNumber_89 rfl (lv_at hl 2 rfl) ?_
                refine lv_iload_n hx hb dX6_readNumber_90 rfl (lv_at hl 1 rfl) ?_
                refine g_if_eq (P := 1 = 0) (tgt := 102) hx hb dX6_readNumber_91 (by decide) (nI_z (by omega)) (fun c_64 => ?_) (fun c_64 => ?_)
                · exact absurd c_64 (by decide)
                · refine lv_aload_n hx hb dX6_readNumber_94 rfl (lv_at hl 2 rfl) ?_
                  refine g_get (v := .int (dgV tc tl (ta + 1 + 1) i_46)) hx hb hts hown hK hP 0 rfl rfl gu_wsX60 7 (by decide) gm_5_4 rfl dX6_readNumber_95 ?_
                  refine lv_ineg hx hb dX6_readNumber_98 ?_
                  refine lv_goto (tgt := 106) hx hb dX6_readNumber_99 (by decide) ?_
                  refine g_put (ws' := twd cA B (tc) (nI (tl)) (nI (to)) (kd) (fi) (se) (nI (ta + 1 + 1 + i_46)) (-(dgV tc tl (ta + 1 + 1) i_46))) hx hb hts hown hK hP hD hS 0 rfl rfl gu_wsX60 tyX6_ok nmX6 7 (by decide) gm_5_4 rfl rfl rfl (Nat.le_of_ble_eq_true rfl) (by first | rfl | (rw [updN_nI]; rfl)) dX6_readNumber_106 (fun H locs hP hD hS => ?_)
                  refine lv_iload hx hb dX6_readNumber_109 (lv_at hl 0 rfl) ?_
                  refine g_if_le (P := i_46 = 0) (tgt := 118) hx hb dX6_readNumber_111 (by decide) (nI_ez (a := i_46) (by omega)) (fun c_65 => ?_) (fun c_65 => ?_)
                  · refine lv_iconst (v := nI (0)) hx hb dX6_readNumber_118 gc_0 ?_
                    exact g_zretW (v := nI (0)) hx hb hr hlk rfl hS dX6_readNumber_119 (by have e8 := dgN_at hv c_63 (by omega) ; have e9 : rnO tc tl ta most sg = rnA tc tl (ta + 1 + 1) most true := (by rw [rnO, if_pos c_1, if_pos (by rw [c_2, c_24]; rfl)]) ; rw [e9, rnA, e8]; exact ⟨by rw [decide_eq_false (by omega)]; rfl, hP⟩)
                  · refine lv_iconst (v := nI (1)) hx hb dX6_readNumber_114 gc_1 ?_
                    refine lv_goto (tgt := 119) hx hb dX6_readNumber_115 (by decide) ?_
                    exact g_zretW (v := nI (1)) hx hb hr hlk rfl hS dX6_readNumber_119 (by have e8 := dgN_at hv c_63 (by omega) ; have e9 : rnO tc tl ta most sg = rnA tc tl (ta + 1 + 1) most true := (by rw [rnO, if_pos c_1, if_pos (by rw [c_2, c_24]; rfl)]) ; rw [e9, rnA, e8]; exact ⟨by rw [decide_eq_true (by omega)]; rfl, hP⟩)
              · have c_63 : dgB (pkN tc tl (ta + 1 + 1 + i_46)) = true := eq_true_of_ne_false c_63
                refine lv_aload_n hx hb dX6_readNumber_54 rfl (lv_at hl 2 rfl) ?_
                refine lv_bipush (v := nI (10)) hx hb dX6_readNumber_55 gb_10 ?_
                refine lv_aload_n hx hb dX6_readNumber_57 rfl (lv_at hl 2 rfl) ?_
                refine g_get (v := .int (dgV tc tl (ta + 1 + 1) i_46)) hx hb hts hown hK hP 0 rfl rfl gu_wsX60 7 (by decide) gm_5_4 rfl dX6_readNumber_58 ?_
                refine lv_imul hx hb dX6_readNumber_61 ?_
                refine lv_aload_n hx hb dX6_readNumber_62 rfl (lv_at hl 2 rfl) ?_
                refine rd_calle (va_runV (As := []) (rest := [.int ((nI (10)) * (dgV tc tl (ta + 1 + 1) i_46)), .ref (B 0)]) ⟨hx, hb, hml, hown, hts⟩ (c_X6_peek l D cA B (tc) (tl) (to) (kd) (fi) (se) (ta + 1 + 1 + i_46) (dgV tc tl (ta + 1 + 1) i_46)  htc htl (by omega)) (cwV 0 hts (gWV gm_40_11 gm_40_12 gm_40_13 gm_2_9 gm_40_14) rfl rfl rfl (by decide +kernel) ⟨Nat.le_of_ble_eq_true rfl, Nat.le_of_ble_eq_true rfl⟩) (gPreV hK (g_rf hK hP (ci := 8) (q0 := 0) rfl rfl) hP) rfl rfl hl.1 rfl (lv_room (Nat.le_of_ble_eq_true rfl)) dX6_readNumber_63 ⟨by omega, by omega⟩) ?_
                have hpk_66 := pkN_lt htc (ta + 1 + 1 + i_46)
                refine lv_bipush (v := nI (48)) hx hb dX6_readNumber_66 gb_48 ?_
                refine lv_isub hx hb dX6_readNumber_68 ?_
                refine lv_iadd hx hb dX6_readNumber_69 ?_
                refine g_put (ws' := twd cA B (tc) (nI (tl)) (nI (to)) (kd) (fi) (se) (nI (ta + 1 + 1 + i_46)) (((nI (10)) * (dgV tc tl (ta + 1 + 1) i_46)) + ((nI (pkN tc tl (ta + 1 + 1 + i_46))) - (nI (48))))) hx hb hts hown hK hP hD hS 0 rfl rfl gu_wsX60 tyX6_ok nmX6 7 (by decide) gm_5_4 rfl rfl rfl (Nat.le_of_ble_eq_true rfl) (by first | rfl | (rw [updN_nI]; rfl)) dX6_readNumber_70 (fun H locs hP hD hS => ?_)
                refine lv_aload_n hx hb dX6_readNumber_73 rfl (lv_at hl 2 rfl) ?_
                refine lv_dup hx hb dX6_readNumber_74 rfl ?_
                refine g_get (v := .int (nI (ta + 1 + 1 + i_46))) hx hb hts hown hK hP 0 rfl rfl gu_wsX60 6 (by decide) gm_5_3 rfl dX6_readNumber_75 ?_
                refine lv_iconst (v := nI (1)) hx hb dX6_readNumber_78 gc_1 ?_
                refine g_iadd hx hb dX6_readNumber_79 ?_
                refine g_put (ws' := twd cA B (tc) (nI (tl)) (nI (to)) (kd) (fi) (se) (nI ((ta + 1 + 1 + i_46) + (1))) (((nI (10)) * (dgV tc tl (ta + 1 + 1) i_46)) + ((nI (pkN tc tl (ta + 1 + 1 + i_46))) - (nI (48))))) hx hb hts hown hK hP hD hS 0 rfl rfl gu_wsX60 tyX6_ok nmX6 6 (by decide) gm_5_3 rfl rfl rfl (Nat.le_of_ble_eq_true rfl) (by first | rfl | (rw [updN_nI]; rfl)) dX6_readNumber_80 (fun H locs hP hD hS => ?_)
                refine lv_iinc (v := nI (i_46 + 1)) (lv' := [(4, .int (nI (i_46 + 1))), (3, .int (nI (1))), (0, .ref (B 0)), (1, .int (nI (most))), (2, .int (b2i (sg)))]) hx hb dX6_readNumber_83 hl (k := 0) rfl (inc_1 _) (by decide) rfl (fun ls hl => ?_)
                refine lv_goto (tgt := 38) hx hb dX6_readNumber_86 (by decide) ?_
                exact ih_52 (i_46 + 1) _ (((nI (10)) * (dgV tc tl (ta + 1 + 1) i_46)) + ((nI (pkN tc tl (ta + 1 + 1 + i_46))) - (nI (48)))) (nI ((ta + 1 + 1 + i_46) + (1))) H locs (by omega) (by omega) rfl rfl rfl (dgP_no hv c_63) hP hS ls (lv_sub hl [0, 1, 2, 3, 4] rfl)
        exact LP_51 (most + 1) 0 _ (nI (0)) (nI (ta + 1 + 1)) H locs (by omega) (by omega) rfl rfl rfl rfl hP hS ls (lv_sub hl [0, 1, 2, 3, 4] rfl)
  · refine lv_iconst (v := nI (0)) hx hb dX6_readNumber_14 gc_0 ?_
    exact g_zretW (v := nI (0)) hx hb hr hlk rfl hS dX6_readNumber_15 (by have e9 : rnO tc tl ta most sg = (false, (ta, nI 0)) := (by rw [rnO, if_neg (bnt c_1)]) ; rw [tkO_f c_1] at hP; rw [e9]; exact ⟨rfl, hP⟩)

set_option maxHeartbeats 1000000 in
set_option maxRecDepth 100000 in
theorem c_X6_readFirst (l : Launch) (D : va_G) (cA : Nat → ClassId) (B : Nat → Nat) (tc : Nat → Nat) (tl to : Nat) (kd fi se : Int32) (ta : Nat) (nu : Int32) (most : Nat) (sg : Bool) (hA : aInj 2 B) (htc : ∀ k, k < tl → tc k < 65536) (htl : tl ≤ 60) (hta : ta ≤ tl) (hm3 : most ≤ 3) : Met l yX6_readFirst (gw yX6_readFirst cX6_readFirst 4 (some .boolean)) ({ frames := 3, cells := 0, slots := 0, locals := 66 } : Room) (gPc [.ref (B 0), .int (nI (most)), .int (b2i (sg))] (fun H => va_P D vwCl (twd cA B (tc) (nI (tl)) (nI (to)) (kd) (fi) (se) (nI (ta)) (nu)) H) D cA) (wrI (fun r H => r = b2i (rnO tc tl ta most sg).1 ∧ va_P D vwCl (twd cA B (tc) (nI tl) (nI to) (kd) ((rnO tc tl ta most sg).2.2) (se) (nI (rnO tc tl ta most sg).2.1) ((rnO tc tl ta most sg).2.2)) H) (aS 2 B)) 0 0 (aS 2 B) := by
  refine gOf (by decide) (Nat.le_of_ble_eq_true rfl) ?_
  intro p e s m below meth c ls hx hb hml hr hlk hown hts hnm hP hK hl
  have hl : lv_has ls 4 [(0, .ref (B 0)), (1, .int (nI (most))), (2, .int (b2i (sg)))] := hl
  have hD : va_D (aS 2 B) (twd cA B (tc) (nI (tl)) (nI (to)) (kd) (fi) (se) (nI (ta)) (nu)) := twdD hA
  have hS : va_S (aS 2 B) s.heap s.heap [] := va_S.rf
  refine lv_aload_n hx hb dX6_readFirst_0 rfl (lv_at hl 0 rfl) ?_
  refine lv_iload_n hx hb dX6_readFirst_1 rfl (lv_at hl 1 rfl) ?_
  refine lv_iload_n hx hb dX6_readFirst_2 rfl (lv_at hl 2 rfl) ?_
  refine wr_calli (va_runV (As := [.int (nI (most)), .int (b2i (sg))]) (rest := []) ⟨hx, hb, hml, hown, hts⟩ (c_X6_readNumber l D cA B (tc) (tl) (to) (kd) (fi) (se) (ta) (nu) (most) (sg) hA htc htl (by omega) (by omega)) (cwV 2 hts (gWV gm_43_8 gm_43_9 gm_43_10 gm_2_9 gm_43_11) rfl rfl rfl (by decide +kernel) ⟨Nat.le_of_ble_eq_true rfl, Nat.le_of_ble_eq_true rfl⟩) (gPreV hK (g_rf hK hP (ci := 8) (q0 := 0) rfl rfl) hP) rfl rfl hl.1 rfl (lv_room (Nat.le_of_ble_eq_true rfl)) dX6_readFirst_3 ⟨by omega, by omega⟩) hS (fun q _ h => h) (fun q h => h) (fun r H locs hw9 hz9 hk9 hS => ?_)
  obtain ⟨rfl, hP⟩ := hw9
  have hP : va_P D vwCl (twd cA B (tc) (nI (tl)) (nI (to)) (kd) (fi) (se) (nI ((rnO tc tl ta (most) (sg)).2.1)) ((rnO tc tl ta (most) (sg)).2.2)) H := hP
  have hD : va_D (aS 2 B) (twd cA B (tc) (nI (tl)) (nI (to)) (kd) (fi) (se) (nI ((rnO tc tl ta (most) (sg)).2.1)) ((rnO tc tl ta (most) (sg)).2.2)) := twdD hA
  refine lv_istore_n (lv' := [(3, .int (b2i ((rnO tc tl ta (most) (sg)).1))), (0, .ref (B 0)), (1, .int (nI (most))), (2, .int (b2i (sg)))]) hx hb dX6_readFirst_6 rfl hl (by decide) rfl (fun ls hl => ?_)
  refine lv_aload_n hx hb dX6_readFirst_7 rfl (lv_at hl 1 rfl) ?_
  refine lv_aload_n hx hb dX6_readFirst_8 rfl (lv_at hl 1 rfl) ?_
  refine g_get (v := .int ((rnO tc tl ta (most) (sg)).2.2)) hx hb hts hown hK hP 0 rfl rfl gu_wsX60 7 (by decide) gm_5_4 rfl dX6_readFirst_9 ?_
  refine g_put (ws' := twd cA B (tc) (nI (tl)) (nI (to)) (kd) ((rnO tc tl ta (most) (sg)).2.2) (se) (nI ((rnO tc tl ta (most) (sg)).2.1)) ((rnO tc tl ta (most) (sg)).2.2)) hx hb hts hown hK hP hD hS 0 rfl rfl gu_wsX60 tyX6_ok nmX6 4 (by decide) gm_5_1 rfl rfl rfl (Nat.le_of_ble_eq_true rfl) (by first | rfl | (rw [updN_nI]; rfl)) dX6_readFirst_12 (fun H locs hP hD hS => ?_)
  refine lv_iload_n hx hb dX6_readFirst_15 rfl (lv_at hl 0 rfl) ?_
  exact g_zretW (v := b2i ((rnO tc tl ta (most) (sg)).1)) hx hb hr hlk b2i_n hS dX6_readFirst_16 (⟨rfl, hP⟩)

set_option maxHeartbeats 1000000 in
set_option maxRecDepth 100000 in
theorem c_X6_readSecond (l : Launch) (D : va_G) (cA : Nat → ClassId) (B : Nat → Nat) (tc : Nat → Nat) (tl to : Nat) (kd fi se : Int32) (ta : Nat) (nu : Int32) (most : Nat) (hA : aInj 2 B) (htc : ∀ k, k < tl → tc k < 65536) (htl : tl ≤ 60) (hta : ta ≤ tl) (hm3 : most ≤ 3) : Met l yX6_readSecond (gw yX6_readSecond cX6_readSecond 3 (some .boolean)) ({ frames := 3, cells := 0, slots := 0, locals := 66 } : Room) (gPc [.ref (B 0), .int (nI (most))] (fun H => va_P D vwCl (twd cA B (tc) (nI (tl)) (nI (to)) (kd) (fi) (se) (nI (ta)) (nu)) H) D cA) (wrI (fun r H => r = b2i (rnO tc tl ta most false).1 ∧ va_P D vwCl (twd cA B (tc) (nI tl) (nI to) (kd) (fi) ((rnO tc tl ta most false).2.2) (nI (rnO tc tl ta most false).2.1) ((rnO tc tl ta most false).2.2)) H) (aS 2 B)) 0 0 (aS 2 B) := by
  refine gOf (by decide) (Nat.le_of_ble_eq_true rfl) ?_
  intro p e s m below meth c ls hx hb hml hr hlk hown hts hnm hP hK hl
  have hl : lv_has ls 3 [(0, .ref (B 0)), (1, .int (nI (most)))] := hl
  have hD : va_D (aS 2 B) (twd cA B (tc) (nI (tl)) (nI (to)) (kd) (fi) (se) (nI (ta)) (nu)) := twdD hA
  have hS : va_S (aS 2 B) s.heap s.heap [] := va_S.rf
  refine lv_aload_n hx hb dX6_readSecond_0 rfl (lv_at hl 0 rfl) ?_
  refine lv_iload_n hx hb dX6_readSecond_1 rfl (lv_at hl 1 rfl) ?_
  refine lv_iconst (v := nI (0)) hx hb dX6_readSecond_2 gc_0 ?_
  refine wr_calli (va_runV (As := [.int (nI (most)), .int (nI (0))]) (rest := []) ⟨hx, hb, hml, hown, hts⟩ (c_X6_readNumber l D cA B (tc) (tl) (to) (kd) (fi) (se) (ta) (nu) (most) false hA htc htl (by omega) (by omega)) (cwV 2 hts (gWV gm_43_8 gm_43_9 gm_43_10 gm_2_9 gm_43_11) rfl rfl rfl (by decide +kernel) ⟨Nat.le_of_ble_eq_true rfl, Nat.le_of_ble_eq_true rfl⟩) (gPreV hK (g_rf hK hP (ci := 8) (q0 := 0) rfl rfl) hP) rfl rfl hl.1 rfl (lv_room (Nat.le_of_ble_eq_true rfl)) dX6_readSecond_3 ⟨by omega, by omega⟩) hS (fun q _ h => h) (fun q h => h) (fun r H locs hw9 hz9 hk9 hS => ?_)
  obtain ⟨rfl, hP⟩ := hw9
  have hP : va_P D vwCl (twd cA B (tc) (nI (tl)) (nI (to)) (kd) (fi) (se) (nI ((rnO tc tl ta (most) (false)).2.1)) ((rnO tc tl ta (most) (false)).2.2)) H := hP
  have hD : va_D (aS 2 B) (twd cA B (tc) (nI (tl)) (nI (to)) (kd) (fi) (se) (nI ((rnO tc tl ta (most) (false)).2.1)) ((rnO tc tl ta (most) (false)).2.2)) := twdD hA
  refine lv_istore_n (lv' := [(2, .int (b2i ((rnO tc tl ta (most) (false)).1))), (0, .ref (B 0)), (1, .int (nI (most)))]) hx hb dX6_readSecond_6 rfl hl (by decide) rfl (fun ls hl => ?_)
  refine lv_aload_n hx hb dX6_readSecond_7 rfl (lv_at hl 1 rfl) ?_
  refine lv_aload_n hx hb dX6_readSecond_8 rfl (lv_at hl 1 rfl) ?_
  refine g_get (v := .int ((rnO tc tl ta (most) (false)).2.2)) hx hb hts hown hK hP 0 rfl rfl gu_wsX60 7 (by decide) gm_5_4 rfl dX6_readSecond_9 ?_
  refine g_put (ws' := twd cA B (tc) (nI (tl)) (nI (to)) (kd) (fi) ((rnO tc tl ta (most) (false)).2.2) (nI ((rnO tc tl ta (most) (false)).2.1)) ((rnO tc tl ta (most) (false)).2.2)) hx hb hts hown hK hP hD hS 0 rfl rfl gu_wsX60 tyX6_ok nmX6 5 (by decide) gm_5_2 rfl rfl rfl (Nat.le_of_ble_eq_true rfl) (by first | rfl | (rw [updN_nI]; rfl)) dX6_readSecond_12 (fun H locs hP hD hS => ?_)
  refine lv_iload_n hx hb dX6_readSecond_15 rfl (lv_at hl 0 rfl) ?_
  exact g_zretW (v := b2i ((rnO tc tl ta (most) (false)).1)) hx hb hr hlk b2i_n hS dX6_readSecond_16 (⟨rfl, hP⟩)

