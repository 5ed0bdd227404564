theorem skO_t {inp : Nat → Int32} {ln q c : Nat} (h : (skO inp ln q c).1 = true) : (skO inp ln q c).2 = q + 1 := by unfold skO at h ⊢; split at h <;> simp_all
theorem skO_f {inp : Nat → Int32} {ln q c : Nat} (h : (skO inp ln q c).1 = false) : (skO inp ln q c).2 = q := by unfold skO at h ⊢; split at h <;> simp_all
theorem skO_tt {inp : Nat → Int32} {ln q c : Nat} (h : (skO inp ln q c).1 = true) : hrM inp ln q = nI c := by unfold skO at h; split at h <;> simp_all
theorem skO_ff {inp : Nat → Int32} {ln q c : Nat} (h : (skO inp ln q c).1 = false) : ¬ hrM inp ln q = nI c := by unfold skO at h; split at h <;> simp_all
def wdP (inp : Nat → Int32) (ln q i k : Nat) : Bool := !decide (hrM inp ln (q + k) = sCh i k)
def wdO (inp : Nat → Int32) (ln q i : Nat) : Bool × Nat := ((fnd (wdP inp ln q i) (sLen.getD i 0)).isNone, q + (fnd (wdP inp ln q i) (sLen.getD i 0)).getD (sLen.getD i 0))
theorem wdO_all {inp : Nat → Int32} {ln q i : Nat} (h : fnd (wdP inp ln q i) (sLen.getD i 0) = none) : wdO inp ln q i = (true, q + sLen.getD i 0) := by rw [wdO, h]; rfl
theorem wdO_at {inp : Nat → Int32} {ln q i k : Nat} (h : fnd (wdP inp ln q i) k = none) (hd : wdP inp ln q i k = true) (hk : k < sLen.getD i 0) : wdO inp ln q i = (false, q + k) := by rw [wdO, fnd_stop h hd _ hk]; rfl
theorem wd_lt {inp : Nat → Int32} {ln q i k : Nat} (h : wdP inp ln q i k = false) (hi : i < 16) (hk : k < sLen.getD i 0) : q + k < ln := by
  have h1 : hrM inp ln (q + k) = sCh i k := by simpa [wdP] using h
  rcases Nat.lt_or_ge (q + k) ln with z | z
  · exact z
  · rw [hrM, if_neg (by omega), (sCh_ok i hi k hk).2.2] at h1
    exact absurd h1 (nI_nm1 (by have := (sCh_ok i hi k hk).2.1; omega))
theorem wd_le {inp : Nat → Int32} {ln q i k : Nat} (h : fnd (wdP inp ln q i) k = none) (hi : i < 16) (hk : k ≤ sLen.getD i 0) (hq : q ≤ ln) : q + k ≤ ln := by
  rcases Nat.eq_zero_or_pos k with z | z
  · omega
  · have := wd_lt (fnd_all h (k - 1) (by omega)) hi (by omega)
    omega
theorem wdO_le {inp : Nat → Int32} {ln q i : Nat} (hi : i < 16) (hq : q ≤ ln) : (wdO inp ln q i).2 ≤ ln := by
  cases e : fnd (wdP inp ln q i) (sLen.getD i 0) with
  | none => rw [wdO_all e]; exact wd_le e hi (Nat.le_refl _) hq
  | some k =>
    have h1 := fnd_lt e
    have h2 := fnd_some e
    rw [wdO, e]
    refine wd_le (inp := inp) (k := k) ?_ hi (by omega) hq
    cases e2 : fnd (wdP inp ln q i) k with
    | none => rfl
    | some j =>
      have h3 := fnd_lt e2
      have h4 := h2.2 j h3
      rw [(fnd_some e2).1] at h4
      cases h4

set_option maxHeartbeats 1000000 in
set_option maxRecDepth 100000 in
theorem c_X8_isWord (l : Launch) (D : va_G) (cA : Nat → ClassId) (AE : Nat → Prop) (adK adV sa : Nat → Nat) (A : Nat → Nat) (x : Nat → Int32) (f : Nat → Nat → Int32) (i ln at_ : Nat) (hA : mInj A) (hl7 : x 7 = nI ln) (hat : x 10 = nI at_) (hl60 : ln ≤ 60) (ha6 : at_ ≤ ln) (hi : i < 16) (hFA : ∀ q, (MA A) q → AE q) : Met l yX8_isWord (gw yX8_isWord cX8_isWord 3 (some .boolean)) ({ frames := 4, cells := 0, slots := 0, locals := 121 } : Room) (gPx [.ref (A 0), .ref (adK i)] (fun H => va_P D vwCl (mw cA A x f) H) D cA AE adK adV sa) (wrI (fun r H => r = b2i (wdO (f 4) ln at_ i).1 ∧ va_P D vwCl (mw cA A (upd x 10 (nI (wdO (f 4) ln at_ i).2)) (f)) H) (MA A)) 0 0 (MA A) := by
  refine gOfx (by decide) (Nat.le_of_ble_eq_true rfl) ?_
  intro p e s m below meth c ls hx hb hml hr hlk hown hts hnm hP hK hE hl
  have hl : lv_has ls 3 [(0, .ref (A 0)), (1, .ref (adK i))] := hl
  have hD : va_D (MA A) (mw cA A x f) := mD hA
  have hS : va_S (MA A) s.heap s.heap [] := va_S.rf
  have h99 := sLen_lt i (by omega)
  refine lv_iconst (v := nI (0)) hx hb dX8_isWord_0 gc_0 ?_
  refine lv_istore_n (lv' := [(2, .int (nI (0))), (0, .ref (A 0)), (1, .ref (adK i))]) hx hb dX8_isWord_1 rfl hl (by decide) rfl (fun ls hl => ?_)
  have LP_5 : ∀ (n_2 i_1 : Nat) (x_3 X_4 : Int32) (H : Heap) (locs : List Loc), i_1 ≤ (sLen.getD i 0) → (sLen.getD i 0) + 1 ≤ i_1 + n_2 → x_3 = nI (i_1) → X_4 = nI (at_ + i_1) → (fnd (wdP (f 4) ln at_ i) (i_1) = none) → va_P D vwCl (mw cA A (upd (x) 10 (X_4)) (f)) H → va_S (MA A) s.heap H locs → ∀ (ls : Array Slot), lv_has ls 3 [(2, .int (x_3)), (0, .ref (A 0)), (1, .ref (adK i))] → W p l e ({ frames := 4, cells := 0, slots := 0, locals := 121 } : Room) s m ([.ref (A 0), .ref (adK i)] : List Value).toArray below meth c H locs 0 0 (MQ below (wrI (fun r H => r = b2i (wdO (f 4) ln at_ i).1 ∧ va_P D vwCl (mw cA A (upd x 10 (nI (wdO (f 4) ln at_ i).2)) (f)) H) (MA A)) ([.ref (A 0), .ref (adK i)] : List Value).toArray s 0 0 (MA A)) (F0 m 2 ls []) := by
    intro n_2
    induction n_2 with
    | zero => intro i_1 x_3 X_4 H locs h1 h2; exact absurd h2 (by omega)
    | succ n_2 ih_6 =>
      intro i_1 x_3 X_4 H locs h_7 h_8 e_9 e_10 hv hP hS ls hl
      subst e_9
      subst e_10
      have hD : va_D (MA A) (mw cA A (upd (x) 10 (nI (at_ + i_1))) (f)) := mD hA
      have hxb_11 : at_ + i_1 ≤ ln := wd_le hv hi (by omega) (by omega)
      refine lv_iload_n hx hb dX8_isWord_2 rfl (lv_at hl 0 rfl) ?_
      refine lv_aload_n hx hb dX8_isWord_3 rfl (lv_at hl 2 rfl) ?_
      refine rd_calle (va_runV (As := []) (rest := [.int (nI (i_1))]) ⟨hx, hb, hml, hown, hts⟩ (c_slen l D cA AE adK adV sa (i) (by omega)) (cwV 0 hts (gWV gm_46_19 gm_41_4 gm_41_5 gm_41_6 gm_41_7) rfl rfl rfl (by decide +kernel) ⟨Nat.le_of_ble_eq_true rfl, Nat.le_of_ble_eq_true rfl⟩) (gPreVx hK hE hS hFA (vk_recv (eS hE) (by omega) (va_Sup hS hFA)) trivial) rfl rfl hl.1 rfl (lv_room (Nat.le_of_ble_eq_true rfl)) dX8_isWord_4 ⟨by omega, by omega⟩) ?_
      refine g_icmp_ge (P := sLen.getD (i) 0 ≤ i_1) (tgt := 30) hx hb dX8_isWord_7 (by decide) (nI_leI (by omega) (by omega)) (fun c_12 => ?_) (fun c_12 => ?_)
      · have d_12 : ¬ i_1 < sLen.getD (i) 0 := Nat.not_lt.mpr c_12
        have hN_13 : (sLen.getD i 0) = i_1 := by omega
        subst hN_13
        refine lv_iconst (v := nI (1)) hx hb dX8_isWord_30 gc_1 ?_
        exact g_zretW (v := nI (1)) hx hb hr hlk rfl hS dX8_isWord_31 (by rw [wdO_all hv]; exact ⟨rfl, hP⟩)
      · have d_12 : i_1 < sLen.getD (i) 0 := Nat.not_le.mp c_12
        refine lv_aload_n hx hb dX8_isWord_10 rfl (lv_at hl 1 rfl) ?_
        refine lv_aload_n hx hb dX8_isWord_11 rfl (lv_at hl 2 rfl) ?_
        refine lv_iload_n hx hb dX8_isWord_12 rfl (lv_at hl 0 rfl) ?_
        refine rd_calle (va_runV (As := [.int (nI (i_1))]) (rest := [.ref (A 0)]) ⟨hx, hb, hml, hown, hts⟩ (c_scat l D cA AE adK adV sa (i) (i_1) (by omega) (by omega)) (cwV 1 hts (gWV gm_46_20 gm_41_16 gm_41_17 gm_41_6 gm_41_18) rfl rfl rfl (by decide +kernel) ⟨Nat.le_of_ble_eq_true rfl, Nat.le_of_ble_eq_true rfl⟩) (gPreVx hK hE hS hFA (vk_recv (eS hE) (by omega) (va_Sup hS hFA)) trivial) rfl rfl hl.1 rfl (lv_room (Nat.le_of_ble_eq_true rfl)) dX8_isWord_13 ⟨by omega, by omega⟩) ?_
        have hch9 := sCh_ok i hi (i_1) (by omega)
        refine g_top (z := nI (sCh i i_1).toNatClampNeg) hch9.2.2 ?_
        refine wr_calli (va_runV (As := [.int (nI ((sCh i i_1).toNatClampNeg))]) (rest := []) ⟨hx, hb, hml, hown, hts⟩ (c_X8_skips l D cA A (upd (x) 10 (nI (at_ + i_1))) (f) ((sCh i i_1).toNatClampNeg) (ln) (at_ + i_1) hA hl7 (by rfl) (by omega) (by omega) (by omega)) (cwV 1 hts (gWV gm_46_3 gm_46_4 gm_46_5 gm_1_5 gm_46_6) rfl rfl rfl (by decide +kernel) ⟨Nat.le_of_ble_eq_true rfl, Nat.le_of_ble_eq_true rfl⟩) (gPreV hK (g_rf hK hP (ci := 10) (q0 := 0) rfl rfl) hP) rfl rfl hl.1 rfl (lv_room (Nat.le_of_ble_eq_true rfl)) dX8_isWord_16 ⟨by omega, by omega⟩) hS (fun q _ h => h) (fun q h => h) (fun r H locs hw9 hz9 hk9 hS => ?_)
        obtain ⟨rfl, hP⟩ := hw9
        have hP : va_P D vwCl (mw cA A (upd (x) 10 (nI ((skO (f 4) (ln) (at_ + i_1) ((sCh i i_1).toNatClampNeg)).2))) (f)) H := hP
        have hD : va_D (MA A) (mw cA A (upd (x) 10 (nI ((skO (f 4) (ln) (at_ + i_1) ((sCh i i_1).toNatClampNeg)).2))) (f)) := mD hA
        have hxb_14 : (skO (f 4) (ln) (at_ + i_1) ((sCh i i_1).toNatClampNeg)).2 ≤ ln := skO_le (by omega) (by omega)
        refine g_if_ne (P := (skO (f 4) (ln) (at_ + i_1) ((sCh i i_1).toNatClampNeg)).1 = false) (tgt := 24) hx hb dX8_isWord_19 (by decide) b2i_0 (fun c_15 => ?_) (fun c_15 => ?_)
        · have c_15 : (skO (f 4) (ln) (at_ + i_1) ((sCh i i_1).toNatClampNeg)).1 = true := eq_true_of_ne_false c_15
          have hxb_16 : at_ + i_1 + 1 ≤ ln := Nat.le_trans (Nat.le_of_eq (skO_t c_15).symm) hxb_14
          rw [skO_t c_15] at hP
          have hP : va_P D vwCl (mw cA A (upd (x) 10 (nI (at_ + i_1 + 1))) (f)) H := hP
          have hD : va_D (MA A) (mw cA A (upd (x) 10 (nI (at_ + i_1 + 1))) (f)) := mD hA
          refine lv_iinc (v := nI (i_1 + 1)) (lv' := [(2, .int (nI (i_1 + 1))), (0, .ref (A 0)), (1, .ref (adK i))]) hx hb dX8_isWord_24 hl (k := 0) rfl (inc_1 _) (by decide) rfl (fun ls hl => ?_)
          refine lv_goto (tgt := 2) hx hb dX8_isWord_27 (by decide) ?_
          exact ih_6 (i_1 + 1) _ (nI (at_ + i_1 + 1)) H locs (by omega) (by omega) rfl rfl (fnd_succ_none hv (by rw [wdP, skO_tt c_15, ← hch9.2.2]; simp)) hP hS ls (lv_sub hl [0, 1, 2] rfl)
        · have hxb_17 : at_ + i_1 ≤ ln := Nat.le_trans (Nat.le_of_eq (skO_f c_15).symm) hxb_14
          rw [skO_f c_15] at hP
          have hP : va_P D vwCl (mw cA A (upd (x) 10 (nI (at_ + i_1))) (f)) H := hP
          have hD : va_D (MA A) (mw cA A (upd (x) 10 (nI (at_ + i_1))) (f)) := mD hA
          refine lv_iconst (v := nI (0)) hx hb dX8_isWord_22 gc_0 ?_
          exact g_zretW (v := nI (0)) hx hb hr hlk rfl hS dX8_isWord_23 (by rw [wdO_at hv (by have h9 := skO_ff c_15; rw [← hch9.2.2] at h9; rw [wdP, decide_eq_false h9]; rfl) (by omega)]; exact ⟨rfl, hP⟩)
  exact LP_5 ((sLen.getD i 0) + 1) 0 _ (x 10) s.heap [] (by omega) (by omega) rfl hat rfl hP hS ls (lv_sub hl [0, 1, 2] rfl)

abbrev OH : Type := Bool × (Nat × (Nat → Int32))
def o2 (r : OH) (k : Nat → (Nat → Int32) → OH) : OH := if r.1 = true then k r.2.1 r.2.2 else (false, r.2)
def wdT (inp : Nat → Int32) (ln i q : Nat) (td : Nat → Int32) : OH := ((wdO inp ln q i).1, ((wdO inp ln q i).2, td))
def skT (inp : Nat → Int32) (ln c q : Nat) (td : Nat → Int32) : OH := if (skO inp ln q c).1 = true then (true, (q + 1, td)) else (false, (q, td))
def ohJ (inp : Nat → Int32) (ln q : Nat) (td : Nat → Int32) (p : Nat) : OH := o2 (wdT inp ln 8 q (upd td p (nI 0))) (fun q td => o2 (lhO inp ln q td (p + 1)) (fun q td => o2 (skT inp ln 32 q td) (fun q td => fgO inp ln q td (p + 2) 1)))
def ohN (inp : Nat → Int32) (ln q : Nat) (td : Nat → Int32) (p w i : Nat) : OH := o2 (wdT inp ln i q (upd td p (nI w))) (fun q td => fgO inp ln q td (p + 1) 1)
def ohW (inp : Nat → Int32) (ln q : Nat) (td : Nat → Int32) (p w i : Nat) : OH := wdT inp ln i q (upd td p (nI w))
def ohC (inp : Nat → Int32) (ln q : Nat) (td : Nat → Int32) (p : Nat) : OH := o2 (wdT inp ln 15 q (upd td p (nI 1))) (fun q td => o2 (fgO inp ln q td (p + 1) 3) (fun q td => o2 (skT inp ln 32 q td) (fun q td => fgO inp ln q td (p + 2) 2)))
def ohM (inp : Nat → Int32) (ln q : Nat) (td : Nat → Int32) (p : Nat) : OH :=
  if (skO inp ln q 106).1 = true then ohJ inp ln (q + 1) td p else if (skO inp ln q 118).1 = true then ohN inp ln (q + 1) td p 3 9 else if (skO inp ln q 117).1 = true then ohN inp ln (q + 1) td p 4 10
  else if (skO inp ln q 97).1 = true then ohN inp ln (q + 1) td p 5 11 else if (skO inp ln q 110).1 = true then ohW inp ln (q + 1) td p 7 12
  else if (skO inp ln q 99).1 = true then (if (skO inp ln (q + 1) 108).1 = true then ohW inp ln (q + 1 + 1) td p 6 13 else if (skO inp ln (q + 1) 97).1 = true then (if (skO inp ln (q + 1 + 1) 108).1 = true then ohN inp ln (q + 1 + 1 + 1) td p 2 14 else ohC inp ln (q + 1 + 1) td p) else (false, (q + 1, td))) else (false, (q, td))

set_option maxHeartbeats 1000000 in
set_option maxRecDepth 100000 in
theorem c_X8_orderHere (l : Launch) (D : va_G) (cA : Nat → ClassId) (AE : Nat → Prop) (adK adV sa : Nat → Nat) (A : Nat → Nat) (x : Nat → Int32) (f : Nat → Nat → Int32) (tm ln at_ : Nat) (hA : mInj A) (hl7 : x 7 = nI ln) (hat : x 10 = nI at_) (hl60 : ln ≤ 60) (ha6 : at_ ≤ ln) (htm : x 11 = nI tm) (ht30 : tm ≤ 30) (hFA : ∀ q, (MA A) q → AE q) : Met l yX8_orderHere (gw yX8_orderHere cX8_orderHere 2 (some .boolean)) ({ frames := 5, cells := 0, slots := 0, locals := 143 } : Room) (gPx [.ref (A 0)] (fun H => va_P D vwCl (mw cA A x f) H) D cA AE adK adV sa) (wrI (fun r H => r = b2i (ohM (f 4) ln at_ (f 8) (3 * tm)).1 ∧ va_P D vwCl (mw cA A (upd x 10 (nI (ohM (f 4) ln at_ (f 8) (3 * tm)).2.1)) (va_up f 8 (ohM (f 4) ln at_ (f 8) (3 * tm)).2.2)) H) (MA A)) 0 0 (MA A) := by
  refine gOfx (by decide) (Nat.le_of_ble_eq_true rfl) ?_
  intro p e s m below meth c ls hx hb hml hr hlk hown hts hnm hP hK hE hl
  have hl : lv_has ls 2 [(0, .ref (A 0))] := hl
  have hD : va_D (MA A) (mw cA A x f) := mD hA
  have hS : va_S (MA A) s.heap s.heap [] := va_S.rf
  refine lv_iconst (v := nI (3)) hx hb dX8_orderHere_0 gc_3 ?_
  refine lv_aload_n hx hb dX8_orderHere_1 rfl (lv_at hl 0 rfl) ?_
  refine g_get (v := .int (x 11)) hx hb hts hown hK hP 0 rfl rfl gu_wsX80 20 (by decide) gm_45_18 rfl dX8_orderHere_2 ?_
  refine g_top htm ?_
  refine g_imul hx hb dX8_orderHere_5 ?_
  refine lv_istore_n (lv' := [(1, .int (nI (3 * tm))), (0, .ref (A 0))]) hx hb dX8_orderHere_6 rfl hl (by decide) rfl (fun ls hl => ?_)
  refine lv_aload_n hx hb dX8_orderHere_7 rfl (lv_at hl 1 rfl) ?_
  refine lv_bipush (v := nI (106)) hx hb dX8_orderHere_8 gb_106 ?_
  refine wr_calli (va_runV (As := [.int (nI (106))]) (rest := []) ⟨hx, hb, hml, hown, hts⟩ (c_X8_skips l D cA A (x) (f) (106) (ln) (at_) hA hl7 hat (by omega) (by omega) (by omega)) (cwV 1 hts (gWV gm_46_3 gm_46_4 gm_46_5 gm_1_5 gm_46_6) rfl rfl rfl (by decide +kernel) ⟨Nat.le_of_ble_eq_true rfl, Nat.le_of_ble_eq_true rfl⟩) (gPreV hK (g_rf hK hP (ci := 10) (q0 := 0) rfl rfl) hP) rfl rfl hl.1 rfl (lv_room (Nat.le_of_ble_eq_true rfl)) dX8_orderHere_10 ⟨by omega, by omega⟩) hS (fun q _ h => h) (fun q h => h) (fun r H locs hw9 hz9 hk9 hS => ?_)
  obtain ⟨rfl, hP⟩ := hw9
  have hP : va_P D vwCl (mw cA A (upd (x) 10 (nI ((skO (f 4) (ln) (at_) (106)).2))) (f)) H := hP
  have hD : va_D (MA A) (mw cA A (upd (x) 10 (nI ((skO (f 4) (ln) (at_) (106)).2))) (f)) := mD hA
  have hxb_1 : (skO (f 4) (ln) (at_) (106)).2 ≤ ln := skO_le (by omega) (by omega)
  refine g_if_eq (P := (skO (f 4) (ln) (at_) (106)).1 = false) (tgt := 69) hx hb dX8_orderHere_13 (by decide) b2i_0 (fun c_2 => ?_) (fun c_2 => ?_)
  · have hxb_3 : at_ ≤ ln := Nat.le_trans (Nat.le_of_eq (skO_f c_2).symm) hxb_1
    rw [skO_f c_2] at hP
    have hP : va_P D vwCl (mw cA A (upd (x) 10 (nI (at_))) (f)) H := hP
    have hD : va_D (MA A) (mw cA A (upd (x) 10 (nI (at_))) (f)) := mD hA
    refine lv_aload_n hx hb dX8_orderHere_69 rfl (lv_at hl 1 rfl) ?_
    refine lv_bipush (v := nI (118)) hx hb dX8_orderHere_70 gb_118 ?_
    refine wr_calli (va_runV (As := [.int (nI (118))]) (rest := []) ⟨hx, hb, hml, hown, hts⟩ (c_X8_skips l D cA A (upd (x) 10 (nI (at_))) (f) (118) (ln) (at_) hA hl7 (by rfl) (by omega) (by omega) (by omega)) (cwV 1 hts (gWV gm_46_3 gm_46_4 gm_46_5 gm_1_5 gm_46_6) rfl rfl rfl (by decide +kernel) ⟨Nat.le_of_ble_eq_true rfl, Nat.le_of_ble_eq_true rfl⟩) (gPreV hK (g_rf hK hP (ci := 10) (q0 := 0) rfl rfl) hP) rfl rfl hl.1 rfl (lv_room (Nat.le_of_ble_eq_true rfl)) dX8_orderHere_72 ⟨by omega, by omega⟩) hS (fun q _ h => h) (fun q h => h) (fun r H locs hw9 hz9 hk9 hS => ?_)
    obtain ⟨rfl, hP⟩ := hw9
    have hP : va_P D vwCl (mw cA A (upd (x) 10 (nI ((skO (f 4) (ln) (at_) (118)).2))) (f)) H := hP
    have hD : va_D (MA A) (mw cA A (upd (x) 10 (nI ((skO (f 4) (ln) (at_) (118)).2))) (f)) := mD hA
    have hxb_4 : (skO (f 4) (ln) (at_) (118)).2 ≤ ln := skO_le (by omega) (by omega)
    refine g_if_eq (P := (skO (f 4) (ln) (at_) (118)).1 = false) (tgt := 112) hx hb dX8_orderHere_75 (by decide) b2i_0 (fun c_5 => ?_) (fun c_5 => ?_)
    · have hxb_6 : at_ ≤ ln := Nat.le_trans (Nat.le_of_eq (skO_f c_5).symm) hxb_4
      rw [skO_f c_5] at hP
      have hP : va_P D vwCl (mw cA A (upd (x) 10 (nI (at_))) (f)) H := hP
      have hD : va_D (MA A) (mw cA A (upd (x) 10 (nI (at_))) (f)) := mD hA
      refine lv_aload_n hx hb dX8_orderHere_112 rfl (lv_at hl 1 rfl) ?_
      refine lv_bipush (v := nI (117)) hx hb dX8_orderHere_113 gb_117 ?_
      refine wr_calli (va_runV (As := [.int (nI (117))]) (rest := []) ⟨hx, hb, hml, hown, hts⟩ (c_X8_skips l D cA A (upd (x) 10 (nI (at_))) (f) (117) (ln) (at_) hA hl7 (by rfl) (by omega) (by omega) (by omega)) (cwV 1 hts (gWV gm_46_3 gm_46_4 gm_46_5 gm_1_5 gm_46_6) rfl rfl rfl (by decide +kernel) ⟨Nat.le_of_ble_eq_true rfl, Nat.le_of_ble_eq_true rfl⟩) (gPreV hK (g_rf hK hP (ci := 10) (q0 := 0) rfl rfl) hP) rfl rfl hl.1 rfl (lv_room (Nat.le_of_ble_eq_true rfl)) dX8_orderHere_115 ⟨by omega, by omega⟩) hS (fun q _ h => h) (fun q h => h) (fun r H locs hw9 hz9 hk9 hS => ?_)
      obtain ⟨rfl, hP⟩ := hw9
      have hP : va_P D vwCl (mw cA A (upd (x) 10 (nI ((skO (f 4) (ln) (at_) (117)).2))) (f)) H := hP
      have hD : va_D (MA A) (mw cA A (upd (x) 10 (nI ((skO (f 4) (ln) (at_) (117)).2))) (f)) := mD hA
      have hxb_7 : (skO (f 4) (ln) (at_) (117)).2 ≤ ln := skO_le (by omega) (by omega)
      refine g_if_eq (P := (skO (f 4) (ln) (at_) (117)).1 = false) (tgt := 155) hx hb dX8_orderHere_118 (by decide) b2i_0 (fun c_8 => ?_) (fun c_8 => ?_)
      · have hxb_9 : at_ ≤ ln := Nat.le_trans (Nat.le_of_eq (skO_f c_8).symm) hxb_7
        rw [skO_f c_8] at hP
        have hP : va_P D vwCl (mw cA A (upd (x) 10 (nI (at_))) (f)) H := hP
        have hD : va_D (MA A) (mw cA A (upd (x) 10 (nI (at_))) (f)) := mD hA
        refine lv_aload_n hx hb dX8_orderHere_155 rfl (lv_at hl 1 rfl) ?_
        refine lv_bipush (v := nI (97)) hx hb dX8_orderHere_156 gb_97 ?_
        refine wr_calli (va_runV (As := [.int (nI (97))]) (rest := []) ⟨hx, hb, hml, hown, hts⟩ (c_X8_skips l D cA A (upd (x) 10 (nI (at_))) (f) (97) (ln) (at_) hA hl7 (by rfl) (by omega) (by omega) (by omega)) (cwV 1 hts (gWV gm_46_3 gm_46_4 gm_46_5 gm_1_5 gm_46_6) rfl rfl rfl (by decide +kernel) ⟨Nat.le_of_ble_eq_true rfl, Nat.le_of_ble_eq_true rfl⟩) (gPreV hK (g_rf hK hP (ci := 10) (q0 := 0) rfl rfl) hP) rfl rfl hl.1 rfl (lv_room (Nat.le_of_ble_eq_true rfl)) dX8_orderHere_158 ⟨by omega, by omega⟩) hS (fun q _ h => h) (fun q h => h) (fun r H locs hw9 hz9 hk9 hS => ?_)
        obtain ⟨rfl, hP⟩ := hw9
        have hP : va_P D vwCl (mw cA A (upd (x) 10 (nI ((skO (f 4) (ln) (at_) (97)).2))) (f)) H := hP
        have hD : va_D (MA A) (mw cA A (upd (x) 10 (nI ((skO (f 4) (ln) (at_) (97)).2))) (f)) := mD hA
        have hxb_10 : (skO (f 4) (ln) (at_) (97)).2 ≤ ln := skO_le (by omega) (by omega)
        refine g_if_eq (P := (skO (f 4) (ln) (at_) (97)).1 = false) (tgt := 198) hx hb dX8_orderHere_161 (by decide) b2i_0 (fun c_11 => ?_) (fun c_11 => ?_)
        · have hxb_12 : at_ ≤ ln := Nat.le_trans (Nat.le_of_eq (skO_f c_11).symm) hxb_10
          rw [skO_f c_11] at hP
          have hP : va_P D vwCl (mw cA A (upd (x) 10 (nI (at_))) (f)) H := hP
          have hD : va_D (MA A) (mw cA A (upd (x) 10 (nI (at_))) (f)) := mD hA
          refine lv_aload_n hx hb dX8_orderHere_198 rfl (lv_at hl 1 rfl) ?_
          refine lv_bipush (v := nI (110)) hx hb dX8_orderHere_199 gb_110 ?_
          refine wr_calli (va_runV (As := [.int (nI (110))]) (rest := []) ⟨hx, hb, hml, hown, hts⟩ (c_X8_skips l D cA A (upd (x) 10 (nI (at_))) (f) (110) (ln) (at_) hA hl7 (by rfl) (by omega) (by omega) (by omega)) (cwV 1 hts (gWV gm_46_3 gm_46_4 gm_46_5 gm_1_5 gm_46_6) rfl rfl rfl (by decide +kernel) ⟨Nat.le_of_ble_eq_true rfl, Nat.le_of_ble_eq_true rfl⟩) (gPreV hK (g_rf hK hP (ci := 10) (q0 := 0) rfl rfl) hP) rfl rfl hl.1 rfl (lv_room (Nat.le_of_ble_eq_true rfl)) dX8_orderHere_201 ⟨by omega, by omega⟩) hS (fun q _ h => h) (fun q h => h) (fun r H locs hw9 hz9 hk9 hS => ?_)
          obtain ⟨rfl, hP⟩ := hw9
          have hP : va_P D vwCl (mw cA A (upd (x) 10 (nI ((skO (f 4) (ln) (at_) (110)).2))) (f)) H := hP
          have hD : va_D (MA A) (mw cA A (upd (x) 10 (nI ((skO (f 4) (ln) (at_) (110)).2))) (f)) := mD hA
          have hxb_13 : (skO (f 4) (ln) (at_) (110)).2 ≤ ln := skO_le (by omega) (by omega)
          refine g_if_eq (P := (skO (f 4) (ln) (at_) (110)).1 = false) (tgt := 231) hx hb dX8_orderHere_204 (by decide) b2i_0 (fun c_14 => ?_) (fun c_14 => ?_)
          · have hxb_15 : at_ ≤ ln := Nat.le_trans (Nat.le_of_eq (skO_f c_14).symm) hxb_13
            rw [skO_f c_14] at hP
            have hP : va_P D vwCl (mw cA A (upd (x) 10 (nI (at_))) (f)) H := hP
            have hD : va_D (MA A) (mw cA A (upd (x) 10 (nI (at_))) (f)) := mD hA
            refine lv_aload_n hx hb dX8_orderHere_231 rfl (lv_at hl 1 rfl) ?_
            refine lv_bipush (v := nI (99)) hx hb dX8_orderHere_232 gb_99 ?_
            refine wr_calli (va_runV (As := [.int (nI (99))]) (rest := []) ⟨hx, hb, hml, hown, hts⟩ (c_X8_skips l D cA A (upd (x) 10 (nI (at_))) (f) (99) (ln) (at_) hA hl7 (by rfl) (by omega) (by omega) (by omega)) (cwV 1 hts (gWV gm_46_3 gm_46_4 gm_46_5 gm_1_5 gm_46_6) rfl rfl rfl (by decide +kernel) ⟨Nat.le_of_ble_eq_true rfl, Nat.le_of_ble_eq_true rfl⟩) (gPreV hK (g_rf hK hP (ci := 10) (q0 := 0) rfl rfl) hP) rfl rfl hl.1 rfl (lv_room (Nat.le_of_ble_eq_true rfl)) dX8_orderHere_234 ⟨by omega, by omega⟩) hS (fun q _ h => h) (fun q h => h) (fun r H locs hw9 hz9 hk9 hS => ?_)
            obtain ⟨rfl, hP⟩ := hw9
            have hP : va_P D vwCl (mw cA A (upd (x) 10 (nI ((skO (f 4) (ln) (at_) (99)).2))) (f)) H := hP
            have hD : va_D (MA A) (mw cA A (upd (x) 10 (nI ((skO (f 4) (ln) (at_) (99)).2))) (f)) := mD hA
            have hxb_16 : (skO (f 4) (ln) (at_) (99)).2 ≤ ln := skO_le (by omega) (by omega)
            refine g_if_ne (P := (skO (f 4) (ln) (at_) (99)).1 = false) (tgt := 242) hx hb dX8_orderHere_237 (by decide) b2i_0 (fun c_17 => ?_) (fun c_17 => ?_)
            · have c_17 : (skO (f 4) (ln) (at_) (99)).1 = true := eq_true_of_ne_false c_17
              have hxb_18 : at_ + 1 ≤ ln := Nat.le_trans (Nat.le_of_eq (skO_t c_17).symm) hxb_16
              rw [skO_t c_17] at hP
              have hP : va_P D vwCl (mw cA A (upd (x) 10 (nI (at_ + 1))) (f)) H := hP
              have hD : va_D (MA A) (mw cA A (upd (x) 10 (nI (at_ + 1))) (f)) := mD hA
              refine lv_aload_n hx hb dX8_orderHere_242 rfl (lv_at hl 1 rfl) ?_
              refine lv_bipush (v := nI (108)) hx hb dX8_orderHere_243 gb_108 ?_
              refine wr_calli (va_runV (As := [.int (nI (108))]) (rest := []) ⟨hx, hb, hml, hown, hts⟩ (c_X8_skips l D cA A (upd (x) 10 (nI (at_ + 1))) (f) (108) (ln) (at_ + 1) hA hl7 (by rfl) (by omega) (by omega) (by omega)) (cwV 1 hts (gWV gm_46_3 gm_46_4 gm_46_5 gm_1_5 gm_46_6) rfl rfl rfl (by decide +kernel) ⟨Nat.le_of_ble_eq_true rfl, Nat.le_of_ble_eq_true rfl⟩) (gPreV hK (g_rf hK hP (ci := 10) (q0 := 0) rfl rfl) hP) rfl rfl hl.1 rfl (lv_room (Nat.le_of_ble_eq_true rfl)) dX8_orderHere_245 ⟨by omega, by omega⟩) hS (fun q _ h => h) (fun q h => h) (fun r H locs hw9 hz9 hk9 hS => ?_)
              obtain ⟨rfl, hP⟩ := hw9
              have hP : va_P D vwCl (mw cA A (upd (x) 10 (nI ((skO (f 4) (ln) (at_ + 1) (108)).2))) (f)) H := hP
              have hD : va_D (MA A) (mw cA A (upd (x) 10 (nI ((skO (f 4) (ln) (at_ + 1) (108)).2))) (f)) := mD hA
              have hxb_19 : (skO (f 4) (ln) (at_ + 1) (108)).2 ≤ ln := skO_le (by omega) (by omega)
              refine g_if_eq (P := (skO (f 4) (ln) (at_ + 1) (108)).1 = false) (tgt := 275) hx hb dX8_orderHere_248 (by decide) b2i_0 (fun c_20 => ?_) (fun c_20 => ?_)
              · have hxb_21 : at_ + 1 ≤ ln := Nat.le_trans (Nat.le_of_eq (skO_f c_20).symm) hxb_19
                rw [skO_f c_20] at hP
                have hP : va_P D vwCl (mw cA A (upd (x) 10 (nI (at_ + 1))) (f)) H := hP
                have hD : va_D (MA A) (mw cA A (upd (x) 10 (nI (at_ + 1))) (f)) := mD hA
                refine lv_aload_n hx hb dX8_orderHere_275 rfl (lv_at hl 1 rfl) ?_
                refine lv_bipush (v := nI (97)) hx hb dX8_orderHere_276 gb_97 ?_
                refine wr_calli (va_runV (As := [.int (nI (97))]) (rest := []) ⟨hx, hb, hml, hown, hts⟩ (c_X8_skips l D cA A (upd (x) 10 (nI (at_ + 1))) (f) (97) (ln) (at_ + 1) hA hl7 (by rfl) (by omega) (by omega) (by omega)) (cwV 1 hts (gWV gm_46_3 gm_46_4 gm_46_5 gm_1_5 gm_46_6) rfl rfl rfl (by decide +kernel) ⟨Nat.le_of_ble_eq_true rfl, Nat.le_of_ble_eq_true rfl⟩) (gPreV hK (g_rf hK hP (ci := 10) (q0 := 0) rfl rfl) hP) rfl rfl hl.1 rfl (lv_room (Nat.le_of_ble_eq_true rfl)) dX8_orderHere_278 ⟨by omega, by omega⟩) hS (fun q _ h => h) (fun q h => h) (fun r H locs hw9 hz9 hk9 hS => ?_)
                obtain ⟨rfl, hP⟩ := hw9
                have hP : va_P D vwCl (mw cA A (upd (x) 10 (nI ((skO (f 4) (ln) (at_ + 1) (97)).2))) (f)) H := hP
                have hD : va_D (MA A) (mw cA A (upd (x) 10 (nI ((skO (f 4) (ln) (at_ + 1) (97)).2))) (f)) := mD hA
                have hxb_22 : (skO (f 4) (ln) (at_ + 1) (97)).2 ≤ ln := skO_le (by omega) (by omega)
                refine g_if_ne (P := (skO (f 4) (ln) (at_ + 1) (97)).1 = false) (tgt := 286) hx hb dX8_orderHere_281 (by decide) b2i_0 (fun c_23 => ?_) (fun c_23 => ?_)
                · have c_23 : (skO (f 4) (ln) (at_ + 1) (97)).1 = true := eq_true_of_ne_false c_23
                  have hxb_24 : at_ + 1 + 1 ≤ ln := Nat.le_trans (Nat.le_of_eq (skO_t c_23).symm) hxb_22
                  rw [skO_t c_23] at hP
                  have hP : va_P D vwCl (mw cA A (upd (x) 10 (nI (at_ + 1 + 1))) (f)) H := hP
                  have hD : va_D (MA A) (mw cA A (upd (x) 10 (nI (at_ + 1 + 1))) (f)) := mD hA
                  refine lv_aload_n hx hb dX8_orderHere_286 rfl (lv_at hl 1 rfl) ?_
                  refine lv_bipush (v := nI (108)) hx hb dX8_orderHere_287 gb_108 ?_
                  refine wr_calli (va_runV (As := [.int (nI (108))]) (rest := []) ⟨hx, hb, hml, hown, hts⟩ (c_X8_skips l D cA A (upd (x) 10 (nI (at_ + 1 + 1))) (f) (108) (ln) (at_ + 1 + 1) hA hl7 (by rfl) (by omega) (by omega) (by omega)) (cwV 1 hts (gWV gm_46_3 gm_46_4 gm_46_5 gm_1_5 gm_46_6) rfl rfl rfl (by decide +kernel) ⟨Nat.le_of_ble_eq_true rfl, Nat.le_of_ble_eq_true rfl⟩) (gPreV hK (g_rf hK hP (ci := 10) (q0 := 0) rfl rfl) hP) rfl rfl hl.1 rfl (lv_room (Nat.le_of_ble_eq_true rfl)) dX8_orderHere_289 ⟨by omega, by omega⟩) hS (fun q _ h => h) (fun q h => h) (fun r H locs hw9 hz9 hk9 hS => ?_)
                  obtain ⟨rfl, hP⟩ := hw9
                  have hP : va_P D vwCl (mw cA A (upd (x) 10 (nI ((skO (f 4) (ln) (at_ + 1 + 1) (108)).2))) (f)) H := hP
                  have hD : va_D (MA A) (mw cA A (upd (x) 10 (nI ((skO (f 4) (ln) (at_ + 1 + 1) (108)).2))) (f)) := mD hA
                  have hxb_25 : (skO (f 4) (ln) (at_ + 1 + 1) (108)).2 ≤ ln := skO_le (by omega) (by omega)
                  refine g_if_eq (P := (skO (f 4) (ln) (at_ + 1 + 1) (108)).1 = false) (tgt := 329) hx hb dX8_orderHere_292 (by decide) b2i_0 (fun c_26 => ?_) (fun c_26 => ?_)
                  · have hxb_27 : at_ + 1 + 1 ≤ ln := Nat.le_trans (Nat.le_of_eq (skO_f c_26).symm) hxb_25
                    rw [skO_f c_26] at hP
                    have hP : va_P D vwCl (mw cA A (upd (x) 10 (nI (at_ + 1 + 1))) (f)) H := hP
                    have hD : va_D (MA A) (mw cA A (upd (x) 10 (nI (at_ + 1 + 1))) (f)) := mD hA
                    refine lv_aload_n hx hb dX8_orderHere_329 rfl (lv_at hl 1 rfl) ?_
                    refine lv_iconst (v := nI (1)) hx hb dX8_orderHere_330 gc_1 ?_
                    refine wr_calli (va_runV (As := [.int (nI (1))]) (rest := []) ⟨hx, hb, hml, hown, hts⟩ (c_X8_hasOrder l D cA A (upd (x) 10 (nI (at_ + 1 + 1))) (f) (1) (tm) hA htm (by omega)) (cwV 1 hts (gWV gm_46_11 gm_46_12 gm_46_13 gm_1_5 gm_46_14) rfl rfl rfl (by decide +kernel) ⟨Nat.le_of_ble_eq_true rfl, Nat.le_of_ble_eq_true rfl⟩) (gPreV hK (g_rf hK hP (ci := 10) (q0 := 0) rfl rfl) hP) rfl rfl hl.1 rfl (lv_room (Nat.le_of_ble_eq_true rfl)) dX8_orderHere_331 ⟨by omega, by omega⟩) hS (fun q _ h => h) (fun q h => h) (fun r H locs hw9 hz9 hk9 hS => ?_)
                    obtain ⟨rfl, hP⟩ := hw9
                    have hP : va_P D vwCl (mw cA A (upd (x) 10 (nI (at_ + 1 + 1))) (va_up (f) 8 (upd (f 8) (3 * tm) (nI (1))))) H := hP
                    have hD : va_D (MA A) (mw cA A (upd (x) 10 (nI (at_ + 1 + 1))) (va_up (f) 8 (upd (f 8) (3 * tm) (nI (1))))) := mD hA
                    refine g_if_eq (P := true = false) (tgt := 381) hx hb dX8_orderHere_334 (by decide) b2i_0 (fun c_28 => ?_) (fun c_28 => ?_)
                    · exact absurd c_28 (by decide)
                    · have c_28 : true = true := eq_true_of_ne_false c_28
                      refine lv_aload_n hx hb dX8_orderHere_337 rfl (lv_at hl 1 rfl) ?_
                      refine va_ldcS hx hb hown (hE.2.1 15 (RX8, 230, "se ") rfl) dX8_orderHere_338 ?_
                      refine wr_calli (va_runV (As := [.ref (adK 15)]) (rest := []) ⟨hx, hb, hml, hown, hts⟩ (c_X8_isWord l D cA AE adK adV sa A (upd (x) 10 (nI (at_ + 1 + 1))) (va_up (f) 8 (upd (f 8) (3 * tm) (nI (1)))) 15 (ln) (at_ + 1 + 1) hA hl7 (by rfl) (by omega) (by omega) (by decide) hFA) (cwV 1 hts (gWV gm_46_15 gm_46_16 gm_46_17 gm_1_5 gm_46_18) rfl rfl rfl (by decide +kernel) ⟨Nat.le_of_ble_eq_true rfl, Nat.le_of_ble_eq_true rfl⟩) (gPreVx hK hE hS hFA (g_rf hK hP (ci := 10) (q0 := 0) rfl rfl) hP) rfl rfl hl.1 rfl (lv_room (Nat.le_of_ble_eq_true rfl)) dX8_orderHere_340 ⟨by omega, by omega⟩) hS (fun q _ h => h) (fun q h => h) (fun r H locs hw9 hz9 hk9 hS => ?_)
                      obtain ⟨rfl, hP⟩ := hw9
                      have hP : va_P D vwCl (mw cA A (upd (x) 10 (nI ((wdO (f 4) (ln) (at_ + 1 + 1) 15).2))) (va_up (f) 8 (upd (f 8) (3 * tm) (nI (1))))) H := hP
                      have hD : va_D (MA A) (mw cA A (upd (x) 10 (nI ((wdO (f 4) (ln) (at_ + 1 + 1) 15).2))) (va_up (f) 8 (upd (f 8) (3 * tm) (nI (1))))) := mD hA
                      have hxb_29 : (wdO (f 4) (ln) (at_ + 1 + 1) 15).2 ≤ ln := wdO_le (by decide) (by omega)
                      refine g_if_eq (P := (wdO (f 4) (ln) (at_ + 1 + 1) 15).1 = false) (tgt := 381) hx hb dX8_orderHere_343 (by decide) b2i_0 (fun c_30 => ?_) (fun c_30 => ?_)
                      · refine lv_iconst (v := nI (0)) hx hb dX8_orderHere_381 gc_0 ?_
                        exact g_zretW (v := nI (0)) hx hb hr hlk rfl hS dX8_orderHere_382 (by have e9 : ohM (f 4) ln at_ (f 8) (3 * tm) = (false, ((wdO (f 4) (ln) (at_ + 1 + 1) 15).2, upd (f 8) (3 * tm) (nI (1)))) := (by simp only [ohM, ohJ, ohN, ohW, ohC, o2, wdT, skT, c_2, c_5, c_8, c_11, c_14, c_17, c_20, c_23, c_26, c_30, eq_self, Bool.false_eq_true, ↓reduceIte] <;> first | rfl | exact Prod.ext c_30 rfl) ; rw [e9]; exact ⟨rfl, hP⟩)
                      · have c_30 : (wdO (f 4) (ln) (at_ + 1 + 1) 15).1 = true := eq_true_of_ne_false c_30
                        refine lv_aload_n hx hb dX8_orderHere_346 rfl (lv_at hl 1 rfl) ?_
                        refine lv_iload_n hx hb dX8_orderHere_347 rfl (lv_at hl 0 rfl) ?_
                        refine lv_iconst (v := nI (1)) hx hb dX8_orderHere_348 gc_1 ?_
                        refine g_iadd hx hb dX8_orderHere_349 ?_
                        refine lv_iconst (v := nI (3)) hx hb dX8_orderHere_350 gc_3 ?_
                        refine wr_calli (va_runV (As := [.int (nI ((3 * tm) + (1))), .int (nI (3))]) (rest := []) ⟨hx, hb, hml, hown, hts⟩ (c_X8_figures l D cA A (upd (x) 10 (nI ((wdO (f 4) (ln) (at_ + 1 + 1) 15).2))) (va_up (f) 8 (upd (f 8) (3 * tm) (nI (1)))) ((3 * tm) + (1)) (3) (ln) ((wdO (f 4) (ln) (at_ + 1 + 1) 15).2) hA hl7 (by rfl) (by omega) (by omega) (by omega) (by omega)) (cwV 2 hts (gWV gm_47_1 gm_47_2 gm_47_3 gm_1_5 gm_47_4) rfl rfl rfl (by decide +kernel) ⟨Nat.le_of_ble_eq_true rfl, Nat.le_of_ble_eq_true rfl⟩) (gPreV hK (g_rf hK hP (ci := 10) (q0 := 0) rfl rfl) hP) rfl rfl hl.1 rfl (lv_room (Nat.le_of_ble_eq_true rfl)) dX8_orderHere_351 ⟨by omega, by omega⟩) hS (fun q _ h => h) (fun q h => h) (fun r H locs hw9 hz9 hk9 hS => ?_)
                        obtain ⟨rfl, hP⟩ := hw9
                        have hP : va_P D vwCl (mw cA A (upd (x) 10 (nI ((fgO (f 4) (ln) ((wdO (f 4) (ln) (at_ + 1 + 1) 15).2) (upd (f 8) (3 * tm) (nI (1))) ((3 * tm) + (1)) (3)).2.1))) (va_up (f) 8 ((fgO (f 4) (ln) ((wdO (f 4) (ln) (at_ + 1 + 1) 15).2) (upd (f 8) (3 * tm) (nI (1))) ((3 * tm) + (1)) (3)).2.2))) H := hP
                        have hD : va_D (MA A) (mw cA A (upd (x) 10 (nI ((fgO (f 4) (ln) ((wdO (f 4) (ln) (at_ + 1 + 1) 15).2) (upd (f 8) (3 * tm) (nI (1))) ((3 * tm) + (1)) (3)).2.1))) (va_up (f) 8 ((fgO (f 4) (ln) ((wdO (f 4) (ln) (at_ + 1 + 1) 15).2) (upd (f 8) (3 * tm) (nI (1))) ((3 * tm) + (1)) (3)).2.2))) := mD hA
                        have hxb_31 : (fgO (f 4) (ln) ((wdO (f 4) (ln) (at_ + 1 + 1) 15).2) (upd (f 8) (3 * tm) (nI (1))) ((3 * tm) + (1)) (3)).2.1 ≤ ln := fgO_le (by omega)
                        refine g_if_eq (P := (fgO (f 4) (ln) ((wdO (f 4) (ln) (at_ + 1 + 1) 15).2) (upd (f 8) (3 * tm) (nI (1))) ((3 * tm) + (1)) (3)).1 = false) (tgt := 381) hx hb dX8_orderHere_354 (by decide) b2i_0 (fun c_32 => ?_) (fun c_32 => ?_)
                        · refine lv_iconst (v := nI (0)) hx hb dX8_orderHere_381 gc_0 ?_
                          exact g_zretW (v := nI (0)) hx hb hr hlk rfl hS dX8_orderHere_382 (by have e9 : ohM (f 4) ln at_ (f 8) (3 * tm) = (false, ((fgO (f 4) (ln) ((wdO (f 4) (ln) (at_ + 1 + 1) 15).2) (upd (f 8) (3 * tm) (nI (1))) ((3 * tm) + (1)) (3)).2.1, (fgO (f 4) (ln) ((wdO (f 4) (ln) (at_ + 1 + 1) 15).2) (upd (f 8) (3 * tm) (nI (1))) ((3 * tm) + (1)) (3)).2.2)) := (by simp only [ohM, ohJ, ohN, ohW, ohC, o2, wdT, skT, c_2, c_5, c_8, c_11, c_14, c_17, c_20, c_23, c_26, c_30, c_32, eq_self, Bool.false_eq_true, ↓reduceIte] <;> first | rfl | exact Prod.ext c_32 rfl) ; rw [e9]; exact ⟨rfl, hP⟩)
                        · have c_32 : (fgO (f 4) (ln) ((wdO (f 4) (ln) (at_ + 1 + 1) 15).2) (upd (f 8) (3 * tm) (nI (1))) ((3 * tm) + (1)) (3)).1 = true := eq_true_of_ne_false c_32
                          refine lv_aload_n hx hb dX8_orderHere_357 rfl (lv_at hl 1 rfl) ?_
                          refine lv_bipush (v := nI (32)) hx hb dX8_orderHere_358 gb_32 ?_
                          refine wr_calli (va_runV (As := [.int (nI (32))]) (rest := []) ⟨hx, hb, hml, hown, hts⟩ (c_X8_skips l D cA A (upd (x) 10 (nI ((fgO (f 4) (ln) ((wdO (f 4) (ln) (at_ + 1 + 1) 15).2) (upd (f 8) (3 * tm) (nI (1))) ((3 * tm) + (1)) (3)).2.1))) (va_up (f) 8 ((fgO (f 4) (ln) ((wdO (f 4) (ln) (at_ + 1 + 1) 15).2) (upd (f 8) (3 * tm) (nI (1))) ((3 * tm) + (1)) (3)).2.2)) (32) (ln) ((fgO (f 4) (ln) ((wdO (f 4) (ln) (at_ + 1 + 1) 15).2) (upd (f 8) (3 * tm) (nI (1))) ((3 * tm) + (1)) (3)).2.1) hA hl7 (by rfl) (by omega) (by omega) (by omega)) (cwV 1 hts (gWV gm_46_3 gm_46_4 gm_46_5 gm_1_5 gm_46_6) rfl rfl rfl (by decide +kernel) ⟨Nat.le_of_ble_eq_true rfl, Nat.le_of_ble_eq_true rfl⟩) (gPreV hK (g_rf hK hP (ci := 10) (q0 := 0) rfl rfl) hP) rfl rfl hl.1 rfl (lv_room (Nat.le_of_ble_eq_true rfl)) dX8_orderHere_360 ⟨by omega, by omega⟩) hS (fun q _ h => h) (fun q h => h) (fun r H locs hw9 hz9 hk9 hS => ?_)
                          obtain ⟨rfl, hP⟩ := hw9
                          have hP : va_P D vwCl (mw cA A (upd (x) 10 (nI ((skO (f 4) (ln) ((fgO (f 4) (ln) ((wdO (f 4) (ln) (at_ + 1 + 1) 15).2) (upd (f 8) (3 * tm) (nI (1))) ((3 * tm) + (1)) (3)).2.1) (32)).2))) (va_up (f) 8 ((fgO (f 4) (ln) ((wdO (f 4) (ln) (at_ + 1 + 1) 15).2) (upd (f 8) (3 * tm) (nI (1))) ((3 * tm) + (1)) (3)).2.2))) H := hP
                          have hD : va_D (MA A) (mw cA A (upd (x) 10 (nI ((skO (f 4) (ln) ((fgO (f 4) (ln) ((wdO (f 4) (ln) (at_ + 1 + 1) 15).2) (upd (f 8) (3 * tm) (nI (1))) ((3 * tm) + (1)) (3)).2.1) (32)).2))) (va_up (f) 8 ((fgO (f 4) (ln) ((wdO (f 4) (ln) (at_ + 1 + 1) 15).2) (upd (f 8) (3 * tm) (nI (1))) ((3 * tm) + (1)) (3)).2.2))) := mD hA
                          have hxb_33 : (skO (f 4) (ln) ((fgO (f 4) (ln) ((wdO (f 4) (ln) (at_ + 1 + 1) 15).2) (upd (f 8) (3 * tm) (nI (1))) ((3 * tm) + (1)) (3)).2.1) (32)).2 ≤ ln := skO_le (by omega) (by omega)
                          refine g_if_eq (P := (skO (f 4) (ln) ((fgO (f 4) (ln) ((wdO (f 4) (ln) (at_ + 1 + 1) 15).2) (upd (f 8) (3 * tm) (nI (1))) ((3 * tm) + (1)) (3)).2.1) (32)).1 = false) (tgt := 381) hx hb dX8_orderHere_363 (by decide) b2i_0 (fun c_34 => ?_) (fun c_34 => ?_)
                          · have hxb_35 : (fgO (f 4) (ln) ((wdO (f 4) (ln) (at_ + 1 + 1) 15).2) (upd (f 8) (3 * tm) (nI (1))) ((3 * tm) + (1)) (3)).2.1 ≤ ln := Nat.le_trans (Nat.le_of_eq (skO_f c_34).symm) hxb_33
                            rw [skO_f c_34] at hP
                            have hP : va_P D vwCl (mw cA A (upd (x) 10 (nI ((fgO (f 4) (ln) ((wdO (f 4) (ln) (at_ + 1 + 1) 15).2) (upd (f 8) (3 * tm) (nI (1))) ((3 * tm) + (1)) (3)).2.1))) (va_up (f) 8 ((fgO (f 4) (ln) ((wdO (f 4) (ln) (at_ + 1 + 1) 15).2) (upd (f 8) (3 * tm) (nI (1))) ((3 * tm) + (1)) (3)).2.2))) H := hP
                            have hD : va_D (MA A) (mw cA A (upd (x) 10 (nI ((fgO (f 4) (ln) ((wdO (f 4) (ln) (at_ + 1 + 1) 15).2) (upd (f 8) (3 * tm) (nI (1))) ((3 * tm) + (1)) (3)).2.1))) (va_up (f) 8 ((fgO (f 4) (ln) ((wdO (f 4) (ln) (at_ + 1 + 1) 15).2) (upd (f 8) (3 * tm) (nI (1))) ((3 * tm) + (1)) (3)).2.2))) := mD hA
                            refine lv_iconst (v := nI (0)) hx hb dX8_orderHere_381 gc_0 ?_
                            exact g_zretW (v := nI (0)) hx hb hr hlk rfl hS dX8_orderHere_382 (by have e9 : ohM (f 4) ln at_ (f 8) (3 * tm) = (false, ((fgO (f 4) (ln) ((wdO (f 4) (ln) (at_ + 1 + 1) 15).2) (upd (f 8) (3 * tm) (nI (1))) ((3 * tm) + (1)) (3)).2.1, (fgO (f 4) (ln) ((wdO (f 4) (ln) (at_ + 1 + 1) 15).2) (upd (f 8) (3 * tm) (nI (1))) ((3 * tm) + (1)) (3)).2.2)) := (by simp only [ohM, ohJ, ohN, ohW, ohC, o2, wdT, skT, c_2, c_5, c_8, c_11, c_14, c_17, c_20, c_23, c_26, c_30, c_32, c_34, eq_self, Bool.false_eq_true, ↓reduceIte] <;> first | rfl | exact Prod.ext c_34 rfl) ; rw [e9]; exact ⟨rfl, hP⟩)
                          · have c_34 : (skO (f 4) (ln) ((fgO (f 4) (ln) ((wdO (f 4) (ln) (at_ + 1 + 1) 15).2) (upd (f 8) (3 * tm) (nI (1))) ((3 * tm) + (1)) (3)).2.1) (32)).1 = true := eq_true_of_ne_false c_34
                            have hxb_36 : (fgO (f 4) (ln) ((wdO (f 4) (ln) (at_ + 1 + 1) 15).2) (upd (f 8) (3 * tm) (nI (1))) ((3 * tm) + (1)) (3)).2.1 + 1 ≤ ln := Nat.le_trans (Nat.le_of_eq (skO_t c_34).symm) hxb_33
                            rw [skO_t c_34] at hP
                            have hP : va_P D vwCl (mw cA A (upd (x) 10 (nI ((fgO (f 4) (ln) ((wdO (f 4) (ln) (at_ + 1 + 1) 15).2) (upd (f 8) (3 * tm) (nI (1))) ((3 * tm) + (1)) (3)).2.1 + 1))) (va_up (f) 8 ((fgO (f 4) (ln) ((wdO (f 4) (ln) (at_ + 1 + 1) 15).2) (upd (f 8) (3 * tm) (nI (1))) ((3 * tm) + (1)) (3)).2.2))) H := hP
                            have hD : va_D (MA A) (mw cA A (upd (x) 10 (nI ((fgO (f 4) (ln) ((wdO (f 4) (ln) (at_ + 1 + 1) 15).2) (upd (f 8) (3 * tm) (nI (1))) ((3 * tm) + (1)) (3)).2.1 + 1))) (va_up (f) 8 ((fgO (f 4) (ln) ((wdO (f 4) (ln) (at_ + 1 + 1) 15).2) (upd (f 8) (3 * tm) (nI (1))) ((3 * tm) + (1)) (3)).2.2))) := mD hA
                            refine lv_aload_n hx hb dX8_orderHere_366 rfl (lv_at hl 1 rfl) ?_
                            refine lv_iload_n hx hb dX8_orderHere_367 rfl (lv_at hl 0 rfl) ?_
                            refine lv_iconst (v := nI (2)) hx hb dX8_orderHere_368 gc_2 ?_
                            refine g_iadd hx hb dX8_orderHere_369 ?_
                            refine lv_iconst (v := nI (2)) hx hb dX8_orderHere_370 gc_2 ?_
                            refine wr_calli (va_runV (As := [.int (nI ((3 * tm) + (2))), .int (nI (2))]) (rest := []) ⟨hx, hb, hml, hown, hts⟩ (c_X8_figures l D cA A (upd (x) 10 (nI ((fgO (f 4) (ln) ((wdO (f 4) (ln) (at_ + 1 + 1) 15).2) (upd (f 8) (3 * tm) (nI (1))) ((3 * tm) + (1)) (3)).2.1 + 1))) (va_up (f) 8 ((fgO (f 4) (ln) ((wdO (f 4) (ln) (at_ + 1 + 1) 15).2) (upd (f 8) (3 * tm) (nI (1))) ((3 * tm) + (1)) (3)).2.2)) ((3 * tm) + (2)) (2) (ln) ((fgO (f 4) (ln) ((wdO (f 4) (ln) (at_ + 1 + 1) 15).2) (upd (f 8) (3 * tm) (nI (1))) ((3 * tm) + (1)) (3)).2.1 + 1) hA hl7 (by rfl) (by omega) (by omega) (by omega) (by omega)) (cwV 2 hts (gWV gm_47_1 gm_47_2 gm_47_3 gm_1_5 gm_47_4) rfl rfl rfl (by decide +kernel) ⟨Nat.le_of_ble_eq_true rfl, Nat.le_of_ble_eq_true rfl⟩) (gPreV hK (g_rf hK hP (ci := 10) (q0 := 0) rfl rfl) hP) rfl rfl hl.1 rfl (lv_room (Nat.le_of_ble_eq_true rfl)) dX8_orderHere_371 ⟨by omega, by omega⟩) hS (fun q _ h => h) (fun q h => h) (fun r H locs hw9 hz9 hk9 hS => ?_)
                            obtain ⟨rfl, hP⟩ := hw9
                            have hP : va_P D vwCl (mw cA A (upd (x) 10 (nI ((fgO (f 4) (ln) ((fgO (f 4) (ln) ((wdO (f 4) (ln) (at_ + 1 + 1) 15).2) (upd (f 8) (3 * tm) (nI (1))) ((3 * tm) + (1)) (3)).2.1 + 1) ((fgO (f 4) (ln) ((wdO (f 4) (ln) (at_ + 1 + 1) 15).2) (upd (f 8) (3 * tm) (nI (1))) ((3 * tm) + (1)) (3)).2.2) ((3 * tm) + (2)) (2)).2.1))) (va_up (f) 8 ((fgO (f 4) (ln) ((fgO (f 4) (ln) ((wdO (f 4) (ln) (at_ + 1 + 1) 15).2) (upd (f 8) (3 * tm) (nI (1))) ((3 * tm) + (1)) (3)).2.1 + 1) ((fgO (f 4) (ln) ((wdO (f 4) (ln) (at_ + 1 + 1) 15).2) (upd (f 8) (3 * tm) (nI (1))) ((3 * tm) + (1)) (3)).2.2) ((3 * tm) + (2)) (2)).2.2))) H := hP
                            have hD : va_D (MA A) (mw cA A (upd (x) 10 (nI ((fgO (f 4) (ln) ((fgO (f 4) (ln) ((wdO (f 4) (ln) (at_ + 1 + 1) 15).2) (upd (f 8) (3 * tm) (nI (1))) ((3 * tm) + (1)) (3)).2.1 + 1) ((fgO (f 4) (ln) ((wdO (f 4) (ln) (at_ + 1 + 1) 15).2) (upd (f 8) (3 * tm) (nI (1))) ((3 * tm) + (1)) (3)).2.2) ((3 * tm) + (2)) (2)).2.1))) (va_up (f) 8 ((fgO (f 4) (ln) ((fgO (f 4) (ln) ((wdO (f 4) (ln) (at_ + 1 + 1) 15).2) (upd (f 8) (3 * tm) (nI (1))) ((3 * tm) + (1)) (3)).2.1 + 1) ((fgO (f 4) (ln) ((wdO (f 4) (ln) (at_ + 1 + 1) 15).2) (upd (f 8) (3 * tm) (nI (1))) ((3 * tm) + (1)) (3)).2.2) ((3 * tm) + (2)) (2)).2.2))) := mD hA
                            have hxb_37 : (fgO (f 4) (ln) ((fgO (f 4) (ln) ((wdO (f 4) (ln) (at_ + 1 + 1) 15).2) (upd (f 8) (3 * tm) (nI (1))) ((3 * tm) + (1)) (3)).2.1 + 1) ((fgO (f 4) (ln) ((wdO (f 4) (ln) (at_ + 1 + 1) 15).2) (upd (f 8) (3 * tm) (nI (1))) ((3 * tm) + (1)) (3)).2.2) ((3 * tm) + (2)) (2)).2.1 ≤ ln := fgO_le (by omega)
                            refine g_if_eq (P := (fgO (f 4) (ln) ((fgO (f 4) (ln) ((wdO (f 4) (ln) (at_ + 1 + 1) 15).2) (upd (f 8) (3 * tm) (nI (1))) ((3 * tm) + (1)) (3)).2.1 + 1) ((fgO (f 4) (ln) ((wdO (f 4) (ln) (at_ + 1 + 1) 15).2) (upd (f 8) (3 * tm) (nI (1))) ((3 * tm) + (1)) (3)).2.2) ((3 * tm) + (2)) (2)).1 = false) (tgt := 381) hx hb dX8_orderHere_374 (by decide) b2i_0 (fun c_38 => ?_) (fun c_38 => ?_)
                            · refine lv_iconst (v := nI (0)) hx hb dX8_orderHere_381 gc_0 ?_
                              exact g_zretW (v := nI (0)) hx hb hr hlk rfl hS dX8_orderHere_382 (by have e9 : ohM (f 4) ln at_ (f 8) (3 * tm) = (false, ((fgO (f 4) (ln) ((fgO (f 4) (ln) ((wdO (f 4) (ln) (at_ + 1 + 1) 15).2) (upd (f 8) (3 * tm) (nI (1))) ((3 * tm) + (1)) (3)).2.1 + 1) ((fgO (f 4) (ln) ((wdO (f 4) (ln) (at_ + 1 + 1) 15).2) (upd (f 8) (3 * tm) (nI (1))) ((3 * tm) + (1)) (3)).2.2) ((3 * tm) + (2)) (2)).2.1, (fgO (f 4) (ln) ((fgO (f 4) (ln) ((wdO (f 4) (ln) (at_ + 1 + 1) 15).2) (upd (f 8) (3 * tm) (nI (1))) ((3 * tm) + (1)) (3)).2.1 + 1) ((fgO (f 4) (ln) ((wdO (f 4) (ln) (at_ + 1 + 1) 15).2) (upd (f 8) (3 * tm) (nI (1))) ((3 * tm) + (1)) (3)).2.2) ((3 * tm) + (2)) (2)).2.2)) := (by simp only [ohM, ohJ, ohN, ohW, ohC, o2, wdT, skT, c_2, c_5, c_8, c_11, c_14, c_17, c_20, c_23, c_26, c_30, c_32, c_34, c_38, eq_self, Bool.false_eq_true, ↓reduceIte] <;> first | rfl | exact Prod.ext c_38 rfl) ; rw [e9]; exact ⟨rfl, hP⟩)
                            · have c_38 : (fgO (f 4) (ln) ((fgO (f 4) (ln) ((wdO (f 4) (ln) (at_ + 1 + 1) 15).2) (upd (f 8) (3 * tm) (nI (1))) ((3 * tm) + (1)) (3)).2.1 + 1) ((fgO (f 4) (ln) ((wdO (f 4) (ln) (at_ + 1 + 1) 15).2) (upd (f 8) (3 * tm) (nI (1))) ((3 * tm) + (1)) (3)).2.2) ((3 * tm) + (2)) (2)).1 = true := eq_true_of_ne_false c_38
                              refine lv_iconst (v := nI (1)) hx hb dX8_orderHere_377 gc_1 ?_
                              refine lv_goto (tgt := 382) hx hb dX8_orderHere_378 (by decide) ?_
                              exact g_zretW (v := nI (1)) hx hb hr hlk rfl hS dX8_orderHere_382 (by have e9 : ohM (f 4) ln at_ (f 8) (3 * tm) = (true, ((fgO (f 4) (ln) ((fgO (f 4) (ln) ((wdO (f 4) (ln) (at_ + 1 + 1) 15).2) (upd (f 8) (3 * tm) (nI (1))) ((3 * tm) + (1)) (3)).2.1 + 1) ((fgO (f 4) (ln) ((wdO (f 4) (ln) (at_ + 1 + 1) 15).2) (upd (f 8) (3 * tm) (nI (1))) ((3 * tm) + (1)) (3)).2.2) ((3 * tm) + (2)) (2)).2.1, (fgO (f 4) (ln) ((fgO (f 4) (ln) ((wdO (f 4) (ln) (at_ + 1 + 1) 15).2) (upd (f 8) (3 * tm) (nI (1))) ((3 * tm) + (1)) (3)).2.1 + 1) ((fgO (f 4) (ln) ((wdO (f 4) (ln) (at_ + 1 + 1) 15).2) (upd (f 8) (3 * tm) (nI (1))) ((3 * tm) + (1)) (3)).2.2) ((3 * tm) + (2)) (2)).2.2)) := (by simp only [ohM, ohJ, ohN, ohW, ohC, o2, wdT, skT, c_2, c_5, c_8, c_11, c_14, c_17, c_20, c_23, c_26, c_30, c_32, c_34, c_38, eq_self, Bool.false_eq_true, ↓reduceIte] <;> first | rfl | exact Prod.ext c_38 rfl) ; rw [e9]; exact ⟨rfl, hP⟩)
                  · have c_26 : (skO (f 4) (ln) (at_ + 1 + 1) (108)).1 = true := eq_true_of_ne_false c_26
                    have hxb_39 : at_ + 1 + 1 + 1 ≤ ln := Nat.le_trans (Nat.le_of_eq (skO_t c_26).symm) hxb_25
                    rw [skO_t c_26] at hP
                    have hP : va_P D vwCl (mw cA A (upd (x) 10 (nI (at_ + 1 + 1 + 1))) (f)) H := hP
                    have hD : va_D (MA A) (mw cA A (upd (x) 10 (nI (at_ + 1 + 1 + 1))) (f)) := mD hA
                    refine lv_aload_n hx hb dX8_orderHere_295 rfl (lv_at hl 1 rfl) ?_
                    refine lv_iconst (v := nI (2)) hx hb dX8_orderHere_296 gc_2 ?_
                    refine wr_calli (va_runV (As := [.int (nI (2))]) (rest := []) ⟨hx, hb, hml, hown, hts⟩ (c_X8_hasOrder l D cA A (upd (x) 10 (nI (at_ + 1 + 1 + 1))) (f) (2) (tm) hA htm (by omega)) (cwV 1 hts (gWV gm_46_11 gm_46_12 gm_46_13 gm_1_5 gm_46_14) rfl rfl rfl (by decide +kernel) ⟨Nat.le_of_ble_eq_true rfl, Nat.le_of_ble_eq_true rfl⟩) (gPreV hK (g_rf hK hP (ci := 10) (q0 := 0) rfl rfl) hP) rfl rfl hl.1 rfl (lv_room (Nat.le_of_ble_eq_true rfl)) dX8_orderHere_297 ⟨by omega, by omega⟩) hS (fun q _ h => h) (fun q h => h) (fun r H locs hw9 hz9 hk9 hS => ?_)
                    obtain ⟨rfl, hP⟩ := hw9
                    have hP : va_P D vwCl (mw cA A (upd (x) 10 (nI (at_ + 1 + 1 + 1))) (va_up (f) 8 (upd (f 8) (3 * tm) (nI (2))))) H := hP
                    have hD : va_D (MA A) (mw cA A (upd (x) 10 (nI (at_ + 1 + 1 + 1))) (va_up (f) 8 (upd (f 8) (3 * tm) (nI (2))))) := mD hA
                    refine g_if_eq (P := true = false) (tgt := 327) hx hb dX8_orderHere_300 (by decide) b2i_0 (fun c_40 => ?_) (fun c_40 => ?_)
                    · exact absurd c_40 (by decide)
                    · have c_40 : true = true := eq_true_of_ne_false c_40
                      refine lv_aload_n hx hb dX8_orderHere_303 rfl (lv_at hl 1 rfl) ?_
                      refine va_ldcS hx hb hown (hE.2.1 14 (RX8, 228, "l ") rfl) dX8_orderHere_304 ?_
                      refine wr_calli (va_runV (As := [.ref (adK 14)]) (rest := []) ⟨hx, hb, hml, hown, hts⟩ (c_X8_isWord l D cA AE adK adV sa A (upd (x) 10 (nI (at_ + 1 + 1 + 1))) (va_up (f) 8 (upd (f 8) (3 * tm) (nI (2)))) 14 (ln) (at_ + 1 + 1 + 1) hA hl7 (by rfl) (by omega) (by omega) (by decide) hFA) (cwV 1 hts (gWV gm_46_15 gm_46_16 gm_46_17 gm_1_5 gm_46_18) rfl rfl rfl (by decide +kernel) ⟨Nat.le_of_ble_eq_true rfl, Nat.le_of_ble_eq_true rfl⟩) (gPreVx hK hE hS hFA (g_rf hK hP (ci := 10) (q0 := 0) rfl rfl) hP) rfl rfl hl.1 rfl (lv_room (Nat.le_of_ble_eq_true rfl)) dX8_orderHere_306 ⟨by omega, by omega⟩) hS (fun q _ h => h) (fun q h => h) (fun r H locs hw9 hz9 hk9 hS => ?_)
                      obtain ⟨rfl, hP⟩ := hw9
                      have hP : va_P D vwCl (mw cA A (upd (x) 10 (nI ((wdO (f 4) (ln) (at_ + 1 + 1 + 1) 14).2))) (va_up (f) 8 (upd (f 8) (3 * tm) (nI (2))))) H := hP
                      have hD : va_D (MA A) (mw cA A (upd (x) 10 (nI ((wdO (f 4) (ln) (at_ + 1 + 1 + 1) 14).2))) (va_up (f) 8 (upd (f 8) (3 * tm) (nI (2))))) := mD hA
                      have hxb_41 : (wdO (f 4) (ln) (at_ + 1 + 1 + 1) 14).2 ≤ ln := wdO_le (by decide) (by omega)
                      refine g_if_eq (P := (wdO (f 4) (ln) (at_ + 1 + 1 + 1) 14).1 = false) (tgt := 327) hx hb dX8_orderHere_309 (by decide) b2i_0 (fun c_42 => ?_) (fun c_42 => ?_)
                      · refine lv_iconst (v := nI (0)) hx hb dX8_orderHere_327 gc_0 ?_
                        exact g_zretW (v := nI (0)) hx hb hr hlk rfl hS dX8_orderHere_328 (by have e9 : ohM (f 4) ln at_ (f 8) (3 * tm) = (false, ((wdO (f 4) (ln) (at_ + 1 + 1 + 1) 14).2, upd (f 8) (3 * tm) (nI (2)))) := (by simp only [ohM, ohJ, ohN, ohW, ohC, o2, wdT, skT, c_2, c_5, c_8, c_11, c_14, c_17, c_20, c_23, c_26, c_42, eq_self, Bool.false_eq_true, ↓reduceIte] <;> first | rfl | exact Prod.ext c_42 rfl) ; rw [e9]; exact ⟨rfl, hP⟩)
                      · have c_42 : (wdO (f 4) (ln) (at_ + 1 + 1 + 1) 14).1 = true := eq_true_of_ne_false c_42
                        refine lv_aload_n hx hb dX8_orderHere_312 rfl (lv_at hl 1 rfl) ?_
                        refine lv_iload_n hx hb dX8_orderHere_313 rfl (lv_at hl 0 rfl) ?_
                        refine lv_iconst (v := nI (1)) hx hb dX8_orderHere_314 gc_1 ?_
                        refine g_iadd hx hb dX8_orderHere_315 ?_
                        refine lv_iconst (v := nI (1)) hx hb dX8_orderHere_316 gc_1 ?_
                        refine wr_calli (va_runV (As := [.int (nI ((3 * tm) + (1))), .int (nI (1))]) (rest := []) ⟨hx, hb, hml, hown, hts⟩ (c_X8_figures l D cA A (upd (x) 10 (nI ((wdO (f 4) (ln) (at_ + 1 + 1 + 1) 14).2))) (va_up (f) 8 (upd (f 8) (3 * tm) (nI (2)))) ((3 * tm) + (1)) (1) (ln) ((wdO (f 4) (ln) (at_ + 1 + 1 + 1) 14).2) hA hl7 (by rfl) (by omega) (by omega) (by omega) (by omega)) (cwV 2 hts (gWV gm_47_1 gm_47_2 gm_47_3 gm_1_5 gm_47_4) rfl rfl rfl (by decide +kernel) ⟨Nat.le_of_ble_eq_true rfl, Nat.le_of_ble_eq_true rfl⟩) (gPreV hK (g_rf hK hP (ci := 10) (q0 := 0) rfl rfl) hP) rfl rfl hl.1 rfl (lv_room (Nat.le_of_ble_eq_true rfl)) dX8_orderHere_317 ⟨by omega, by omega⟩) hS (fun q _ h => h) (fun q h => h) (fun r H locs hw9 hz9 hk9 hS => ?_)
                        obtain ⟨rfl, hP⟩ := hw9
                        have hP : va_P D vwCl (mw cA A (upd (x) 10 (nI ((fgO (f 4) (ln) ((wdO (f 4) (ln) (at_ + 1 + 1 + 1) 14).2) (upd (f 8) (3 * tm) (nI (2))) ((3 * tm) + (1)) (1)).2.1))) (va_up (f) 8 ((fgO (f 4) (ln) ((wdO (f 4) (ln) (at_ + 1 + 1 + 1) 14).2) (upd (f 8) (3 * tm) (nI (2))) ((3 * tm) + (1)) (1)).2.2))) H := hP
                        have hD : va_D (MA A) (mw cA A (upd (x) 10 (nI ((fgO (f 4) (ln) ((wdO (f 4) (ln) (at_ + 1 + 1 + 1) 14).2) (upd (f 8) (3 * tm) (nI (2))) ((3 * tm) + (1)) (1)).2.1))) (va_up (f) 8 ((fgO (f 4) (ln) ((wdO (f 4) (ln) (at_ + 1 + 1 + 1) 14).2) (upd (f 8) (3 * tm) (nI (2))) ((3 * tm) + (1)) (1)).2.2))) := mD hA
                        have hxb_43 : (fgO (f 4) (ln) ((wdO (f 4) (ln) (at_ + 1 + 1 + 1) 14).2) (upd (f 8) (3 * tm) (nI (2))) ((3 * tm) + (1)) (1)).2.1 ≤ ln := fgO_le (by omega)
                        refine g_if_eq (P := (fgO (f 4) (ln) ((wdO (f 4) (ln) (at_ + 1 + 1 + 1) 14).2) (upd (f 8) (3 * tm) (nI (2))) ((3 * tm) + (1)) (1)).1 = false) (tgt := 327) hx hb dX8_orderHere_320 (by decide) b2i_0 (fun c_44 => ?_) (fun c_44 => ?_)
                        · refine lv_iconst (v := nI (0)) hx hb dX8_orderHere_327 gc_0 ?_
                          exact g_zretW (v := nI (0)) hx hb hr hlk rfl hS dX8_orderHere_328 (by have e9 : ohM (f 4) ln at_ (f 8) (3 * tm) = (false, ((fgO (f 4) (ln) ((wdO (f 4) (ln) (at_ + 1 + 1 + 1) 14).2) (upd (f 8) (3 * tm) (nI (2))) ((3 * tm) + (1)) (1)).2.1, (fgO (f 4) (ln) ((wdO (f 4) (ln) (at_ + 1 + 1 + 1) 14).2) (upd (f 8) (3 * tm) (nI (2))) ((3 * tm) + (1)) (1)).2.2)) := (by simp only [ohM, ohJ, ohN, ohW, ohC, o2, wdT, skT, c_2, c_5, c_8, c_11, c_14, c_17, c_20, c_23, c_26, c_42, c_44, eq_self, Bool.false_eq_true, ↓reduceIte] <;> first | rfl | exact Prod.ext c_44 rfl) ; rw [e9]; exact ⟨rfl, hP⟩)
                        · have c_44 : (fgO (f 4) (ln) ((wdO (f 4) (ln) (at_ + 1 + 1 + 1) 14).2) (upd (f 8) (3 * tm) (nI (2))) ((3 * tm) + (1)) (1)).1 = true := eq_true_of_ne_false c_44
                          refine lv_iconst (v := nI (1)) hx hb dX8_orderHere_323 gc_1 ?_
                          refine lv_goto (tgt := 328) hx hb dX8_orderHere_324 (by decide) ?_
                          exact g_zretW (v := nI (1)) hx hb hr hlk rfl hS dX8_orderHere_328 (by have e9 : ohM (f 4) ln at_ (f 8) (3 * tm) = (true, ((fgO (f 4) (ln) ((wdO (f 4) (ln) (at_ + 1 + 1 + 1) 14).2) (upd (f 8) (3 * tm) (nI (2))) ((3 * tm) + (1)) (1)).2.1, (fgO (f 4) (ln) ((wdO (f 4) (ln) (at_ + 1 + 1 + 1) 14).2) (upd (f 8) (3 * tm) (nI (2))) ((3 * tm) + (1)) (1)).2.2)) := (by simp only [ohM, ohJ, ohN, ohW, ohC, o2, wdT, skT, c_2, c_5, c_8, c_11, c_14, c_17, c_20, c_23, c_26, c_42, c_44, eq_self, Bool.false_eq_true, ↓reduceIte] <;> first | rfl | exact Prod.ext c_44 rfl) ; rw [e9]; exact ⟨rfl, hP⟩)
                · have hxb_45 : at_ + 1 ≤ ln := Nat.le_trans (Nat.le_of_eq (skO_f c_23).symm) hxb_22
                  rw [skO_f c_23] at hP
                  have hP : va_P D vwCl (mw cA A (upd (x) 10 (nI (at_ + 1))) (f)) H := hP
                  have hD : va_D (MA A) (mw cA A (upd (x) 10 (nI (at_ + 1))) (f)) := mD hA
                  refine lv_iconst (v := nI (0)) hx hb dX8_orderHere_284 gc_0 ?_
                  exact g_zretW (v := nI (0)) hx hb hr hlk rfl hS dX8_orderHere_285 (by have e9 : ohM (f 4) ln at_ (f 8) (3 * tm) = (false, (at_ + 1, f 8)) := (by simp only [ohM, ohJ, ohN, ohW, ohC, o2, wdT, skT, c_2, c_5, c_8, c_11, c_14, c_17, c_20, c_23, eq_self, Bool.false_eq_true, ↓reduceIte] <;> first | rfl | exact Prod.ext c_23 rfl) ; rw [e9]; exact ⟨rfl, hP⟩)
              · have c_20 : (skO (f 4) (ln) (at_ + 1) (108)).1 = true := eq_true_of_ne_false c_20
                have hxb_46 : at_ + 1 + 1 ≤ ln := Nat.le_trans (Nat.le_of_eq (skO_t c_20).symm) hxb_19
                rw [skO_t c_20] at hP
                have hP : va_P D vwCl (mw cA A (upd (x) 10 (nI (at_ + 1 + 1))) (f)) H := hP
                have hD : va_D (MA A) (mw cA A (upd (x) 10 (nI (at_ + 1 + 1))) (f)) := mD hA
                refine lv_aload_n hx hb dX8_orderHere_251 rfl (lv_at hl 1 rfl) ?_
                refine lv_bipush (v := nI (6)) hx hb dX8_orderHere_252 gb_6 ?_
                refine wr_calli (va_runV (As := [.int (nI (6))]) (rest := []) ⟨hx, hb, hml, hown, hts⟩ (c_X8_hasOrder l D cA A (upd (x) 10 (nI (at_ + 1 + 1))) (f) (6) (tm) hA htm (by omega)) (cwV 1 hts (gWV gm_46_11 gm_46_12 gm_46_13 gm_1_5 gm_46_14) rfl rfl rfl (by decide +kernel) ⟨Nat.le_of_ble_eq_true rfl, Nat.le_of_ble_eq_true rfl⟩) (gPreV hK (g_rf hK hP (ci := 10) (q0 := 0) rfl rfl) hP) rfl rfl hl.1 rfl (lv_room (Nat.le_of_ble_eq_true rfl)) dX8_orderHere_254 ⟨by omega, by omega⟩) hS (fun q _ h => h) (fun q h => h) (fun r H locs hw9 hz9 hk9 hS => ?_)
                obtain ⟨rfl, hP⟩ := hw9
                have hP : va_P D vwCl (mw cA A (upd (x) 10 (nI (at_ + 1 + 1))) (va_up (f) 8 (upd (f 8) (3 * tm) (nI (6))))) H := hP
                have hD : va_D (MA A) (mw cA A (upd (x) 10 (nI (at_ + 1 + 1))) (va_up (f) 8 (upd (f 8) (3 * tm) (nI (6))))) := mD hA
                refine g_if_eq (P := true = false) (tgt := 273) hx hb dX8_orderHere_257 (by decide) b2i_0 (fun c_47 => ?_) (fun c_47 => ?_)
                · exact absurd c_47 (by decide)
                · have c_47 : true = true := eq_true_of_ne_false c_47
                  refine lv_aload_n hx hb dX8_orderHere_260 rfl (lv_at hl 1 rfl) ?_
                  refine va_ldcS hx hb hown (hE.2.1 13 (RX8, 226, "erk") rfl) dX8_orderHere_261 ?_
                  refine wr_calli (va_runV (As := [.ref (adK 13)]) (rest := []) ⟨hx, hb, hml, hown, hts⟩ (c_X8_isWord l D cA AE adK adV sa A (upd (x) 10 (nI (at_ + 1 + 1))) (va_up (f) 8 (upd (f 8) (3 * tm) (nI (6)))) 13 (ln) (at_ + 1 + 1) hA hl7 (by rfl) (by omega) (by omega) (by decide) hFA) (cwV 1 hts (gWV gm_46_15 gm_46_16 gm_46_17 gm_1_5 gm_46_18) rfl rfl rfl (by decide +kernel) ⟨Nat.le_of_ble_eq_true rfl, Nat.le_of_ble_eq_true rfl⟩) (gPreVx hK hE hS hFA (g_rf hK hP (ci := 10) (q0 := 0) rfl rfl) hP) rfl rfl hl.1 rfl (lv_room (Nat.le_of_ble_eq_true rfl)) dX8_orderHere_263 ⟨by omega, by omega⟩) hS (fun q _ h => h) (fun q h => h) (fun r H locs hw9 hz9 hk9 hS => ?_)
                  obtain ⟨rfl, hP⟩ := hw9
                  have hP : va_P D vwCl (mw cA A (upd (x) 10 (nI ((wdO (f 4) (ln) (at_ + 1 + 1) 13).2))) (va_up (f) 8 (upd (f 8) (3 * tm) (nI (6))))) H := hP
                  have hD : va_D (MA A) (mw cA A (upd (x) 10 (nI ((wdO (f 4) (ln) (at_ + 1 + 1) 13).2))) (va_up (f) 8 (upd (f 8) (3 * tm) (nI (6))))) := mD hA
                  have hxb_48 : (wdO (f 4) (ln) (at_ + 1 + 1) 13).2 ≤ ln := wdO_le (by decide) (by omega)
                  refine g_if_eq (P := (wdO (f 4) (ln) (at_ + 1 + 1) 13).1 = false) (tgt := 273) hx hb dX8_orderHere_266 (by decide) b2i_0 (fun c_49 => ?_) (fun c_49 => ?_)
                  · refine lv_iconst (v := nI (0)) hx hb dX8_orderHere_273 gc_0 ?_
                    exact g_zretW (v := nI (0)) hx hb hr hlk rfl hS dX8_orderHere_274 (by have e9 : ohM (f 4) ln at_ (f 8) (3 * tm) = (false, ((wdO (f 4) (ln) (at_ + 1 + 1) 13).2, upd (f 8) (3 * tm) (nI (6)))) := (by simp only [ohM, ohJ, ohN, ohW, ohC, o2, wdT, skT, c_2, c_5, c_8, c_11, c_14, c_17, c_20, c_49, eq_self, Bool.false_eq_true, ↓reduceIte] <;> first | rfl | exact Prod.ext c_49 rfl) ; rw [e9]; exact ⟨rfl, hP⟩)
                  · have c_49 : (wdO (f 4) (ln) (at_ + 1 + 1) 13).1 = true := eq_true_of_ne_false c_49
                    refine lv_iconst (v := nI (1)) hx hb dX8_orderHere_269 gc_1 ?_
                    refine lv_goto (tgt := 274) hx hb dX8_orderHere_270 (by decide) ?_
                    exact g_zretW (v := nI (1)) hx hb hr hlk rfl hS dX8_orderHere_274 (by have e9 : ohM (f 4) ln at_ (f 8) (3 * tm) = (true, ((wdO (f 4) (ln) (at_ + 1 + 1) 13).2, upd (f 8) (3 * tm) (nI (6)))) := (by simp only [ohM, ohJ, ohN, ohW, ohC, o2, wdT, skT, c_2, c_5, c_8, c_11, c_14, c_17, c_20, c_49, eq_self, Bool.false_eq_true, ↓reduceIte] <;> first | rfl | exact Prod.ext c_49 rfl) ; rw [e9]; exact ⟨rfl, hP⟩)
            · have hxb_50 : at_ ≤ ln := Nat.le_trans (Nat.le_of_eq (skO_f c_17).symm) hxb_16
              rw [skO_f c_17] at hP
              have hP : va_P D vwCl (mw cA A (upd (x) 10 (nI (at_))) (f)) H := hP
              have hD : va_D (MA A) (mw cA A (upd (x) 10 (nI (at_))) (f)) := mD hA
              refine lv_iconst (v := nI (0)) hx hb dX8_orderHere_240 gc_0 ?_
              exact g_zretW (v := nI (0)) hx hb hr hlk rfl hS dX8_orderHere_241 (by have e9 : ohM (f 4) ln at_ (f 8) (3 * tm) = (false, (at_, f 8)) := (by simp only [ohM, ohJ, ohN, ohW, ohC, o2, wdT, skT, c_2, c_5, c_8, c_11, c_14, c_17, eq_self, Bool.false_eq_true, ↓reduceIte] <;> first | rfl | exact Prod.ext c_17 rfl) ; rw [e9]; exact ⟨rfl, hP⟩)
          · have c_14 : (skO (f 4) (ln) (at_) (110)).1 = true := eq_true_of_ne_false c_14
            have hxb_51 : at_ + 1 ≤ ln := Nat.le_trans (Nat.le_of_eq (skO_t c_14).symm) hxb_13
            rw [skO_t c_14] at hP
            have hP : va_P D vwCl (mw cA A (upd (x) 10 (nI (at_ + 1))) (f)) H := hP
            have hD : va_D (MA A) (mw cA A (upd (x) 10 (nI (at_ + 1))) (f)) := mD hA
            refine lv_aload_n hx hb dX8_orderHere_207 rfl (lv_at hl 1 rfl) ?_
            refine lv_bipush (v := nI (7)) hx hb dX8_orderHere_208 gb_7 ?_
            refine wr_calli (va_runV (As := [.int (nI (7))]) (rest := []) ⟨hx, hb, hml, hown, hts⟩ (c_X8_hasOrder l D cA A (upd (x) 10 (nI (at_ + 1))) (f) (7) (tm) hA htm (by omega)) (cwV 1 hts (gWV gm_46_11 gm_46_12 gm_46_13 gm_1_5 gm_46_14) rfl rfl rfl (by decide +kernel) ⟨Nat.le_of_ble_eq_true rfl, Nat.le_of_ble_eq_true rfl⟩) (gPreV hK (g_rf hK hP (ci := 10) (q0 := 0) rfl rfl) hP) rfl rfl hl.1 rfl (lv_room (Nat.le_of_ble_eq_true rfl)) dX8_orderHere_210 ⟨by omega, by omega⟩) hS (fun q _ h => h) (fun q h => h) (fun r H locs hw9 hz9 hk9 hS => ?_)
            obtain ⟨rfl, hP⟩ := hw9
            have hP : va_P D vwCl (mw cA A (upd (x) 10 (nI (at_ + 1))) (va_up (f) 8 (upd (f 8) (3 * tm) (nI (7))))) H := hP
            have hD : va_D (MA A) (mw cA A (upd (x) 10 (nI (at_ + 1))) (va_up (f) 8 (upd (f 8) (3 * tm) (nI (7))))) := mD hA
            refine g_if_eq (P := true = false) (tgt := 229) hx hb dX8_orderHere_213 (by decide) b2i_0 (fun c_52 => ?_) (fun c_52 => ?_)
            · exact absurd c_52 (by decide)
            · have c_52 : true = true := eq_true_of_ne_false c_52
              refine lv_aload_n hx hb dX8_orderHere_216 rfl (lv_at hl 1 rfl) ?_
              refine va_ldcS hx hb hown (hE.2.1 12 (RX8, 224, "ight") rfl) dX8_orderHere_217 ?_
              refine wr_calli (va_runV (As := [.ref (adK 12)]) (rest := []) ⟨hx, hb, hml, hown, hts⟩ (c_X8_isWord l D cA AE adK adV sa A (upd (x) 10 (nI (at_ + 1))) (va_up (f) 8 (upd (f 8) (3 * tm) (nI (7)))) 12 (ln) (at_ + 1) hA hl7 (by rfl) (by omega) (by omega) (by decide) hFA) (cwV 1 hts (gWV gm_46_15 gm_46_16 gm_46_17 gm_1_5 gm_46_18) rfl rfl rfl (by decide +kernel) ⟨Nat.le_of_ble_eq_true rfl, Nat.le_of_ble_eq_true rfl⟩) (gPreVx hK hE hS hFA (g_rf hK hP (ci := 10) (q0 := 0) rfl rfl) hP) rfl rfl hl.1 rfl (lv_room (Nat.le_of_ble_eq_true rfl)) dX8_orderHere_219 ⟨by omega, by omega⟩) hS (fun q _ h => h) (fun q h => h) (fun r H locs hw9 hz9 hk9 hS => ?_)
              obtain ⟨rfl, hP⟩ := hw9
              have hP : va_P D vwCl (mw cA A (upd (x) 10 (nI ((wdO (f 4) (ln) (at_ + 1) 12).2))) (va_up (f) 8 (upd (f 8) (3 * tm) (nI (7))))) H := hP
              have hD : va_D (MA A) (mw cA A (upd (x) 10 (nI ((wdO (f 4) (ln) (at_ + 1) 12).2))) (va_up (f) 8 (upd (f 8) (3 * tm) (nI (7))))) := mD hA
              have hxb_53 : (wdO (f 4) (ln) (at_ + 1) 12).2 ≤ ln := wdO_le (by decide) (by omega)
              refine g_if_eq (P := (wdO (f 4) (ln) (at_ + 1) 12).1 = false) (tgt := 229) hx hb dX8_orderHere_222 (by decide) b2i_0 (fun c_54 => ?_) (fun c_54 => ?_)
              · refine lv_iconst (v := nI (0)) hx hb dX8_orderHere_229 gc_0 ?_
                exact g_zretW (v := nI (0)) hx hb hr hlk rfl hS dX8_orderHere_230 (by have e9 : ohM (f 4) ln at_ (f 8) (3 * tm) = (false, ((wdO (f 4) (ln) (at_ + 1) 12).2, upd (f 8) (3 * tm) (nI (7)))) := (by simp only [ohM, ohJ, ohN, ohW, ohC, o2, wdT, skT, c_2, c_5, c_8, c_11, c_14, c_54, eq_self, Bool.false_eq_true, ↓reduceIte] <;> first | rfl | exact Prod.ext c_54 rfl) ; rw [e9]; exact ⟨rfl, hP⟩)
              · have c_54 : (wdO (f 4) (ln) (at_ + 1) 12).1 = true := eq_true_of_ne_false c_54
                refine lv_iconst (v := nI (1)) hx hb dX8_orderHere_225 gc_1 ?_
                refine lv_goto (tgt := 230) hx hb dX8_orderHere_226 (by decide) ?_
                exact g_zretW (v := nI (1)) hx hb hr hlk rfl hS dX8_orderHere_230 (by have e9 : ohM (f 4) ln at_ (f 8) (3 * tm) = (true, ((wdO (f 4) (ln) (at_ + 1) 12).2, upd (f 8) (3 * tm) (nI (7)))) := (by simp only [ohM, ohJ, ohN, ohW, ohC, o2, wdT, skT, c_2, c_5, c_8, c_11, c_14, c_54, eq_self, Bool.false_eq_true, ↓reduceIte] <;> first | rfl | exact Prod.ext c_54 rfl) ; rw [e9]; exact ⟨rfl, hP⟩)
        · have c_11 : (skO (f 4) (ln) (at_) (97)).1 = true := eq_true_of_ne_false c_11
          have hxb_55 : at_ + 1 ≤ ln := Nat.le_trans (Nat.le_of_eq (skO_t c_11).symm) hxb_10
          rw [skO_t c_11] at hP
          have hP : va_P D vwCl (mw cA A (upd (x) 10 (nI (at_ + 1))) (f)) H := hP
          have hD : va_D (MA A) (mw cA A (upd (x) 10 (nI (at_ + 1))) (f)) := mD hA
          refine lv_aload_n hx hb dX8_orderHere_164 rfl (lv_at hl 1 rfl) ?_
          refine lv_iconst (v := nI (5)) hx hb dX8_orderHere_165 gc_5 ?_
          refine wr_calli (va_runV (As := [.int (nI (5))]) (rest := []) ⟨hx, hb, hml, hown, hts⟩ (c_X8_hasOrder l D cA A (upd (x) 10 (nI (at_ + 1))) (f) (5) (tm) hA htm (by omega)) (cwV 1 hts (gWV gm_46_11 gm_46_12 gm_46_13 gm_1_5 gm_46_14) rfl rfl rfl (by decide +kernel) ⟨Nat.le_of_ble_eq_true rfl, Nat.le_of_ble_eq_true rfl⟩) (gPreV hK (g_rf hK hP (ci := 10) (q0 := 0) rfl rfl) hP) rfl rfl hl.1 rfl (lv_room (Nat.le_of_ble_eq_true rfl)) dX8_orderHere_166 ⟨by omega, by omega⟩) hS (fun q _ h => h) (fun q h => h) (fun r H locs hw9 hz9 hk9 hS => ?_)
          obtain ⟨rfl, hP⟩ := hw9
          have hP : va_P D vwCl (mw cA A (upd (x) 10 (nI (at_ + 1))) (va_up (f) 8 (upd (f 8) (3 * tm) (nI (5))))) H := hP
          have hD : va_D (MA A) (mw cA A (upd (x) 10 (nI (at_ + 1))) (va_up (f) 8 (upd (f 8) (3 * tm) (nI (5))))) := mD hA
          refine g_if_eq (P := true = false) (tgt := 196) hx hb dX8_orderHere_169 (by decide) b2i_0 (fun c_56 => ?_) (fun c_56 => ?_)
          · exact absurd c_56 (by decide)
          · have c_56 : true = true := eq_true_of_ne_false c_56
            refine lv_aload_n hx hb dX8_orderHere_172 rfl (lv_at hl 1 rfl) ?_
            refine va_ldcS hx hb hown (hE.2.1 11 (RX8, 222, "ppeal ") rfl) dX8_orderHere_173 ?_
            refine wr_calli (va_runV (As := [.ref (adK 11)]) (rest := []) ⟨hx, hb, hml, hown, hts⟩ (c_X8_isWord l D cA AE adK adV sa A (upd (x) 10 (nI (at_ + 1))) (va_up (f) 8 (upd (f 8) (3 * tm) (nI (5)))) 11 (ln) (at_ + 1) hA hl7 (by rfl) (by omega) (by omega) (by decide) hFA) (cwV 1 hts (gWV gm_46_15 gm_46_16 gm_46_17 gm_1_5 gm_46_18) rfl rfl rfl (by decide +kernel) ⟨Nat.le_of_ble_eq_true rfl, Nat.le_of_ble_eq_true rfl⟩) (gPreVx hK hE hS hFA (g_rf hK hP (ci := 10) (q0 := 0) rfl rfl) hP) rfl rfl hl.1 rfl (lv_room (Nat.le_of_ble_eq_true rfl)) dX8_orderHere_175 ⟨by omega, by omega⟩) hS (fun q _ h => h) (fun q h => h) (fun r H locs hw9 hz9 hk9 hS => ?_)
            obtain ⟨rfl, hP⟩ := hw9
            have hP : va_P D vwCl (mw cA A (upd (x) 10 (nI ((wdO (f 4) (ln) (at_ + 1) 11).2))) (va_up (f) 8 (upd (f 8) (3 * tm) (nI (5))))) H := hP
            have hD : va_D (MA A) (mw cA A (upd (x) 10 (nI ((wdO (f 4) (ln) (at_ + 1) 11).2))) (va_up (f) 8 (upd (f 8) (3 * tm) (nI (5))))) := mD hA
            have hxb_57 : (wdO (f 4) (ln) (at_ + 1) 11).2 ≤ ln := wdO_le (by decide) (by omega)
            refine g_if_eq (P := (wdO (f 4) (ln) (at_ + 1) 11).1 = false) (tgt := 196) hx hb dX8_orderHere_178 (by decide) b2i_0 (fun c_58 => ?_) (fun c_58 => ?_)
            · refine lv_iconst (v := nI (0)) hx hb dX8_orderHere_196 gc_0 ?_
              exact g_zretW (v := nI (0)) hx hb hr hlk rfl hS dX8_orderHere_197 (by have e9 : ohM (f 4) ln at_ (f 8) (3 * tm) = (false, ((wdO (f 4) (ln) (at_ + 1) 11).2, upd (f 8) (3 * tm) (nI (5)))) := (by simp only [ohM, ohJ, ohN, ohW, ohC, o2, wdT, skT, c_2, c_5, c_8, c_11, c_58, eq_self, Bool.false_eq_true, ↓reduceIte] <;> first | rfl | exact Prod.ext c_58 rfl) ; rw [e9]; exact ⟨rfl, hP⟩)
            · have c_58 : (wdO (f 4) (ln) (at_ + 1) 11).1 = true := eq_true_of_ne_false c_58
              refine lv_aload_n hx hb dX8_orderHere_181 rfl (lv_at hl 1 rfl) ?_
              refine lv_iload_n hx hb dX8_orderHere_182 rfl (lv_at hl 0 rfl) ?_
              refine lv_iconst (v := nI (1)) hx hb dX8_orderHere_183 gc_1 ?_
              refine g_iadd hx hb dX8_orderHere_184 ?_
              refine lv_iconst (v := nI (1)) hx hb dX8_orderHere_185 gc_1 ?_
              refine wr_calli (va_runV (As := [.int (nI ((3 * tm) + (1))), .int (nI (1))]) (rest := []) ⟨hx, hb, hml, hown, hts⟩ (c_X8_figures l D cA A (upd (x) 10 (nI ((wdO (f 4) (ln) (at_ + 1) 11).2))) (va_up (f) 8 (upd (f 8) (3 * tm) (nI (5)))) ((3 * tm) + (1)) (1) (ln) ((wdO (f 4) (ln) (at_ + 1) 11).2) hA hl7 (by rfl) (by omega) (by omega) (by omega) (by omega)) (cwV 2 hts (gWV gm_47_1 gm_47_2 gm_47_3 gm_1_5 gm_47_4) rfl rfl rfl (by decide +kernel) ⟨Nat.le_of_ble_eq_true rfl, Nat.le_of_ble_eq_true rfl⟩) (gPreV hK (g_rf hK hP (ci := 10) (q0 := 0) rfl rfl) hP) rfl rfl hl.1 rfl (lv_room (Nat.le_of_ble_eq_true rfl)) dX8_orderHere_186 ⟨by omega, by omega⟩) hS (fun q _ h => h) (fun q h => h) (fun r H locs hw9 hz9 hk9 hS => ?_)
              obtain ⟨rfl, hP⟩ := hw9
              have hP : va_P D vwCl (mw cA A (upd (x) 10 (nI ((fgO (f 4) (ln) ((wdO (f 4) (ln) (at_ + 1) 11).2) (upd (f 8) (3 * tm) (nI (5))) ((3 * tm) + (1)) (1)).2.1))) (va_up (f) 8 ((fgO (f 4) (ln) ((wdO (f 4) (ln) (at_ + 1) 11).2) (upd (f 8) (3 * tm) (nI (5))) ((3 * tm) + (1)) (1)).2.2))) H := hP
              have hD : va_D (MA A) (mw cA A (upd (x) 10 (nI ((fgO (f 4) (ln) ((wdO (f 4) (ln) (at_ + 1) 11).2) (upd (f 8) (3 * tm) (nI (5))) ((3 * tm) + (1)) (1)).2.1))) (va_up (f) 8 ((fgO (f 4) (ln) ((wdO (f 4) (ln) (at_ + 1) 11).2) (upd (f 8) (3 * tm) (nI (5))) ((3 * tm) + (1)) (1)).2.2))) := mD hA
              have hxb_59 : (fgO (f 4) (ln) ((wdO (f 4) (ln) (at_ + 1) 11).2) (upd (f 8) (3 * tm) (nI (5))) ((3 * tm) + (1)) (1)).2.1 ≤ ln := fgO_le (by omega)
              refine g_if_eq (P := (fgO (f 4) (ln) ((wdO (f 4) (ln) (at_ + 1) 11).2) (upd (f 8) (3 * tm) (nI (5))) ((3 * tm) + (1)) (1)).1 = false) (tgt := 196) hx hb dX8_orderHere_189 (by decide) b2i_0 (fun c_60 => ?_) (fun c_60 => ?_)
              · refine lv_iconst (v := nI (0)) hx hb dX8_orderHere_196 gc_0 ?_
                exact g_zretW (v := nI (0)) hx hb hr hlk rfl hS dX8_orderHere_197 (by have e9 : ohM (f 4) ln at_ (f 8) (3 * tm) = (false, ((fgO (f 4) (ln) ((wdO (f 4) (ln) (at_ + 1) 11).2) (upd (f 8) (3 * tm) (nI (5))) ((3 * tm) + (1)) (1)).2.1, (fgO (f 4) (ln) ((wdO (f 4) (ln) (at_ + 1) 11).2) (upd (f 8) (3 * tm) (nI (5))) ((3 * tm) + (1)) (1)).2.2)) := (by simp only [ohM, ohJ, ohN, ohW, ohC, o2, wdT, skT, c_2, c_5, c_8, c_11, c_58, c_60, eq_self, Bool.false_eq_true, ↓reduceIte] <;> first | rfl | exact Prod.ext c_60 rfl) ; rw [e9]; exact ⟨rfl, hP⟩)
              · have c_60 : (fgO (f 4) (ln) ((wdO (f 4) (ln) (at_ + 1) 11).2) (upd (f 8) (3 * tm) (nI (5))) ((3 * tm) + (1)) (1)).1 = true := eq_true_of_ne_false c_60
                refine lv_iconst (v := nI (1)) hx hb dX8_orderHere_192 gc_1 ?_
                refine lv_goto (tgt := 197) hx hb dX8_orderHere_193 (by decide) ?_
                exact g_zretW (v := nI (1)) hx hb hr hlk rfl hS dX8_orderHere_197 (by have e9 : ohM (f 4) ln at_ (f 8) (3 * tm) = (true, ((fgO (f 4) (ln) ((wdO (f 4) (ln) (at_ + 1) 11).2) (upd (f 8) (3 * tm) (nI (5))) ((3 * tm) + (1)) (1)).2.1, (fgO (f 4) (ln) ((wdO (f 4) (ln) (at_ + 1) 11).2) (upd (f 8) (3 * tm) (nI (5))) ((3 * tm) + (1)) (1)).2.2)) := (by simp only [ohM, ohJ, ohN, ohW, ohC, o2, wdT, skT, c_2, c_5, c_8, c_11, c_58, c_60, eq_self, Bool.false_eq_true, ↓reduceIte] <;> first | rfl | exact Prod.ext c_60 rfl) ; rw [e9]; exact ⟨rfl, hP⟩)
      · have c_8 : (skO (f 4) (ln) (at_) (117)).1 = true := eq_true_of_ne_false c_8
        have hxb_61 : at_ + 1 ≤ ln := Nat.le_trans (Nat.le_of_eq (skO_t c_8).symm) hxb_7
        rw [skO_t c_8] at hP
        have hP : va_P D vwCl (mw cA A (upd (x) 10 (nI (at_ + 1))) (f)) H := hP
        have hD : va_D (MA A) (mw cA A (upd (x) 10 (nI (at_ + 1))) (f)) := mD hA
        refine lv_aload_n hx hb dX8_orderHere_121 rfl (lv_at hl 1 rfl) ?_
        refine lv_iconst (v := nI (4)) hx hb dX8_orderHere_122 gc_4 ?_
        refine wr_calli (va_runV (As := [.int (nI (4))]) (rest := []) ⟨hx, hb, hml, hown, hts⟩ (c_X8_hasOrder l D cA A (upd (x) 10 (nI (at_ + 1))) (f) (4) (tm) hA htm (by omega)) (cwV 1 hts (gWV gm_46_11 gm_46_12 gm_46_13 gm_1_5 gm_46_14) rfl rfl rfl (by decide +kernel) ⟨Nat.le_of_ble_eq_true rfl, Nat.le_of_ble_eq_true rfl⟩) (gPreV hK (g_rf hK hP (ci := 10) (q0 := 0) rfl rfl) hP) rfl rfl hl.1 rfl (lv_room (Nat.le_of_ble_eq_true rfl)) dX8_orderHere_123 ⟨by omega, by omega⟩) hS (fun q _ h => h) (fun q h => h) (fun r H locs hw9 hz9 hk9 hS => ?_)
        obtain ⟨rfl, hP⟩ := hw9
        have hP : va_P D vwCl (mw cA A (upd (x) 10 (nI (at_ + 1))) (va_up (f) 8 (upd (f 8) (3 * tm) (nI (4))))) H := hP
        have hD : va_D (MA A) (mw cA A (upd (x) 10 (nI (at_ + 1))) (va_up (f) 8 (upd (f 8) (3 * tm) (nI (4))))) := mD hA
        refine g_if_eq (P := true = false) (tgt := 153) hx hb dX8_orderHere_126 (by decide) b2i_0 (fun c_62 => ?_) (fun c_62 => ?_)
        · exact absurd c_62 (by decide)
        · have c_62 : true = true := eq_true_of_ne_false c_62
          refine lv_aload_n hx hb dX8_orderHere_129 rfl (lv_at hl 1 rfl) ?_
          refine va_ldcS hx hb hown (hE.2.1 10 (RX8, 220, "nsay ") rfl) dX8_orderHere_130 ?_
          refine wr_calli (va_runV (As := [.ref (adK 10)]) (rest := []) ⟨hx, hb, hml, hown, hts⟩ (c_X8_isWord l D cA AE adK adV sa A (upd (x) 10 (nI (at_ + 1))) (va_up (f) 8 (upd (f 8) (3 * tm) (nI (4)))) 10 (ln) (at_ + 1) hA hl7 (by rfl) (by omega) (by omega) (by decide) hFA) (cwV 1 hts (gWV gm_46_15 gm_46_16 gm_46_17 gm_1_5 gm_46_18) rfl rfl rfl (by decide +kernel) ⟨Nat.le_of_ble_eq_true rfl, Nat.le_of_ble_eq_true rfl⟩) (gPreVx hK hE hS hFA (g_rf hK hP (ci := 10) (q0 := 0) rfl rfl) hP) rfl rfl hl.1 rfl (lv_room (Nat.le_of_ble_eq_true rfl)) dX8_orderHere_132 ⟨by omega, by omega⟩) hS (fun q _ h => h) (fun q h => h) (fun r H locs hw9 hz9 hk9 hS => ?_)
          obtain ⟨rfl, hP⟩ := hw9
          have hP : va_P D vwCl (mw cA A (upd (x) 10 (nI ((wdO (f 4) (ln) (at_ + 1) 10).2))) (va_up (f) 8 (upd (f 8) (3 * tm) (nI (4))))) H := hP
          have hD : va_D (MA A) (mw cA A (upd (x) 10 (nI ((wdO (f 4) (ln) (at_ + 1) 10).2))) (va_up (f) 8 (upd (f 8) (3 * tm) (nI (4))))) := mD hA
          have hxb_63 : (wdO (f 4) (ln) (at_ + 1) 10).2 ≤ ln := wdO_le (by decide) (by omega)
          refine g_if_eq (P := (wdO (f 4) (ln) (at_ + 1) 10).1 = false) (tgt := 153) hx hb dX8_orderHere_135 (by decide) b2i_0 (fun c_64 => ?_) (fun c_64 => ?_)
          · refine lv_iconst (v := nI (0)) hx hb dX8_orderHere_153 gc_0 ?_
            exact g_zretW (v := nI (0)) hx hb hr hlk rfl hS dX8_orderHere_154 (by have e9 : ohM (f 4) ln at_ (f 8) (3 * tm) = (false, ((wdO (f 4) (ln) (at_ + 1) 10).2, upd (f 8) (3 * tm) (nI (4)))) := (by simp only [ohM, ohJ, ohN, ohW, ohC, o2, wdT, skT, c_2, c_5, c_8, c_64, eq_self, Bool.false_eq_true, ↓reduceIte] <;> first | rfl | exact Prod.ext c_64 rfl) ; rw [e9]; exact ⟨rfl, hP⟩)
          · have c_64 : (wdO (f 4) (ln) (at_ + 1) 10).1 = true := eq_true_of_ne_false c_64
            refine lv_aload_n hx hb dX8_orderHere_138 rfl (lv_at hl 1 rfl) ?_
            refine lv_iload_n hx hb dX8_orderHere_139 rfl (lv_at hl 0 rfl) ?_
            refine lv_iconst (v := nI (1)) hx hb dX8_orderHere_140 gc_1 ?_
            refine g_iadd hx hb dX8_orderHere_141 ?_
            refine lv_iconst (v := nI (1)) hx hb dX8_orderHere_142 gc_1 ?_
            refine wr_calli (va_runV (As := [.int (nI ((3 * tm) + (1))), .int (nI (1))]) (rest := []) ⟨hx, hb, hml, hown, hts⟩ (c_X8_figures l D cA A (upd (x) 10 (nI ((wdO (f 4) (ln) (at_ + 1) 10).2))) (va_up (f) 8 (upd (f 8) (3 * tm) (nI (4)))) ((3 * tm) + (1)) (1) (ln) ((wdO (f 4) (ln) (at_ + 1) 10).2) hA hl7 (by rfl) (by omega) (by omega) (by omega) (by omega)) (cwV 2 hts (gWV gm_47_1 gm_47_2 gm_47_3 gm_1_5 gm_47_4) rfl rfl rfl (by decide +kernel) ⟨Nat.le_of_ble_eq_true rfl, Nat.le_of_ble_eq_true rfl⟩) (gPreV hK (g_rf hK hP (ci := 10) (q0 := 0) rfl rfl) hP) rfl rfl hl.1 rfl (lv_room (Nat.le_of_ble_eq_true rfl)) dX8_orderHere_143 ⟨by omega, by omega⟩) hS (fun q _ h => h) (fun q h => h) (fun r H locs hw9 hz9 hk9 hS => ?_)
            obtain ⟨rfl, hP⟩ := hw9
            have hP : va_P D vwCl (mw cA A (upd (x) 10 (nI ((fgO (f 4) (ln) ((wdO (f 4) (ln) (at_ + 1) 10).2) (upd (f 8) (3 * tm) (nI (4))) ((3 * tm) + (1)) (1)).2.1))) (va_up (f) 8 ((fgO (f 4) (ln) ((wdO (f 4) (ln) (at_ + 1) 10).2) (upd (f 8) (3 * tm) (nI (4))) ((3 * tm) + (1)) (1)).2.2))) H := hP
            have hD : va_D (MA A) (mw cA A (upd (x) 10 (nI ((fgO (f 4) (ln) ((wdO (f 4) (ln) (at_ + 1) 10).2) (upd (f 8) (3 * tm) (nI (4))) ((3 * tm) + (1)) (1)).2.1))) (va_up (f) 8 ((fgO (f 4) (ln) ((wdO (f 4) (ln) (at_ + 1) 10).2) (upd (f 8) (3 * tm) (nI (4))) ((3 * tm) + (1)) (1)).2.2))) := mD hA
            have hxb_65 : (fgO (f 4) (ln) ((wdO (f 4) (ln) (at_ + 1) 10).2) (upd (f 8) (3 * tm) (nI (4))) ((3 * tm) + (1)) (1)).2.1 ≤ ln := fgO_le (by omega)
            refine g_if_eq (P := (fgO (f 4) (ln) ((wdO (f 4) (ln) (at_ + 1) 10).2) (upd (f 8) (3 * tm) (nI (4))) ((3 * tm) + (1)) (1)).1 = false) (tgt := 153) hx hb dX8_orderHere_146 (by decide) b2i_0 (fun c_66 => ?_) (fun c_66 => ?_)
            · refine lv_iconst (v := nI (0)) hx hb dX8_orderHere_153 gc_0 ?_
              exact g_zretW (v := nI (0)) hx hb hr hlk rfl hS dX8_orderHere_154 (by have e9 : ohM (f 4) ln at_ (f 8) (3 * tm) = (false, ((fgO (f 4) (ln) ((wdO (f 4) (ln) (at_ + 1) 10).2) (upd (f 8) (3 * tm) (nI (4))) ((3 * tm) + (1)) (1)).2.1, (fgO (f 4) (ln) ((wdO (f 4) (ln) (at_ + 1) 10).2) (upd (f 8) (3 * tm) (nI (4))) ((3 * tm) + (1)) (1)).2.2)) := (by simp only [ohM, ohJ, ohN, ohW, ohC, o2, wdT, skT, c_2, c_5, c_8, c_64, c_66, eq_self, Bool.false_eq_true, ↓reduceIte] <;> first | rfl | exact Prod.ext c_66 rfl) ; rw [e9]; exact ⟨rfl, hP⟩)
            · have c_66 : (fgO (f 4) (ln) ((wdO (f 4) (ln) (at_ + 1) 10).2) (upd (f 8) (3 * tm) (nI (4))) ((3 * tm) + (1)) (1)).1 = true := eq_true_of_ne_false c_66
              refine lv_iconst (v := nI (1)) hx hb dX8_orderHere_149 gc_1 ?_
              refine lv_goto (tgt := 154) hx hb dX8_orderHere_150 (by decide) ?_
              exact g_zretW (v := nI (1)) hx hb hr hlk rfl hS dX8_orderHere_154 (by have e9 : ohM (f 4) ln at_ (f 8) (3 * tm) = (true, ((fgO (f 4) (ln) ((wdO (f 4) (ln) (at_ + 1) 10).2) (upd (f 8) (3 * tm) (nI (4))) ((3 * tm) + (1)) (1)).2.1, (fgO (f 4) (ln) ((wdO (f 4) (ln) (at_ + 1) 10).2) (upd (f 8) (3 * tm) (nI (4))) ((3 * tm) + (1)) (1)).2.2)) := (by simp only [ohM, ohJ, ohN, ohW, ohC, o2, wdT, skT, c_2, c_5, c_8, c_64, c_66, eq_self, Bool.false_eq_true, ↓reduceIte] <;> first | rfl | exact Prod.ext c_66 rfl) ; rw [e9]; exact ⟨rfl, hP⟩)
    · have c_5 : (skO (f 4) (ln) (at_) (118)).1 = true := eq_true_of_ne_false c_5
      have hxb_67 : at_ + 1 ≤ ln := Nat.le_trans (Nat.le_of_eq (skO_t c_5).symm) hxb_4
      rw [skO_t c_5] at hP
      have hP : va_P D vwCl (mw cA A (upd (x) 10 (nI (at_ + 1))) (f)) H := hP
      have hD : va_D (MA A) (mw cA A (upd (x) 10 (nI (at_ + 1))) (f)) := mD hA
      refine lv_aload_n hx hb dX8_orderHere_78 rfl (lv_at hl 1 rfl) ?_
      refine lv_iconst (v := nI (3)) hx hb dX8_orderHere_79 gc_3 ?_
      refine wr_calli (va_runV (As := [.int (nI (3))]) (rest := []) ⟨hx, hb, hml, hown, hts⟩ (c_X8_hasOrder l D cA A (upd (x) 10 (nI (at_ + 1))) (f) (3) (tm) hA htm (by omega)) (cwV 1 hts (gWV gm_46_11 gm_46_12 gm_46_13 gm_1_5 gm_46_14) rfl rfl rfl (by decide +kernel) ⟨Nat.le_of_ble_eq_true rfl, Nat.le_of_ble_eq_true rfl⟩) (gPreV hK (g_rf hK hP (ci := 10) (q0 := 0) rfl rfl) hP) rfl rfl hl.1 rfl (lv_room (Nat.le_of_ble_eq_true rfl)) dX8_orderHere_80 ⟨by omega, by omega⟩) hS (fun q _ h => h) (fun q h => h) (fun r H locs hw9 hz9 hk9 hS => ?_)
      obtain ⟨rfl, hP⟩ := hw9
      have hP : va_P D vwCl (mw cA A (upd (x) 10 (nI (at_ + 1))) (va_up (f) 8 (upd (f 8) (3 * tm) (nI (3))))) H := hP
      have hD : va_D (MA A) (mw cA A (upd (x) 10 (nI (at_ + 1))) (va_up (f) 8 (upd (f 8) (3 * tm) (nI (3))))) := mD hA
      refine g_if_eq (P := true = false) (tgt := 110) hx hb dX8_orderHere_83 (by decide) b2i_0 (fun c_68 => ?_) (fun c_68 => ?_)
      · exact absurd c_68 (by decide)
      · have c_68 : true = true := eq_true_of_ne_false c_68
        refine lv_aload_n hx hb dX8_orderHere_86 rfl (lv_at hl 1 rfl) ?_
        refine va_ldcS hx hb hown (hE.2.1 9 (RX8, 218, "ote ") rfl) dX8_orderHere_87 ?_
        refine wr_calli (va_runV (As := [.ref (adK 9)]) (rest := []) ⟨hx, hb, hml, hown, hts⟩ (c_X8_isWord l D cA AE adK adV sa A (upd (x) 10 (nI (at_ + 1))) (va_up (f) 8 (upd (f 8) (3 * tm) (nI (3)))) 9 (ln) (at_ + 1) hA hl7 (by rfl) (by omega) (by omega) (by decide) hFA) (cwV 1 hts (gWV gm_46_15 gm_46_16 gm_46_17 gm_1_5 gm_46_18) rfl rfl rfl (by decide +kernel) ⟨Nat.le_of_ble_eq_true rfl, Nat.le_of_ble_eq_true rfl⟩) (gPreVx hK hE hS hFA (g_rf hK hP (ci := 10) (q0 := 0) rfl rfl) hP) rfl rfl hl.1 rfl (lv_room (Nat.le_of_ble_eq_true rfl)) dX8_orderHere_89 ⟨by omega, by omega⟩) hS (fun q _ h => h) (fun q h => h) (fun r H locs hw9 hz9 hk9 hS => ?_)
        obtain ⟨rfl, hP⟩ := hw9
        have hP : va_P D vwCl (mw cA A (upd (x) 10 (nI ((wdO (f 4) (ln) (at_ + 1) 9).2))) (va_up (f) 8 (upd (f 8) (3 * tm) (nI (3))))) H := hP
        have hD : va_D (MA A) (mw cA A (upd (x) 10 (nI ((wdO (f 4) (ln) (at_ + 1) 9).2))) (va_up (f) 8 (upd (f 8) (3 * tm) (nI (3))))) := mD hA
        have hxb_69 : (wdO (f 4) (ln) (at_ + 1) 9).2 ≤ ln := wdO_le (by decide) (by omega)
        refine g_if_eq (P := (wdO (f 4) (ln) (at_ + 1) 9).1 = false) (tgt := 110) hx hb dX8_orderHere_92 (by decide) b2i_0 (fun c_70 => ?_) (fun c_70 => ?_)
        · refine lv_iconst (v := nI (0)) hx hb dX8_orderHere_110 gc_0 ?_
          exact g_zretW (v := nI (0)) hx hb hr hlk rfl hS dX8_orderHere_111 (by have e9 : ohM (f 4) ln at_ (f 8) (3 * tm) = (false, ((wdO (f 4) (ln) (at_ + 1) 9).2, upd (f 8) (3 * tm) (nI (3)))) := (by simp only [ohM, ohJ, ohN, ohW, ohC, o2, wdT, skT, c_2, c_5, c_70, eq_self, Bool.false_eq_true, ↓reduceIte] <;> first | rfl | exact Prod.ext c_70 rfl) ; rw [e9]; exact ⟨rfl, hP⟩)
        · have c_70 : (wdO (f 4) (ln) (at_ + 1) 9).1 = true := eq_true_of_ne_false c_70
          refine lv_aload_n hx hb dX8_orderHere_95 rfl (lv_at hl 1 rfl) ?_
          refine lv_iload_n hx hb dX8_orderHere_96 rfl (lv_at hl 0 rfl) ?_
          refine lv_iconst (v := nI (1)) hx hb dX8_orderHere_97 gc_1 ?_
          refine g_iadd hx hb dX8_orderHere_98 ?_
          refine lv_iconst (v := nI (1)) hx hb dX8_orderHere_99 gc_1 ?_
          refine wr_calli (va_runV (As := [.int (nI ((3 * tm) + (1))), .int (nI (1))]) (rest := []) ⟨hx, hb, hml, hown, hts⟩ (c_X8_figures l D cA A (upd (x) 10 (nI ((wdO (f 4) (ln) (at_ + 1) 9).2))) (va_up (f) 8 (upd (f 8) (3 * tm) (nI (3)))) ((3 * tm) + (1)) (1) (ln) ((wdO (f 4) (ln) (at_ + 1) 9).2) hA hl7 (by rfl) (by omega) (by omega) (by omega) (by omega)) (cwV 2 hts (gWV gm_47_1 gm_47_2 gm_47_3 gm_1_5 gm_47_4) rfl rfl rfl (by decide +kernel) ⟨Nat.le_of_ble_eq_true rfl, Nat.le_of_ble_eq_true rfl⟩) (gPreV hK (g_rf hK hP (ci := 10) (q0 := 0) rfl rfl) hP) rfl rfl hl.1 rfl (lv_room (Nat.le_of_ble_eq_true rfl)) dX8_orderHere_100 ⟨by omega, by omega⟩) hS (fun q _ h => h) (fun q h => h) (fun r H locs hw9 hz9 hk9 hS => ?_)
          obtain ⟨rfl, hP⟩ := hw9
          have hP : va_P D vwCl (mw cA A (upd (x) 10 (nI ((fgO (f 4) (ln) ((wdO (f 4) (ln) (at_ + 1) 9).2) (upd (f 8) (3 * tm) (nI (3))) ((3 * tm) + (1)) (1)).2.1))) (va_up (f) 8 ((fgO (f 4) (ln) ((wdO (f 4) (ln) (at_ + 1) 9).2) (upd (f 8) (3 * tm) (nI (3))) ((3 * tm) + (1)) (1)).2.2))) H := hP
          have hD : va_D (MA A) (mw cA A (upd (x) 10 (nI ((fgO (f 4) (ln) ((wdO (f 4) (ln) (at_ + 1) 9).2) (upd (f 8) (3 * tm) (nI (3))) ((3 * tm) + (1)) (1)).2.1))) (va_up (f) 8 ((fgO (f 4) (ln) ((wdO (f 4) (ln) (at_ + 1) 9).2) (upd (f 8) (3 * tm) (nI (3))) ((3 * tm) + (1)) (1)).2.2))) := mD hA
          have hxb_71 : (fgO (f 4) (ln) ((wdO (f 4) (ln) (at_ + 1) 9).2) (upd (f 8) (3 * tm) (nI (3))) ((3 * tm) + (1)) (1)).2.1 ≤ ln := fgO_le (by omega)
          refine g_if_eq (P := (fgO (f 4) (ln) ((wdO (f 4) (ln) (at_ + 1) 9).2) (upd (f 8) (3 * tm) (nI (3))) ((3 * tm) + (1)) (1)).1 = false) (tgt := 110) hx hb dX8_orderHere_103 (by decide) b2i_0 (fun c_72 => ?_) (fun c_72 => ?_)
          · refine lv_iconst (v := nI (0)) hx hb dX8_orderHere_110 gc_0 ?_
            exact g_zretW (v := nI (0)) hx hb hr hlk rfl hS dX8_orderHere_111 (by have e9 : ohM (f 4) ln at_ (f 8) (3 * tm) = (false, ((fgO (f 4) (ln) ((wdO (f 4) (ln) (at_ + 1) 9).2) (upd (f 8) (3 * tm) (nI (3))) ((3 * tm) + (1)) (1)).2.1, (fgO (f 4) (ln) ((wdO (f 4) (ln) (at_ + 1) 9).2) (upd (f 8) (3 * tm) (nI (3))) ((3 * tm) + (1)) (1)).2.2)) := (by simp only [ohM, ohJ, ohN, ohW, ohC, o2, wdT, skT, c_2, c_5, c_70, c_72, eq_self, Bool.false_eq_true, ↓reduceIte] <;> first | rfl | exact Prod.ext c_72 rfl) ; rw [e9]; exact ⟨rfl, hP⟩)
          · have c_72 : (fgO (f 4) (ln) ((wdO (f 4) (ln) (at_ + 1) 9).2) (upd (f 8) (3 * tm) (nI (3))) ((3 * tm) + (1)) (1)).1 = true := eq_true_of_ne_false c_72
            refine lv_iconst (v := nI (1)) hx hb dX8_orderHere_106 gc_1 ?_
            refine lv_goto (tgt := 111) hx hb dX8_orderHere_107 (by decide) ?_
            exact g_zretW (v := nI (1)) hx hb hr hlk rfl hS dX8_orderHere_111 (by have e9 : ohM (f 4) ln at_ (f 8) (3 * tm) = (true, ((fgO (f 4) (ln) ((wdO (f 4) (ln) (at_ + 1) 9).2) (upd (f 8) (3 * tm) (nI (3))) ((3 * tm) + (1)) (1)).2.1, (fgO (f 4) (ln) ((wdO (f 4) (ln) (at_ + 1) 9).2) (upd (f 8) (3 * tm) (nI (3))) ((3 * tm) + (1)) (1)).2.2)) := (by simp only [ohM, ohJ, ohN, ohW, ohC, o2, wdT, skT, c_2, c_5, c_70, c_72, eq_self, Bool.false_eq_true, ↓reduceIte] <;> first | rfl | exact Prod.ext c_72 rfl) ; rw [e9]; exact ⟨rfl, hP⟩)
  · have c_2 : (skO (f 4) (ln) (at_) (106)).1 = true := eq_true_of_ne_false c_2
    have hxb_73 : at_ + 1 ≤ ln := Nat.le_trans (Nat.le_of_eq (skO_t c_2).symm) hxb_1
    rw [skO_t c_2] at hP
    have hP : va_P D vwCl (mw cA A (upd (x) 10 (nI (at_ + 1))) (f)) H := hP
    have hD : va_D (MA A) (mw cA A (upd (x) 10 (nI (at_ + 1))) (f)) := mD hA
    refine lv_aload_n hx hb dX8_orderHere_16 rfl (lv_at hl 1 rfl) ?_
    refine lv_iconst (v := nI (0)) hx hb dX8_orderHere_17 gc_0 ?_
    refine wr_calli (va_runV (As := [.int (nI (0))]) (rest := []) ⟨hx, hb, hml, hown, hts⟩ (c_X8_hasOrder l D cA A (upd (x) 10 (nI (at_ + 1))) (f) (0) (tm) hA htm (by omega)) (cwV 1 hts (gWV gm_46_11 gm_46_12 gm_46_13 gm_1_5 gm_46_14) rfl rfl rfl (by decide +kernel) ⟨Nat.le_of_ble_eq_true rfl, Nat.le_of_ble_eq_true rfl⟩) (gPreV hK (g_rf hK hP (ci := 10) (q0 := 0) rfl rfl) hP) rfl rfl hl.1 rfl (lv_room (Nat.le_of_ble_eq_true rfl)) dX8_orderHere_18 ⟨by omega, by omega⟩) hS (fun q _ h => h) (fun q h => h) (fun r H locs hw9 hz9 hk9 hS => ?_)
    obtain ⟨rfl, hP⟩ := hw9
    have hP : va_P D vwCl (mw cA A (upd (x) 10 (nI (at_ + 1))) (va_up (f) 8 (upd (f 8) (3 * tm) (nI (0))))) H := hP
    have hD : va_D (MA A) (mw cA A (upd (x) 10 (nI (at_ + 1))) (va_up (f) 8 (upd (f 8) (3 * tm) (nI (0))))) := mD hA
    refine g_if_eq (P := true = false) (tgt := 67) hx hb dX8_orderHere_21 (by decide) b2i_0 (fun c_74 => ?_) (fun c_74 => ?_)
    · exact absurd c_74 (by decide)
    · have c_74 : true = true := eq_true_of_ne_false c_74
      refine lv_aload_n hx hb dX8_orderHere_24 rfl (lv_at hl 1 rfl) ?_
      refine va_ldcS hx hb hown (hE.2.1 8 (RX8, 209, "uror ") rfl) dX8_orderHere_25 ?_
      refine wr_calli (va_runV (As := [.ref (adK 8)]) (rest := []) ⟨hx, hb, hml, hown, hts⟩ (c_X8_isWord l D cA AE adK adV sa A (upd (x) 10 (nI (at_ + 1))) (va_up (f) 8 (upd (f 8) (3 * tm) (nI (0)))) 8 (ln) (at_ + 1) hA hl7 (by rfl) (by omega) (by omega) (by decide) hFA) (cwV 1 hts (gWV gm_46_15 gm_46_16 gm_46_17 gm_1_5 gm_46_18) rfl rfl rfl (by decide +kernel) ⟨Nat.le_of_ble_eq_true rfl, Nat.le_of_ble_eq_true rfl⟩) (gPreVx hK hE hS hFA (g_rf hK hP (ci := 10) (q0 := 0) rfl rfl) hP) rfl rfl hl.1 rfl (lv_room (Nat.le_of_ble_eq_true rfl)) dX8_orderHere_27 ⟨by omega, by omega⟩) hS (fun q _ h => h) (fun q h => h) (fun r H locs hw9 hz9 hk9 hS => ?_)
      obtain ⟨rfl, hP⟩ := hw9
      have hP : va_P D vwCl (mw cA A (upd (x) 10 (nI ((wdO (f 4) (ln) (at_ + 1) 8).2))) (va_up (f) 8 (upd (f 8) (3 * tm) (nI (0))))) H := hP
      have hD : va_D (MA A) (mw cA A (upd (x) 10 (nI ((wdO (f 4) (ln) (at_ + 1) 8).2))) (va_up (f) 8 (upd (f 8) (3 * tm) (nI (0))))) := mD hA
      have hxb_75 : (wdO (f 4) (ln) (at_ + 1) 8).2 ≤ ln := wdO_le (by decide) (by omega)
      refine g_if_eq (P := (wdO (f 4) (ln) (at_ + 1) 8).1 = false) (tgt := 67) hx hb dX8_orderHere_30 (by decide) b2i_0 (fun c_76 => ?_) (fun c_76 => ?_)
      · refine lv_iconst (v := nI (0)) hx hb dX8_orderHere_67 gc_0 ?_
        exact g_zretW (v := nI (0)) hx hb hr hlk rfl hS dX8_orderHere_68 (by have e9 : ohM (f 4) ln at_ (f 8) (3 * tm) = (false, ((wdO (f 4) (ln) (at_ + 1) 8).2, upd (f 8) (3 * tm) (nI (0)))) := (by simp only [ohM, ohJ, ohN, ohW, ohC, o2, wdT, skT, c_2, c_76, eq_self, Bool.false_eq_true, ↓reduceIte] <;> first | rfl | exact Prod.ext c_76 rfl) ; rw [e9]; exact ⟨rfl, hP⟩)
      · have c_76 : (wdO (f 4) (ln) (at_ + 1) 8).1 = true := eq_true_of_ne_false c_76
        refine lv_aload_n hx hb dX8_orderHere_33 rfl (lv_at hl 1 rfl) ?_
        refine lv_iload_n hx hb dX8_orderHere_34 rfl (lv_at hl 0 rfl) ?_
        refine lv_iconst (v := nI (1)) hx hb dX8_orderHere_35 gc_1 ?_
        refine g_iadd hx hb dX8_orderHere_36 ?_
        refine wr_calli (va_runV (As := [.int (nI ((3 * tm) + (1)))]) (rest := []) ⟨hx, hb, hml, hown, hts⟩ (c_X8_leaningHere l D cA A (upd (x) 10 (nI ((wdO (f 4) (ln) (at_ + 1) 8).2))) (va_up (f) 8 (upd (f 8) (3 * tm) (nI (0)))) ((3 * tm) + (1)) (ln) ((wdO (f 4) (ln) (at_ + 1) 8).2) hA hl7 (by rfl) (by omega) (by omega) (by omega)) (cwV 1 hts (gWV gm_46_21 gm_46_22 gm_46_23 gm_1_5 gm_47_0) rfl rfl rfl (by decide +kernel) ⟨Nat.le_of_ble_eq_true rfl, Nat.le_of_ble_eq_true rfl⟩) (gPreV hK (g_rf hK hP (ci := 10) (q0 := 0) rfl rfl) hP) rfl rfl hl.1 rfl (lv_room (Nat.le_of_ble_eq_true rfl)) dX8_orderHere_37 ⟨by omega, by omega⟩) hS (fun q _ h => h) (fun q h => h) (fun r H locs hw9 hz9 hk9 hS => ?_)
        obtain ⟨rfl, hP⟩ := hw9
        have hP : va_P D vwCl (mw cA A (upd (x) 10 (nI ((lhO (f 4) (ln) ((wdO (f 4) (ln) (at_ + 1) 8).2) (upd (f 8) (3 * tm) (nI (0))) ((3 * tm) + (1))).2.1))) (va_up (f) 8 ((lhO (f 4) (ln) ((wdO (f 4) (ln) (at_ + 1) 8).2) (upd (f 8) (3 * tm) (nI (0))) ((3 * tm) + (1))).2.2))) H := hP
        have hD : va_D (MA A) (mw cA A (upd (x) 10 (nI ((lhO (f 4) (ln) ((wdO (f 4) (ln) (at_ + 1) 8).2) (upd (f 8) (3 * tm) (nI (0))) ((3 * tm) + (1))).2.1))) (va_up (f) 8 ((lhO (f 4) (ln) ((wdO (f 4) (ln) (at_ + 1) 8).2) (upd (f 8) (3 * tm) (nI (0))) ((3 * tm) + (1))).2.2))) := mD hA
        have hxb_77 : (lhO (f 4) (ln) ((wdO (f 4) (ln) (at_ + 1) 8).2) (upd (f 8) (3 * tm) (nI (0))) ((3 * tm) + (1))).2.1 ≤ ln := lhO_le (by omega)
        refine g_if_eq (P := (lhO (f 4) (ln) ((wdO (f 4) (ln) (at_ + 1) 8).2) (upd (f 8) (3 * tm) (nI (0))) ((3 * tm) + (1))).1 = false) (tgt := 67) hx hb dX8_orderHere_40 (by decide) b2i_0 (fun c_78 => ?_) (fun c_78 => ?_)
        · refine lv_iconst (v := nI (0)) hx hb dX8_orderHere_67 gc_0 ?_
          exact g_zretW (v := nI (0)) hx hb hr hlk rfl hS dX8_orderHere_68 (by have e9 : ohM (f 4) ln at_ (f 8) (3 * tm) = (false, ((lhO (f 4) (ln) ((wdO (f 4) (ln) (at_ + 1) 8).2) (upd (f 8) (3 * tm) (nI (0))) ((3 * tm) + (1))).2.1, (lhO (f 4) (ln) ((wdO (f 4) (ln) (at_ + 1) 8).2) (upd (f 8) (3 * tm) (nI (0))) ((3 * tm) + (1))).2.2)) := (by simp only [ohM, ohJ, ohN, ohW, ohC, o2, wdT, skT, c_2, c_76, c_78, eq_self, Bool.false_eq_true, ↓reduceIte] <;> first | rfl | exact Prod.ext c_78 rfl) ; rw [e9]; exact ⟨rfl, hP⟩)
        · have c_78 : (lhO (f 4) (ln) ((wdO (f 4) (ln) (at_ + 1) 8).2) (upd (f 8) (3 * tm) (nI (0))) ((3 * tm) + (1))).1 = true := eq_true_of_ne_false c_78
          refine lv_aload_n hx hb dX8_orderHere_43 rfl (lv_at hl 1 rfl) ?_
          refine lv_bipush (v := nI (32)) hx hb dX8_orderHere_44 gb_32 ?_
          refine wr_calli (va_runV (As := [.int (nI (32))]) (rest := []) ⟨hx, hb, hml, hown, hts⟩ (c_X8_skips l D cA A (upd (x) 10 (nI ((lhO (f 4) (ln) ((wdO (f 4) (ln) (at_ + 1) 8).2) (upd (f 8) (3 * tm) (nI (0))) ((3 * tm) + (1))).2.1))) (va_up (f) 8 ((lhO (f 4) (ln) ((wdO (f 4) (ln) (at_ + 1) 8).2) (upd (f 8) (3 * tm) (nI (0))) ((3 * tm) + (1))).2.2)) (32) (ln) ((lhO (f 4) (ln) ((wdO (f 4) (ln) (at_ + 1) 8).2) (upd (f 8) (3 * tm) (nI (0))) ((3 * tm) + (1))).2.1) hA hl7 (by rfl) (by omega) (by omega) (by omega)) (cwV 1 hts (gWV gm_46_3 gm_46_4 gm_46_5 gm_1_5 gm_46_6) rfl rfl rfl (by decide +kernel) ⟨Nat.le_of_ble_eq_true rfl, Nat.le_of_ble_eq_true rfl⟩) (gPreV hK (g_rf hK hP (ci := 10) (q0 := 0) rfl rfl) hP) rfl rfl hl.1 rfl (lv_room (Nat.le_of_ble_eq_true rfl)) dX8_orderHere_46 ⟨by omega, by omega⟩) hS (fun q _ h => h) (fun q h => h) (fun r H locs hw9 hz9 hk9 hS => ?_)
          obtain ⟨rfl, hP⟩ := hw9
          have hP : va_P D vwCl (mw cA A (upd (x) 10 (nI ((skO (f 4) (ln) ((lhO (f 4) (ln) ((wdO (f 4) (ln) (at_ + 1) 8).2) (upd (f 8) (3 * tm) (nI (0))) ((3 * tm) + (1))).2.1) (32)).2))) (va_up (f) 8 ((lhO (f 4) (ln) ((wdO (f 4) (ln) (at_ + 1) 8).2) (upd (f 8) (3 * tm) (nI (0))) ((3 * tm) + (1))).2.2))) H := hP
          have hD : va_D (MA A) (mw cA A (upd (x) 10 (nI ((skO (f 4) (ln) ((lhO (f 4) (ln) ((wdO (f 4) (ln) (at_ + 1) 8).2) (upd (f 8) (3 * tm) (nI (0))) ((3 * tm) + (1))).2.1) (32)).2))) (va_up (f) 8 ((lhO (f 4) (ln) ((wdO (f 4) (ln) (at_ + 1) 8).2) (upd (f 8) (3 * tm) (nI (0))) ((3 * tm) + (1))).2.2))) := mD hA
          have hxb_79 : (skO (f 4) (ln) ((lhO (f 4) (ln) ((wdO (f 4) (ln) (at_ + 1) 8).2) (upd (f 8) (3 * tm) (nI (0))) ((3 * tm) + (1))).2.1) (32)).2 ≤ ln := skO_le (by omega) (by omega)
          refine g_if_eq (P := (skO (f 4) (ln) ((lhO (f 4) (ln) ((wdO (f 4) (ln) (at_ + 1) 8).2) (upd (f 8) (3 * tm) (nI (0))) ((3 * tm) + (1))).2.1) (32)).1 = false) (tgt := 67) hx hb dX8_orderHere_49 (by decide) b2i_0 (fun c_80 => ?_) (fun c_80 => ?_)
          · have hxb_81 : (lhO (f 4) (ln) ((wdO (f 4) (ln) (at_ + 1) 8).2) (upd (f 8) (3 * tm) (nI (0))) ((3 * tm) + (1))).2.1 ≤ ln := Nat.le_trans (Nat.le_of_eq (skO_f c_80).symm) hxb_79
            rw [skO_f c_80] at hP
            have hP : va_P D vwCl (mw cA A (upd (x) 10 (nI ((lhO (f 4) (ln) ((wdO (f 4) (ln) (at_ + 1) 8).2) (upd (f 8) (3 * tm) (nI (0))) ((3 * tm) + (1))).2.1))) (va_up (f) 8 ((lhO (f 4) (ln) ((wdO (f 4) (ln) (at_ + 1) 8).2) (upd (f 8) (3 * tm) (nI (0))) ((3 * tm) + (1))).2.2))) H := hP
            have hD : va_D (MA A) (mw cA A (upd (x) 10 (nI ((lhO (f 4) (ln) ((wdO (f 4) (ln) (at_ + 1) 8).2) (upd (f 8) (3 * tm) (nI (0))) ((3 * tm) + (1))).2.1))) (va_up (f) 8 ((lhO (f 4) (ln) ((wdO (f 4) (ln) (at_ + 1) 8).2) (upd (f 8) (3 * tm) (nI (0))) ((3 * tm) + (1))).2.2))) := mD hA
            refine lv_iconst (v := nI (0)) hx hb dX8_orderHere_67 gc_0 ?_
            exact g_zretW (v := nI (0)) hx hb hr hlk rfl hS dX8_orderHere_68 (by have e9 : ohM (f 4) ln at_ (f 8) (3 * tm) = (false, ((lhO (f 4) (ln) ((wdO (f 4) (ln) (at_ + 1) 8).2) (upd (f 8) (3 * tm) (nI (0))) ((3 * tm) + (1))).2.1, (lhO (f 4) (ln) ((wdO (f 4) (ln) (at_ + 1) 8).2) (upd (f 8) (3 * tm) (nI (0))) ((3 * tm) + (1))).2.2)) := (by simp only [ohM, ohJ, ohN, ohW, ohC, o2, wdT, skT, c_2, c_76, c_78, c_80, eq_self, Bool.false_eq_true, ↓reduceIte] <;> first | rfl | exact Prod.ext c_80 rfl) ; rw [e9]; exact ⟨rfl, hP⟩)
          · have c_80 : (skO (f 4) (ln) ((lhO (f 4) (ln) ((wdO (f 4) (ln) (at_ + 1) 8).2) (upd (f 8) (3 * tm) (nI (0))) ((3 * tm) + (1))).2.1) (32)).1 = true := eq_true_of_ne_false c_80
            have hxb_82 : (lhO (f 4) (ln) ((wdO (f 4) (ln) (at_ + 1) 8).2) (upd (f 8) (3 * tm) (nI (0))) ((3 * tm) + (1))).2.1 + 1 ≤ ln := Nat.le_trans (Nat.le_of_eq (skO_t c_80).symm) hxb_79
            rw [skO_t c_80] at hP
            have hP : va_P D vwCl (mw cA A (upd (x) 10 (nI ((lhO (f 4) (ln) ((wdO (f 4) (ln) (at_ + 1) 8).2) (upd (f 8) (3 * tm) (nI (0))) ((3 * tm) + (1))).2.1 + 1))) (va_up (f) 8 ((lhO (f 4) (ln) ((wdO (f 4) (ln) (at_ + 1) 8).2) (upd (f 8) (3 * tm) (nI (0))) ((3 * tm) + (1))).2.2))) H := hP
            have hD : va_D (MA A) (mw cA A (upd (x) 10 (nI ((lhO (f 4) (ln) ((wdO (f 4) (ln) (at_ + 1) 8).2) (upd (f 8) (3 * tm) (nI (0))) ((3 * tm) + (1))).2.1 + 1))) (va_up (f) 8 ((lhO (f 4) (ln) ((wdO (f 4) (ln) (at_ + 1) 8).2) (upd (f 8) (3 * tm) (nI (0))) ((3 * tm) + (1))).2.2))) := mD hA
            refine lv_aload_n hx hb dX8_orderHere_52 rfl (lv_at hl 1 rfl) ?_
            refine lv_iload_n hx hb dX8_orderHere_53 rfl (lv_at hl 0 rfl) ?_
            refine lv_iconst (v := nI (2)) hx hb dX8_orderHere_54 gc_2 ?_
            refine g_iadd hx hb dX8_orderHere_55 ?_
            refine lv_iconst (v := nI (1)) hx hb dX8_orderHere_56 gc_1 ?_
            refine wr_calli (va_runV (As := [.int (nI ((3 * tm) + (2))), .int (nI (1))]) (rest := []) ⟨hx, hb, hml, hown, hts⟩ (c_X8_figures l D cA A (upd (x) 10 (nI ((lhO (f 4) (ln) ((wdO (f 4) (ln) (at_ + 1) 8).2) (upd (f 8) (3 * tm) (nI (0))) ((3 * tm) + (1))).2.1 + 1))) (va_up (f) 8 ((lhO (f 4) (ln) ((wdO (f 4) (ln) (at_ + 1) 8).2) (upd (f 8) (3 * tm) (nI (0))) ((3 * tm) + (1))).2.2)) ((3 * tm) + (2)) (1) (ln) ((lhO (f 4) (ln) ((wdO (f 4) (ln) (at_ + 1) 8).2) (upd (f 8) (3 * tm) (nI (0))) ((3 * tm) + (1))).2.1 + 1) hA hl7 (by rfl) (by omega) (by omega) (by omega) (by omega)) (cwV 2 hts (gWV gm_47_1 gm_47_2 gm_47_3 gm_1_5 gm_47_4) rfl rfl rfl (by decide +kernel) ⟨Nat.le_of_ble_eq_true rfl, Nat.le_of_ble_eq_true rfl⟩) (gPreV hK (g_rf hK hP (ci := 10) (q0 := 0) rfl rfl) hP) rfl rfl hl.1 rfl (lv_room (Nat.le_of_ble_eq_true rfl)) dX8_orderHere_57 ⟨by omega, by omega⟩) hS (fun q _ h => h) (fun q h => h) (fun r H locs hw9 hz9 hk9 hS => ?_)
            obtain ⟨rfl, hP⟩ := hw9
            have hP : va_P D vwCl (mw cA A (upd (x) 10 (nI ((fgO (f 4) (ln) ((lhO (f 4) (ln) ((wdO (f 4) (ln) (at_ + 1) 8).2) (upd (f 8) (3 * tm) (nI (0))) ((3 * tm) + (1))).2.1 + 1) ((lhO (f 4) (ln) ((wdO (f 4) (ln) (at_ + 1) 8).2) (upd (f 8) (3 * tm) (nI (0))) ((3 * tm) + (1))).2.2) ((3 * tm) + (2)) (1)).2.1))) (va_up (f) 8 ((fgO (f 4) (ln) ((lhO (f 4) (ln) ((wdO (f 4) (ln) (at_ + 1) 8).2) (upd (f 8) (3 * tm) (nI (0))) ((3 * tm) + (1))).2.1 + 1) ((lhO (f 4) (ln) ((wdO (f 4) (ln) (at_ + 1) 8).2) (upd (f 8) (3 * tm) (nI (0))) ((3 * tm) + (1))).2.2) ((3 * tm) + (2)) (1)).2.2))) H := hP
            have hD : va_D (MA A) (mw cA A (upd (x) 10 (nI ((fgO (f 4) (ln) ((lhO (f 4) (ln) ((wdO (f 4) (ln) (at_ + 1) 8).2) (upd (f 8) (3 * tm) (nI (0))) ((3 * tm) + (1))).2.1 + 1) ((lhO (f 4) (ln) ((wdO (f 4) (ln) (at_ + 1) 8).2) (upd (f 8) (3 * tm) (nI (0))) ((3 * tm) + (1))).2.2) ((3 * tm) + (2)) (1)).2.1))) (va_up (f) 8 ((fgO (f 4) (ln) ((lhO (f 4) (ln) ((wdO (f 4) (ln) (at_ + 1) 8).2) (upd (f 8) (3 * tm) (nI (0))) ((3 * tm) + (1))).2.1 + 1) ((lhO (f 4) (ln) ((wdO (f 4) (ln) (at_ + 1) 8).2) (upd (f 8) (3 * tm) (nI (0))) ((3 * tm) + (1))).2.2) ((3 * tm) + (2)) (1)).2.2))) := mD hA
            have hxb_83 : (fgO (f 4) (ln) ((lhO (f 4) (ln) ((wdO (f 4) (ln) (at_ + 1) 8).2) (upd (f 8) (3 * tm) (nI (0))) ((3 * tm) + (1))).2.1 + 1) ((lhO (f 4) (ln) ((wdO (f 4) (ln) (at_ + 1) 8).2) (upd (f 8) (3 * tm) (nI (0))) ((3 * tm) + (1))).2.2) ((3 * tm) + (2)) (1)).2.1 ≤ ln := fgO_le (by omega)
            refine g_if_eq (P := (fgO (f 4) (ln) ((lhO (f 4) (ln) ((wdO (f 4) (ln) (at_ + 1) 8).2) (upd (f 8) (3 * tm) (nI (0))) ((3 * tm) + (1))).2.1 + 1) ((lhO (f 4) (ln) ((wdO (f 4) (ln) (at_ + 1) 8).2) (upd (f 8) (3 * tm) (nI (0))) ((3 * tm) + (1))).2.2) ((3 * tm) + (2)) (1)).1 = false) (tgt := 67) hx hb dX8_orderHere_60 (by decide) b2i_0 (fun c_84 => ?_) (fun c_84 => ?_)
            · refine lv_iconst (v := nI (0)) hx hb dX8_orderHere_67 gc_0 ?_
              exact g_zretW (v := nI (0)) hx hb hr hlk rfl hS dX8_orderHere_68 (by have e9 : ohM (f 4) ln at_ (f 8) (3 * tm) = (false, ((fgO (f 4) (ln) ((lhO (f 4) (ln) ((wdO (f 4) (ln) (at_ + 1) 8).2) (upd (f 8) (3 * tm) (nI (0))) ((3 * tm) + (1))).2.1 + 1) ((lhO (f 4) (ln) ((wdO (f 4) (ln) (at_ + 1) 8).2) (upd (f 8) (3 * tm) (nI (0))) ((3 * tm) + (1))).2.2) ((3 * tm) + (2)) (1)).2.1, (fgO (f 4) (ln) ((lhO (f 4) (ln) ((wdO (f 4) (ln) (at_ + 1) 8).2) (upd (f 8) (3 * tm) (nI (0))) ((3 * tm) + (1))).2.1 + 1) ((lhO (f 4) (ln) ((wdO (f 4) (ln) (at_ + 1) 8).2) (upd (f 8) (3 * tm) (nI (0))) ((3 * tm) + (1))).2.2) ((3 * tm) + (2)) (1)).2.2)) := (by simp only [ohM, ohJ, ohN, ohW, ohC, o2, wdT, skT, c_2, c_76, c_78, c_80, c_84, eq_self, Bool.false_eq_true, ↓reduceIte] <;> first | rfl | exact Prod.ext c_84 rfl) ; rw [e9]; exact ⟨rfl, hP⟩)
            · have c_84 : (fgO (f 4) (ln) ((lhO (f 4) (ln) ((wdO (f 4) (ln) (at_ + 1) 8).2) (upd (f 8) (3 * tm) (nI (0))) ((3 * tm) + (1))).2.1 + 1) ((lhO (f 4) (ln) ((wdO (f 4) (ln) (at_ + 1) 8).2) (upd (f 8) (3 * tm) (nI (0))) ((3 * tm) + (1))).2.2) ((3 * tm) + (2)) (1)).1 = true := eq_true_of_ne_false c_84
              refine lv_iconst (v := nI (1)) hx hb dX8_orderHere_63 gc_1 ?_
              refine lv_goto (tgt := 68) hx hb dX8_orderHere_64 (by decide) ?_
              exact g_zretW (v := nI (1)) hx hb hr hlk rfl hS dX8_orderHere_68 (by have e9 : ohM (f 4) ln at_ (f 8) (3 * tm) = (true, ((fgO (f 4) (ln) ((lhO (f 4) (ln) ((wdO (f 4) (ln) (at_ + 1) 8).2) (upd (f 8) (3 * tm) (nI (0))) ((3 * tm) + (1))).2.1 + 1) ((lhO (f 4) (ln) ((wdO (f 4) (ln) (at_ + 1) 8).2) (upd (f 8) (3 * tm) (nI (0))) ((3 * tm) + (1))).2.2) ((3 * tm) + (2)) (1)).2.1, (fgO (f 4) (ln) ((lhO (f 4) (ln) ((wdO (f 4) (ln) (at_ + 1) 8).2) (upd (f 8) (3 * tm) (nI (0))) ((3 * tm) + (1))).2.1 + 1) ((lhO (f 4) (ln) ((wdO (f 4) (ln) (at_ + 1) 8).2) (upd (f 8) (3 * tm) (nI (0))) ((3 * tm) + (1))).2.2) ((3 * tm) + (2)) (1)).2.2)) := (by simp only [ohM, ohJ, ohN, ohW, ohC, o2, wdT, skT, c_2, c_76, c_78, c_80, c_84, eq_self, Bool.false_eq_true, ↓reduceIte] <;> first | rfl | exact Prod.ext c_84 rfl) ; rw [e9]; exact ⟨rfl, hP⟩)

theorem o2_t {r : OH} {k : Nat → (Nat → Int32) → OH} (h : (o2 r k).1 = true) : r.1 = true ∧ o2 r k = k r.2.1 r.2.2 := by
  unfold o2 at h ⊢
  split at h
  · rename_i q; exact ⟨q, if_pos q⟩
  · cases h
theorem wdT_t {inp : Nat → Int32} {ln i q : Nat} {td : Nat → Int32} (h : (wdT inp ln i q td).1 = true) : (wdT inp ln i q td).2.1 = q + sLen.getD i 0 := by
  have h1 : (fnd (wdP inp ln q i) (sLen.getD i 0)).isNone = true := h
  show q + (fnd (wdP inp ln q i) (sLen.getD i 0)).getD (sLen.getD i 0) = _
  rw [Option.isNone_iff_eq_none.mp h1]
  rfl
theorem fgO_ge {inp : Nat → Int32} {ln q : Nat} {td : Nat → Int32} {pl mo : Nat} : q ≤ (fgO inp ln q td pl mo).2.1 := by
  unfold fgO; split
  · exact Nat.le_add_right _ _
  · exact Nat.le_refl _
theorem fgO_t {inp : Nat → Int32} {ln q : Nat} {td : Nat → Int32} {pl mo : Nat} (hmo : 0 < mo) (h : (fgO inp ln q td pl mo).1 = true) : q + 1 ≤ (fgO inp ln q td pl mo).2.1 := by
  unfold fgO at h ⊢
  split at h
  · rename_i hd
    rw [if_pos hd]
    show q + 1 ≤ q + fgN inp ln q mo
    have : fgN inp ln q mo ≠ 0 := by
      intro e
      unfold fgN at e
      cases e2 : fnd (fun k => !dgM inp ln (q + k)) mo with
      | none => rw [e2] at e; exact absurd e (by show ¬ mo = 0; omega)
      | some k =>
        rw [e2] at e
        have e3 : k = 0 := e
        have h4 := (fnd_some e2).1
        rw [e3] at h4
        rw [show q + 0 = q from rfl, hd] at h4
        cases h4
    omega
  · cases h
theorem skO_ge {inp : Nat → Int32} {ln q c : Nat} : q ≤ (skO inp ln q c).2 := by unfold skO; split; exact Nat.le_succ _; exact Nat.le_refl _
theorem lhO_ge {inp : Nat → Int32} {ln q : Nat} {td : Nat → Int32} {pl : Nat} : q ≤ (lhO inp ln q td pl).2.1 := by
  unfold lhO; split
  · exact Nat.le_trans skO_ge fgO_ge
  · exact Nat.le_trans skO_ge fgO_ge
theorem skT_ge {inp : Nat → Int32} {ln c q : Nat} {td : Nat → Int32} : q ≤ (skT inp ln c q td).2.1 := by unfold skT; split; exact Nat.le_succ _; exact Nat.le_refl _
theorem ohN_4 {inp : Nat → Int32} {ln q : Nat} {td : Nat → Int32} {p w i : Nat} (h : (ohN inp ln q td p w i).1 = true) : q + sLen.getD i 0 + 1 ≤ (ohN inp ln q td p w i).2.1 := by
  unfold ohN at h ⊢
  obtain ⟨h1, e1⟩ := o2_t h
  rw [e1] at h ⊢
  have a := wdT_t h1
  have b := fgO_t (by decide) h
  omega
theorem ohM_4 {inp : Nat → Int32} {ln q : Nat} {td : Nat → Int32} {p : Nat} (h : (ohM inp ln q td p).1 = true) : q + 4 ≤ (ohM inp ln q td p).2.1 := by
  unfold ohM at h ⊢
  split at h
  · rename_i c1; rw [if_pos c1]
    unfold ohJ at h ⊢
    obtain ⟨h1, e1⟩ := o2_t h
    rw [e1] at h ⊢
    obtain ⟨h2, e2⟩ := o2_t h
    rw [e2] at h ⊢
    obtain ⟨h3, e3⟩ := o2_t h
    rw [e3] at h ⊢
    have a := wdT_t h1
    have b := lhO_ge (inp := inp) (ln := ln) (q := (wdT inp ln 8 (q + 1) (upd td p (nI 0))).2.1) (td := (wdT inp ln 8 (q + 1) (upd td p (nI 0))).2.2) (pl := p + 1)
    have d := skT_ge (inp := inp) (ln := ln) (c := 32) (q := (lhO inp ln (wdT inp ln 8 (q + 1) (upd td p (nI 0))).2.1 (wdT inp ln 8 (q + 1) (upd td p (nI 0))).2.2 (p + 1)).2.1) (td := (lhO inp ln (wdT inp ln 8 (q + 1) (upd td p (nI 0))).2.1 (wdT inp ln 8 (q + 1) (upd td p (nI 0))).2.2 (p + 1)).2.2)
    have f := fgO_t (by decide) h
    have l8 : sLen.getD 8 0 = 5 := rfl
    omega
  · rename_i c1; rw [if_neg c1]
    split at h
    · rename_i c2; rw [if_pos c2]; have a := ohN_4 h; have l9 : sLen.getD 9 0 = 4 := rfl; omega
    · rename_i c2; rw [if_neg c2]
      split at h
      · rename_i c3; rw [if_pos c3]; have a := ohN_4 h; have l9 : sLen.getD 10 0 = 5 := rfl; omega
      · rename_i c3; rw [if_neg c3]
        split at h
        · rename_i c4; rw [if_pos c4]; have a := ohN_4 h; have l9 : sLen.getD 11 0 = 6 := rfl; omega
        · rename_i c4; rw [if_neg c4]
          split at h
          · rename_i c5; rw [if_pos c5]; have a := wdT_t (show (wdT inp ln 12 (q + 1) (upd td p (nI 7))).1 = true from h); have l9 : sLen.getD 12 0 = 4 := rfl
            show q + 4 ≤ (wdT inp ln 12 (q + 1) (upd td p (nI 7))).2.1
            omega
          · rename_i c5; rw [if_neg c5]
            split at h
            · rename_i c6; rw [if_pos c6]
              split at h
              · rename_i c7; rw [if_pos c7]; have a := wdT_t (show (wdT inp ln 13 (q + 1 + 1) (upd td p (nI 6))).1 = true from h); have l9 : sLen.getD 13 0 = 3 := rfl
                show q + 4 ≤ (wdT inp ln 13 (q + 1 + 1) (upd td p (nI 6))).2.1
                omega
              · rename_i c7; rw [if_neg c7]
                split at h
                · rename_i c8; rw [if_pos c8]
                  split at h
                  · rename_i c9; rw [if_pos c9]; have a := ohN_4 h; have l9 : sLen.getD 14 0 = 2 := rfl; omega
                  · rename_i c9; rw [if_neg c9]
                    unfold ohC at h ⊢
                    obtain ⟨h1, e1⟩ := o2_t h
                    rw [e1] at h ⊢
                    obtain ⟨h2, e2⟩ := o2_t h
                    rw [e2] at h ⊢
                    obtain ⟨h3, e3⟩ := o2_t h
                    rw [e3] at h ⊢
                    have a := wdT_t h1
                    have b := fgO_t (by decide) h2
                    have d := skT_ge (inp := inp) (ln := ln) (c := 32) (q := (fgO inp ln (wdT inp ln 15 (q + 1 + 1) (upd td p (nI 1))).2.1 (wdT inp ln 15 (q + 1 + 1) (upd td p (nI 1))).2.2 (p + 1) 3).2.1) (td := (fgO inp ln (wdT inp ln 15 (q + 1 + 1) (upd td p (nI 1))).2.1 (wdT inp ln 15 (q + 1 + 1) (upd td p (nI 1))).2.2 (p + 1) 3).2.2)
                    have f := fgO_t (by decide) h
                    have l9 : sLen.getD 15 0 = 3 := rfl
                    omega
                · cases h
            · cases h
def itS (inp : Nat → Int32) (ln : Nat) (td0 : Nat → Int32) : Nat → Nat × (Nat → Int32)
  | 0 => (0, td0)
  | k + 1 => ((ohM inp ln (itS inp ln td0 k).1 (itS inp ln td0 k).2 (3 * k)).2.1 + 1, (ohM inp ln (itS inp ln td0 k).1 (itS inp ln td0 k).2 (3 * k)).2.2)
def itH (inp : Nat → Int32) (ln : Nat) (td0 : Nat → Int32) (k : Nat) : OH := ohM inp ln (itS inp ln td0 k).1 (itS inp ln td0 k).2 (3 * k)
def itQ (inp : Nat → Int32) (ln : Nat) (td0 : Nat → Int32) (k : Nat) : Bool := !((itH inp ln td0 k).1 && (skO inp ln (itH inp ln td0 k).2.1 59).1)
theorem itS_0 {inp : Nat → Int32} {ln : Nat} {td0 : Nat → Int32} : itS inp ln td0 0 = (0, td0) := by rw [itS]
theorem itS_1 {inp : Nat → Int32} {ln : Nat} {td0 : Nat → Int32} {k : Nat} : itS inp ln td0 (k + 1) = ((itH inp ln td0 k).2.1 + 1, (itH inp ln td0 k).2.2) := by rw [itS]; rfl
abbrev IR : Type := Bool × (Nat × (Nat × (Nat → Int32)))
def itX (inp : Nat → Int32) (ln : Nat) (td0 : Nat → Int32) (k : Nat) : IR := if (itH inp ln td0 k).1 = true then (decide ((itH inp ln td0 k).2.1 = ln), ((itH inp ln td0 k).2.1, (k + 1, (itH inp ln td0 k).2.2))) else (false, ((itH inp ln td0 k).2.1, (k, (itH inp ln td0 k).2.2)))
def itR (inp : Nat → Int32) (ln : Nat) (td0 : Nat → Int32) : IR := oMt (fnd (itQ inp ln td0) 16) (false, (0, (0, td0))) (itX inp ln td0)
theorem itR_at {inp : Nat → Int32} {ln : Nat} {td0 : Nat → Int32} {k : Nat} (h : fnd (itQ inp ln td0) k = none) (hq : itQ inp ln td0 k = true) (hk : k < 16) : itR inp ln td0 = itX inp ln td0 k := congrArg (fun o => oMt o (false, (0, (0, td0))) (itX inp ln td0)) (fnd_stop h hq 16 hk)
theorem itQ_f {inp : Nat → Int32} {ln : Nat} {td0 : Nat → Int32} {k : Nat} (h : (itH inp ln td0 k).1 = false) : itQ inp ln td0 k = true := by rw [itQ, h]; rfl
theorem itQ_s {inp : Nat → Int32} {ln : Nat} {td0 : Nat → Int32} {k : Nat} (h : (skO inp ln (itH inp ln td0 k).2.1 59).1 = false) : itQ inp ln td0 k = true := by rw [itQ, h, Bool.and_false]; rfl
theorem itQ_g {inp : Nat → Int32} {ln : Nat} {td0 : Nat → Int32} {k : Nat} (h1 : (itH inp ln td0 k).1 = true) (h : (skO inp ln (itH inp ln td0 k).2.1 59).1 = true) : itQ inp ln td0 k = false := by rw [itQ, h1, h]; rfl
theorem itX_f {inp : Nat → Int32} {ln : Nat} {td0 : Nat → Int32} {k : Nat} (h : (itH inp ln td0 k).1 = false) : itX inp ln td0 k = (false, ((itH inp ln td0 k).2.1, (k, (itH inp ln td0 k).2.2))) := by rw [itX, if_neg (bnt h)]
theorem itX_t {inp : Nat → Int32} {ln : Nat} {td0 : Nat → Int32} {k : Nat} (h : (itH inp ln td0 k).1 = true) : itX inp ln td0 k = (decide ((itH inp ln td0 k).2.1 = ln), ((itH inp ln td0 k).2.1, (k + 1, (itH inp ln td0 k).2.2))) := by rw [itX, if_pos h]
theorem ohM_le {inp : Nat → Int32} {ln q : Nat} {td : Nat → Int32} {p : Nat} (hq : q ≤ ln) : (ohM inp ln q td p).2.1 ≤ ln := by
  have o2le : ∀ (r : OH) (k : Nat → (Nat → Int32) → OH), r.2.1 ≤ ln → (∀ q td, q ≤ ln → (k q td).2.1 ≤ ln) → (o2 r k).2.1 ≤ ln := by
    intro r k h1 h2; unfold o2; split; exact h2 _ _ h1; exact h1
  have sk : ∀ (c q : Nat), c < 65536 → q ≤ ln → (skO inp ln q c).1 = true → q + 1 ≤ ln := fun c q hc hq h => by have := skO_le (inp := inp) (c := c) hc hq; rw [skO_t h] at this; exact this
  have skt : ∀ (c q : Nat) (td : Nat → Int32), c < 65536 → q ≤ ln → (skT inp ln c q td).2.1 ≤ ln := by
    intro c q td hc hq; unfold skT; split
    · exact sk c q hc hq (by assumption)
    · exact hq
  have wd : ∀ (i q : Nat) (td : Nat → Int32), i < 16 → q ≤ ln → (wdT inp ln i q td).2.1 ≤ ln := fun i q td hi hq => wdO_le hi hq
  unfold ohM
  split
  · exact o2le _ _ (wd _ _ _ (by decide) (sk 106 q (by decide) hq (by assumption))) (fun q td hq => o2le _ _ (lhO_le hq) (fun q td hq => o2le _ _ (skt _ _ _ (by decide) hq) (fun q td hq => fgO_le hq)))
  · split
    · exact o2le _ _ (wd _ _ _ (by decide) (sk 118 q (by decide) hq (by assumption))) (fun q td hq => fgO_le hq)
    · split
      · exact o2le _ _ (wd _ _ _ (by decide) (sk 117 q (by decide) hq (by assumption))) (fun q td hq => fgO_le hq)
      · split
        · exact o2le _ _ (wd _ _ _ (by decide) (sk 97 q (by decide) hq (by assumption))) (fun q td hq => fgO_le hq)
        · split
          · exact wd _ _ _ (by decide) (sk 110 q (by decide) hq (by assumption))
          · split
            · have h1 := sk 99 q (by decide) hq (by assumption)
              split
              · exact wd _ _ _ (by decide) (sk 108 _ (by decide) h1 (by assumption))
              · split
                · have h2 := sk 97 _ (by decide) h1 (by assumption)
                  split
                  · exact o2le _ _ (wd _ _ _ (by decide) (sk 108 _ (by decide) h2 (by assumption))) (fun q td hq => fgO_le hq)
                  · exact o2le _ _ (wd _ _ _ (by decide) h2) (fun q td hq => o2le _ _ (fgO_le hq) (fun q td hq => o2le _ _ (skt _ _ _ (by decide) hq) (fun q td hq => fgO_le hq)))
                · exact h1
            · exact hq

set_option maxHeartbeats 1000000 in
set_option maxRecDepth 100000 in
theorem c_X8_isText (l : Launch) (D : va_G) (cA : Nat → ClassId) (AE : Nat → Prop) (adK adV sa : Nat → Nat) (A : Nat → Nat) (x : Nat → Int32) (f : Nat → Nat → Int32) (ln : Nat) (hA : mInj A) (hl7 : x 7 = nI ln) (hl60 : ln ≤ 60) (hFA : ∀ q, (MA A) q → AE q) : Met l yX8_isText (gw yX8_isText cX8_isText 1 (some .boolean)) ({ frames := 6, cells := 0, slots := 0, locals := 164 } : Room) (gPx [.ref (A 0)] (fun H => va_P D vwCl (mw cA A x f) H) D cA AE adK adV sa) (wrI (fun r H => r = b2i (itR (f 4) ln (f 8)).1 ∧ va_P D vwCl (mw cA A (upd (upd x 10 (nI (itR (f 4) ln (f 8)).2.1)) 11 (nI (itR (f 4) ln (f 8)).2.2.1)) (va_up f 8 (itR (f 4) ln (f 8)).2.2.2)) H) (MA A)) 0 0 (MA A) := by
  refine gOfx (by decide) (Nat.le_of_ble_eq_true rfl) ?_
  intro p e s m below meth c ls hx hb hml hr hlk hown hts hnm hP hK hE hl
  have hl : lv_has ls 1 [(0, .ref (A 0))] := hl
  have hD : va_D (MA A) (mw cA A x f) := mD hA
  have hS : va_S (MA A) s.heap s.heap [] := va_S.rf
  refine lv_aload_n hx hb dX8_isText_0 rfl (lv_at hl 0 rfl) ?_
  refine lv_iconst (v := nI (0)) hx hb dX8_isText_1 gc_0 ?_
  refine g_put (ws' := mw cA A (upd (x) 10 (nI (0))) (f)) hx hb hts hown hK hP hD hS 0 rfl rfl gu_wsX80 tyX8_ok nmX8 18 (by decide) gm_45_17 rfl rfl rfl (Nat.le_of_ble_eq_true rfl) rfl dX8_isText_2 (fun H locs hP hD hS => ?_)
  refine lv_aload_n hx hb dX8_isText_5 rfl (lv_at hl 0 rfl) ?_
  refine lv_iconst (v := nI (0)) hx hb dX8_isText_6 gc_0 ?_
  refine g_put (ws' := mw cA A (upd (upd (x) 10 (nI (0))) 11 (nI (0))) (f)) hx hb hts hown hK hP hD hS 0 rfl rfl gu_wsX80 tyX8_ok nmX8 20 (by decide) gm_45_18 rfl rfl rfl (Nat.le_of_ble_eq_true rfl) rfl dX8_isText_7 (fun H locs hP hD hS => ?_)
  have hP : va_P D vwCl (mw cA A (upd (upd (x) 10 (nI ((itS (f 4) ln (f 8) 0).1))) 11 (nI (0))) (va_up (f) 8 ((itS (f 4) ln (f 8) 0).2))) H := by rw [itS_0]; exact hP
  have LP : ∀ (n9 k9 : Nat) (H : Heap) (locs : List Loc), k9 ≤ 16 → 17 ≤ k9 + n9 → fnd (itQ (f 4) ln (f 8)) k9 = none → 5 * k9 ≤ (itS (f 4) ln (f 8) k9).1 → (itS (f 4) ln (f 8) k9).1 ≤ ln → va_P D vwCl (mw cA A (upd (upd (x) 10 (nI ((itS (f 4) ln (f 8) k9).1))) 11 (nI (k9))) (va_up (f) 8 ((itS (f 4) ln (f 8) k9).2))) H → va_S (MA A) s.heap H locs → ∀ (ls : Array Slot), lv_has ls 1 [(0, .ref (A 0))] → W p l e ({ frames := 6, cells := 0, slots := 0, locals := 164 } : Room) s m ([.ref (A 0)] : List Value).toArray below meth c H locs 0 0 (MQ below (wrI (fun r H => r = b2i (itR (f 4) ln (f 8)).1 ∧ va_P D vwCl (mw cA A (upd (upd x 10 (nI (itR (f 4) ln (f 8)).2.1)) 11 (nI (itR (f 4) ln (f 8)).2.2.1)) (va_up f 8 (itR (f 4) ln (f 8)).2.2.2)) H) (MA A)) ([.ref (A 0)] : List Value).toArray s 0 0 (MA A)) (F0 m 10 ls []) := by
    intro n9
    induction n9 with
    | zero => intro k9 H locs h1 h2; exact absurd h2 (by omega)
    | succ n9 ih =>
      intro k9 H locs hk1 hk2 hv h5 hle hP hS ls hl
      have hD : va_D (MA A) (mw cA A (upd (upd (x) 10 (nI ((itS (f 4) ln (f 8) k9).1))) 11 (nI (k9))) (va_up (f) 8 ((itS (f 4) ln (f 8) k9).2))) := mD hA
      refine lv_aload_n hx hb dX8_isText_10 rfl (lv_at hl 0 rfl) ?_
      refine wr_calli (va_runV (As := []) (rest := []) ⟨hx, hb, hml, hown, hts⟩ (c_X8_orderHere l D cA AE adK adV sa A (upd (upd (x) 10 (nI ((itS (f 4) ln (f 8) k9).1))) 11 (nI (k9))) (va_up (f) 8 ((itS (f 4) ln (f 8) k9).2)) (k9) (ln) ((itS (f 4) ln (f 8) k9).1) hA hl7 (by rfl) (by omega) (by omega) (by rfl) (by omega) hFA) (cwV 0 hts (gWV gm_45_23 gm_46_0 gm_46_1 gm_1_5 gm_46_2) rfl rfl rfl (by decide +kernel) ⟨Nat.le_of_ble_eq_true rfl, Nat.le_of_ble_eq_true rfl⟩) (gPreVx hK hE hS hFA (g_rf hK hP (ci := 10) (q0 := 0) rfl rfl) hP) rfl rfl hl.1 rfl (lv_room (Nat.le_of_ble_eq_true rfl)) dX8_isText_11 ⟨by omega, by omega⟩) hS (fun q _ h => h) (fun q h => h) (fun r H locs hw9 hz9 hk9 hS => ?_)
      obtain ⟨rfl, hP⟩ := hw9
      have hP : va_P D vwCl (mw cA A (upd (upd (x) 10 (nI ((itH (f 4) ln (f 8) k9).2.1))) 11 (nI (k9))) (va_up (f) 8 ((itH (f 4) ln (f 8) k9).2.2))) H := hP
      have hD : va_D (MA A) (mw cA A (upd (upd (x) 10 (nI ((itH (f 4) ln (f 8) k9).2.1))) 11 (nI (k9))) (va_up (f) 8 ((itH (f 4) ln (f 8) k9).2.2))) := mD hA
      have hxb_1 : (itH (f 4) ln (f 8) k9).2.1 ≤ ln := ohM_le (by omega)
      refine g_if_ne (P := (itH (f 4) ln (f 8) k9).1 = false) (tgt := 19) hx hb dX8_isText_14 (by decide) b2i_0 (fun c_2 => ?_) (fun c_2 => ?_)
      · have c_2 : (itH (f 4) ln (f 8) k9).1 = true := eq_true_of_ne_false c_2
        refine lv_aload_n hx hb dX8_isText_19 rfl (lv_at hl 0 rfl) ?_
        refine lv_dup hx hb dX8_isText_20 rfl ?_
        refine g_get (v := .int (nI (k9))) hx hb hts hown hK hP 0 rfl rfl gu_wsX80 20 (by decide) gm_45_18 rfl dX8_isText_21 ?_
        refine lv_iconst (v := nI (1)) hx hb dX8_isText_24 gc_1 ?_
        refine g_iadd hx hb dX8_isText_25 ?_
        refine g_put (ws' := mw cA A (upd (upd (x) 10 (nI ((itH (f 4) ln (f 8) k9).2.1))) 11 (nI (k9 + 1))) (va_up (f) 8 ((itH (f 4) ln (f 8) k9).2.2))) hx hb hts hown hK hP hD hS 0 rfl rfl gu_wsX80 tyX8_ok nmX8 20 (by decide) gm_45_18 rfl rfl rfl (Nat.le_of_ble_eq_true rfl) rfl dX8_isText_26 (fun H locs hP hD hS => ?_)
        refine lv_aload_n hx hb dX8_isText_29 rfl (lv_at hl 0 rfl) ?_
        refine lv_bipush (v := nI (59)) hx hb dX8_isText_30 gb_59 ?_
        refine wr_calli (va_runV (As := [.int (nI (59))]) (rest := []) ⟨hx, hb, hml, hown, hts⟩ (c_X8_skips l D cA A (upd (upd (x) 10 (nI ((itH (f 4) ln (f 8) k9).2.1))) 11 (nI (k9 + 1))) (va_up (f) 8 ((itH (f 4) ln (f 8) k9).2.2)) (59) (ln) ((itH (f 4) ln (f 8) k9).2.1) hA hl7 (by rfl) (by omega) (by omega) (by omega)) (cwV 1 hts (gWV gm_46_3 gm_46_4 gm_46_5 gm_1_5 gm_46_6) rfl rfl rfl (by decide +kernel) ⟨Nat.le_of_ble_eq_true rfl, Nat.le_of_ble_eq_true rfl⟩) (gPreV hK (g_rf hK hP (ci := 10) (q0 := 0) rfl rfl) hP) rfl rfl hl.1 rfl (lv_room (Nat.le_of_ble_eq_true rfl)) dX8_isText_32 ⟨by omega, by omega⟩) hS (fun q _ h => h) (fun q h => h) (fun r H locs hw9 hz9 hk9 hS => ?_)
        obtain ⟨rfl, hP⟩ := hw9
        have hP : va_P D vwCl (mw cA A (upd (upd (x) 10 (nI ((skO (f 4) (ln) ((itH (f 4) ln (f 8) k9).2.1) (59)).2))) 11 (nI (k9 + 1))) (va_up (f) 8 ((itH (f 4) ln (f 8) k9).2.2))) H := hP
        have hD : va_D (MA A) (mw cA A (upd (upd (x) 10 (nI ((skO (f 4) (ln) ((itH (f 4) ln (f 8) k9).2.1) (59)).2))) 11 (nI (k9 + 1))) (va_up (f) 8 ((itH (f 4) ln (f 8) k9).2.2))) := mD hA
        have hxb_3 : (skO (f 4) (ln) ((itH (f 4) ln (f 8) k9).2.1) (59)).2 ≤ ln := skO_le (by omega) (by omega)
        refine g_if_ne (P := (skO (f 4) (ln) ((itH (f 4) ln (f 8) k9).2.1) (59)).1 = false) (tgt := 10) hx hb dX8_isText_35 (by decide) b2i_0 (fun c_4 => ?_) (fun c_4 => ?_)
        · have c_4 : (skO (f 4) (ln) ((itH (f 4) ln (f 8) k9).2.1) (59)).1 = true := eq_true_of_ne_false c_4
          have hxb_5 : (itH (f 4) ln (f 8) k9).2.1 + 1 ≤ ln := Nat.le_trans (Nat.le_of_eq (skO_t c_4).symm) hxb_3
          rw [skO_t c_4] at hP
          have hP : va_P D vwCl (mw cA A (upd (upd (x) 10 (nI ((itH (f 4) ln (f 8) k9).2.1 + 1))) 11 (nI (k9 + 1))) (va_up (f) 8 ((itH (f 4) ln (f 8) k9).2.2))) H := hP
          have hD : va_D (MA A) (mw cA A (upd (upd (x) 10 (nI ((itH (f 4) ln (f 8) k9).2.1 + 1))) 11 (nI (k9 + 1))) (va_up (f) 8 ((itH (f 4) ln (f 8) k9).2.2))) := mD hA
          have hP : va_P D vwCl (mw cA A (upd (upd (x) 10 (nI ((itS (f 4) ln (f 8) (k9 + 1)).1))) 11 (nI (k9 + 1))) (va_up (f) 8 ((itS (f 4) ln (f 8) (k9 + 1)).2))) H := by rw [itS_1]; exact hP
          exact ih (k9 + 1) H locs (by omega) (by omega) (fnd_succ_none hv (itQ_g c_2 c_4)) (by rw [itS_1]; show 5 * (k9 + 1) ≤ (itH (f 4) ln (f 8) k9).2.1 + 1; have h4 := ohM_4 (show (ohM (f 4) ln (itS (f 4) ln (f 8) k9).1 (itS (f 4) ln (f 8) k9).2 (3 * k9)).1 = true from c_2); have h4 : (itS (f 4) ln (f 8) k9).1 + 4 ≤ (itH (f 4) ln (f 8) k9).2.1 := h4; omega) (by rw [itS_1]; omega) hP hS ls (lv_sub hl [0] rfl)
        · have hxb_6 : (itH (f 4) ln (f 8) k9).2.1 ≤ ln := Nat.le_trans (Nat.le_of_eq (skO_f c_4).symm) hxb_3
          rw [skO_f c_4] at hP
          have hP : va_P D vwCl (mw cA A (upd (upd (x) 10 (nI ((itH (f 4) ln (f 8) k9).2.1))) 11 (nI (k9 + 1))) (va_up (f) 8 ((itH (f 4) ln (f 8) k9).2.2))) H := hP
          have hD : va_D (MA A) (mw cA A (upd (upd (x) 10 (nI ((itH (f 4) ln (f 8) k9).2.1))) 11 (nI (k9 + 1))) (va_up (f) 8 ((itH (f 4) ln (f 8) k9).2.2))) := mD hA
          refine lv_aload_n hx hb dX8_isText_38 rfl (lv_at hl 0 rfl) ?_
          refine g_get (v := .int (nI ((itH (f 4) ln (f 8) k9).2.1))) hx hb hts hown hK hP 0 rfl rfl gu_wsX80 18 (by decide) gm_45_17 rfl dX8_isText_39 ?_
          refine lv_aload_n hx hb dX8_isText_42 rfl (lv_at hl 0 rfl) ?_
          refine g_get (v := .int (x 7)) hx hb hts hown hK hP 0 rfl rfl gu_wsX80 12 (by decide) gm_39_10 rfl dX8_isText_43 ?_
          refine g_top hl7 ?_
          refine g_icmp_ne (P := (itH (f 4) ln (f 8) k9).2.1 = ln) (tgt := 53) hx hb dX8_isText_46 (by decide) (nI_eq (by omega) (by omega)) (fun c_7 => ?_) (fun c_7 => ?_)
          · refine lv_iconst (v := nI (0)) hx hb dX8_isText_53 gc_0 ?_
            exact g_zretW (v := nI (0)) hx hb hr hlk rfl hS dX8_isText_54 (by rw [itR_at hv (itQ_s c_4) (by omega), itX_t c_2]; exact ⟨by rw [decide_eq_false c_7]; rfl, hP⟩)
          · refine lv_iconst (v := nI (1)) hx hb dX8_isText_49 gc_1 ?_
            refine lv_goto (tgt := 54) hx hb dX8_isText_50 (by decide) ?_
            exact g_zretW (v := nI (1)) hx hb hr hlk rfl hS dX8_isText_54 (by rw [itR_at hv (itQ_s c_4) (by omega), itX_t c_2]; exact ⟨by rw [decide_eq_true c_7]; rfl, hP⟩)
      · refine lv_iconst (v := nI (0)) hx hb dX8_isText_17 gc_0 ?_
        exact g_zretW (v := nI (0)) hx hb hr hlk rfl hS dX8_isText_18 (by rw [itR_at hv (itQ_f c_2) (by omega), itX_f c_2]; exact ⟨rfl, hP⟩)
  exact LP 17 0 H locs (by omega) (by omega) rfl (by omega) (by rw [itS_0]; exact Nat.zero_le _) hP hS ls (lv_sub hl [0] rfl)

