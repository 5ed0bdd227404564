abbrev CS : Type := (Nat → Nat → Int32) × (Nat × ((Nat → Nat → Int32) × ((Nat → Nat) × (Nat × (Nat × (Nat × (Nat × Int32)))))))
def zJ (z : CS) : Nat → Nat → Int32 := z.1
def zjn (z : CS) : Nat := z.2.1
def zK (z : CS) : Nat → Nat → Int32 := z.2.2.1
def zrw (z : CS) : Nat → Nat := z.2.2.2.1
def zcn (z : CS) : Nat := z.2.2.2.2.1
def zrl (z : CS) : Nat := z.2.2.2.2.2.1
def zck (z : CS) : Nat := z.2.2.2.2.2.2.1
def ztn (z : CS) : Nat := z.2.2.2.2.2.2.2.1
def zsd (z : CS) : Int32 := z.2.2.2.2.2.2.2.2
def cz (cA : Nat → ClassId) (A : Nat → Nat) (z : CS) : va_W := cw cA A (zJ z) (zjn z) (zK z) (zrw z) (zcn z) (zrl z) (zck z) (ztn z) (zsd z)
def mkz (jf : Nat → Nat → Int32) (jn : Nat) (kf : Nat → Nat → Int32) (rw : Nat → Nat) (cn rl clk ton : Nat) (sd : Int32) : CS := (jf, (jn, (kf, (rw, (cn, (rl, (clk, (ton, sd))))))))
/-- a juror comes -/
def zAddJ (z : CS) (a b : Int32) : CS := mkz (va_up (va_up (va_up (va_up (zJ z) 0 (upd (zJ z 0) (zjn z) a)) 1 (upd (zJ z 1) (zjn z) b)) 2 (upd (zJ z 2) (zjn z) (nI 0))) 3 (upd (zJ z 3) (zjn z) (nI 0))) (zjn z + 1) (zK z) (zrw z) (zcn z) (zrl z) (zck z) (ztn z) (zsd z)
def zAddK (z : CS) (a b : Int32) : CS := mkz (zJ z) (zjn z) (va_up (va_up (va_up (va_up (va_up (va_up (va_up (va_up (zK z) 0 (upd (zK z 0) (zcn z) a)) 1 (upd (zK z 1) (zcn z) b)) 2 (upd (zK z 2) (zcn z) (nI 0))) 3 (upd (zK z 3) (zcn z) (nI 0))) 4 (upd (zK z 4) (zcn z) (-1))) 5 (upd (zK z 5) (zcn z) (-1))) 6 (upd (zK z 6) (zcn z) (nI 0))) 7 (upd (zK z 7) (zcn z) (nI 0))) (zrw z) (zcn z + 1) (zrl z) (zck z) (ztn z) (zsd z)
def cpS (d : Nat → Int32) (kf : Nat → Nat → Int32) (jn cn : Nat) : Nat → Int32
  | 0 => nI 0
  | k + 1 => match fcF d kf jn cn (cpS d kf jn cn k) with
    | none => cpS d kf jn cn k ||| nI 0
    | some j => cpS d kf jn cn k ||| (nI 1 <<< (nI j &&& 31))
theorem cpS_none {d : Nat → Int32} {kf : Nat → Nat → Int32} {jn cn k : Nat} (h : fcF d kf jn cn (cpS d kf jn cn k) = none) : cpS d kf jn cn (k + 1) = cpS d kf jn cn k ||| nI 0 := by
  show (match fcF d kf jn cn (cpS d kf jn cn k) with | none => _ | some j => _) = _
  rw [h]
theorem cpS_some {d : Nat → Int32} {kf : Nat → Nat → Int32} {jn cn k j : Nat} (h : fcF d kf jn cn (cpS d kf jn cn k) = some j) : cpS d kf jn cn (k + 1) = cpS d kf jn cn k ||| (nI 1 <<< (nI j &&& 31)) := by
  show (match fcF d kf jn cn (cpS d kf jn cn k) with | none => _ | some j => _) = _
  rw [h]
def zPan (z : CS) : Int32 := cpS (zJ z 1) (zK z) (zjn z) (zcn z) 3
def zCall (z : CS) (q : Nat) : CS := mkz (zJ z) (zjn z) (va_up (zK z) 2 (upd (zK z 2) q (zPan z))) (enO (va_up (zK z) 2 (upd (zK z 2) q (zPan z))) (zrw z) (zrl z) q) (zcn z) (zrl z + 1) (zck z) (ztn z) (zsd z)
def zVd (z : CS) (q : Nat) : Nat := vdF (zJ z 0) (zJ z 1) (zjn z) (zK z 2 q) (zK z 0 q)
def zTv (z : CS) (q : Nat) : T3 := tvS (zK z 2 q) (zK z 0 q) (zVd z q) (zJ z 0) (zJ z 1, (zJ z 2, zJ z 3)) (zjn z)
def zSay (z : CS) (q : Nat) : CS := mkz (va_up (va_up (va_up (zJ z) 1 (zTv z q).1) 2 (zTv z q).2.1) 3 (zTv z q).2.2) (zjn z) (va_up (va_up (zK z) 3 (upd (zK z 3) q (nI (zVd z q)))) 4 (upd (zK z 4) q (nI (ztn z)))) (stO (zrw z) (zrl z) q).1 (zcn z) (stO (zrw z) (zrl z) q).2 (zck z) (ztn z) (zsd z + nI 1)
def zUnK (z : CS) (q : Nat) : Nat → Nat → Int32 := va_up (va_up (va_up (zK z) 3 (upd (zK z 3) q (nI 0))) 4 (upd (zK z 4) q (-1))) 6 (upd (zK z 6) q (zK z 6 q + nI 1))
def zTo (z : CS) (q : Nat) : Nat × (Nat → Int32) := toS (zK z 2 q) (zK z 0 q) (zJ z 1) (zJ z 0) (zjn z)
def zUns (z : CS) (q : Nat) : CS := mkz (va_up (zJ z) 0 (zTo z q).2) (zjn z) (zUnK z q) (enO (zUnK z q) (zrw z) (zrl z) q) (zcn z) (zrl z + 1) (zck z) (ztn z) (zsd z)
def zOut (z : CS) (q : Nat) : Option Nat := dbF (zJ z 1) (zjn z) (zK z 2 q)
def zIn (z : CS) (q : Nat) : Option Nat := fcF (zJ z 1) (zK z) (zjn z) (zcn z) (zK z 2 q)
def zApP (z : CS) (q : Nat) : Int32 := match zOut z q, zIn z q with
  | some a, some b => ((zK z 2 q &&& ((nI 1 <<< (nI a &&& 31)) ^^^ -1)) ||| (nI 1 <<< (nI b &&& 31)))
  | _, _ => zK z 2 q
def zApK (z : CS) (q : Nat) : Nat → Nat → Int32 := va_up (va_up (va_up (zK z) 2 (upd (zK z 2) q (zApP z q))) 1 (upd (zK z 1) q (if nI 99 < zK z 1 q + nI 3 then nI 99 else zK z 1 q + nI 3))) 7 (upd (zK z 7) q (zK z 7 q + nI 1))
def zAp (z : CS) (q : Nat) : CS := mkz (zJ z) (zjn z) (zApK z q) (zrw z) (zcn z) (zrl z) (zck z) (ztn z) (zsd z)
def zNi (z : CS) : CS := mkz (zJ z) (zjn z) (va_up (zK z) 5 (crS (zK z) (nI (ztn z + 1)) (zcn z))) (zrw z) (zcn z) (zrl z) (zck z) (ztn z + 1) (zsd z)
def zNs (z : CS) : Nat → CS
  | 0 => zNi z
  | k + 1 => zSay (zNs z k) (zrw (zNs z k) 0)
def zTk (z : CS) : Nat := if zrl z < zck z then zrl z else zck z
/-- the court's rows are in their bounds -/
def zOk (z : CS) : Prop := zjn z ≤ 9 ∧ zcn z ≤ 10 ∧ zrl z ≤ 10 ∧ (∀ k, k < zrl z → zrw z k < 10) ∧ zck z ≤ 4 ∧ ztn z ≤ 99
theorem fnd_0 {rw : Nat → Nat} {rl : Nat} (h : 0 < rl) : fnd (fun j => decide (rw j = rw 0)) rl = some 0 := fnd_stop (n := 0) rfl (by simp) rl h
theorem stO_le {rw : Nat → Nat} {rl q n : Nat} (h : ∀ k, k < rl → rw k < n) : (stO rw rl q).2 ≤ rl ∧ ∀ k, k < (stO rw rl q).2 → (stO rw rl q).1 k < n := by
  cases e : fnd (fun j => decide (rw j = q)) rl with
  | none => rw [stO_none e]; exact ⟨Nat.le_refl _, h⟩
  | some p =>
    have hp := fnd_lt e
    rw [stO_some e]
    exact ⟨Nat.sub_le _ _, fun k hk => stS_lt h _ (by omega) k (by have : k < rl - 1 := hk; omega)⟩
theorem stO_0 {rw : Nat → Nat} {rl : Nat} (h : 0 < rl) : (stO rw rl (rw 0)).2 = rl - 1 := by rw [stO_some (fnd_0 h)]
theorem zSay_ok {z : CS} {q : Nat} (h : zOk z) : zOk (zSay z q) := by
  obtain ⟨h1, h2, h3, h4, h5, h6⟩ := h
  have hs := stO_le (q := q) h4
  exact ⟨h1, h2, Nat.le_trans hs.1 h3, hs.2, h5, h6⟩
theorem zNi_ok {z : CS} (h : zOk z) (ht : ztn z < 99) : zOk (zNi z) := by
  obtain ⟨h1, h2, h3, h4, h5, h6⟩ := h
  exact ⟨h1, h2, h3, h4, h5, ht⟩
theorem zNs_ok {z : CS} (h : zOk z) (ht : ztn z < 99) : ∀ k, zOk (zNs z k)
  | 0 => zNi_ok h ht
  | k + 1 => zSay_ok (zNs_ok h ht k)
theorem zNs_rl {z : CS} : ∀ k, k ≤ zrl z → zrl (zNs z k) = zrl z - k
  | 0, _ => rfl
  | k + 1, h => by
    have ih := zNs_rl (z := z) k (by omega)
    show (stO (zrw (zNs z k)) (zrl (zNs z k)) (zrw (zNs z k) 0)).2 = _
    rw [stO_0 (by omega), ih]
    omega
theorem zNs_ck {z : CS} : ∀ k, zck (zNs z k) = zck z
  | 0 => rfl
  | k + 1 => zNs_ck k
theorem zNs_tn {z : CS} : ∀ k, ztn (zNs z k) = ztn z + 1
  | 0 => rfl
  | k + 1 => zNs_tn k
theorem zNs_jn {z : CS} : ∀ k, zjn (zNs z k) = zjn z
  | 0 => rfl
  | k + 1 => zNs_jn k
theorem zNs_cn {z : CS} : ∀ k, zcn (zNs z k) = zcn z
  | 0 => rfl
  | k + 1 => zNs_cn k

set_option maxHeartbeats 1000000 in
set_option maxRecDepth 100000 in
theorem c_X1_callPanel (l : Launch) (D : va_G) (cA : Nat → ClassId) (A : Nat → Nat) (jf : Nat → Nat → Int32) (jn : Nat) (kf : Nat → Nat → Int32) (rw : Nat → Nat) (cn rl clk ton : Nat) (sd : Int32) (q : Nat) (hA : aInj 16 A) (hjn : jn ≤ 9) (hcn : cn ≤ 10) (hr9 : rl ≤ 9) (hrw : ∀ k, k < rl → rw k < 10) (hq : q < 10) : Met l yX1_callPanel (gw yX1_callPanel cX1_callPanel 5 (some .int)) ({ frames := 3, cells := 0, slots := 0, locals := 70 } : Room) (gPc [.ref (A 0), .int (nI (q))] (fun H => va_P D vwCl (cw cA A (jf) (jn) (kf) (rw) (cn) (rl) (clk) (ton) (sd)) H) D cA) (wrI (fun r H => r = zPan (mkz jf jn kf rw cn rl clk ton sd) ∧ va_P D vwCl (cz cA A (zCall (mkz jf jn kf rw cn rl clk ton sd) q)) H) (aS 16 A)) 0 0 (aS 16 A) := by
  refine gOf (by decide) (Nat.le_of_ble_eq_true rfl) ?_
  intro p e s m below meth c ls hx hb hml hr hlk hown hts hnm hP hK hl
  have hl : lv_has ls 5 [(0, .ref (A 0)), (1, .int (nI (q)))] := hl
  have hD : va_D (aS 16 A) (cw cA A (jf) (jn) (kf) (rw) (cn) (rl) (clk) (ton) (sd)) := cwD hA
  have hS : va_S (aS 16 A) s.heap s.heap [] := va_S.rf
  refine lv_iconst (v := nI (0)) hx hb dX1_callPanel_0 gc_0 ?_
  refine lv_istore_n (lv' := [(2, .int (nI (0))), (0, .ref (A 0)), (1, .int (nI (q)))]) hx hb dX1_callPanel_1 rfl hl (by decide) rfl (fun ls hl => ?_)
  refine lv_iconst (v := nI (0)) hx hb dX1_callPanel_2 gc_0 ?_
  refine lv_istore_n (lv' := [(3, .int (nI (0))), (2, .int (nI (0))), (0, .ref (A 0)), (1, .int (nI (q)))]) hx hb dX1_callPanel_3 rfl hl (by decide) rfl (fun ls hl => ?_)
  have LP_5 : ∀ (n_2 i_1 : Nat) (x_3 : Int32) (x_4 : Int32), i_1 ≤ 3 → 3 + 1 ≤ i_1 + n_2 → x_3 = nI (i_1) → x_4 = cpS (jf 1) kf jn cn i_1 → ∀ (ls : Array Slot), lv_has ls 5 [(3, .int (x_3)), (2, .int (x_4)), (0, .ref (A 0)), (1, .int (nI (q)))] → W p l e ({ frames := 3, cells := 0, slots := 0, locals := 70 } : Room) s m ([.ref (A 0), .int (nI (q))] : List Value).toArray below meth c s.heap [] 0 0 (MQ below (wrI (fun r H => r = zPan (mkz jf jn kf rw cn rl clk ton sd) ∧ va_P D vwCl (cz cA A (zCall (mkz jf jn kf rw cn rl clk ton sd) q)) H) (aS 16 A)) ([.ref (A 0), .int (nI (q))] : List Value).toArray s 0 0 (aS 16 A)) (F0 m 4 ls []) := by
    intro n_2
    induction n_2 with
    | zero => intro i_1 x_3 x_4 h1 h2; exact absurd h2 (by omega)
    | succ n_2 ih_8 =>
      intro i_1 x_3 x_4 h_9 h_10 e_6 e_7  ls hl
      subst e_6
      subst e_7
      refine lv_iload_n hx hb dX1_callPanel_4 rfl (lv_at hl 0 rfl) ?_
      refine lv_iconst (v := nI (3)) hx hb dX1_callPanel_5 gc_3 ?_
      refine g_icmp_ge (P := 3 ≤ i_1) (tgt := 39) hx hb dX1_callPanel_6 (by decide) (nI_leI (by omega) (by omega)) (fun c_11 => ?_) (fun c_11 => ?_)
      · have d_11 : ¬ i_1 < 3 := Nat.not_lt.mpr c_11
        have hN_12 : 3 = i_1 := by omega
        subst hN_12
        refine lv_aload_n hx hb dX1_callPanel_39 rfl (lv_at hl 2 rfl) ?_
        refine g_get (v := .ref (A 6)) hx hb hts hown hK hP 0 rfl rfl gu_wsX10 1 (by decide) gm_3_1 rfl dX1_callPanel_40 ?_
        refine g_get (v := .ref (A 9)) hx hb hts hown hK hP 6 rfl rfl gu_wsX00 2 (by decide) gm_12_15 rfl dX1_callPanel_43 ?_
        refine lv_iload_n hx hb dX1_callPanel_46 rfl (lv_at hl 3 rfl) ?_
        refine lv_iload_n hx hb dX1_callPanel_47 rfl (lv_at hl 1 rfl) ?_
        refine g_iast (ws' := cw cA A (jf) (jn) (va_up (kf) 2 (upd (kf 2) (q) (cpS (jf 1) kf jn cn (3)))) (rw) (cn) (rl) (clk) (ton) (sd)) hx hb hK hP hD hS 9 rfl (by omega) (by decide) (by first | rfl | (rw [updN_nI]; rfl)) dX1_callPanel_48 (fun H locs hP hD hS => ?_)
        refine lv_aload_n hx hb dX1_callPanel_49 rfl (lv_at hl 2 rfl) ?_
        refine g_get (v := .ref (A 6)) hx hb hts hown hK hP 0 rfl rfl gu_wsX10 1 (by decide) gm_3_1 rfl dX1_callPanel_50 ?_
        refine lv_iload_n hx hb dX1_callPanel_53 rfl (lv_at hl 3 rfl) ?_
        refine wr_callv (va_runV (As := [.int (nI (q))]) (rest := []) ⟨hx, hb, hml, hown, hts⟩ (c_X0_enroll l D cA (fun k => A (k + 6)) (va_up (kf) 2 (upd (kf 2) (q) (cpS (jf 1) kf jn cn (3)))) (rw) (cn) (rl) (q) (aInj_s hA 6 (by decide)) (by omega) hrw (by omega)) (cwV 1 hts (gWV gm_13_11 gm_13_12 gm_13_13 gm_3_0 gm_13_14) rfl rfl rfl (by decide +kernel) ⟨Nat.le_of_ble_eq_true rfl, Nat.le_of_ble_eq_true rfl⟩) (gPreV hK (g_rf hK hP (ci := 2) (q0 := 6) rfl rfl) (hP.sub [6, 7, 8, 9, 10, 11, 12, 13, 14, 15] rfl)) rfl rfl hl.1 rfl (lv_room (Nat.le_of_ble_eq_true rfl)) dX1_callPanel_54 ⟨by omega, by omega⟩) hS (fun q _ h => aS_up (m := 10) (a := 6) (by decide) h) (fun q h => aS_up (m := 10) (a := 6) (by decide) h) (fun H locs hPn hz9 hk9 hS => ?_)
        have hP : va_P D vwCl (cw cA A (jf) (jn) (va_up (kf) 2 (upd (kf 2) (q) (cpS (jf 1) kf jn cn (3)))) (enO (va_up (kf) 2 (upd (kf 2) (q) (cpS (jf 1) kf jn cn (3)))) rw rl (q)) (cn) (rl + 1) (clk) (ton) (sd)) H := cw_K hA hP hPn hk9
        have hD : va_D (aS 16 A) (cw cA A (jf) (jn) (va_up (kf) 2 (upd (kf 2) (q) (cpS (jf 1) kf jn cn (3)))) (enO (va_up (kf) 2 (upd (kf 2) (q) (cpS (jf 1) kf jn cn (3)))) rw rl (q)) (cn) (rl + 1) (clk) (ton) (sd)) := cwD hA
        refine lv_iload_n hx hb dX1_callPanel_57 rfl (lv_at hl 1 rfl) ?_
        exact g_iretW (v := cpS (jf 1) kf jn cn (3)) hx hb hr hlk hS dX1_callPanel_58 (⟨rfl, hP⟩)
      · have d_11 : i_1 < 3 := Nat.not_le.mp c_11
        refine lv_aload_n hx hb dX1_callPanel_9 rfl (lv_at hl 2 rfl) ?_
        refine lv_iload_n hx hb dX1_callPanel_10 rfl (lv_at hl 1 rfl) ?_
        refine rd_calle (va_runV (As := [.int (cpS (jf 1) kf jn cn i_1)]) (rest := []) ⟨hx, hb, hml, hown, hts⟩ (c_X1_firstCallable l D cA A (jf) (jn) (kf) (rw) (cn) (rl) (clk) (ton) (sd) (cpS (jf 1) kf jn cn i_1)  hjn hcn) (cwV 1 hts (gWV gm_13_6 gm_13_7 gm_13_8 gm_1_16 gm_13_9) rfl rfl rfl (by decide +kernel) ⟨Nat.le_of_ble_eq_true rfl, Nat.le_of_ble_eq_true rfl⟩) (gPreV hK (g_rf hK hP (ci := 3) (q0 := 0) rfl rfl) hP) rfl rfl hl.1 rfl (lv_room (Nat.le_of_ble_eq_true rfl)) dX1_callPanel_11 ⟨by omega, by omega⟩) ?_
        refine lv_istore (lv' := [(4, .int (oI (fcF (jf 1) kf jn cn (cpS (jf 1) kf jn cn i_1)))), (3, .int (nI (i_1))), (2, .int (cpS (jf 1) kf jn cn i_1)), (0, .ref (A 0)), (1, .int (nI (q)))]) hx hb dX1_callPanel_14 hl (by decide) rfl (fun ls hl => ?_)
        refine lv_iload_n hx hb dX1_callPanel_16 rfl (lv_at hl 2 rfl) ?_
        refine lv_iload hx hb dX1_callPanel_17 (lv_at hl 0 rfl) ?_
        refine lv_iconst (v := -1) hx hb dX1_callPanel_19 gc_m1 ?_
        refine g_icmp_ne (P := fcF (jf 1) kf jn cn (cpS (jf 1) kf jn cn i_1) = none) (tgt := 27) hx hb dX1_callPanel_20 (by decide) (oI_m1 (fun b q => by have := fcF_lt _ _ q; omega)) (fun c_13 => ?_) (fun c_13 => ?_)
        · obtain ⟨b_14, eb_15⟩ := o_some c_13
          have hb_16 := fcF_lt _ _ eb_15
          rw [eb_15] at hl
          have hl : lv_has ls 5 [(4, .int (nI (b_14))), (3, .int (nI (i_1))), (2, .int (cpS (jf 1) kf jn cn i_1)), (0, .ref (A 0)), (1, .int (nI (q)))] := hl
          refine lv_iconst (v := nI (1)) hx hb dX1_callPanel_27 gc_1 ?_
          refine lv_iload hx hb dX1_callPanel_28 (lv_at hl 0 rfl) ?_
          refine lv_ishl hx hb dX1_callPanel_30 ?_
          refine lv_ior hx hb dX1_callPanel_31 ?_
          refine lv_istore_n (lv' := [(2, .int ((cpS (jf 1) kf jn cn i_1) ||| ((nI (1)) <<< ((nI (b_14)) &&& 31)))), (4, .int (nI (b_14))), (3, .int (nI (i_1))), (0, .ref (A 0)), (1, .int (nI (q)))]) hx hb dX1_callPanel_32 rfl hl (by decide) rfl (fun ls hl => ?_)
          refine lv_iinc (v := nI (i_1 + 1)) (lv' := [(3, .int (nI (i_1 + 1))), (2, .int ((cpS (jf 1) kf jn cn i_1) ||| ((nI (1)) <<< ((nI (b_14)) &&& 31)))), (4, .int (nI (b_14))), (0, .ref (A 0)), (1, .int (nI (q)))]) hx hb dX1_callPanel_33 hl (k := 2) rfl (inc_1 _) (by decide) rfl (fun ls hl => ?_)
          refine lv_goto (tgt := 4) hx hb dX1_callPanel_36 (by decide) ?_
          exact ih_8 (i_1 + 1) _ _ (by omega) (by omega) rfl (by rw [cpS_some eb_15])  ls (lv_sub hl [0, 1, 3, 4] rfl)
        · refine lv_iconst (v := nI (0)) hx hb dX1_callPanel_23 gc_0 ?_
          refine lv_goto (tgt := 31) hx hb dX1_callPanel_24 (by decide) ?_
          refine lv_ior hx hb dX1_callPanel_31 ?_
          refine lv_istore_n (lv' := [(2, .int ((cpS (jf 1) kf jn cn i_1) ||| (nI (0)))), (4, .int (oI (fcF (jf 1) kf jn cn (cpS (jf 1) kf jn cn i_1)))), (3, .int (nI (i_1))), (0, .ref (A 0)), (1, .int (nI (q)))]) hx hb dX1_callPanel_32 rfl hl (by decide) rfl (fun ls hl => ?_)
          refine lv_iinc (v := nI (i_1 + 1)) (lv' := [(3, .int (nI (i_1 + 1))), (2, .int ((cpS (jf 1) kf jn cn i_1) ||| (nI (0)))), (4, .int (oI (fcF (jf 1) kf jn cn (cpS (jf 1) kf jn cn i_1)))), (0, .ref (A 0)), (1, .int (nI (q)))]) hx hb dX1_callPanel_33 hl (k := 2) rfl (inc_1 _) (by decide) rfl (fun ls hl => ?_)
          refine lv_goto (tgt := 4) hx hb dX1_callPanel_36 (by decide) ?_
          exact ih_8 (i_1 + 1) _ _ (by omega) (by omega) rfl (by rw [cpS_none c_13])  ls (lv_sub hl [0, 1, 3, 4] rfl)
  exact LP_5 (3 + 1) 0 _ _ (by omega) (by omega) rfl rfl  ls (lv_sub hl [0, 1, 2, 3] rfl)

set_option maxHeartbeats 1000000 in
set_option maxRecDepth 100000 in
theorem c_X1_sayVerdict (l : Launch) (D : va_G) (cA : Nat → ClassId) (A : Nat → Nat) (jf : Nat → Nat → Int32) (jn : Nat) (kf : Nat → Nat → Int32) (rw : Nat → Nat) (cn rl clk ton : Nat) (sd : Int32) (q : Nat) (hA : aInj 16 A) (hjn : jn ≤ 9) (hcn : cn ≤ 10) (hrl : rl ≤ 10) (hrw : ∀ k, k < rl → rw k < 10) (hq : q < 10) : Met l yX1_sayVerdict (gw yX1_sayVerdict cX1_sayVerdict 4 (some .int)) ({ frames := 2, cells := 0, slots := 0, locals := 48 } : Room) (gPc [.ref (A 0), .int (nI (q))] (fun H => va_P D vwCl (cw cA A (jf) (jn) (kf) (rw) (cn) (rl) (clk) (ton) (sd)) H) D cA) (wrI (fun r H => r = nI (zVd (mkz jf jn kf rw cn rl clk ton sd) q) ∧ va_P D vwCl (cz cA A (zSay (mkz jf jn kf rw cn rl clk ton sd) q)) H) (aS 16 A)) 0 0 (aS 16 A) := by
  refine gOf (by decide) (Nat.le_of_ble_eq_true rfl) ?_
  intro p e s m below meth c ls hx hb hml hr hlk hown hts hnm hP hK hl
  have hl : lv_has ls 4 [(0, .ref (A 0)), (1, .int (nI (q)))] := hl
  have hD : va_D (aS 16 A) (cw cA A (jf) (jn) (kf) (rw) (cn) (rl) (clk) (ton) (sd)) := cwD hA
  have hS : va_S (aS 16 A) s.heap s.heap [] := va_S.rf
  refine lv_aload_n hx hb dX1_sayVerdict_0 rfl (lv_at hl 0 rfl) ?_
  refine g_get (v := .ref (A 6)) hx hb hts hown hK hP 0 rfl rfl gu_wsX10 1 (by decide) gm_3_1 rfl dX1_sayVerdict_1 ?_
  refine g_get (v := .ref (A 9)) hx hb hts hown hK hP 6 rfl rfl gu_wsX00 2 (by decide) gm_12_15 rfl dX1_sayVerdict_4 ?_
  refine lv_iload_n hx hb dX1_sayVerdict_7 rfl (lv_at hl 1 rfl) ?_
  refine g_iald (x := kf 2 (q)) hx hb hK hP 9 rfl (by omega) (by decide) rfl dX1_sayVerdict_8 ?_
  refine lv_istore_n (lv' := [(2, .int (kf 2 (q))), (0, .ref (A 0)), (1, .int (nI (q)))]) hx hb dX1_sayVerdict_9 rfl hl (by decide) rfl (fun ls hl => ?_)
  refine lv_aload_n hx hb dX1_sayVerdict_10 rfl (lv_at hl 1 rfl) ?_
  refine g_get (v := .ref (A 1)) hx hb hts hown hK hP 0 rfl rfl gu_wsX10 0 (by decide) gm_2_21 rfl dX1_sayVerdict_11 ?_
  refine lv_iload_n hx hb dX1_sayVerdict_14 rfl (lv_at hl 0 rfl) ?_
  refine lv_aload_n hx hb dX1_sayVerdict_15 rfl (lv_at hl 1 rfl) ?_
  refine g_get (v := .ref (A 6)) hx hb hts hown hK hP 0 rfl rfl gu_wsX10 1 (by decide) gm_3_1 rfl dX1_sayVerdict_16 ?_
  refine g_get (v := .ref (A 7)) hx hb hts hown hK hP 6 rfl rfl gu_wsX00 0 (by decide) gm_16_12 rfl dX1_sayVerdict_19 ?_
  refine lv_iload_n hx hb dX1_sayVerdict_22 rfl (lv_at hl 2 rfl) ?_
  refine g_iald (x := kf 0 (q)) hx hb hK hP 7 rfl (by omega) (by decide) rfl dX1_sayVerdict_23 ?_
  refine rd_calle (va_runV (As := [.int (kf 2 (q)), .int (kf 0 (q))]) (rest := []) ⟨hx, hb, hml, hown, hts⟩ (c_X3_verdictByCount l D cA (fun k => A (k + 1)) (jf) (jn) (kf 2 (q)) (kf 0 (q))  hjn) (cwV 2 hts (gWV gm_16_15 gm_16_16 gm_16_17 gm_2_5 gm_16_18) rfl rfl rfl (by decide +kernel) ⟨Nat.le_of_ble_eq_true rfl, Nat.le_of_ble_eq_true rfl⟩) (gPreV hK (g_rf hK hP (ci := 5) (q0 := 1) rfl rfl) (hP.sub [1, 2, 3, 4, 5] rfl)) rfl rfl hl.1 rfl (lv_room (Nat.le_of_ble_eq_true rfl)) dX1_sayVerdict_24 ⟨by omega, by omega⟩) ?_
  refine lv_istore_n (lv' := [(3, .int (nI (vdF (jf 0) (jf 1) jn (kf 2 (q)) (kf 0 (q))))), (2, .int (kf 2 (q))), (0, .ref (A 0)), (1, .int (nI (q)))]) hx hb dX1_sayVerdict_27 rfl hl (by decide) rfl (fun ls hl => ?_)
  refine lv_aload_n hx hb dX1_sayVerdict_28 rfl (lv_at hl 2 rfl) ?_
  refine g_get (v := .ref (A 1)) hx hb hts hown hK hP 0 rfl rfl gu_wsX10 0 (by decide) gm_2_21 rfl dX1_sayVerdict_29 ?_
  refine lv_iload_n hx hb dX1_sayVerdict_32 rfl (lv_at hl 1 rfl) ?_
  refine lv_aload_n hx hb dX1_sayVerdict_33 rfl (lv_at hl 2 rfl) ?_
  refine g_get (v := .ref (A 6)) hx hb hts hown hK hP 0 rfl rfl gu_wsX10 1 (by decide) gm_3_1 rfl dX1_sayVerdict_34 ?_
  refine g_get (v := .ref (A 7)) hx hb hts hown hK hP 6 rfl rfl gu_wsX00 0 (by decide) gm_16_12 rfl dX1_sayVerdict_37 ?_
  refine lv_iload_n hx hb dX1_sayVerdict_40 rfl (lv_at hl 3 rfl) ?_
  refine g_iald (x := kf 0 (q)) hx hb hK hP 7 rfl (by omega) (by decide) rfl dX1_sayVerdict_41 ?_
  refine lv_iload_n hx hb dX1_sayVerdict_42 rfl (lv_at hl 0 rfl) ?_
  have hle_1 := vdF_le (jf 0) (jf 1) jn (kf 2 q) (kf 0 q)
  refine wr_callv (va_runV (As := [.int (kf 2 (q)), .int (kf 0 (q)), .int (nI (vdF (jf 0) (jf 1) jn (kf 2 (q)) (kf 0 (q))))]) (rest := []) ⟨hx, hb, hml, hown, hts⟩ (c_X3_takeVerdict l D cA (fun k => A (k + 1)) (jf) (jn) (kf 2 (q)) (kf 0 (q)) (vdF (jf 0) (jf 1) jn (kf 2 (q)) (kf 0 (q))) (aInj_s hA 1 (by decide)) hjn (by omega)) (cwV 3 hts (gWV gm_16_23 gm_17_0 gm_17_1 gm_2_5 gm_17_2) rfl rfl rfl (by decide +kernel) ⟨Nat.le_of_ble_eq_true rfl, Nat.le_of_ble_eq_true rfl⟩) (gPreV hK (g_rf hK hP (ci := 5) (q0 := 1) rfl rfl) (hP.sub [1, 2, 3, 4, 5] rfl)) rfl rfl hl.1 rfl (lv_room (Nat.le_of_ble_eq_true rfl)) dX1_sayVerdict_43 ⟨by omega, by omega⟩) hS (fun q _ h => aS_up (m := 5) (a := 1) (by decide) h) (fun q h => aS_up (m := 5) (a := 1) (by decide) h) (fun H locs hPn hz9 hk9 hS => ?_)
  have hP : va_P D vwCl (cw cA A (va_up (va_up (va_up (jf) 1 ((tvS (kf 2 (q)) (kf 0 (q)) (vdF (jf 0) (jf 1) jn (kf 2 (q)) (kf 0 (q))) (jf 0) (jf 1, (jf 2, jf 3)) jn).1)) 2 ((tvS (kf 2 (q)) (kf 0 (q)) (vdF (jf 0) (jf 1) jn (kf 2 (q)) (kf 0 (q))) (jf 0) (jf 1, (jf 2, jf 3)) jn).2.1)) 3 ((tvS (kf 2 (q)) (kf 0 (q)) (vdF (jf 0) (jf 1) jn (kf 2 (q)) (kf 0 (q))) (jf 0) (jf 1, (jf 2, jf 3)) jn).2.2)) (jn) (kf) (rw) (cn) (rl) (clk) (ton) (sd)) H := cw_J hA hP hPn hk9
  have hD : va_D (aS 16 A) (cw cA A (va_up (va_up (va_up (jf) 1 ((tvS (kf 2 (q)) (kf 0 (q)) (vdF (jf 0) (jf 1) jn (kf 2 (q)) (kf 0 (q))) (jf 0) (jf 1, (jf 2, jf 3)) jn).1)) 2 ((tvS (kf 2 (q)) (kf 0 (q)) (vdF (jf 0) (jf 1) jn (kf 2 (q)) (kf 0 (q))) (jf 0) (jf 1, (jf 2, jf 3)) jn).2.1)) 3 ((tvS (kf 2 (q)) (kf 0 (q)) (vdF (jf 0) (jf 1) jn (kf 2 (q)) (kf 0 (q))) (jf 0) (jf 1, (jf 2, jf 3)) jn).2.2)) (jn) (kf) (rw) (cn) (rl) (clk) (ton) (sd)) := cwD hA
  refine lv_aload_n hx hb dX1_sayVerdict_46 rfl (lv_at hl 2 rfl) ?_
  refine g_get (v := .ref (A 6)) hx hb hts hown hK hP 0 rfl rfl gu_wsX10 1 (by decide) gm_3_1 rfl dX1_sayVerdict_47 ?_
  refine g_get (v := .ref (A 10)) hx hb hts hown hK hP 6 rfl rfl gu_wsX00 3 (by decide) gm_16_13 rfl dX1_sayVerdict_50 ?_
  refine lv_iload_n hx hb dX1_sayVerdict_53 rfl (lv_at hl 3 rfl) ?_
  refine lv_iload_n hx hb dX1_sayVerdict_54 rfl (lv_at hl 0 rfl) ?_
  refine g_iast (ws' := cw cA A (va_up (va_up (va_up (jf) 1 ((tvS (kf 2 (q)) (kf 0 (q)) (vdF (jf 0) (jf 1) jn (kf 2 (q)) (kf 0 (q))) (jf 0) (jf 1, (jf 2, jf 3)) jn).1)) 2 ((tvS (kf 2 (q)) (kf 0 (q)) (vdF (jf 0) (jf 1) jn (kf 2 (q)) (kf 0 (q))) (jf 0) (jf 1, (jf 2, jf 3)) jn).2.1)) 3 ((tvS (kf 2 (q)) (kf 0 (q)) (vdF (jf 0) (jf 1) jn (kf 2 (q)) (kf 0 (q))) (jf 0) (jf 1, (jf 2, jf 3)) jn).2.2)) (jn) (va_up (kf) 3 (upd (kf 3) (q) (nI (vdF (jf 0) (jf 1) jn (kf 2 (q)) (kf 0 (q)))))) (rw) (cn) (rl) (clk) (ton) (sd)) hx hb hK hP hD hS 10 rfl (by omega) (by decide) (by first | rfl | (rw [updN_nI]; rfl)) dX1_sayVerdict_55 (fun H locs hP hD hS => ?_)
  refine lv_aload_n hx hb dX1_sayVerdict_56 rfl (lv_at hl 2 rfl) ?_
  refine g_get (v := .ref (A 6)) hx hb hts hown hK hP 0 rfl rfl gu_wsX10 1 (by decide) gm_3_1 rfl dX1_sayVerdict_57 ?_
  refine g_get (v := .ref (A 11)) hx hb hts hown hK hP 6 rfl rfl gu_wsX00 4 (by decide) gm_16_14 rfl dX1_sayVerdict_60 ?_
  refine lv_iload_n hx hb dX1_sayVerdict_63 rfl (lv_at hl 3 rfl) ?_
  refine lv_aload_n hx hb dX1_sayVerdict_64 rfl (lv_at hl 2 rfl) ?_
  refine g_get (v := .int (nI (ton))) hx hb hts hown hK hP 0 rfl rfl gu_wsX10 3 (by decide) gm_3_3 rfl dX1_sayVerdict_65 ?_
  refine g_iast (ws' := cw cA A (va_up (va_up (va_up (jf) 1 ((tvS (kf 2 (q)) (kf 0 (q)) (vdF (jf 0) (jf 1) jn (kf 2 (q)) (kf 0 (q))) (jf 0) (jf 1, (jf 2, jf 3)) jn).1)) 2 ((tvS (kf 2 (q)) (kf 0 (q)) (vdF (jf 0) (jf 1) jn (kf 2 (q)) (kf 0 (q))) (jf 0) (jf 1, (jf 2, jf 3)) jn).2.1)) 3 ((tvS (kf 2 (q)) (kf 0 (q)) (vdF (jf 0) (jf 1) jn (kf 2 (q)) (kf 0 (q))) (jf 0) (jf 1, (jf 2, jf 3)) jn).2.2)) (jn) (va_up (va_up (kf) 3 (upd (kf 3) (q) (nI (vdF (jf 0) (jf 1) jn (kf 2 (q)) (kf 0 (q)))))) 4 (upd (kf 4) (q) (nI (ton)))) (rw) (cn) (rl) (clk) (ton) (sd)) hx hb hK hP hD hS 11 rfl (by omega) (by decide) (by first | rfl | (rw [updN_nI]; rfl)) dX1_sayVerdict_68 (fun H locs hP hD hS => ?_)
  refine lv_aload_n hx hb dX1_sayVerdict_69 rfl (lv_at hl 2 rfl) ?_
  refine g_get (v := .ref (A 6)) hx hb hts hown hK hP 0 rfl rfl gu_wsX10 1 (by decide) gm_3_1 rfl dX1_sayVerdict_70 ?_
  refine lv_iload_n hx hb dX1_sayVerdict_73 rfl (lv_at hl 3 rfl) ?_
  refine wr_callv (va_runV (As := [.int (nI (q))]) (rest := []) ⟨hx, hb, hml, hown, hts⟩ (c_X0_strike l D cA (fun k => A (k + 6)) (va_up (va_up (kf) 3 (upd (kf 3) (q) (nI (vdF (jf 0) (jf 1) jn (kf 2 (q)) (kf 0 (q)))))) 4 (upd (kf 4) (q) (nI (ton)))) (rw) (cn) (rl) (q) (aInj_s hA 6 (by decide)) hrl hrw (by omega)) (cwV 1 hts (gWV gm_17_7 gm_17_8 gm_17_9 gm_3_0 gm_17_10) rfl rfl rfl (by decide +kernel) ⟨Nat.le_of_ble_eq_true rfl, Nat.le_of_ble_eq_true rfl⟩) (gPreV hK (g_rf hK hP (ci := 2) (q0 := 6) rfl rfl) (hP.sub [6, 7, 8, 9, 10, 11, 12, 13, 14, 15] rfl)) rfl rfl hl.1 rfl (lv_room (Nat.le_of_ble_eq_true rfl)) dX1_sayVerdict_74 ⟨by omega, by omega⟩) hS (fun q _ h => aS_up (m := 10) (a := 6) (by decide) h) (fun q h => aS_up (m := 10) (a := 6) (by decide) h) (fun H locs hPn hz9 hk9 hS => ?_)
  have hP : va_P D vwCl (cw cA A (va_up (va_up (va_up (jf) 1 ((tvS (kf 2 (q)) (kf 0 (q)) (vdF (jf 0) (jf 1) jn (kf 2 (q)) (kf 0 (q))) (jf 0) (jf 1, (jf 2, jf 3)) jn).1)) 2 ((tvS (kf 2 (q)) (kf 0 (q)) (vdF (jf 0) (jf 1) jn (kf 2 (q)) (kf 0 (q))) (jf 0) (jf 1, (jf 2, jf 3)) jn).2.1)) 3 ((tvS (kf 2 (q)) (kf 0 (q)) (vdF (jf 0) (jf 1) jn (kf 2 (q)) (kf 0 (q))) (jf 0) (jf 1, (jf 2, jf 3)) jn).2.2)) (jn) (va_up (va_up (kf) 3 (upd (kf 3) (q) (nI (vdF (jf 0) (jf 1) jn (kf 2 (q)) (kf 0 (q)))))) 4 (upd (kf 4) (q) (nI (ton)))) ((stO rw rl (q)).1) (cn) ((stO rw rl (q)).2) (clk) (ton) (sd)) H := cw_K hA hP hPn hk9
  have hD : va_D (aS 16 A) (cw cA A (va_up (va_up (va_up (jf) 1 ((tvS (kf 2 (q)) (kf 0 (q)) (vdF (jf 0) (jf 1) jn (kf 2 (q)) (kf 0 (q))) (jf 0) (jf 1, (jf 2, jf 3)) jn).1)) 2 ((tvS (kf 2 (q)) (kf 0 (q)) (vdF (jf 0) (jf 1) jn (kf 2 (q)) (kf 0 (q))) (jf 0) (jf 1, (jf 2, jf 3)) jn).2.1)) 3 ((tvS (kf 2 (q)) (kf 0 (q)) (vdF (jf 0) (jf 1) jn (kf 2 (q)) (kf 0 (q))) (jf 0) (jf 1, (jf 2, jf 3)) jn).2.2)) (jn) (va_up (va_up (kf) 3 (upd (kf 3) (q) (nI (vdF (jf 0) (jf 1) jn (kf 2 (q)) (kf 0 (q)))))) 4 (upd (kf 4) (q) (nI (ton)))) ((stO rw rl (q)).1) (cn) ((stO rw rl (q)).2) (clk) (ton) (sd)) := cwD hA
  refine lv_aload_n hx hb dX1_sayVerdict_77 rfl (lv_at hl 2 rfl) ?_
  refine lv_dup hx hb dX1_sayVerdict_78 rfl ?_
  refine g_get (v := .int (sd)) hx hb hts hown hK hP 0 rfl rfl gu_wsX10 4 (by decide) gm_3_4 rfl dX1_sayVerdict_79 ?_
  refine lv_iconst (v := nI (1)) hx hb dX1_sayVerdict_82 gc_1 ?_
  refine lv_iadd hx hb dX1_sayVerdict_83 ?_
  refine g_put (ws' := cw cA A (va_up (va_up (va_up (jf) 1 ((tvS (kf 2 (q)) (kf 0 (q)) (vdF (jf 0) (jf 1) jn (kf 2 (q)) (kf 0 (q))) (jf 0) (jf 1, (jf 2, jf 3)) jn).1)) 2 ((tvS (kf 2 (q)) (kf 0 (q)) (vdF (jf 0) (jf 1) jn (kf 2 (q)) (kf 0 (q))) (jf 0) (jf 1, (jf 2, jf 3)) jn).2.1)) 3 ((tvS (kf 2 (q)) (kf 0 (q)) (vdF (jf 0) (jf 1) jn (kf 2 (q)) (kf 0 (q))) (jf 0) (jf 1, (jf 2, jf 3)) jn).2.2)) (jn) (va_up (va_up (kf) 3 (upd (kf 3) (q) (nI (vdF (jf 0) (jf 1) jn (kf 2 (q)) (kf 0 (q)))))) 4 (upd (kf 4) (q) (nI (ton)))) ((stO rw rl (q)).1) (cn) ((stO rw rl (q)).2) (clk) (ton) ((sd) + (nI (1)))) hx hb hts hown hK hP hD hS 0 rfl rfl gu_wsX10 tyX1_ok nmX1 4 (by decide) gm_3_4 rfl rfl rfl (Nat.le_of_ble_eq_true rfl) (by first | rfl | (rw [updN_nI]; rfl)) dX1_sayVerdict_84 (fun H locs hP hD hS => ?_)
  refine lv_iload_n hx hb dX1_sayVerdict_87 rfl (lv_at hl 0 rfl) ?_
  exact g_iretW (v := nI (vdF (jf 0) (jf 1) jn (kf 2 (q)) (kf 0 (q)))) hx hb hr hlk hS dX1_sayVerdict_88 (⟨rfl, hP⟩)

set_option maxHeartbeats 1000000 in
set_option maxRecDepth 100000 in
theorem c_X1_unsayVerdict (l : Launch) (D : va_G) (cA : Nat → ClassId) (A : Nat → Nat) (jf : Nat → Nat → Int32) (jn : Nat) (kf : Nat → Nat → Int32) (rw : Nat → Nat) (cn rl clk ton : Nat) (sd : Int32) (q : Nat) (hA : aInj 16 A) (hjn : jn ≤ 9) (hcn : cn ≤ 10) (hr9 : rl ≤ 9) (hrw : ∀ k, k < rl → rw k < 10) (hq : q < 10) : Met l yX1_unsayVerdict (gw yX1_unsayVerdict cX1_unsayVerdict 2 (some .int)) ({ frames := 2, cells := 0, slots := 0, locals := 47 } : Room) (gPc [.ref (A 0), .int (nI (q))] (fun H => va_P D vwCl (cw cA A (jf) (jn) (kf) (rw) (cn) (rl) (clk) (ton) (sd)) H) D cA) (wrI (fun r H => r = nI (zTo (mkz jf jn kf rw cn rl clk ton sd) q).1 ∧ va_P D vwCl (cz cA A (zUns (mkz jf jn kf rw cn rl clk ton sd) q)) H) (aS 16 A)) 0 0 (aS 16 A) := by
  refine gOf (by decide) (Nat.le_of_ble_eq_true rfl) ?_
  intro p e s m below meth c ls hx hb hml hr hlk hown hts hnm hP hK hl
  have hl : lv_has ls 2 [(0, .ref (A 0)), (1, .int (nI (q)))] := hl
  have hD : va_D (aS 16 A) (cw cA A (jf) (jn) (kf) (rw) (cn) (rl) (clk) (ton) (sd)) := cwD hA
  have hS : va_S (aS 16 A) s.heap s.heap [] := va_S.rf
  refine lv_aload_n hx hb dX1_unsayVerdict_0 rfl (lv_at hl 0 rfl) ?_
  refine g_get (v := .ref (A 6)) hx hb hts hown hK hP 0 rfl rfl gu_wsX10 1 (by decide) gm_3_1 rfl dX1_unsayVerdict_1 ?_
  refine g_get (v := .ref (A 10)) hx hb hts hown hK hP 6 rfl rfl gu_wsX00 3 (by decide) gm_16_13 rfl dX1_unsayVerdict_4 ?_
  refine lv_iload_n hx hb dX1_unsayVerdict_7 rfl (lv_at hl 1 rfl) ?_
  refine lv_iconst (v := nI (0)) hx hb dX1_unsayVerdict_8 gc_0 ?_
  refine g_iast (ws' := cw cA A (jf) (jn) (va_up (kf) 3 (upd (kf 3) (q) (nI (0)))) (rw) (cn) (rl) (clk) (ton) (sd)) hx hb hK hP hD hS 10 rfl (by omega) (by decide) (by first | rfl | (rw [updN_nI]; rfl)) dX1_unsayVerdict_9 (fun H locs hP hD hS => ?_)
  refine lv_aload_n hx hb dX1_unsayVerdict_10 rfl (lv_at hl 0 rfl) ?_
  refine g_get (v := .ref (A 6)) hx hb hts hown hK hP 0 rfl rfl gu_wsX10 1 (by decide) gm_3_1 rfl dX1_unsayVerdict_11 ?_
  refine g_get (v := .ref (A 11)) hx hb hts hown hK hP 6 rfl rfl gu_wsX00 4 (by decide) gm_16_14 rfl dX1_unsayVerdict_14 ?_
  refine lv_iload_n hx hb dX1_unsayVerdict_17 rfl (lv_at hl 1 rfl) ?_
  refine lv_iconst (v := -1) hx hb dX1_unsayVerdict_18 gc_m1 ?_
  refine g_iast (ws' := cw cA A (jf) (jn) (va_up (va_up (kf) 3 (upd (kf 3) (q) (nI (0)))) 4 (upd (kf 4) (q) (-1))) (rw) (cn) (rl) (clk) (ton) (sd)) hx hb hK hP hD hS 11 rfl (by omega) (by decide) (by first | rfl | (rw [updN_nI]; rfl)) dX1_unsayVerdict_19 (fun H locs hP hD hS => ?_)
  refine lv_aload_n hx hb dX1_unsayVerdict_20 rfl (lv_at hl 0 rfl) ?_
  refine g_get (v := .ref (A 6)) hx hb hts hown hK hP 0 rfl rfl gu_wsX10 1 (by decide) gm_3_1 rfl dX1_unsayVerdict_21 ?_
  refine g_get (v := .ref (A 13)) hx hb hts hown hK hP 6 rfl rfl gu_wsX00 6 (by decide) gm_19_14 rfl dX1_unsayVerdict_24 ?_
  refine lv_iload_n hx hb dX1_unsayVerdict_27 rfl (lv_at hl 1 rfl) ?_
  refine lv_dup2_11 hx hb dX1_unsayVerdict_28 rfl rfl ?_
  refine g_iald (x := kf 6 (q)) hx hb hK hP 13 rfl (by omega) (by decide) rfl dX1_unsayVerdict_29 ?_
  refine lv_iconst (v := nI (1)) hx hb dX1_unsayVerdict_30 gc_1 ?_
  refine lv_iadd hx hb dX1_unsayVerdict_31 ?_
  refine g_iast (ws' := cw cA A (jf) (jn) (va_up (va_up (va_up (kf) 3 (upd (kf 3) (q) (nI (0)))) 4 (upd (kf 4) (q) (-1))) 6 (upd (kf 6) (q) ((kf 6 (q)) + (nI (1))))) (rw) (cn) (rl) (clk) (ton) (sd)) hx hb hK hP hD hS 13 rfl (by omega) (by decide) (by first | rfl | (rw [updN_nI]; rfl)) dX1_unsayVerdict_32 (fun H locs hP hD hS => ?_)
  refine lv_aload_n hx hb dX1_unsayVerdict_33 rfl (lv_at hl 0 rfl) ?_
  refine g_get (v := .ref (A 6)) hx hb hts hown hK hP 0 rfl rfl gu_wsX10 1 (by decide) gm_3_1 rfl dX1_unsayVerdict_34 ?_
  refine lv_iload_n hx hb dX1_unsayVerdict_37 rfl (lv_at hl 1 rfl) ?_
  refine wr_callv (va_runV (As := [.int (nI (q))]) (rest := []) ⟨hx, hb, hml, hown, hts⟩ (c_X0_enroll l D cA (fun k => A (k + 6)) (va_up (va_up (va_up (kf) 3 (upd (kf 3) (q) (nI (0)))) 4 (upd (kf 4) (q) (-1))) 6 (upd (kf 6) (q) ((kf 6 (q)) + (nI (1))))) (rw) (cn) (rl) (q) (aInj_s hA 6 (by decide)) (by omega) hrw (by omega)) (cwV 1 hts (gWV gm_13_11 gm_13_12 gm_13_13 gm_3_0 gm_13_14) rfl rfl rfl (by decide +kernel) ⟨Nat.le_of_ble_eq_true rfl, Nat.le_of_ble_eq_true rfl⟩) (gPreV hK (g_rf hK hP (ci := 2) (q0 := 6) rfl rfl) (hP.sub [6, 7, 8, 9, 10, 11, 12, 13, 14, 15] rfl)) rfl rfl hl.1 rfl (lv_room (Nat.le_of_ble_eq_true rfl)) dX1_unsayVerdict_38 ⟨by omega, by omega⟩) hS (fun q _ h => aS_up (m := 10) (a := 6) (by decide) h) (fun q h => aS_up (m := 10) (a := 6) (by decide) h) (fun H locs hPn hz9 hk9 hS => ?_)
  have hP : va_P D vwCl (cw cA A (jf) (jn) (va_up (va_up (va_up (kf) 3 (upd (kf 3) (q) (nI (0)))) 4 (upd (kf 4) (q) (-1))) 6 (upd (kf 6) (q) ((kf 6 (q)) + (nI (1))))) (enO (va_up (va_up (va_up (kf) 3 (upd (kf 3) (q) (nI (0)))) 4 (upd (kf 4) (q) (-1))) 6 (upd (kf 6) (q) ((kf 6 (q)) + (nI (1))))) rw rl (q)) (cn) (rl + 1) (clk) (ton) (sd)) H := cw_K hA hP hPn hk9
  have hD : va_D (aS 16 A) (cw cA A (jf) (jn) (va_up (va_up (va_up (kf) 3 (upd (kf 3) (q) (nI (0)))) 4 (upd (kf 4) (q) (-1))) 6 (upd (kf 6) (q) ((kf 6 (q)) + (nI (1))))) (enO (va_up (va_up (va_up (kf) 3 (upd (kf 3) (q) (nI (0)))) 4 (upd (kf 4) (q) (-1))) 6 (upd (kf 6) (q) ((kf 6 (q)) + (nI (1))))) rw rl (q)) (cn) (rl + 1) (clk) (ton) (sd)) := cwD hA
  refine lv_aload_n hx hb dX1_unsayVerdict_41 rfl (lv_at hl 0 rfl) ?_
  refine g_get (v := .ref (A 1)) hx hb hts hown hK hP 0 rfl rfl gu_wsX10 0 (by decide) gm_2_21 rfl dX1_unsayVerdict_42 ?_
  refine lv_aload_n hx hb dX1_unsayVerdict_45 rfl (lv_at hl 0 rfl) ?_
  refine g_get (v := .ref (A 6)) hx hb hts hown hK hP 0 rfl rfl gu_wsX10 1 (by decide) gm_3_1 rfl dX1_unsayVerdict_46 ?_
  refine g_get (v := .ref (A 9)) hx hb hts hown hK hP 6 rfl rfl gu_wsX00 2 (by decide) gm_12_15 rfl dX1_unsayVerdict_49 ?_
  refine lv_iload_n hx hb dX1_unsayVerdict_52 rfl (lv_at hl 1 rfl) ?_
  refine g_iald (x := kf 2 (q)) hx hb hK hP 9 rfl (by omega) (by decide) rfl dX1_unsayVerdict_53 ?_
  refine lv_aload_n hx hb dX1_unsayVerdict_54 rfl (lv_at hl 0 rfl) ?_
  refine g_get (v := .ref (A 6)) hx hb hts hown hK hP 0 rfl rfl gu_wsX10 1 (by decide) gm_3_1 rfl dX1_unsayVerdict_55 ?_
  refine g_get (v := .ref (A 7)) hx hb hts hown hK hP 6 rfl rfl gu_wsX00 0 (by decide) gm_16_12 rfl dX1_unsayVerdict_58 ?_
  refine lv_iload_n hx hb dX1_unsayVerdict_61 rfl (lv_at hl 1 rfl) ?_
  refine g_iald (x := kf 0 (q)) hx hb hK hP 7 rfl (by omega) (by decide) rfl dX1_unsayVerdict_62 ?_
  refine wr_calli (va_runV (As := [.int (kf 2 (q)), .int (kf 0 (q))]) (rest := []) ⟨hx, hb, hml, hown, hts⟩ (c_X3_thinkOver l D cA (fun k => A (k + 1)) (jf) (jn) (kf 2 (q)) (kf 0 (q)) (aInj_s hA 1 (by decide)) hjn) (cwV 2 hts (gWV gm_19_15 gm_19_16 gm_19_17 gm_2_5 gm_19_18) rfl rfl rfl (by decide +kernel) ⟨Nat.le_of_ble_eq_true rfl, Nat.le_of_ble_eq_true rfl⟩) (gPreV hK (g_rf hK hP (ci := 5) (q0 := 1) rfl rfl) (hP.sub [1, 2, 3, 4, 5] rfl)) rfl rfl hl.1 rfl (lv_room (Nat.le_of_ble_eq_true rfl)) dX1_unsayVerdict_63 ⟨by omega, by omega⟩) hS (fun q _ h => aS_up (m := 5) (a := 1) (by decide) h) (fun q h => aS_up (m := 5) (a := 1) (by decide) h) (fun r H locs hw9 hz9 hk9 hS => ?_)
  obtain ⟨rfl, hPn⟩ := hw9
  have hP : va_P D vwCl (cw cA A (va_up (jf) 0 ((toS (kf 2 (q)) (kf 0 (q)) (jf 1) (jf 0) jn).2)) (jn) (va_up (va_up (va_up (kf) 3 (upd (kf 3) (q) (nI (0)))) 4 (upd (kf 4) (q) (-1))) 6 (upd (kf 6) (q) ((kf 6 (q)) + (nI (1))))) (enO (va_up (va_up (va_up (kf) 3 (upd (kf 3) (q) (nI (0)))) 4 (upd (kf 4) (q) (-1))) 6 (upd (kf 6) (q) ((kf 6 (q)) + (nI (1))))) rw rl (q)) (cn) (rl + 1) (clk) (ton) (sd)) H := cw_J hA hP hPn hk9
  have hD : va_D (aS 16 A) (cw cA A (va_up (jf) 0 ((toS (kf 2 (q)) (kf 0 (q)) (jf 1) (jf 0) jn).2)) (jn) (va_up (va_up (va_up (kf) 3 (upd (kf 3) (q) (nI (0)))) 4 (upd (kf 4) (q) (-1))) 6 (upd (kf 6) (q) ((kf 6 (q)) + (nI (1))))) (enO (va_up (va_up (va_up (kf) 3 (upd (kf 3) (q) (nI (0)))) 4 (upd (kf 4) (q) (-1))) 6 (upd (kf 6) (q) ((kf 6 (q)) + (nI (1))))) rw rl (q)) (cn) (rl + 1) (clk) (ton) (sd)) := cwD hA
  exact g_iretW (v := nI ((toS (kf 2 (q)) (kf 0 (q)) (jf 1) (jf 0) jn).1)) hx hb hr hlk hS dX1_unsayVerdict_66 (⟨rfl, hP⟩)

theorem zApP_s {z : CS} {q a b : Nat} (h1 : zOut z q = some a) (h2 : zIn z q = some b) : zApP z q = ((zK z 2 q &&& ((nI 1 <<< (nI a &&& 31)) ^^^ -1)) ||| (nI 1 <<< (nI b &&& 31))) := by
  rw [zApP, h1, h2]

set_option maxHeartbeats 1000000 in
set_option maxRecDepth 100000 in
theorem c_X1_voteAnew (l : Launch) (D : va_G) (cA : Nat → ClassId) (A : Nat → Nat) (jf : Nat → Nat → Int32) (jn : Nat) (kf : Nat → Nat → Int32) (rw : Nat → Nat) (cn rl clk ton : Nat) (sd : Int32) (q : Nat) (hA : aInj 16 A) (hjn : jn ≤ 9) (hcn : cn ≤ 10) (hrl : rl ≤ 10) (hrw : ∀ k, k < rl → rw k < 10) (hq : q < 10) (hout : ¬ zOut (mkz jf jn kf rw cn rl clk ton sd) q = none) (hin : ¬ zIn (mkz jf jn kf rw cn rl clk ton sd) q = none) : Met l yX1_voteAnew (gw yX1_voteAnew cX1_voteAnew 5 (some .int)) ({ frames := 3, cells := 0, slots := 0, locals := 71 } : Room) (gPc [.ref (A 0), .int (nI (q))] (fun H => va_P D vwCl (cw cA A (jf) (jn) (kf) (rw) (cn) (rl) (clk) (ton) (sd)) H) D cA) (wrI (fun r H => r = nI (zVd (zAp (mkz jf jn kf rw cn rl clk ton sd) q) q) ∧ va_P D vwCl (cz cA A (zSay (zAp (mkz jf jn kf rw cn rl clk ton sd) q) q)) H) (aS 16 A)) 0 0 (aS 16 A) := by
  refine gOf (by decide) (Nat.le_of_ble_eq_true rfl) ?_
  intro p e s m below meth c ls hx hb hml hr hlk hown hts hnm hP hK hl
  have hl : lv_has ls 5 [(0, .ref (A 0)), (1, .int (nI (q)))] := hl
  have hD : va_D (aS 16 A) (cw cA A (jf) (jn) (kf) (rw) (cn) (rl) (clk) (ton) (sd)) := cwD hA
  have hS : va_S (aS 16 A) s.heap s.heap [] := va_S.rf
  refine lv_aload_n hx hb dX1_voteAnew_0 rfl (lv_at hl 0 rfl) ?_
  refine g_get (v := .ref (A 6)) hx hb hts hown hK hP 0 rfl rfl gu_wsX10 1 (by decide) gm_3_1 rfl dX1_voteAnew_1 ?_
  refine g_get (v := .ref (A 9)) hx hb hts hown hK hP 6 rfl rfl gu_wsX00 2 (by decide) gm_12_15 rfl dX1_voteAnew_4 ?_
  refine lv_iload_n hx hb dX1_voteAnew_7 rfl (lv_at hl 1 rfl) ?_
  refine g_iald (x := kf 2 (q)) hx hb hK hP 9 rfl (by omega) (by decide) rfl dX1_voteAnew_8 ?_
  refine lv_istore_n (lv' := [(2, .int (kf 2 (q))), (0, .ref (A 0)), (1, .int (nI (q)))]) hx hb dX1_voteAnew_9 rfl hl (by decide) rfl (fun ls hl => ?_)
  refine lv_aload_n hx hb dX1_voteAnew_10 rfl (lv_at hl 1 rfl) ?_
  refine g_get (v := .ref (A 1)) hx hb hts hown hK hP 0 rfl rfl gu_wsX10 0 (by decide) gm_2_21 rfl dX1_voteAnew_11 ?_
  refine lv_iload_n hx hb dX1_voteAnew_14 rfl (lv_at hl 0 rfl) ?_
  refine rd_calle (va_runV (As := [.int (kf 2 (q))]) (rest := []) ⟨hx, hb, hml, hown, hts⟩ (c_X3_mostDoubtfulOf l D cA (fun k => A (k + 1)) (jf) (jn) (kf 2 (q))  hjn) (cwV 1 hts (gWV gm_20_23 gm_21_0 gm_21_1 gm_2_5 gm_21_2) rfl rfl rfl (by decide +kernel) ⟨Nat.le_of_ble_eq_true rfl, Nat.le_of_ble_eq_true rfl⟩) (gPreV hK (g_rf hK hP (ci := 5) (q0 := 1) rfl rfl) (hP.sub [1, 2, 3, 4, 5] rfl)) rfl rfl hl.1 rfl (lv_room (Nat.le_of_ble_eq_true rfl)) dX1_voteAnew_15 ⟨by omega, by omega⟩) ?_
  refine lv_istore_n (lv' := [(3, .int (oI (dbF (jf 1) jn (kf 2 (q))))), (2, .int (kf 2 (q))), (0, .ref (A 0)), (1, .int (nI (q)))]) hx hb dX1_voteAnew_18 rfl hl (by decide) rfl (fun ls hl => ?_)
  refine lv_aload_n hx hb dX1_voteAnew_19 rfl (lv_at hl 2 rfl) ?_
  refine lv_iload_n hx hb dX1_voteAnew_20 rfl (lv_at hl 1 rfl) ?_
  refine rd_calle (va_runV (As := [.int (kf 2 (q))]) (rest := []) ⟨hx, hb, hml, hown, hts⟩ (c_X1_firstCallable l D cA A (jf) (jn) (kf) (rw) (cn) (rl) (clk) (ton) (sd) (kf 2 (q))  hjn hcn) (cwV 1 hts (gWV gm_13_6 gm_13_7 gm_13_8 gm_1_16 gm_13_9) rfl rfl rfl (by decide +kernel) ⟨Nat.le_of_ble_eq_true rfl, Nat.le_of_ble_eq_true rfl⟩) (gPreV hK (g_rf hK hP (ci := 3) (q0 := 0) rfl rfl) hP) rfl rfl hl.1 rfl (lv_room (Nat.le_of_ble_eq_true rfl)) dX1_voteAnew_21 ⟨by omega, by omega⟩) ?_
  refine lv_istore (lv' := [(4, .int (oI (fcF (jf 1) kf jn cn (kf 2 (q))))), (3, .int (oI (dbF (jf 1) jn (kf 2 (q))))), (2, .int (kf 2 (q))), (0, .ref (A 0)), (1, .int (nI (q)))]) hx hb dX1_voteAnew_24 hl (by decide) rfl (fun ls hl => ?_)
  refine lv_iload_n hx hb dX1_voteAnew_26 rfl (lv_at hl 1 rfl) ?_
  refine lv_iconst (v := -1) hx hb dX1_voteAnew_27 gc_m1 ?_
  refine g_icmp_eq (P := dbF (jf 1) jn (kf 2 (q)) = none) (tgt := 58) hx hb dX1_voteAnew_28 (by decide) (oI_m1 (by first | exact (fun b q => by have := bst_lt q; omega) | exact (fun b q => by have := fcF_lt _ _ q; omega))) (fun c_1 => ?_) (fun c_1 => ?_)
  · exact absurd c_1 hout
  · obtain ⟨b_2, eb_3⟩ := o_some c_1
    have hb_4 := bst_lt eb_3
    rw [eb_3] at hl
    have hl : lv_has ls 5 [(4, .int (oI (fcF (jf 1) kf jn cn (kf 2 (q))))), (3, .int (nI (b_2))), (2, .int (kf 2 (q))), (0, .ref (A 0)), (1, .int (nI (q)))] := hl
    refine lv_iload hx hb dX1_voteAnew_31 (lv_at hl 0 rfl) ?_
    refine lv_iconst (v := -1) hx hb dX1_voteAnew_33 gc_m1 ?_
    refine g_icmp_eq (P := fcF (jf 1) kf jn cn (kf 2 (q)) = none) (tgt := 58) hx hb dX1_voteAnew_34 (by decide) (oI_m1 (by first | exact (fun b q => by have := bst_lt q; omega) | exact (fun b q => by have := fcF_lt _ _ q; omega))) (fun c_5 => ?_) (fun c_5 => ?_)
    · exact absurd c_5 hin
    · obtain ⟨b_6, eb_7⟩ := o_some c_5
      have hb_8 := fcF_lt _ _ eb_7
      rw [eb_7] at hl
      have hl : lv_has ls 5 [(4, .int (nI (b_6))), (3, .int (nI (b_2))), (2, .int (kf 2 (q))), (0, .ref (A 0)), (1, .int (nI (q)))] := hl
      refine lv_aload_n hx hb dX1_voteAnew_37 rfl (lv_at hl 3 rfl) ?_
      refine g_get (v := .ref (A 6)) hx hb hts hown hK hP 0 rfl rfl gu_wsX10 1 (by decide) gm_3_1 rfl dX1_voteAnew_38 ?_
      refine g_get (v := .ref (A 9)) hx hb hts hown hK hP 6 rfl rfl gu_wsX00 2 (by decide) gm_12_15 rfl dX1_voteAnew_41 ?_
      refine lv_iload_n hx hb dX1_voteAnew_44 rfl (lv_at hl 4 rfl) ?_
      refine lv_iload_n hx hb dX1_voteAnew_45 rfl (lv_at hl 2 rfl) ?_
      refine lv_iconst (v := nI (1)) hx hb dX1_voteAnew_46 gc_1 ?_
      refine lv_iload_n hx hb dX1_voteAnew_47 rfl (lv_at hl 1 rfl) ?_
      refine lv_ishl hx hb dX1_voteAnew_48 ?_
      refine lv_iconst (v := -1) hx hb dX1_voteAnew_49 gc_m1 ?_
      refine lv_ixor hx hb dX1_voteAnew_50 ?_
      refine lv_iand hx hb dX1_voteAnew_51 ?_
      refine lv_iconst (v := nI (1)) hx hb dX1_voteAnew_52 gc_1 ?_
      refine lv_iload hx hb dX1_voteAnew_53 (lv_at hl 0 rfl) ?_
      refine lv_ishl hx hb dX1_voteAnew_55 ?_
      refine lv_ior hx hb dX1_voteAnew_56 ?_
      refine g_iast (ws' := cw cA A (jf) (jn) (va_up (kf) 2 (upd (kf 2) (q) (((kf 2 (q)) &&& (((nI (1)) <<< ((nI (b_2)) &&& 31)) ^^^ (-1))) ||| ((nI (1)) <<< ((nI (b_6)) &&& 31))))) (rw) (cn) (rl) (clk) (ton) (sd)) hx hb hK hP hD hS 9 rfl (by omega) (by decide) (by first | rfl | (rw [updN_nI]; rfl)) dX1_voteAnew_57 (fun H locs hP hD hS => ?_)
      refine lv_aload_n hx hb dX1_voteAnew_58 rfl (lv_at hl 3 rfl) ?_
      refine g_get (v := .ref (A 6)) hx hb hts hown hK hP 0 rfl rfl gu_wsX10 1 (by decide) gm_3_1 rfl dX1_voteAnew_59 ?_
      refine g_get (v := .ref (A 8)) hx hb hts hown hK hP 6 rfl rfl gu_wsX00 1 (by decide) gm_20_20 rfl dX1_voteAnew_62 ?_
      refine lv_iload_n hx hb dX1_voteAnew_65 rfl (lv_at hl 4 rfl) ?_
      refine lv_aload_n hx hb dX1_voteAnew_66 rfl (lv_at hl 3 rfl) ?_
      refine g_get (v := .ref (A 6)) hx hb hts hown hK hP 0 rfl rfl gu_wsX10 1 (by decide) gm_3_1 rfl dX1_voteAnew_67 ?_
      refine g_get (v := .ref (A 8)) hx hb hts hown hK hP 6 rfl rfl gu_wsX00 1 (by decide) gm_20_20 rfl dX1_voteAnew_70 ?_
      refine lv_iload_n hx hb dX1_voteAnew_73 rfl (lv_at hl 4 rfl) ?_
      refine g_iald (x := kf 1 (q)) hx hb hK hP 8 rfl (by omega) (by decide) rfl dX1_voteAnew_74 ?_
      refine lv_iconst (v := nI (3)) hx hb dX1_voteAnew_75 gc_3 ?_
      refine lv_iadd hx hb dX1_voteAnew_76 ?_
      refine lv_bipush (v := nI (99)) hx hb dX1_voteAnew_77 gb_99 ?_
      refine va_mmin hx hb (hml.trans hl.1.symm) hown (hts _ (List.mem_cons_of_mem _ gm_20_21)) (hts _ (List.mem_cons_of_mem _ gm_8_9)) (hts _ (List.mem_cons_of_mem _ gm_8_10)) (hts _ (List.mem_cons_of_mem _ gm_8_11)) (by decide) (Nat.le_of_ble_eq_true rfl) (Nat.zero_le _) (Nat.zero_le _) dX1_voteAnew_79 ?_
      refine g_iast (ws' := cw cA A (jf) (jn) (va_up (va_up (kf) 1 (upd (kf 1) (q) ((if nI (99) < (kf 1 (q)) + (nI (3)) then nI (99) else (kf 1 (q)) + (nI (3)))))) 2 (upd (kf 2) (q) (((kf 2 (q)) &&& (((nI (1)) <<< ((nI (b_2)) &&& 31)) ^^^ (-1))) ||| ((nI (1)) <<< ((nI (b_6)) &&& 31))))) (rw) (cn) (rl) (clk) (ton) (sd)) hx hb hK hP hD hS 8 rfl (by omega) (by decide) (by first | rfl | (rw [updN_nI]; rfl)) dX1_voteAnew_82 (fun H locs hP hD hS => ?_)
      refine lv_aload_n hx hb dX1_voteAnew_83 rfl (lv_at hl 3 rfl) ?_
      refine g_get (v := .ref (A 6)) hx hb hts hown hK hP 0 rfl rfl gu_wsX10 1 (by decide) gm_3_1 rfl dX1_voteAnew_84 ?_
      refine g_get (v := .ref (A 14)) hx hb hts hown hK hP 6 rfl rfl gu_wsX00 7 (by decide) gm_20_22 rfl dX1_voteAnew_87 ?_
      refine lv_iload_n hx hb dX1_voteAnew_90 rfl (lv_at hl 4 rfl) ?_
      refine lv_dup2_11 hx hb dX1_voteAnew_91 rfl rfl ?_
      refine g_iald (x := kf 7 (q)) hx hb hK hP 14 rfl (by omega) (by decide) rfl dX1_voteAnew_92 ?_
      refine lv_iconst (v := nI (1)) hx hb dX1_voteAnew_93 gc_1 ?_
      refine lv_iadd hx hb dX1_voteAnew_94 ?_
      refine g_iast (ws' := cw cA A (jf) (jn) (va_up (va_up (va_up (kf) 1 (upd (kf 1) (q) ((if nI (99) < (kf 1 (q)) + (nI (3)) then nI (99) else (kf 1 (q)) + (nI (3)))))) 2 (upd (kf 2) (q) (((kf 2 (q)) &&& (((nI (1)) <<< ((nI (b_2)) &&& 31)) ^^^ (-1))) ||| ((nI (1)) <<< ((nI (b_6)) &&& 31))))) 7 (upd (kf 7) (q) ((kf 7 (q)) + (nI (1))))) (rw) (cn) (rl) (clk) (ton) (sd)) hx hb hK hP hD hS 14 rfl (by omega) (by decide) (by first | rfl | (rw [updN_nI]; rfl)) dX1_voteAnew_95 (fun H locs hP hD hS => ?_)
      refine lv_aload_n hx hb dX1_voteAnew_96 rfl (lv_at hl 3 rfl) ?_
      refine lv_iload_n hx hb dX1_voteAnew_97 rfl (lv_at hl 4 rfl) ?_
      refine wr_calli (va_runV (As := [.int (nI (q))]) (rest := []) ⟨hx, hb, hml, hown, hts⟩ (c_X1_sayVerdict l D cA A (jf) (jn) (va_up (va_up (va_up (kf) 1 (upd (kf 1) (q) ((if nI (99) < (kf 1 (q)) + (nI (3)) then nI (99) else (kf 1 (q)) + (nI (3)))))) 2 (upd (kf 2) (q) (((kf 2 (q)) &&& (((nI (1)) <<< ((nI (b_2)) &&& 31)) ^^^ (-1))) ||| ((nI (1)) <<< ((nI (b_6)) &&& 31))))) 7 (upd (kf 7) (q) ((kf 7 (q)) + (nI (1))))) (rw) (cn) (rl) (clk) (ton) (sd) (q) hA hjn hcn hrl hrw (by omega)) (cwV 1 hts (gWV gm_21_3 gm_16_9 gm_16_10 gm_1_16 gm_16_11) rfl rfl rfl (by decide +kernel) ⟨Nat.le_of_ble_eq_true rfl, Nat.le_of_ble_eq_true rfl⟩) (gPreV hK (g_rf hK hP (ci := 3) (q0 := 0) rfl rfl) hP) rfl rfl hl.1 rfl (lv_room (Nat.le_of_ble_eq_true rfl)) dX1_voteAnew_98 ⟨by omega, by omega⟩) hS (fun q _ h => h) (fun q h => h) (fun r H locs hw9 hz9 hk9 hS => ?_)
      obtain ⟨rfl, hP⟩ := hw9
      exact g_iretW (v := nI (zVd (mkz (jf) (jn) (va_up (va_up (va_up (kf) 1 (upd (kf 1) (q) ((if nI (99) < (kf 1 (q)) + (nI (3)) then nI (99) else (kf 1 (q)) + (nI (3)))))) 2 (upd (kf 2) (q) (((kf 2 (q)) &&& (((nI (1)) <<< ((nI (b_2)) &&& 31)) ^^^ (-1))) ||| ((nI (1)) <<< ((nI (b_6)) &&& 31))))) 7 (upd (kf 7) (q) ((kf 7 (q)) + (nI (1))))) (rw) (cn) (rl) (clk) (ton) (sd)) (q))) hx hb hr hlk hS dX1_voteAnew_101 (by have e9 := zApP_s (z := (mkz jf jn kf rw cn rl clk ton sd)) eb_3 eb_7; exact ⟨by rw [zAp, zApK, e9]; rfl, by rw [zAp, zApK, e9]; exact hP⟩)

set_option maxHeartbeats 1000000 in
set_option maxRecDepth 100000 in
theorem c_X1_addClerk (l : Launch) (D : va_G) (cA : Nat → ClassId) (A : Nat → Nat) (jf : Nat → Nat → Int32) (jn : Nat) (kf : Nat → Nat → Int32) (rw : Nat → Nat) (cn rl clk ton : Nat) (sd : Int32) (hA : aInj 16 A)  : Met l yX1_addClerk (gw yX1_addClerk cX1_addClerk 1 (some .int)) ({ frames := 0, cells := 0, slots := 0, locals := 0 } : Room) (gPc [.ref (A 0)] (fun H => va_P D vwCl (cw cA A (jf) (jn) (kf) (rw) (cn) (rl) (clk) (ton) (sd)) H) D cA) (wrI (fun r H => r = nI (clk + 1) ∧ va_P D vwCl (cw cA A jf jn kf rw cn rl (clk + 1) ton sd) H) (aS 16 A)) 0 0 (aS 16 A) := by
  refine gOf (by decide) (Nat.le_of_ble_eq_true rfl) ?_
  intro p e s m below meth c ls hx hb hml hr hlk hown hts hnm hP hK hl
  have hl : lv_has ls 1 [(0, .ref (A 0))] := hl
  have hD : va_D (aS 16 A) (cw cA A (jf) (jn) (kf) (rw) (cn) (rl) (clk) (ton) (sd)) := cwD hA
  have hS : va_S (aS 16 A) s.heap s.heap [] := va_S.rf
  refine lv_aload_n hx hb dX1_addClerk_0 rfl (lv_at hl 0 rfl) ?_
  refine lv_dup hx hb dX1_addClerk_1 rfl ?_
  refine g_get (v := .int (nI (clk))) hx hb hts hown hK hP 0 rfl rfl gu_wsX10 2 (by decide) gm_3_2 rfl dX1_addClerk_2 ?_
  refine lv_iconst (v := nI (1)) hx hb dX1_addClerk_5 gc_1 ?_
  refine g_iadd hx hb dX1_addClerk_6 ?_
  refine g_put (ws' := cw cA A (jf) (jn) (kf) (rw) (cn) (rl) (clk + 1) (ton) (sd)) hx hb hts hown hK hP hD hS 0 rfl rfl gu_wsX10 tyX1_ok nmX1 2 (by decide) gm_3_2 rfl rfl rfl (Nat.le_of_ble_eq_true rfl) (by first | rfl | (rw [updN_nI]; rfl)) dX1_addClerk_7 (fun H locs hP hD hS => ?_)
  refine lv_aload_n hx hb dX1_addClerk_10 rfl (lv_at hl 0 rfl) ?_
  refine g_get (v := .int (nI (clk + 1))) hx hb hts hown hK hP 0 rfl rfl gu_wsX10 2 (by decide) gm_3_2 rfl dX1_addClerk_11 ?_
  exact g_iretW (v := nI (clk + 1)) hx hb hr hlk hS dX1_addClerk_14 (⟨rfl, hP⟩)

set_option maxHeartbeats 1000000 in
set_option maxRecDepth 100000 in
theorem c_X1_passNight (l : Launch) (D : va_G) (cA : Nat → ClassId) (A : Nat → Nat) (jf : Nat → Nat → Int32) (jn : Nat) (kf : Nat → Nat → Int32) (rw : Nat → Nat) (cn rl clk ton : Nat) (sd : Int32) (hA : aInj 16 A) (hjn : jn ≤ 9) (hcn : cn ≤ 10) (hrl : rl ≤ 10) (hrw : ∀ k, k < rl → rw k < 10) (hck : clk ≤ 4) (htn : ton < 99) : Met l yX1_passNight (gw yX1_passNight cX1_passNight 3 (some .int)) ({ frames := 3, cells := 0, slots := 0, locals := 71 } : Room) (gPc [.ref (A 0)] (fun H => va_P D vwCl (cw cA A (jf) (jn) (kf) (rw) (cn) (rl) (clk) (ton) (sd)) H) D cA) (wrI (fun r H => r = nI (zTk (mkz jf jn kf rw cn rl clk ton sd)) ∧ va_P D vwCl (cz cA A (zNs (mkz jf jn kf rw cn rl clk ton sd) (zTk (mkz jf jn kf rw cn rl clk ton sd)))) H) (aS 16 A)) 0 0 (aS 16 A) := by
  refine gOf (by decide) (Nat.le_of_ble_eq_true rfl) ?_
  intro p e s m below meth c ls hx hb hml hr hlk hown hts hnm hP hK hl
  have hl : lv_has ls 3 [(0, .ref (A 0))] := hl
  have hD : va_D (aS 16 A) (cw cA A (jf) (jn) (kf) (rw) (cn) (rl) (clk) (ton) (sd)) := cwD hA
  have hS : va_S (aS 16 A) s.heap s.heap [] := va_S.rf
  refine lv_aload_n hx hb dX1_passNight_0 rfl (lv_at hl 0 rfl) ?_
  refine lv_dup hx hb dX1_passNight_1 rfl ?_
  refine g_get (v := .int (nI (ton))) hx hb hts hown hK hP 0 rfl rfl gu_wsX10 3 (by decide) gm_3_3 rfl dX1_passNight_2 ?_
  refine lv_iconst (v := nI (1)) hx hb dX1_passNight_5 gc_1 ?_
  refine g_iadd hx hb dX1_passNight_6 ?_
  refine g_put (ws' := cw cA A (jf) (jn) (kf) (rw) (cn) (rl) (clk) (ton + 1) (sd)) hx hb hts hown hK hP hD hS 0 rfl rfl gu_wsX10 tyX1_ok nmX1 3 (by decide) gm_3_3 rfl rfl rfl (Nat.le_of_ble_eq_true rfl) (by first | rfl | (rw [updN_nI]; rfl)) dX1_passNight_7 (fun H locs hP hD hS => ?_)
  refine lv_aload_n hx hb dX1_passNight_10 rfl (lv_at hl 0 rfl) ?_
  refine g_get (v := .ref (A 6)) hx hb hts hown hK hP 0 rfl rfl gu_wsX10 1 (by decide) gm_3_1 rfl dX1_passNight_11 ?_
  refine lv_aload_n hx hb dX1_passNight_14 rfl (lv_at hl 0 rfl) ?_
  refine g_get (v := .int (nI (ton + 1))) hx hb hts hown hK hP 0 rfl rfl gu_wsX10 3 (by decide) gm_3_3 rfl dX1_passNight_15 ?_
  refine wr_callv (va_runV (As := [.int (nI (ton + 1))]) (rest := []) ⟨hx, hb, hml, hown, hts⟩ (c_X0_closeRipe l D cA (fun k => A (k + 6)) (kf) (rw) (cn) (rl) (nI (ton + 1)) (aInj_s hA 6 (by decide)) hcn) (cwV 1 hts (gWV gm_23_4 gm_23_5 gm_23_6 gm_3_0 gm_23_7) rfl rfl rfl (by decide +kernel) ⟨Nat.le_of_ble_eq_true rfl, Nat.le_of_ble_eq_true rfl⟩) (gPreV hK (g_rf hK hP (ci := 2) (q0 := 6) rfl rfl) (hP.sub [6, 7, 8, 9, 10, 11, 12, 13, 14, 15] rfl)) rfl rfl hl.1 rfl (lv_room (Nat.le_of_ble_eq_true rfl)) dX1_passNight_18 ⟨by omega, by omega⟩) hS (fun q _ h => aS_up (m := 10) (a := 6) (by decide) h) (fun q h => aS_up (m := 10) (a := 6) (by decide) h) (fun H locs hPn hz9 hk9 hS => ?_)
  have hP : va_P D vwCl (cw cA A (jf) (jn) (va_up (kf) 5 (crS kf (nI (ton + 1)) cn)) (rw) (cn) (rl) (clk) (ton + 1) (sd)) H := cw_K hA hP hPn hk9
  have hD : va_D (aS 16 A) (cw cA A (jf) (jn) (va_up (kf) 5 (crS kf (nI (ton + 1)) cn)) (rw) (cn) (rl) (clk) (ton + 1) (sd)) := cwD hA
  refine lv_aload_n hx hb dX1_passNight_21 rfl (lv_at hl 0 rfl) ?_
  refine g_get (v := .int (nI (clk))) hx hb hts hown hK hP 0 rfl rfl gu_wsX10 2 (by decide) gm_3_2 rfl dX1_passNight_22 ?_
  refine lv_aload_n hx hb dX1_passNight_25 rfl (lv_at hl 0 rfl) ?_
  refine g_get (v := .ref (A 6)) hx hb hts hown hK hP 0 rfl rfl gu_wsX10 1 (by decide) gm_3_1 rfl dX1_passNight_26 ?_
  refine g_get (v := .int (nI (rl))) hx hb hts hown hK hP 6 rfl rfl gu_wsX00 10 (by decide) gm_23_2 rfl dX1_passNight_29 ?_
  refine va_mmin hx hb (hml.trans hl.1.symm) hown (hts _ (List.mem_cons_of_mem _ gm_20_21)) (hts _ (List.mem_cons_of_mem _ gm_8_9)) (hts _ (List.mem_cons_of_mem _ gm_8_10)) (hts _ (List.mem_cons_of_mem _ gm_8_11)) (by decide) (Nat.le_of_ble_eq_true rfl) (Nat.zero_le _) (Nat.zero_le _) dX1_passNight_32 ?_
  refine g_top (z := nI (if rl < clk then rl else clk)) (mmin_n (by omega) (by omega)) ?_
  refine lv_istore_n (lv' := [(1, .int (nI ((if rl < clk then rl else clk)))), (0, .ref (A 0))]) hx hb dX1_passNight_35 rfl hl (by decide) rfl (fun ls hl => ?_)
  refine lv_iconst (v := nI (0)) hx hb dX1_passNight_36 gc_0 ?_
  refine lv_istore_n (lv' := [(2, .int (nI (0))), (1, .int (nI (zTk (mkz jf jn kf rw cn rl clk ton sd)))), (0, .ref (A 0))]) hx hb dX1_passNight_37 rfl hl (by decide) rfl (fun ls hl => ?_)
  have LP_3 : ∀ (n_2 i_1 : Nat) (H : Heap) (locs : List Loc), i_1 ≤ zTk (mkz jf jn kf rw cn rl clk ton sd) → zTk (mkz jf jn kf rw cn rl clk ton sd) + 1 ≤ i_1 + n_2 → va_P D vwCl (cz cA A (zNs (mkz jf jn kf rw cn rl clk ton sd) i_1)) H → va_S (aS 16 A) s.heap H locs → ∀ (ls : Array Slot), lv_has ls 3 [(2, .int (nI (i_1))), (1, .int (nI (zTk (mkz jf jn kf rw cn rl clk ton sd)))), (0, .ref (A 0))] → W p l e ({ frames := 3, cells := 0, slots := 0, locals := 71 } : Room) s m ([.ref (A 0)] : List Value).toArray below meth c H locs 0 0 (MQ below (wrI (fun r H => r = nI (zTk (mkz jf jn kf rw cn rl clk ton sd)) ∧ va_P D vwCl (cz cA A (zNs (mkz jf jn kf rw cn rl clk ton sd) (zTk (mkz jf jn kf rw cn rl clk ton sd)))) H) (aS 16 A)) ([.ref (A 0)] : List Value).toArray s 0 0 (aS 16 A)) (F0 m 38 ls []) := by
    intro n_2
    induction n_2 with
    | zero => intro i_1 H locs h1 h2; exact absurd h2 (by omega)
    | succ n_2 ih_4 =>
      intro i_1 H locs h_5 h_6 hP hS ls hl
      have hP : va_P D vwCl (cw cA A ((zJ (zNs (mkz jf jn kf rw cn rl clk ton sd) i_1))) (zjn (zNs (mkz jf jn kf rw cn rl clk ton sd) i_1)) ((zK (zNs (mkz jf jn kf rw cn rl clk ton sd) i_1))) (zrw (zNs (mkz jf jn kf rw cn rl clk ton sd) i_1)) (zcn (zNs (mkz jf jn kf rw cn rl clk ton sd) i_1)) (zrl (zNs (mkz jf jn kf rw cn rl clk ton sd) i_1)) (zck (zNs (mkz jf jn kf rw cn rl clk ton sd) i_1)) (ztn (zNs (mkz jf jn kf rw cn rl clk ton sd) i_1)) (zsd (zNs (mkz jf jn kf rw cn rl clk ton sd) i_1))) H := hP
      have hD : va_D (aS 16 A) (cw cA A ((zJ (zNs (mkz jf jn kf rw cn rl clk ton sd) i_1))) (zjn (zNs (mkz jf jn kf rw cn rl clk ton sd) i_1)) ((zK (zNs (mkz jf jn kf rw cn rl clk ton sd) i_1))) (zrw (zNs (mkz jf jn kf rw cn rl clk ton sd) i_1)) (zcn (zNs (mkz jf jn kf rw cn rl clk ton sd) i_1)) (zrl (zNs (mkz jf jn kf rw cn rl clk ton sd) i_1)) (zck (zNs (mkz jf jn kf rw cn rl clk ton sd) i_1)) (ztn (zNs (mkz jf jn kf rw cn rl clk ton sd) i_1)) (zsd (zNs (mkz jf jn kf rw cn rl clk ton sd) i_1))) := cwD hA
      have hok := zNs_ok (z := (mkz jf jn kf rw cn rl clk ton sd)) ⟨hjn, hcn, hrl, hrw, hck, Nat.le_of_lt htn⟩ htn i_1
      have htk : zTk (mkz jf jn kf rw cn rl clk ton sd) ≤ rl := by show (if rl < clk then rl else clk) ≤ rl; split <;> omega
      have hrli : zrl (zNs (mkz jf jn kf rw cn rl clk ton sd) i_1) = rl - i_1 := zNs_rl (z := (mkz jf jn kf rw cn rl clk ton sd)) i_1 (show i_1 ≤ rl by omega)
      refine lv_iload_n hx hb dX1_passNight_38 rfl (lv_at hl 0 rfl) ?_
      refine lv_iload_n hx hb dX1_passNight_39 rfl (lv_at hl 1 rfl) ?_
      refine g_icmp_ge (P := zTk (mkz jf jn kf rw cn rl clk ton sd) ≤ i_1) (tgt := 63) hx hb dX1_passNight_40 (by decide) (nI_leI (by omega) (by omega)) (fun c_7 => ?_) (fun c_7 => ?_)
      · have d_7 : ¬ i_1 < zTk (mkz jf jn kf rw cn rl clk ton sd) := Nat.not_lt.mpr c_7
        have hN_8 : zTk (mkz jf jn kf rw cn rl clk ton sd) = i_1 := by omega
        subst hN_8
        refine lv_iload_n hx hb dX1_passNight_63 rfl (lv_at hl 1 rfl) ?_
        exact g_iretW (v := nI (zTk (mkz jf jn kf rw cn rl clk ton sd))) hx hb hr hlk hS dX1_passNight_64 (⟨rfl, hP⟩)
      · have d_7 : i_1 < zTk (mkz jf jn kf rw cn rl clk ton sd) := Nat.not_le.mp c_7
        refine lv_aload_n hx hb dX1_passNight_43 rfl (lv_at hl 2 rfl) ?_
        refine lv_aload_n hx hb dX1_passNight_44 rfl (lv_at hl 2 rfl) ?_
        refine g_get (v := .ref (A 6)) hx hb hts hown hK hP 0 rfl rfl gu_wsX10 1 (by decide) gm_3_1 rfl dX1_passNight_45 ?_
        refine g_get (v := .ref (A 15)) hx hb hts hown hK hP 6 rfl rfl gu_wsX00 8 (by decide) gm_23_3 rfl dX1_passNight_48 ?_
        refine lv_iconst (v := nI (0)) hx hb dX1_passNight_51 gc_0 ?_
        have hrk9 := hok.2.2.2.1 0 (by rw [hrli]; omega)
        refine g_iald (x := nI ((zrw (zNs (mkz jf jn kf rw cn rl clk ton sd) i_1)) (0))) hx hb hK hP 15 rfl (by omega) (by decide) rfl dX1_passNight_52 ?_
        refine wr_calli (va_runV (As := [.int (nI ((zrw (zNs (mkz jf jn kf rw cn rl clk ton sd) i_1)) (0)))]) (rest := []) ⟨hx, hb, hml, hown, hts⟩ (c_X1_sayVerdict l D cA A ((zJ (zNs (mkz jf jn kf rw cn rl clk ton sd) i_1))) (zjn (zNs (mkz jf jn kf rw cn rl clk ton sd) i_1)) ((zK (zNs (mkz jf jn kf rw cn rl clk ton sd) i_1))) (zrw (zNs (mkz jf jn kf rw cn rl clk ton sd) i_1)) (zcn (zNs (mkz jf jn kf rw cn rl clk ton sd) i_1)) (zrl (zNs (mkz jf jn kf rw cn rl clk ton sd) i_1)) (zck (zNs (mkz jf jn kf rw cn rl clk ton sd) i_1)) (ztn (zNs (mkz jf jn kf rw cn rl clk ton sd) i_1)) (zsd (zNs (mkz jf jn kf rw cn rl clk ton sd) i_1)) ((zrw (zNs (mkz jf jn kf rw cn rl clk ton sd) i_1)) (0)) hA hok.1 hok.2.1 hok.2.2.1 hok.2.2.2.1 hrk9) (cwV 1 hts (gWV gm_21_3 gm_16_9 gm_16_10 gm_1_16 gm_16_11) rfl rfl rfl (by decide +kernel) ⟨Nat.le_of_ble_eq_true rfl, Nat.le_of_ble_eq_true rfl⟩) (gPreV hK (g_rf hK hP (ci := 3) (q0 := 0) rfl rfl) hP) rfl rfl hl.1 rfl (lv_room (Nat.le_of_ble_eq_true rfl)) dX1_passNight_53 ⟨by omega, by omega⟩) hS (fun q _ h => h) (fun q h => h) (fun r H locs hw9 hz9 hk9 hS => ?_)
        obtain ⟨rfl, hP⟩ := hw9
        refine lv_pop hx hb dX1_passNight_56 rfl ?_
        refine lv_iinc (v := nI (i_1 + 1)) (lv' := [(2, .int (nI (i_1 + 1))), (1, .int (nI (zTk (mkz jf jn kf rw cn rl clk ton sd)))), (0, .ref (A 0))]) hx hb dX1_passNight_57 hl (k := 0) rfl (inc_1 _) (by decide) rfl (fun ls hl => ?_)
        refine lv_goto (tgt := 38) hx hb dX1_passNight_60 (by decide) ?_
        exact ih_4 (i_1 + 1) H locs (by omega) (by omega) hP hS ls (lv_sub hl [0, 1, 2] rfl)
  exact LP_3 (zTk (mkz jf jn kf rw cn rl clk ton sd) + 1) 0 H locs (by omega) (by omega) hP hS ls (lv_sub hl [0, 1, 2] rfl)

def zObey (z : CS) (kd : Nat) (a b : Int32) : CS := match kd with
  | 0 => zAddJ z a b
  | 1 => zAddK z a b
  | 2 => zCall z a.toNatClampNeg
  | 3 => zSay z a.toNatClampNeg
  | 4 => zUns z a.toNatClampNeg
  | 5 => zSay (zAp z a.toNatClampNeg) a.toNatClampNeg
  | 6 => mkz (zJ z) (zjn z) (zK z) (zrw z) (zcn z) (zrl z) (zck z + 1) (ztn z) (zsd z)
  | _ => zNs z (zTk z)
/-- what an order asks of the court -/
def zMay (z : CS) (kd : Nat) (a : Int32) : Prop := match kd with
  | 0 => zjn z < 9
  | 1 => zcn z < 10
  | 2 => isIx a (zcn z) = true ∧ zrl z ≤ 9
  | 3 => isIx a (zcn z) = true
  | 4 => isIx a (zcn z) = true ∧ zrl z ≤ 9
  | 5 => isIx a (zcn z) = true ∧ (¬ zOut z a.toNatClampNeg = none ∧ ¬ zIn z a.toNatClampNeg = none)
  | 6 => True
  | _ => ztn z < 99

set_option maxHeartbeats 1000000 in
set_option maxRecDepth 100000 in
theorem c_X1_obey (l : Launch) (D : va_G) (cA : Nat → ClassId) (A : Nat → Nat) (jf : Nat → Nat → Int32) (jn : Nat) (kf : Nat → Nat → Int32) (rw : Nat → Nat) (cn rl clk ton : Nat) (sd : Int32) (kd : Nat) (a b : Int32) (hA : aInj 16 A) (hjn : jn ≤ 9) (hcn : cn ≤ 10) (hrl : rl ≤ 10) (hrw : ∀ k, k < rl → rw k < 10) (hck : clk ≤ 4) (hmay : zMay (mkz jf jn kf rw cn rl clk ton sd) kd a) (hk7 : kd ≤ 7) : Met l yX1_obey (gw yX1_obey cX1_obey 4 none) ({ frames := 4, cells := 0, slots := 0, locals := 95 } : Room) (gPc [.ref (A 0), .int (nI (kd)), .int (a), .int (b)] (fun H => va_P D vwCl (cw cA A (jf) (jn) (kf) (rw) (cn) (rl) (clk) (ton) (sd)) H) D cA) (wrV (fun H => va_P D vwCl (cz cA A (zObey (mkz jf jn kf rw cn rl clk ton sd) kd a b)) H) (aS 16 A)) 0 0 (aS 16 A) := by
  refine gOf (by decide) (Nat.le_of_ble_eq_true rfl) ?_
  intro p e s m below meth c ls hx hb hml hr hlk hown hts hnm hP hK hl
  have hl : lv_has ls 4 [(0, .ref (A 0)), (1, .int (nI (kd))), (2, .int (a)), (3, .int (b))] := hl
  have hD : va_D (aS 16 A) (cw cA A (jf) (jn) (kf) (rw) (cn) (rl) (clk) (ton) (sd)) := cwD hA
  have hS : va_S (aS 16 A) s.heap s.heap [] := va_S.rf
  refine lv_iload_n hx hb dX1_obey_0 rfl (lv_at hl 1 rfl) ?_
  have hsw_1 : kd = 0 ∨ kd = 1 ∨ kd = 2 ∨ kd = 3 ∨ kd = 4 ∨ kd = 5 ∨ kd = 6 ∨ kd = 7 := by omega
  rcases hsw_1 with rfl | rfl | rfl | rfl | rfl | rfl | rfl | rfl
  · refine lv_tableIn (off := 43) (tgt := 44) hx hb dX1_obey_1 (by decide +kernel) (by decide +kernel) (by decide +kernel) (by decide) ?_
    have hj9 : jn < 9 := hmay
    refine lv_aload_n hx hb dX1_obey_44 rfl (lv_at hl 0 rfl) ?_
    refine g_get (v := .ref (A 1)) hx hb hts hown hK hP 0 rfl rfl gu_wsX10 0 (by decide) gm_2_21 rfl dX1_obey_45 ?_
    refine lv_iload_n hx hb dX1_obey_48 rfl (lv_at hl 2 rfl) ?_
    refine lv_iload_n hx hb dX1_obey_49 rfl (lv_at hl 3 rfl) ?_
    refine wr_calli (va_runV (As := [.int (a), .int (b)]) (rest := []) ⟨hx, hb, hml, hown, hts⟩ (c_X3_add l D cA (fun k => A (k + 1)) (jf) (jn) (a) (b) (aInj_s hA 1 (by decide)) (by omega)) (cwV 2 hts (gWV gm_45_1 gm_8_13 gm_8_14 gm_2_5 gm_8_15) rfl rfl rfl (by decide +kernel) ⟨Nat.le_of_ble_eq_true rfl, Nat.le_of_ble_eq_true rfl⟩) (gPreV hK (g_rf hK hP (ci := 5) (q0 := 1) rfl rfl) (hP.sub [1, 2, 3, 4, 5] rfl)) rfl rfl hl.1 rfl (lv_room (Nat.le_of_ble_eq_true rfl)) dX1_obey_50 ⟨by omega, by omega⟩) hS (fun q _ h => aS_up (m := 5) (a := 1) (by decide) h) (fun q h => aS_up (m := 5) (a := 1) (by decide) h) (fun r H locs hw9 hz9 hk9 hS => ?_)
    obtain ⟨rfl, hPn⟩ := hw9
    have hP : va_P D vwCl (cw cA A (va_up (va_up (va_up (va_up (jf) 0 (upd (jf 0) jn (a))) 1 (upd (jf 1) jn (b))) 2 (upd (jf 2) jn (nI 0))) 3 (upd (jf 3) jn (nI 0))) (jn + 1) (kf) (rw) (cn) (rl) (clk) (ton) (sd)) H := cw_J hA hP hPn hk9
    have hD : va_D (aS 16 A) (cw cA A (va_up (va_up (va_up (va_up (jf) 0 (upd (jf 0) jn (a))) 1 (upd (jf 1) jn (b))) 2 (upd (jf 2) jn (nI 0))) 3 (upd (jf 3) jn (nI 0))) (jn + 1) (kf) (rw) (cn) (rl) (clk) (ton) (sd)) := cwD hA
    refine lv_pop hx hb dX1_obey_53 rfl ?_
    refine lv_goto (tgt := 119) hx hb dX1_obey_54 (by decide) ?_
    exact g_vretW hx hb hr hlk hS dX1_obey_119 (hP)
  · refine lv_tableIn (off := 56) (tgt := 57) hx hb dX1_obey_1 (by decide +kernel) (by decide +kernel) (by decide +kernel) (by decide) ?_
    have hc9 : cn < 10 := hmay
    refine lv_aload_n hx hb dX1_obey_57 rfl (lv_at hl 0 rfl) ?_
    refine g_get (v := .ref (A 6)) hx hb hts hown hK hP 0 rfl rfl gu_wsX10 1 (by decide) gm_3_1 rfl dX1_obey_58 ?_
    refine lv_iload_n hx hb dX1_obey_61 rfl (lv_at hl 2 rfl) ?_
    refine lv_iload_n hx hb dX1_obey_62 rfl (lv_at hl 3 rfl) ?_
    refine wr_calli (va_runV (As := [.int (a), .int (b)]) (rest := []) ⟨hx, hb, hml, hown, hts⟩ (c_X0_add l D cA (fun k => A (k + 6)) (kf) (rw) (cn) (rl) (a) (b) (aInj_s hA 6 (by decide)) (by omega)) (cwV 2 hts (gWV gm_45_2 gm_10_18 gm_10_19 gm_3_0 gm_10_20) rfl rfl rfl (by decide +kernel) ⟨Nat.le_of_ble_eq_true rfl, Nat.le_of_ble_eq_true rfl⟩) (gPreV hK (g_rf hK hP (ci := 2) (q0 := 6) rfl rfl) (hP.sub [6, 7, 8, 9, 10, 11, 12, 13, 14, 15] rfl)) rfl rfl hl.1 rfl (lv_room (Nat.le_of_ble_eq_true rfl)) dX1_obey_63 ⟨by omega, by omega⟩) hS (fun q _ h => aS_up (m := 10) (a := 6) (by decide) h) (fun q h => aS_up (m := 10) (a := 6) (by decide) h) (fun r H locs hw9 hz9 hk9 hS => ?_)
    obtain ⟨rfl, hPn⟩ := hw9
    have hP : va_P D vwCl (cw cA A (jf) (jn) (va_up (va_up (va_up (va_up (va_up (va_up (va_up (va_up (kf) 0 (upd (kf 0) cn (a))) 1 (upd (kf 1) cn (b))) 2 (upd (kf 2) cn (nI 0))) 3 (upd (kf 3) cn (nI 0))) 4 (upd (kf 4) cn (-1))) 5 (upd (kf 5) cn (-1))) 6 (upd (kf 6) cn (nI 0))) 7 (upd (kf 7) cn (nI 0))) (rw) (cn + 1) (rl) (clk) (ton) (sd)) H := cw_K hA hP hPn hk9
    have hD : va_D (aS 16 A) (cw cA A (jf) (jn) (va_up (va_up (va_up (va_up (va_up (va_up (va_up (va_up (kf) 0 (upd (kf 0) cn (a))) 1 (upd (kf 1) cn (b))) 2 (upd (kf 2) cn (nI 0))) 3 (upd (kf 3) cn (nI 0))) 4 (upd (kf 4) cn (-1))) 5 (upd (kf 5) cn (-1))) 6 (upd (kf 6) cn (nI 0))) 7 (upd (kf 7) cn (nI 0))) (rw) (cn + 1) (rl) (clk) (ton) (sd)) := cwD hA
    refine lv_pop hx hb dX1_obey_66 rfl ?_
    refine lv_goto (tgt := 119) hx hb dX1_obey_67 (by decide) ?_
    exact g_vretW hx hb hr hlk hS dX1_obey_119 (hP)
  · refine lv_tableIn (off := 69) (tgt := 70) hx hb dX1_obey_1 (by decide +kernel) (by decide +kernel) (by decide +kernel) (by decide) ?_
    obtain ⟨q9, hq9, e9⟩ := isIx_n (n := cn) (hmay.1 : isIx a cn = true) (by omega)
    subst e9
    have hkq9 : (nI q9).toNatClampNeg = q9 := nI_clamp (by omega)
    have hr9 : rl ≤ 9 := hmay.2
    refine lv_aload_n hx hb dX1_obey_70 rfl (lv_at hl 0 rfl) ?_
    refine lv_iload_n hx hb dX1_obey_71 rfl (lv_at hl 2 rfl) ?_
    refine wr_calli (va_runV (As := [.int (nI (q9))]) (rest := []) ⟨hx, hb, hml, hown, hts⟩ (c_X1_callPanel l D cA A (jf) (jn) (kf) (rw) (cn) (rl) (clk) (ton) (sd) (q9) hA hjn hcn hr9 hrw (by omega)) (cwV 1 hts (gWV gm_45_3 gm_13_3 gm_13_4 gm_1_16 gm_13_5) rfl rfl rfl (by decide +kernel) ⟨Nat.le_of_ble_eq_true rfl, Nat.le_of_ble_eq_true rfl⟩) (gPreV hK (g_rf hK hP (ci := 3) (q0 := 0) rfl rfl) hP) rfl rfl hl.1 rfl (lv_room (Nat.le_of_ble_eq_true rfl)) dX1_obey_72 ⟨by omega, by omega⟩) hS (fun q _ h => h) (fun q h => h) (fun r H locs hw9 hz9 hk9 hS => ?_)
    obtain ⟨rfl, hP⟩ := hw9
    refine lv_pop hx hb dX1_obey_75 rfl ?_
    refine lv_goto (tgt := 119) hx hb dX1_obey_76 (by decide) ?_
    exact g_vretW hx hb hr hlk hS dX1_obey_119 (by show va_P D vwCl (cz cA A (zObey _ 2 (nI q9) b)) H; rw [zObey, hkq9]; exact hP)
  · refine lv_tableIn (off := 78) (tgt := 79) hx hb dX1_obey_1 (by decide +kernel) (by decide +kernel) (by decide +kernel) (by decide) ?_
    obtain ⟨q9, hq9, e9⟩ := isIx_n (n := cn) (hmay : isIx a cn = true) (by omega)
    subst e9
    have hkq9 : (nI q9).toNatClampNeg = q9 := nI_clamp (by omega)
    refine lv_aload_n hx hb dX1_obey_79 rfl (lv_at hl 0 rfl) ?_
    refine lv_iload_n hx hb dX1_obey_80 rfl (lv_at hl 2 rfl) ?_
    refine wr_calli (va_runV (As := [.int (nI (q9))]) (rest := []) ⟨hx, hb, hml, hown, hts⟩ (c_X1_sayVerdict l D cA A (jf) (jn) (kf) (rw) (cn) (rl) (clk) (ton) (sd) (q9) hA hjn hcn hrl hrw (by omega)) (cwV 1 hts (gWV gm_21_3 gm_16_9 gm_16_10 gm_1_16 gm_16_11) rfl rfl rfl (by decide +kernel) ⟨Nat.le_of_ble_eq_true rfl, Nat.le_of_ble_eq_true rfl⟩) (gPreV hK (g_rf hK hP (ci := 3) (q0 := 0) rfl rfl) hP) rfl rfl hl.1 rfl (lv_room (Nat.le_of_ble_eq_true rfl)) dX1_obey_81 ⟨by omega, by omega⟩) hS (fun q _ h => h) (fun q h => h) (fun r H locs hw9 hz9 hk9 hS => ?_)
    obtain ⟨rfl, hP⟩ := hw9
    refine lv_pop hx hb dX1_obey_84 rfl ?_
    refine lv_goto (tgt := 119) hx hb dX1_obey_85 (by decide) ?_
    exact g_vretW hx hb hr hlk hS dX1_obey_119 (by show va_P D vwCl (cz cA A (zObey _ 3 (nI q9) b)) H; rw [zObey, hkq9]; exact hP)
  · refine lv_tableIn (off := 87) (tgt := 88) hx hb dX1_obey_1 (by decide +kernel) (by decide +kernel) (by decide +kernel) (by decide) ?_
    obtain ⟨q9, hq9, e9⟩ := isIx_n (n := cn) (hmay.1 : isIx a cn = true) (by omega)
    subst e9
    have hkq9 : (nI q9).toNatClampNeg = q9 := nI_clamp (by omega)
    have hr9 : rl ≤ 9 := hmay.2
    refine lv_aload_n hx hb dX1_obey_88 rfl (lv_at hl 0 rfl) ?_
    refine lv_iload_n hx hb dX1_obey_89 rfl (lv_at hl 2 rfl) ?_
    refine wr_calli (va_runV (As := [.int (nI (q9))]) (rest := []) ⟨hx, hb, hml, hown, hts⟩ (c_X1_unsayVerdict l D cA A (jf) (jn) (kf) (rw) (cn) (rl) (clk) (ton) (sd) (q9) hA hjn hcn hr9 hrw (by omega)) (cwV 1 hts (gWV gm_45_4 gm_19_11 gm_19_12 gm_1_16 gm_19_13) rfl rfl rfl (by decide +kernel) ⟨Nat.le_of_ble_eq_true rfl, Nat.le_of_ble_eq_true rfl⟩) (gPreV hK (g_rf hK hP (ci := 3) (q0 := 0) rfl rfl) hP) rfl rfl hl.1 rfl (lv_room (Nat.le_of_ble_eq_true rfl)) dX1_obey_90 ⟨by omega, by omega⟩) hS (fun q _ h => h) (fun q h => h) (fun r H locs hw9 hz9 hk9 hS => ?_)
    obtain ⟨rfl, hP⟩ := hw9
    refine lv_pop hx hb dX1_obey_93 rfl ?_
    refine lv_goto (tgt := 119) hx hb dX1_obey_94 (by decide) ?_
    exact g_vretW hx hb hr hlk hS dX1_obey_119 (by show va_P D vwCl (cz cA A (zObey _ 4 (nI q9) b)) H; rw [zObey, hkq9]; exact hP)
  · refine lv_tableIn (off := 96) (tgt := 97) hx hb dX1_obey_1 (by decide +kernel) (by decide +kernel) (by decide +kernel) (by decide) ?_
    obtain ⟨q9, hq9, e9⟩ := isIx_n (n := cn) (hmay.1 : isIx a cn = true) (by omega)
    subst e9
    have hkq9 : (nI q9).toNatClampNeg = q9 := nI_clamp (by omega)
    have hout : ¬ zOut (mkz jf jn kf rw cn rl clk ton sd) q9 = none := by have z9 := hmay.2.1; rw [hkq9] at z9; exact z9
    have hin : ¬ zIn (mkz jf jn kf rw cn rl clk ton sd) q9 = none := by have z9 := hmay.2.2; rw [hkq9] at z9; exact z9
    refine lv_aload_n hx hb dX1_obey_97 rfl (lv_at hl 0 rfl) ?_
    refine lv_iload_n hx hb dX1_obey_98 rfl (lv_at hl 2 rfl) ?_
    refine wr_calli (va_runV (As := [.int (nI (q9))]) (rest := []) ⟨hx, hb, hml, hown, hts⟩ (c_X1_voteAnew l D cA A (jf) (jn) (kf) (rw) (cn) (rl) (clk) (ton) (sd) (q9) hA hjn hcn hrl hrw (by omega) hout hin) (cwV 1 hts (gWV gm_45_5 gm_20_17 gm_20_18 gm_1_16 gm_20_19) rfl rfl rfl (by decide +kernel) ⟨Nat.le_of_ble_eq_true rfl, Nat.le_of_ble_eq_true rfl⟩) (gPreV hK (g_rf hK hP (ci := 3) (q0 := 0) rfl rfl) hP) rfl rfl hl.1 rfl (lv_room (Nat.le_of_ble_eq_true rfl)) dX1_obey_99 ⟨by omega, by omega⟩) hS (fun q _ h => h) (fun q h => h) (fun r H locs hw9 hz9 hk9 hS => ?_)
    obtain ⟨rfl, hP⟩ := hw9
    refine lv_pop hx hb dX1_obey_102 rfl ?_
    refine lv_goto (tgt := 119) hx hb dX1_obey_103 (by decide) ?_
    exact g_vretW hx hb hr hlk hS dX1_obey_119 (by show va_P D vwCl (cz cA A (zObey _ 5 (nI q9) b)) H; rw [zObey, hkq9]; exact hP)
  · refine lv_tableIn (off := 105) (tgt := 106) hx hb dX1_obey_1 (by decide +kernel) (by decide +kernel) (by decide +kernel) (by decide) ?_
    refine lv_aload_n hx hb dX1_obey_106 rfl (lv_at hl 0 rfl) ?_
    refine wr_calli (va_runV (As := []) (rest := []) ⟨hx, hb, hml, hown, hts⟩ (c_X1_addClerk l D cA A (jf) (jn) (kf) (rw) (cn) (rl) (clk) (ton) (sd)  hA) (cwV 0 hts (gWV gm_45_6 gm_22_2 gm_22_3 gm_1_16 gm_22_4) rfl rfl rfl (by decide +kernel) ⟨Nat.le_of_ble_eq_true rfl, Nat.le_of_ble_eq_true rfl⟩) (gPreV hK (g_rf hK hP (ci := 3) (q0 := 0) rfl rfl) hP) rfl rfl hl.1 rfl (lv_room (Nat.le_of_ble_eq_true rfl)) dX1_obey_107 ⟨by omega, by omega⟩) hS (fun q _ h => h) (fun q h => h) (fun r H locs hw9 hz9 hk9 hS => ?_)
    obtain ⟨rfl, hP⟩ := hw9
    have hP : va_P D vwCl (cw cA A (jf) (jn) (kf) (rw) (cn) (rl) (clk + 1) (ton) (sd)) H := hP
    have hD : va_D (aS 16 A) (cw cA A (jf) (jn) (kf) (rw) (cn) (rl) (clk + 1) (ton) (sd)) := cwD hA
    refine lv_pop hx hb dX1_obey_110 rfl ?_
    refine lv_goto (tgt := 119) hx hb dX1_obey_111 (by decide) ?_
    exact g_vretW hx hb hr hlk hS dX1_obey_119 (hP)
  · refine lv_tableOut (tgt := 114) hx hb dX1_obey_1 (by decide +kernel) (by decide) ?_
    have htn : ton < 99 := hmay
    refine lv_aload_n hx hb dX1_obey_114 rfl (lv_at hl 0 rfl) ?_
    refine wr_calli (va_runV (As := []) (rest := []) ⟨hx, hb, hml, hown, hts⟩ (c_X1_passNight l D cA A (jf) (jn) (kf) (rw) (cn) (rl) (clk) (ton) (sd)  hA hjn hcn hrl hrw hck htn) (cwV 0 hts (gWV gm_45_7 gm_22_23 gm_23_0 gm_1_16 gm_23_1) rfl rfl rfl (by decide +kernel) ⟨Nat.le_of_ble_eq_true rfl, Nat.le_of_ble_eq_true rfl⟩) (gPreV hK (g_rf hK hP (ci := 3) (q0 := 0) rfl rfl) hP) rfl rfl hl.1 rfl (lv_room (Nat.le_of_ble_eq_true rfl)) dX1_obey_115 ⟨by omega, by omega⟩) hS (fun q _ h => h) (fun q h => h) (fun r H locs hw9 hz9 hk9 hS => ?_)
    obtain ⟨rfl, hP⟩ := hw9
    refine lv_pop hx hb dX1_obey_118 rfl ?_
    exact g_vretW hx hb hr hlk hS dX1_obey_119 (hP)

