theorem va_Sup {A B : Nat → Prop} {H0 H : Heap} {locs : List Loc} (hS : va_S A H0 H locs) (hF : ∀ q, A q → B q) : va_S B H0 H locs := ⟨hS.1, fun q h1 h2 => hS.2.1 q h1 (fun z => h2 (hF q z)), fun l h => hF _ (hS.2.2 l h)⟩
def rdR (q : Nat) : Array Value → State → Outcome → State → Prop := fun _ st oc t => oc = .returned (some (.ref q)) ∧ t.heap = st.heap
section GK4
variable {p : Program} {l : Launch} {e : Env} {R : Room} {s : State} {m : MethodId} {args : Array Value} {below : List Frame} {meth : Method} {c : Code} {H : Heap} {locs : List Loc} {cells slots : Nat} {Q : State → Prop} {cc : ByteArray} {pc : Nat} {ls : Array Slot} {rest st0 : List Value} {a : Array Value}
theorem rd_callr {q : Nat} (hr : va_Run p l e R s m args below meth c H locs cells slots 0 0 (F0 m pc ls st0) rest (rdR q a) nF) (kk : W p l e R s m args below meth c H locs cells slots Q (F0 m (pc + 3) ls (.ref q :: rest))) : W p l e R s m args below meth c H locs cells slots Q (F0 m pc ls st0) := by
  intro T hT X
  obtain ⟨v, st₀, t, T', L, h0, X', hL, e1, e2, ⟨hv, hz⟩, st⟩ := hr T hT X
  cases hv
  have hL0 : L = [] := List.eq_nil_iff_forall_not_mem.mpr (fun q hq => hL q hq)
  subst hL0
  rw [List.append_nil] at X'
  obtain ⟨t2, a1, b1⟩ := kk T' (by rw [e1, hz, h0]) X'
  exact ⟨t2, st t2 a1, b1⟩
theorem g_aret {q : Nat} {n : String} (hx : p.tables.exec = Jvm.exec) (hb : c.code = cc) (hr : meth.sig.returnType = some (.object n)) (hlk : meth.locks = false) (hdg : decode cc pc = .ok (.areturn, 1)) : W p l e R s m args below meth c s.heap [] cells slots (MQ below (rdR q) args s cells slots nF) (F0 m pc ls [.ref q]) :=
  W.aret hx hb hr (Or.inl ⟨n, rfl⟩) (Or.inr ⟨q, rfl⟩) (fun t ht _ => ⟨rfl, ht⟩) (fun _ h => nomatch h) hdg hlk
end GK4
set_option maxHeartbeats 1000000 in
set_option maxRecDepth 100000 in
theorem c_X6_lettersOf (l : Launch) (D : va_G) (cA : Nat → ClassId) (AE : Nat → Prop) (adK adV sa : Nat → Nat) (w : Nat) (hw : w < 8) : Met l yX6_lettersOf (gw yX6_lettersOf cX6_lettersOf 1 (some (.object "java/lang/String"))) ({ frames := 0, cells := 0, slots := 0, locals := 0 } : Room) (gPx [.int (nI w)] (fun _ => True) D cA AE adK adV sa) (rdR (adK w)) 0 0 nF := by
  refine gOfx (by decide) (Nat.le_of_ble_eq_true rfl) ?_
  intro p e s m below meth c ls hx hb hml hr hlk hown hts hnm hP hK hE hl
  have hl : lv_has ls 1 [(0, .int (nI w))] := hl
  refine lv_iload_n hx hb dX6_lettersOf_0 rfl (lv_at hl 0 rfl) ?_
  have h9 : w = 0 ∨ w = 1 ∨ w = 2 ∨ w = 3 ∨ w = 4 ∨ w = 5 ∨ w = 6 ∨ w = 7 := by omega
  rcases h9 with rfl | rfl | rfl | rfl | rfl | rfl | rfl | rfl
  · refine lv_tableIn (off := 43) (tgt := 44) hx hb dX6_lettersOf_1 (by decide +kernel) (by decide +kernel) (by decide +kernel) (by decide) ?_
    refine va_ldcS hx hb hown (hE.2.1 0 (RX6, 78, "juror") rfl) dX6_lettersOf_44 ?_
    exact g_aret hx hb hr hlk dX6_lettersOf_46
  · refine lv_tableIn (off := 46) (tgt := 47) hx hb dX6_lettersOf_1 (by decide +kernel) (by decide +kernel) (by decide +kernel) (by decide) ?_
    refine va_ldcS hx hb hown (hE.2.1 1 (RX6, 80, "case") rfl) dX6_lettersOf_47 ?_
    exact g_aret hx hb hr hlk dX6_lettersOf_49
  · refine lv_tableIn (off := 49) (tgt := 50) hx hb dX6_lettersOf_1 (by decide +kernel) (by decide +kernel) (by decide +kernel) (by decide) ?_
    refine va_ldcS hx hb hown (hE.2.1 2 (RX6, 82, "call") rfl) dX6_lettersOf_50 ?_
    exact g_aret hx hb hr hlk dX6_lettersOf_52
  · refine lv_tableIn (off := 52) (tgt := 53) hx hb dX6_lettersOf_1 (by decide +kernel) (by decide +kernel) (by decide +kernel) (by decide) ?_
    refine va_ldcS hx hb hown (hE.2.1 3 (RX6, 84, "vote") rfl) dX6_lettersOf_53 ?_
    exact g_aret hx hb hr hlk dX6_lettersOf_55
  · refine lv_tableIn (off := 55) (tgt := 56) hx hb dX6_lettersOf_1 (by decide +kernel) (by decide +kernel) (by decide +kernel) (by decide) ?_
    refine va_ldcS hx hb hown (hE.2.1 4 (RX6, 86, "unsay") rfl) dX6_lettersOf_56 ?_
    exact g_aret hx hb hr hlk dX6_lettersOf_58
  · refine lv_tableIn (off := 58) (tgt := 59) hx hb dX6_lettersOf_1 (by decide +kernel) (by decide +kernel) (by decide +kernel) (by decide) ?_
    refine va_ldcS hx hb hown (hE.2.1 5 (RX6, 88, "appeal") rfl) dX6_lettersOf_59 ?_
    exact g_aret hx hb hr hlk dX6_lettersOf_61
  · refine lv_tableIn (off := 61) (tgt := 62) hx hb dX6_lettersOf_1 (by decide +kernel) (by decide +kernel) (by decide +kernel) (by decide) ?_
    refine va_ldcS hx hb hown (hE.2.1 6 (RX6, 90, "clerk") rfl) dX6_lettersOf_62 ?_
    exact g_aret hx hb hr hlk dX6_lettersOf_64
  · refine lv_tableOut (tgt := 65) hx hb dX6_lettersOf_1 (by decide +kernel) (by decide) ?_
    refine va_ldcS hx hb hown (hE.2.1 7 (RX6, 92, "night") rfl) dX6_lettersOf_65 ?_
    exact g_aret hx hb hr hlk dX6_lettersOf_67

def laP (tc : Nat → Nat) (tl ta w k : Nat) : Bool := !(decide (ta + k < tl) && decide (nI (tc (ta + k)) = sCh w k))
def laN (tc : Nat → Nat) (tl ta w : Nat) : Nat := (fnd (laP tc tl ta w) (sLen.getD w 0)).getD (sLen.getD w 0)
theorem laN_all {tc : Nat → Nat} {tl ta w : Nat} (h : fnd (laP tc tl ta w) (sLen.getD w 0) = none) : laN tc tl ta w = sLen.getD w 0 := by rw [laN, h]; rfl
theorem laN_at {tc : Nat → Nat} {tl ta w i : Nat} (h : fnd (laP tc tl ta w) i = none) (hd : laP tc tl ta w i = true) (hi : i < sLen.getD w 0) : laN tc tl ta w = i := by rw [laN, fnd_stop h hd _ hi]; rfl
theorem laN_le (tc : Nat → Nat) (tl ta w : Nat) : laN tc tl ta w ≤ sLen.getD w 0 := by
  unfold laN
  cases e : fnd (laP tc tl ta w) (sLen.getD w 0) with
  | none => exact Nat.le_refl _
  | some i => exact Nat.le_of_lt (fnd_lt e)
theorem laN_tl {tc : Nat → Nat} {tl ta w : Nat} (ht : ta ≤ tl) : ta + laN tc tl ta w ≤ tl := by
  have key : ∀ i, fnd (laP tc tl ta w) i = none → ta + i ≤ tl := by
    intro i h
    cases i with
    | zero => exact ht
    | succ i =>
      have e := fnd_some.fnd_no h i (Nat.lt_succ_self i)
      rw [laP] at e
      have e2 : decide (ta + i < tl) = true := by
        cases z : decide (ta + i < tl)
        · rw [z] at e; simp at e
        · rfl
      have := of_decide_eq_true e2
      omega
  unfold laN
  cases e : fnd (laP tc tl ta w) (sLen.getD w 0) with
  | none => exact key _ e
  | some i => exact key i (by
      cases e2 : fnd (laP tc tl ta w) i with
      | none => rfl
      | some j =>
        have h1 := fnd_lt e2
        have h2 := (fnd_some e).2 j h1
        rw [(fnd_some e2).1] at h2
        cases h2)

set_option maxHeartbeats 1000000 in
set_option maxRecDepth 100000 in
theorem c_X6_lettersAlike (l : Launch) (D : va_G) (cA : Nat → ClassId) (AE : Nat → Prop) (adK adV sa : Nat → Nat) (B : Nat → Nat) (tc : Nat → Nat) (tl to : Nat) (kd fi se : Int32) (ta : Nat) (nu : Int32) (w : Nat) (htc : ∀ k, k < tl → tc k < 65536) (htl : tl ≤ 60) (hta : ta ≤ tl) (hw : w < 8) : Met l yX6_lettersAlike (gw yX6_lettersAlike cX6_lettersAlike 3 (some .int)) ({ frames := 4, cells := 0, slots := 0, locals := 121 } : Room) (gPx [.ref (B 0), .ref (adK w)] (fun H => va_P D vwCl (twd cA B (tc) (nI (tl)) (nI (to)) (kd) (fi) (se) (nI (ta)) (nu)) H) D cA AE adK adV sa) (rdI (fun r => r = nI (laN tc tl ta w))) 0 0 nF := by
  refine gOfx (by decide) (Nat.le_of_ble_eq_true rfl) ?_
  intro p e s m below meth c ls hx hb hml hr hlk hown hts hnm hP hK hE hl
  have hl : lv_has ls 3 [(0, .ref (B 0)), (1, .ref (adK w))] := hl
  have h99 := sLen_lt w (by omega)
  refine lv_iconst (v := nI (0)) hx hb dX6_lettersAlike_0 gc_0 ?_
  refine lv_istore_n (lv' := [(2, .int (nI (0))), (0, .ref (B 0)), (1, .ref (adK w))]) hx hb dX6_lettersAlike_1 rfl hl (by decide) rfl (fun ls hl => ?_)
  have LP_4 : ∀ (n_2 i_1 : Nat) (x_3 : Int32), i_1 ≤ (sLen.getD w 0) → (sLen.getD w 0) + 1 ≤ i_1 + n_2 → x_3 = nI (i_1) → (fnd (laP tc tl ta w) (i_1) = none) → ∀ (ls : Array Slot), lv_has ls 3 [(2, .int (x_3)), (0, .ref (B 0)), (1, .ref (adK w))] → W p l e ({ frames := 4, cells := 0, slots := 0, locals := 121 } : Room) s m ([.ref (B 0), .ref (adK w)] : List Value).toArray below meth c s.heap [] 0 0 (MQ below (rdI (fun r => r = nI (laN tc tl ta w))) ([.ref (B 0), .ref (adK w)] : List Value).toArray s 0 0 nF) (F0 m 2 ls []) := by
    intro n_2
    induction n_2 with
    | zero => intro i_1 x_3 h1 h2; exact absurd h2 (by omega)
    | succ n_2 ih_6 =>
      intro i_1 x_3 h_7 h_8 e_5 hv ls hl
      subst e_5
      refine lv_iload_n hx hb dX6_lettersAlike_2 rfl (lv_at hl 0 rfl) ?_
      refine lv_aload_n hx hb dX6_lettersAlike_3 rfl (lv_at hl 2 rfl) ?_
      refine rd_calle (va_runV (As := []) (rest := [.int (nI (i_1))]) ⟨hx, hb, hml, hown, hts⟩ (c_slen l D cA AE adK adV sa (w) (by omega)) (cwV 0 hts (gWV gm_41_3 gm_41_4 gm_41_5 gm_41_6 gm_41_7) rfl rfl rfl (by decide +kernel) ⟨Nat.le_of_ble_eq_true rfl, Nat.le_of_ble_eq_true rfl⟩) (gPreVx hK hE va_S.rf (fun _ h => h) (vk_recv (eS hE) (by omega) va_S.rf) trivial) rfl rfl hl.1 rfl (lv_room (Nat.le_of_ble_eq_true rfl)) dX6_lettersAlike_4 ⟨by omega, by omega⟩) ?_
      refine g_icmp_ge (P := sLen.getD (w) 0 ≤ i_1) (tgt := 48) hx hb dX6_lettersAlike_7 (by decide) (nI_leI (by omega) (by omega)) (fun c_9 => ?_) (fun c_9 => ?_)
      · have d_9 : ¬ i_1 < sLen.getD (w) 0 := Nat.not_lt.mpr c_9
        have hN_10 : (sLen.getD w 0) = i_1 := by omega
        subst hN_10
        refine lv_iload_n hx hb dX6_lettersAlike_48 rfl (lv_at hl 0 rfl) ?_
        exact g_iret (v := nI (((sLen.getD w 0)))) hx hb hr hlk dX6_lettersAlike_49 (by rw [laN_all hv])
      · have d_9 : i_1 < sLen.getD (w) 0 := Nat.not_le.mp c_9
        refine lv_aload_n hx hb dX6_lettersAlike_10 rfl (lv_at hl 1 rfl) ?_
        refine g_get (v := .int (nI (ta))) hx hb hts hown hK hP 0 rfl rfl gu_wsX60 6 (by decide) gm_5_3 rfl dX6_lettersAlike_11 ?_
        refine lv_iload_n hx hb dX6_lettersAlike_14 rfl (lv_at hl 0 rfl) ?_
        refine g_iadd hx hb dX6_lettersAlike_15 ?_
        refine lv_aload_n hx hb dX6_lettersAlike_16 rfl (lv_at hl 1 rfl) ?_
        refine g_get (v := .int (nI (tl))) hx hb hts hown hK hP 0 rfl rfl gu_wsX60 1 (by decide) gm_4_22 rfl dX6_lettersAlike_17 ?_
        refine g_icmp_ge (P := tl ≤ (ta) + (i_1)) (tgt := 48) hx hb dX6_lettersAlike_20 (by decide) (nI_leI (by omega) (by omega)) (fun c_11 => ?_) (fun c_11 => ?_)
        · have d_11 : ¬ (ta) + (i_1) < tl := Nat.not_lt.mpr c_11
          refine lv_iload_n hx hb dX6_lettersAlike_48 rfl (lv_at hl 0 rfl) ?_
          exact g_iret (v := nI (i_1)) hx hb hr hlk dX6_lettersAlike_49 (by rw [laN_at hv (by simp [laP, c_9, c_11] <;> omega) (by omega)])
        · have d_11 : (ta) + (i_1) < tl := Nat.not_le.mp c_11
          refine lv_aload_n hx hb dX6_lettersAlike_23 rfl (lv_at hl 1 rfl) ?_
          refine g_get (v := .ref (B 1)) hx hb hts hown hK hP 0 rfl rfl gu_wsX60 0 (by decide) gm_4_21 rfl dX6_lettersAlike_24 ?_
          refine lv_aload_n hx hb dX6_lettersAlike_27 rfl (lv_at hl 1 rfl) ?_
          refine g_get (v := .int (nI (ta))) hx hb hts hown hK hP 0 rfl rfl gu_wsX60 6 (by decide) gm_5_3 rfl dX6_lettersAlike_28 ?_
          refine lv_iload_n hx hb dX6_lettersAlike_31 rfl (lv_at hl 0 rfl) ?_
          refine g_iadd hx hb dX6_lettersAlike_32 ?_
          refine g_cald (x := nI (tc ((ta) + (i_1)))) hx hb hK hP 1 rfl (by omega) (by decide) rfl dX6_lettersAlike_33 ?_
          refine lv_aload_n hx hb dX6_lettersAlike_34 rfl (lv_at hl 2 rfl) ?_
          refine lv_iload_n hx hb dX6_lettersAlike_35 rfl (lv_at hl 0 rfl) ?_
          refine rd_calle (va_runV (As := [.int (nI (i_1))]) (rest := [.int (nI (tc ((ta) + (i_1))))]) ⟨hx, hb, hml, hown, hts⟩ (c_scat l D cA AE adK adV sa (w) (i_1) (by omega) (by omega)) (cwV 1 hts (gWV gm_41_15 gm_41_16 gm_41_17 gm_41_6 gm_41_18) rfl rfl rfl (by decide +kernel) ⟨Nat.le_of_ble_eq_true rfl, Nat.le_of_ble_eq_true rfl⟩) (gPreVx hK hE va_S.rf (fun _ h => h) (vk_recv (eS hE) (by omega) va_S.rf) trivial) rfl rfl hl.1 rfl (lv_room (Nat.le_of_ble_eq_true rfl)) dX6_lettersAlike_36 ⟨by omega, by omega⟩) ?_
          refine g_icmp_ne (P := nI (tc ((ta) + (i_1))) = sCh (w) (i_1)) (tgt := 48) hx hb dX6_lettersAlike_39 (by decide) Iff.rfl (fun c_12 => ?_) (fun c_12 => ?_)
          · refine lv_iload_n hx hb dX6_lettersAlike_48 rfl (lv_at hl 0 rfl) ?_
            exact g_iret (v := nI (i_1)) hx hb hr hlk dX6_lettersAlike_49 (by rw [laN_at hv (by simp [laP, c_9, c_11, c_12] <;> omega) (by omega)])
          · refine lv_iinc (v := nI (i_1 + 1)) (lv' := [(2, .int (nI (i_1 + 1))), (0, .ref (B 0)), (1, .ref (adK w))]) hx hb dX6_lettersAlike_42 hl (k := 0) rfl (inc_1 _) (by decide) rfl (fun ls hl => ?_)
            refine lv_goto (tgt := 2) hx hb dX6_lettersAlike_45 (by decide) ?_
            exact ih_6 (i_1 + 1) _ (by omega) (by omega) rfl (fnd_succ_none hv (by simp [laP, c_9, c_11, c_12] <;> omega)) ls (lv_sub hl [0, 1, 2] rfl)
  exact LP_4 ((sLen.getD w 0) + 1) 0 _ (by omega) (by omega) rfl rfl ls (lv_sub hl [0, 1, 2] rfl)

def rwK (tc : Nat → Nat) (tl ta : Nat) : Option Nat := fnd (fun w => decide (laN tc tl ta w = sLen.getD w 0)) 8
def fwN (tc : Nat → Nat) (tl ta : Nat) : Nat → Nat
  | 0 => 0
  | k + 1 => if fwN tc tl ta k < laN tc tl ta k then laN tc tl ta k else fwN tc tl ta k
termination_by k => k
def rwA (tc : Nat → Nat) (tl ta : Nat) : Nat := ta + (match rwK tc tl ta with
  | some w => laN tc tl ta w
  | none => fwN tc tl ta 8)
theorem fwN_0 {tc : Nat → Nat} {tl ta : Nat} : fwN tc tl ta 0 = 0 := by rw [fwN]
theorem fwN_1 {tc : Nat → Nat} {tl ta k : Nat} : fwN tc tl ta (k + 1) = if fwN tc tl ta k < laN tc tl ta k then laN tc tl ta k else fwN tc tl ta k := by rw [fwN]
theorem fwN_tl {tc : Nat → Nat} {tl ta : Nat} (ht : ta ≤ tl) : ∀ k, ta + fwN tc tl ta k ≤ tl
  | 0 => by rw [fwN_0]; exact ht
  | k + 1 => by
    have h1 := fwN_tl (tc := tc) ht k
    have h2 := laN_tl (tc := tc) (w := k) ht
    rw [fwN_1]
    split <;> omega
theorem rwA_s {tc : Nat → Nat} {tl ta w : Nat} (h : rwK tc tl ta = some w) : rwA tc tl ta = ta + laN tc tl ta w := by rw [rwA, h]
theorem rwA_n {tc : Nat → Nat} {tl ta : Nat} (h : rwK tc tl ta = none) : rwA tc tl ta = ta + fwN tc tl ta 8 := by rw [rwA, h]
theorem rwA_le {tc : Nat → Nat} {tl ta : Nat} (ht : ta ≤ tl) : rwA tc tl ta ≤ tl := by
  cases e : rwK tc tl ta with
  | none => rw [rwA_n e]; exact fwN_tl ht 8
  | some w => rw [rwA_s e]; exact laN_tl ht
theorem fwN_60 {tc : Nat → Nat} {tl ta : Nat} (ht : ta ≤ tl) (hl : tl ≤ 60) (k : Nat) : fwN tc tl ta k ≤ 60 := by have := fwN_tl (tc := tc) ht k; omega

set_option maxHeartbeats 1000000 in
set_option maxRecDepth 100000 in
theorem c_X6_readWord (l : Launch) (D : va_G) (cA : Nat → ClassId) (AE : Nat → Prop) (adK adV sa : Nat → Nat) (B : Nat → Nat) (tc : Nat → Nat) (tl to : Nat) (kd fi se : Int32) (ta : Nat) (nu : Int32) (hA : aInj 2 B) (htc : ∀ k, k < tl → tc k < 65536) (htl : tl ≤ 60) (hta : ta ≤ tl) (hFA : ∀ q, (aS 2 B) q → AE q) : Met l yX6_readWord (gw yX6_readWord cX6_readWord 5 (some .int)) ({ frames := 5, cells := 0, slots := 0, locals := 143 } : Room) (gPx [.ref (B 0)] (fun H => va_P D vwCl (twd cA B (tc) (nI (tl)) (nI (to)) (kd) (fi) (se) (nI (ta)) (nu)) H) D cA AE adK adV sa) (wrI (fun r H => r = oI (rwK tc tl ta) ∧ va_P D vwCl (twd cA B (tc) (nI tl) (nI to) (kd) (fi) (se) (nI (rwA tc tl ta)) (nu)) H) (aS 2 B)) 0 0 (aS 2 B) := by
  refine gOfx (by decide) (Nat.le_of_ble_eq_true rfl) ?_
  intro p e s m below meth c ls hx hb hml hr hlk hown hts hnm hP hK hE hl
  have hl : lv_has ls 5 [(0, .ref (B 0))] := hl
  have hD : va_D (aS 2 B) (twd cA B (tc) (nI (tl)) (nI (to)) (kd) (fi) (se) (nI (ta)) (nu)) := twdD hA
  have hS : va_S (aS 2 B) s.heap s.heap [] := va_S.rf
  refine lv_iconst (v := nI (0)) hx hb dX6_readWord_0 gc_0 ?_
  refine lv_istore_n (lv' := [(1, .int (nI (0))), (0, .ref (B 0))]) hx hb dX6_readWord_1 rfl hl (by decide) rfl (fun ls hl => ?_)
  refine lv_iconst (v := nI (0)) hx hb dX6_readWord_2 gc_0 ?_
  refine lv_istore_n (lv' := [(2, .int (nI (0))), (1, .int (nI (0))), (0, .ref (B 0))]) hx hb dX6_readWord_3 rfl hl (by decide) rfl (fun ls hl => ?_)
  have LP_5 : ∀ (n_2 i_1 : Nat) (x_3 x_4 : Int32) (H : Heap) (locs : List Loc), i_1 ≤ 8 → 8 + 1 ≤ i_1 + n_2 → x_3 = nI (i_1) → x_4 = nI (fwN tc tl ta i_1) → (fnd (fun w => decide (laN tc tl ta w = sLen.getD w 0)) (i_1) = none) → va_P D vwCl (twd cA B (tc) (nI (tl)) (nI (to)) (kd) (fi) (se) (nI (ta)) (nu)) H → va_S (aS 2 B) s.heap H locs → ∀ (ls : Array Slot), lv_has ls 5 [(2, .int (x_3)), (1, .int (x_4)), (0, .ref (B 0))] → W p l e ({ frames := 5, cells := 0, slots := 0, locals := 143 } : Room) s m ([.ref (B 0)] : List Value).toArray below meth c H locs 0 0 (MQ below (wrI (fun r H => r = oI (rwK tc tl ta) ∧ va_P D vwCl (twd cA B (tc) (nI tl) (nI to) (kd) (fi) (se) (nI (rwA tc tl ta)) (nu)) H) (aS 2 B)) ([.ref (B 0)] : List Value).toArray s 0 0 (aS 2 B)) (F0 m 4 ls []) := by
    intro n_2
    induction n_2 with
    | zero => intro i_1 x_3 x_4 H locs h1 h2; exact absurd h2 (by omega)
    | succ n_2 ih_6 =>
      intro i_1 x_3 x_4 H locs h_7 h_8 e_9 e_10 hv hP hS ls hl
      subst e_9
      subst e_10
      have hD : va_D (aS 2 B) (twd cA B (tc) (nI (tl)) (nI (to)) (kd) (fi) (se) (nI (ta)) (nu)) := twdD hA
      have hfw9 := fwN_60 (tc := tc) (by omega : ta ≤ tl) htl i_1
      refine lv_iload_n hx hb dX6_readWord_4 rfl (lv_at hl 0 rfl) ?_
      refine lv_bipush (v := nI (7)) hx hb dX6_readWord_5 gb_7 ?_
      refine g_icmp_gt (P := 7 < i_1) (tgt := 57) hx hb dX6_readWord_7 (by decide) (nI_ltI (by omega) (by omega)) (fun c_11 => ?_) (fun c_11 => ?_)
      · have d_11 : ¬ i_1 ≤ 7 := Nat.not_le.mpr c_11
        have hN_12 : 8 = i_1 := by omega
        subst hN_12
        refine lv_aload_n hx hb dX6_readWord_57 rfl (lv_at hl 2 rfl) ?_
        refine lv_dup hx hb dX6_readWord_58 rfl ?_
        refine g_get (v := .int (nI (ta))) hx hb hts hown hK hP 0 rfl rfl gu_wsX60 6 (by decide) gm_5_3 rfl dX6_readWord_59 ?_
        refine lv_iload_n hx hb dX6_readWord_62 rfl (lv_at hl 1 rfl) ?_
        refine g_iadd hx hb dX6_readWord_63 ?_
        refine g_put (ws' := twd cA B (tc) (nI (tl)) (nI (to)) (kd) (fi) (se) (nI ((ta) + (fwN tc tl ta (8)))) (nu)) hx hb hts hown hK hP hD hS 0 rfl rfl gu_wsX60 tyX6_ok nmX6 6 (by decide) gm_5_3 rfl rfl rfl (Nat.le_of_ble_eq_true rfl) (by first | rfl | (rw [updN_nI]; rfl)) dX6_readWord_64 (fun H locs hP hD hS => ?_)
        refine lv_iconst (v := -1) hx hb dX6_readWord_67 gc_m1 ?_
        exact g_iretW (v := -1) hx hb hr hlk hS dX6_readWord_68 (by have e9 : rwK tc tl ta = none := hv ; rw [e9, rwA_n e9]; exact ⟨rfl, hP⟩)
      · have d_11 : i_1 ≤ 7 := Nat.not_lt.mp c_11
        refine lv_iload_n hx hb dX6_readWord_10 rfl (lv_at hl 0 rfl) ?_
        refine rd_callr (va_runS (As := [.int (nI (i_1))]) (rest := []) ⟨hx, hb, hml, hown, hts⟩ (c_X6_lettersOf l D cA AE adK adV sa (i_1) (by omega)) (cwS 1 hts (gWS gm_40_20 gm_40_21 gm_2_9 gm_40_22) rfl rfl rfl (by decide +kernel) ⟨Nat.le_of_ble_eq_true rfl, Nat.le_of_ble_eq_true rfl⟩) (gPreSx hK hE hS hFA trivial) rfl rfl hl.1 rfl (lv_room (Nat.le_of_ble_eq_true rfl)) dX6_readWord_11 ⟨by omega, by omega⟩) ?_
        refine lv_astore_n (lv' := [(3, .ref (adK (i_1))), (2, .int (nI (i_1))), (1, .int (nI (fwN tc tl ta i_1))), (0, .ref (B 0))]) hx hb dX6_readWord_14 rfl hl (by decide) rfl (fun ls hl => ?_)
        refine lv_aload_n hx hb dX6_readWord_15 rfl (lv_at hl 3 rfl) ?_
        refine lv_aload_n hx hb dX6_readWord_16 rfl (lv_at hl 0 rfl) ?_
        refine rd_calle (va_runV (As := [.ref (adK (i_1))]) (rest := []) ⟨hx, hb, hml, hown, hts⟩ (c_X6_lettersAlike l D cA AE adK adV sa B (tc) (tl) (to) (kd) (fi) (se) (ta) (nu) (i_1) htc htl (by omega) (by omega)) (cwV 1 hts (gWV gm_40_23 gm_41_0 gm_41_1 gm_2_9 gm_41_2) rfl rfl rfl (by decide +kernel) ⟨Nat.le_of_ble_eq_true rfl, Nat.le_of_ble_eq_true rfl⟩) (gPreVx hK hE hS hFA (g_rf hK hP (ci := 8) (q0 := 0) rfl rfl) hP) rfl rfl hl.1 rfl (lv_room (Nat.le_of_ble_eq_true rfl)) dX6_readWord_17 ⟨by omega, by omega⟩) ?_
        refine lv_istore (lv' := [(4, .int (nI (laN tc tl ta (i_1)))), (3, .ref (adK (i_1))), (2, .int (nI (i_1))), (1, .int (nI (fwN tc tl ta i_1))), (0, .ref (B 0))]) hx hb dX6_readWord_20 hl (by decide) rfl (fun ls hl => ?_)
        have hla_13 := laN_tl (tc := tc) (w := i_1) (by omega : ta ≤ tl)
        have hsl_14 := sLen_lt i_1 (by omega)
        refine lv_iload hx hb dX6_readWord_22 (lv_at hl 0 rfl) ?_
        refine lv_aload_n hx hb dX6_readWord_24 rfl (lv_at hl 1 rfl) ?_
        refine rd_calle (va_runV (As := []) (rest := [.int (nI (laN tc tl ta (i_1)))]) ⟨hx, hb, hml, hown, hts⟩ (c_slen l D cA AE adK adV sa ((i_1)) (by omega)) (cwV 0 hts (gWV gm_41_3 gm_41_4 gm_41_5 gm_41_6 gm_41_7) rfl rfl rfl (by decide +kernel) ⟨Nat.le_of_ble_eq_true rfl, Nat.le_of_ble_eq_true rfl⟩) (gPreVx hK hE hS hFA (vk_recv (eS hE) (by omega) (va_Sup hS hFA)) trivial) rfl rfl hl.1 rfl (lv_room (Nat.le_of_ble_eq_true rfl)) dX6_readWord_25 ⟨by omega, by omega⟩) ?_
        refine g_icmp_ne (P := laN tc tl ta (i_1) = sLen.getD ((i_1)) 0) (tgt := 44) hx hb dX6_readWord_28 (by decide) (nI_eq (by omega) (by omega)) (fun c_15 => ?_) (fun c_15 => ?_)
        · refine lv_iload_n hx hb dX6_readWord_44 rfl (lv_at hl 3 rfl) ?_
          refine lv_iload hx hb dX6_readWord_45 (lv_at hl 0 rfl) ?_
          refine va_mmax hx hb (hml.trans hl.1.symm) hown (hts _ (List.mem_cons_of_mem _ gm_40_19)) (hts _ (List.mem_cons_of_mem _ gm_17_5)) (hts _ (List.mem_cons_of_mem _ gm_8_10)) (hts _ (List.mem_cons_of_mem _ gm_17_6)) (by decide) (Nat.le_of_ble_eq_true rfl) (Nat.zero_le _) (Nat.zero_le _) dX6_readWord_47 ?_
          refine g_top (z := nI (if fwN tc tl ta i_1 < laN tc tl ta (i_1) then laN tc tl ta (i_1) else fwN tc tl ta i_1)) (mmax_n (by omega) (by omega)) ?_
          refine lv_istore_n (lv' := [(1, .int (nI ((if fwN tc tl ta i_1 < laN tc tl ta (i_1) then laN tc tl ta (i_1) else fwN tc tl ta i_1)))), (4, .int (nI (laN tc tl ta (i_1)))), (3, .ref (adK (i_1))), (2, .int (nI (i_1))), (0, .ref (B 0))]) hx hb dX6_readWord_50 rfl hl (by decide) rfl (fun ls hl => ?_)
          refine lv_iinc (v := nI (i_1 + 1)) (lv' := [(2, .int (nI (i_1 + 1))), (1, .int (nI ((if fwN tc tl ta i_1 < laN tc tl ta (i_1) then laN tc tl ta (i_1) else fwN tc tl ta i_1)))), (4, .int (nI (laN tc tl ta (i_1)))), (3, .ref (adK (i_1))), (0, .ref (B 0))]) hx hb dX6_readWord_51 hl (k := 3) rfl (inc_1 _) (by decide) rfl (fun ls hl => ?_)
          refine lv_goto (tgt := 4) hx hb dX6_readWord_54 (by decide) ?_
          exact ih_6 (i_1 + 1) _ _ H locs (by omega) (by omega) rfl (by rw [fwN_1]) (fnd_succ_none hv (decide_eq_false c_15)) hP hS ls (lv_sub hl [0, 1, 4] rfl)
        · refine lv_aload_n hx hb dX6_readWord_31 rfl (lv_at hl 4 rfl) ?_
          refine lv_dup hx hb dX6_readWord_32 rfl ?_
          refine g_get (v := .int (nI (ta))) hx hb hts hown hK hP 0 rfl rfl gu_wsX60 6 (by decide) gm_5_3 rfl dX6_readWord_33 ?_
          refine lv_iload hx hb dX6_readWord_36 (lv_at hl 0 rfl) ?_
          refine g_iadd hx hb dX6_readWord_38 ?_
          refine g_put (ws' := twd cA B (tc) (nI (tl)) (nI (to)) (kd) (fi) (se) (nI ((ta) + (laN tc tl ta (i_1)))) (nu)) hx hb hts hown hK hP hD hS 0 rfl rfl gu_wsX60 tyX6_ok nmX6 6 (by decide) gm_5_3 rfl rfl rfl (Nat.le_of_ble_eq_true rfl) (by first | rfl | (rw [updN_nI]; rfl)) dX6_readWord_39 (fun H locs hP hD hS => ?_)
          refine lv_iload_n hx hb dX6_readWord_42 rfl (lv_at hl 2 rfl) ?_
          exact g_iretW (v := nI (i_1)) hx hb hr hlk hS dX6_readWord_43 (by have e9 : rwK tc tl ta = some i_1 := fnd_stop hv (decide_eq_true c_15) 8 (by omega) ; rw [e9, rwA_s e9]; exact ⟨rfl, hP⟩)
  exact LP_5 (8 + 1) 0 _ _ s.heap [] (by omega) (by omega) rfl (by rw [fwN_0]) rfl hP hS ls (lv_sub hl [0, 1, 2] rfl)

abbrev TX : Type := Nat × (Int32 × (Int32 × (Int32 × Int32)))
def roT (tc : Nat → Nat) (tl t w : Nat) (fi se nu : Int32) : Bool × TX := match w with
  | 0 => if (rnO tc tl t 1 true).1 = true then ((rnO tc tl (rnO tc tl t 1 true).2.1 1 false).1, ((rnO tc tl (rnO tc tl t 1 true).2.1 1 false).2.1, (nI 0, ((rnO tc tl t 1 true).2.2, ((rnO tc tl (rnO tc tl t 1 true).2.1 1 false).2.2, (rnO tc tl (rnO tc tl t 1 true).2.1 1 false).2.2))))) else (false, ((rnO tc tl t 1 true).2.1, (nI 0, ((rnO tc tl t 1 true).2.2, (se, (rnO tc tl t 1 true).2.2)))))
  | 1 => if (rnO tc tl t 3 false).1 = true then ((rnO tc tl (rnO tc tl t 3 false).2.1 2 false).1, ((rnO tc tl (rnO tc tl t 3 false).2.1 2 false).2.1, (nI 1, ((rnO tc tl t 3 false).2.2, ((rnO tc tl (rnO tc tl t 3 false).2.1 2 false).2.2, (rnO tc tl (rnO tc tl t 3 false).2.1 2 false).2.2))))) else (false, ((rnO tc tl t 3 false).2.1, (nI 1, ((rnO tc tl t 3 false).2.2, (se, (rnO tc tl t 3 false).2.2)))))
  | 6 => (true, (t, (nI 6, (fi, (se, nu)))))
  | 7 => (true, (t, (nI 7, (fi, (se, nu)))))
  | w => ((rnO tc tl t 1 false).1, ((rnO tc tl t 1 false).2.1, (nI w, ((rnO tc tl t 1 false).2.2, (se, (rnO tc tl t 1 false).2.2)))))
def oMt {α : Type} (o : Option Nat) (x : α) (f : Nat → α) : α := match o with
  | none => x
  | some w => f w
def roK (tc : Nat → Nat) (tl t : Nat) (fi se nu : Int32) : Bool × TX := oMt (rwK tc tl t) (false, (rwA tc tl t, (-1, (fi, (se, nu))))) (fun w => roT tc tl (rwA tc tl t) w fi se nu)
def roO (tc : Nat → Nat) (tl ta : Nat) (kd fi se nu : Int32) : Bool × TX := if ta = 0 then roK tc tl ta fi se nu else if (tkO tc tl ta 59).1 = true then roK tc tl (ta + 1) fi se nu else (false, (ta, (kd, (fi, (se, nu)))))
theorem roK_n {tc : Nat → Nat} {tl t : Nat} {fi se nu : Int32} (h : rwK tc tl t = none) : roK tc tl t fi se nu = (false, (rwA tc tl t, (-1, (fi, (se, nu))))) := congrArg (fun o => oMt o (false, (rwA tc tl t, (-1, (fi, (se, nu))))) (fun w => roT tc tl (rwA tc tl t) w fi se nu)) h
theorem roK_s {tc : Nat → Nat} {tl t w : Nat} {fi se nu : Int32} (h : rwK tc tl t = some w) : roK tc tl t fi se nu = roT tc tl (rwA tc tl t) w fi se nu := congrArg (fun o => oMt o (false, (rwA tc tl t, (-1, (fi, (se, nu))))) (fun w => roT tc tl (rwA tc tl t) w fi se nu)) h
theorem roT_le {tc : Nat → Nat} {tl t w : Nat} {fi se nu : Int32} (ht : t ≤ tl) : (roT tc tl t w fi se nu).2.1 ≤ tl := by
  unfold roT
  split
  · split
    · exact rnO_le (rnO_le ht)
    · exact rnO_le ht
  · split
    · exact rnO_le (rnO_le ht)
    · exact rnO_le ht
  · exact ht
  · exact ht
  · exact rnO_le ht
theorem roK_le {tc : Nat → Nat} {tl t : Nat} {fi se nu : Int32} (ht : t ≤ tl) : (roK tc tl t fi se nu).2.1 ≤ tl := by
  cases e : rwK tc tl t with
  | none => rw [roK_n e]; exact rwA_le ht
  | some w => rw [roK_s e]; exact roT_le (rwA_le ht)
theorem roO_le {tc : Nat → Nat} {tl ta : Nat} {kd fi se nu : Int32} (ht : ta ≤ tl) : (roO tc tl ta kd fi se nu).2.1 ≤ tl := by
  unfold roO
  split
  · exact roK_le ht
  · split
    · exact roK_le (tkO_lt (w := 59) (by decide) (by assumption))
    · exact ht

set_option maxHeartbeats 1000000 in
set_option maxRecDepth 100000 in
theorem c_X6_readOrder (l : Launch) (D : va_G) (cA : Nat → ClassId) (AE : Nat → Prop) (adK adV sa : Nat → Nat) (B : Nat → Nat) (tc : Nat → Nat) (tl to : Nat) (kd fi se : Int32) (ta : Nat) (nu : Int32) (hA : aInj 2 B) (htc : ∀ k, k < tl → tc k < 65536) (htl : tl ≤ 60) (hta : ta ≤ tl) (hFA : ∀ q, (aS 2 B) q → AE q) : Met l yX6_readOrder (gw yX6_readOrder cX6_readOrder 1 (some .boolean)) ({ frames := 6, cells := 0, slots := 0, locals := 167 } : Room) (gPx [.ref (B 0)] (fun H => va_P D vwCl (twd cA B (tc) (nI (tl)) (nI (to)) (kd) (fi) (se) (nI (ta)) (nu)) H) D cA AE adK adV sa) (wrI (fun r H => r = b2i (roO tc tl ta kd fi se nu).1 ∧ va_P D vwCl (twd cA B (tc) (nI tl) (nI to) ((roO tc tl ta kd fi se nu).2.2.1) ((roO tc tl ta kd fi se nu).2.2.2.1) ((roO tc tl ta kd fi se nu).2.2.2.2.1) (nI (roO tc tl ta kd fi se nu).2.1) ((roO tc tl ta kd fi se nu).2.2.2.2.2)) H) (aS 2 B)) 0 0 (aS 2 B) := by
  refine gOfx (by decide) (Nat.le_of_ble_eq_true rfl) ?_
  intro p e s m below meth c ls hx hb hml hr hlk hown hts hnm hP hK hE hl
  have hl : lv_has ls 1 [(0, .ref (B 0))] := hl
  have hD : va_D (aS 2 B) (twd cA B (tc) (nI (tl)) (nI (to)) (kd) (fi) (se) (nI (ta)) (nu)) := twdD hA
  have hS : va_S (aS 2 B) s.heap s.heap [] := va_S.rf
  refine lv_aload_n hx hb dX6_readOrder_0 rfl (lv_at hl 0 rfl) ?_
  refine g_get (v := .int (nI (ta))) hx hb hts hown hK hP 0 rfl rfl gu_wsX60 6 (by decide) gm_5_3 rfl dX6_readOrder_1 ?_
  refine g_if_le (P := ta = 0) (tgt := 18) hx hb dX6_readOrder_4 (by decide) (nI_ez (a := ta) (by omega)) (fun c_1 => ?_) (fun c_1 => ?_)
  · refine lv_aload_n hx hb dX6_readOrder_18 rfl (lv_at hl 0 rfl) ?_
    refine lv_aload_n hx hb dX6_readOrder_19 rfl (lv_at hl 0 rfl) ?_
    refine wr_calli (va_runV (As := []) (rest := [.ref (B 0)]) ⟨hx, hb, hml, hown, hts⟩ (c_X6_readWord l D cA AE adK adV sa B (tc) (tl) (to) (kd) (fi) (se) (ta) (nu)  hA htc htl (by omega) hFA) (cwV 0 hts (gWV gm_40_15 gm_40_16 gm_40_17 gm_2_9 gm_40_18) rfl rfl rfl (by decide +kernel) ⟨Nat.le_of_ble_eq_true rfl, Nat.le_of_ble_eq_true rfl⟩) (gPreVx hK hE hS hFA (g_rf hK hP (ci := 8) (q0 := 0) rfl rfl) hP) rfl rfl hl.1 rfl (lv_room (Nat.le_of_ble_eq_true rfl)) dX6_readOrder_20 ⟨by omega, by omega⟩) hS (fun q _ h => h) (fun q h => h) (fun r H locs hw9 hz9 hk9 hS => ?_)
    obtain ⟨rfl, hP⟩ := hw9
    have hP : va_P D vwCl (twd cA B (tc) (nI (tl)) (nI (to)) (kd) (fi) (se) (nI (rwA tc tl ta)) (nu)) H := hP
    have hD : va_D (aS 2 B) (twd cA B (tc) (nI (tl)) (nI (to)) (kd) (fi) (se) (nI (rwA tc tl ta)) (nu)) := twdD hA
    have hrw9 := rwA_le (tc := tc) (tl := tl) (ta := ta) (by omega)
    rcases hkw : rwK tc tl ta with _ | w9
    · refine g_top (z := -1) rfl ?_
      refine g_put (ws' := twd cA B (tc) (nI (tl)) (nI (to)) (-1) (fi) (se) (nI (rwA tc tl ta)) (nu)) hx hb hts hown hK hP hD hS 0 rfl rfl gu_wsX60 tyX6_ok nmX6 3 (by decide) gm_5_0 rfl rfl rfl (Nat.le_of_ble_eq_true rfl) (by first | rfl | (rw [updN_nI]; rfl)) dX6_readOrder_23 (fun H locs hP hD hS => ?_)
      refine lv_aload_n hx hb dX6_readOrder_26 rfl (lv_at hl 0 rfl) ?_
      refine g_get (v := .int (-1)) hx hb hts hown hK hP 0 rfl rfl gu_wsX60 3 (by decide) gm_5_0 rfl dX6_readOrder_27 ?_
      refine lv_tableIn (off := 50) (tgt := 80) hx hb dX6_readOrder_30 (by decide +kernel) (by decide +kernel) (by decide +kernel) (by decide) ?_
      refine lv_iconst (v := nI (0)) hx hb dX6_readOrder_80 gc_0 ?_
      exact g_zretW (v := nI (0)) hx hb hr hlk rfl hS dX6_readOrder_81 (by rw [roO, if_pos c_1, roK_n hkw]; exact ⟨rfl, hP⟩)
    · have hw9 : w9 < 8 := fnd_lt hkw
      refine g_top (z := nI w9) rfl ?_
      refine g_put (ws' := twd cA B (tc) (nI (tl)) (nI (to)) (nI (w9)) (fi) (se) (nI (rwA tc tl ta)) (nu)) hx hb hts hown hK hP hD hS 0 rfl rfl gu_wsX60 tyX6_ok nmX6 3 (by decide) gm_5_0 rfl rfl rfl (Nat.le_of_ble_eq_true rfl) (by first | rfl | (rw [updN_nI]; rfl)) dX6_readOrder_23 (fun H locs hP hD hS => ?_)
      refine lv_aload_n hx hb dX6_readOrder_26 rfl (lv_at hl 0 rfl) ?_
      refine g_get (v := .int (nI (w9))) hx hb hts hown hK hP 0 rfl rfl gu_wsX60 3 (by decide) gm_5_0 rfl dX6_readOrder_27 ?_
      have hsw_2 : w9 = 0 ∨ w9 = 1 ∨ w9 = 2 ∨ w9 = 3 ∨ w9 = 4 ∨ w9 = 5 ∨ w9 = 6 ∨ w9 = 7 := by omega
      rcases hsw_2 with rfl | rfl | rfl | rfl | rfl | rfl | rfl | rfl
      · refine lv_tableIn (off := 52) (tgt := 82) hx hb dX6_readOrder_30 (by decide +kernel) (by decide +kernel) (by decide +kernel) (by decide) ?_
        refine lv_aload_n hx hb dX6_readOrder_82 rfl (lv_at hl 0 rfl) ?_
        refine lv_iconst (v := nI (1)) hx hb dX6_readOrder_83 gc_1 ?_
        refine lv_iconst (v := nI (1)) hx hb dX6_readOrder_84 gc_1 ?_
        refine wr_calli (va_runV (As := [.int (nI (1)), .int (nI (1))]) (rest := []) ⟨hx, hb, hml, hown, hts⟩ (c_X6_readFirst l D cA B (tc) (tl) (to) (nI ((0))) (fi) (se) (rwA tc tl ta) (nu) (1) true hA htc htl (by omega) (by omega)) (cwV 2 hts (gWV gm_43_4 gm_43_5 gm_43_6 gm_2_9 gm_43_7) rfl rfl rfl (by decide +kernel) ⟨Nat.le_of_ble_eq_true rfl, Nat.le_of_ble_eq_true rfl⟩) (gPreV hK (g_rf hK hP (ci := 8) (q0 := 0) rfl rfl) hP) rfl rfl hl.1 rfl (lv_room (Nat.le_of_ble_eq_true rfl)) dX6_readOrder_85 ⟨by omega, by omega⟩) hS (fun q _ h => h) (fun q h => h) (fun r H locs hw9 hz9 hk9 hS => ?_)
        obtain ⟨rfl, hP⟩ := hw9
        have hP : va_P D vwCl (twd cA B (tc) (nI (tl)) (nI (to)) (nI ((0))) ((rnO tc tl (rwA tc tl ta) (1) (true)).2.2) (se) (nI ((rnO tc tl (rwA tc tl ta) (1) (true)).2.1)) ((rnO tc tl (rwA tc tl ta) (1) (true)).2.2)) H := hP
        have hD : va_D (aS 2 B) (twd cA B (tc) (nI (tl)) (nI (to)) (nI ((0))) ((rnO tc tl (rwA tc tl ta) (1) (true)).2.2) (se) (nI ((rnO tc tl (rwA tc tl ta) (1) (true)).2.1)) ((rnO tc tl (rwA tc tl ta) (1) (true)).2.2)) := twdD hA
        have hle_3 : (rnO tc tl (rwA tc tl ta) (1) (true)).2.1 ≤ tl := rnO_le (by omega)
        refine g_if_eq (P := (rnO tc tl (rwA tc tl ta) (1) (true)).1 = false) (tgt := 103) hx hb dX6_readOrder_88 (by decide) b2i_0 (fun c_4 => ?_) (fun c_4 => ?_)
        · refine lv_iconst (v := nI (0)) hx hb dX6_readOrder_103 gc_0 ?_
          exact g_zretW (v := nI (0)) hx hb hr hlk rfl hS dX6_readOrder_104 (by rw [roO, if_pos c_1, roK_s hkw, roT, if_neg (bnt c_4)]; exact ⟨rfl, hP⟩)
        · have c_4 : (rnO tc tl (rwA tc tl ta) (1) (true)).1 = true := eq_true_of_ne_false c_4
          refine lv_aload_n hx hb dX6_readOrder_91 rfl (lv_at hl 0 rfl) ?_
          refine lv_iconst (v := nI (1)) hx hb dX6_readOrder_92 gc_1 ?_
          refine wr_calli (va_runV (As := [.int (nI (1))]) (rest := []) ⟨hx, hb, hml, hown, hts⟩ (c_X6_readSecond l D cA B (tc) (tl) (to) (nI ((0))) ((rnO tc tl (rwA tc tl ta) (1) (true)).2.2) (se) ((rnO tc tl (rwA tc tl ta) (1) (true)).2.1) ((rnO tc tl (rwA tc tl ta) (1) (true)).2.2) (1) hA htc htl (by omega) (by omega)) (cwV 1 hts (gWV gm_43_15 gm_43_16 gm_43_17 gm_2_9 gm_43_18) rfl rfl rfl (by decide +kernel) ⟨Nat.le_of_ble_eq_true rfl, Nat.le_of_ble_eq_true rfl⟩) (gPreV hK (g_rf hK hP (ci := 8) (q0 := 0) rfl rfl) hP) rfl rfl hl.1 rfl (lv_room (Nat.le_of_ble_eq_true rfl)) dX6_readOrder_93 ⟨by omega, by omega⟩) hS (fun q _ h => h) (fun q h => h) (fun r H locs hw9 hz9 hk9 hS => ?_)
          obtain ⟨rfl, hP⟩ := hw9
          have hP : va_P D vwCl (twd cA B (tc) (nI (tl)) (nI (to)) (nI ((0))) ((rnO tc tl (rwA tc tl ta) (1) (true)).2.2) ((rnO tc tl ((rnO tc tl (rwA tc tl ta) (1) (true)).2.1) (1) false).2.2) (nI ((rnO tc tl ((rnO tc tl (rwA tc tl ta) (1) (true)).2.1) (1) false).2.1)) ((rnO tc tl ((rnO tc tl (rwA tc tl ta) (1) (true)).2.1) (1) false).2.2)) H := hP
          have hD : va_D (aS 2 B) (twd cA B (tc) (nI (tl)) (nI (to)) (nI ((0))) ((rnO tc tl (rwA tc tl ta) (1) (true)).2.2) ((rnO tc tl ((rnO tc tl (rwA tc tl ta) (1) (true)).2.1) (1) false).2.2) (nI ((rnO tc tl ((rnO tc tl (rwA tc tl ta) (1) (true)).2.1) (1) false).2.1)) ((rnO tc tl ((rnO tc tl (rwA tc tl ta) (1) (true)).2.1) (1) false).2.2)) := twdD hA
          refine g_if_eq (P := (rnO tc tl ((rnO tc tl (rwA tc tl ta) (1) (true)).2.1) (1) false).1 = false) (tgt := 103) hx hb dX6_readOrder_96 (by decide) b2i_0 (fun c_5 => ?_) (fun c_5 => ?_)
          · refine lv_iconst (v := nI (0)) hx hb dX6_readOrder_103 gc_0 ?_
            exact g_zretW (v := nI (0)) hx hb hr hlk rfl hS dX6_readOrder_104 (by rw [roO, if_pos c_1, roK_s hkw, roT, if_pos c_4]; exact ⟨by rw [c_5]; rfl, hP⟩)
          · have c_5 : (rnO tc tl ((rnO tc tl (rwA tc tl ta) (1) (true)).2.1) (1) false).1 = true := eq_true_of_ne_false c_5
            refine lv_iconst (v := nI (1)) hx hb dX6_readOrder_99 gc_1 ?_
            refine lv_goto (tgt := 104) hx hb dX6_readOrder_100 (by decide) ?_
            exact g_zretW (v := nI (1)) hx hb hr hlk rfl hS dX6_readOrder_104 (by rw [roO, if_pos c_1, roK_s hkw, roT, if_pos c_4]; exact ⟨by rw [c_5]; rfl, hP⟩)
      · refine lv_tableIn (off := 75) (tgt := 105) hx hb dX6_readOrder_30 (by decide +kernel) (by decide +kernel) (by decide +kernel) (by decide) ?_
        refine lv_aload_n hx hb dX6_readOrder_105 rfl (lv_at hl 0 rfl) ?_
        refine lv_iconst (v := nI (3)) hx hb dX6_readOrder_106 gc_3 ?_
        refine lv_iconst (v := nI (0)) hx hb dX6_readOrder_107 gc_0 ?_
        refine wr_calli (va_runV (As := [.int (nI (3)), .int (nI (0))]) (rest := []) ⟨hx, hb, hml, hown, hts⟩ (c_X6_readFirst l D cA B (tc) (tl) (to) (nI ((1))) (fi) (se) (rwA tc tl ta) (nu) (3) false hA htc htl (by omega) (by omega)) (cwV 2 hts (gWV gm_43_4 gm_43_5 gm_43_6 gm_2_9 gm_43_7) rfl rfl rfl (by decide +kernel) ⟨Nat.le_of_ble_eq_true rfl, Nat.le_of_ble_eq_true rfl⟩) (gPreV hK (g_rf hK hP (ci := 8) (q0 := 0) rfl rfl) hP) rfl rfl hl.1 rfl (lv_room (Nat.le_of_ble_eq_true rfl)) dX6_readOrder_108 ⟨by omega, by omega⟩) hS (fun q _ h => h) (fun q h => h) (fun r H locs hw9 hz9 hk9 hS => ?_)
        obtain ⟨rfl, hP⟩ := hw9
        have hP : va_P D vwCl (twd cA B (tc) (nI (tl)) (nI (to)) (nI ((1))) ((rnO tc tl (rwA tc tl ta) (3) (false)).2.2) (se) (nI ((rnO tc tl (rwA tc tl ta) (3) (false)).2.1)) ((rnO tc tl (rwA tc tl ta) (3) (false)).2.2)) H := hP
        have hD : va_D (aS 2 B) (twd cA B (tc) (nI (tl)) (nI (to)) (nI ((1))) ((rnO tc tl (rwA tc tl ta) (3) (false)).2.2) (se) (nI ((rnO tc tl (rwA tc tl ta) (3) (false)).2.1)) ((rnO tc tl (rwA tc tl ta) (3) (false)).2.2)) := twdD hA
        have hle_6 : (rnO tc tl (rwA tc tl ta) (3) (false)).2.1 ≤ tl := rnO_le (by omega)
        refine g_if_eq (P := (rnO tc tl (rwA tc tl ta) (3) (false)).1 = false) (tgt := 126) hx hb dX6_readOrder_111 (by decide) b2i_0 (fun c_7 => ?_) (fun c_7 => ?_)
        · refine lv_iconst (v := nI (0)) hx hb dX6_readOrder_126 gc_0 ?_
          exact g_zretW (v := nI (0)) hx hb hr hlk rfl hS dX6_readOrder_127 (by rw [roO, if_pos c_1, roK_s hkw, roT, if_neg (bnt c_7)]; exact ⟨rfl, hP⟩)
        · have c_7 : (rnO tc tl (rwA tc tl ta) (3) (false)).1 = true := eq_true_of_ne_false c_7
          refine lv_aload_n hx hb dX6_readOrder_114 rfl (lv_at hl 0 rfl) ?_
          refine lv_iconst (v := nI (2)) hx hb dX6_readOrder_115 gc_2 ?_
          refine wr_calli (va_runV (As := [.int (nI (2))]) (rest := []) ⟨hx, hb, hml, hown, hts⟩ (c_X6_readSecond l D cA B (tc) (tl) (to) (nI ((1))) ((rnO tc tl (rwA tc tl ta) (3) (false)).2.2) (se) ((rnO tc tl (rwA tc tl ta) (3) (false)).2.1) ((rnO tc tl (rwA tc tl ta) (3) (false)).2.2) (2) hA htc htl (by omega) (by omega)) (cwV 1 hts (gWV gm_43_15 gm_43_16 gm_43_17 gm_2_9 gm_43_18) rfl rfl rfl (by decide +kernel) ⟨Nat.le_of_ble_eq_true rfl, Nat.le_of_ble_eq_true rfl⟩) (gPreV hK (g_rf hK hP (ci := 8) (q0 := 0) rfl rfl) hP) rfl rfl hl.1 rfl (lv_room (Nat.le_of_ble_eq_true rfl)) dX6_readOrder_116 ⟨by omega, by omega⟩) hS (fun q _ h => h) (fun q h => h) (fun r H locs hw9 hz9 hk9 hS => ?_)
          obtain ⟨rfl, hP⟩ := hw9
          have hP : va_P D vwCl (twd cA B (tc) (nI (tl)) (nI (to)) (nI ((1))) ((rnO tc tl (rwA tc tl ta) (3) (false)).2.2) ((rnO tc tl ((rnO tc tl (rwA tc tl ta) (3) (false)).2.1) (2) false).2.2) (nI ((rnO tc tl ((rnO tc tl (rwA tc tl ta) (3) (false)).2.1) (2) false).2.1)) ((rnO tc tl ((rnO tc tl (rwA tc tl ta) (3) (false)).2.1) (2) false).2.2)) H := hP
          have hD : va_D (aS 2 B) (twd cA B (tc) (nI (tl)) (nI (to)) (nI ((1))) ((rnO tc tl (rwA tc tl ta) (3) (false)).2.2) ((rnO tc tl ((rnO tc tl (rwA tc tl ta) (3) (false)).2.1) (2) false).2.2) (nI ((rnO tc tl ((rnO tc tl (rwA tc tl ta) (3) (false)).2.1) (2) false).2.1)) ((rnO tc tl ((rnO tc tl (rwA tc tl ta) (3) (false)).2.1) (2) false).2.2)) := twdD hA
          refine g_if_eq (P := (rnO tc tl ((rnO tc tl (rwA tc tl ta) (3) (false)).2.1) (2) false).1 = false) (tgt := 126) hx hb dX6_readOrder_119 (by decide) b2i_0 (fun c_8 => ?_) (fun c_8 => ?_)
          · refine lv_iconst (v := nI (0)) hx hb dX6_readOrder_126 gc_0 ?_
            exact g_zretW (v := nI (0)) hx hb hr hlk rfl hS dX6_readOrder_127 (by rw [roO, if_pos c_1, roK_s hkw, roT, if_pos c_7]; exact ⟨by rw [c_8]; rfl, hP⟩)
          · have c_8 : (rnO tc tl ((rnO tc tl (rwA tc tl ta) (3) (false)).2.1) (2) false).1 = true := eq_true_of_ne_false c_8
            refine lv_iconst (v := nI (1)) hx hb dX6_readOrder_122 gc_1 ?_
            refine lv_goto (tgt := 127) hx hb dX6_readOrder_123 (by decide) ?_
            exact g_zretW (v := nI (1)) hx hb hr hlk rfl hS dX6_readOrder_127 (by rw [roO, if_pos c_1, roK_s hkw, roT, if_pos c_7]; exact ⟨by rw [c_8]; rfl, hP⟩)
      · refine lv_tableIn (off := 100) (tgt := 130) hx hb dX6_readOrder_30 (by decide +kernel) (by decide +kernel) (by decide +kernel) (by decide) ?_
        refine lv_aload_n hx hb dX6_readOrder_130 rfl (lv_at hl 0 rfl) ?_
        refine lv_iconst (v := nI (1)) hx hb dX6_readOrder_131 gc_1 ?_
        refine lv_iconst (v := nI (0)) hx hb dX6_readOrder_132 gc_0 ?_
        refine wr_calli (va_runV (As := [.int (nI (1)), .int (nI (0))]) (rest := []) ⟨hx, hb, hml, hown, hts⟩ (c_X6_readFirst l D cA B (tc) (tl) (to) (nI ((2))) (fi) (se) (rwA tc tl ta) (nu) (1) false hA htc htl (by omega) (by omega)) (cwV 2 hts (gWV gm_43_4 gm_43_5 gm_43_6 gm_2_9 gm_43_7) rfl rfl rfl (by decide +kernel) ⟨Nat.le_of_ble_eq_true rfl, Nat.le_of_ble_eq_true rfl⟩) (gPreV hK (g_rf hK hP (ci := 8) (q0 := 0) rfl rfl) hP) rfl rfl hl.1 rfl (lv_room (Nat.le_of_ble_eq_true rfl)) dX6_readOrder_133 ⟨by omega, by omega⟩) hS (fun q _ h => h) (fun q h => h) (fun r H locs hw9 hz9 hk9 hS => ?_)
        obtain ⟨rfl, hP⟩ := hw9
        have hP : va_P D vwCl (twd cA B (tc) (nI (tl)) (nI (to)) (nI ((2))) ((rnO tc tl (rwA tc tl ta) (1) (false)).2.2) (se) (nI ((rnO tc tl (rwA tc tl ta) (1) (false)).2.1)) ((rnO tc tl (rwA tc tl ta) (1) (false)).2.2)) H := hP
        have hD : va_D (aS 2 B) (twd cA B (tc) (nI (tl)) (nI (to)) (nI ((2))) ((rnO tc tl (rwA tc tl ta) (1) (false)).2.2) (se) (nI ((rnO tc tl (rwA tc tl ta) (1) (false)).2.1)) ((rnO tc tl (rwA tc tl ta) (1) (false)).2.2)) := twdD hA
        exact g_zretW (v := b2i ((rnO tc tl (rwA tc tl ta) (1) (false)).1)) hx hb hr hlk b2i_n hS dX6_readOrder_136 (by rw [roO, if_pos c_1, roK_s hkw]; exact ⟨rfl, hP⟩)
      · refine lv_tableIn (off := 100) (tgt := 130) hx hb dX6_readOrder_30 (by decide +kernel) (by decide +kernel) (by decide +kernel) (by decide) ?_
        refine lv_aload_n hx hb dX6_readOrder_130 rfl (lv_at hl 0 rfl) ?_
        refine lv_iconst (v := nI (1)) hx hb dX6_readOrder_131 gc_1 ?_
        refine lv_iconst (v := nI (0)) hx hb dX6_readOrder_132 gc_0 ?_
        refine wr_calli (va_runV (As := [.int (nI (1)), .int (nI (0))]) (rest := []) ⟨hx, hb, hml, hown, hts⟩ (c_X6_readFirst l D cA B (tc) (tl) (to) (nI ((3))) (fi) (se) (rwA tc tl ta) (nu) (1) false hA htc htl (by omega) (by omega)) (cwV 2 hts (gWV gm_43_4 gm_43_5 gm_43_6 gm_2_9 gm_43_7) rfl rfl rfl (by decide +kernel) ⟨Nat.le_of_ble_eq_true rfl, Nat.le_of_ble_eq_true rfl⟩) (gPreV hK (g_rf hK hP (ci := 8) (q0 := 0) rfl rfl) hP) rfl rfl hl.1 rfl (lv_room (Nat.le_of_ble_eq_true rfl)) dX6_readOrder_133 ⟨by omega, by omega⟩) hS (fun q _ h => h) (fun q h => h) (fun r H locs hw9 hz9 hk9 hS => ?_)
        obtain ⟨rfl, hP⟩ := hw9
        have hP : va_P D vwCl (twd cA B (tc) (nI (tl)) (nI (to)) (nI ((3))) ((rnO tc tl (rwA tc tl ta) (1) (false)).2.2) (se) (nI ((rnO tc tl (rwA tc tl ta) (1) (false)).2.1)) ((rnO tc tl (rwA tc tl ta) (1) (false)).2.2)) H := hP
        have hD : va_D (aS 2 B) (twd cA B (tc) (nI (tl)) (nI (to)) (nI ((3))) ((rnO tc tl (rwA tc tl ta) (1) (false)).2.2) (se) (nI ((rnO tc tl (rwA tc tl ta) (1) (false)).2.1)) ((rnO tc tl (rwA tc tl ta) (1) (false)).2.2)) := twdD hA
        exact g_zretW (v := b2i ((rnO tc tl (rwA tc tl ta) (1) (false)).1)) hx hb hr hlk b2i_n hS dX6_readOrder_136 (by rw [roO, if_pos c_1, roK_s hkw]; exact ⟨rfl, hP⟩)
      · refine lv_tableIn (off := 100) (tgt := 130) hx hb dX6_readOrder_30 (by decide +kernel) (by decide +kernel) (by decide +kernel) (by decide) ?_
        refine lv_aload_n hx hb dX6_readOrder_130 rfl (lv_at hl 0 rfl) ?_
        refine lv_iconst (v := nI (1)) hx hb dX6_readOrder_131 gc_1 ?_
        refine lv_iconst (v := nI (0)) hx hb dX6_readOrder_132 gc_0 ?_
        refine wr_calli (va_runV (As := [.int (nI (1)), .int (nI (0))]) (rest := []) ⟨hx, hb, hml, hown, hts⟩ (c_X6_readFirst l D cA B (tc) (tl) (to) (nI ((4))) (fi) (se) (rwA tc tl ta) (nu) (1) false hA htc htl (by omega) (by omega)) (cwV 2 hts (gWV gm_43_4 gm_43_5 gm_43_6 gm_2_9 gm_43_7) rfl rfl rfl (by decide +kernel) ⟨Nat.le_of_ble_eq_true rfl, Nat.le_of_ble_eq_true rfl⟩) (gPreV hK (g_rf hK hP (ci := 8) (q0 := 0) rfl rfl) hP) rfl rfl hl.1 rfl (lv_room (Nat.le_of_ble_eq_true rfl)) dX6_readOrder_133 ⟨by omega, by omega⟩) hS (fun q _ h => h) (fun q h => h) (fun r H locs hw9 hz9 hk9 hS => ?_)
        obtain ⟨rfl, hP⟩ := hw9
        have hP : va_P D vwCl (twd cA B (tc) (nI (tl)) (nI (to)) (nI ((4))) ((rnO tc tl (rwA tc tl ta) (1) (false)).2.2) (se) (nI ((rnO tc tl (rwA tc tl ta) (1) (false)).2.1)) ((rnO tc tl (rwA tc tl ta) (1) (false)).2.2)) H := hP
        have hD : va_D (aS 2 B) (twd cA B (tc) (nI (tl)) (nI (to)) (nI ((4))) ((rnO tc tl (rwA tc tl ta) (1) (false)).2.2) (se) (nI ((rnO tc tl (rwA tc tl ta) (1) (false)).2.1)) ((rnO tc tl (rwA tc tl ta) (1) (false)).2.2)) := twdD hA
        exact g_zretW (v := b2i ((rnO tc tl (rwA tc tl ta) (1) (false)).1)) hx hb hr hlk b2i_n hS dX6_readOrder_136 (by rw [roO, if_pos c_1, roK_s hkw]; exact ⟨rfl, hP⟩)
      · refine lv_tableIn (off := 100) (tgt := 130) hx hb dX6_readOrder_30 (by decide +kernel) (by decide +kernel) (by decide +kernel) (by decide) ?_
        refine lv_aload_n hx hb dX6_readOrder_130 rfl (lv_at hl 0 rfl) ?_
        refine lv_iconst (v := nI (1)) hx hb dX6_readOrder_131 gc_1 ?_
        refine lv_iconst (v := nI (0)) hx hb dX6_readOrder_132 gc_0 ?_
        refine wr_calli (va_runV (As := [.int (nI (1)), .int (nI (0))]) (rest := []) ⟨hx, hb, hml, hown, hts⟩ (c_X6_readFirst l D cA B (tc) (tl) (to) (nI ((5))) (fi) (se) (rwA tc tl ta) (nu) (1) false hA htc htl (by omega) (by omega)) (cwV 2 hts (gWV gm_43_4 gm_43_5 gm_43_6 gm_2_9 gm_43_7) rfl rfl rfl (by decide +kernel) ⟨Nat.le_of_ble_eq_true rfl, Nat.le_of_ble_eq_true rfl⟩) (gPreV hK (g_rf hK hP (ci := 8) (q0 := 0) rfl rfl) hP) rfl rfl hl.1 rfl (lv_room (Nat.le_of_ble_eq_true rfl)) dX6_readOrder_133 ⟨by omega, by omega⟩) hS (fun q _ h => h) (fun q h => h) (fun r H locs hw9 hz9 hk9 hS => ?_)
        obtain ⟨rfl, hP⟩ := hw9
        have hP : va_P D vwCl (twd cA B (tc) (nI (tl)) (nI (to)) (nI ((5))) ((rnO tc tl (rwA tc tl ta) (1) (false)).2.2) (se) (nI ((rnO tc tl (rwA tc tl ta) (1) (false)).2.1)) ((rnO tc tl (rwA tc tl ta) (1) (false)).2.2)) H := hP
        have hD : va_D (aS 2 B) (twd cA B (tc) (nI (tl)) (nI (to)) (nI ((5))) ((rnO tc tl (rwA tc tl ta) (1) (false)).2.2) (se) (nI ((rnO tc tl (rwA tc tl ta) (1) (false)).2.1)) ((rnO tc tl (rwA tc tl ta) (1) (false)).2.2)) := twdD hA
        exact g_zretW (v := b2i ((rnO tc tl (rwA tc tl ta) (1) (false)).1)) hx hb hr hlk b2i_n hS dX6_readOrder_136 (by rw [roO, if_pos c_1, roK_s hkw]; exact ⟨rfl, hP⟩)
      · refine lv_tableIn (off := 98) (tgt := 128) hx hb dX6_readOrder_30 (by decide +kernel) (by decide +kernel) (by decide +kernel) (by decide) ?_
        refine lv_iconst (v := nI (1)) hx hb dX6_readOrder_128 gc_1 ?_
        exact g_zretW (v := nI (1)) hx hb hr hlk rfl hS dX6_readOrder_129 (by rw [roO, if_pos c_1, roK_s hkw]; exact ⟨rfl, hP⟩)
      · refine lv_tableIn (off := 98) (tgt := 128) hx hb dX6_readOrder_30 (by decide +kernel) (by decide +kernel) (by decide +kernel) (by decide) ?_
        refine lv_iconst (v := nI (1)) hx hb dX6_readOrder_128 gc_1 ?_
        exact g_zretW (v := nI (1)) hx hb hr hlk rfl hS dX6_readOrder_129 (by rw [roO, if_pos c_1, roK_s hkw]; exact ⟨rfl, hP⟩)
  · refine lv_aload_n hx hb dX6_readOrder_7 rfl (lv_at hl 0 rfl) ?_
    refine lv_bipush (v := nI (59)) hx hb dX6_readOrder_8 gb_59 ?_
    refine wr_calli (va_runV (As := [.int (nI (59))]) (rest := []) ⟨hx, hb, hml, hown, hts⟩ (c_X6_take l D cA B (tc) (tl) (to) (kd) (fi) (se) (ta) (nu) (59) hA htc htl (by omega) (by omega)) (cwV 1 hts (gWV gm_40_7 gm_40_8 gm_40_9 gm_2_9 gm_40_10) rfl rfl rfl (by decide +kernel) ⟨Nat.le_of_ble_eq_true rfl, Nat.le_of_ble_eq_true rfl⟩) (gPreV hK (g_rf hK hP (ci := 8) (q0 := 0) rfl rfl) hP) rfl rfl hl.1 rfl (lv_room (Nat.le_of_ble_eq_true rfl)) dX6_readOrder_10 ⟨by omega, by omega⟩) hS (fun q _ h => h) (fun q h => h) (fun r H locs hw9 hz9 hk9 hS => ?_)
    obtain ⟨rfl, hP⟩ := hw9
    have hP : va_P D vwCl (twd cA B (tc) (nI (tl)) (nI (to)) (kd) (fi) (se) (nI ((tkO tc tl ta (59)).2)) (nu)) H := hP
    have hD : va_D (aS 2 B) (twd cA B (tc) (nI (tl)) (nI (to)) (kd) (fi) (se) (nI ((tkO tc tl ta (59)).2)) (nu)) := twdD hA
    refine g_if_ne (P := (tkO tc tl ta (59)).1 = false) (tgt := 18) hx hb dX6_readOrder_13 (by decide) b2i_0 (fun c_9 => ?_) (fun c_9 => ?_)
    · have c_9 : (tkO tc tl ta (59)).1 = true := eq_true_of_ne_false c_9
      have hta1 := tkO_lt (by decide) c_9
      rw [tkO_t c_9] at hP
      have hD : va_D (aS 2 B) (twd cA B (tc) (nI (tl)) (nI (to)) (kd) (fi) (se) (nI (ta + 1)) (nu)) := twdD hA
      refine lv_aload_n hx hb dX6_readOrder_18 rfl (lv_at hl 0 rfl) ?_
      refine lv_aload_n hx hb dX6_readOrder_19 rfl (lv_at hl 0 rfl) ?_
      refine wr_calli (va_runV (As := []) (rest := [.ref (B 0)]) ⟨hx, hb, hml, hown, hts⟩ (c_X6_readWord l D cA AE adK adV sa B (tc) (tl) (to) (kd) (fi) (se) (ta + 1) (nu)  hA htc htl (by omega) hFA) (cwV 0 hts (gWV gm_40_15 gm_40_16 gm_40_17 gm_2_9 gm_40_18) rfl rfl rfl (by decide +kernel) ⟨Nat.le_of_ble_eq_true rfl, Nat.le_of_ble_eq_true rfl⟩) (gPreVx hK hE hS hFA (g_rf hK hP (ci := 8) (q0 := 0) rfl rfl) hP) rfl rfl hl.1 rfl (lv_room (Nat.le_of_ble_eq_true rfl)) dX6_readOrder_20 ⟨by omega, by omega⟩) hS (fun q _ h => h) (fun q h => h) (fun r H locs hw9 hz9 hk9 hS => ?_)
      obtain ⟨rfl, hP⟩ := hw9
      have hP : va_P D vwCl (twd cA B (tc) (nI (tl)) (nI (to)) (kd) (fi) (se) (nI (rwA tc tl (ta + 1))) (nu)) H := hP
      have hD : va_D (aS 2 B) (twd cA B (tc) (nI (tl)) (nI (to)) (kd) (fi) (se) (nI (rwA tc tl (ta + 1))) (nu)) := twdD hA
      have hrw9 := rwA_le (tc := tc) (tl := tl) (ta := (ta + 1)) (by omega)
      rcases hkw : rwK tc tl (ta + 1) with _ | w9
      · refine g_top (z := -1) rfl ?_
        refine g_put (ws' := twd cA B (tc) (nI (tl)) (nI (to)) (-1) (fi) (se) (nI (rwA tc tl (ta + 1))) (nu)) hx hb hts hown hK hP hD hS 0 rfl rfl gu_wsX60 tyX6_ok nmX6 3 (by decide) gm_5_0 rfl rfl rfl (Nat.le_of_ble_eq_true rfl) (by first | rfl | (rw [updN_nI]; rfl)) dX6_readOrder_23 (fun H locs hP hD hS => ?_)
        refine lv_aload_n hx hb dX6_readOrder_26 rfl (lv_at hl 0 rfl) ?_
        refine g_get (v := .int (-1)) hx hb hts hown hK hP 0 rfl rfl gu_wsX60 3 (by decide) gm_5_0 rfl dX6_readOrder_27 ?_
        refine lv_tableIn (off := 50) (tgt := 80) hx hb dX6_readOrder_30 (by decide +kernel) (by decide +kernel) (by decide +kernel) (by decide) ?_
        refine lv_iconst (v := nI (0)) hx hb dX6_readOrder_80 gc_0 ?_
        exact g_zretW (v := nI (0)) hx hb hr hlk rfl hS dX6_readOrder_81 (by rw [roO, if_neg c_1, if_pos c_9, roK_n hkw]; exact ⟨rfl, hP⟩)
      · have hw9 : w9 < 8 := fnd_lt hkw
        refine g_top (z := nI w9) rfl ?_
        refine g_put (ws' := twd cA B (tc) (nI (tl)) (nI (to)) (nI (w9)) (fi) (se) (nI (rwA tc tl (ta + 1))) (nu)) hx hb hts hown hK hP hD hS 0 rfl rfl gu_wsX60 tyX6_ok nmX6 3 (by decide) gm_5_0 rfl rfl rfl (Nat.le_of_ble_eq_true rfl) (by first | rfl | (rw [updN_nI]; rfl)) dX6_readOrder_23 (fun H locs hP hD hS => ?_)
        refine lv_aload_n hx hb dX6_readOrder_26 rfl (lv_at hl 0 rfl) ?_
        refine g_get (v := .int (nI (w9))) hx hb hts hown hK hP 0 rfl rfl gu_wsX60 3 (by decide) gm_5_0 rfl dX6_readOrder_27 ?_
        have hsw_10 : w9 = 0 ∨ w9 = 1 ∨ w9 = 2 ∨ w9 = 3 ∨ w9 = 4 ∨ w9 = 5 ∨ w9 = 6 ∨ w9 = 7 := by omega
        rcases hsw_10 with rfl | rfl | rfl | rfl | rfl | rfl | rfl | rfl
        · refine lv_tableIn (off := 52) (tgt := 82) hx hb dX6_readOrder_30 (by decide +kernel) (by decide +kernel) (by decide +kernel) (by decide) ?_
          refine lv_aload_n hx hb dX6_readOrder_82 rfl (lv_at hl 0 rfl) ?_
          refine lv_iconst (v := nI (1)) hx hb dX6_readOrder_83 gc_1 ?_
          refine lv_iconst (v := nI (1)) hx hb dX6_readOrder_84 gc_1 ?_
          refine wr_calli (va_runV (As := [.int (nI (1)), .int (nI (1))]) (rest := []) ⟨hx, hb, hml, hown, hts⟩ (c_X6_readFirst l D cA B (tc) (tl) (to) (nI ((0))) (fi) (se) (rwA tc tl (ta + 1)) (nu) (1) true hA htc htl (by omega) (by omega)) (cwV 2 hts (gWV gm_43_4 gm_43_5 gm_43_6 gm_2_9 gm_43_7) rfl rfl rfl (by decide +kernel) ⟨Nat.le_of_ble_eq_true rfl, Nat.le_of_ble_eq_true rfl⟩) (gPreV hK (g_rf hK hP (ci := 8) (q0 := 0) rfl rfl) hP) rfl rfl hl.1 rfl (lv_room (Nat.le_of_ble_eq_true rfl)) dX6_readOrder_85 ⟨by omega, by omega⟩) hS (fun q _ h => h) (fun q h => h) (fun r H locs hw9 hz9 hk9 hS => ?_)
          obtain ⟨rfl, hP⟩ := hw9
          have hP : va_P D vwCl (twd cA B (tc) (nI (tl)) (nI (to)) (nI ((0))) ((rnO tc tl (rwA tc tl (ta + 1)) (1) (true)).2.2) (se) (nI ((rnO tc tl (rwA tc tl (ta + 1)) (1) (true)).2.1)) ((rnO tc tl (rwA tc tl (ta + 1)) (1) (true)).2.2)) H := hP
          have hD : va_D (aS 2 B) (twd cA B (tc) (nI (tl)) (nI (to)) (nI ((0))) ((rnO tc tl (rwA tc tl (ta + 1)) (1) (true)).2.2) (se) (nI ((rnO tc tl (rwA tc tl (ta + 1)) (1) (true)).2.1)) ((rnO tc tl (rwA tc tl (ta + 1)) (1) (true)).2.2)) := twdD hA
          have hle_11 : (rnO tc tl (rwA tc tl (ta + 1)) (1) (true)).2.1 ≤ tl := rnO_le (by omega)
          refine g_if_eq (P := (rnO tc tl (rwA tc tl (ta + 1)) (1) (true)).1 = false) (tgt := 103) hx hb dX6_readOrder_88 (by decide) b2i_0 (fun c_12 => ?_) (fun c_12 => ?_)
          · refine lv_iconst (v := nI (0)) hx hb dX6_readOrder_103 gc_0 ?_
            exact g_zretW (v := nI (0)) hx hb hr hlk rfl hS dX6_readOrder_104 (by rw [roO, if_neg c_1, if_pos c_9, roK_s hkw, roT, if_neg (bnt c_12)]; exact ⟨rfl, hP⟩)
          · have c_12 : (rnO tc tl (rwA tc tl (ta + 1)) (1) (true)).1 = true := eq_true_of_ne_false c_12
            refine lv_aload_n hx hb dX6_readOrder_91 rfl (lv_at hl 0 rfl) ?_
            refine lv_iconst (v := nI (1)) hx hb dX6_readOrder_92 gc_1 ?_
            refine wr_calli (va_runV (As := [.int (nI (1))]) (rest := []) ⟨hx, hb, hml, hown, hts⟩ (c_X6_readSecond l D cA B (tc) (tl) (to) (nI ((0))) ((rnO tc tl (rwA tc tl (ta + 1)) (1) (true)).2.2) (se) ((rnO tc tl (rwA tc tl (ta + 1)) (1) (true)).2.1) ((rnO tc tl (rwA tc tl (ta + 1)) (1) (true)).2.2) (1) hA htc htl (by omega) (by omega)) (cwV 1 hts (gWV gm_43_15 gm_43_16 gm_43_17 gm_2_9 gm_43_18) rfl rfl rfl (by decide +kernel) ⟨Nat.le_of_ble_eq_true rfl, Nat.le_of_ble_eq_true rfl⟩) (gPreV hK (g_rf hK hP (ci := 8) (q0 := 0) rfl rfl) hP) rfl rfl hl.1 rfl (lv_room (Nat.le_of_ble_eq_true rfl)) dX6_readOrder_93 ⟨by omega, by omega⟩) hS (fun q _ h => h) (fun q h => h) (fun r H locs hw9 hz9 hk9 hS => ?_)
            obtain ⟨rfl, hP⟩ := hw9
            have hP : va_P D vwCl (twd cA B (tc) (nI (tl)) (nI (to)) (nI ((0))) ((rnO tc tl (rwA tc tl (ta + 1)) (1) (true)).2.2) ((rnO tc tl ((rnO tc tl (rwA tc tl (ta + 1)) (1) (true)).2.1) (1) false).2.2) (nI ((rnO tc tl ((rnO tc tl (rwA tc tl (ta + 1)) (1) (true)).2.1) (1) false).2.1)) ((rnO tc tl ((rnO tc tl (rwA tc tl (ta + 1)) (1) (true)).2.1) (1) false).2.2)) H := hP
            have hD : va_D (aS 2 B) (twd cA B (tc) (nI (tl)) (nI (to)) (nI ((0))) ((rnO tc tl (rwA tc tl (ta + 1)) (1) (true)).2.2) ((rnO tc tl ((rnO tc tl (rwA tc tl (ta + 1)) (1) (true)).2.1) (1) false).2.2) (nI ((rnO tc tl ((rnO tc tl (rwA tc tl (ta + 1)) (1) (true)).2.1) (1) false).2.1)) ((rnO tc tl ((rnO tc tl (rwA tc tl (ta + 1)) (1) (true)).2.1) (1) false).2.2)) := twdD hA
            refine g_if_eq (P := (rnO tc tl ((rnO tc tl (rwA tc tl (ta + 1)) (1) (true)).2.1) (1) false).1 = false) (tgt := 103) hx hb dX6_readOrder_96 (by decide) b2i_0 (fun c_13 => ?_) (fun c_13 => ?_)
            · refine lv_iconst (v := nI (0)) hx hb dX6_readOrder_103 gc_0 ?_
              exact g_zretW (v := nI (0)) hx hb hr hlk rfl hS dX6_readOrder_104 (by rw [roO, if_neg c_1, if_pos c_9, roK_s hkw, roT, if_pos c_12]; exact ⟨by rw [c_13]; rfl, hP⟩)
            · have c_13 : (rnO tc tl ((rnO tc tl (rwA tc tl (ta + 1)) (1) (true)).2.1) (1) false).1 = true := eq_true_of_ne_false c_13
              refine lv_iconst (v := nI (1)) hx hb dX6_readOrder_99 gc_1 ?_
              refine lv_goto (tgt := 104) hx hb dX6_readOrder_100 (by decide) ?_
              exact g_zretW (v := nI (1)) hx hb hr hlk rfl hS dX6_readOrder_104 (by rw [roO, if_neg c_1, if_pos c_9, roK_s hkw, roT, if_pos c_12]; exact ⟨by rw [c_13]; rfl, hP⟩)
        · refine lv_tableIn (off := 75) (tgt := 105) hx hb dX6_readOrder_30 (by decide +kernel) (by decide +kernel) (by decide +kernel) (by decide) ?_
          refine lv_aload_n hx hb dX6_readOrder_105 rfl (lv_at hl 0 rfl) ?_
          refine lv_iconst (v := nI (3)) hx hb dX6_readOrder_106 gc_3 ?_
          refine lv_iconst (v := nI (0)) hx hb dX6_readOrder_107 gc_0 ?_
          refine wr_calli (va_runV (As := [.int (nI (3)), .int (nI (0))]) (rest := []) ⟨hx, hb, hml, hown, hts⟩ (c_X6_readFirst l D cA B (tc) (tl) (to) (nI ((1))) (fi) (se) (rwA tc tl (ta + 1)) (nu) (3) false hA htc htl (by omega) (by omega)) (cwV 2 hts (gWV gm_43_4 gm_43_5 gm_43_6 gm_2_9 gm_43_7) rfl rfl rfl (by decide +kernel) ⟨Nat.le_of_ble_eq_true rfl, Nat.le_of_ble_eq_true rfl⟩) (gPreV hK (g_rf hK hP (ci := 8) (q0 := 0) rfl rfl) hP) rfl rfl hl.1 rfl (lv_room (Nat.le_of_ble_eq_true rfl)) dX6_readOrder_108 ⟨by omega, by omega⟩) hS (fun q _ h => h) (fun q h => h) (fun r H locs hw9 hz9 hk9 hS => ?_)
          obtain ⟨rfl, hP⟩ := hw9
          have hP : va_P D vwCl (twd cA B (tc) (nI (tl)) (nI (to)) (nI ((1))) ((rnO tc tl (rwA tc tl (ta + 1)) (3) (false)).2.2) (se) (nI ((rnO tc tl (rwA tc tl (ta + 1)) (3) (false)).2.1)) ((rnO tc tl (rwA tc tl (ta + 1)) (3) (false)).2.2)) H := hP
          have hD : va_D (aS 2 B) (twd cA B (tc) (nI (tl)) (nI (to)) (nI ((1))) ((rnO tc tl (rwA tc tl (ta + 1)) (3) (false)).2.2) (se) (nI ((rnO tc tl (rwA tc tl (ta + 1)) (3) (false)).2.1)) ((rnO tc tl (rwA tc tl (ta + 1)) (3) (false)).2.2)) := twdD hA
          have hle_14 : (rnO tc tl (rwA tc tl (ta + 1)) (3) (false)).2.1 ≤ tl := rnO_le (by omega)
          refine g_if_eq (P := (rnO tc tl (rwA tc tl (ta + 1)) (3) (false)).1 = false) (tgt := 126) hx hb dX6_readOrder_111 (by decide) b2i_0 (fun c_15 => ?_) (fun c_15 => ?_)
          · refine lv_iconst (v := nI (0)) hx hb dX6_readOrder_126 gc_0 ?_
            exact g_zretW (v := nI (0)) hx hb hr hlk rfl hS dX6_readOrder_127 (by rw [roO, if_neg c_1, if_pos c_9, roK_s hkw, roT, if_neg (bnt c_15)]; exact ⟨rfl, hP⟩)
          · have c_15 : (rnO tc tl (rwA tc tl (ta + 1)) (3) (false)).1 = true := eq_true_of_ne_false c_15
            refine lv_aload_n hx hb dX6_readOrder_114 rfl (lv_at hl 0 rfl) ?_
            refine lv_iconst (v := nI (2)) hx hb dX6_readOrder_115 gc_2 ?_
            refine wr_calli (va_runV (As := [.int (nI (2))]) (rest := []) ⟨hx, hb, hml, hown, hts⟩ (c_X6_readSecond l D cA B (tc) (tl) (to) (nI ((1))) ((rnO tc tl (rwA tc tl (ta + 1)) (3) (false)).2.2) (se) ((rnO tc tl (rwA tc tl (ta + 1)) (3) (false)).2.1) ((rnO tc tl (rwA tc tl (ta + 1)) (3) (false)).2.2) (2) hA htc htl (by omega) (by omega)) (cwV 1 hts (gWV gm_43_15 gm_43_16 gm_43_17 gm_2_9 gm_43_18) rfl rfl rfl (by decide +kernel) ⟨Nat.le_of_ble_eq_true rfl, Nat.le_of_ble_eq_true rfl⟩) (gPreV hK (g_rf hK hP (ci := 8) (q0 := 0) rfl rfl) hP) rfl rfl hl.1 rfl (lv_room (Nat.le_of_ble_eq_true rfl)) dX6_readOrder_116 ⟨by omega, by omega⟩) hS (fun q _ h => h) (fun q h => h) (fun r H locs hw9 hz9 hk9 hS => ?_)
            obtain ⟨rfl, hP⟩ := hw9
            have hP : va_P D vwCl (twd cA B (tc) (nI (tl)) (nI (to)) (nI ((1))) ((rnO tc tl (rwA tc tl (ta + 1)) (3) (false)).2.2) ((rnO tc tl ((rnO tc tl (rwA tc tl (ta + 1)) (3) (false)).2.1) (2) false).2.2) (nI ((rnO tc tl ((rnO tc tl (rwA tc tl (ta + 1)) (3) (false)).2.1) (2) false).2.1)) ((rnO tc tl ((rnO tc tl (rwA tc tl (ta + 1)) (3) (false)).2.1) (2) false).2.2)) H := hP
            have hD : va_D (aS 2 B) (twd cA B (tc) (nI (tl)) (nI (to)) (nI ((1))) ((rnO tc tl (rwA tc tl (ta + 1)) (3) (false)).2.2) ((rnO tc tl ((rnO tc tl (rwA tc tl (ta + 1)) (3) (false)).2.1) (2) false).2.2) (nI ((rnO tc tl ((rnO tc tl (rwA tc tl (ta + 1)) (3) (false)).2.1) (2) false).2.1)) ((rnO tc tl ((rnO tc tl (rwA tc tl (ta + 1)) (3) (false)).2.1) (2) false).2.2)) := twdD hA
            refine g_if_eq (P := (rnO tc tl ((rnO tc tl (rwA tc tl (ta + 1)) (3) (false)).2.1) (2) false).1 = false) (tgt := 126) hx hb dX6_readOrder_119 (by decide) b2i_0 (fun c_16 => ?_) (fun c_16 => ?_)
            · refine lv_iconst (v := nI (0)) hx hb dX6_readOrder_126 gc_0 ?_
              exact g_zretW (v := nI (0)) hx hb hr hlk rfl hS dX6_readOrder_127 (by rw [roO, if_neg c_1, if_pos c_9, roK_s hkw, roT, if_pos c_15]; exact ⟨by rw [c_16]; rfl, hP⟩)
            · have c_16 : (rnO tc tl ((rnO tc tl (rwA tc tl (ta + 1)) (3) (false)).2.1) (2) false).1 = true := eq_true_of_ne_false c_16
              refine lv_iconst (v := nI (1)) hx hb dX6_readOrder_122 gc_1 ?_
              refine lv_goto (tgt := 127) hx hb dX6_readOrder_123 (by decide) ?_
              exact g_zretW (v := nI (1)) hx hb hr hlk rfl hS dX6_readOrder_127 (by rw [roO, if_neg c_1, if_pos c_9, roK_s hkw, roT, if_pos c_15]; exact ⟨by rw [c_16]; rfl, hP⟩)
        · refine lv_tableIn (off := 100) (tgt := 130) hx hb dX6_readOrder_30 (by decide +kernel) (by decide +kernel) (by decide +kernel) (by decide) ?_
          refine lv_aload_n hx hb dX6_readOrder_130 rfl (lv_at hl 0 rfl) ?_
          refine lv_iconst (v := nI (1)) hx hb dX6_readOrder_131 gc_1 ?_
          refine lv_iconst (v := nI (0)) hx hb dX6_readOrder_132 gc_0 ?_
          refine wr_calli (va_runV (As := [.int (nI (1)), .int (nI (0))]) (rest := []) ⟨hx, hb, hml, hown, hts⟩ (c_X6_readFirst l D cA B (tc) (tl) (to) (nI ((2))) (fi) (se) (rwA tc tl (ta + 1)) (nu) (1) false hA htc htl (by omega) (by omega)) (cwV 2 hts (gWV gm_43_4 gm_43_5 gm_43_6 gm_2_9 gm_43_7) rfl rfl rfl (by decide +kernel) ⟨Nat.le_of_ble_eq_true rfl, Nat.le_of_ble_eq_true rfl⟩) (gPreV hK (g_rf hK hP (ci := 8) (q0 := 0) rfl rfl) hP) rfl rfl hl.1 rfl (lv_room (Nat.le_of_ble_eq_true rfl)) dX6_readOrder_133 ⟨by omega, by omega⟩) hS (fun q _ h => h) (fun q h => h) (fun r H locs hw9 hz9 hk9 hS => ?_)
          obtain ⟨rfl, hP⟩ := hw9
          have hP : va_P D vwCl (twd cA B (tc) (nI (tl)) (nI (to)) (nI ((2))) ((rnO tc tl (rwA tc tl (ta + 1)) (1) (false)).2.2) (se) (nI ((rnO tc tl (rwA tc tl (ta + 1)) (1) (false)).2.1)) ((rnO tc tl (rwA tc tl (ta + 1)) (1) (false)).2.2)) H := hP
          have hD : va_D (aS 2 B) (twd cA B (tc) (nI (tl)) (nI (to)) (nI ((2))) ((rnO tc tl (rwA tc tl (ta + 1)) (1) (false)).2.2) (se) (nI ((rnO tc tl (rwA tc tl (ta + 1)) (1) (false)).2.1)) ((rnO tc tl (rwA tc tl (ta + 1)) (1) (false)).2.2)) := twdD hA
          exact g_zretW (v := b2i ((rnO tc tl (rwA tc tl (ta + 1)) (1) (false)).1)) hx hb hr hlk b2i_n hS dX6_readOrder_136 (by rw [roO, if_neg c_1, if_pos c_9, roK_s hkw]; exact ⟨rfl, hP⟩)
        · refine lv_tableIn (off := 100) (tgt := 130) hx hb dX6_readOrder_30 (by decide +kernel) (by decide +kernel) (by decide +kernel) (by decide) ?_
          refine lv_aload_n hx hb dX6_readOrder_130 rfl (lv_at hl 0 rfl) ?_
          refine lv_iconst (v := nI (1)) hx hb dX6_readOrder_131 gc_1 ?_
          refine lv_iconst (v := nI (0)) hx hb dX6_readOrder_132 gc_0 ?_
          refine wr_calli (va_runV (As := [.int (nI (1)), .int (nI (0))]) (rest := []) ⟨hx, hb, hml, hown, hts⟩ (c_X6_readFirst l D cA B (tc) (tl) (to) (nI ((3))) (fi) (se) (rwA tc tl (ta + 1)) (nu) (1) false hA htc htl (by omega) (by omega)) (cwV 2 hts (gWV gm_43_4 gm_43_5 gm_43_6 gm_2_9 gm_43_7) rfl rfl rfl (by decide +kernel) ⟨Nat.le_of_ble_eq_true rfl, Nat.le_of_ble_eq_true rfl⟩) (gPreV hK (g_rf hK hP (ci := 8) (q0 := 0) rfl rfl) hP) rfl rfl hl.1 rfl (lv_room (Nat.le_of_ble_eq_true rfl)) dX6_readOrder_133 ⟨by omega, by omega⟩) hS (fun q _ h => h) (fun q h => h) (fun r H locs hw9 hz9 hk9 hS => ?_)
          obtain ⟨rfl, hP⟩ := hw9
          have hP : va_P D vwCl (twd cA B (tc) (nI (tl)) (nI (to)) (nI ((3))) ((rnO tc tl (rwA tc tl (ta + 1)) (1) (false)).2.2) (se) (nI ((rnO tc tl (rwA tc tl (ta + 1)) (1) (false)).2.1)) ((rnO tc tl (rwA tc tl (ta + 1)) (1) (false)).2.2)) H := hP
          have hD : va_D (aS 2 B) (twd cA B (tc) (nI (tl)) (nI (to)) (nI ((3))) ((rnO tc tl (rwA tc tl (ta + 1)) (1) (false)).2.2) (se) (nI ((rnO tc tl (rwA tc tl (ta + 1)) (1) (false)).2.1)) ((rnO tc tl (rwA tc tl (ta + 1)) (1) (false)).2.2)) := twdD hA
          exact g_zretW (v := b2i ((rnO tc tl (rwA tc tl (ta + 1)) (1) (false)).1)) hx hb hr hlk b2i_n hS dX6_readOrder_136 (by rw [roO, if_neg c_1, if_pos c_9, roK_s hkw]; exact ⟨rfl, hP⟩)
        · refine lv_tableIn (off := 100) (tgt := 130) hx hb dX6_readOrder_30 (by decide +kernel) (by decide +kernel) (by decide +kernel) (by decide) ?_
          refine lv_aload_n hx hb dX6_readOrder_130 rfl (lv_at hl 0 rfl) ?_
          refine lv_iconst (v := nI (1)) hx hb dX6_readOrder_131 gc_1 ?_
          refine lv_iconst (v := nI (0)) hx hb dX6_readOrder_132 gc_0 ?_
          refine wr_calli (va_runV (As := [.int (nI (1)), .int (nI (0))]) (rest := []) ⟨hx, hb, hml, hown, hts⟩ (c_X6_readFirst l D cA B (tc) (tl) (to) (nI ((4))) (fi) (se) (rwA tc tl (ta + 1)) (nu) (1) false hA htc htl (by omega) (by omega)) (cwV 2 hts (gWV gm_43_4 gm_43_5 gm_43_6 gm_2_9 gm_43_7) rfl rfl rfl (by decide +kernel) ⟨Nat.le_of_ble_eq_true rfl, Nat.le_of_ble_eq_true rfl⟩) (gPreV hK (g_rf hK hP (ci := 8) (q0 := 0) rfl rfl) hP) rfl rfl hl.1 rfl (lv_room (Nat.le_of_ble_eq_true rfl)) dX6_readOrder_133 ⟨by omega, by omega⟩) hS (fun q _ h => h) (fun q h => h) (fun r H locs hw9 hz9 hk9 hS => ?_)
          obtain ⟨rfl, hP⟩ := hw9
          have hP : va_P D vwCl (twd cA B (tc) (nI (tl)) (nI (to)) (nI ((4))) ((rnO tc tl (rwA tc tl (ta + 1)) (1) (false)).2.2) (se) (nI ((rnO tc tl (rwA tc tl (ta + 1)) (1) (false)).2.1)) ((rnO tc tl (rwA tc tl (ta + 1)) (1) (false)).2.2)) H := hP
          have hD : va_D (aS 2 B) (twd cA B (tc) (nI (tl)) (nI (to)) (nI ((4))) ((rnO tc tl (rwA tc tl (ta + 1)) (1) (false)).2.2) (se) (nI ((rnO tc tl (rwA tc tl (ta + 1)) (1) (false)).2.1)) ((rnO tc tl (rwA tc tl (ta + 1)) (1) (false)).2.2)) := twdD hA
          exact g_zretW (v := b2i ((rnO tc tl (rwA tc tl (ta + 1)) (1) (false)).1)) hx hb hr hlk b2i_n hS dX6_readOrder_136 (by rw [roO, if_neg c_1, if_pos c_9, roK_s hkw]; exact ⟨rfl, hP⟩)
        · refine lv_tableIn (off := 100) (tgt := 130) hx hb dX6_readOrder_30 (by decide +kernel) (by decide +kernel) (by decide +kernel) (by decide) ?_
          refine lv_aload_n hx hb dX6_readOrder_130 rfl (lv_at hl 0 rfl) ?_
          refine lv_iconst (v := nI (1)) hx hb dX6_readOrder_131 gc_1 ?_
          refine lv_iconst (v := nI (0)) hx hb dX6_readOrder_132 gc_0 ?_
          refine wr_calli (va_runV (As := [.int (nI (1)), .int (nI (0))]) (rest := []) ⟨hx, hb, hml, hown, hts⟩ (c_X6_readFirst l D cA B (tc) (tl) (to) (nI ((5))) (fi) (se) (rwA tc tl (ta + 1)) (nu) (1) false hA htc htl (by omega) (by omega)) (cwV 2 hts (gWV gm_43_4 gm_43_5 gm_43_6 gm_2_9 gm_43_7) rfl rfl rfl (by decide +kernel) ⟨Nat.le_of_ble_eq_true rfl, Nat.le_of_ble_eq_true rfl⟩) (gPreV hK (g_rf hK hP (ci := 8) (q0 := 0) rfl rfl) hP) rfl rfl hl.1 rfl (lv_room (Nat.le_of_ble_eq_true rfl)) dX6_readOrder_133 ⟨by omega, by omega⟩) hS (fun q _ h => h) (fun q h => h) (fun r H locs hw9 hz9 hk9 hS => ?_)
          obtain ⟨rfl, hP⟩ := hw9
          have hP : va_P D vwCl (twd cA B (tc) (nI (tl)) (nI (to)) (nI ((5))) ((rnO tc tl (rwA tc tl (ta + 1)) (1) (false)).2.2) (se) (nI ((rnO tc tl (rwA tc tl (ta + 1)) (1) (false)).2.1)) ((rnO tc tl (rwA tc tl (ta + 1)) (1) (false)).2.2)) H := hP
          have hD : va_D (aS 2 B) (twd cA B (tc) (nI (tl)) (nI (to)) (nI ((5))) ((rnO tc tl (rwA tc tl (ta + 1)) (1) (false)).2.2) (se) (nI ((rnO tc tl (rwA tc tl (ta + 1)) (1) (false)).2.1)) ((rnO tc tl (rwA tc tl (ta + 1)) (1) (false)).2.2)) := twdD hA
          exact g_zretW (v := b2i ((rnO tc tl (rwA tc tl (ta + 1)) (1) (false)).1)) hx hb hr hlk b2i_n hS dX6_readOrder_136 (by rw [roO, if_neg c_1, if_pos c_9, roK_s hkw]; exact ⟨rfl, hP⟩)
        · refine lv_tableIn (off := 98) (tgt := 128) hx hb dX6_readOrder_30 (by decide +kernel) (by decide +kernel) (by decide +kernel) (by decide) ?_
          refine lv_iconst (v := nI (1)) hx hb dX6_readOrder_128 gc_1 ?_
          exact g_zretW (v := nI (1)) hx hb hr hlk rfl hS dX6_readOrder_129 (by rw [roO, if_neg c_1, if_pos c_9, roK_s hkw]; exact ⟨rfl, hP⟩)
        · refine lv_tableIn (off := 98) (tgt := 128) hx hb dX6_readOrder_30 (by decide +kernel) (by decide +kernel) (by decide +kernel) (by decide) ?_
          refine lv_iconst (v := nI (1)) hx hb dX6_readOrder_128 gc_1 ?_
          exact g_zretW (v := nI (1)) hx hb hr hlk rfl hS dX6_readOrder_129 (by rw [roO, if_neg c_1, if_pos c_9, roK_s hkw]; exact ⟨rfl, hP⟩)
    · rw [tkO_f c_9] at hP
      have hD : va_D (aS 2 B) (twd cA B (tc) (nI (tl)) (nI (to)) (kd) (fi) (se) (nI (ta)) (nu)) := twdD hA
      refine lv_iconst (v := nI (0)) hx hb dX6_readOrder_16 gc_0 ?_
      exact g_zretW (v := nI (0)) hx hb hr hlk rfl hS dX6_readOrder_17 (by have e9 : roO tc tl ta kd fi se nu = (false, (ta, (kd, (fi, (se, nu))))) := (by rw [roO, if_neg c_1, if_neg (bnt c_9)]) ; rw [e9]; exact ⟨rfl, hP⟩)

def feS (tc : Nat → Nat) (tl : Nat) (kd fi se nu : Int32) : Nat → TX
  | 0 => (0, (kd, (fi, (se, nu))))
  | k + 1 => (roO tc tl (feS tc tl kd fi se nu k).1 (feS tc tl kd fi se nu k).2.1 (feS tc tl kd fi se nu k).2.2.1 (feS tc tl kd fi se nu k).2.2.2.1 (feS tc tl kd fi se nu k).2.2.2.2).2
termination_by k => k
def feB (tc : Nat → Nat) (tl : Nat) (kd fi se nu : Int32) (k : Nat) : Bool := (roO tc tl (feS tc tl kd fi se nu k).1 (feS tc tl kd fi se nu k).2.1 (feS tc tl kd fi se nu k).2.2.1 (feS tc tl kd fi se nu k).2.2.2.1 (feS tc tl kd fi se nu k).2.2.2.2).1
theorem feS_0 {tc : Nat → Nat} {tl : Nat} {kd fi se nu : Int32} : feS tc tl kd fi se nu 0 = (0, (kd, (fi, (se, nu)))) := by rw [feS]
theorem feS_1 {tc : Nat → Nat} {tl : Nat} {kd fi se nu : Int32} {k : Nat} : feS tc tl kd fi se nu (k + 1) = (roO tc tl (feS tc tl kd fi se nu k).1 (feS tc tl kd fi se nu k).2.1 (feS tc tl kd fi se nu k).2.2.1 (feS tc tl kd fi se nu k).2.2.2.1 (feS tc tl kd fi se nu k).2.2.2.2).2 := by rw [feS]
theorem feS_le {tc : Nat → Nat} {tl : Nat} {kd fi se nu : Int32} (k : Nat) : (feS tc tl kd fi se nu k).1 ≤ tl := by
  induction k with
  | zero => rw [feS_0]; exact Nat.zero_le _
  | succ k ih => rw [feS_1]; exact roO_le ih
def feQ (tc : Nat → Nat) (tl : Nat) (kd fi se nu : Int32) (k : Nat) : Bool := !feB tc tl kd fi se nu k || decide (tl ≤ (feS tc tl kd fi se nu (k + 1)).1)
abbrev TQ : Type := Int32 × (Nat × TX)
def feX (tc : Nat → Nat) (tl : Nat) (kd fi se nu : Int32) (k : Nat) : TQ := if feB tc tl kd fi se nu k = true then (-1, (k + 1, feS tc tl kd fi se nu (k + 1))) else (nI (feS tc tl kd fi se nu (k + 1)).1, (k, feS tc tl kd fi se nu (k + 1)))
def feR (tc : Nat → Nat) (tl : Nat) (kd fi se nu : Int32) : TQ := oMt (fnd (feQ tc tl kd fi se nu) 60) (nI (feS tc tl kd fi se nu 60).1, (60, feS tc tl kd fi se nu 60)) (feX tc tl kd fi se nu)
theorem feR_n {tc : Nat → Nat} {tl : Nat} {kd fi se nu : Int32} (h : fnd (feQ tc tl kd fi se nu) 60 = none) : feR tc tl kd fi se nu = (nI (feS tc tl kd fi se nu 60).1, (60, feS tc tl kd fi se nu 60)) := congrArg (fun o => oMt o (nI (feS tc tl kd fi se nu 60).1, (60, feS tc tl kd fi se nu 60)) (feX tc tl kd fi se nu)) h
theorem feR_s {tc : Nat → Nat} {tl : Nat} {kd fi se nu : Int32} {k : Nat} (h : fnd (feQ tc tl kd fi se nu) 60 = some k) : feR tc tl kd fi se nu = feX tc tl kd fi se nu k := congrArg (fun o => oMt o (nI (feS tc tl kd fi se nu 60).1, (60, feS tc tl kd fi se nu 60)) (feX tc tl kd fi se nu)) h
theorem feR_t {tc : Nat → Nat} {tl : Nat} {kd fi se nu : Int32} {k : Nat} (h : fnd (feQ tc tl kd fi se nu) k = none) (hk : k < 60) (hb : feB tc tl kd fi se nu k = true) (hl : tl ≤ (feS tc tl kd fi se nu (k + 1)).1) : feR tc tl kd fi se nu = (-1, (k + 1, feS tc tl kd fi se nu (k + 1))) :=
  (feR_s (fnd_stop h (by rw [feQ, decide_eq_true hl, Bool.or_true]) 60 hk)).trans (if_pos hb)
theorem feR_f {tc : Nat → Nat} {tl : Nat} {kd fi se nu : Int32} {k : Nat} (h : fnd (feQ tc tl kd fi se nu) k = none) (hk : k < 60) (hb : feB tc tl kd fi se nu k = false) : feR tc tl kd fi se nu = (nI (feS tc tl kd fi se nu (k + 1)).1, (k, feS tc tl kd fi se nu (k + 1))) :=
  (feR_s (fnd_stop h (by rw [feQ, hb]; rfl) 60 hk)).trans (if_neg (by rw [hb]; decide))
theorem feQ_no {tc : Nat → Nat} {tl : Nat} {kd fi se nu : Int32} {k : Nat} (h : fnd (feQ tc tl kd fi se nu) k = none) (hb : feB tc tl kd fi se nu k = true) (hl : (feS tc tl kd fi se nu (k + 1)).1 < tl) : fnd (feQ tc tl kd fi se nu) (k + 1) = none :=
  fnd_succ_none h (by rw [feQ, hb, decide_eq_false (by omega)]; rfl)

set_option maxHeartbeats 1000000 in
set_option maxRecDepth 100000 in
theorem c_X6_findError (l : Launch) (D : va_G) (cA : Nat → ClassId) (AE : Nat → Prop) (adK adV sa : Nat → Nat) (B : Nat → Nat) (tc : Nat → Nat) (tl to : Nat) (kd fi se : Int32) (ta : Nat) (nu : Int32) (hA : aInj 2 B) (htc : ∀ k, k < tl → tc k < 65536) (htl : tl ≤ 60) (hFA : ∀ q, (aS 2 B) q → AE q) : Met l yX6_findError (gw yX6_findError cX6_findError 2 (some .int)) ({ frames := 7, cells := 0, slots := 0, locals := 187 } : Room) (gPx [.ref (B 0)] (fun H => va_P D vwCl (twd cA B (tc) (nI (tl)) (nI (to)) (kd) (fi) (se) (nI (ta)) (nu)) H) D cA AE adK adV sa) (wrI (fun r H => r = (feR tc tl kd fi se nu).1 ∧ va_P D vwCl (twd cA B (tc) (nI tl) (nI (feR tc tl kd fi se nu).2.1) ((feR tc tl kd fi se nu).2.2.2.1) ((feR tc tl kd fi se nu).2.2.2.2.1) ((feR tc tl kd fi se nu).2.2.2.2.2.1) (nI (feR tc tl kd fi se nu).2.2.1) ((feR tc tl kd fi se nu).2.2.2.2.2.2)) H) (aS 2 B)) 0 0 (aS 2 B) := by
  refine gOfx (by decide) (Nat.le_of_ble_eq_true rfl) ?_
  intro p e s m below meth c ls hx hb hml hr hlk hown hts hnm hP hK hE hl
  have hl : lv_has ls 2 [(0, .ref (B 0))] := hl
  have hD : va_D (aS 2 B) (twd cA B (tc) (nI (tl)) (nI (to)) (kd) (fi) (se) (nI (ta)) (nu)) := twdD hA
  have hS : va_S (aS 2 B) s.heap s.heap [] := va_S.rf
  refine lv_aload_n hx hb dX6_findError_0 rfl (lv_at hl 0 rfl) ?_
  refine wr_callv (va_runV (As := []) (rest := []) ⟨hx, hb, hml, hown, hts⟩ (c_X6_rewind l D cA B (tc) (tl) (to) (kd) (fi) (se) (ta) (nu)  hA) (cwV 0 hts (gWV gm_39_23 gm_40_0 gm_40_1 gm_2_9 gm_40_2) rfl rfl rfl (by decide +kernel) ⟨Nat.le_of_ble_eq_true rfl, Nat.le_of_ble_eq_true rfl⟩) (gPreV hK (g_rf hK hP (ci := 8) (q0 := 0) rfl rfl) hP) rfl rfl hl.1 rfl (lv_room (Nat.le_of_ble_eq_true rfl)) dX6_findError_1 ⟨by omega, by omega⟩) hS (fun q _ h => h) (fun q h => h) (fun H locs hP hz9 hk9 hS => ?_)
  have hP : va_P D vwCl (twd cA B (tc) (nI (tl)) (nI (to)) (kd) (fi) (se) (nI (0)) (nu)) H := hP
  have hD : va_D (aS 2 B) (twd cA B (tc) (nI (tl)) (nI (to)) (kd) (fi) (se) (nI (0)) (nu)) := twdD hA
  refine lv_aload_n hx hb dX6_findError_4 rfl (lv_at hl 0 rfl) ?_
  refine lv_iconst (v := nI (0)) hx hb dX6_findError_5 gc_0 ?_
  refine g_put (ws' := twd cA B (tc) (nI (tl)) (nI (0)) (kd) (fi) (se) (nI (0)) (nu)) hx hb hts hown hK hP hD hS 0 rfl rfl gu_wsX60 tyX6_ok nmX6 2 (by decide) gm_4_23 rfl rfl rfl (Nat.le_of_ble_eq_true rfl) (by first | rfl | (rw [updN_nI]; rfl)) dX6_findError_6 (fun H locs hP hD hS => ?_)
  refine lv_iconst (v := nI (0)) hx hb dX6_findError_9 gc_0 ?_
  refine lv_istore_n (lv' := [(1, .int (nI (0))), (0, .ref (B 0))]) hx hb dX6_findError_10 rfl hl (by decide) rfl (fun ls hl => ?_)
  have LP_10 : ∀ (n_2 i_1 : Nat) (x_3 X_4 X_5 X_6 X_7 X_8 X_9 : Int32) (H : Heap) (locs : List Loc), i_1 ≤ 60 → 60 + 1 ≤ i_1 + n_2 → x_3 = nI (i_1) → X_4 = (feS tc tl kd fi se nu (i_1)).2.2.1 → X_5 = (feS tc tl kd fi se nu (i_1)).2.1 → X_6 = (feS tc tl kd fi se nu (i_1)).2.2.2.2 → X_7 = (feS tc tl kd fi se nu (i_1)).2.2.2.1 → X_8 = nI ((feS tc tl kd fi se nu (i_1)).1) → X_9 = nI (i_1) → (fnd (feQ tc tl kd fi se nu) (i_1) = none) → va_P D vwCl (twd cA B (tc) (nI (tl)) (X_9) (X_5) (X_4) (X_7) (X_8) (X_6)) H → va_S (aS 2 B) s.heap H locs → ∀ (ls : Array Slot), lv_has ls 2 [(1, .int (x_3)), (0, .ref (B 0))] → W p l e ({ frames := 7, cells := 0, slots := 0, locals := 187 } : Room) s m ([.ref (B 0)] : List Value).toArray below meth c H locs 0 0 (MQ below (wrI (fun r H => r = (feR tc tl kd fi se nu).1 ∧ va_P D vwCl (twd cA B (tc) (nI tl) (nI (feR tc tl kd fi se nu).2.1) ((feR tc tl kd fi se nu).2.2.2.1) ((feR tc tl kd fi se nu).2.2.2.2.1) ((feR tc tl kd fi se nu).2.2.2.2.2.1) (nI (feR tc tl kd fi se nu).2.2.1) ((feR tc tl kd fi se nu).2.2.2.2.2.2)) H) (aS 2 B)) ([.ref (B 0)] : List Value).toArray s 0 0 (aS 2 B)) (F0 m 11 ls []) := by
    intro n_2
    induction n_2 with
    | zero => intro i_1 x_3 X_4 X_5 X_6 X_7 X_8 X_9 H locs h1 h2; exact absurd h2 (by omega)
    | succ n_2 ih_11 =>
      intro i_1 x_3 X_4 X_5 X_6 X_7 X_8 X_9 H locs h_12 h_13 e_14 e_15 e_16 e_17 e_18 e_19 e_20 hv hP hS ls hl
      subst e_14
      subst e_15
      subst e_16
      subst e_17
      subst e_18
      subst e_19
      subst e_20
      have hD : va_D (aS 2 B) (twd cA B (tc) (nI (tl)) (nI (i_1)) ((feS tc tl kd fi se nu (i_1)).2.1) ((feS tc tl kd fi se nu (i_1)).2.2.1) ((feS tc tl kd fi se nu (i_1)).2.2.2.1) (nI ((feS tc tl kd fi se nu (i_1)).1)) ((feS tc tl kd fi se nu (i_1)).2.2.2.2)) := twdD hA
      have hfe9 := feS_le (tc := tc) (tl := tl) (kd := kd) (fi := fi) (se := se) (nu := nu) (i_1)
      refine lv_iload_n hx hb dX6_findError_11 rfl (lv_at hl 0 rfl) ?_
      refine lv_bipush (v := nI (60)) hx hb dX6_findError_12 gb_60 ?_
      refine g_icmp_ge (P := 60 ≤ i_1) (tgt := 58) hx hb dX6_findError_14 (by decide) (nI_leI (by omega) (by omega)) (fun c_21 => ?_) (fun c_21 => ?_)
      · have d_21 : ¬ i_1 < 60 := Nat.not_lt.mpr c_21
        have hN_22 : 60 = i_1 := by omega
        subst hN_22
        refine lv_aload_n hx hb dX6_findError_58 rfl (lv_at hl 1 rfl) ?_
        refine g_get (v := .int (nI ((feS tc tl kd fi se nu ((60))).1))) hx hb hts hown hK hP 0 rfl rfl gu_wsX60 6 (by decide) gm_5_3 rfl dX6_findError_59 ?_
        exact g_iretW (v := nI ((feS tc tl kd fi se nu ((60))).1)) hx hb hr hlk hS dX6_findError_62 (by rw [feR_n hv]; exact ⟨rfl, hP⟩)
      · have d_21 : i_1 < 60 := Nat.not_le.mp c_21
        refine lv_aload_n hx hb dX6_findError_17 rfl (lv_at hl 1 rfl) ?_
        refine wr_calli (va_runV (As := []) (rest := []) ⟨hx, hb, hml, hown, hts⟩ (c_X6_readOrder l D cA AE adK adV sa B (tc) (tl) (i_1) ((feS tc tl kd fi se nu (i_1)).2.1) ((feS tc tl kd fi se nu (i_1)).2.2.1) ((feS tc tl kd fi se nu (i_1)).2.2.2.1) ((feS tc tl kd fi se nu (i_1)).1) ((feS tc tl kd fi se nu (i_1)).2.2.2.2)  hA htc htl (by omega) hFA) (cwV 0 hts (gWV gm_40_3 gm_40_4 gm_40_5 gm_2_9 gm_40_6) rfl rfl rfl (by decide +kernel) ⟨Nat.le_of_ble_eq_true rfl, Nat.le_of_ble_eq_true rfl⟩) (gPreVx hK hE hS hFA (g_rf hK hP (ci := 8) (q0 := 0) rfl rfl) hP) rfl rfl hl.1 rfl (lv_room (Nat.le_of_ble_eq_true rfl)) dX6_findError_18 ⟨by omega, by omega⟩) hS (fun q _ h => h) (fun q h => h) (fun r H locs hw9 hz9 hk9 hS => ?_)
        obtain ⟨rfl, hP⟩ := hw9
        have hP : va_P D vwCl (twd cA B (tc) (nI (tl)) (nI (i_1)) ((roO tc tl ((feS tc tl kd fi se nu (i_1)).1) ((feS tc tl kd fi se nu (i_1)).2.1) ((feS tc tl kd fi se nu (i_1)).2.2.1) ((feS tc tl kd fi se nu (i_1)).2.2.2.1) ((feS tc tl kd fi se nu (i_1)).2.2.2.2)).2.2.1) ((roO tc tl ((feS tc tl kd fi se nu (i_1)).1) ((feS tc tl kd fi se nu (i_1)).2.1) ((feS tc tl kd fi se nu (i_1)).2.2.1) ((feS tc tl kd fi se nu (i_1)).2.2.2.1) ((feS tc tl kd fi se nu (i_1)).2.2.2.2)).2.2.2.1) ((roO tc tl ((feS tc tl kd fi se nu (i_1)).1) ((feS tc tl kd fi se nu (i_1)).2.1) ((feS tc tl kd fi se nu (i_1)).2.2.1) ((feS tc tl kd fi se nu (i_1)).2.2.2.1) ((feS tc tl kd fi se nu (i_1)).2.2.2.2)).2.2.2.2.1) (nI ((roO tc tl ((feS tc tl kd fi se nu (i_1)).1) ((feS tc tl kd fi se nu (i_1)).2.1) ((feS tc tl kd fi se nu (i_1)).2.2.1) ((feS tc tl kd fi se nu (i_1)).2.2.2.1) ((feS tc tl kd fi se nu (i_1)).2.2.2.2)).2.1)) ((roO tc tl ((feS tc tl kd fi se nu (i_1)).1) ((feS tc tl kd fi se nu (i_1)).2.1) ((feS tc tl kd fi se nu (i_1)).2.2.1) ((feS tc tl kd fi se nu (i_1)).2.2.2.1) ((feS tc tl kd fi se nu (i_1)).2.2.2.2)).2.2.2.2.2)) H := hP
        have hD : va_D (aS 2 B) (twd cA B (tc) (nI (tl)) (nI (i_1)) ((roO tc tl ((feS tc tl kd fi se nu (i_1)).1) ((feS tc tl kd fi se nu (i_1)).2.1) ((feS tc tl kd fi se nu (i_1)).2.2.1) ((feS tc tl kd fi se nu (i_1)).2.2.2.1) ((feS tc tl kd fi se nu (i_1)).2.2.2.2)).2.2.1) ((roO tc tl ((feS tc tl kd fi se nu (i_1)).1) ((feS tc tl kd fi se nu (i_1)).2.1) ((feS tc tl kd fi se nu (i_1)).2.2.1) ((feS tc tl kd fi se nu (i_1)).2.2.2.1) ((feS tc tl kd fi se nu (i_1)).2.2.2.2)).2.2.2.1) ((roO tc tl ((feS tc tl kd fi se nu (i_1)).1) ((feS tc tl kd fi se nu (i_1)).2.1) ((feS tc tl kd fi se nu (i_1)).2.2.1) ((feS tc tl kd fi se nu (i_1)).2.2.2.1) ((feS tc tl kd fi se nu (i_1)).2.2.2.2)).2.2.2.2.1) (nI ((roO tc tl ((feS tc tl kd fi se nu (i_1)).1) ((feS tc tl kd fi se nu (i_1)).2.1) ((feS tc tl kd fi se nu (i_1)).2.2.1) ((feS tc tl kd fi se nu (i_1)).2.2.2.1) ((feS tc tl kd fi se nu (i_1)).2.2.2.2)).2.1)) ((roO tc tl ((feS tc tl kd fi se nu (i_1)).1) ((feS tc tl kd fi se nu (i_1)).2.1) ((feS tc tl kd fi se nu (i_1)).2.2.1) ((feS tc tl kd fi se nu (i_1)).2.2.2.1) ((feS tc tl kd fi se nu (i_1)).2.2.2.2)).2.2.2.2.2)) := twdD hA
        rw [← feS_1] at hP
        have hfe8 := feS_le (tc := tc) (tl := tl) (kd := kd) (fi := fi) (se := se) (nu := nu) (i_1 + 1)
        have hP : va_P D vwCl (twd cA B (tc) (nI (tl)) (nI (i_1)) ((feS tc tl kd fi se nu (i_1 + 1)).2.1) ((feS tc tl kd fi se nu (i_1 + 1)).2.2.1) ((feS tc tl kd fi se nu (i_1 + 1)).2.2.2.1) (nI ((feS tc tl kd fi se nu (i_1 + 1)).1)) ((feS tc tl kd fi se nu (i_1 + 1)).2.2.2.2)) H := hP
        have hD : va_D (aS 2 B) (twd cA B (tc) (nI (tl)) (nI (i_1)) ((feS tc tl kd fi se nu (i_1 + 1)).2.1) ((feS tc tl kd fi se nu (i_1 + 1)).2.2.1) ((feS tc tl kd fi se nu (i_1 + 1)).2.2.2.1) (nI ((feS tc tl kd fi se nu (i_1 + 1)).1)) ((feS tc tl kd fi se nu (i_1 + 1)).2.2.2.2)) := twdD hA
        refine g_top (z := b2i (feB tc tl kd fi se nu i_1)) rfl ?_
        refine g_if_ne (P := feB tc tl kd fi se nu i_1 = false) (tgt := 29) hx hb dX6_findError_21 (by decide) b2i_0 (fun c_23 => ?_) (fun c_23 => ?_)
        · have c_23 : feB tc tl kd fi se nu i_1 = true := eq_true_of_ne_false c_23
          refine lv_aload_n hx hb dX6_findError_29 rfl (lv_at hl 1 rfl) ?_
          refine lv_dup hx hb dX6_findError_30 rfl ?_
          refine g_get (v := .int (nI (i_1))) hx hb hts hown hK hP 0 rfl rfl gu_wsX60 2 (by decide) gm_4_23 rfl dX6_findError_31 ?_
          refine lv_iconst (v := nI (1)) hx hb dX6_findError_34 gc_1 ?_
          refine g_iadd hx hb dX6_findError_35 ?_
          refine g_put (ws' := twd cA B (tc) (nI (tl)) (nI ((i_1) + (1))) ((feS tc tl kd fi se nu (i_1 + 1)).2.1) ((feS tc tl kd fi se nu (i_1 + 1)).2.2.1) ((feS tc tl kd fi se nu (i_1 + 1)).2.2.2.1) (nI ((feS tc tl kd fi se nu (i_1 + 1)).1)) ((feS tc tl kd fi se nu (i_1 + 1)).2.2.2.2)) hx hb hts hown hK hP hD hS 0 rfl rfl gu_wsX60 tyX6_ok nmX6 2 (by decide) gm_4_23 rfl rfl rfl (Nat.le_of_ble_eq_true rfl) (by first | rfl | (rw [updN_nI]; rfl)) dX6_findError_36 (fun H locs hP hD hS => ?_)
          refine lv_aload_n hx hb dX6_findError_39 rfl (lv_at hl 1 rfl) ?_
          refine g_get (v := .int (nI ((feS tc tl kd fi se nu (i_1 + 1)).1))) hx hb hts hown hK hP 0 rfl rfl gu_wsX60 6 (by decide) gm_5_3 rfl dX6_findError_40 ?_
          refine lv_aload_n hx hb dX6_findError_43 rfl (lv_at hl 1 rfl) ?_
          refine g_get (v := .int (nI (tl))) hx hb hts hown hK hP 0 rfl rfl gu_wsX60 1 (by decide) gm_4_22 rfl dX6_findError_44 ?_
          refine g_icmp_lt (P := (feS tc tl kd fi se nu (i_1 + 1)).1 < tl) (tgt := 52) hx hb dX6_findError_47 (by decide) (nI_ltI (by omega) (by omega)) (fun c_24 => ?_) (fun c_24 => ?_)
          · have d_24 : ¬ tl ≤ (feS tc tl kd fi se nu (i_1 + 1)).1 := Nat.not_le.mpr c_24
            refine lv_iinc (v := nI (i_1 + 1)) (lv' := [(1, .int (nI (i_1 + 1))), (0, .ref (B 0))]) hx hb dX6_findError_52 hl (k := 0) rfl (inc_1 _) (by decide) rfl (fun ls hl => ?_)
            refine lv_goto (tgt := 11) hx hb dX6_findError_55 (by decide) ?_
            exact ih_11 (i_1 + 1) _ ((feS tc tl kd fi se nu (i_1 + 1)).2.2.1) ((feS tc tl kd fi se nu (i_1 + 1)).2.1) ((feS tc tl kd fi se nu (i_1 + 1)).2.2.2.2) ((feS tc tl kd fi se nu (i_1 + 1)).2.2.2.1) (nI ((feS tc tl kd fi se nu (i_1 + 1)).1)) (nI ((i_1) + (1))) H locs (by omega) (by omega) rfl rfl rfl rfl rfl rfl rfl (feQ_no hv c_23 (by omega)) hP hS ls (lv_sub hl [0, 1] rfl)
          · have d_24 : tl ≤ (feS tc tl kd fi se nu (i_1 + 1)).1 := Nat.not_lt.mp c_24
            refine lv_iconst (v := -1) hx hb dX6_findError_50 gc_m1 ?_
            exact g_iretW (v := -1) hx hb hr hlk hS dX6_findError_51 (by rw [feR_t hv (by omega) c_23 (by omega)]; exact ⟨rfl, hP⟩)
        · refine lv_aload_n hx hb dX6_findError_24 rfl (lv_at hl 1 rfl) ?_
          refine g_get (v := .int (nI ((feS tc tl kd fi se nu (i_1 + 1)).1))) hx hb hts hown hK hP 0 rfl rfl gu_wsX60 6 (by decide) gm_5_3 rfl dX6_findError_25 ?_
          exact g_iretW (v := nI ((feS tc tl kd fi se nu (i_1 + 1)).1)) hx hb hr hlk hS dX6_findError_28 (by rw [feR_f hv (by omega) c_23]; exact ⟨rfl, hP⟩)
  exact LP_10 (60 + 1) 0 _ (fi) (kd) (nu) (se) (nI (0)) (nI (0)) H locs (by omega) (by omega) rfl (by rw [feS_0]) (by rw [feS_0]) (by rw [feS_0]) (by rw [feS_0]) (by rw [feS_0]) rfl rfl hP hS ls (lv_sub hl [0, 1] rfl)

