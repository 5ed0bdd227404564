theorem i2c_n {n : Nat} (h : n < 65536) : ((nI n).toUInt32 % 65536).toInt32 = nI n := by
  rw [pk_char]
  have e : (nI n).toBitVec.toNat = n := by
    show (BitVec.ofNat 32 n).toNat = n
    rw [BitVec.toNat_ofNat]
    omega
  rw [e, Nat.mod_eq_of_lt h]
def cN (x : Int32) : Nat := x.toBitVec.toNat % 65536
theorem cN_i (x : Int32) : (x.toUInt32 % 65536).toInt32 = nI (cN x) := pk_char x
theorem cN_lt (x : Int32) : cN x < 65536 := Nat.mod_lt _ (by decide)
section GK2
variable {p : Program} {l : Launch} {e : Env} {R : Room} {s : State} {m : MethodId} {args : Array Value} {below : List Frame} {meth : Method} {c : Code} {H : Heap} {locs : List Loc} {cells slots : Nat} {Q : State → Prop}
variable {cc : ByteArray} {pc : Nat} {ls : Array Slot} {rest : List Value} {H0 : Heap}
theorem g_cret {v : Int32} {post : Int32 → Prop} (hx : p.tables.exec = Jvm.exec) (hb : c.code = cc) (hr : meth.sig.returnType = some .char) (hlk : meth.locks = false) (hn : narrow .char (.int v) = .int v) (hdg : decode cc pc = .ok (.ireturn, 1)) (hp : post v) : W p l e R s m args below meth c s.heap [] cells slots (MQ below (rdI post) args s cells slots nF) (F0 m pc ls [.int v]) :=
  W.zret hx hb hr hn (fun t ht _ => ⟨⟨v, rfl, hp⟩, ht⟩) (fun _ h => nomatch h) hdg hlk
theorem g_cretW {v : Int32} {post : Int32 → Heap → Prop} {A : Nat → Prop} (hx : p.tables.exec = Jvm.exec) (hb : c.code = cc) (hr : meth.sig.returnType = some .char) (hlk : meth.locks = false) (hn : narrow .char (.int v) = .int v) (hS : va_S A s.heap H locs) (hdg : decode cc pc = .ok (.ireturn, 1)) (hp : post v H) : W p l e R s m args below meth c H locs cells slots (MQ below (wrI post A) args s cells slots A) (F0 m pc ls [.int v]) :=
  W.zret hx hb hr hn (fun t ht _ => ⟨⟨v, rfl, by rw [ht]; exact hp⟩, hS.F ht⟩) hS.2.2 hdg hlk
theorem g_cast {D : va_G} {cA : Nat → ClassId} {ws ws' : va_W} {o len i v : Nat} {f : Nat → Int32} {A : Nat → Prop} (hx : p.tables.exec = Jvm.exec) (hb : c.code = cc) (hK : gK D cA s) (hP : va_P D vwCl ws H) (hD : va_D A ws) (hS : va_S A H0 H locs) (q0 : Nat) (ha : ws[q0]? = some (o, .inl (cA 1, len, .inl f))) (hi : i < len) (hlen : len < 2 ^ 31) (hv : v < 65536) (hw : ws.set q0 (o, .inl (cA 1, len, .inl (upd f i (nI v)))) = ws') (hdg : decode cc pc = .ok (.castore, 1))
    (kk : ∀ (H1 : Heap) (locs1 : List Loc), va_P D vwCl ws' H1 → va_D A ws' → va_S A H0 H1 locs1 → W p l e R s m args below meth c H1 locs1 cells slots Q (F0 m (pc + 1) ls rest)) : W p l e R s m args below meth c H locs cells slots Q (F0 m pc ls (.int (nI v) :: .int (nI i) :: .ref o :: rest)) := by
  subst hw
  refine va_cast hx hb hK.1 hP hD hS q0 1 ha rfl (vp_in_nI hi hlen) hdg ?_
  rw [nI_clamp (Nat.lt_trans hi hlen), show vp_nar .char (nI v) = nI v from Value.int.inj (pk_charN hv).1]
  exact kk
end GK2
abbrev TS : Type := (Nat → Int32) × Nat
def tw (c : Nat) (ts : TS) : TS := (upd ts.1 ts.2 (nI c), ts.2 + 1)
def tn (n : Nat) (ts : TS) : TS := if h : 9 < n then tw (48 + n % 10) (tn (n / 10) ts) else tw (48 + n % 10) ts
termination_by n
decreasing_by omega
theorem tn_lo {n : Nat} {ts : TS} (h : n ≤ 9) : tn n ts = tw (48 + n % 10) ts := by rw [tn, dif_neg (by omega)]
theorem tn_hi {n : Nat} {ts : TS} (h : 9 < n) : tn n ts = tw (48 + n % 10) (tn (n / 10) ts) := by rw [tn, dif_pos h]
theorem tw_2 {c : Nat} {ts : TS} : (tw c ts).2 = ts.2 + 1 := rfl
theorem tn_29 {n : Nat} {ts : TS} (h : n ≤ 9) : (tn n ts).2 = ts.2 + 1 := by rw [tn_lo h]; rfl
theorem tn_2 {n : Nat} {ts : TS} (h : n ≤ 999) : ts.2 + 1 ≤ (tn n ts).2 ∧ (tn n ts).2 ≤ ts.2 + 3 := by
  by_cases h1 : 9 < n
  · rw [tn_hi h1, tw_2]
    by_cases h2 : 9 < n / 10
    · rw [tn_hi h2, tw_2, tn_29 (by omega)]; omega
    · rw [tn_29 (by omega)]; omega
  · rw [tn_29 (by omega)]; omega

theorem tn_22 {n : Nat} {ts : TS} (h : n ≤ 99) : ts.2 + 1 ≤ (tn n ts).2 ∧ (tn n ts).2 ≤ ts.2 + 2 := by
  by_cases h1 : 9 < n
  · rw [tn_hi h1, tw_2, tn_29 (by omega)]; omega
  · rw [tn_29 (by omega)]; omega

set_option maxHeartbeats 1000000 in
set_option maxRecDepth 100000 in
theorem c_X8_writes (l : Launch) (D : va_G) (cA : Nat → ClassId) (A : Nat → Nat) (x : Nat → Int32) (f : Nat → Nat → Int32) (sm c9 : Nat) (hA : mInj A) (hsm : x 9 = nI sm) (hs6 : sm < 60) (hc6 : c9 < 65536) : Met l yX8_writes (gw yX8_writes cX8_writes 2 none) ({ frames := 0, cells := 0, slots := 0, locals := 0 } : Room) (gPc [.ref (A 0), .int (nI (c9))] (fun H => va_P D vwCl (mw cA A x f) H) D cA) (wrV (fun H => va_P D vwCl (mw cA A (upd x 9 (nI (sm + 1))) (va_up f 5 (upd (f 5) (sm) (nI (c9))))) H) (MA A)) 0 0 (MA A) := by
  refine gOf (by decide) (Nat.le_of_ble_eq_true rfl) ?_
  intro p e s m below meth c ls hx hb hml hr hlk hown hts hnm hP hK hl
  have hl : lv_has ls 2 [(0, .ref (A 0)), (1, .int (nI (c9)))] := hl
  have hD : va_D (MA A) (mw cA A x f) := mD hA
  have hS : va_S (MA A) s.heap s.heap [] := va_S.rf
  refine lv_aload_n hx hb dX8_writes_0 rfl (lv_at hl 0 rfl) ?_
  refine g_get (v := .ref (A 6)) hx hb hts hown hK hP 0 rfl rfl gu_wsX80 14 (by decide) gm_5_20 rfl dX8_writes_1 ?_
  refine lv_aload_n hx hb dX8_writes_4 rfl (lv_at hl 0 rfl) ?_
  refine g_get (v := .int (x 9)) hx hb hts hown hK hP 0 rfl rfl gu_wsX80 15 (by decide) gm_37_4 rfl dX8_writes_5 ?_
  refine g_top hsm ?_
  refine lv_iload_n hx hb dX8_writes_8 rfl (lv_at hl 1 rfl) ?_
  refine lv_i2c (v := nI (c9)) hx hb dX8_writes_9 (i2c_n (by omega)) ?_
  refine g_cast (ws' := mw cA A (x) (va_up (f) 5 (upd (f 5) (sm) (nI (c9))))) hx hb hK hP hD hS 6 rfl (by omega) (by decide) (by omega) rfl dX8_writes_10 (fun H locs hP hD hS => ?_)
  refine lv_aload_n hx hb dX8_writes_11 rfl (lv_at hl 0 rfl) ?_
  refine lv_dup hx hb dX8_writes_12 rfl ?_
  refine g_get (v := .int (x 9)) hx hb hts hown hK hP 0 rfl rfl gu_wsX80 15 (by decide) gm_37_4 rfl dX8_writes_13 ?_
  refine g_top hsm ?_
  refine lv_iconst (v := nI (1)) hx hb dX8_writes_16 gc_1 ?_
  refine g_iadd hx hb dX8_writes_17 ?_
  refine g_put (ws' := mw cA A (upd (x) 9 (nI (sm + 1))) (va_up (f) 5 (upd (f 5) (sm) (nI (c9))))) hx hb hts hown hK hP hD hS 0 rfl rfl gu_wsX80 tyX8_ok nmX8 15 (by decide) gm_37_4 rfl rfl rfl (Nat.le_of_ble_eq_true rfl) rfl dX8_writes_18 (fun H locs hP hD hS => ?_)
  exact g_vretW hx hb hr hlk hS dX8_writes_21 (hP)

set_option maxHeartbeats 1000000 in
set_option maxRecDepth 100000 in
theorem c_X8_writesNumber_1 (l : Launch) (D : va_G) (cA : Nat → ClassId) (A : Nat → Nat) (x : Nat → Int32) (f : Nat → Nat → Int32) (sm n : Nat) (hA : mInj A) (hsm : x 9 = nI sm) (hs6 : sm < 60) (hn : n ≤ 9) : Met l yX8_writesNumber (gw yX8_writesNumber cX8_writesNumber 2 none) ({ frames := 1, cells := 0, slots := 0, locals := 21 } : Room) (gPc [.ref (A 0), .int (nI (n))] (fun H => va_P D vwCl (mw cA A x f) H) D cA) (wrV (fun H => va_P D vwCl (mw cA A (upd x 9 (nI (tn n (f 5, sm)).2)) (va_up f 5 ((tn n (f 5, sm)).1))) H) (MA A)) 0 0 (MA A) := by
  refine gOf (by decide) (Nat.le_of_ble_eq_true rfl) ?_
  intro p e s m below meth c ls hx hb hml hr hlk hown hts hnm hP hK hl
  have hl : lv_has ls 2 [(0, .ref (A 0)), (1, .int (nI (n)))] := hl
  have hD : va_D (MA A) (mw cA A x f) := mD hA
  have hS : va_S (MA A) s.heap s.heap [] := va_S.rf
  refine lv_iload_n hx hb dX8_writesNumber_0 rfl (lv_at hl 1 rfl) ?_
  refine lv_bipush (v := nI (9)) hx hb dX8_writesNumber_1 gb_9 ?_
  refine g_icmp_le (P := n ≤ 9) (tgt := 14) hx hb dX8_writesNumber_3 (by decide) (nI_leI (by omega) (by omega)) (fun c_1 => ?_) (fun c_1 => ?_)
  · have d_1 : ¬ 9 < n := Nat.not_lt.mpr c_1
    refine lv_aload_n hx hb dX8_writesNumber_14 rfl (lv_at hl 0 rfl) ?_
    refine lv_bipush (v := nI (48)) hx hb dX8_writesNumber_15 gb_48 ?_
    refine lv_iload_n hx hb dX8_writesNumber_17 rfl (lv_at hl 1 rfl) ?_
    refine lv_bipush (v := nI (10)) hx hb dX8_writesNumber_18 gb_10 ?_
    refine g_irem hx hb (by omega) (by omega) (by omega) dX8_writesNumber_20 ?_
    refine g_iadd hx hb dX8_writesNumber_21 ?_
    refine wr_callv (va_runV (As := [.int (nI ((48) + (n % 10)))]) (rest := []) ⟨hx, hb, hml, hown, hts⟩ (c_X8_writes l D cA A (x) (f) sm ((48) + (n % 10)) hA hsm (by omega) (by omega)) (cwV 1 hts (gWV gm_37_9 gm_37_10 gm_37_11 gm_1_5 gm_37_12) rfl rfl rfl (by decide +kernel) ⟨Nat.le_of_ble_eq_true rfl, Nat.le_of_ble_eq_true rfl⟩) (gPreV hK (g_rf hK hP (ci := 10) (q0 := 0) rfl rfl) hP) rfl rfl hl.1 rfl (lv_room (Nat.le_of_ble_eq_true rfl)) dX8_writesNumber_22 ⟨by omega, by omega⟩) hS (fun q _ h => h) (fun q h => h) (fun H locs hP hz9 hk9 hS => ?_)
    have hP : va_P D vwCl (mw cA A (upd (x) 9 (nI ((tw ((48) + (n % 10)) (((f 5, sm) : TS))).2))) (va_up (f) 5 ((tw ((48) + (n % 10)) (((f 5, sm) : TS))).1))) H := hP
    have hD : va_D (MA A) (mw cA A (upd (x) 9 (nI ((tw ((48) + (n % 10)) (((f 5, sm) : TS))).2))) (va_up (f) 5 ((tw ((48) + (n % 10)) (((f 5, sm) : TS))).1))) := mD hA
    have hb_2 : (tw ((48) + (n % 10)) (((f 5, sm) : TS))).2 = (((f 5, sm) : TS)).2 + 1 := rfl
    exact g_vretW hx hb hr hlk hS dX8_writesNumber_25 (by rw [tn_lo (by omega)]; exact hP)
  · have d_1 : 9 < n := Nat.not_le.mp c_1
    exact absurd c_1 (by omega)

set_option maxHeartbeats 1000000 in
set_option maxRecDepth 100000 in
theorem c_X8_writesNumber_2 (l : Launch) (D : va_G) (cA : Nat → ClassId) (A : Nat → Nat) (x : Nat → Int32) (f : Nat → Nat → Int32) (sm n : Nat) (hA : mInj A) (hsm : x 9 = nI sm) (hs6 : sm < 59) (hn : n ≤ 99) : Met l yX8_writesNumber (gw yX8_writesNumber cX8_writesNumber 2 none) ({ frames := 2, cells := 0, slots := 0, locals := 42 } : Room) (gPc [.ref (A 0), .int (nI (n))] (fun H => va_P D vwCl (mw cA A x f) H) D cA) (wrV (fun H => va_P D vwCl (mw cA A (upd x 9 (nI (tn n (f 5, sm)).2)) (va_up f 5 ((tn n (f 5, sm)).1))) H) (MA A)) 0 0 (MA A) := by
  refine gOf (by decide) (Nat.le_of_ble_eq_true rfl) ?_
  intro p e s m below meth c ls hx hb hml hr hlk hown hts hnm hP hK hl
  have hl : lv_has ls 2 [(0, .ref (A 0)), (1, .int (nI (n)))] := hl
  have hD : va_D (MA A) (mw cA A x f) := mD hA
  have hS : va_S (MA A) s.heap s.heap [] := va_S.rf
  refine lv_iload_n hx hb dX8_writesNumber_0 rfl (lv_at hl 1 rfl) ?_
  refine lv_bipush (v := nI (9)) hx hb dX8_writesNumber_1 gb_9 ?_
  refine g_icmp_le (P := n ≤ 9) (tgt := 14) hx hb dX8_writesNumber_3 (by decide) (nI_leI (by omega) (by omega)) (fun c_1 => ?_) (fun c_1 => ?_)
  · have d_1 : ¬ 9 < n := Nat.not_lt.mpr c_1
    refine lv_aload_n hx hb dX8_writesNumber_14 rfl (lv_at hl 0 rfl) ?_
    refine lv_bipush (v := nI (48)) hx hb dX8_writesNumber_15 gb_48 ?_
    refine lv_iload_n hx hb dX8_writesNumber_17 rfl (lv_at hl 1 rfl) ?_
    refine lv_bipush (v := nI (10)) hx hb dX8_writesNumber_18 gb_10 ?_
    refine g_irem hx hb (by omega) (by omega) (by omega) dX8_writesNumber_20 ?_
    refine g_iadd hx hb dX8_writesNumber_21 ?_
    refine wr_callv (va_runV (As := [.int (nI ((48) + (n % 10)))]) (rest := []) ⟨hx, hb, hml, hown, hts⟩ (c_X8_writes l D cA A (x) (f) sm ((48) + (n % 10)) hA hsm (by omega) (by omega)) (cwV 1 hts (gWV gm_37_9 gm_37_10 gm_37_11 gm_1_5 gm_37_12) rfl rfl rfl (by decide +kernel) ⟨Nat.le_of_ble_eq_true rfl, Nat.le_of_ble_eq_true rfl⟩) (gPreV hK (g_rf hK hP (ci := 10) (q0 := 0) rfl rfl) hP) rfl rfl hl.1 rfl (lv_room (Nat.le_of_ble_eq_true rfl)) dX8_writesNumber_22 ⟨by omega, by omega⟩) hS (fun q _ h => h) (fun q h => h) (fun H locs hP hz9 hk9 hS => ?_)
    have hP : va_P D vwCl (mw cA A (upd (x) 9 (nI ((tw ((48) + (n % 10)) (((f 5, sm) : TS))).2))) (va_up (f) 5 ((tw ((48) + (n % 10)) (((f 5, sm) : TS))).1))) H := hP
    have hD : va_D (MA A) (mw cA A (upd (x) 9 (nI ((tw ((48) + (n % 10)) (((f 5, sm) : TS))).2))) (va_up (f) 5 ((tw ((48) + (n % 10)) (((f 5, sm) : TS))).1))) := mD hA
    have hb_2 : (tw ((48) + (n % 10)) (((f 5, sm) : TS))).2 = (((f 5, sm) : TS)).2 + 1 := rfl
    exact g_vretW hx hb hr hlk hS dX8_writesNumber_25 (by rw [tn_lo (by omega)]; exact hP)
  · have d_1 : 9 < n := Nat.not_le.mp c_1
    refine lv_aload_n hx hb dX8_writesNumber_6 rfl (lv_at hl 0 rfl) ?_
    refine lv_iload_n hx hb dX8_writesNumber_7 rfl (lv_at hl 1 rfl) ?_
    refine lv_bipush (v := nI (10)) hx hb dX8_writesNumber_8 gb_10 ?_
    refine g_idiv hx hb (by omega) (by omega) (by omega) dX8_writesNumber_10 ?_
    refine wr_callv (va_runV (As := [.int (nI (n / 10))]) (rest := []) ⟨hx, hb, hml, hown, hts⟩ (c_X8_writesNumber_1 l D cA A (x) (f) sm (n / 10) hA hsm (by omega) (by omega)) (cwV 1 hts (gWV gm_37_5 gm_37_6 gm_37_7 gm_1_5 gm_37_8) rfl rfl rfl (by decide +kernel) ⟨Nat.le_of_ble_eq_true rfl, Nat.le_of_ble_eq_true rfl⟩) (gPreV hK (g_rf hK hP (ci := 10) (q0 := 0) rfl rfl) hP) rfl rfl hl.1 rfl (lv_room (Nat.le_of_ble_eq_true rfl)) dX8_writesNumber_11 ⟨by omega, by omega⟩) hS (fun q _ h => h) (fun q h => h) (fun H locs hP hz9 hk9 hS => ?_)
    have hP : va_P D vwCl (mw cA A (upd (x) 9 (nI ((tn (n / 10) (((f 5, sm) : TS))).2))) (va_up (f) 5 ((tn (n / 10) (((f 5, sm) : TS))).1))) H := hP
    have hD : va_D (MA A) (mw cA A (upd (x) 9 (nI ((tn (n / 10) (((f 5, sm) : TS))).2))) (va_up (f) 5 ((tn (n / 10) (((f 5, sm) : TS))).1))) := mD hA
    have hb_3 := tn_29 (n := n / 10) (ts := ((f 5, sm) : TS)) (by omega)
    refine lv_aload_n hx hb dX8_writesNumber_14 rfl (lv_at hl 0 rfl) ?_
    refine lv_bipush (v := nI (48)) hx hb dX8_writesNumber_15 gb_48 ?_
    refine lv_iload_n hx hb dX8_writesNumber_17 rfl (lv_at hl 1 rfl) ?_
    refine lv_bipush (v := nI (10)) hx hb dX8_writesNumber_18 gb_10 ?_
    refine g_irem hx hb (by omega) (by omega) (by omega) dX8_writesNumber_20 ?_
    refine g_iadd hx hb dX8_writesNumber_21 ?_
    refine wr_callv (va_runV (As := [.int (nI ((48) + (n % 10)))]) (rest := []) ⟨hx, hb, hml, hown, hts⟩ (c_X8_writes l D cA A (upd (x) 9 (nI ((tn (n / 10) (((f 5, sm) : TS))).2))) (va_up (f) 5 ((tn (n / 10) (((f 5, sm) : TS))).1)) ((tn (n / 10) (((f 5, sm) : TS))).2) ((48) + (n % 10)) hA rfl (by omega) (by omega)) (cwV 1 hts (gWV gm_37_9 gm_37_10 gm_37_11 gm_1_5 gm_37_12) rfl rfl rfl (by decide +kernel) ⟨Nat.le_of_ble_eq_true rfl, Nat.le_of_ble_eq_true rfl⟩) (gPreV hK (g_rf hK hP (ci := 10) (q0 := 0) rfl rfl) hP) rfl rfl hl.1 rfl (lv_room (Nat.le_of_ble_eq_true rfl)) dX8_writesNumber_22 ⟨by omega, by omega⟩) hS (fun q _ h => h) (fun q h => h) (fun H locs hP hz9 hk9 hS => ?_)
    have hP : va_P D vwCl (mw cA A (upd (x) 9 (nI ((tw ((48) + (n % 10)) (tn (n / 10) (((f 5, sm) : TS)))).2))) (va_up (f) 5 ((tw ((48) + (n % 10)) (tn (n / 10) (((f 5, sm) : TS)))).1))) H := hP
    have hD : va_D (MA A) (mw cA A (upd (x) 9 (nI ((tw ((48) + (n % 10)) (tn (n / 10) (((f 5, sm) : TS)))).2))) (va_up (f) 5 ((tw ((48) + (n % 10)) (tn (n / 10) (((f 5, sm) : TS)))).1))) := mD hA
    have hb_4 : (tw ((48) + (n % 10)) (tn (n / 10) (((f 5, sm) : TS)))).2 = (tn (n / 10) (((f 5, sm) : TS))).2 + 1 := rfl
    exact g_vretW hx hb hr hlk hS dX8_writesNumber_25 (by rw [tn_hi (by omega)]; exact hP)

set_option maxHeartbeats 1000000 in
set_option maxRecDepth 100000 in
theorem c_X8_writesNumber_3 (l : Launch) (D : va_G) (cA : Nat → ClassId) (A : Nat → Nat) (x : Nat → Int32) (f : Nat → Nat → Int32) (sm n : Nat) (hA : mInj A) (hsm : x 9 = nI sm) (hs6 : sm < 58) (hn : n ≤ 999) : Met l yX8_writesNumber (gw yX8_writesNumber cX8_writesNumber 2 none) ({ frames := 3, cells := 0, slots := 0, locals := 63 } : Room) (gPc [.ref (A 0), .int (nI (n))] (fun H => va_P D vwCl (mw cA A x f) H) D cA) (wrV (fun H => va_P D vwCl (mw cA A (upd x 9 (nI (tn n (f 5, sm)).2)) (va_up f 5 ((tn n (f 5, sm)).1))) H) (MA A)) 0 0 (MA A) := by
  refine gOf (by decide) (Nat.le_of_ble_eq_true rfl) ?_
  intro p e s m below meth c ls hx hb hml hr hlk hown hts hnm hP hK hl
  have hl : lv_has ls 2 [(0, .ref (A 0)), (1, .int (nI (n)))] := hl
  have hD : va_D (MA A) (mw cA A x f) := mD hA
  have hS : va_S (MA A) s.heap s.heap [] := va_S.rf
  refine lv_iload_n hx hb dX8_writesNumber_0 rfl (lv_at hl 1 rfl) ?_
  refine lv_bipush (v := nI (9)) hx hb dX8_writesNumber_1 gb_9 ?_
  refine g_icmp_le (P := n ≤ 9) (tgt := 14) hx hb dX8_writesNumber_3 (by decide) (nI_leI (by omega) (by omega)) (fun c_1 => ?_) (fun c_1 => ?_)
  · have d_1 : ¬ 9 < n := Nat.not_lt.mpr c_1
    refine lv_aload_n hx hb dX8_writesNumber_14 rfl (lv_at hl 0 rfl) ?_
    refine lv_bipush (v := nI (48)) hx hb dX8_writesNumber_15 gb_48 ?_
    refine lv_iload_n hx hb dX8_writesNumber_17 rfl (lv_at hl 1 rfl) ?_
    refine lv_bipush (v := nI (10)) hx hb dX8_writesNumber_18 gb_10 ?_
    refine g_irem hx hb (by omega) (by omega) (by omega) dX8_writesNumber_20 ?_
    refine g_iadd hx hb dX8_writesNumber_21 ?_
    refine wr_callv (va_runV (As := [.int (nI ((48) + (n % 10)))]) (rest := []) ⟨hx, hb, hml, hown, hts⟩ (c_X8_writes l D cA A (x) (f) sm ((48) + (n % 10)) hA hsm (by omega) (by omega)) (cwV 1 hts (gWV gm_37_9 gm_37_10 gm_37_11 gm_1_5 gm_37_12) rfl rfl rfl (by decide +kernel) ⟨Nat.le_of_ble_eq_true rfl, Nat.le_of_ble_eq_true rfl⟩) (gPreV hK (g_rf hK hP (ci := 10) (q0 := 0) rfl rfl) hP) rfl rfl hl.1 rfl (lv_room (Nat.le_of_ble_eq_true rfl)) dX8_writesNumber_22 ⟨by omega, by omega⟩) hS (fun q _ h => h) (fun q h => h) (fun H locs hP hz9 hk9 hS => ?_)
    have hP : va_P D vwCl (mw cA A (upd (x) 9 (nI ((tw ((48) + (n % 10)) (((f 5, sm) : TS))).2))) (va_up (f) 5 ((tw ((48) + (n % 10)) (((f 5, sm) : TS))).1))) H := hP
    have hD : va_D (MA A) (mw cA A (upd (x) 9 (nI ((tw ((48) + (n % 10)) (((f 5, sm) : TS))).2))) (va_up (f) 5 ((tw ((48) + (n % 10)) (((f 5, sm) : TS))).1))) := mD hA
    have hb_2 : (tw ((48) + (n % 10)) (((f 5, sm) : TS))).2 = (((f 5, sm) : TS)).2 + 1 := rfl
    exact g_vretW hx hb hr hlk hS dX8_writesNumber_25 (by rw [tn_lo (by omega)]; exact hP)
  · have d_1 : 9 < n := Nat.not_le.mp c_1
    refine lv_aload_n hx hb dX8_writesNumber_6 rfl (lv_at hl 0 rfl) ?_
    refine lv_iload_n hx hb dX8_writesNumber_7 rfl (lv_at hl 1 rfl) ?_
    refine lv_bipush (v := nI (10)) hx hb dX8_writesNumber_8 gb_10 ?_
    refine g_idiv hx hb (by omega) (by omega) (by omega) dX8_writesNumber_10 ?_
    refine wr_callv (va_runV (As := [.int (nI (n / 10))]) (rest := []) ⟨hx, hb, hml, hown, hts⟩ (c_X8_writesNumber_2 l D cA A (x) (f) sm (n / 10) hA hsm (by omega) (by omega)) (cwV 1 hts (gWV gm_37_5 gm_37_6 gm_37_7 gm_1_5 gm_37_8) rfl rfl rfl (by decide +kernel) ⟨Nat.le_of_ble_eq_true rfl, Nat.le_of_ble_eq_true rfl⟩) (gPreV hK (g_rf hK hP (ci := 10) (q0 := 0) rfl rfl) hP) rfl rfl hl.1 rfl (lv_room (Nat.le_of_ble_eq_true rfl)) dX8_writesNumber_11 ⟨by omega, by omega⟩) hS (fun q _ h => h) (fun q h => h) (fun H locs hP hz9 hk9 hS => ?_)
    have hP : va_P D vwCl (mw cA A (upd (x) 9 (nI ((tn (n / 10) (((f 5, sm) : TS))).2))) (va_up (f) 5 ((tn (n / 10) (((f 5, sm) : TS))).1))) H := hP
    have hD : va_D (MA A) (mw cA A (upd (x) 9 (nI ((tn (n / 10) (((f 5, sm) : TS))).2))) (va_up (f) 5 ((tn (n / 10) (((f 5, sm) : TS))).1))) := mD hA
    have hb_3 := tn_22 (n := n / 10) (ts := ((f 5, sm) : TS)) (by omega)
    refine lv_aload_n hx hb dX8_writesNumber_14 rfl (lv_at hl 0 rfl) ?_
    refine lv_bipush (v := nI (48)) hx hb dX8_writesNumber_15 gb_48 ?_
    refine lv_iload_n hx hb dX8_writesNumber_17 rfl (lv_at hl 1 rfl) ?_
    refine lv_bipush (v := nI (10)) hx hb dX8_writesNumber_18 gb_10 ?_
    refine g_irem hx hb (by omega) (by omega) (by omega) dX8_writesNumber_20 ?_
    refine g_iadd hx hb dX8_writesNumber_21 ?_
    refine wr_callv (va_runV (As := [.int (nI ((48) + (n % 10)))]) (rest := []) ⟨hx, hb, hml, hown, hts⟩ (c_X8_writes l D cA A (upd (x) 9 (nI ((tn (n / 10) (((f 5, sm) : TS))).2))) (va_up (f) 5 ((tn (n / 10) (((f 5, sm) : TS))).1)) ((tn (n / 10) (((f 5, sm) : TS))).2) ((48) + (n % 10)) hA rfl (by omega) (by omega)) (cwV 1 hts (gWV gm_37_9 gm_37_10 gm_37_11 gm_1_5 gm_37_12) rfl rfl rfl (by decide +kernel) ⟨Nat.le_of_ble_eq_true rfl, Nat.le_of_ble_eq_true rfl⟩) (gPreV hK (g_rf hK hP (ci := 10) (q0 := 0) rfl rfl) hP) rfl rfl hl.1 rfl (lv_room (Nat.le_of_ble_eq_true rfl)) dX8_writesNumber_22 ⟨by omega, by omega⟩) hS (fun q _ h => h) (fun q h => h) (fun H locs hP hz9 hk9 hS => ?_)
    have hP : va_P D vwCl (mw cA A (upd (x) 9 (nI ((tw ((48) + (n % 10)) (tn (n / 10) (((f 5, sm) : TS)))).2))) (va_up (f) 5 ((tw ((48) + (n % 10)) (tn (n / 10) (((f 5, sm) : TS)))).1))) H := hP
    have hD : va_D (MA A) (mw cA A (upd (x) 9 (nI ((tw ((48) + (n % 10)) (tn (n / 10) (((f 5, sm) : TS)))).2))) (va_up (f) 5 ((tw ((48) + (n % 10)) (tn (n / 10) (((f 5, sm) : TS)))).1))) := mD hA
    have hb_4 : (tw ((48) + (n % 10)) (tn (n / 10) (((f 5, sm) : TS)))).2 = (tn (n / 10) (((f 5, sm) : TS))).2 + 1 := rfl
    exact g_vretW hx hb hr hlk hS dX8_writesNumber_25 (by rw [tn_hi (by omega)]; exact hP)

def chO (x : Nat → Int32) (s5 : Nat → Int32) (sm : Nat) (v : Int32) : Int32 × (Nat → Int32) := if isIx v sm = true then (s5 v.toNatClampNeg, failX x 0) else (nI 32, failX x 1)

set_option maxHeartbeats 1000000 in
set_option maxRecDepth 100000 in
theorem c_X8_character (l : Launch) (D : va_G) (cA : Nat → ClassId) (A : Nat → Nat) (x : Nat → Int32) (f : Nat → Nat → Int32) (v : Int32) (sm : Nat) (hA : mInj A) (hsm : x 9 = nI sm) (hs6 : sm ≤ 60) (hch : ∀ j, j < sm → ∃ c, c < 65536 ∧ f 5 j = nI c) : Met l yX8_character (gw yX8_character cX8_character 2 (some .char)) ({ frames := 1, cells := 0, slots := 0, locals := 22 } : Room) (gPc [.ref (A 0), .int (v)] (fun H => va_P D vwCl (mw cA A x f) H) D cA) (wrI (fun r H => r = (chO x (f 5) sm v).1 ∧ va_P D vwCl (mw cA A (chO x (f 5) sm v).2 f) H) (MA A)) 0 0 (MA A) := by
  refine gOf (by decide) (Nat.le_of_ble_eq_true rfl) ?_
  intro p e s m below meth c ls hx hb hml hr hlk hown hts hnm hP hK hl
  have hl : lv_has ls 2 [(0, .ref (A 0)), (1, .int (v))] := hl
  have hD : va_D (MA A) (mw cA A x f) := mD hA
  have hS : va_S (MA A) s.heap s.heap [] := va_S.rf
  refine lv_aload_n hx hb dX8_character_0 rfl (lv_at hl 0 rfl) ?_
  refine lv_iload_n hx hb dX8_character_1 rfl (lv_at hl 1 rfl) ?_
  refine lv_iconst (v := nI (0)) hx hb dX8_character_2 gc_0 ?_
  refine lv_aload_n hx hb dX8_character_3 rfl (lv_at hl 0 rfl) ?_
  refine g_get (v := .int (x 9)) hx hb hts hown hK hP 0 rfl rfl gu_wsX80 15 (by decide) gm_37_4 rfl dX8_character_4 ?_
  refine g_top hsm ?_
  refine lv_iconst (v := nI (1)) hx hb dX8_character_7 gc_1 ?_
  refine lv_isub hx hb dX8_character_8 ?_
  refine rd_calle (va_runS (As := [.int (v), .int (nI (0)), .int ((nI (sm)) - (nI (1)))]) (rest := [.ref (A 0)]) ⟨hx, hb, hml, hown, hts⟩ (c_X8_in l D cA (v) (nI (0)) ((nI (sm)) - (nI (1)))) (cwS 3 hts (gWS gm_8_20 gm_8_21 gm_1_5 gm_8_22) rfl rfl rfl (by decide +kernel) ⟨Nat.le_of_ble_eq_true rfl, Nat.le_of_ble_eq_true rfl⟩) (gPreS hK trivial) rfl rfl hl.1 rfl (lv_room (Nat.le_of_ble_eq_true rfl)) dX8_character_9 ⟨by omega, by omega⟩) ?_
  refine g_if_eq (P := inB (v) (nI (0)) ((nI (sm)) - (nI (1))) = false) (tgt := 19) hx hb dX8_character_12 (by decide) b2i_0 (fun c_1 => ?_) (fun c_1 => ?_)
  · rw [inB_ix v (by omega)] at c_1
    refine lv_iconst (v := nI (1)) hx hb dX8_character_19 gc_1 ?_
    refine wr_calli (va_runV (As := [.int (nI (1))]) (rest := []) ⟨hx, hb, hml, hown, hts⟩ (c_X8_fails l D cA A (x) (f) (1)  hA (by decide)) (cwV 1 hts (gWV gm_8_23 gm_9_0 gm_9_1 gm_1_5 gm_9_2) rfl rfl rfl (by decide +kernel) ⟨Nat.le_of_ble_eq_true rfl, Nat.le_of_ble_eq_true rfl⟩) (gPreV hK (g_rf hK hP (ci := 10) (q0 := 0) rfl rfl) hP) rfl rfl hl.1 rfl (lv_room (Nat.le_of_ble_eq_true rfl)) dX8_character_20 ⟨by omega, by omega⟩) hS (fun q _ h => h) (fun q h => h) (fun r H locs hw9 hz9 hk9 hS => ?_)
    obtain ⟨rfl, hP⟩ := hw9
    have hP : va_P D vwCl (mw cA A (upd (upd (x) 3 (nI (0))) 4 (nI (1))) (f)) H := hP
    have hD : va_D (MA A) (mw cA A (upd (upd (x) 3 (nI (0))) 4 (nI (1))) (f)) := mD hA
    refine g_if_eq (P := true = false) (tgt := 31) hx hb dX8_character_23 (by decide) b2i_0 (fun c_2 => ?_) (fun c_2 => ?_)
    · exact absurd c_2 (by decide)
    · have c_2 : true = true := eq_true_of_ne_false c_2
      refine lv_bipush (v := nI (32)) hx hb dX8_character_26 gb_32 ?_
      refine lv_goto (tgt := 37) hx hb dX8_character_28 (by decide) ?_
      exact g_cretW (v := nI (32)) hx hb hr hlk (pk_charN (by omega)).1 hS dX8_character_37 (by rw [chO, if_neg (bnt c_1)]; exact ⟨rfl, hP⟩)
  · have c_1 : inB (v) (nI (0)) ((nI (sm)) - (nI (1))) = true := eq_true_of_ne_false c_1
    rw [inB_ix v (by omega)] at c_1
    obtain ⟨j_3, hj_5, ej_4⟩ := isIx_n c_1 (by omega)
    rw [ej_4] at hl
    have hl : lv_has ls 2 [(0, .ref (A 0)), (1, .int (nI (j_3)))] := hl
    refine lv_iconst (v := nI (0)) hx hb dX8_character_15 gc_0 ?_
    refine lv_goto (tgt := 20) hx hb dX8_character_16 (by decide) ?_
    refine wr_calli (va_runV (As := [.int (nI (0))]) (rest := []) ⟨hx, hb, hml, hown, hts⟩ (c_X8_fails l D cA A (x) (f) (0)  hA (by decide)) (cwV 1 hts (gWV gm_8_23 gm_9_0 gm_9_1 gm_1_5 gm_9_2) rfl rfl rfl (by decide +kernel) ⟨Nat.le_of_ble_eq_true rfl, Nat.le_of_ble_eq_true rfl⟩) (gPreV hK (g_rf hK hP (ci := 10) (q0 := 0) rfl rfl) hP) rfl rfl hl.1 rfl (lv_room (Nat.le_of_ble_eq_true rfl)) dX8_character_20 ⟨by omega, by omega⟩) hS (fun q _ h => h) (fun q h => h) (fun r H locs hw9 hz9 hk9 hS => ?_)
    obtain ⟨rfl, hP⟩ := hw9
    have hP : va_P D vwCl (mw cA A (upd (upd (x) 3 (nI (0))) 4 (nI (0))) (f)) H := hP
    have hD : va_D (MA A) (mw cA A (upd (upd (x) 3 (nI (0))) 4 (nI (0))) (f)) := mD hA
    refine g_if_eq (P := false = false) (tgt := 31) hx hb dX8_character_23 (by decide) b2i_0 (fun c_6 => ?_) (fun c_6 => ?_)
    · refine lv_aload_n hx hb dX8_character_31 rfl (lv_at hl 0 rfl) ?_
      refine g_get (v := .ref (A 6)) hx hb hts hown hK hP 0 rfl rfl gu_wsX80 14 (by decide) gm_5_20 rfl dX8_character_32 ?_
      refine lv_iload_n hx hb dX8_character_35 rfl (lv_at hl 1 rfl) ?_
      obtain ⟨c9, hc9, ec9⟩ := hch (j_3) (by omega)
      refine g_cald (x := nI (c9)) hx hb hK hP 6 rfl (by omega) (by decide) ec9 dX8_character_36 ?_
      exact g_cretW (v := nI (c9)) hx hb hr hlk (pk_charN (by omega)).1 hS dX8_character_37 (by have hq9v : v.toNatClampNeg = j_3 := (by rw [ej_4, nI_clamp (by omega)]); rw [chO, hq9v, if_pos c_1, ec9]; exact ⟨rfl, hP⟩)
    · exact absurd c_6 (by decide)

def lpS (panel : Int32) (ts : TS) : Nat → TS
  | 0 => ts
  | k + 1 => if hs panel k = true then tn k (tw (if k = lowM panel then 91 else 44) (lpS panel ts k)) else lpS panel ts k
theorem lpS_2 {panel : Int32} {ts : TS} : ∀ k, k ≤ 10 → ts.2 ≤ (lpS panel ts k).2 ∧ (lpS panel ts k).2 ≤ ts.2 + 2 * k
  | 0, _ => by show ts.2 ≤ ts.2 ∧ ts.2 ≤ ts.2 + 0; omega
  | k + 1, h => by
    have ih := lpS_2 (panel := panel) (ts := ts) k (by omega)
    by_cases q : hs panel k = true
    · rw [lpS, if_pos q, tn_29 (by omega), tw_2]; omega
    · rw [lpS, if_neg q]; omega
def liA (s5 : Nat → Int32) (q mer ter : Nat) : TS := tn ter (tw 64 (tn mer (tw 58 (tn q (s5, 0)))))
def liB (panel : Int32) (s5 : Nat → Int32) (q mer ter jn : Nat) : TS := if panel = 0 then lpS panel (liA s5 q mer ter) jn else tw 93 (lpS panel (liA s5 q mer ter) jn)
def liC (vd : Int32) (ts : TS) : TS := if vd ≤ 0 then ts else if vd = nI 1 then tw 43 ts else tw 45 ts
def liD (cl : Bool) (ts : TS) : TS := if cl = true then tw 33 ts else ts
def lineT (g : Nat → Int32) (s5 : Nat → Int32) (jn q mer ter : Nat) : TS := liD (clM g q) (liC (gof g q 3) (liB (gof g q 2) s5 q mer ter jn))
def rlS (g : Nat → Int32) (cn : Nat) (s5 : Nat → Int32) : Nat → TS
  | 0 => (s5, 0)
  | k + 1 => tn ((raM g cn (nI k)).getD 0) (if k = 0 then rlS g cn s5 k else tw 32 (rlS g cn s5 k))
theorem raM_lt2 {g : Nat → Int32} {cn : Nat} {place : Int32} (h : cn ≤ 10) : (raM g cn place).getD 0 ≤ 9 := by
  cases e : raM g cn place with
  | none => exact Nat.zero_le 9
  | some b => have := raM_lt e; show b ≤ 9; omega
theorem rlS_2 {g : Nat → Int32} {cn : Nat} {s5 : Nat → Int32} (hc : cn ≤ 10) : ∀ k, (rlS g cn s5 k).2 ≤ 2 * k
  | 0 => Nat.le_refl 0
  | k + 1 => by
    have ih := rlS_2 (g := g) (cn := cn) (s5 := s5) hc k
    rw [rlS, tn_29 (raM_lt2 hc)]
    by_cases q : k = 0
    · rw [if_pos q]; omega
    · rw [if_neg q, tw_2]; omega
def lnX (x : Nat → Int32) (ts : TS) : Nat → Int32 := upd (upd (upd x 3 (nI 0)) 4 (nI 0)) 9 (nI ts.2)
def lnO (x : Nat → Int32) (f : Nat → Nat → Int32) (jn cn : Nat) (v : Int32) : Int32 × MX := if isIx v cn = true then (nI (lineT (f 0) (f 5) jn v.toNatClampNeg (gof (f 0) v.toNatClampNeg 0).toNatClampNeg (gof (f 0) v.toNatClampNeg 1).toNatClampNeg).2, (lnX x (lineT (f 0) (f 5) jn v.toNatClampNeg (gof (f 0) v.toNatClampNeg 0).toNatClampNeg (gof (f 0) v.toNatClampNeg 1).toNatClampNeg), va_up f 5 (lineT (f 0) (f 5) jn v.toNatClampNeg (gof (f 0) v.toNatClampNeg 0).toNatClampNeg (gof (f 0) v.toNatClampNeg 1).toNatClampNeg).1)) else (nI 0, (failX x 1, f))

