def hobj (cA : Nat → ClassId) (B : Nat → Nat) (rg : Nat → Option Nat) (hd ct : Nat) : va_W := [(B 0, .inr (4, [.ref (B 1), .int (nI hd), .int (nI ct)])), (B 1, .inl (cA 2, 9, .inr (.inr (.inr (.inr rg)))))]
def hnw (cA : Nat → ClassId) (B : Nat → Nat) (rg : Nat → Option Nat) (hd ct : Nat) (y z : CS) : va_W := hobj cA B rg hd ct ++ ccw cA (fun k => B (k + 2)) y z
theorem hobjD {cA : Nat → ClassId} {B : Nat → Nat} {rg : Nat → Option Nat} {hd ct : Nat} (h : aInj 2 B) : va_D (aS 2 B) (hobj cA B rg hd ct) := wD h rfl
theorem hnwD {cA : Nat → ClassId} {B : Nat → Nat} {rg : Nat → Option Nat} {hd ct : Nat} {y z : CS} (h : aInj 34 B) : va_D (aS 34 B) (hnw cA B rg hd ct y z) := wD h rfl
theorem g_aald {p : Program} {l : Launch} {e : Env} {R : Room} {s : State} {m : MethodId} {args : Array Value} {below : List Frame} {meth : Method} {c : Code} {H : Heap} {locs : List Loc} {cells slots : Nat} {Q : State → Prop} {cc : ByteArray} {pc : Nat} {ls : Array Slot} {rest : List Value} {D : va_G} {cA : Nat → ClassId} {ws : va_W} {o len i x : Nat} {f : Nat → Option Nat} (hx : p.tables.exec = Jvm.exec) (hb : c.code = cc) (hK : gK D cA s) (hP : va_P D vwCl ws H) (q0 : Nat) (ha : ws[q0]? = some (o, .inl (cA 2, len, .inr (.inr (.inr (.inr f)))))) (hi : i < len) (hlen : len < 2 ^ 31) (he : f i = some x) (hdg : decode cc pc = .ok (.aaload, 1)) (kk : W p l e R s m args below meth c H locs cells slots Q (F0 m (pc + 1) ls (.ref x :: rest))) : W p l e R s m args below meth c H locs cells slots Q (F0 m pc ls (.int (nI i) :: .ref o :: rest)) :=
  va_aldq hx hb hK.1 hP q0 2 ha rfl (vp_in_nI hi hlen) hdg (by rw [nI_clamp (Nat.lt_trans hi hlen), he]; exact kk)

theorem wKeepS {D : va_G} {ws ws1 : va_W} {H H1 : Heap} {N m a n : Nat} {A : Nat → Nat} {σ : Nat → Nat} (hP : va_P D vwCl ws H) (is : List Nat) (hs : is.filterMap (fun i => ws[i]?) = ws1) (he : ws1.map (fun q => q.1) = (List.range n).map (fun k => A (k + a))) (hA : aInj N A) (h1 : ∀ i, i < m → σ i < N) (ha : a + n ≤ N) (hx : ∀ k i, k < n → i < m → σ i ≠ k + a) (hk : ∀ q : Nat, q < H.size → ¬ aS m (fun k => A (σ k)) q → H1[q]? = H[q]?) : va_P D vwCl ws1 H1 :=
  wKeep (hP.sub is hs) (fun k q e => by
    have w := wAd (n := n) (A := fun k => A (k + a)) he e
    rw [w.2]
    exact aS_mno hA h1 (by omega) (fun i hi => hx k i w.1 hi)) hk
def sJ (k : Nat) : Nat := if k < 5 then k + 1 else k + 12
def sK (k : Nat) : Nat := if k < 10 then k + 6 else k + 12
theorem sJ_lt (i : Nat) (h : i < 10) : sJ i < 32 := by unfold sJ; split <;> omega
theorem sK_lt (i : Nat) (h : i < 20) : sK i < 32 := by unfold sK; split <;> omega
theorem sJ_in (i j : Nat) (hi : i < 10) (hj : j < 10) (h : sJ i = sJ j) : i = j := by unfold sJ at h; split at h <;> split at h <;> omega
theorem sK_in (i j : Nat) (hi : i < 20) (hj : j < 20) (h : sK i = sK j) : i = j := by unfold sK at h; split at h <;> split at h <;> omega
theorem ccw_J {D : va_G} {cA : Nat → ClassId} {B : Nat → Nat} {z y : CS} {jf jg : Nat → Nat → Int32} {jn jm : Nat} {H H1 : Heap} (hA : aInj 32 B) (hP : va_P D vwCl (ccw cA B z y) H) (hN : va_P D vwCl (jjw cA (fun k => B (sJ k)) jf jn jg jm) H1) (hk : ∀ q : Nat, q < H.size → ¬ aS 10 (fun k => B (sJ k)) q → H1[q]? = H[q]?) : va_P D vwCl (ccw cA B (mkz jf jn (zK z) (zrw z) (zcn z) (zrl z) (zck z) (ztn z) (zsd z)) (mkz jg jm (zK y) (zrw y) (zcn y) (zrl y) (zck y) (ztn y) (zsd y))) H1 := by
  have g0 := wKeepS (n := 1) (a := 0) hP [0] rfl rfl hA sJ_lt (by decide) (fun k i hk hi => by unfold sJ; split <;> omega) hk
  have g1 := wKeepS (n := 10) (a := 6) hP [6, 7, 8, 9, 10, 11, 12, 13, 14, 15] rfl rfl hA sJ_lt (by decide) (fun k i hk hi => by unfold sJ; split <;> omega) hk
  have g2 := wKeepS (n := 1) (a := 16) hP [16] rfl rfl hA sJ_lt (by decide) (fun k i hk hi => by unfold sJ; split <;> omega) hk
  have g3 := wKeepS (n := 10) (a := 22) hP [22, 23, 24, 25, 26, 27, 28, 29, 30, 31] rfl rfl hA sJ_lt (by decide) (fun k i hk hi => by unfold sJ; split <;> omega) hk
  have n0 := hN.sub [0, 1, 2, 3, 4] rfl
  have n1 := hN.sub [5, 6, 7, 8, 9] rfl
  exact ((((g0.app n0).app g1).app g2).app n1).app g3
theorem ccw_K {D : va_G} {cA : Nat → ClassId} {B : Nat → Nat} {z y : CS} {kf kg : Nat → Nat → Int32} {rw rx : Nat → Nat} {cn rl cm rm : Nat} {H H1 : Heap} (hA : aInj 32 B) (hP : va_P D vwCl (ccw cA B z y) H) (hN : va_P D vwCl (kkw cA (fun k => B (sK k)) kf rw cn rl kg rx cm rm) H1) (hk : ∀ q : Nat, q < H.size → ¬ aS 20 (fun k => B (sK k)) q → H1[q]? = H[q]?) : va_P D vwCl (ccw cA B (mkz (zJ z) (zjn z) kf rw cn rl (zck z) (ztn z) (zsd z)) (mkz (zJ y) (zjn y) kg rx cm rm (zck y) (ztn y) (zsd y))) H1 := by
  have g0 := wKeepS (n := 6) (a := 0) hP [0, 1, 2, 3, 4, 5] rfl rfl hA sK_lt (by decide) (fun k i hk hi => by unfold sK; split <;> omega) hk
  have g1 := wKeepS (n := 6) (a := 16) hP [16, 17, 18, 19, 20, 21] rfl rfl hA sK_lt (by decide) (fun k i hk hi => by unfold sK; split <;> omega) hk
  have n0 := hN.sub [0, 1, 2, 3, 4, 5, 6, 7, 8, 9] rfl
  have n1 := hN.sub [10, 11, 12, 13, 14, 15, 16, 17, 18, 19] rfl
  exact ((g0.app n0).app g1).app n1

set_option maxHeartbeats 1000000 in
set_option maxRecDepth 100000 in
theorem c_X1_copyFrom (l : Launch) (D : va_G) (cA : Nat → ClassId) (B : Nat → Nat) (z y : CS) (hA : aInj 32 B)  : Met l yX1_copyFrom (gw yX1_copyFrom cX1_copyFrom 2 none) ({ frames := 2, cells := 0, slots := 0, locals := 81 } : Room) (gPc [.ref (B 0), .ref (B 16)] (fun H => va_P D vwCl (ccw cA B (z) y) H) D cA) (wrV (fun H => va_P D vwCl (ccw cA B y y) H) (aS 32 B)) 0 0 (aS 32 B) := by
  refine gOf (by decide) (Nat.le_of_ble_eq_true rfl) ?_
  intro p e s m below meth c ls hx hb hml hr hlk hown hts hnm hP hK hl
  have hl : lv_has ls 2 [(0, .ref (B 0)), (1, .ref (B 16))] := hl
  have hD : va_D (aS 32 B) (ccw cA B (z) y) := ccwD hA
  have hS : va_S (aS 32 B) s.heap s.heap [] := va_S.rf
  refine lv_aload_n hx hb dX1_copyFrom_0 rfl (lv_at hl 0 rfl) ?_
  refine g_get (v := .ref (B 1)) hx hb hts hown hK hP 0 rfl rfl gu_wsX10 0 (by decide) gm_2_21 rfl dX1_copyFrom_1 ?_
  refine lv_aload_n hx hb dX1_copyFrom_4 rfl (lv_at hl 1 rfl) ?_
  refine g_get (v := .ref (B 17)) hx hb hts hown hK hP 16 rfl rfl gu_wsX10 0 (by decide) gm_2_21 rfl dX1_copyFrom_5 ?_
  refine wr_callv (va_runV (As := [.ref (B 17)]) (rest := []) ⟨hx, hb, hml, hown, hts⟩ (c_X3_copyFrom l D cA (fun k => B (sJ k)) (zJ (z)) (zjn (z)) (zJ y) (zjn y) (aInj_m hA sJ sJ_lt sJ_in)) (cwV 1 hts (gWV gm_7_15 gm_7_16 gm_7_17 gm_2_5 gm_7_18) rfl rfl rfl (by decide +kernel) ⟨Nat.le_of_ble_eq_true rfl, Nat.le_of_ble_eq_true rfl⟩) (gPreV hK (g_rf hK hP (ci := 5) (q0 := 1) rfl rfl) (hP.sub [1, 2, 3, 4, 5, 17, 18, 19, 20, 21] rfl)) rfl rfl hl.1 rfl (lv_room (Nat.le_of_ble_eq_true rfl)) dX1_copyFrom_8 ⟨by omega, by omega⟩) hS (fun q _ h => aS_m sJ_lt h) (fun q h => aS_m sJ_lt h) (fun H locs hPn hz9 hk9 hS => ?_)
  have hP : va_P D vwCl (ccw cA B (mkz (zJ y) (zjn y) (zK (z)) (zrw (z)) (zcn (z)) (zrl (z)) (zck (z)) (ztn (z)) (zsd (z))) y) H := ccw_J hA hP hPn hk9
  have hD : va_D (aS 32 B) (ccw cA B (mkz (zJ y) (zjn y) (zK (z)) (zrw (z)) (zcn (z)) (zrl (z)) (zck (z)) (ztn (z)) (zsd (z))) y) := ccwD hA
  refine lv_aload_n hx hb dX1_copyFrom_11 rfl (lv_at hl 0 rfl) ?_
  refine g_get (v := .ref (B 6)) hx hb hts hown hK hP 0 rfl rfl gu_wsX10 1 (by decide) gm_3_1 rfl dX1_copyFrom_12 ?_
  refine lv_aload_n hx hb dX1_copyFrom_15 rfl (lv_at hl 1 rfl) ?_
  refine g_get (v := .ref (B 22)) hx hb hts hown hK hP 16 rfl rfl gu_wsX10 1 (by decide) gm_3_1 rfl dX1_copyFrom_16 ?_
  refine wr_callv (va_runV (As := [.ref (B 22)]) (rest := []) ⟨hx, hb, hml, hown, hts⟩ (c_X0_copyFrom l D cA (fun k => B (sK k)) (zK (mkz (zJ y) (zjn y) (zK (z)) (zrw (z)) (zcn (z)) (zrl (z)) (zck (z)) (ztn (z)) (zsd (z)))) (zrw (mkz (zJ y) (zjn y) (zK (z)) (zrw (z)) (zcn (z)) (zrl (z)) (zck (z)) (ztn (z)) (zsd (z)))) (zcn (mkz (zJ y) (zjn y) (zK (z)) (zrw (z)) (zcn (z)) (zrl (z)) (zck (z)) (ztn (z)) (zsd (z)))) (zrl (mkz (zJ y) (zjn y) (zK (z)) (zrw (z)) (zcn (z)) (zrl (z)) (zck (z)) (ztn (z)) (zsd (z)))) (zK y) (zrw y) (zcn y) (zrl y) (aInj_m hA sK sK_lt sK_in)) (cwV 1 hts (gWV gm_7_23 gm_8_0 gm_8_1 gm_3_0 gm_8_2) rfl rfl rfl (by decide +kernel) ⟨Nat.le_of_ble_eq_true rfl, Nat.le_of_ble_eq_true rfl⟩) (gPreV hK (g_rf hK hP (ci := 2) (q0 := 6) rfl rfl) (hP.sub [6, 7, 8, 9, 10, 11, 12, 13, 14, 15, 22, 23, 24, 25, 26, 27, 28, 29, 30, 31] rfl)) rfl rfl hl.1 rfl (lv_room (Nat.le_of_ble_eq_true rfl)) dX1_copyFrom_19 ⟨by omega, by omega⟩) hS (fun q _ h => aS_m sK_lt h) (fun q h => aS_m sK_lt h) (fun H locs hPn hz9 hk9 hS => ?_)
  have hP : va_P D vwCl (ccw cA B (mkz (zJ y) (zjn y) (zK y) (zrw y) (zcn y) (zrl y) (zck z) (ztn z) (zsd z)) y) H := ccw_K hA hP hPn hk9
  have hD : va_D (aS 32 B) (ccw cA B (mkz (zJ y) (zjn y) (zK y) (zrw y) (zcn y) (zrl y) (zck z) (ztn z) (zsd z)) y) := ccwD hA
  refine lv_aload_n hx hb dX1_copyFrom_22 rfl (lv_at hl 0 rfl) ?_
  refine lv_aload_n hx hb dX1_copyFrom_23 rfl (lv_at hl 1 rfl) ?_
  refine g_get (v := .int (nI (zck (y)))) hx hb hts hown hK hP 16 rfl rfl gu_wsX10 2 (by decide) gm_3_2 rfl dX1_copyFrom_24 ?_
  refine g_put (ws' := ccw cA B (mkz (zJ y) (zjn y) (zK y) (zrw y) (zcn y) (zrl y) (zck (y)) (ztn z) (zsd z)) y) hx hb hts hown hK hP hD hS 0 rfl rfl gu_wsX10 tyX1_ok nmX1 2 (by decide) gm_3_2 rfl rfl rfl (Nat.le_of_ble_eq_true rfl) (by first | rfl | (rw [updN_nI]; rfl)) dX1_copyFrom_27 (fun H locs hP hD hS => ?_)
  refine lv_aload_n hx hb dX1_copyFrom_30 rfl (lv_at hl 0 rfl) ?_
  refine lv_aload_n hx hb dX1_copyFrom_31 rfl (lv_at hl 1 rfl) ?_
  refine g_get (v := .int (nI (ztn (y)))) hx hb hts hown hK hP 16 rfl rfl gu_wsX10 3 (by decide) gm_3_3 rfl dX1_copyFrom_32 ?_
  refine g_put (ws' := ccw cA B (mkz (zJ y) (zjn y) (zK y) (zrw y) (zcn y) (zrl y) (zck (y)) (ztn (y)) (zsd z)) y) hx hb hts hown hK hP hD hS 0 rfl rfl gu_wsX10 tyX1_ok nmX1 3 (by decide) gm_3_3 rfl rfl rfl (Nat.le_of_ble_eq_true rfl) (by first | rfl | (rw [updN_nI]; rfl)) dX1_copyFrom_35 (fun H locs hP hD hS => ?_)
  refine lv_aload_n hx hb dX1_copyFrom_38 rfl (lv_at hl 0 rfl) ?_
  refine lv_aload_n hx hb dX1_copyFrom_39 rfl (lv_at hl 1 rfl) ?_
  refine g_get (v := .int (zsd (y))) hx hb hts hown hK hP 16 rfl rfl gu_wsX10 4 (by decide) gm_3_4 rfl dX1_copyFrom_40 ?_
  refine g_put (ws' := ccw cA B (mkz (zJ y) (zjn y) (zK y) (zrw y) (zcn y) (zrl y) (zck (y)) (ztn (y)) (zsd (y))) y) hx hb hts hown hK hP hD hS 0 rfl rfl gu_wsX10 tyX1_ok nmX1 4 (by decide) gm_3_4 rfl rfl rfl (Nat.le_of_ble_eq_true rfl) (by first | rfl | (rw [updN_nI]; rfl)) dX1_copyFrom_43 (fun H locs hP hD hS => ?_)
  exact g_vretW hx hb hr hlk hS dX1_copyFrom_46 (hP)

theorem hnw_C {D : va_G} {cA : Nat → ClassId} {B : Nat → Nat} {rg : Nat → Option Nat} {hd ct : Nat} {y z y' z' : CS} {H H1 : Heap} (hA : aInj 34 B) (hP : va_P D vwCl (hnw cA B rg hd ct y z) H) (hN : va_P D vwCl (ccw cA (fun k => B (k + 2)) y' z') H1) (hk : ∀ q : Nat, q < H.size → ¬ aS 32 (fun k => B (k + 2)) q → H1[q]? = H[q]?) : va_P D vwCl (hnw cA B rg hd ct y' z') H1 :=
  (wKeepS (n := 2) (a := 0) (σ := fun k => k + 2) hP [0, 1] rfl rfl hA (fun i h => by show i + 2 < 34; omega) (by decide) (fun k i hk hi => by show i + 2 ≠ k + 0; omega) hk).app hN
theorem hnw_H {D : va_G} {cA : Nat → ClassId} {B : Nat → Nat} {rg : Nat → Option Nat} {hd ct hd' ct' : Nat} {y z : CS} {H H1 : Heap} (hA : aInj 34 B) (hP : va_P D vwCl (hnw cA B rg hd ct y z) H) (hN : va_P D vwCl (hobj cA B rg hd' ct') H1) (hk : ∀ q : Nat, q < H.size → ¬ aS 2 B q → H1[q]? = H[q]?) : va_P D vwCl (hnw cA B rg hd' ct' y z) H1 :=
  hN.app (wKeepS (n := 32) (a := 2) (σ := fun k => k) hP [2, 3, 4, 5, 6, 7, 8, 9, 10, 11, 12, 13, 14, 15, 16, 17, 18, 19, 20, 21, 22, 23, 24, 25, 26, 27, 28, 29, 30, 31, 32, 33] rfl rfl hA (fun i h => by show i < 34; omega) (by decide) (fun k i hk hi => by show i ≠ k + 2; omega) hk)
def hUp (hd : Nat) : Nat := if hd = 8 then 0 else hd + 1
def hDn (hd : Nat) : Nat := if hd = 0 then 8 else hd - 1
def hCt (ct : Nat) : Nat := if 8 < ct + 1 then 8 else ct + 1

set_option maxHeartbeats 1000000 in
set_option maxRecDepth 100000 in
theorem c_X2_note (l : Launch) (D : va_G) (cA : Nat → ClassId) (B : Nat → Nat) (rg : Nat → Option Nat) (hd ct : Nat) (y z : CS) (hA : aInj 34 B) (hd8 : hd ≤ 8) (hrg : rg hd = some (B 2)) : Met l yX2_note (gw yX2_note cX2_note 2 none) ({ frames := 3, cells := 0, slots := 0, locals := 102 } : Room) (gPc [.ref (B 0), .ref (B 18)] (fun H => va_P D vwCl (hnw cA B rg (hd) (ct) (y) z) H) D cA) (wrV (fun H => va_P D vwCl (hnw cA B rg hd ct z z) H) (aS 34 B)) 0 0 (aS 34 B) := by
  refine gOf (by decide) (Nat.le_of_ble_eq_true rfl) ?_
  intro p e s m below meth c ls hx hb hml hr hlk hown hts hnm hP hK hl
  have hl : lv_has ls 2 [(0, .ref (B 0)), (1, .ref (B 18))] := hl
  have hD : va_D (aS 34 B) (hnw cA B rg (hd) (ct) (y) z) := hnwD hA
  have hS : va_S (aS 34 B) s.heap s.heap [] := va_S.rf
  refine lv_aload_n hx hb dX2_note_0 rfl (lv_at hl 0 rfl) ?_
  refine g_get (v := .ref (B 1)) hx hb hts hown hK hP 0 rfl rfl gu_wsX20 0 (by decide) gm_4_9 rfl dX2_note_1 ?_
  refine lv_aload_n hx hb dX2_note_4 rfl (lv_at hl 0 rfl) ?_
  refine g_get (v := .int (nI (hd))) hx hb hts hown hK hP 0 rfl rfl gu_wsX20 1 (by decide) gm_4_10 rfl dX2_note_5 ?_
  refine g_aald (x := B 2) hx hb hK hP 1 rfl (by omega) (by decide) hrg dX2_note_8 ?_
  refine lv_aload_n hx hb dX2_note_9 rfl (lv_at hl 1 rfl) ?_
  refine wr_callv (va_runV (As := [.ref (B 18)]) (rest := []) ⟨hx, hb, hml, hown, hts⟩ (c_X1_copyFrom l D cA (fun k => B (k + 2)) (y) z (aInj_s hA 2 (by decide))) (cwV 1 hts (gWV gm_7_11 gm_7_12 gm_7_13 gm_1_16 gm_7_14) rfl rfl rfl (by decide +kernel) ⟨Nat.le_of_ble_eq_true rfl, Nat.le_of_ble_eq_true rfl⟩) (gPreV hK (g_rf hK hP (ci := 3) (q0 := 2) rfl rfl) (hP.sub [2, 3, 4, 5, 6, 7, 8, 9, 10, 11, 12, 13, 14, 15, 16, 17, 18, 19, 20, 21, 22, 23, 24, 25, 26, 27, 28, 29, 30, 31, 32, 33] rfl)) rfl rfl hl.1 rfl (lv_room (Nat.le_of_ble_eq_true rfl)) dX2_note_10 ⟨by omega, by omega⟩) hS (fun q _ h => aS_up (by decide) h) (fun q h => aS_up (by decide) h) (fun H locs hPn hz9 hk9 hS => ?_)
  have hP : va_P D vwCl (hnw cA B rg (hd) (ct) (z) z) H := hnw_C hA hP hPn hk9
  have hD : va_D (aS 34 B) (hnw cA B rg (hd) (ct) (z) z) := hnwD hA
  exact g_vretW hx hb hr hlk hS dX2_note_13 (hP)

set_option maxHeartbeats 1000000 in
set_option maxRecDepth 100000 in
theorem c_X2_takeBack (l : Launch) (D : va_G) (cA : Nat → ClassId) (B : Nat → Nat) (rg : Nat → Option Nat) (hd ct : Nat) (y z : CS) (hA : aInj 34 B) (hd8 : hd ≤ 8) (hrg : rg hd = some (B 18)) : Met l yX2_takeBack (gw yX2_takeBack cX2_takeBack 2 none) ({ frames := 3, cells := 0, slots := 0, locals := 102 } : Room) (gPc [.ref (B 0), .ref (B 2)] (fun H => va_P D vwCl (hnw cA B rg (hd) (ct) (z) y) H) D cA) (wrV (fun H => va_P D vwCl (hnw cA B rg hd ct y y) H) (aS 34 B)) 0 0 (aS 34 B) := by
  refine gOf (by decide) (Nat.le_of_ble_eq_true rfl) ?_
  intro p e s m below meth c ls hx hb hml hr hlk hown hts hnm hP hK hl
  have hl : lv_has ls 2 [(0, .ref (B 0)), (1, .ref (B 2))] := hl
  have hD : va_D (aS 34 B) (hnw cA B rg (hd) (ct) (z) y) := hnwD hA
  have hS : va_S (aS 34 B) s.heap s.heap [] := va_S.rf
  refine lv_aload_n hx hb dX2_takeBack_0 rfl (lv_at hl 1 rfl) ?_
  refine lv_aload_n hx hb dX2_takeBack_1 rfl (lv_at hl 0 rfl) ?_
  refine g_get (v := .ref (B 1)) hx hb hts hown hK hP 0 rfl rfl gu_wsX20 0 (by decide) gm_4_9 rfl dX2_takeBack_2 ?_
  refine lv_aload_n hx hb dX2_takeBack_5 rfl (lv_at hl 0 rfl) ?_
  refine g_get (v := .int (nI (hd))) hx hb hts hown hK hP 0 rfl rfl gu_wsX20 1 (by decide) gm_4_10 rfl dX2_takeBack_6 ?_
  refine g_aald (x := B 18) hx hb hK hP 1 rfl (by omega) (by decide) hrg dX2_takeBack_9 ?_
  refine wr_callv (va_runV (As := [.ref (B 18)]) (rest := []) ⟨hx, hb, hml, hown, hts⟩ (c_X1_copyFrom l D cA (fun k => B (k + 2)) (z) y (aInj_s hA 2 (by decide))) (cwV 1 hts (gWV gm_7_11 gm_7_12 gm_7_13 gm_1_16 gm_7_14) rfl rfl rfl (by decide +kernel) ⟨Nat.le_of_ble_eq_true rfl, Nat.le_of_ble_eq_true rfl⟩) (gPreV hK (g_rf hK hP (ci := 3) (q0 := 2) rfl rfl) (hP.sub [2, 3, 4, 5, 6, 7, 8, 9, 10, 11, 12, 13, 14, 15, 16, 17, 18, 19, 20, 21, 22, 23, 24, 25, 26, 27, 28, 29, 30, 31, 32, 33] rfl)) rfl rfl hl.1 rfl (lv_room (Nat.le_of_ble_eq_true rfl)) dX2_takeBack_10 ⟨by omega, by omega⟩) hS (fun q _ h => aS_up (by decide) h) (fun q h => aS_up (by decide) h) (fun H locs hPn hz9 hk9 hS => ?_)
  have hP : va_P D vwCl (hnw cA B rg (hd) (ct) (y) y) H := hnw_C hA hP hPn hk9
  have hD : va_D (aS 34 B) (hnw cA B rg (hd) (ct) (y) y) := hnwD hA
  exact g_vretW hx hb hr hlk hS dX2_takeBack_13 (hP)

set_option maxHeartbeats 1000000 in
set_option maxRecDepth 100000 in
theorem c_X2_keepNoted (l : Launch) (D : va_G) (cA : Nat → ClassId) (B : Nat → Nat) (rg : Nat → Option Nat) (hd ct : Nat) (hA : aInj 2 B) (hd8 : hd ≤ 8) (hct : ct ≤ 8) : Met l yX2_keepNoted (gw yX2_keepNoted cX2_keepNoted 1 none) ({ frames := 1, cells := 0, slots := 0, locals := 23 } : Room) (gPc [.ref (B 0)] (fun H => va_P D vwCl (hobj cA B rg (hd) (ct)) H) D cA) (wrV (fun H => va_P D vwCl (hobj cA B rg (hUp hd) (hCt ct)) H) (aS 2 B)) 0 0 (aS 2 B) := by
  refine gOf (by decide) (Nat.le_of_ble_eq_true rfl) ?_
  intro p e s m below meth c ls hx hb hml hr hlk hown hts hnm hP hK hl
  have hl : lv_has ls 1 [(0, .ref (B 0))] := hl
  have hD : va_D (aS 2 B) (hobj cA B rg (hd) (ct)) := hobjD hA
  have hS : va_S (aS 2 B) s.heap s.heap [] := va_S.rf
  refine lv_aload_n hx hb dX2_keepNoted_0 rfl (lv_at hl 0 rfl) ?_
  refine lv_aload_n hx hb dX2_keepNoted_1 rfl (lv_at hl 0 rfl) ?_
  refine g_get (v := .int (nI (hd))) hx hb hts hown hK hP 0 rfl rfl gu_wsX20 1 (by decide) gm_4_10 rfl dX2_keepNoted_2 ?_
  refine lv_bipush (v := nI (8)) hx hb dX2_keepNoted_5 gb_8 ?_
  refine g_icmp_ne (P := hd = 8) (tgt := 14) hx hb dX2_keepNoted_7 (by decide) (nI_eq (by omega) (by omega)) (fun c_1 => ?_) (fun c_1 => ?_)
  · refine lv_aload_n hx hb dX2_keepNoted_14 rfl (lv_at hl 0 rfl) ?_
    refine g_get (v := .int (nI (hd))) hx hb hts hown hK hP 0 rfl rfl gu_wsX20 1 (by decide) gm_4_10 rfl dX2_keepNoted_15 ?_
    refine lv_iconst (v := nI (1)) hx hb dX2_keepNoted_18 gc_1 ?_
    refine g_iadd hx hb dX2_keepNoted_19 ?_
    refine g_put (ws' := hobj cA B rg (hd + 1) (ct)) hx hb hts hown hK hP hD hS 0 rfl rfl gu_wsX20 tyX2_ok nmX2 1 (by decide) gm_4_10 rfl rfl rfl (Nat.le_of_ble_eq_true rfl) (by first | rfl | (rw [updN_nI]; rfl)) dX2_keepNoted_20 (fun H locs hP hD hS => ?_)
    refine lv_aload_n hx hb dX2_keepNoted_23 rfl (lv_at hl 0 rfl) ?_
    refine lv_aload_n hx hb dX2_keepNoted_24 rfl (lv_at hl 0 rfl) ?_
    refine g_get (v := .int (nI (ct))) hx hb hts hown hK hP 0 rfl rfl gu_wsX20 2 (by decide) gm_4_11 rfl dX2_keepNoted_25 ?_
    refine lv_iconst (v := nI (1)) hx hb dX2_keepNoted_28 gc_1 ?_
    refine g_iadd hx hb dX2_keepNoted_29 ?_
    refine lv_bipush (v := nI (8)) hx hb dX2_keepNoted_30 gb_8 ?_
    refine va_mmin hx hb (hml.trans hl.1.symm) hown (hts _ (List.mem_cons_of_mem _ gm_8_8)) (hts _ (List.mem_cons_of_mem _ gm_8_9)) (hts _ (List.mem_cons_of_mem _ gm_8_10)) (hts _ (List.mem_cons_of_mem _ gm_8_11)) (by decide) (Nat.le_of_ble_eq_true rfl) (Nat.zero_le _) (Nat.zero_le _) dX2_keepNoted_32 ?_
    refine g_top (z := nI (if 8 < ct + 1 then 8 else ct + 1)) (mmin_n (by omega) (by omega)) ?_
    refine g_put (ws' := hobj cA B rg (hd + 1) ((if 8 < ct + 1 then 8 else ct + 1))) hx hb hts hown hK hP hD hS 0 rfl rfl gu_wsX20 tyX2_ok nmX2 2 (by decide) gm_4_11 rfl rfl rfl (Nat.le_of_ble_eq_true rfl) (by first | rfl | (rw [updN_nI]; rfl)) dX2_keepNoted_35 (fun H locs hP hD hS => ?_)
    exact g_vretW hx hb hr hlk hS dX2_keepNoted_38 (by have e9 : hUp hd = hd + 1 := if_neg c_1 ; rw [e9]; exact hP)
  · refine lv_iconst (v := nI (0)) hx hb dX2_keepNoted_10 gc_0 ?_
    refine lv_goto (tgt := 20) hx hb dX2_keepNoted_11 (by decide) ?_
    refine g_put (ws' := hobj cA B rg (0) (ct)) hx hb hts hown hK hP hD hS 0 rfl rfl gu_wsX20 tyX2_ok nmX2 1 (by decide) gm_4_10 rfl rfl rfl (Nat.le_of_ble_eq_true rfl) (by first | rfl | (rw [updN_nI]; rfl)) dX2_keepNoted_20 (fun H locs hP hD hS => ?_)
    refine lv_aload_n hx hb dX2_keepNoted_23 rfl (lv_at hl 0 rfl) ?_
    refine lv_aload_n hx hb dX2_keepNoted_24 rfl (lv_at hl 0 rfl) ?_
    refine g_get (v := .int (nI (ct))) hx hb hts hown hK hP 0 rfl rfl gu_wsX20 2 (by decide) gm_4_11 rfl dX2_keepNoted_25 ?_
    refine lv_iconst (v := nI (1)) hx hb dX2_keepNoted_28 gc_1 ?_
    refine g_iadd hx hb dX2_keepNoted_29 ?_
    refine lv_bipush (v := nI (8)) hx hb dX2_keepNoted_30 gb_8 ?_
    refine va_mmin hx hb (hml.trans hl.1.symm) hown (hts _ (List.mem_cons_of_mem _ gm_8_8)) (hts _ (List.mem_cons_of_mem _ gm_8_9)) (hts _ (List.mem_cons_of_mem _ gm_8_10)) (hts _ (List.mem_cons_of_mem _ gm_8_11)) (by decide) (Nat.le_of_ble_eq_true rfl) (Nat.zero_le _) (Nat.zero_le _) dX2_keepNoted_32 ?_
    refine g_top (z := nI (if 8 < ct + 1 then 8 else ct + 1)) (mmin_n (by omega) (by omega)) ?_
    refine g_put (ws' := hobj cA B rg (0) ((if 8 < ct + 1 then 8 else ct + 1))) hx hb hts hown hK hP hD hS 0 rfl rfl gu_wsX20 tyX2_ok nmX2 2 (by decide) gm_4_11 rfl rfl rfl (Nat.le_of_ble_eq_true rfl) (by first | rfl | (rw [updN_nI]; rfl)) dX2_keepNoted_35 (fun H locs hP hD hS => ?_)
    exact g_vretW hx hb hr hlk hS dX2_keepNoted_38 (by have e9 : hUp hd = 0 := if_pos c_1 ; rw [e9]; exact hP)

set_option maxHeartbeats 1000000 in
set_option maxRecDepth 100000 in
theorem c_X2_keep (l : Launch) (D : va_G) (cA : Nat → ClassId) (B : Nat → Nat) (rg : Nat → Option Nat) (hd ct : Nat) (y z : CS) (hA : aInj 34 B) (hd8 : hd ≤ 8) (hrg : rg hd = some (B 2)) (hct : ct ≤ 8) : Met l yX2_keep (gw yX2_keep cX2_keep 2 none) ({ frames := 4, cells := 0, slots := 0, locals := 123 } : Room) (gPc [.ref (B 0), .ref (B 18)] (fun H => va_P D vwCl (hnw cA B rg (hd) (ct) (y) z) H) D cA) (wrV (fun H => va_P D vwCl (hnw cA B rg (hUp hd) (hCt ct) z z) H) (aS 34 B)) 0 0 (aS 34 B) := by
  refine gOf (by decide) (Nat.le_of_ble_eq_true rfl) ?_
  intro p e s m below meth c ls hx hb hml hr hlk hown hts hnm hP hK hl
  have hl : lv_has ls 2 [(0, .ref (B 0)), (1, .ref (B 18))] := hl
  have hD : va_D (aS 34 B) (hnw cA B rg (hd) (ct) (y) z) := hnwD hA
  have hS : va_S (aS 34 B) s.heap s.heap [] := va_S.rf
  refine lv_aload_n hx hb dX2_keep_0 rfl (lv_at hl 0 rfl) ?_
  refine lv_aload_n hx hb dX2_keep_1 rfl (lv_at hl 1 rfl) ?_
  refine wr_callv (va_runV (As := [.ref (B 18)]) (rest := []) ⟨hx, hb, hml, hown, hts⟩ (c_X2_note l D cA B rg (hd) (ct) y z hA hd8 hrg) (cwV 1 hts (gWV gm_7_7 gm_7_8 gm_7_9 gm_1_21 gm_7_10) rfl rfl rfl (by decide +kernel) ⟨Nat.le_of_ble_eq_true rfl, Nat.le_of_ble_eq_true rfl⟩) (gPreV hK (g_rf hK hP (ci := 4) (q0 := 0) rfl rfl) hP) rfl rfl hl.1 rfl (lv_room (Nat.le_of_ble_eq_true rfl)) dX2_keep_2 ⟨by omega, by omega⟩) hS (fun q _ h => h) (fun q h => h) (fun H locs hP hz9 hk9 hS => ?_)
  have hP : va_P D vwCl (hnw cA B rg (hd) (ct) (z) z) H := hP
  have hD : va_D (aS 34 B) (hnw cA B rg (hd) (ct) (z) z) := hnwD hA
  refine lv_aload_n hx hb dX2_keep_5 rfl (lv_at hl 0 rfl) ?_
  refine wr_callv (va_runV (As := []) (rest := []) ⟨hx, hb, hml, hown, hts⟩ (c_X2_keepNoted l D cA B rg (hd) (ct) (aInj_m hA (fun k => k) (fun i h => by show i < 34; omega) (fun i j _ _ h => h)) hd8 hct) (cwV 0 hts (gWV gm_8_4 gm_8_5 gm_8_6 gm_1_21 gm_8_7) rfl rfl rfl (by decide +kernel) ⟨Nat.le_of_ble_eq_true rfl, Nat.le_of_ble_eq_true rfl⟩) (gPreV hK (g_rf hK hP (ci := 4) (q0 := 0) rfl rfl) (hP.sub [0, 1] rfl)) rfl rfl hl.1 rfl (lv_room (Nat.le_of_ble_eq_true rfl)) dX2_keep_6 ⟨by omega, by omega⟩) hS (fun q _ h => aS_m (n := 34) (σ := fun k => k) (fun i h => by show i < 34; omega) h) (fun q h => aS_m (n := 34) (σ := fun k => k) (fun i h => by show i < 34; omega) h) (fun H locs hPn hz9 hk9 hS => ?_)
  have hP : va_P D vwCl (hnw cA B rg (hUp (hd)) (hCt (ct)) (z) z) H := hnw_H hA hP hPn hk9
  have hD : va_D (aS 34 B) (hnw cA B rg (hUp (hd)) (hCt (ct)) (z) z) := hnwD hA
  exact g_vretW hx hb hr hlk hS dX2_keep_9 (hP)

set_option maxHeartbeats 1000000 in
set_option maxRecDepth 100000 in
theorem c_X2_bringBack (l : Launch) (D : va_G) (cA : Nat → ClassId) (B : Nat → Nat) (rg : Nat → Option Nat) (hd ct : Nat) (y z : CS) (hA : aInj 34 B) (hd8 : hd ≤ 8) (hrg : rg (hDn hd) = some (B 18)) (hct : 1 ≤ ct) (hct8 : ct ≤ 8) : Met l yX2_bringBack (gw yX2_bringBack cX2_bringBack 2 none) ({ frames := 4, cells := 0, slots := 0, locals := 123 } : Room) (gPc [.ref (B 0), .ref (B 2)] (fun H => va_P D vwCl (hnw cA B rg (hd) (ct) (z) y) H) D cA) (wrV (fun H => va_P D vwCl (hnw cA B rg (hDn hd) (ct - 1) y y) H) (aS 34 B)) 0 0 (aS 34 B) := by
  refine gOf (by decide) (Nat.le_of_ble_eq_true rfl) ?_
  intro p e s m below meth c ls hx hb hml hr hlk hown hts hnm hP hK hl
  have hl : lv_has ls 2 [(0, .ref (B 0)), (1, .ref (B 2))] := hl
  have hD : va_D (aS 34 B) (hnw cA B rg (hd) (ct) (z) y) := hnwD hA
  have hS : va_S (aS 34 B) s.heap s.heap [] := va_S.rf
  refine lv_aload_n hx hb dX2_bringBack_0 rfl (lv_at hl 0 rfl) ?_
  refine lv_aload_n hx hb dX2_bringBack_1 rfl (lv_at hl 0 rfl) ?_
  refine g_get (v := .int (nI (hd))) hx hb hts hown hK hP 0 rfl rfl gu_wsX20 1 (by decide) gm_4_10 rfl dX2_bringBack_2 ?_
  refine g_if_ne (P := hd = 0) (tgt := 13) hx hb dX2_bringBack_5 (by decide) (nI_z (by omega)) (fun c_1 => ?_) (fun c_1 => ?_)
  · refine lv_aload_n hx hb dX2_bringBack_13 rfl (lv_at hl 0 rfl) ?_
    refine g_get (v := .int (nI (hd))) hx hb hts hown hK hP 0 rfl rfl gu_wsX20 1 (by decide) gm_4_10 rfl dX2_bringBack_14 ?_
    refine lv_iconst (v := nI (1)) hx hb dX2_bringBack_17 gc_1 ?_
    refine g_isub hx hb (by omega) dX2_bringBack_18 ?_
    refine g_put (ws' := hnw cA B rg (hd - 1) (ct) (z) y) hx hb hts hown hK hP hD hS 0 rfl rfl gu_wsX20 tyX2_ok nmX2 1 (by decide) gm_4_10 rfl rfl rfl (Nat.le_of_ble_eq_true rfl) (by first | rfl | (rw [updN_nI]; rfl)) dX2_bringBack_19 (fun H locs hP hD hS => ?_)
    refine lv_aload_n hx hb dX2_bringBack_22 rfl (lv_at hl 0 rfl) ?_
    refine lv_dup hx hb dX2_bringBack_23 rfl ?_
    refine g_get (v := .int (nI (ct))) hx hb hts hown hK hP 0 rfl rfl gu_wsX20 2 (by decide) gm_4_11 rfl dX2_bringBack_24 ?_
    refine lv_iconst (v := nI (1)) hx hb dX2_bringBack_27 gc_1 ?_
    refine g_isub hx hb (by omega) dX2_bringBack_28 ?_
    refine g_put (ws' := hnw cA B rg (hd - 1) (ct - 1) (z) y) hx hb hts hown hK hP hD hS 0 rfl rfl gu_wsX20 tyX2_ok nmX2 2 (by decide) gm_4_11 rfl rfl rfl (Nat.le_of_ble_eq_true rfl) (by first | rfl | (rw [updN_nI]; rfl)) dX2_bringBack_29 (fun H locs hP hD hS => ?_)
    have e9 : hDn hd = hd - 1 := if_neg c_1
    have hd9 : hDn hd ≤ 8 := by rw [e9]; omega
    rw [← e9] at hP
    have hD : va_D (aS 34 B) (hnw cA B rg (hDn hd) (ct - 1) z y) := hnwD hA
    refine lv_aload_n hx hb dX2_bringBack_32 rfl (lv_at hl 0 rfl) ?_
    refine lv_aload_n hx hb dX2_bringBack_33 rfl (lv_at hl 1 rfl) ?_
    refine wr_callv (va_runV (As := [.ref (B 2)]) (rest := []) ⟨hx, hb, hml, hown, hts⟩ (c_X2_takeBack l D cA B rg (hDn hd) (ct - 1) y z hA hd9 hrg) (cwV 1 hts (gWV gm_52_23 gm_45_10 gm_45_11 gm_1_21 gm_45_12) rfl rfl rfl (by decide +kernel) ⟨Nat.le_of_ble_eq_true rfl, Nat.le_of_ble_eq_true rfl⟩) (gPreV hK (g_rf hK hP (ci := 4) (q0 := 0) rfl rfl) hP) rfl rfl hl.1 rfl (lv_room (Nat.le_of_ble_eq_true rfl)) dX2_bringBack_34 ⟨by omega, by omega⟩) hS (fun q _ h => h) (fun q h => h) (fun H locs hP hz9 hk9 hS => ?_)
    have hP : va_P D vwCl (hnw cA B rg (hDn hd) (ct - 1) (y) y) H := hP
    have hD : va_D (aS 34 B) (hnw cA B rg (hDn hd) (ct - 1) (y) y) := hnwD hA
    exact g_vretW hx hb hr hlk hS dX2_bringBack_37 (hP)
  · refine lv_bipush (v := nI (8)) hx hb dX2_bringBack_8 gb_8 ?_
    refine lv_goto (tgt := 19) hx hb dX2_bringBack_10 (by decide) ?_
    refine g_put (ws' := hnw cA B rg (8) (ct) (z) y) hx hb hts hown hK hP hD hS 0 rfl rfl gu_wsX20 tyX2_ok nmX2 1 (by decide) gm_4_10 rfl rfl rfl (Nat.le_of_ble_eq_true rfl) (by first | rfl | (rw [updN_nI]; rfl)) dX2_bringBack_19 (fun H locs hP hD hS => ?_)
    refine lv_aload_n hx hb dX2_bringBack_22 rfl (lv_at hl 0 rfl) ?_
    refine lv_dup hx hb dX2_bringBack_23 rfl ?_
    refine g_get (v := .int (nI (ct))) hx hb hts hown hK hP 0 rfl rfl gu_wsX20 2 (by decide) gm_4_11 rfl dX2_bringBack_24 ?_
    refine lv_iconst (v := nI (1)) hx hb dX2_bringBack_27 gc_1 ?_
    refine g_isub hx hb (by omega) dX2_bringBack_28 ?_
    refine g_put (ws' := hnw cA B rg (8) (ct - 1) (z) y) hx hb hts hown hK hP hD hS 0 rfl rfl gu_wsX20 tyX2_ok nmX2 2 (by decide) gm_4_11 rfl rfl rfl (Nat.le_of_ble_eq_true rfl) (by first | rfl | (rw [updN_nI]; rfl)) dX2_bringBack_29 (fun H locs hP hD hS => ?_)
    have e9 : hDn hd = 8 := if_pos c_1
    have hd9 : hDn hd ≤ 8 := by rw [e9]; omega
    rw [← e9] at hP
    have hD : va_D (aS 34 B) (hnw cA B rg (hDn hd) (ct - 1) z y) := hnwD hA
    refine lv_aload_n hx hb dX2_bringBack_32 rfl (lv_at hl 0 rfl) ?_
    refine lv_aload_n hx hb dX2_bringBack_33 rfl (lv_at hl 1 rfl) ?_
    refine wr_callv (va_runV (As := [.ref (B 2)]) (rest := []) ⟨hx, hb, hml, hown, hts⟩ (c_X2_takeBack l D cA B rg (hDn hd) (ct - 1) y z hA hd9 hrg) (cwV 1 hts (gWV gm_52_23 gm_45_10 gm_45_11 gm_1_21 gm_45_12) rfl rfl rfl (by decide +kernel) ⟨Nat.le_of_ble_eq_true rfl, Nat.le_of_ble_eq_true rfl⟩) (gPreV hK (g_rf hK hP (ci := 4) (q0 := 0) rfl rfl) hP) rfl rfl hl.1 rfl (lv_room (Nat.le_of_ble_eq_true rfl)) dX2_bringBack_34 ⟨by omega, by omega⟩) hS (fun q _ h => h) (fun q h => h) (fun H locs hP hz9 hk9 hS => ?_)
    have hP : va_P D vwCl (hnw cA B rg (hDn hd) (ct - 1) (y) y) H := hP
    have hD : va_D (aS 34 B) (hnw cA B rg (hDn hd) (ct - 1) (y) y) := hnwD hA
    exact g_vretW hx hb hr hlk hS dX2_bringBack_37 (hP)

