def mInj (A : Nat → Nat) : Prop := ∀ i j : Nat, i < 10 → j < 10 → A i = A j → i = j
def MA (A : Nat → Nat) : Nat → Prop := fun q => ∃ k : Nat, k < 10 ∧ q = A k
theorem mw_ad {cA : Nat → ClassId} {A : Nat → Nat} {x : Nat → Int32} {f : Nat → Nat → Int32} {k : Nat} {q : Nat × va_E} (h : (mw cA A x f)[k]? = some q) : k < 10 ∧ q.1 = A k := by
  match k, h with
  | 0, h => cases h; exact ⟨by decide, rfl⟩
  | 1, h => cases h; exact ⟨by decide, rfl⟩
  | 2, h => cases h; exact ⟨by decide, rfl⟩
  | 3, h => cases h; exact ⟨by decide, rfl⟩
  | 4, h => cases h; exact ⟨by decide, rfl⟩
  | 5, h => cases h; exact ⟨by decide, rfl⟩
  | 6, h => cases h; exact ⟨by decide, rfl⟩
  | 7, h => cases h; exact ⟨by decide, rfl⟩
  | 8, h => cases h; exact ⟨by decide, rfl⟩
  | 9, h => cases h; exact ⟨by decide, rfl⟩
  | k + 10, h => exact absurd h (by simp [mw])
theorem mD {cA : Nat → ClassId} {A : Nat → Nat} {x : Nat → Int32} {f : Nat → Nat → Int32} (hA : mInj A) : va_D (MA A) (mw cA A x f) :=
  ⟨fun i j p q hp hq e => hA i j (mw_ad hp).1 (mw_ad hq).1 (by rw [← (mw_ad hp).2, ← (mw_ad hq).2]; exact e), fun k q h => ⟨k, (mw_ad h).1, (mw_ad h).2⟩⟩
theorem mw_set {D : va_G} {cA : Nat → ClassId} {A : Nat → Nat} {x : Nat → Int32} {f : Nat → Nat → Int32} {H H1 : Heap} {p : Nat} {e0 e : va_E} (hA : mInj A) (hP : va_P D vwCl (mw cA A x f) H) (hp : (mw cA A x f)[p]? = some (A p, e0)) (he : va_at D vwCl (A p, e) H1) (oq : ∀ q : Nat, q < H.size → ¬ q = A p → H1[q]? = H[q]?) : va_P D vwCl ((mw cA A x f).set p (A p, e)) H1 := by
  have hl := (List.getElem?_eq_some_iff.mp hp).1
  intro k q hk
  by_cases hkp : k = p
  · subst hkp
    rw [List.getElem?_set_self hl] at hk
    cases hk
    exact he
  · rw [List.getElem?_set_ne (Ne.symm hkp)] at hk
    refine (hP k q hk).kept (oq q.1 (hP k q hk).lt (fun z => hkp ?_))
    exact hA k p (mw_ad hk).1 (mw_ad hp).1 (by rw [← (mw_ad hk).2]; exact z)

set_option maxHeartbeats 1000000 in
set_option maxRecDepth 100000 in
theorem c_X8_fails (l : Launch) (D : va_G) (cA : Nat → ClassId) (A : Nat → Nat) (x : Nat → Int32) (f : Nat → Nat → Int32) (n : Nat) (hA : mInj A) (hn : n < 3) : Met l yX8_fails (gw yX8_fails cX8_fails 2 (some .boolean)) ({ frames := 0, cells := 0, slots := 0, locals := 0 } : Room) (gPc [.ref (A 0), .int (nI (n))] (fun H => va_P D vwCl (mw cA A x f) H) D cA) (wrI (fun r H => r = b2i (decide (0 < n)) ∧ va_P D vwCl (mw cA A (upd (upd x 4 (nI n)) 3 (nI 0)) (f)) H) (MA A)) 0 0 (MA A) := by
  refine gOf (by decide) (Nat.le_of_ble_eq_true rfl) ?_
  intro p e s m below meth c ls hx hb hml hr hlk hown hts hnm hP hK hl
  have hl : lv_has ls 2 [(0, .ref (A 0)), (1, .int (nI (n)))] := hl
  have hD : va_D (MA A) (mw cA A x f) := mD hA
  have hS : va_S (MA A) s.heap s.heap [] := va_S.rf
  refine lv_aload_n hx hb dX8_fails_0 rfl (lv_at hl 0 rfl) ?_
  refine lv_iload_n hx hb dX8_fails_1 rfl (lv_at hl 1 rfl) ?_
  refine g_put (ws' := mw cA A (upd (x) 4 (nI (n))) (f)) hx hb hts hown hK hP hD hS 0 rfl rfl gu_wsX80 tyX8_ok nmX8 8 (by decide) gm_9_3 rfl rfl rfl (Nat.le_of_ble_eq_true rfl) rfl dX8_fails_2 (fun H locs hP hD hS => ?_)
  refine lv_aload_n hx hb dX8_fails_5 rfl (lv_at hl 0 rfl) ?_
  refine lv_iconst (v := nI (0)) hx hb dX8_fails_6 gc_0 ?_
  refine g_put (ws' := mw cA A (upd (upd (x) 3 (nI (0))) 4 (nI (n))) (f)) hx hb hts hown hK hP hD hS 0 rfl rfl gu_wsX80 tyX8_ok nmX8 7 (by decide) gm_9_4 rfl rfl rfl (Nat.le_of_ble_eq_true rfl) rfl dX8_fails_7 (fun H locs hP hD hS => ?_)
  refine lv_iload_n hx hb dX8_fails_10 rfl (lv_at hl 1 rfl) ?_
  refine g_if_le (P := n = 0) (tgt := 18) hx hb dX8_fails_11 (by decide) (nI_ez (a := n) (by omega)) (fun c_1 => ?_) (fun c_1 => ?_)
  · refine lv_iconst (v := nI (0)) hx hb dX8_fails_18 gc_0 ?_
    exact g_zretW (v := nI (0)) hx hb hr hlk rfl hS dX8_fails_19 (⟨by simp [b2i, c_1], hP⟩)
  · refine lv_iconst (v := nI (1)) hx hb dX8_fails_14 gc_1 ?_
    refine lv_goto (tgt := 19) hx hb dX8_fails_15 (by decide) ?_
    exact g_zretW (v := nI (1)) hx hb hr hlk rfl hS dX8_fails_19 (⟨by simp [b2i, c_1], hP⟩)

set_option maxHeartbeats 1000000 in
set_option maxRecDepth 100000 in
theorem c_X8_refuses (l : Launch) (D : va_G) (cA : Nat → ClassId) (A : Nat → Nat) (x : Nat → Int32) (f : Nat → Nat → Int32) (n : Nat) (w d : Int32) (hA : mInj A)  : Met l yX8_refuses (gw yX8_refuses cX8_refuses 4 (some .int)) ({ frames := 0, cells := 0, slots := 0, locals := 0 } : Room) (gPc [.ref (A 0), .int (nI (n)), .int (w), .int (d)] (fun H => va_P D vwCl (mw cA A x f) H) D cA) (wrI (fun r H => r = nI 0 ∧ va_P D vwCl (mw cA A (upd (upd (upd (upd x 4 (nI n)) 3 (nI 1)) 5 w) 6 d) (f)) H) (MA A)) 0 0 (MA A) := by
  refine gOf (by decide) (Nat.le_of_ble_eq_true rfl) ?_
  intro p e s m below meth c ls hx hb hml hr hlk hown hts hnm hP hK hl
  have hl : lv_has ls 4 [(0, .ref (A 0)), (1, .int (nI (n))), (2, .int (w)), (3, .int (d))] := hl
  have hD : va_D (MA A) (mw cA A x f) := mD hA
  have hS : va_S (MA A) s.heap s.heap [] := va_S.rf
  refine lv_aload_n hx hb dX8_refuses_0 rfl (lv_at hl 0 rfl) ?_
  refine lv_iload_n hx hb dX8_refuses_1 rfl (lv_at hl 1 rfl) ?_
  refine g_put (ws' := mw cA A (upd (x) 4 (nI (n))) (f)) hx hb hts hown hK hP hD hS 0 rfl rfl gu_wsX80 tyX8_ok nmX8 8 (by decide) gm_9_3 rfl rfl rfl (Nat.le_of_ble_eq_true rfl) rfl dX8_refuses_2 (fun H locs hP hD hS => ?_)
  refine lv_aload_n hx hb dX8_refuses_5 rfl (lv_at hl 0 rfl) ?_
  refine lv_iconst (v := nI (1)) hx hb dX8_refuses_6 gc_1 ?_
  refine g_put (ws' := mw cA A (upd (upd (x) 3 (nI (1))) 4 (nI (n))) (f)) hx hb hts hown hK hP hD hS 0 rfl rfl gu_wsX80 tyX8_ok nmX8 7 (by decide) gm_9_4 rfl rfl rfl (Nat.le_of_ble_eq_true rfl) rfl dX8_refuses_7 (fun H locs hP hD hS => ?_)
  refine lv_aload_n hx hb dX8_refuses_10 rfl (lv_at hl 0 rfl) ?_
  refine lv_iload_n hx hb dX8_refuses_11 rfl (lv_at hl 2 rfl) ?_
  refine g_put (ws' := mw cA A (upd (upd (upd (x) 3 (nI (1))) 4 (nI (n))) 5 (w)) (f)) hx hb hts hown hK hP hD hS 0 rfl rfl gu_wsX80 tyX8_ok nmX8 9 (by decide) gm_9_9 rfl rfl rfl (Nat.le_of_ble_eq_true rfl) rfl dX8_refuses_12 (fun H locs hP hD hS => ?_)
  refine lv_aload_n hx hb dX8_refuses_15 rfl (lv_at hl 0 rfl) ?_
  refine lv_iload_n hx hb dX8_refuses_16 rfl (lv_at hl 3 rfl) ?_
  refine g_put (ws' := mw cA A (upd (upd (upd (upd (x) 3 (nI (1))) 4 (nI (n))) 5 (w)) 6 (d)) (f)) hx hb hts hown hK hP hD hS 0 rfl rfl gu_wsX80 tyX8_ok nmX8 10 (by decide) gm_9_10 rfl rfl rfl (Nat.le_of_ble_eq_true rfl) rfl dX8_refuses_17 (fun H locs hP hD hS => ?_)
  refine lv_iconst (v := nI (0)) hx hb dX8_refuses_20 gc_0 ?_
  exact g_iretW (v := nI (0)) hx hb hr hlk hS dX8_refuses_21 (⟨rfl, hP⟩)

set_option maxHeartbeats 1000000 in
set_option maxRecDepth 100000 in
theorem c_X8_lays (l : Launch) (D : va_G) (cA : Nat → ClassId) (A : Nat → Nat) (x : Nat → Int32) (f : Nat → Nat → Int32) (q w : Nat) (v : Int32) (hA : mInj A) (hq : 44 + 8 * q + w < 124) : Met l yX8_lays (gw yX8_lays cX8_lays 4 none) ({ frames := 0, cells := 0, slots := 0, locals := 0 } : Room) (gPc [.ref (A 0), .int (nI (q)), .int (nI (w)), .int (v)] (fun H => va_P D vwCl (mw cA A x f) H) D cA) (wrV (fun H => va_P D vwCl (mw cA A (x) (va_up f 0 (upd (f 0) (44 + 8 * q + w) v))) H) (MA A)) 0 0 (MA A) := by
  refine gOf (by decide) (Nat.le_of_ble_eq_true rfl) ?_
  intro p e s m below meth c ls hx hb hml hr hlk hown hts hnm hP hK hl
  have hl : lv_has ls 4 [(0, .ref (A 0)), (1, .int (nI (q))), (2, .int (nI (w))), (3, .int (v))] := hl
  have hD : va_D (MA A) (mw cA A x f) := mD hA
  have hS : va_S (MA A) s.heap s.heap [] := va_S.rf
  refine lv_aload_n hx hb dX8_lays_0 rfl (lv_at hl 0 rfl) ?_
  refine g_get (v := .ref (A 1)) hx hb hts hown hK hP 0 rfl rfl gu_wsX80 0 (by decide) gm_5_14 rfl dX8_lays_1 ?_
  refine lv_bipush (v := nI (44)) hx hb dX8_lays_4 gb_44 ?_
  refine lv_bipush (v := nI (8)) hx hb dX8_lays_6 gb_8 ?_
  refine lv_iload_n hx hb dX8_lays_8 rfl (lv_at hl 1 rfl) ?_
  refine g_imul hx hb dX8_lays_9 ?_
  refine g_iadd hx hb dX8_lays_10 ?_
  refine lv_iload_n hx hb dX8_lays_11 rfl (lv_at hl 2 rfl) ?_
  refine g_iadd hx hb dX8_lays_12 ?_
  refine lv_iload_n hx hb dX8_lays_13 rfl (lv_at hl 3 rfl) ?_
  refine g_iast (ws' := mw cA A (x) (va_up (f) 0 (upd (f 0) (((44) + (8 * q)) + (w)) (v)))) hx hb hK hP hD hS 1 rfl (by omega) (by decide) rfl dX8_lays_14 (fun H locs hP hD hS => ?_)
  exact g_vretW hx hb hr hlk hS dX8_lays_15 (hP)

theorem va_at_i {D : va_G} {cA : ClassId} {n : Nat} {f g : Nat → Int32} {a : Nat} {H : Heap} (h : va_at D vwCl (a, .inl (cA, n, .inl f)) H) (e : ∀ j, j < n → f j = g j) : va_at D vwCl (a, .inl (cA, n, .inl g)) H := by
  have h2 : H[a]? = some (vp_cell cA (n, .inl f)) := h
  show H[a]? = some (vp_cell cA (n, .inl g))
  rw [h2, vp_cell_i, vp_cell_i]
  congr 1
  unfold arrV
  congr 1
  apply Array.ext
  · simp
  · intro i h1 h2
    simp at h1
    simp [e i h1]

def lmS (g l0 d0 : Nat → Int32) : Nat → (Nat → Int32) × (Nat → Int32)
  | 0 => (l0, d0)
  | k + 1 => (upd (lmS g l0 d0 k).1 k (gby g k 0), upd (lmS g l0 d0 k).2 k (gby g k 1))
def tmS (l d g0 : Nat → Int32) : Nat → (Nat → Int32)
  | 0 => g0
  | k + 1 => upd (upd (tmS l d g0 k) (8 + 4 * k + 0) (l k)) (8 + 4 * k + 1) (d k)
theorem tmS_lo {l d g0 : Nat → Int32} {q : Nat} (hq : q < 8) : ∀ k, tmS l d g0 k q = g0 q
  | 0 => rfl
  | k + 1 => by
    show upd (upd (tmS l d g0 k) (8 + 4 * k + 0) (l k)) (8 + 4 * k + 1) (d k) q = _
    rw [pk_un (by omega), pk_un (by omega), tmS_lo hq k]
def dbO (panel merit verdict : Int32) (l d : Nat → Int32) : Nat → Int32
  | 0 => nI 0
  | k + 1 => if (hs panel k && (forB merit (l k) (d k) != decide (verdict = nI 1))) = true then dbO panel merit verdict l d k ||| (nI 1 <<< (nI k &&& 31)) else dbO panel merit verdict l d k
def dbS (panel others : Int32) (d0 : Nat → Int32) : Nat → (Nat → Int32)
  | 0 => d0
  | k + 1 => if hs panel k = true then upd (dbS panel others d0 k) k (wi (dbS panel others d0 k k + (if hs others k = true then nI 1 else -1)) (nI 0) (nI 9)) else dbS panel others d0 k
def tkT (merit v d : Int32) : Int32 := wi (v + (if forB merit v d = true then -1 else nI 1)) (-9) (nI 9)
def tkS (panel merit : Int32) (d l0 : Nat → Int32) : Nat → Int32 × (Nat → Int32)
  | 0 => (nI 0, l0)
  | k + 1 => if hs panel k = true then ((tkS panel merit d l0 k).1 + (if tkT merit ((tkS panel merit d l0 k).2 k) (d k) = (tkS panel merit d l0 k).2 k then nI 0 else nI 1), upd (tkS panel merit d l0 k).2 k (tkT merit ((tkS panel merit d l0 k).2 k) (d k))) else tkS panel merit d l0 k

set_option maxHeartbeats 1000000 in
set_option maxRecDepth 100000 in
theorem c_X8_laysMinds (l : Launch) (D : va_G) (cA : Nat → ClassId) (A : Nat → Nat) (x : Nat → Int32) (f : Nat → Nat → Int32) (jn : Nat) (hA : mInj A) (hj : f 0 0 = nI jn) (hjn : jn ≤ 9) : Met l yX8_laysMinds (gw yX8_laysMinds cX8_laysMinds 2 none) ({ frames := 1, cells := 0, slots := 0, locals := 22 } : Room) (gPc [.ref (A 0)] (fun H => va_P D vwCl (mw cA A x f) H) D cA) (wrV (fun H => va_P D vwCl (mw cA A (x) (va_up (va_up f 6 ((lmS (f 0) (f 6) (f 7) jn).1)) 7 ((lmS (f 0) (f 6) (f 7) jn).2))) H) (MA A)) 0 0 (MA A) := by
  refine gOf (by decide) (Nat.le_of_ble_eq_true rfl) ?_
  intro p e s m below meth c ls hx hb hml hr hlk hown hts hnm hP hK hl
  have hl : lv_has ls 2 [(0, .ref (A 0))] := hl
  have hD : va_D (MA A) (mw cA A x f) := mD hA
  have hS : va_S (MA A) s.heap s.heap [] := va_S.rf
  refine lv_iconst (v := nI (0)) hx hb dX8_laysMinds_0 gc_0 ?_
  refine lv_istore_n (lv' := [(1, .int (nI (0))), (0, .ref (A 0))]) hx hb dX8_laysMinds_1 rfl hl (by decide) rfl (fun ls hl => ?_)
  have LP_6 : ∀ (n_2 i_1 : Nat) (x_3 : Int32) (F_4 F_5 : Nat → Int32) (H : Heap) (locs : List Loc), i_1 ≤ jn → jn + 1 ≤ i_1 + n_2 → x_3 = nI (i_1) → F_4 = (lmS (f 0) (f 6) (f 7) i_1).1 → F_5 = (lmS (f 0) (f 6) (f 7) i_1).2 → va_P D vwCl (mw cA A (x) (va_up (va_up (f) 6 (F_4)) 7 (F_5))) H → va_S (MA A) s.heap H locs → ∀ (ls : Array Slot), lv_has ls 2 [(1, .int (x_3)), (0, .ref (A 0))] → W p l e ({ frames := 1, cells := 0, slots := 0, locals := 22 } : Room) s m ([.ref (A 0)] : List Value).toArray below meth c H locs 0 0 (MQ below (wrV (fun H => va_P D vwCl (mw cA A (x) (va_up (va_up f 6 ((lmS (f 0) (f 6) (f 7) jn).1)) 7 ((lmS (f 0) (f 6) (f 7) jn).2))) H) (MA A)) ([.ref (A 0)] : List Value).toArray s 0 0 (MA A)) (F0 m 2 ls []) := by
    intro n_2
    induction n_2 with
    | zero => intro i_1 x_3 F_4 F_5 H locs h1 h2; exact absurd h2 (by omega)
    | succ n_2 ih_7 =>
      intro i_1 x_3 F_4 F_5 H locs h_8 h_9 e_10 e_11 e_12  hP hS ls hl
      subst e_10
      subst e_11
      subst e_12
      have hD : va_D (MA A) (mw cA A (x) (va_up (va_up (f) 6 ((lmS (f 0) (f 6) (f 7) i_1).1)) 7 ((lmS (f 0) (f 6) (f 7) i_1).2))) := mD hA
      refine lv_iload_n hx hb dX8_laysMinds_2 rfl (lv_at hl 0 rfl) ?_
      refine lv_aload_n hx hb dX8_laysMinds_3 rfl (lv_at hl 1 rfl) ?_
      refine g_get (v := .ref (A 1)) hx hb hts hown hK hP 0 rfl rfl gu_wsX80 0 (by decide) gm_5_14 rfl dX8_laysMinds_4 ?_
      refine lv_iconst (v := nI (0)) hx hb dX8_laysMinds_7 gc_0 ?_
      refine g_iald (x := nI (jn)) hx hb hK hP 1 rfl (by omega) (by decide) hj dX8_laysMinds_8 ?_
      refine g_icmp_ge (P := jn ≤ i_1) (tgt := 42) hx hb dX8_laysMinds_9 (by decide) (nI_leI (by omega) (by omega)) (fun c_13 => ?_) (fun c_13 => ?_)
      · have d_13 : ¬ i_1 < jn := Nat.not_lt.mpr c_13
        have hN_14 : jn = i_1 := by omega
        subst hN_14
        exact g_vretW hx hb hr hlk hS dX8_laysMinds_42 (hP)
      · have d_13 : i_1 < jn := Nat.not_le.mp c_13
        refine lv_aload_n hx hb dX8_laysMinds_12 rfl (lv_at hl 1 rfl) ?_
        refine g_get (v := .ref (A 7)) hx hb hts hown hK hP 0 rfl rfl gu_wsX80 16 (by decide) gm_5_21 rfl dX8_laysMinds_13 ?_
        refine lv_iload_n hx hb dX8_laysMinds_16 rfl (lv_at hl 0 rfl) ?_
        refine lv_aload_n hx hb dX8_laysMinds_17 rfl (lv_at hl 1 rfl) ?_
        refine lv_iload_n hx hb dX8_laysMinds_18 rfl (lv_at hl 0 rfl) ?_
        refine lv_iconst (v := nI (0)) hx hb dX8_laysMinds_19 gc_0 ?_
        refine rd_calle (va_runV (As := [.int (nI (i_1)), .int (nI (0))]) (rest := [.int (nI (i_1)), .ref (A 7)]) ⟨hx, hb, hml, hown, hts⟩ (c_X8_by l D cA A (x) (va_up (va_up (f) 6 ((lmS (f 0) (f 6) (f 7) i_1).1)) 7 ((lmS (f 0) (f 6) (f 7) i_1).2)) (i_1) (0) (by omega)) (cwV 2 hts (gWV gm_15_9 gm_15_10 gm_15_11 gm_1_5 gm_15_12) rfl rfl rfl (by decide +kernel) ⟨Nat.le_of_ble_eq_true rfl, Nat.le_of_ble_eq_true rfl⟩) (gPreV hK (g_rf hK hP (ci := 10) (q0 := 0) rfl rfl) hP) rfl rfl hl.1 rfl (lv_room (Nat.le_of_ble_eq_true rfl)) dX8_laysMinds_20 ⟨by omega, by omega⟩) ?_
        refine g_iast (ws' := mw cA A (x) (va_up (va_up (f) 6 (upd ((lmS (f 0) (f 6) (f 7) i_1).1) (i_1) (gby (f 0) (i_1) (0)))) 7 ((lmS (f 0) (f 6) (f 7) i_1).2))) hx hb hK hP hD hS 7 rfl (by omega) (by decide) rfl dX8_laysMinds_23 (fun H locs hP hD hS => ?_)
        refine lv_aload_n hx hb dX8_laysMinds_24 rfl (lv_at hl 1 rfl) ?_
        refine g_get (v := .ref (A 8)) hx hb hts hown hK hP 0 rfl rfl gu_wsX80 17 (by decide) gm_5_22 rfl dX8_laysMinds_25 ?_
        refine lv_iload_n hx hb dX8_laysMinds_28 rfl (lv_at hl 0 rfl) ?_
        refine lv_aload_n hx hb dX8_laysMinds_29 rfl (lv_at hl 1 rfl) ?_
        refine lv_iload_n hx hb dX8_laysMinds_30 rfl (lv_at hl 0 rfl) ?_
        refine lv_iconst (v := nI (1)) hx hb dX8_laysMinds_31 gc_1 ?_
        refine rd_calle (va_runV (As := [.int (nI (i_1)), .int (nI (1))]) (rest := [.int (nI (i_1)), .ref (A 8)]) ⟨hx, hb, hml, hown, hts⟩ (c_X8_by l D cA A (x) (va_up (va_up (f) 6 (upd ((lmS (f 0) (f 6) (f 7) i_1).1) (i_1) (gby (f 0) (i_1) (0)))) 7 ((lmS (f 0) (f 6) (f 7) i_1).2)) (i_1) (1) (by omega)) (cwV 2 hts (gWV gm_15_9 gm_15_10 gm_15_11 gm_1_5 gm_15_12) rfl rfl rfl (by decide +kernel) ⟨Nat.le_of_ble_eq_true rfl, Nat.le_of_ble_eq_true rfl⟩) (gPreV hK (g_rf hK hP (ci := 10) (q0 := 0) rfl rfl) hP) rfl rfl hl.1 rfl (lv_room (Nat.le_of_ble_eq_true rfl)) dX8_laysMinds_32 ⟨by omega, by omega⟩) ?_
        refine g_iast (ws' := mw cA A (x) (va_up (va_up (f) 6 (upd ((lmS (f 0) (f 6) (f 7) i_1).1) (i_1) (gby (f 0) (i_1) (0)))) 7 (upd ((lmS (f 0) (f 6) (f 7) i_1).2) (i_1) (gby (f 0) (i_1) (1))))) hx hb hK hP hD hS 8 rfl (by omega) (by decide) rfl dX8_laysMinds_35 (fun H locs hP hD hS => ?_)
        refine lv_iinc (v := nI (i_1 + 1)) (lv' := [(1, .int (nI (i_1 + 1))), (0, .ref (A 0))]) hx hb dX8_laysMinds_36 hl (k := 0) rfl (inc_1 _) (by decide) rfl (fun ls hl => ?_)
        refine lv_goto (tgt := 2) hx hb dX8_laysMinds_39 (by decide) ?_
        exact ih_7 (i_1 + 1) _ (upd ((lmS (f 0) (f 6) (f 7) i_1).1) (i_1) (gby (f 0) (i_1) (0))) (upd ((lmS (f 0) (f 6) (f 7) i_1).2) (i_1) (gby (f 0) (i_1) (1))) H locs (by omega) (by omega) rfl rfl rfl  hP hS ls (lv_sub hl [0, 1] rfl)
  exact LP_6 (jn + 1) 0 _ (f 6) (f 7) s.heap [] (by omega) (by omega) rfl rfl rfl  hP hS ls (lv_sub hl [0, 1] rfl)

set_option maxHeartbeats 1000000 in
set_option maxRecDepth 100000 in
theorem c_X8_copies_01 (l : Launch) (D : va_G) (cA : Nat → ClassId) (A : Nat → Nat) (x : Nat → Int32) (f : Nat → Nat → Int32) (a0 on : Nat) (hA : mInj A) (ha : a0 + 124 ≤ 124) (ho : on + 124 ≤ 992) : Met l yX8_copies (gw yX8_copies cX8_copies 5 none) ({ frames := 0, cells := 0, slots := 0, locals := 0 } : Room) (gPc [.ref (A 1), .int (nI (a0)), .ref (A 2), .int (nI (on))] (fun H => va_P D vwCl (mw cA A x f) H) D cA) (wrV (fun H => va_P D vwCl (mw cA A (x) (va_up f 1 (fb_put (f 1) (fun k => f 0 (a0 + k)) on 124))) H) (MA A)) 0 0 (MA A) := by
  refine gOf (by decide) (Nat.le_of_ble_eq_true rfl) ?_
  intro p e s m below meth c ls hx hb hml hr hlk hown hts hnm hP hK hl
  have hl : lv_has ls 5 [(0, .ref (A 1)), (1, .int (nI (a0))), (2, .ref (A 2)), (3, .int (nI (on)))] := hl
  have hD : va_D (MA A) (mw cA A x f) := mD hA
  have hS : va_S (MA A) s.heap s.heap [] := va_S.rf
  refine lv_iconst (v := nI (0)) hx hb dX8_copies_0 gc_0 ?_
  refine lv_istore (lv' := [(4, .int (nI (0))), (0, .ref (A 1)), (1, .int (nI (a0))), (2, .ref (A 2)), (3, .int (nI (on)))]) hx hb dX8_copies_1 hl (by decide) rfl (fun ls hl => ?_)
  have LP_5 : ∀ (n_2 i_1 : Nat) (x_3 : Int32) (F_4 : Nat → Int32) (H : Heap) (locs : List Loc), i_1 ≤ 124 → 124 + 1 ≤ i_1 + n_2 → x_3 = nI (i_1) → F_4 = fb_put (f 1) (fun k => f 0 (a0 + k)) on i_1 → va_P D vwCl (mw cA A (x) (va_up (f) 1 (F_4))) H → va_S (MA A) s.heap H locs → ∀ (ls : Array Slot), lv_has ls 5 [(4, .int (x_3)), (0, .ref (A 1)), (1, .int (nI (a0))), (2, .ref (A 2)), (3, .int (nI (on)))] → W p l e ({ frames := 0, cells := 0, slots := 0, locals := 0 } : Room) s m ([.ref (A 1), .int (nI (a0)), .ref (A 2), .int (nI (on))] : List Value).toArray below meth c H locs 0 0 (MQ below (wrV (fun H => va_P D vwCl (mw cA A (x) (va_up f 1 (fb_put (f 1) (fun k => f 0 (a0 + k)) on 124))) H) (MA A)) ([.ref (A 1), .int (nI (a0)), .ref (A 2), .int (nI (on))] : List Value).toArray s 0 0 (MA A)) (F0 m 3 ls []) := by
    intro n_2
    induction n_2 with
    | zero => intro i_1 x_3 F_4 H locs h1 h2; exact absurd h2 (by omega)
    | succ n_2 ih_6 =>
      intro i_1 x_3 F_4 H locs h_7 h_8 e_9 e_10  hP hS ls hl
      subst e_9
      subst e_10
      have hD : va_D (MA A) (mw cA A (x) (va_up (f) 1 (fb_put (f 1) (fun k => f 0 (a0 + k)) on i_1))) := mD hA
      refine lv_iload hx hb dX8_copies_3 (lv_at hl 0 rfl) ?_
      refine lv_bipush (v := nI (124)) hx hb dX8_copies_5 gb_124 ?_
      refine g_icmp_ge (P := 124 ≤ i_1) (tgt := 28) hx hb dX8_copies_7 (by decide) (nI_leI (by omega) (by omega)) (fun c_11 => ?_) (fun c_11 => ?_)
      · have d_11 : ¬ i_1 < 124 := Nat.not_lt.mpr c_11
        have hN_12 : 124 = i_1 := by omega
        subst hN_12
        exact g_vretW hx hb hr hlk hS dX8_copies_28 (hP)
      · have d_11 : i_1 < 124 := Nat.not_le.mp c_11
        refine lv_aload_n hx hb dX8_copies_10 rfl (lv_at hl 3 rfl) ?_
        refine lv_iload_n hx hb dX8_copies_11 rfl (lv_at hl 4 rfl) ?_
        refine lv_iload hx hb dX8_copies_12 (lv_at hl 0 rfl) ?_
        refine g_iadd hx hb dX8_copies_14 ?_
        refine lv_aload_n hx hb dX8_copies_15 rfl (lv_at hl 1 rfl) ?_
        refine lv_iload_n hx hb dX8_copies_16 rfl (lv_at hl 2 rfl) ?_
        refine lv_iload hx hb dX8_copies_17 (lv_at hl 0 rfl) ?_
        refine g_iadd hx hb dX8_copies_19 ?_
        refine g_iald (x := f 0 ((a0) + (i_1))) hx hb hK hP 1 rfl (by omega) (by decide) rfl dX8_copies_20 ?_
        refine g_iast (ws' := mw cA A (x) (va_up (f) 1 (upd (fb_put (f 1) (fun k => f 0 (a0 + k)) on i_1) ((on) + (i_1)) (f 0 ((a0) + (i_1)))))) hx hb hK hP hD hS 2 rfl (by omega) (by decide) rfl dX8_copies_21 (fun H locs hP hD hS => ?_)
        refine lv_iinc (v := nI (i_1 + 1)) (lv' := [(4, .int (nI (i_1 + 1))), (0, .ref (A 1)), (1, .int (nI (a0))), (2, .ref (A 2)), (3, .int (nI (on)))]) hx hb dX8_copies_22 hl (k := 0) rfl (inc_1 _) (by decide) rfl (fun ls hl => ?_)
        refine lv_goto (tgt := 3) hx hb dX8_copies_25 (by decide) ?_
        exact ih_6 (i_1 + 1) _ (upd (fb_put (f 1) (fun k => f 0 (a0 + k)) on i_1) ((on) + (i_1)) (f 0 ((a0) + (i_1)))) H locs (by omega) (by omega) rfl (fb_put_succ (f 1) (fun k => f 0 (a0 + k)) on i_1)  hP hS ls (lv_sub hl [0, 1, 2, 3, 4] rfl)
  exact LP_5 (124 + 1) 0 _ (f 1) s.heap [] (by omega) (by omega) rfl (fb_put_0 _ _ _).symm  hP hS ls (lv_sub hl [0, 1, 2, 3, 4] rfl)

set_option maxHeartbeats 1000000 in
set_option maxRecDepth 100000 in
theorem c_X8_copies_31 (l : Launch) (D : va_G) (cA : Nat → ClassId) (A : Nat → Nat) (x : Nat → Int32) (f : Nat → Nat → Int32) (a0 on : Nat) (hA : mInj A) (ha : a0 + 124 ≤ 124) (ho : on + 124 ≤ 992) : Met l yX8_copies (gw yX8_copies cX8_copies 5 none) ({ frames := 0, cells := 0, slots := 0, locals := 0 } : Room) (gPc [.ref (A 4), .int (nI (a0)), .ref (A 2), .int (nI (on))] (fun H => va_P D vwCl (mw cA A x f) H) D cA) (wrV (fun H => va_P D vwCl (mw cA A (x) (va_up f 1 (fb_put (f 1) (fun k => f 3 (a0 + k)) on 124))) H) (MA A)) 0 0 (MA A) := by
  refine gOf (by decide) (Nat.le_of_ble_eq_true rfl) ?_
  intro p e s m below meth c ls hx hb hml hr hlk hown hts hnm hP hK hl
  have hl : lv_has ls 5 [(0, .ref (A 4)), (1, .int (nI (a0))), (2, .ref (A 2)), (3, .int (nI (on)))] := hl
  have hD : va_D (MA A) (mw cA A x f) := mD hA
  have hS : va_S (MA A) s.heap s.heap [] := va_S.rf
  refine lv_iconst (v := nI (0)) hx hb dX8_copies_0 gc_0 ?_
  refine lv_istore (lv' := [(4, .int (nI (0))), (0, .ref (A 4)), (1, .int (nI (a0))), (2, .ref (A 2)), (3, .int (nI (on)))]) hx hb dX8_copies_1 hl (by decide) rfl (fun ls hl => ?_)
  have LP_5 : ∀ (n_2 i_1 : Nat) (x_3 : Int32) (F_4 : Nat → Int32) (H : Heap) (locs : List Loc), i_1 ≤ 124 → 124 + 1 ≤ i_1 + n_2 → x_3 = nI (i_1) → F_4 = fb_put (f 1) (fun k => f 3 (a0 + k)) on i_1 → va_P D vwCl (mw cA A (x) (va_up (f) 1 (F_4))) H → va_S (MA A) s.heap H locs → ∀ (ls : Array Slot), lv_has ls 5 [(4, .int (x_3)), (0, .ref (A 4)), (1, .int (nI (a0))), (2, .ref (A 2)), (3, .int (nI (on)))] → W p l e ({ frames := 0, cells := 0, slots := 0, locals := 0 } : Room) s m ([.ref (A 4), .int (nI (a0)), .ref (A 2), .int (nI (on))] : List Value).toArray below meth c H locs 0 0 (MQ below (wrV (fun H => va_P D vwCl (mw cA A (x) (va_up f 1 (fb_put (f 1) (fun k => f 3 (a0 + k)) on 124))) H) (MA A)) ([.ref (A 4), .int (nI (a0)), .ref (A 2), .int (nI (on))] : List Value).toArray s 0 0 (MA A)) (F0 m 3 ls []) := by
    intro n_2
    induction n_2 with
    | zero => intro i_1 x_3 F_4 H locs h1 h2; exact absurd h2 (by omega)
    | succ n_2 ih_6 =>
      intro i_1 x_3 F_4 H locs h_7 h_8 e_9 e_10  hP hS ls hl
      subst e_9
      subst e_10
      have hD : va_D (MA A) (mw cA A (x) (va_up (f) 1 (fb_put (f 1) (fun k => f 3 (a0 + k)) on i_1))) := mD hA
      refine lv_iload hx hb dX8_copies_3 (lv_at hl 0 rfl) ?_
      refine lv_bipush (v := nI (124)) hx hb dX8_copies_5 gb_124 ?_
      refine g_icmp_ge (P := 124 ≤ i_1) (tgt := 28) hx hb dX8_copies_7 (by decide) (nI_leI (by omega) (by omega)) (fun c_11 => ?_) (fun c_11 => ?_)
      · have d_11 : ¬ i_1 < 124 := Nat.not_lt.mpr c_11
        have hN_12 : 124 = i_1 := by omega
        subst hN_12
        exact g_vretW hx hb hr hlk hS dX8_copies_28 (hP)
      · have d_11 : i_1 < 124 := Nat.not_le.mp c_11
        refine lv_aload_n hx hb dX8_copies_10 rfl (lv_at hl 3 rfl) ?_
        refine lv_iload_n hx hb dX8_copies_11 rfl (lv_at hl 4 rfl) ?_
        refine lv_iload hx hb dX8_copies_12 (lv_at hl 0 rfl) ?_
        refine g_iadd hx hb dX8_copies_14 ?_
        refine lv_aload_n hx hb dX8_copies_15 rfl (lv_at hl 1 rfl) ?_
        refine lv_iload_n hx hb dX8_copies_16 rfl (lv_at hl 2 rfl) ?_
        refine lv_iload hx hb dX8_copies_17 (lv_at hl 0 rfl) ?_
        refine g_iadd hx hb dX8_copies_19 ?_
        refine g_iald (x := f 3 ((a0) + (i_1))) hx hb hK hP 4 rfl (by omega) (by decide) rfl dX8_copies_20 ?_
        refine g_iast (ws' := mw cA A (x) (va_up (f) 1 (upd (fb_put (f 1) (fun k => f 3 (a0 + k)) on i_1) ((on) + (i_1)) (f 3 ((a0) + (i_1)))))) hx hb hK hP hD hS 2 rfl (by omega) (by decide) rfl dX8_copies_21 (fun H locs hP hD hS => ?_)
        refine lv_iinc (v := nI (i_1 + 1)) (lv' := [(4, .int (nI (i_1 + 1))), (0, .ref (A 4)), (1, .int (nI (a0))), (2, .ref (A 2)), (3, .int (nI (on)))]) hx hb dX8_copies_22 hl (k := 0) rfl (inc_1 _) (by decide) rfl (fun ls hl => ?_)
        refine lv_goto (tgt := 3) hx hb dX8_copies_25 (by decide) ?_
        exact ih_6 (i_1 + 1) _ (upd (fb_put (f 1) (fun k => f 3 (a0 + k)) on i_1) ((on) + (i_1)) (f 3 ((a0) + (i_1)))) H locs (by omega) (by omega) rfl (fb_put_succ (f 1) (fun k => f 3 (a0 + k)) on i_1)  hP hS ls (lv_sub hl [0, 1, 2, 3, 4] rfl)
  exact LP_5 (124 + 1) 0 _ (f 1) s.heap [] (by omega) (by omega) rfl (fb_put_0 _ _ _).symm  hP hS ls (lv_sub hl [0, 1, 2, 3, 4] rfl)

set_option maxHeartbeats 1000000 in
set_option maxRecDepth 100000 in
theorem c_X8_copies_03 (l : Launch) (D : va_G) (cA : Nat → ClassId) (A : Nat → Nat) (x : Nat → Int32) (f : Nat → Nat → Int32) (a0 on : Nat) (hA : mInj A) (ha : a0 + 124 ≤ 124) (ho : on + 124 ≤ 124) : Met l yX8_copies (gw yX8_copies cX8_copies 5 none) ({ frames := 0, cells := 0, slots := 0, locals := 0 } : Room) (gPc [.ref (A 1), .int (nI (a0)), .ref (A 4), .int (nI (on))] (fun H => va_P D vwCl (mw cA A x f) H) D cA) (wrV (fun H => va_P D vwCl (mw cA A (x) (va_up f 3 (fb_put (f 3) (fun k => f 0 (a0 + k)) on 124))) H) (MA A)) 0 0 (MA A) := by
  refine gOf (by decide) (Nat.le_of_ble_eq_true rfl) ?_
  intro p e s m below meth c ls hx hb hml hr hlk hown hts hnm hP hK hl
  have hl : lv_has ls 5 [(0, .ref (A 1)), (1, .int (nI (a0))), (2, .ref (A 4)), (3, .int (nI (on)))] := hl
  have hD : va_D (MA A) (mw cA A x f) := mD hA
  have hS : va_S (MA A) s.heap s.heap [] := va_S.rf
  refine lv_iconst (v := nI (0)) hx hb dX8_copies_0 gc_0 ?_
  refine lv_istore (lv' := [(4, .int (nI (0))), (0, .ref (A 1)), (1, .int (nI (a0))), (2, .ref (A 4)), (3, .int (nI (on)))]) hx hb dX8_copies_1 hl (by decide) rfl (fun ls hl => ?_)
  have LP_5 : ∀ (n_2 i_1 : Nat) (x_3 : Int32) (F_4 : Nat → Int32) (H : Heap) (locs : List Loc), i_1 ≤ 124 → 124 + 1 ≤ i_1 + n_2 → x_3 = nI (i_1) → F_4 = fb_put (f 3) (fun k => f 0 (a0 + k)) on i_1 → va_P D vwCl (mw cA A (x) (va_up (f) 3 (F_4))) H → va_S (MA A) s.heap H locs → ∀ (ls : Array Slot), lv_has ls 5 [(4, .int (x_3)), (0, .ref (A 1)), (1, .int (nI (a0))), (2, .ref (A 4)), (3, .int (nI (on)))] → W p l e ({ frames := 0, cells := 0, slots := 0, locals := 0 } : Room) s m ([.ref (A 1), .int (nI (a0)), .ref (A 4), .int (nI (on))] : List Value).toArray below meth c H locs 0 0 (MQ below (wrV (fun H => va_P D vwCl (mw cA A (x) (va_up f 3 (fb_put (f 3) (fun k => f 0 (a0 + k)) on 124))) H) (MA A)) ([.ref (A 1), .int (nI (a0)), .ref (A 4), .int (nI (on))] : List Value).toArray s 0 0 (MA A)) (F0 m 3 ls []) := by
    intro n_2
    induction n_2 with
    | zero => intro i_1 x_3 F_4 H locs h1 h2; exact absurd h2 (by omega)
    | succ n_2 ih_6 =>
      intro i_1 x_3 F_4 H locs h_7 h_8 e_9 e_10  hP hS ls hl
      subst e_9
      subst e_10
      have hD : va_D (MA A) (mw cA A (x) (va_up (f) 3 (fb_put (f 3) (fun k => f 0 (a0 + k)) on i_1))) := mD hA
      refine lv_iload hx hb dX8_copies_3 (lv_at hl 0 rfl) ?_
      refine lv_bipush (v := nI (124)) hx hb dX8_copies_5 gb_124 ?_
      refine g_icmp_ge (P := 124 ≤ i_1) (tgt := 28) hx hb dX8_copies_7 (by decide) (nI_leI (by omega) (by omega)) (fun c_11 => ?_) (fun c_11 => ?_)
      · have d_11 : ¬ i_1 < 124 := Nat.not_lt.mpr c_11
        have hN_12 : 124 = i_1 := by omega
        subst hN_12
        exact g_vretW hx hb hr hlk hS dX8_copies_28 (hP)
      · have d_11 : i_1 < 124 := Nat.not_le.mp c_11
        refine lv_aload_n hx hb dX8_copies_10 rfl (lv_at hl 3 rfl) ?_
        refine lv_iload_n hx hb dX8_copies_11 rfl (lv_at hl 4 rfl) ?_
        refine lv_iload hx hb dX8_copies_12 (lv_at hl 0 rfl) ?_
        refine g_iadd hx hb dX8_copies_14 ?_
        refine lv_aload_n hx hb dX8_copies_15 rfl (lv_at hl 1 rfl) ?_
        refine lv_iload_n hx hb dX8_copies_16 rfl (lv_at hl 2 rfl) ?_
        refine lv_iload hx hb dX8_copies_17 (lv_at hl 0 rfl) ?_
        refine g_iadd hx hb dX8_copies_19 ?_
        refine g_iald (x := f 0 ((a0) + (i_1))) hx hb hK hP 1 rfl (by omega) (by decide) rfl dX8_copies_20 ?_
        refine g_iast (ws' := mw cA A (x) (va_up (f) 3 (upd (fb_put (f 3) (fun k => f 0 (a0 + k)) on i_1) ((on) + (i_1)) (f 0 ((a0) + (i_1)))))) hx hb hK hP hD hS 4 rfl (by omega) (by decide) rfl dX8_copies_21 (fun H locs hP hD hS => ?_)
        refine lv_iinc (v := nI (i_1 + 1)) (lv' := [(4, .int (nI (i_1 + 1))), (0, .ref (A 1)), (1, .int (nI (a0))), (2, .ref (A 4)), (3, .int (nI (on)))]) hx hb dX8_copies_22 hl (k := 0) rfl (inc_1 _) (by decide) rfl (fun ls hl => ?_)
        refine lv_goto (tgt := 3) hx hb dX8_copies_25 (by decide) ?_
        exact ih_6 (i_1 + 1) _ (upd (fb_put (f 3) (fun k => f 0 (a0 + k)) on i_1) ((on) + (i_1)) (f 0 ((a0) + (i_1)))) H locs (by omega) (by omega) rfl (fb_put_succ (f 3) (fun k => f 0 (a0 + k)) on i_1)  hP hS ls (lv_sub hl [0, 1, 2, 3, 4] rfl)
  exact LP_5 (124 + 1) 0 _ (f 3) s.heap [] (by omega) (by omega) rfl (fb_put_0 _ _ _).symm  hP hS ls (lv_sub hl [0, 1, 2, 3, 4] rfl)

set_option maxHeartbeats 1000000 in
set_option maxRecDepth 100000 in
theorem c_X8_copies_30 (l : Launch) (D : va_G) (cA : Nat → ClassId) (A : Nat → Nat) (x : Nat → Int32) (f : Nat → Nat → Int32) (a0 on : Nat) (hA : mInj A) (ha : a0 + 124 ≤ 124) (ho : on + 124 ≤ 124) : Met l yX8_copies (gw yX8_copies cX8_copies 5 none) ({ frames := 0, cells := 0, slots := 0, locals := 0 } : Room) (gPc [.ref (A 4), .int (nI (a0)), .ref (A 1), .int (nI (on))] (fun H => va_P D vwCl (mw cA A x f) H) D cA) (wrV (fun H => va_P D vwCl (mw cA A (x) (va_up f 0 (fb_put (f 0) (fun k => f 3 (a0 + k)) on 124))) H) (MA A)) 0 0 (MA A) := by
  refine gOf (by decide) (Nat.le_of_ble_eq_true rfl) ?_
  intro p e s m below meth c ls hx hb hml hr hlk hown hts hnm hP hK hl
  have hl : lv_has ls 5 [(0, .ref (A 4)), (1, .int (nI (a0))), (2, .ref (A 1)), (3, .int (nI (on)))] := hl
  have hD : va_D (MA A) (mw cA A x f) := mD hA
  have hS : va_S (MA A) s.heap s.heap [] := va_S.rf
  refine lv_iconst (v := nI (0)) hx hb dX8_copies_0 gc_0 ?_
  refine lv_istore (lv' := [(4, .int (nI (0))), (0, .ref (A 4)), (1, .int (nI (a0))), (2, .ref (A 1)), (3, .int (nI (on)))]) hx hb dX8_copies_1 hl (by decide) rfl (fun ls hl => ?_)
  have LP_5 : ∀ (n_2 i_1 : Nat) (x_3 : Int32) (F_4 : Nat → Int32) (H : Heap) (locs : List Loc), i_1 ≤ 124 → 124 + 1 ≤ i_1 + n_2 → x_3 = nI (i_1) → F_4 = fb_put (f 0) (fun k => f 3 (a0 + k)) on i_1 → va_P D vwCl (mw cA A (x) (va_up (f) 0 (F_4))) H → va_S (MA A) s.heap H locs → ∀ (ls : Array Slot), lv_has ls 5 [(4, .int (x_3)), (0, .ref (A 4)), (1, .int (nI (a0))), (2, .ref (A 1)), (3, .int (nI (on)))] → W p l e ({ frames := 0, cells := 0, slots := 0, locals := 0 } : Room) s m ([.ref (A 4), .int (nI (a0)), .ref (A 1), .int (nI (on))] : List Value).toArray below meth c H locs 0 0 (MQ below (wrV (fun H => va_P D vwCl (mw cA A (x) (va_up f 0 (fb_put (f 0) (fun k => f 3 (a0 + k)) on 124))) H) (MA A)) ([.ref (A 4), .int (nI (a0)), .ref (A 1), .int (nI (on))] : List Value).toArray s 0 0 (MA A)) (F0 m 3 ls []) := by
    intro n_2
    induction n_2 with
    | zero => intro i_1 x_3 F_4 H locs h1 h2; exact absurd h2 (by omega)
    | succ n_2 ih_6 =>
      intro i_1 x_3 F_4 H locs h_7 h_8 e_9 e_10  hP hS ls hl
      subst e_9
      subst e_10
      have hD : va_D (MA A) (mw cA A (x) (va_up (f) 0 (fb_put (f 0) (fun k => f 3 (a0 + k)) on i_1))) := mD hA
      refine lv_iload hx hb dX8_copies_3 (lv_at hl 0 rfl) ?_
      refine lv_bipush (v := nI (124)) hx hb dX8_copies_5 gb_124 ?_
      refine g_icmp_ge (P := 124 ≤ i_1) (tgt := 28) hx hb dX8_copies_7 (by decide) (nI_leI (by omega) (by omega)) (fun c_11 => ?_) (fun c_11 => ?_)
      · have d_11 : ¬ i_1 < 124 := Nat.not_lt.mpr c_11
        have hN_12 : 124 = i_1 := by omega
        subst hN_12
        exact g_vretW hx hb hr hlk hS dX8_copies_28 (hP)
      · have d_11 : i_1 < 124 := Nat.not_le.mp c_11
        refine lv_aload_n hx hb dX8_copies_10 rfl (lv_at hl 3 rfl) ?_
        refine lv_iload_n hx hb dX8_copies_11 rfl (lv_at hl 4 rfl) ?_
        refine lv_iload hx hb dX8_copies_12 (lv_at hl 0 rfl) ?_
        refine g_iadd hx hb dX8_copies_14 ?_
        refine lv_aload_n hx hb dX8_copies_15 rfl (lv_at hl 1 rfl) ?_
        refine lv_iload_n hx hb dX8_copies_16 rfl (lv_at hl 2 rfl) ?_
        refine lv_iload hx hb dX8_copies_17 (lv_at hl 0 rfl) ?_
        refine g_iadd hx hb dX8_copies_19 ?_
        refine g_iald (x := f 3 ((a0) + (i_1))) hx hb hK hP 4 rfl (by omega) (by decide) rfl dX8_copies_20 ?_
        refine g_iast (ws' := mw cA A (x) (va_up (f) 0 (upd (fb_put (f 0) (fun k => f 3 (a0 + k)) on i_1) ((on) + (i_1)) (f 3 ((a0) + (i_1)))))) hx hb hK hP hD hS 1 rfl (by omega) (by decide) rfl dX8_copies_21 (fun H locs hP hD hS => ?_)
        refine lv_iinc (v := nI (i_1 + 1)) (lv' := [(4, .int (nI (i_1 + 1))), (0, .ref (A 4)), (1, .int (nI (a0))), (2, .ref (A 1)), (3, .int (nI (on)))]) hx hb dX8_copies_22 hl (k := 0) rfl (inc_1 _) (by decide) rfl (fun ls hl => ?_)
        refine lv_goto (tgt := 3) hx hb dX8_copies_25 (by decide) ?_
        exact ih_6 (i_1 + 1) _ (upd (fb_put (f 0) (fun k => f 3 (a0 + k)) on i_1) ((on) + (i_1)) (f 3 ((a0) + (i_1)))) H locs (by omega) (by omega) rfl (fb_put_succ (f 0) (fun k => f 3 (a0 + k)) on i_1)  hP hS ls (lv_sub hl [0, 1, 2, 3, 4] rfl)
  exact LP_5 (124 + 1) 0 _ (f 0) s.heap [] (by omega) (by omega) rfl (fb_put_0 _ _ _).symm  hP hS ls (lv_sub hl [0, 1, 2, 3, 4] rfl)

set_option maxHeartbeats 1000000 in
set_option maxRecDepth 100000 in
theorem c_X8_copies_10 (l : Launch) (D : va_G) (cA : Nat → ClassId) (A : Nat → Nat) (x : Nat → Int32) (f : Nat → Nat → Int32) (a0 on : Nat) (hA : mInj A) (ha : a0 + 124 ≤ 992) (ho : on + 124 ≤ 124) : Met l yX8_copies (gw yX8_copies cX8_copies 5 none) ({ frames := 0, cells := 0, slots := 0, locals := 0 } : Room) (gPc [.ref (A 2), .int (nI (a0)), .ref (A 1), .int (nI (on))] (fun H => va_P D vwCl (mw cA A x f) H) D cA) (wrV (fun H => va_P D vwCl (mw cA A (x) (va_up f 0 (fb_put (f 0) (fun k => f 1 (a0 + k)) on 124))) H) (MA A)) 0 0 (MA A) := by
  refine gOf (by decide) (Nat.le_of_ble_eq_true rfl) ?_
  intro p e s m below meth c ls hx hb hml hr hlk hown hts hnm hP hK hl
  have hl : lv_has ls 5 [(0, .ref (A 2)), (1, .int (nI (a0))), (2, .ref (A 1)), (3, .int (nI (on)))] := hl
  have hD : va_D (MA A) (mw cA A x f) := mD hA
  have hS : va_S (MA A) s.heap s.heap [] := va_S.rf
  refine lv_iconst (v := nI (0)) hx hb dX8_copies_0 gc_0 ?_
  refine lv_istore (lv' := [(4, .int (nI (0))), (0, .ref (A 2)), (1, .int (nI (a0))), (2, .ref (A 1)), (3, .int (nI (on)))]) hx hb dX8_copies_1 hl (by decide) rfl (fun ls hl => ?_)
  have LP_5 : ∀ (n_2 i_1 : Nat) (x_3 : Int32) (F_4 : Nat → Int32) (H : Heap) (locs : List Loc), i_1 ≤ 124 → 124 + 1 ≤ i_1 + n_2 → x_3 = nI (i_1) → F_4 = fb_put (f 0) (fun k => f 1 (a0 + k)) on i_1 → va_P D vwCl (mw cA A (x) (va_up (f) 0 (F_4))) H → va_S (MA A) s.heap H locs → ∀ (ls : Array Slot), lv_has ls 5 [(4, .int (x_3)), (0, .ref (A 2)), (1, .int (nI (a0))), (2, .ref (A 1)), (3, .int (nI (on)))] → W p l e ({ frames := 0, cells := 0, slots := 0, locals := 0 } : Room) s m ([.ref (A 2), .int (nI (a0)), .ref (A 1), .int (nI (on))] : List Value).toArray below meth c H locs 0 0 (MQ below (wrV (fun H => va_P D vwCl (mw cA A (x) (va_up f 0 (fb_put (f 0) (fun k => f 1 (a0 + k)) on 124))) H) (MA A)) ([.ref (A 2), .int (nI (a0)), .ref (A 1), .int (nI (on))] : List Value).toArray s 0 0 (MA A)) (F0 m 3 ls []) := by
    intro n_2
    induction n_2 with
    | zero => intro i_1 x_3 F_4 H locs h1 h2; exact absurd h2 (by omega)
    | succ n_2 ih_6 =>
      intro i_1 x_3 F_4 H locs h_7 h_8 e_9 e_10  hP hS ls hl
      subst e_9
      subst e_10
      have hD : va_D (MA A) (mw cA A (x) (va_up (f) 0 (fb_put (f 0) (fun k => f 1 (a0 + k)) on i_1))) := mD hA
      refine lv_iload hx hb dX8_copies_3 (lv_at hl 0 rfl) ?_
      refine lv_bipush (v := nI (124)) hx hb dX8_copies_5 gb_124 ?_
      refine g_icmp_ge (P := 124 ≤ i_1) (tgt := 28) hx hb dX8_copies_7 (by decide) (nI_leI (by omega) (by omega)) (fun c_11 => ?_) (fun c_11 => ?_)
      · have d_11 : ¬ i_1 < 124 := Nat.not_lt.mpr c_11
        have hN_12 : 124 = i_1 := by omega
        subst hN_12
        exact g_vretW hx hb hr hlk hS dX8_copies_28 (hP)
      · have d_11 : i_1 < 124 := Nat.not_le.mp c_11
        refine lv_aload_n hx hb dX8_copies_10 rfl (lv_at hl 3 rfl) ?_
        refine lv_iload_n hx hb dX8_copies_11 rfl (lv_at hl 4 rfl) ?_
        refine lv_iload hx hb dX8_copies_12 (lv_at hl 0 rfl) ?_
        refine g_iadd hx hb dX8_copies_14 ?_
        refine lv_aload_n hx hb dX8_copies_15 rfl (lv_at hl 1 rfl) ?_
        refine lv_iload_n hx hb dX8_copies_16 rfl (lv_at hl 2 rfl) ?_
        refine lv_iload hx hb dX8_copies_17 (lv_at hl 0 rfl) ?_
        refine g_iadd hx hb dX8_copies_19 ?_
        refine g_iald (x := f 1 ((a0) + (i_1))) hx hb hK hP 2 rfl (by omega) (by decide) rfl dX8_copies_20 ?_
        refine g_iast (ws' := mw cA A (x) (va_up (f) 0 (upd (fb_put (f 0) (fun k => f 1 (a0 + k)) on i_1) ((on) + (i_1)) (f 1 ((a0) + (i_1)))))) hx hb hK hP hD hS 1 rfl (by omega) (by decide) rfl dX8_copies_21 (fun H locs hP hD hS => ?_)
        refine lv_iinc (v := nI (i_1 + 1)) (lv' := [(4, .int (nI (i_1 + 1))), (0, .ref (A 2)), (1, .int (nI (a0))), (2, .ref (A 1)), (3, .int (nI (on)))]) hx hb dX8_copies_22 hl (k := 0) rfl (inc_1 _) (by decide) rfl (fun ls hl => ?_)
        refine lv_goto (tgt := 3) hx hb dX8_copies_25 (by decide) ?_
        exact ih_6 (i_1 + 1) _ (upd (fb_put (f 0) (fun k => f 1 (a0 + k)) on i_1) ((on) + (i_1)) (f 1 ((a0) + (i_1)))) H locs (by omega) (by omega) rfl (fb_put_succ (f 0) (fun k => f 1 (a0 + k)) on i_1)  hP hS ls (lv_sub hl [0, 1, 2, 3, 4] rfl)
  exact LP_5 (124 + 1) 0 _ (f 0) s.heap [] (by omega) (by omega) rfl (fb_put_0 _ _ _).symm  hP hS ls (lv_sub hl [0, 1, 2, 3, 4] rfl)

set_option maxHeartbeats 1000000 in
set_option maxRecDepth 100000 in
theorem c_X8_copies_02 (l : Launch) (D : va_G) (cA : Nat → ClassId) (A : Nat → Nat) (x : Nat → Int32) (f : Nat → Nat → Int32) (a0 on : Nat) (hA : mInj A) (ha : a0 + 124 ≤ 124) (ho : on + 124 ≤ 124) : Met l yX8_copies (gw yX8_copies cX8_copies 5 none) ({ frames := 0, cells := 0, slots := 0, locals := 0 } : Room) (gPc [.ref (A 1), .int (nI (a0)), .ref (A 3), .int (nI (on))] (fun H => va_P D vwCl (mw cA A x f) H) D cA) (wrV (fun H => va_P D vwCl (mw cA A (x) (va_up f 2 (fb_put (f 2) (fun k => f 0 (a0 + k)) on 124))) H) (MA A)) 0 0 (MA A) := by
  refine gOf (by decide) (Nat.le_of_ble_eq_true rfl) ?_
  intro p e s m below meth c ls hx hb hml hr hlk hown hts hnm hP hK hl
  have hl : lv_has ls 5 [(0, .ref (A 1)), (1, .int (nI (a0))), (2, .ref (A 3)), (3, .int (nI (on)))] := hl
  have hD : va_D (MA A) (mw cA A x f) := mD hA
  have hS : va_S (MA A) s.heap s.heap [] := va_S.rf
  refine lv_iconst (v := nI (0)) hx hb dX8_copies_0 gc_0 ?_
  refine lv_istore (lv' := [(4, .int (nI (0))), (0, .ref (A 1)), (1, .int (nI (a0))), (2, .ref (A 3)), (3, .int (nI (on)))]) hx hb dX8_copies_1 hl (by decide) rfl (fun ls hl => ?_)
  have LP_5 : ∀ (n_2 i_1 : Nat) (x_3 : Int32) (F_4 : Nat → Int32) (H : Heap) (locs : List Loc), i_1 ≤ 124 → 124 + 1 ≤ i_1 + n_2 → x_3 = nI (i_1) → F_4 = fb_put (f 2) (fun k => f 0 (a0 + k)) on i_1 → va_P D vwCl (mw cA A (x) (va_up (f) 2 (F_4))) H → va_S (MA A) s.heap H locs → ∀ (ls : Array Slot), lv_has ls 5 [(4, .int (x_3)), (0, .ref (A 1)), (1, .int (nI (a0))), (2, .ref (A 3)), (3, .int (nI (on)))] → W p l e ({ frames := 0, cells := 0, slots := 0, locals := 0 } : Room) s m ([.ref (A 1), .int (nI (a0)), .ref (A 3), .int (nI (on))] : List Value).toArray below meth c H locs 0 0 (MQ below (wrV (fun H => va_P D vwCl (mw cA A (x) (va_up f 2 (fb_put (f 2) (fun k => f 0 (a0 + k)) on 124))) H) (MA A)) ([.ref (A 1), .int (nI (a0)), .ref (A 3), .int (nI (on))] : List Value).toArray s 0 0 (MA A)) (F0 m 3 ls []) := by
    intro n_2
    induction n_2 with
    | zero => intro i_1 x_3 F_4 H locs h1 h2; exact absurd h2 (by omega)
    | succ n_2 ih_6 =>
      intro i_1 x_3 F_4 H locs h_7 h_8 e_9 e_10  hP hS ls hl
      subst e_9
      subst e_10
      have hD : va_D (MA A) (mw cA A (x) (va_up (f) 2 (fb_put (f 2) (fun k => f 0 (a0 + k)) on i_1))) := mD hA
      refine lv_iload hx hb dX8_copies_3 (lv_at hl 0 rfl) ?_
      refine lv_bipush (v := nI (124)) hx hb dX8_copies_5 gb_124 ?_
      refine g_icmp_ge (P := 124 ≤ i_1) (tgt := 28) hx hb dX8_copies_7 (by decide) (nI_leI (by omega) (by omega)) (fun c_11 => ?_) (fun c_11 => ?_)
      · have d_11 : ¬ i_1 < 124 := Nat.not_lt.mpr c_11
        have hN_12 : 124 = i_1 := by omega
        subst hN_12
        exact g_vretW hx hb hr hlk hS dX8_copies_28 (hP)
      · have d_11 : i_1 < 124 := Nat.not_le.mp c_11
        refine lv_aload_n hx hb dX8_copies_10 rfl (lv_at hl 3 rfl) ?_
        refine lv_iload_n hx hb dX8_copies_11 rfl (lv_at hl 4 rfl) ?_
        refine lv_iload hx hb dX8_copies_12 (lv_at hl 0 rfl) ?_
        refine g_iadd hx hb dX8_copies_14 ?_
        refine lv_aload_n hx hb dX8_copies_15 rfl (lv_at hl 1 rfl) ?_
        refine lv_iload_n hx hb dX8_copies_16 rfl (lv_at hl 2 rfl) ?_
        refine lv_iload hx hb dX8_copies_17 (lv_at hl 0 rfl) ?_
        refine g_iadd hx hb dX8_copies_19 ?_
        refine g_iald (x := f 0 ((a0) + (i_1))) hx hb hK hP 1 rfl (by omega) (by decide) rfl dX8_copies_20 ?_
        refine g_iast (ws' := mw cA A (x) (va_up (f) 2 (upd (fb_put (f 2) (fun k => f 0 (a0 + k)) on i_1) ((on) + (i_1)) (f 0 ((a0) + (i_1)))))) hx hb hK hP hD hS 3 rfl (by omega) (by decide) rfl dX8_copies_21 (fun H locs hP hD hS => ?_)
        refine lv_iinc (v := nI (i_1 + 1)) (lv' := [(4, .int (nI (i_1 + 1))), (0, .ref (A 1)), (1, .int (nI (a0))), (2, .ref (A 3)), (3, .int (nI (on)))]) hx hb dX8_copies_22 hl (k := 0) rfl (inc_1 _) (by decide) rfl (fun ls hl => ?_)
        refine lv_goto (tgt := 3) hx hb dX8_copies_25 (by decide) ?_
        exact ih_6 (i_1 + 1) _ (upd (fb_put (f 2) (fun k => f 0 (a0 + k)) on i_1) ((on) + (i_1)) (f 0 ((a0) + (i_1)))) H locs (by omega) (by omega) rfl (fb_put_succ (f 2) (fun k => f 0 (a0 + k)) on i_1)  hP hS ls (lv_sub hl [0, 1, 2, 3, 4] rfl)
  exact LP_5 (124 + 1) 0 _ (f 2) s.heap [] (by omega) (by omega) rfl (fb_put_0 _ _ _).symm  hP hS ls (lv_sub hl [0, 1, 2, 3, 4] rfl)

set_option maxHeartbeats 1000000 in
set_option maxRecDepth 100000 in
theorem c_X8_copies_20 (l : Launch) (D : va_G) (cA : Nat → ClassId) (A : Nat → Nat) (x : Nat → Int32) (f : Nat → Nat → Int32) (a0 on : Nat) (hA : mInj A) (ha : a0 + 124 ≤ 124) (ho : on + 124 ≤ 124) : Met l yX8_copies (gw yX8_copies cX8_copies 5 none) ({ frames := 0, cells := 0, slots := 0, locals := 0 } : Room) (gPc [.ref (A 3), .int (nI (a0)), .ref (A 1), .int (nI (on))] (fun H => va_P D vwCl (mw cA A x f) H) D cA) (wrV (fun H => va_P D vwCl (mw cA A (x) (va_up f 0 (fb_put (f 0) (fun k => f 2 (a0 + k)) on 124))) H) (MA A)) 0 0 (MA A) := by
  refine gOf (by decide) (Nat.le_of_ble_eq_true rfl) ?_
  intro p e s m below meth c ls hx hb hml hr hlk hown hts hnm hP hK hl
  have hl : lv_has ls 5 [(0, .ref (A 3)), (1, .int (nI (a0))), (2, .ref (A 1)), (3, .int (nI (on)))] := hl
  have hD : va_D (MA A) (mw cA A x f) := mD hA
  have hS : va_S (MA A) s.heap s.heap [] := va_S.rf
  refine lv_iconst (v := nI (0)) hx hb dX8_copies_0 gc_0 ?_
  refine lv_istore (lv' := [(4, .int (nI (0))), (0, .ref (A 3)), (1, .int (nI (a0))), (2, .ref (A 1)), (3, .int (nI (on)))]) hx hb dX8_copies_1 hl (by decide) rfl (fun ls hl => ?_)
  have LP_5 : ∀ (n_2 i_1 : Nat) (x_3 : Int32) (F_4 : Nat → Int32) (H : Heap) (locs : List Loc), i_1 ≤ 124 → 124 + 1 ≤ i_1 + n_2 → x_3 = nI (i_1) → F_4 = fb_put (f 0) (fun k => f 2 (a0 + k)) on i_1 → va_P D vwCl (mw cA A (x) (va_up (f) 0 (F_4))) H → va_S (MA A) s.heap H locs → ∀ (ls : Array Slot), lv_has ls 5 [(4, .int (x_3)), (0, .ref (A 3)), (1, .int (nI (a0))), (2, .ref (A 1)), (3, .int (nI (on)))] → W p l e ({ frames := 0, cells := 0, slots := 0, locals := 0 } : Room) s m ([.ref (A 3), .int (nI (a0)), .ref (A 1), .int (nI (on))] : List Value).toArray below meth c H locs 0 0 (MQ below (wrV (fun H => va_P D vwCl (mw cA A (x) (va_up f 0 (fb_put (f 0) (fun k => f 2 (a0 + k)) on 124))) H) (MA A)) ([.ref (A 3), .int (nI (a0)), .ref (A 1), .int (nI (on))] : List Value).toArray s 0 0 (MA A)) (F0 m 3 ls []) := by
    intro n_2
    induction n_2 with
    | zero => intro i_1 x_3 F_4 H locs h1 h2; exact absurd h2 (by omega)
    | succ n_2 ih_6 =>
      intro i_1 x_3 F_4 H locs h_7 h_8 e_9 e_10  hP hS ls hl
      subst e_9
      subst e_10
      have hD : va_D (MA A) (mw cA A (x) (va_up (f) 0 (fb_put (f 0) (fun k => f 2 (a0 + k)) on i_1))) := mD hA
      refine lv_iload hx hb dX8_copies_3 (lv_at hl 0 rfl) ?_
      refine lv_bipush (v := nI (124)) hx hb dX8_copies_5 gb_124 ?_
      refine g_icmp_ge (P := 124 ≤ i_1) (tgt := 28) hx hb dX8_copies_7 (by decide) (nI_leI (by omega) (by omega)) (fun c_11 => ?_) (fun c_11 => ?_)
      · have d_11 : ¬ i_1 < 124 := Nat.not_lt.mpr c_11
        have hN_12 : 124 = i_1 := by omega
        subst hN_12
        exact g_vretW hx hb hr hlk hS dX8_copies_28 (hP)
      · have d_11 : i_1 < 124 := Nat.not_le.mp c_11
        refine lv_aload_n hx hb dX8_copies_10 rfl (lv_at hl 3 rfl) ?_
        refine lv_iload_n hx hb dX8_copies_11 rfl (lv_at hl 4 rfl) ?_
        refine lv_iload hx hb dX8_copies_12 (lv_at hl 0 rfl) ?_
        refine g_iadd hx hb dX8_copies_14 ?_
        refine lv_aload_n hx hb dX8_copies_15 rfl (lv_at hl 1 rfl) ?_
        refine lv_iload_n hx hb dX8_copies_16 rfl (lv_at hl 2 rfl) ?_
        refine lv_iload hx hb dX8_copies_17 (lv_at hl 0 rfl) ?_
        refine g_iadd hx hb dX8_copies_19 ?_
        refine g_iald (x := f 2 ((a0) + (i_1))) hx hb hK hP 3 rfl (by omega) (by decide) rfl dX8_copies_20 ?_
        refine g_iast (ws' := mw cA A (x) (va_up (f) 0 (upd (fb_put (f 0) (fun k => f 2 (a0 + k)) on i_1) ((on) + (i_1)) (f 2 ((a0) + (i_1)))))) hx hb hK hP hD hS 1 rfl (by omega) (by decide) rfl dX8_copies_21 (fun H locs hP hD hS => ?_)
        refine lv_iinc (v := nI (i_1 + 1)) (lv' := [(4, .int (nI (i_1 + 1))), (0, .ref (A 3)), (1, .int (nI (a0))), (2, .ref (A 1)), (3, .int (nI (on)))]) hx hb dX8_copies_22 hl (k := 0) rfl (inc_1 _) (by decide) rfl (fun ls hl => ?_)
        refine lv_goto (tgt := 3) hx hb dX8_copies_25 (by decide) ?_
        exact ih_6 (i_1 + 1) _ (upd (fb_put (f 0) (fun k => f 2 (a0 + k)) on i_1) ((on) + (i_1)) (f 2 ((a0) + (i_1)))) H locs (by omega) (by omega) rfl (fb_put_succ (f 0) (fun k => f 2 (a0 + k)) on i_1)  hP hS ls (lv_sub hl [0, 1, 2, 3, 4] rfl)
  exact LP_5 (124 + 1) 0 _ (f 0) s.heap [] (by omega) (by omega) rfl (fb_put_0 _ _ _).symm  hP hS ls (lv_sub hl [0, 1, 2, 3, 4] rfl)

def shS (k0 : Nat → Int32) : Nat → (Nat → Int32)
  | 0 => k0
  | n + 1 => upd (shS k0 n) n (shS k0 n (n + 124))
def kpC (w : Bool) (ch : Nat) : Nat := if w = true then ch else if ch = 8 then 8 else ch + 1
def kpK (w : Bool) (row kept : Nat → Int32) (ch : Nat) : Nat → Int32 := if w = true then kept else if ch = 8 then fb_put (shS kept 868) (fun k => row (0 + k)) (124 * 7) 124 else fb_put kept (fun k => row (0 + k)) (124 * ch) 124
theorem upd_id {x : Nat → Int32} {k : Nat} {v : Int32} (h : x k = v) : upd x k v = x := by
  funext j
  by_cases e : j = k
  · subst e; rw [pk_us, h]
  · rw [pk_un e]
theorem vup_id {f : Nat → Nat → Int32} {k : Nat} {v : Nat → Int32} (h : f k = v) : va_up f k v = f := by
  funext j
  by_cases e : j = k
  · subst e; simp [va_up, h]
  · simp [va_up, e]

set_option maxHeartbeats 1000000 in
set_option maxRecDepth 100000 in
theorem c_X8_keeps_0 (l : Launch) (D : va_G) (cA : Nat → ClassId) (A : Nat → Nat) (x : Nat → Int32) (f : Nat → Nat → Int32) (w : Bool) (ch : Nat) (hA : mInj A) (hw : x 2 = b2i w) (hch : x 1 = nI ch) (hc8 : ch ≤ 8) : Met l yX8_keeps (gw yX8_keeps cX8_keeps 3 none) ({ frames := 1, cells := 0, slots := 0, locals := 24 } : Room) (gPc [.ref (A 0), .ref (A 1)] (fun H => va_P D vwCl (mw cA A x f) H) D cA) (wrV (fun H => va_P D vwCl (mw cA A (upd (upd x 1 (nI (kpC w ch))) 4 (nI 0)) (va_up f 1 (kpK w (f 0) (f 1) ch))) H) (MA A)) 0 0 (MA A) := by
  refine gOf (by decide) (Nat.le_of_ble_eq_true rfl) ?_
  intro p e s m below meth c ls hx hb hml hr hlk hown hts hnm hP hK hl
  have hl : lv_has ls 3 [(0, .ref (A 0)), (1, .ref (A 1))] := hl
  have hD : va_D (MA A) (mw cA A x f) := mD hA
  have hS : va_S (MA A) s.heap s.heap [] := va_S.rf
  refine lv_aload_n hx hb dX8_keeps_0 rfl (lv_at hl 0 rfl) ?_
  refine lv_iconst (v := nI (0)) hx hb dX8_keeps_1 gc_0 ?_
  refine g_put (ws' := mw cA A (upd (x) 4 (nI (0))) (f)) hx hb hts hown hK hP hD hS 0 rfl rfl gu_wsX80 tyX8_ok nmX8 8 (by decide) gm_9_3 rfl rfl rfl (Nat.le_of_ble_eq_true rfl) rfl dX8_keeps_2 (fun H locs hP hD hS => ?_)
  refine lv_aload_n hx hb dX8_keeps_5 rfl (lv_at hl 0 rfl) ?_
  refine g_get (v := .int (x 2)) hx hb hts hown hK hP 0 rfl rfl gu_wsX80 6 (by decide) gm_9_15 rfl dX8_keeps_6 ?_
  refine g_top hw ?_
  refine g_if_eq (P := w = false) (tgt := 13) hx hb dX8_keeps_9 (by decide) b2i_0 (fun c_1 => ?_) (fun c_1 => ?_)
  · refine lv_aload_n hx hb dX8_keeps_13 rfl (lv_at hl 0 rfl) ?_
    refine g_get (v := .int (x 1)) hx hb hts hown hK hP 0 rfl rfl gu_wsX80 5 (by decide) gm_9_16 rfl dX8_keeps_14 ?_
    refine g_top hch ?_
    refine lv_bipush (v := nI (8)) hx hb dX8_keeps_17 gb_8 ?_
    refine g_icmp_ne (P := ch = 8) (tgt := 62) hx hb dX8_keeps_19 (by decide) (nI_eq (by omega) (by omega)) (fun c_2 => ?_) (fun c_2 => ?_)
    · refine lv_aload_n hx hb dX8_keeps_62 rfl (lv_at hl 1 rfl) ?_
      refine lv_iconst (v := nI (0)) hx hb dX8_keeps_63 gc_0 ?_
      refine lv_aload_n hx hb dX8_keeps_64 rfl (lv_at hl 0 rfl) ?_
      refine g_get (v := .ref (A 2)) hx hb hts hown hK hP 0 rfl rfl gu_wsX80 1 (by decide) gm_5_15 rfl dX8_keeps_65 ?_
      refine lv_bipush (v := nI (124)) hx hb dX8_keeps_68 gb_124 ?_
      refine lv_aload_n hx hb dX8_keeps_70 rfl (lv_at hl 0 rfl) ?_
      refine g_get (v := .int (x 1)) hx hb hts hown hK hP 0 rfl rfl gu_wsX80 5 (by decide) gm_9_16 rfl dX8_keeps_71 ?_
      refine g_top hch ?_
      refine g_imul hx hb dX8_keeps_74 ?_
      refine wr_callv (va_runS (As := [.ref (A 1), .int (nI (0)), .ref (A 2), .int (nI (124 * ch))]) (rest := []) ⟨hx, hb, hml, hown, hts⟩ (c_X8_copies_01 l D cA A (upd (x) 4 (nI (0))) (f) (0) (124 * ch) hA (by omega) (by omega)) (cwS 4 hts (gWS gm_9_17 gm_9_18 gm_1_5 gm_9_19) rfl rfl rfl (by decide +kernel) ⟨Nat.le_of_ble_eq_true rfl, Nat.le_of_ble_eq_true rfl⟩) (gPreS hK hP) rfl rfl hl.1 rfl (lv_room (Nat.le_of_ble_eq_true rfl)) dX8_keeps_75 ⟨by omega, by omega⟩) hS (fun q _ h => h) (fun q h => h) (fun H locs hP hz9 hk9 hS => ?_)
      have hP : va_P D vwCl (mw cA A (upd (x) 4 (nI (0))) (va_up (f) 1 (fb_put (f 1) (fun k => f 0 ((0) + k)) (124 * ch) 124))) H := hP
      have hD : va_D (MA A) (mw cA A (upd (x) 4 (nI (0))) (va_up (f) 1 (fb_put (f 1) (fun k => f 0 ((0) + k)) (124 * ch) 124))) := mD hA
      refine lv_aload_n hx hb dX8_keeps_78 rfl (lv_at hl 0 rfl) ?_
      refine lv_dup hx hb dX8_keeps_79 rfl ?_
      refine g_get (v := .int (x 1)) hx hb hts hown hK hP 0 rfl rfl gu_wsX80 5 (by decide) gm_9_16 rfl dX8_keeps_80 ?_
      refine g_top hch ?_
      refine lv_iconst (v := nI (1)) hx hb dX8_keeps_83 gc_1 ?_
      refine g_iadd hx hb dX8_keeps_84 ?_
      refine g_put (ws' := mw cA A (upd (upd (x) 1 (nI (ch + 1))) 4 (nI (0))) (va_up (f) 1 (fb_put (f 1) (fun k => f 0 ((0) + k)) (124 * ch) 124))) hx hb hts hown hK hP hD hS 0 rfl rfl gu_wsX80 tyX8_ok nmX8 5 (by decide) gm_9_16 rfl rfl rfl (Nat.le_of_ble_eq_true rfl) rfl dX8_keeps_85 (fun H locs hP hD hS => ?_)
      exact g_vretW hx hb hr hlk hS dX8_keeps_88 (by subst c_1; simp only [kpC, kpK, if_neg c_2, if_neg (show ¬ (false = true) by decide)]; exact hP)
    · refine lv_iconst (v := nI (0)) hx hb dX8_keeps_22 gc_0 ?_
      refine lv_istore_n (lv' := [(2, .int (nI (0))), (0, .ref (A 0)), (1, .ref (A 1))]) hx hb dX8_keeps_23 rfl hl (by decide) rfl (fun ls hl => ?_)
      have LP_7 : ∀ (n_4 i_3 : Nat) (x_5 : Int32) (F_6 : Nat → Int32) (H : Heap) (locs : List Loc), i_3 ≤ 868 → 868 + 1 ≤ i_3 + n_4 → x_5 = nI (i_3) → F_6 = shS (f 1) i_3 → va_P D vwCl (mw cA A (upd (x) 4 (nI (0))) (va_up (f) 1 (F_6))) H → va_S (MA A) s.heap H locs → ∀ (ls : Array Slot), lv_has ls 3 [(2, .int (x_5)), (0, .ref (A 0)), (1, .ref (A 1))] → W p l e ({ frames := 1, cells := 0, slots := 0, locals := 24 } : Room) s m ([.ref (A 0), .ref (A 1)] : List Value).toArray below meth c H locs 0 0 (MQ below (wrV (fun H => va_P D vwCl (mw cA A (upd (upd x 1 (nI (kpC w ch))) 4 (nI 0)) (va_up f 1 (kpK w (f 0) (f 1) ch))) H) (MA A)) ([.ref (A 0), .ref (A 1)] : List Value).toArray s 0 0 (MA A)) (F0 m 24 ls []) := by
        intro n_4
        induction n_4 with
        | zero => intro i_3 x_5 F_6 H locs h1 h2; exact absurd h2 (by omega)
        | succ n_4 ih_8 =>
          intro i_3 x_5 F_6 H locs h_9 h_10 e_11 e_12  hP hS ls hl
          subst e_11
          subst e_12
          have hD : va_D (MA A) (mw cA A (upd (x) 4 (nI (0))) (va_up (f) 1 (shS (f 1) i_3))) := mD hA
          refine lv_iload_n hx hb dX8_keeps_24 rfl (lv_at hl 0 rfl) ?_
          refine lv_sipush (v := nI (868)) hx hb dX8_keeps_25 gs_868 ?_
          refine g_icmp_ge (P := 868 ≤ i_3) (tgt := 52) hx hb dX8_keeps_28 (by decide) (nI_leI (by omega) (by omega)) (fun c_13 => ?_) (fun c_13 => ?_)
          · have d_13 : ¬ i_3 < 868 := Nat.not_lt.mpr c_13
            have hN_14 : 868 = i_3 := by omega
            subst hN_14
            refine lv_aload_n hx hb dX8_keeps_52 rfl (lv_at hl 1 rfl) ?_
            refine lv_dup hx hb dX8_keeps_53 rfl ?_
            refine g_get (v := .int (x 1)) hx hb hts hown hK hP 0 rfl rfl gu_wsX80 5 (by decide) gm_9_16 rfl dX8_keeps_54 ?_
            refine g_top hch ?_
            refine lv_iconst (v := nI (1)) hx hb dX8_keeps_57 gc_1 ?_
            refine g_isub hx hb (by omega) dX8_keeps_58 ?_
            refine g_put (ws' := mw cA A (upd (upd (x) 1 (nI (ch - 1))) 4 (nI (0))) (va_up (f) 1 (shS (f 1) (868)))) hx hb hts hown hK hP hD hS 0 rfl rfl gu_wsX80 tyX8_ok nmX8 5 (by decide) gm_9_16 rfl rfl rfl (Nat.le_of_ble_eq_true rfl) rfl dX8_keeps_59 (fun H locs hP hD hS => ?_)
            refine lv_aload_n hx hb dX8_keeps_62 rfl (lv_at hl 2 rfl) ?_
            refine lv_iconst (v := nI (0)) hx hb dX8_keeps_63 gc_0 ?_
            refine lv_aload_n hx hb dX8_keeps_64 rfl (lv_at hl 1 rfl) ?_
            refine g_get (v := .ref (A 2)) hx hb hts hown hK hP 0 rfl rfl gu_wsX80 1 (by decide) gm_5_15 rfl dX8_keeps_65 ?_
            refine lv_bipush (v := nI (124)) hx hb dX8_keeps_68 gb_124 ?_
            refine lv_aload_n hx hb dX8_keeps_70 rfl (lv_at hl 1 rfl) ?_
            refine g_get (v := .int (nI (ch - 1))) hx hb hts hown hK hP 0 rfl rfl gu_wsX80 5 (by decide) gm_9_16 rfl dX8_keeps_71 ?_
            refine g_imul hx hb dX8_keeps_74 ?_
            refine wr_callv (va_runS (As := [.ref (A 1), .int (nI (0)), .ref (A 2), .int (nI ((124) * (ch - 1)))]) (rest := []) ⟨hx, hb, hml, hown, hts⟩ (c_X8_copies_01 l D cA A (upd (upd (x) 1 (nI (ch - 1))) 4 (nI (0))) (va_up (f) 1 (shS (f 1) (868))) (0) ((124) * (ch - 1)) hA (by omega) (by omega)) (cwS 4 hts (gWS gm_9_17 gm_9_18 gm_1_5 gm_9_19) rfl rfl rfl (by decide +kernel) ⟨Nat.le_of_ble_eq_true rfl, Nat.le_of_ble_eq_true rfl⟩) (gPreS hK hP) rfl rfl hl.1 rfl (lv_room (Nat.le_of_ble_eq_true rfl)) dX8_keeps_75 ⟨by omega, by omega⟩) hS (fun q _ h => h) (fun q h => h) (fun H locs hP hz9 hk9 hS => ?_)
            have hP : va_P D vwCl (mw cA A (upd (upd (x) 1 (nI (ch - 1))) 4 (nI (0))) (va_up (f) 1 (fb_put (shS (f 1) (868)) (fun k => f 0 ((0) + k)) ((124) * (ch - 1)) 124))) H := hP
            have hD : va_D (MA A) (mw cA A (upd (upd (x) 1 (nI (ch - 1))) 4 (nI (0))) (va_up (f) 1 (fb_put (shS (f 1) (868)) (fun k => f 0 ((0) + k)) ((124) * (ch - 1)) 124))) := mD hA
            refine lv_aload_n hx hb dX8_keeps_78 rfl (lv_at hl 1 rfl) ?_
            refine lv_dup hx hb dX8_keeps_79 rfl ?_
            refine g_get (v := .int (nI (ch - 1))) hx hb hts hown hK hP 0 rfl rfl gu_wsX80 5 (by decide) gm_9_16 rfl dX8_keeps_80 ?_
            refine lv_iconst (v := nI (1)) hx hb dX8_keeps_83 gc_1 ?_
            refine g_iadd hx hb dX8_keeps_84 ?_
            refine g_put (ws' := mw cA A (upd (upd (x) 1 (nI ((ch - 1) + (1)))) 4 (nI (0))) (va_up (f) 1 (fb_put (shS (f 1) (868)) (fun k => f 0 ((0) + k)) ((124) * (ch - 1)) 124))) hx hb hts hown hK hP hD hS 0 rfl rfl gu_wsX80 tyX8_ok nmX8 5 (by decide) gm_9_16 rfl rfl rfl (Nat.le_of_ble_eq_true rfl) rfl dX8_keeps_85 (fun H locs hP hD hS => ?_)
            exact g_vretW hx hb hr hlk hS dX8_keeps_88 (by subst c_1; subst c_2; exact hP)
          · have d_13 : i_3 < 868 := Nat.not_le.mp c_13
            refine lv_aload_n hx hb dX8_keeps_31 rfl (lv_at hl 1 rfl) ?_
            refine g_get (v := .ref (A 2)) hx hb hts hown hK hP 0 rfl rfl gu_wsX80 1 (by decide) gm_5_15 rfl dX8_keeps_32 ?_
            refine lv_iload_n hx hb dX8_keeps_35 rfl (lv_at hl 0 rfl) ?_
            refine lv_aload_n hx hb dX8_keeps_36 rfl (lv_at hl 1 rfl) ?_
            refine g_get (v := .ref (A 2)) hx hb hts hown hK hP 0 rfl rfl gu_wsX80 1 (by decide) gm_5_15 rfl dX8_keeps_37 ?_
            refine lv_iload_n hx hb dX8_keeps_40 rfl (lv_at hl 0 rfl) ?_
            refine lv_bipush (v := nI (124)) hx hb dX8_keeps_41 gb_124 ?_
            refine g_iadd hx hb dX8_keeps_43 ?_
            refine g_iald (x := shS (f 1) i_3 ((i_3) + (124))) hx hb hK hP 2 rfl (by omega) (by decide) rfl dX8_keeps_44 ?_
            refine g_iast (ws' := mw cA A (upd (x) 4 (nI (0))) (va_up (f) 1 (upd (shS (f 1) i_3) (i_3) (shS (f 1) i_3 ((i_3) + (124)))))) hx hb hK hP hD hS 2 rfl (by omega) (by decide) rfl dX8_keeps_45 (fun H locs hP hD hS => ?_)
            refine lv_iinc (v := nI (i_3 + 1)) (lv' := [(2, .int (nI (i_3 + 1))), (0, .ref (A 0)), (1, .ref (A 1))]) hx hb dX8_keeps_46 hl (k := 0) rfl (inc_1 _) (by decide) rfl (fun ls hl => ?_)
            refine lv_goto (tgt := 24) hx hb dX8_keeps_49 (by decide) ?_
            exact ih_8 (i_3 + 1) _ (upd (shS (f 1) i_3) (i_3) (shS (f 1) i_3 ((i_3) + (124)))) H locs (by omega) (by omega) rfl rfl  hP hS ls (lv_sub hl [0, 1, 2] rfl)
      exact LP_7 (868 + 1) 0 _ (f 1) H locs (by omega) (by omega) rfl rfl  hP hS ls (lv_sub hl [0, 1, 2] rfl)
  · have c_1 : w = true := eq_true_of_ne_false c_1
    exact g_vretW hx hb hr hlk hS dX8_keeps_12 (by subst c_1; rw [show kpC true ch = ch from rfl, upd_id hch, show ∀ r, kpK true r (f 1) ch = f 1 from fun _ => rfl, vup_id rfl]; exact hP)

set_option maxHeartbeats 1000000 in
set_option maxRecDepth 100000 in
theorem c_X8_keeps_3 (l : Launch) (D : va_G) (cA : Nat → ClassId) (A : Nat → Nat) (x : Nat → Int32) (f : Nat → Nat → Int32) (w : Bool) (ch : Nat) (hA : mInj A) (hw : x 2 = b2i w) (hch : x 1 = nI ch) (hc8 : ch ≤ 8) : Met l yX8_keeps (gw yX8_keeps cX8_keeps 3 none) ({ frames := 1, cells := 0, slots := 0, locals := 24 } : Room) (gPc [.ref (A 0), .ref (A 4)] (fun H => va_P D vwCl (mw cA A x f) H) D cA) (wrV (fun H => va_P D vwCl (mw cA A (upd (upd x 1 (nI (kpC w ch))) 4 (nI 0)) (va_up f 1 (kpK w (f 3) (f 1) ch))) H) (MA A)) 0 0 (MA A) := by
  refine gOf (by decide) (Nat.le_of_ble_eq_true rfl) ?_
  intro p e s m below meth c ls hx hb hml hr hlk hown hts hnm hP hK hl
  have hl : lv_has ls 3 [(0, .ref (A 0)), (1, .ref (A 4))] := hl
  have hD : va_D (MA A) (mw cA A x f) := mD hA
  have hS : va_S (MA A) s.heap s.heap [] := va_S.rf
  refine lv_aload_n hx hb dX8_keeps_0 rfl (lv_at hl 0 rfl) ?_
  refine lv_iconst (v := nI (0)) hx hb dX8_keeps_1 gc_0 ?_
  refine g_put (ws' := mw cA A (upd (x) 4 (nI (0))) (f)) hx hb hts hown hK hP hD hS 0 rfl rfl gu_wsX80 tyX8_ok nmX8 8 (by decide) gm_9_3 rfl rfl rfl (Nat.le_of_ble_eq_true rfl) rfl dX8_keeps_2 (fun H locs hP hD hS => ?_)
  refine lv_aload_n hx hb dX8_keeps_5 rfl (lv_at hl 0 rfl) ?_
  refine g_get (v := .int (x 2)) hx hb hts hown hK hP 0 rfl rfl gu_wsX80 6 (by decide) gm_9_15 rfl dX8_keeps_6 ?_
  refine g_top hw ?_
  refine g_if_eq (P := w = false) (tgt := 13) hx hb dX8_keeps_9 (by decide) b2i_0 (fun c_1 => ?_) (fun c_1 => ?_)
  · refine lv_aload_n hx hb dX8_keeps_13 rfl (lv_at hl 0 rfl) ?_
    refine g_get (v := .int (x 1)) hx hb hts hown hK hP 0 rfl rfl gu_wsX80 5 (by decide) gm_9_16 rfl dX8_keeps_14 ?_
    refine g_top hch ?_
    refine lv_bipush (v := nI (8)) hx hb dX8_keeps_17 gb_8 ?_
    refine g_icmp_ne (P := ch = 8) (tgt := 62) hx hb dX8_keeps_19 (by decide) (nI_eq (by omega) (by omega)) (fun c_2 => ?_) (fun c_2 => ?_)
    · refine lv_aload_n hx hb dX8_keeps_62 rfl (lv_at hl 1 rfl) ?_
      refine lv_iconst (v := nI (0)) hx hb dX8_keeps_63 gc_0 ?_
      refine lv_aload_n hx hb dX8_keeps_64 rfl (lv_at hl 0 rfl) ?_
      refine g_get (v := .ref (A 2)) hx hb hts hown hK hP 0 rfl rfl gu_wsX80 1 (by decide) gm_5_15 rfl dX8_keeps_65 ?_
      refine lv_bipush (v := nI (124)) hx hb dX8_keeps_68 gb_124 ?_
      refine lv_aload_n hx hb dX8_keeps_70 rfl (lv_at hl 0 rfl) ?_
      refine g_get (v := .int (x 1)) hx hb hts hown hK hP 0 rfl rfl gu_wsX80 5 (by decide) gm_9_16 rfl dX8_keeps_71 ?_
      refine g_top hch ?_
      refine g_imul hx hb dX8_keeps_74 ?_
      refine wr_callv (va_runS (As := [.ref (A 4), .int (nI (0)), .ref (A 2), .int (nI (124 * ch))]) (rest := []) ⟨hx, hb, hml, hown, hts⟩ (c_X8_copies_31 l D cA A (upd (x) 4 (nI (0))) (f) (0) (124 * ch) hA (by omega) (by omega)) (cwS 4 hts (gWS gm_9_17 gm_9_18 gm_1_5 gm_9_19) rfl rfl rfl (by decide +kernel) ⟨Nat.le_of_ble_eq_true rfl, Nat.le_of_ble_eq_true rfl⟩) (gPreS hK hP) rfl rfl hl.1 rfl (lv_room (Nat.le_of_ble_eq_true rfl)) dX8_keeps_75 ⟨by omega, by omega⟩) hS (fun q _ h => h) (fun q h => h) (fun H locs hP hz9 hk9 hS => ?_)
      have hP : va_P D vwCl (mw cA A (upd (x) 4 (nI (0))) (va_up (f) 1 (fb_put (f 1) (fun k => f 3 ((0) + k)) (124 * ch) 124))) H := hP
      have hD : va_D (MA A) (mw cA A (upd (x) 4 (nI (0))) (va_up (f) 1 (fb_put (f 1) (fun k => f 3 ((0) + k)) (124 * ch) 124))) := mD hA
      refine lv_aload_n hx hb dX8_keeps_78 rfl (lv_at hl 0 rfl) ?_
      refine lv_dup hx hb dX8_keeps_79 rfl ?_
      refine g_get (v := .int (x 1)) hx hb hts hown hK hP 0 rfl rfl gu_wsX80 5 (by decide) gm_9_16 rfl dX8_keeps_80 ?_
      refine g_top hch ?_
      refine lv_iconst (v := nI (1)) hx hb dX8_keeps_83 gc_1 ?_
      refine g_iadd hx hb dX8_keeps_84 ?_
      refine g_put (ws' := mw cA A (upd (upd (x) 1 (nI (ch + 1))) 4 (nI (0))) (va_up (f) 1 (fb_put (f 1) (fun k => f 3 ((0) + k)) (124 * ch) 124))) hx hb hts hown hK hP hD hS 0 rfl rfl gu_wsX80 tyX8_ok nmX8 5 (by decide) gm_9_16 rfl rfl rfl (Nat.le_of_ble_eq_true rfl) rfl dX8_keeps_85 (fun H locs hP hD hS => ?_)
      exact g_vretW hx hb hr hlk hS dX8_keeps_88 (by subst c_1; simp only [kpC, kpK, if_neg c_2, if_neg (show ¬ (false = true) by decide)]; exact hP)
    · refine lv_iconst (v := nI (0)) hx hb dX8_keeps_22 gc_0 ?_
      refine lv_istore_n (lv' := [(2, .int (nI (0))), (0, .ref (A 0)), (1, .ref (A 4))]) hx hb dX8_keeps_23 rfl hl (by decide) rfl (fun ls hl => ?_)
      have LP_7 : ∀ (n_4 i_3 : Nat) (x_5 : Int32) (F_6 : Nat → Int32) (H : Heap) (locs : List Loc), i_3 ≤ 868 → 868 + 1 ≤ i_3 + n_4 → x_5 = nI (i_3) → F_6 = shS (f 1) i_3 → va_P D vwCl (mw cA A (upd (x) 4 (nI (0))) (va_up (f) 1 (F_6))) H → va_S (MA A) s.heap H locs → ∀ (ls : Array Slot), lv_has ls 3 [(2, .int (x_5)), (0, .ref (A 0)), (1, .ref (A 4))] → W p l e ({ frames := 1, cells := 0, slots := 0, locals := 24 } : Room) s m ([.ref (A 0), .ref (A 4)] : List Value).toArray below meth c H locs 0 0 (MQ below (wrV (fun H => va_P D vwCl (mw cA A (upd (upd x 1 (nI (kpC w ch))) 4 (nI 0)) (va_up f 1 (kpK w (f 3) (f 1) ch))) H) (MA A)) ([.ref (A 0), .ref (A 4)] : List Value).toArray s 0 0 (MA A)) (F0 m 24 ls []) := by
        intro n_4
        induction n_4 with
        | zero => intro i_3 x_5 F_6 H locs h1 h2; exact absurd h2 (by omega)
        | succ n_4 ih_8 =>
          intro i_3 x_5 F_6 H locs h_9 h_10 e_11 e_12  hP hS ls hl
          subst e_11
          subst e_12
          have hD : va_D (MA A) (mw cA A (upd (x) 4 (nI (0))) (va_up (f) 1 (shS (f 1) i_3))) := mD hA
          refine lv_iload_n hx hb dX8_keeps_24 rfl (lv_at hl 0 rfl) ?_
          refine lv_sipush (v := nI (868)) hx hb dX8_keeps_25 gs_868 ?_
          refine g_icmp_ge (P := 868 ≤ i_3) (tgt := 52) hx hb dX8_keeps_28 (by decide) (nI_leI (by omega) (by omega)) (fun c_13 => ?_) (fun c_13 => ?_)
          · have d_13 : ¬ i_3 < 868 := Nat.not_lt.mpr c_13
            have hN_14 : 868 = i_3 := by omega
            subst hN_14
            refine lv_aload_n hx hb dX8_keeps_52 rfl (lv_at hl 1 rfl) ?_
            refine lv_dup hx hb dX8_keeps_53 rfl ?_
            refine g_get (v := .int (x 1)) hx hb hts hown hK hP 0 rfl rfl gu_wsX80 5 (by decide) gm_9_16 rfl dX8_keeps_54 ?_
            refine g_top hch ?_
            refine lv_iconst (v := nI (1)) hx hb dX8_keeps_57 gc_1 ?_
            refine g_isub hx hb (by omega) dX8_keeps_58 ?_
            refine g_put (ws' := mw cA A (upd (upd (x) 1 (nI (ch - 1))) 4 (nI (0))) (va_up (f) 1 (shS (f 1) (868)))) hx hb hts hown hK hP hD hS 0 rfl rfl gu_wsX80 tyX8_ok nmX8 5 (by decide) gm_9_16 rfl rfl rfl (Nat.le_of_ble_eq_true rfl) rfl dX8_keeps_59 (fun H locs hP hD hS => ?_)
            refine lv_aload_n hx hb dX8_keeps_62 rfl (lv_at hl 2 rfl) ?_
            refine lv_iconst (v := nI (0)) hx hb dX8_keeps_63 gc_0 ?_
            refine lv_aload_n hx hb dX8_keeps_64 rfl (lv_at hl 1 rfl) ?_
            refine g_get (v := .ref (A 2)) hx hb hts hown hK hP 0 rfl rfl gu_wsX80 1 (by decide) gm_5_15 rfl dX8_keeps_65 ?_
            refine lv_bipush (v := nI (124)) hx hb dX8_keeps_68 gb_124 ?_
            refine lv_aload_n hx hb dX8_keeps_70 rfl (lv_at hl 1 rfl) ?_
            refine g_get (v := .int (nI (ch - 1))) hx hb hts hown hK hP 0 rfl rfl gu_wsX80 5 (by decide) gm_9_16 rfl dX8_keeps_71 ?_
            refine g_imul hx hb dX8_keeps_74 ?_
            refine wr_callv (va_runS (As := [.ref (A 4), .int (nI (0)), .ref (A 2), .int (nI ((124) * (ch - 1)))]) (rest := []) ⟨hx, hb, hml, hown, hts⟩ (c_X8_copies_31 l D cA A (upd (upd (x) 1 (nI (ch - 1))) 4 (nI (0))) (va_up (f) 1 (shS (f 1) (868))) (0) ((124) * (ch - 1)) hA (by omega) (by omega)) (cwS 4 hts (gWS gm_9_17 gm_9_18 gm_1_5 gm_9_19) rfl rfl rfl (by decide +kernel) ⟨Nat.le_of_ble_eq_true rfl, Nat.le_of_ble_eq_true rfl⟩) (gPreS hK hP) rfl rfl hl.1 rfl (lv_room (Nat.le_of_ble_eq_true rfl)) dX8_keeps_75 ⟨by omega, by omega⟩) hS (fun q _ h => h) (fun q h => h) (fun H locs hP hz9 hk9 hS => ?_)
            have hP : va_P D vwCl (mw cA A (upd (upd (x) 1 (nI (ch - 1))) 4 (nI (0))) (va_up (f) 1 (fb_put (shS (f 1) (868)) (fun k => f 3 ((0) + k)) ((124) * (ch - 1)) 124))) H := hP
            have hD : va_D (MA A) (mw cA A (upd (upd (x) 1 (nI (ch - 1))) 4 (nI (0))) (va_up (f) 1 (fb_put (shS (f 1) (868)) (fun k => f 3 ((0) + k)) ((124) * (ch - 1)) 124))) := mD hA
            refine lv_aload_n hx hb dX8_keeps_78 rfl (lv_at hl 1 rfl) ?_
            refine lv_dup hx hb dX8_keeps_79 rfl ?_
            refine g_get (v := .int (nI (ch - 1))) hx hb hts hown hK hP 0 rfl rfl gu_wsX80 5 (by decide) gm_9_16 rfl dX8_keeps_80 ?_
            refine lv_iconst (v := nI (1)) hx hb dX8_keeps_83 gc_1 ?_
            refine g_iadd hx hb dX8_keeps_84 ?_
            refine g_put (ws' := mw cA A (upd (upd (x) 1 (nI ((ch - 1) + (1)))) 4 (nI (0))) (va_up (f) 1 (fb_put (shS (f 1) (868)) (fun k => f 3 ((0) + k)) ((124) * (ch - 1)) 124))) hx hb hts hown hK hP hD hS 0 rfl rfl gu_wsX80 tyX8_ok nmX8 5 (by decide) gm_9_16 rfl rfl rfl (Nat.le_of_ble_eq_true rfl) rfl dX8_keeps_85 (fun H locs hP hD hS => ?_)
            exact g_vretW hx hb hr hlk hS dX8_keeps_88 (by subst c_1; subst c_2; exact hP)
          · have d_13 : i_3 < 868 := Nat.not_le.mp c_13
            refine lv_aload_n hx hb dX8_keeps_31 rfl (lv_at hl 1 rfl) ?_
            refine g_get (v := .ref (A 2)) hx hb hts hown hK hP 0 rfl rfl gu_wsX80 1 (by decide) gm_5_15 rfl dX8_keeps_32 ?_
            refine lv_iload_n hx hb dX8_keeps_35 rfl (lv_at hl 0 rfl) ?_
            refine lv_aload_n hx hb dX8_keeps_36 rfl (lv_at hl 1 rfl) ?_
            refine g_get (v := .ref (A 2)) hx hb hts hown hK hP 0 rfl rfl gu_wsX80 1 (by decide) gm_5_15 rfl dX8_keeps_37 ?_
            refine lv_iload_n hx hb dX8_keeps_40 rfl (lv_at hl 0 rfl) ?_
            refine lv_bipush (v := nI (124)) hx hb dX8_keeps_41 gb_124 ?_
            refine g_iadd hx hb dX8_keeps_43 ?_
            refine g_iald (x := shS (f 1) i_3 ((i_3) + (124))) hx hb hK hP 2 rfl (by omega) (by decide) rfl dX8_keeps_44 ?_
            refine g_iast (ws' := mw cA A (upd (x) 4 (nI (0))) (va_up (f) 1 (upd (shS (f 1) i_3) (i_3) (shS (f 1) i_3 ((i_3) + (124)))))) hx hb hK hP hD hS 2 rfl (by omega) (by decide) rfl dX8_keeps_45 (fun H locs hP hD hS => ?_)
            refine lv_iinc (v := nI (i_3 + 1)) (lv' := [(2, .int (nI (i_3 + 1))), (0, .ref (A 0)), (1, .ref (A 4))]) hx hb dX8_keeps_46 hl (k := 0) rfl (inc_1 _) (by decide) rfl (fun ls hl => ?_)
            refine lv_goto (tgt := 24) hx hb dX8_keeps_49 (by decide) ?_
            exact ih_8 (i_3 + 1) _ (upd (shS (f 1) i_3) (i_3) (shS (f 1) i_3 ((i_3) + (124)))) H locs (by omega) (by omega) rfl rfl  hP hS ls (lv_sub hl [0, 1, 2] rfl)
      exact LP_7 (868 + 1) 0 _ (f 1) H locs (by omega) (by omega) rfl rfl  hP hS ls (lv_sub hl [0, 1, 2] rfl)
  · have c_1 : w = true := eq_true_of_ne_false c_1
    exact g_vretW hx hb hr hlk hS dX8_keeps_12 (by subst c_1; rw [show kpC true ch = ch from rfl, upd_id hch, show ∀ r, kpK true r (f 1) ch = f 1 from fun _ => rfl, vup_id rfl]; exact hP)

set_option maxHeartbeats 1000000 in
set_option maxRecDepth 100000 in
theorem c_X8_takesMinds (l : Launch) (D : va_G) (cA : Nat → ClassId) (A : Nat → Nat) (x : Nat → Int32) (f : Nat → Nat → Int32) (jn : Nat) (hA : mInj A) (hj : f 0 0 = nI jn) (hjn : jn ≤ 9) : Met l yX8_takesMinds (gw yX8_takesMinds cX8_takesMinds 2 none) ({ frames := 0, cells := 0, slots := 0, locals := 0 } : Room) (gPc [.ref (A 0)] (fun H => va_P D vwCl (mw cA A x f) H) D cA) (wrV (fun H => va_P D vwCl (mw cA A (x) (va_up f 0 (tmS (f 6) (f 7) (f 0) jn))) H) (MA A)) 0 0 (MA A) := by
  refine gOf (by decide) (Nat.le_of_ble_eq_true rfl) ?_
  intro p e s m below meth c ls hx hb hml hr hlk hown hts hnm hP hK hl
  have hl : lv_has ls 2 [(0, .ref (A 0))] := hl
  have hD : va_D (MA A) (mw cA A x f) := mD hA
  have hS : va_S (MA A) s.heap s.heap [] := va_S.rf
  refine lv_iconst (v := nI (0)) hx hb dX8_takesMinds_0 gc_0 ?_
  refine lv_istore_n (lv' := [(1, .int (nI (0))), (0, .ref (A 0))]) hx hb dX8_takesMinds_1 rfl hl (by decide) rfl (fun ls hl => ?_)
  have LP_5 : ∀ (n_2 i_1 : Nat) (x_3 : Int32) (F_4 : Nat → Int32) (H : Heap) (locs : List Loc), i_1 ≤ jn → jn + 1 ≤ i_1 + n_2 → x_3 = nI (i_1) → F_4 = tmS (f 6) (f 7) (f 0) i_1 → va_P D vwCl (mw cA A (x) (va_up (f) 0 (F_4))) H → va_S (MA A) s.heap H locs → ∀ (ls : Array Slot), lv_has ls 2 [(1, .int (x_3)), (0, .ref (A 0))] → W p l e ({ frames := 0, cells := 0, slots := 0, locals := 0 } : Room) s m ([.ref (A 0)] : List Value).toArray below meth c H locs 0 0 (MQ below (wrV (fun H => va_P D vwCl (mw cA A (x) (va_up f 0 (tmS (f 6) (f 7) (f 0) jn))) H) (MA A)) ([.ref (A 0)] : List Value).toArray s 0 0 (MA A)) (F0 m 2 ls []) := by
    intro n_2
    induction n_2 with
    | zero => intro i_1 x_3 F_4 H locs h1 h2; exact absurd h2 (by omega)
    | succ n_2 ih_6 =>
      intro i_1 x_3 F_4 H locs h_7 h_8 e_9 e_10  hP hS ls hl
      subst e_9
      subst e_10
      have hD : va_D (MA A) (mw cA A (x) (va_up (f) 0 (tmS (f 6) (f 7) (f 0) i_1))) := mD hA
      refine lv_iload_n hx hb dX8_takesMinds_2 rfl (lv_at hl 0 rfl) ?_
      refine lv_aload_n hx hb dX8_takesMinds_3 rfl (lv_at hl 1 rfl) ?_
      refine g_get (v := .ref (A 1)) hx hb hts hown hK hP 0 rfl rfl gu_wsX80 0 (by decide) gm_5_14 rfl dX8_takesMinds_4 ?_
      refine lv_iconst (v := nI (0)) hx hb dX8_takesMinds_7 gc_0 ?_
      refine g_iald (x := nI (jn)) hx hb hK hP 1 rfl (by omega) (by decide) (by first | exact hj | exact (tmS_lo (q := 0) (by decide) _).trans hj) dX8_takesMinds_8 ?_
      refine g_icmp_ge (P := jn ≤ i_1) (tgt := 56) hx hb dX8_takesMinds_9 (by decide) (nI_leI (by omega) (by omega)) (fun c_11 => ?_) (fun c_11 => ?_)
      · have d_11 : ¬ i_1 < jn := Nat.not_lt.mpr c_11
        have hN_12 : jn = i_1 := by omega
        subst hN_12
        exact g_vretW hx hb hr hlk hS dX8_takesMinds_56 (hP)
      · have d_11 : i_1 < jn := Nat.not_le.mp c_11
        refine lv_aload_n hx hb dX8_takesMinds_12 rfl (lv_at hl 1 rfl) ?_
        refine g_get (v := .ref (A 1)) hx hb hts hown hK hP 0 rfl rfl gu_wsX80 0 (by decide) gm_5_14 rfl dX8_takesMinds_13 ?_
        refine lv_bipush (v := nI (8)) hx hb dX8_takesMinds_16 gb_8 ?_
        refine lv_iconst (v := nI (4)) hx hb dX8_takesMinds_18 gc_4 ?_
        refine lv_iload_n hx hb dX8_takesMinds_19 rfl (lv_at hl 0 rfl) ?_
        refine g_imul hx hb dX8_takesMinds_20 ?_
        refine g_iadd hx hb dX8_takesMinds_21 ?_
        refine lv_iconst (v := nI (0)) hx hb dX8_takesMinds_22 gc_0 ?_
        refine g_iadd hx hb dX8_takesMinds_23 ?_
        refine lv_aload_n hx hb dX8_takesMinds_24 rfl (lv_at hl 1 rfl) ?_
        refine g_get (v := .ref (A 7)) hx hb hts hown hK hP 0 rfl rfl gu_wsX80 16 (by decide) gm_5_21 rfl dX8_takesMinds_25 ?_
        refine lv_iload_n hx hb dX8_takesMinds_28 rfl (lv_at hl 0 rfl) ?_
        refine g_iald (x := f 6 (i_1)) hx hb hK hP 7 rfl (by omega) (by decide) rfl dX8_takesMinds_29 ?_
        refine g_iast (ws' := mw cA A (x) (va_up (f) 0 (upd (tmS (f 6) (f 7) (f 0) i_1) (((8) + ((4) * (i_1))) + (0)) (f 6 (i_1))))) hx hb hK hP hD hS 1 rfl (by omega) (by decide) rfl dX8_takesMinds_30 (fun H locs hP hD hS => ?_)
        have kg_13 : (upd (tmS (f 6) (f 7) (f 0) i_1) (((8) + ((4) * (i_1))) + (0)) (f 6 (i_1))) 0 = nI (jn) := (by rw [pk_un (by omega)]; exact (by first | exact hj | exact (tmS_lo (q := 0) (by decide) _).trans hj))
        refine lv_aload_n hx hb dX8_takesMinds_31 rfl (lv_at hl 1 rfl) ?_
        refine g_get (v := .ref (A 1)) hx hb hts hown hK hP 0 rfl rfl gu_wsX80 0 (by decide) gm_5_14 rfl dX8_takesMinds_32 ?_
        refine lv_bipush (v := nI (8)) hx hb dX8_takesMinds_35 gb_8 ?_
        refine lv_iconst (v := nI (4)) hx hb dX8_takesMinds_37 gc_4 ?_
        refine lv_iload_n hx hb dX8_takesMinds_38 rfl (lv_at hl 0 rfl) ?_
        refine g_imul hx hb dX8_takesMinds_39 ?_
        refine g_iadd hx hb dX8_takesMinds_40 ?_
        refine lv_iconst (v := nI (1)) hx hb dX8_takesMinds_41 gc_1 ?_
        refine g_iadd hx hb dX8_takesMinds_42 ?_
        refine lv_aload_n hx hb dX8_takesMinds_43 rfl (lv_at hl 1 rfl) ?_
        refine g_get (v := .ref (A 8)) hx hb hts hown hK hP 0 rfl rfl gu_wsX80 17 (by decide) gm_5_22 rfl dX8_takesMinds_44 ?_
        refine lv_iload_n hx hb dX8_takesMinds_47 rfl (lv_at hl 0 rfl) ?_
        refine g_iald (x := f 7 (i_1)) hx hb hK hP 8 rfl (by omega) (by decide) rfl dX8_takesMinds_48 ?_
        refine g_iast (ws' := mw cA A (x) (va_up (f) 0 (upd (upd (tmS (f 6) (f 7) (f 0) i_1) (((8) + ((4) * (i_1))) + (0)) (f 6 (i_1))) (((8) + ((4) * (i_1))) + (1)) (f 7 (i_1))))) hx hb hK hP hD hS 1 rfl (by omega) (by decide) rfl dX8_takesMinds_49 (fun H locs hP hD hS => ?_)
        have kg_14 : (upd (upd (tmS (f 6) (f 7) (f 0) i_1) (((8) + ((4) * (i_1))) + (0)) (f 6 (i_1))) (((8) + ((4) * (i_1))) + (1)) (f 7 (i_1))) 0 = nI (jn) := (by rw [pk_un (by omega)]; exact kg_13)
        refine lv_iinc (v := nI (i_1 + 1)) (lv' := [(1, .int (nI (i_1 + 1))), (0, .ref (A 0))]) hx hb dX8_takesMinds_50 hl (k := 0) rfl (inc_1 _) (by decide) rfl (fun ls hl => ?_)
        refine lv_goto (tgt := 2) hx hb dX8_takesMinds_53 (by decide) ?_
        exact ih_6 (i_1 + 1) _ (upd (upd (tmS (f 6) (f 7) (f 0) i_1) (((8) + ((4) * (i_1))) + (0)) (f 6 (i_1))) (((8) + ((4) * (i_1))) + (1)) (f 7 (i_1))) H locs (by omega) (by omega) rfl rfl  hP hS ls (lv_sub hl [0, 1] rfl)
  exact LP_5 (jn + 1) 0 _ (f 0) s.heap [] (by omega) (by omega) rfl rfl  hP hS ls (lv_sub hl [0, 1] rfl)

set_option maxHeartbeats 1000000 in
set_option maxRecDepth 100000 in
theorem c_X8_thinks (l : Launch) (D : va_G) (cA : Nat → ClassId) (A : Nat → Nat) (x : Nat → Int32) (f : Nat → Nat → Int32) (panel merit : Int32) (jn : Nat) (hA : mInj A) (hj : f 0 0 = nI jn) (hjn : jn ≤ 9) : Met l yX8_thinks (gw yX8_thinks cX8_thinks 6 (some .int)) ({ frames := 1, cells := 0, slots := 0, locals := 22 } : Room) (gPc [.ref (A 0), .int (panel), .int (merit)] (fun H => va_P D vwCl (mw cA A x f) H) D cA) (wrI (fun r H => r = (tkS panel merit (f 7) (f 6) jn).1 ∧ va_P D vwCl (mw cA A (x) (va_up f 6 ((tkS panel merit (f 7) (f 6) jn).2))) H) (MA A)) 0 0 (MA A) := by
  refine gOf (by decide) (Nat.le_of_ble_eq_true rfl) ?_
  intro p e s m below meth c ls hx hb hml hr hlk hown hts hnm hP hK hl
  have hl : lv_has ls 6 [(0, .ref (A 0)), (1, .int (panel)), (2, .int (merit))] := hl
  have hD : va_D (MA A) (mw cA A x f) := mD hA
  have hS : va_S (MA A) s.heap s.heap [] := va_S.rf
  refine lv_iconst (v := nI (0)) hx hb dX8_thinks_0 gc_0 ?_
  refine lv_istore_n (lv' := [(3, .int (nI (0))), (0, .ref (A 0)), (1, .int (panel)), (2, .int (merit))]) hx hb dX8_thinks_1 rfl hl (by decide) rfl (fun ls hl => ?_)
  refine lv_iconst (v := nI (0)) hx hb dX8_thinks_2 gc_0 ?_
  refine lv_istore (lv' := [(4, .int (nI (0))), (3, .int (nI (0))), (0, .ref (A 0)), (1, .int (panel)), (2, .int (merit))]) hx hb dX8_thinks_3 hl (by decide) rfl (fun ls hl => ?_)
  have LP_6 : ∀ (n_2 i_1 : Nat) (x_3 x_4 : Int32) (F_5 : Nat → Int32) (H : Heap) (locs : List Loc), i_1 ≤ jn → jn + 1 ≤ i_1 + n_2 → x_3 = nI (i_1) → x_4 = (tkS panel merit (f 7) (f 6) i_1).1 → F_5 = (tkS panel merit (f 7) (f 6) i_1).2 → va_P D vwCl (mw cA A (x) (va_up (f) 6 (F_5))) H → va_S (MA A) s.heap H locs → ∀ (ls : Array Slot), lv_has ls 6 [(4, .int (x_3)), (3, .int (x_4)), (0, .ref (A 0)), (1, .int (panel)), (2, .int (merit))] → W p l e ({ frames := 1, cells := 0, slots := 0, locals := 22 } : Room) s m ([.ref (A 0), .int (panel), .int (merit)] : List Value).toArray below meth c H locs 0 0 (MQ below (wrI (fun r H => r = (tkS panel merit (f 7) (f 6) jn).1 ∧ va_P D vwCl (mw cA A (x) (va_up f 6 ((tkS panel merit (f 7) (f 6) jn).2))) H) (MA A)) ([.ref (A 0), .int (panel), .int (merit)] : List Value).toArray s 0 0 (MA A)) (F0 m 5 ls []) := by
    intro n_2
    induction n_2 with
    | zero => intro i_1 x_3 x_4 F_5 H locs h1 h2; exact absurd h2 (by omega)
    | succ n_2 ih_7 =>
      intro i_1 x_3 x_4 F_5 H locs h_8 h_9 e_10 e_11 e_12  hP hS ls hl
      subst e_10
      subst e_11
      subst e_12
      have hD : va_D (MA A) (mw cA A (x) (va_up (f) 6 ((tkS panel merit (f 7) (f 6) i_1).2))) := mD hA
      refine lv_iload hx hb dX8_thinks_5 (lv_at hl 0 rfl) ?_
      refine lv_aload_n hx hb dX8_thinks_7 rfl (lv_at hl 2 rfl) ?_
      refine g_get (v := .ref (A 1)) hx hb hts hown hK hP 0 rfl rfl gu_wsX80 0 (by decide) gm_5_14 rfl dX8_thinks_8 ?_
      refine lv_iconst (v := nI (0)) hx hb dX8_thinks_11 gc_0 ?_
      refine g_iald (x := nI (jn)) hx hb hK hP 1 rfl (by omega) (by decide) hj dX8_thinks_12 ?_
      refine g_icmp_ge (P := jn ≤ i_1) (tgt := 95) hx hb dX8_thinks_13 (by decide) (nI_leI (by omega) (by omega)) (fun c_13 => ?_) (fun c_13 => ?_)
      · have d_13 : ¬ i_1 < jn := Nat.not_lt.mpr c_13
        have hN_14 : jn = i_1 := by omega
        subst hN_14
        refine lv_iload_n hx hb dX8_thinks_95 rfl (lv_at hl 1 rfl) ?_
        exact g_iretW (v := (tkS panel merit (f 7) (f 6) (jn)).1) hx hb hr hlk hS dX8_thinks_96 (⟨rfl, hP⟩)
      · have d_13 : i_1 < jn := Nat.not_le.mp c_13
        refine lv_iload_n hx hb dX8_thinks_16 rfl (lv_at hl 3 rfl) ?_
        refine lv_iload hx hb dX8_thinks_17 (lv_at hl 0 rfl) ?_
        refine rd_calle (va_runS (As := [.int (panel), .int (nI (i_1))]) (rest := []) ⟨hx, hb, hml, hown, hts⟩ (c_X8_has l D cA (panel) (i_1)) (cwS 2 hts (gWS gm_14_10 gm_14_11 gm_1_5 gm_14_12) rfl rfl rfl (by decide +kernel) ⟨Nat.le_of_ble_eq_true rfl, Nat.le_of_ble_eq_true rfl⟩) (gPreS hK trivial) rfl rfl hl.1 rfl (lv_room (Nat.le_of_ble_eq_true rfl)) dX8_thinks_19 ⟨by omega, by omega⟩) ?_
        refine g_if_ne (P := hs (panel) (i_1) = false) (tgt := 28) hx hb dX8_thinks_22 (by decide) b2i_0 (fun c_15 => ?_) (fun c_15 => ?_)
        · have c_15 : hs (panel) (i_1) = true := eq_true_of_ne_false c_15
          refine lv_aload_n hx hb dX8_thinks_28 rfl (lv_at hl 2 rfl) ?_
          refine g_get (v := .ref (A 7)) hx hb hts hown hK hP 0 rfl rfl gu_wsX80 16 (by decide) gm_5_21 rfl dX8_thinks_29 ?_
          refine lv_iload hx hb dX8_thinks_32 (lv_at hl 0 rfl) ?_
          refine g_iald (x := (tkS panel merit (f 7) (f 6) i_1).2 (i_1)) hx hb hK hP 7 rfl (by omega) (by decide) rfl dX8_thinks_34 ?_
          refine lv_aload_n hx hb dX8_thinks_35 rfl (lv_at hl 2 rfl) ?_
          refine lv_iload hx hb dX8_thinks_36 (lv_at hl 0 rfl) ?_
          refine lv_iload_n hx hb dX8_thinks_38 rfl (lv_at hl 4 rfl) ?_
          refine rd_calle (va_runV (As := [.int (nI (i_1)), .int (merit)]) (rest := [.int ((tkS panel merit (f 7) (f 6) i_1).2 (i_1))]) ⟨hx, hb, hml, hown, hts⟩ (c_X8_isFor l D cA A (x) (va_up (f) 6 ((tkS panel merit (f 7) (f 6) i_1).2)) (i_1) (merit) (by omega)) (cwV 2 hts (gWV gm_18_7 gm_18_8 gm_18_9 gm_1_5 gm_18_10) rfl rfl rfl (by decide +kernel) ⟨Nat.le_of_ble_eq_true rfl, Nat.le_of_ble_eq_true rfl⟩) (gPreV hK (g_rf hK hP (ci := 10) (q0 := 0) rfl rfl) hP) rfl rfl hl.1 rfl (lv_room (Nat.le_of_ble_eq_true rfl)) dX8_thinks_39 ⟨by omega, by omega⟩) ?_
          refine g_if_eq (P := forB (merit) ((tkS panel merit (f 7) (f 6) i_1).2 (i_1)) (f 7 (i_1)) = false) (tgt := 49) hx hb dX8_thinks_42 (by decide) b2i_0 (fun c_16 => ?_) (fun c_16 => ?_)
          · refine lv_iconst (v := nI (1)) hx hb dX8_thinks_49 gc_1 ?_
            refine lv_iadd hx hb dX8_thinks_50 ?_
            refine lv_bipush (v := -9) hx hb dX8_thinks_51 gb_m9 ?_
            refine lv_bipush (v := nI (9)) hx hb dX8_thinks_53 gb_9 ?_
            refine rd_calle (va_runS (As := [.int (((tkS panel merit (f 7) (f 6) i_1).2 (i_1)) + (nI (1))), .int (-9), .int (nI (9))]) (rest := []) ⟨hx, hb, hml, hown, hts⟩ (c_X8_within l D cA (((tkS panel merit (f 7) (f 6) i_1).2 (i_1)) + (nI (1))) (-9) (nI (9))) (cwS 3 hts (gWS gm_18_15 gm_18_16 gm_1_5 gm_18_17) rfl rfl rfl (by decide +kernel) ⟨Nat.le_of_ble_eq_true rfl, Nat.le_of_ble_eq_true rfl⟩) (gPreS hK trivial) rfl rfl hl.1 rfl (lv_room (Nat.le_of_ble_eq_true rfl)) dX8_thinks_55 ⟨by omega, by omega⟩) ?_
            refine lv_istore (lv' := [(5, .int (wi (((tkS panel merit (f 7) (f 6) i_1).2 (i_1)) + (nI (1))) (-9) (nI (9)))), (4, .int (nI (i_1))), (3, .int ((tkS panel merit (f 7) (f 6) i_1).1)), (0, .ref (A 0)), (1, .int (panel)), (2, .int (merit))]) hx hb dX8_thinks_58 hl (by decide) rfl (fun ls hl => ?_)
            refine lv_iload_n hx hb dX8_thinks_60 rfl (lv_at hl 2 rfl) ?_
            refine lv_iload hx hb dX8_thinks_61 (lv_at hl 0 rfl) ?_
            refine lv_aload_n hx hb dX8_thinks_63 rfl (lv_at hl 3 rfl) ?_
            refine g_get (v := .ref (A 7)) hx hb hts hown hK hP 0 rfl rfl gu_wsX80 16 (by decide) gm_5_21 rfl dX8_thinks_64 ?_
            refine lv_iload hx hb dX8_thinks_67 (lv_at hl 1 rfl) ?_
            refine g_iald (x := (tkS panel merit (f 7) (f 6) i_1).2 (i_1)) hx hb hK hP 7 rfl (by omega) (by decide) rfl dX8_thinks_69 ?_
            refine g_icmp_ne (P := wi (((tkS panel merit (f 7) (f 6) i_1).2 (i_1)) + (nI (1))) (-9) (nI (9)) = (tkS panel merit (f 7) (f 6) i_1).2 (i_1)) (tgt := 77) hx hb dX8_thinks_70 (by decide) Iff.rfl (fun c_17 => ?_) (fun c_17 => ?_)
            · refine lv_iconst (v := nI (1)) hx hb dX8_thinks_77 gc_1 ?_
              refine lv_iadd hx hb dX8_thinks_78 ?_
              refine lv_istore_n (lv' := [(3, .int (((tkS panel merit (f 7) (f 6) i_1).1) + (nI (1)))), (5, .int (wi (((tkS panel merit (f 7) (f 6) i_1).2 (i_1)) + (nI (1))) (-9) (nI (9)))), (4, .int (nI (i_1))), (0, .ref (A 0)), (1, .int (panel)), (2, .int (merit))]) hx hb dX8_thinks_79 rfl hl (by decide) rfl (fun ls hl => ?_)
              refine lv_aload_n hx hb dX8_thinks_80 rfl (lv_at hl 3 rfl) ?_
              refine g_get (v := .ref (A 7)) hx hb hts hown hK hP 0 rfl rfl gu_wsX80 16 (by decide) gm_5_21 rfl dX8_thinks_81 ?_
              refine lv_iload hx hb dX8_thinks_84 (lv_at hl 2 rfl) ?_
              refine lv_iload hx hb dX8_thinks_86 (lv_at hl 1 rfl) ?_
              refine g_iast (ws' := mw cA A (x) (va_up (f) 6 (upd ((tkS panel merit (f 7) (f 6) i_1).2) (i_1) (wi (((tkS panel merit (f 7) (f 6) i_1).2 (i_1)) + (nI (1))) (-9) (nI (9)))))) hx hb hK hP hD hS 7 rfl (by omega) (by decide) rfl dX8_thinks_88 (fun H locs hP hD hS => ?_)
              refine lv_iinc (v := nI (i_1 + 1)) (lv' := [(4, .int (nI (i_1 + 1))), (3, .int (((tkS panel merit (f 7) (f 6) i_1).1) + (nI (1)))), (5, .int (wi (((tkS panel merit (f 7) (f 6) i_1).2 (i_1)) + (nI (1))) (-9) (nI (9)))), (0, .ref (A 0)), (1, .int (panel)), (2, .int (merit))]) hx hb dX8_thinks_89 hl (k := 2) rfl (inc_1 _) (by decide) rfl (fun ls hl => ?_)
              refine lv_goto (tgt := 5) hx hb dX8_thinks_92 (by decide) ?_
              exact ih_7 (i_1 + 1) _ _ (upd ((tkS panel merit (f 7) (f 6) i_1).2) (i_1) (wi (((tkS panel merit (f 7) (f 6) i_1).2 (i_1)) + (nI (1))) (-9) (nI (9)))) H locs (by omega) (by omega) rfl (by simp [tkS, tkT, c_13, d_13, c_15, c_16, c_17]) (by simp [tkS, tkT, c_13, d_13, c_15, c_16, c_17])  hP hS ls (lv_sub hl [0, 1, 3, 4, 5] rfl)
            · refine lv_iconst (v := nI (0)) hx hb dX8_thinks_73 gc_0 ?_
              refine lv_goto (tgt := 78) hx hb dX8_thinks_74 (by decide) ?_
              refine lv_iadd hx hb dX8_thinks_78 ?_
              refine lv_istore_n (lv' := [(3, .int (((tkS panel merit (f 7) (f 6) i_1).1) + (nI (0)))), (5, .int (wi (((tkS panel merit (f 7) (f 6) i_1).2 (i_1)) + (nI (1))) (-9) (nI (9)))), (4, .int (nI (i_1))), (0, .ref (A 0)), (1, .int (panel)), (2, .int (merit))]) hx hb dX8_thinks_79 rfl hl (by decide) rfl (fun ls hl => ?_)
              refine lv_aload_n hx hb dX8_thinks_80 rfl (lv_at hl 3 rfl) ?_
              refine g_get (v := .ref (A 7)) hx hb hts hown hK hP 0 rfl rfl gu_wsX80 16 (by decide) gm_5_21 rfl dX8_thinks_81 ?_
              refine lv_iload hx hb dX8_thinks_84 (lv_at hl 2 rfl) ?_
              refine lv_iload hx hb dX8_thinks_86 (lv_at hl 1 rfl) ?_
              refine g_iast (ws' := mw cA A (x) (va_up (f) 6 (upd ((tkS panel merit (f 7) (f 6) i_1).2) (i_1) (wi (((tkS panel merit (f 7) (f 6) i_1).2 (i_1)) + (nI (1))) (-9) (nI (9)))))) hx hb hK hP hD hS 7 rfl (by omega) (by decide) rfl dX8_thinks_88 (fun H locs hP hD hS => ?_)
              refine lv_iinc (v := nI (i_1 + 1)) (lv' := [(4, .int (nI (i_1 + 1))), (3, .int (((tkS panel merit (f 7) (f 6) i_1).1) + (nI (0)))), (5, .int (wi (((tkS panel merit (f 7) (f 6) i_1).2 (i_1)) + (nI (1))) (-9) (nI (9)))), (0, .ref (A 0)), (1, .int (panel)), (2, .int (merit))]) hx hb dX8_thinks_89 hl (k := 2) rfl (inc_1 _) (by decide) rfl (fun ls hl => ?_)
              refine lv_goto (tgt := 5) hx hb dX8_thinks_92 (by decide) ?_
              exact ih_7 (i_1 + 1) _ _ (upd ((tkS panel merit (f 7) (f 6) i_1).2) (i_1) (wi (((tkS panel merit (f 7) (f 6) i_1).2 (i_1)) + (nI (1))) (-9) (nI (9)))) H locs (by omega) (by omega) rfl (by simp [tkS, tkT, c_13, d_13, c_15, c_16, c_17]) (by simp [tkS, tkT, c_13, d_13, c_15, c_16, c_17])  hP hS ls (lv_sub hl [0, 1, 3, 4, 5] rfl)
          · have c_16 : forB (merit) ((tkS panel merit (f 7) (f 6) i_1).2 (i_1)) (f 7 (i_1)) = true := eq_true_of_ne_false c_16
            refine lv_iconst (v := -1) hx hb dX8_thinks_45 gc_m1 ?_
            refine lv_goto (tgt := 50) hx hb dX8_thinks_46 (by decide) ?_
            refine lv_iadd hx hb dX8_thinks_50 ?_
            refine lv_bipush (v := -9) hx hb dX8_thinks_51 gb_m9 ?_
            refine lv_bipush (v := nI (9)) hx hb dX8_thinks_53 gb_9 ?_
            refine rd_calle (va_runS (As := [.int (((tkS panel merit (f 7) (f 6) i_1).2 (i_1)) + (-1)), .int (-9), .int (nI (9))]) (rest := []) ⟨hx, hb, hml, hown, hts⟩ (c_X8_within l D cA (((tkS panel merit (f 7) (f 6) i_1).2 (i_1)) + (-1)) (-9) (nI (9))) (cwS 3 hts (gWS gm_18_15 gm_18_16 gm_1_5 gm_18_17) rfl rfl rfl (by decide +kernel) ⟨Nat.le_of_ble_eq_true rfl, Nat.le_of_ble_eq_true rfl⟩) (gPreS hK trivial) rfl rfl hl.1 rfl (lv_room (Nat.le_of_ble_eq_true rfl)) dX8_thinks_55 ⟨by omega, by omega⟩) ?_
            refine lv_istore (lv' := [(5, .int (wi (((tkS panel merit (f 7) (f 6) i_1).2 (i_1)) + (-1)) (-9) (nI (9)))), (4, .int (nI (i_1))), (3, .int ((tkS panel merit (f 7) (f 6) i_1).1)), (0, .ref (A 0)), (1, .int (panel)), (2, .int (merit))]) hx hb dX8_thinks_58 hl (by decide) rfl (fun ls hl => ?_)
            refine lv_iload_n hx hb dX8_thinks_60 rfl (lv_at hl 2 rfl) ?_
            refine lv_iload hx hb dX8_thinks_61 (lv_at hl 0 rfl) ?_
            refine lv_aload_n hx hb dX8_thinks_63 rfl (lv_at hl 3 rfl) ?_
            refine g_get (v := .ref (A 7)) hx hb hts hown hK hP 0 rfl rfl gu_wsX80 16 (by decide) gm_5_21 rfl dX8_thinks_64 ?_
            refine lv_iload hx hb dX8_thinks_67 (lv_at hl 1 rfl) ?_
            refine g_iald (x := (tkS panel merit (f 7) (f 6) i_1).2 (i_1)) hx hb hK hP 7 rfl (by omega) (by decide) rfl dX8_thinks_69 ?_
            refine g_icmp_ne (P := wi (((tkS panel merit (f 7) (f 6) i_1).2 (i_1)) + (-1)) (-9) (nI (9)) = (tkS panel merit (f 7) (f 6) i_1).2 (i_1)) (tgt := 77) hx hb dX8_thinks_70 (by decide) Iff.rfl (fun c_18 => ?_) (fun c_18 => ?_)
            · refine lv_iconst (v := nI (1)) hx hb dX8_thinks_77 gc_1 ?_
              refine lv_iadd hx hb dX8_thinks_78 ?_
              refine lv_istore_n (lv' := [(3, .int (((tkS panel merit (f 7) (f 6) i_1).1) + (nI (1)))), (5, .int (wi (((tkS panel merit (f 7) (f 6) i_1).2 (i_1)) + (-1)) (-9) (nI (9)))), (4, .int (nI (i_1))), (0, .ref (A 0)), (1, .int (panel)), (2, .int (merit))]) hx hb dX8_thinks_79 rfl hl (by decide) rfl (fun ls hl => ?_)
              refine lv_aload_n hx hb dX8_thinks_80 rfl (lv_at hl 3 rfl) ?_
              refine g_get (v := .ref (A 7)) hx hb hts hown hK hP 0 rfl rfl gu_wsX80 16 (by decide) gm_5_21 rfl dX8_thinks_81 ?_
              refine lv_iload hx hb dX8_thinks_84 (lv_at hl 2 rfl) ?_
              refine lv_iload hx hb dX8_thinks_86 (lv_at hl 1 rfl) ?_
              refine g_iast (ws' := mw cA A (x) (va_up (f) 6 (upd ((tkS panel merit (f 7) (f 6) i_1).2) (i_1) (wi (((tkS panel merit (f 7) (f 6) i_1).2 (i_1)) + (-1)) (-9) (nI (9)))))) hx hb hK hP hD hS 7 rfl (by omega) (by decide) rfl dX8_thinks_88 (fun H locs hP hD hS => ?_)
              refine lv_iinc (v := nI (i_1 + 1)) (lv' := [(4, .int (nI (i_1 + 1))), (3, .int (((tkS panel merit (f 7) (f 6) i_1).1) + (nI (1)))), (5, .int (wi (((tkS panel merit (f 7) (f 6) i_1).2 (i_1)) + (-1)) (-9) (nI (9)))), (0, .ref (A 0)), (1, .int (panel)), (2, .int (merit))]) hx hb dX8_thinks_89 hl (k := 2) rfl (inc_1 _) (by decide) rfl (fun ls hl => ?_)
              refine lv_goto (tgt := 5) hx hb dX8_thinks_92 (by decide) ?_
              exact ih_7 (i_1 + 1) _ _ (upd ((tkS panel merit (f 7) (f 6) i_1).2) (i_1) (wi (((tkS panel merit (f 7) (f 6) i_1).2 (i_1)) + (-1)) (-9) (nI (9)))) H locs (by omega) (by omega) rfl (by simp [tkS, tkT, c_13, d_13, c_15, c_16, c_18]) (by simp [tkS, tkT, c_13, d_13, c_15, c_16, c_18])  hP hS ls (lv_sub hl [0, 1, 3, 4, 5] rfl)
            · refine lv_iconst (v := nI (0)) hx hb dX8_thinks_73 gc_0 ?_
              refine lv_goto (tgt := 78) hx hb dX8_thinks_74 (by decide) ?_
              refine lv_iadd hx hb dX8_thinks_78 ?_
              refine lv_istore_n (lv' := [(3, .int (((tkS panel merit (f 7) (f 6) i_1).1) + (nI (0)))), (5, .int (wi (((tkS panel merit (f 7) (f 6) i_1).2 (i_1)) + (-1)) (-9) (nI (9)))), (4, .int (nI (i_1))), (0, .ref (A 0)), (1, .int (panel)), (2, .int (merit))]) hx hb dX8_thinks_79 rfl hl (by decide) rfl (fun ls hl => ?_)
              refine lv_aload_n hx hb dX8_thinks_80 rfl (lv_at hl 3 rfl) ?_
              refine g_get (v := .ref (A 7)) hx hb hts hown hK hP 0 rfl rfl gu_wsX80 16 (by decide) gm_5_21 rfl dX8_thinks_81 ?_
              refine lv_iload hx hb dX8_thinks_84 (lv_at hl 2 rfl) ?_
              refine lv_iload hx hb dX8_thinks_86 (lv_at hl 1 rfl) ?_
              refine g_iast (ws' := mw cA A (x) (va_up (f) 6 (upd ((tkS panel merit (f 7) (f 6) i_1).2) (i_1) (wi (((tkS panel merit (f 7) (f 6) i_1).2 (i_1)) + (-1)) (-9) (nI (9)))))) hx hb hK hP hD hS 7 rfl (by omega) (by decide) rfl dX8_thinks_88 (fun H locs hP hD hS => ?_)
              refine lv_iinc (v := nI (i_1 + 1)) (lv' := [(4, .int (nI (i_1 + 1))), (3, .int (((tkS panel merit (f 7) (f 6) i_1).1) + (nI (0)))), (5, .int (wi (((tkS panel merit (f 7) (f 6) i_1).2 (i_1)) + (-1)) (-9) (nI (9)))), (0, .ref (A 0)), (1, .int (panel)), (2, .int (merit))]) hx hb dX8_thinks_89 hl (k := 2) rfl (inc_1 _) (by decide) rfl (fun ls hl => ?_)
              refine lv_goto (tgt := 5) hx hb dX8_thinks_92 (by decide) ?_
              exact ih_7 (i_1 + 1) _ _ (upd ((tkS panel merit (f 7) (f 6) i_1).2) (i_1) (wi (((tkS panel merit (f 7) (f 6) i_1).2 (i_1)) + (-1)) (-9) (nI (9)))) H locs (by omega) (by omega) rfl (by simp [tkS, tkT, c_13, d_13, c_15, c_16, c_18]) (by simp [tkS, tkT, c_13, d_13, c_15, c_16, c_18])  hP hS ls (lv_sub hl [0, 1, 3, 4, 5] rfl)
        · refine lv_goto (tgt := 89) hx hb dX8_thinks_25 (by decide) ?_
          refine lv_iinc (v := nI (i_1 + 1)) (lv' := [(4, .int (nI (i_1 + 1))), (3, .int ((tkS panel merit (f 7) (f 6) i_1).1)), (0, .ref (A 0)), (1, .int (panel)), (2, .int (merit))]) hx hb dX8_thinks_89 hl (k := 0) rfl (inc_1 _) (by decide) rfl (fun ls hl => ?_)
          refine lv_goto (tgt := 5) hx hb dX8_thinks_92 (by decide) ?_
          exact ih_7 (i_1 + 1) _ _ ((tkS panel merit (f 7) (f 6) i_1).2) H locs (by omega) (by omega) rfl (by simp [tkS, tkT, c_13, d_13, c_15]) (by simp [tkS, tkT, c_13, d_13, c_15])  hP hS ls (lv_sub hl [0, 1, 2, 3, 4] rfl)
  exact LP_6 (jn + 1) 0 _ _ (f 6) s.heap [] (by omega) (by omega) rfl rfl rfl  hP hS ls (lv_sub hl [0, 1, 2, 3, 4] rfl)

set_option maxHeartbeats 1000000 in
set_option maxRecDepth 100000 in
theorem c_X8_doubtsBy (l : Launch) (D : va_G) (cA : Nat → ClassId) (A : Nat → Nat) (x : Nat → Int32) (f : Nat → Nat → Int32) (panel merit verdict : Int32) (jn : Nat) (hA : mInj A) (hj : f 0 0 = nI jn) (hjn : jn ≤ 9) : Met l yX8_doubtsBy (gw yX8_doubtsBy cX8_doubtsBy 6 (some .int)) ({ frames := 1, cells := 0, slots := 0, locals := 22 } : Room) (gPc [.ref (A 0), .int (panel), .int (merit), .int (verdict)] (fun H => va_P D vwCl (mw cA A x f) H) D cA) (wrI (fun r H => r = dbO panel merit verdict (f 6) (f 7) jn ∧ va_P D vwCl (mw cA A (x) (va_up f 7 (dbS panel (dbO panel merit verdict (f 6) (f 7) jn) (f 7) jn))) H) (MA A)) 0 0 (MA A) := by
  refine gOf (by decide) (Nat.le_of_ble_eq_true rfl) ?_
  intro p e s m below meth c ls hx hb hml hr hlk hown hts hnm hP hK hl
  have hl : lv_has ls 6 [(0, .ref (A 0)), (1, .int (panel)), (2, .int (merit)), (3, .int (verdict))] := hl
  have hD : va_D (MA A) (mw cA A x f) := mD hA
  have hS : va_S (MA A) s.heap s.heap [] := va_S.rf
  refine lv_iconst (v := nI (0)) hx hb dX8_doubtsBy_0 gc_0 ?_
  refine lv_istore (lv' := [(4, .int (nI (0))), (0, .ref (A 0)), (1, .int (panel)), (2, .int (merit)), (3, .int (verdict))]) hx hb dX8_doubtsBy_1 hl (by decide) rfl (fun ls hl => ?_)
  refine lv_iconst (v := nI (0)) hx hb dX8_doubtsBy_3 gc_0 ?_
  refine lv_istore (lv' := [(5, .int (nI (0))), (4, .int (nI (0))), (0, .ref (A 0)), (1, .int (panel)), (2, .int (merit)), (3, .int (verdict))]) hx hb dX8_doubtsBy_4 hl (by decide) rfl (fun ls hl => ?_)
  have LP_5 : ∀ (n_2 i_1 : Nat) (x_3 x_4 : Int32), i_1 ≤ jn → jn + 1 ≤ i_1 + n_2 → x_3 = nI (i_1) → x_4 = dbO panel merit verdict (f 6) (f 7) i_1 → ∀ (ls : Array Slot), lv_has ls 6 [(5, .int (x_3)), (4, .int (x_4)), (0, .ref (A 0)), (1, .int (panel)), (2, .int (merit)), (3, .int (verdict))] → W p l e ({ frames := 1, cells := 0, slots := 0, locals := 22 } : Room) s m ([.ref (A 0), .int (panel), .int (merit), .int (verdict)] : List Value).toArray below meth c s.heap [] 0 0 (MQ below (wrI (fun r H => r = dbO panel merit verdict (f 6) (f 7) jn ∧ va_P D vwCl (mw cA A (x) (va_up f 7 (dbS panel (dbO panel merit verdict (f 6) (f 7) jn) (f 7) jn))) H) (MA A)) ([.ref (A 0), .int (panel), .int (merit), .int (verdict)] : List Value).toArray s 0 0 (MA A)) (F0 m 6 ls []) := by
    intro n_2
    induction n_2 with
    | zero => intro i_1 x_3 x_4 h1 h2; exact absurd h2 (by omega)
    | succ n_2 ih_8 =>
      intro i_1 x_3 x_4 h_9 h_10 e_6 e_7  ls hl
      subst e_6
      subst e_7
      refine lv_iload hx hb dX8_doubtsBy_6 (lv_at hl 0 rfl) ?_
      refine lv_aload_n hx hb dX8_doubtsBy_8 rfl (lv_at hl 2 rfl) ?_
      refine g_get (v := .ref (A 1)) hx hb hts hown hK hP 0 rfl rfl gu_wsX80 0 (by decide) gm_5_14 rfl dX8_doubtsBy_9 ?_
      refine lv_iconst (v := nI (0)) hx hb dX8_doubtsBy_12 gc_0 ?_
      refine g_iald (x := nI (jn)) hx hb hK hP 1 rfl (by omega) (by decide) hj dX8_doubtsBy_13 ?_
      refine g_icmp_ge (P := jn ≤ i_1) (tgt := 61) hx hb dX8_doubtsBy_14 (by decide) (nI_leI (by omega) (by omega)) (fun c_11 => ?_) (fun c_11 => ?_)
      · have d_11 : ¬ i_1 < jn := Nat.not_lt.mpr c_11
        have hN_12 : jn = i_1 := by omega
        subst hN_12
        refine lv_iconst (v := nI (0)) hx hb dX8_doubtsBy_61 gc_0 ?_
        refine lv_istore (lv' := [(5, .int (nI (0))), (4, .int (dbO panel merit verdict (f 6) (f 7) (jn))), (0, .ref (A 0)), (1, .int (panel)), (2, .int (merit)), (3, .int (verdict))]) hx hb dX8_doubtsBy_62 hl (by decide) rfl (fun ls hl => ?_)
        have LP_17 : ∀ (n_14 i_13 : Nat) (x_15 : Int32) (F_16 : Nat → Int32) (H : Heap) (locs : List Loc), i_13 ≤ jn → jn + 1 ≤ i_13 + n_14 → x_15 = nI (i_13) → F_16 = dbS panel (dbO panel merit verdict (f 6) (f 7) jn) (f 7) i_13 → va_P D vwCl (mw cA A (x) (va_up (f) 7 (F_16))) H → va_S (MA A) s.heap H locs → ∀ (ls : Array Slot), lv_has ls 6 [(5, .int (x_15)), (4, .int (dbO panel merit verdict (f 6) (f 7) (jn))), (0, .ref (A 0)), (1, .int (panel)), (2, .int (merit)), (3, .int (verdict))] → W p l e ({ frames := 1, cells := 0, slots := 0, locals := 22 } : Room) s m ([.ref (A 0), .int (panel), .int (merit), .int (verdict)] : List Value).toArray below meth c H locs 0 0 (MQ below (wrI (fun r H => r = dbO panel merit verdict (f 6) (f 7) jn ∧ va_P D vwCl (mw cA A (x) (va_up f 7 (dbS panel (dbO panel merit verdict (f 6) (f 7) jn) (f 7) jn))) H) (MA A)) ([.ref (A 0), .int (panel), .int (merit), .int (verdict)] : List Value).toArray s 0 0 (MA A)) (F0 m 64 ls []) := by
          intro n_14
          induction n_14 with
          | zero => intro i_13 x_15 F_16 H locs h1 h2; exact absurd h2 (by omega)
          | succ n_14 ih_18 =>
            intro i_13 x_15 F_16 H locs h_19 h_20 e_21 e_22  hP hS ls hl
            subst e_21
            subst e_22
            have hD : va_D (MA A) (mw cA A (x) (va_up (f) 7 (dbS panel (dbO panel merit verdict (f 6) (f 7) jn) (f 7) i_13))) := mD hA
            refine lv_iload hx hb dX8_doubtsBy_64 (lv_at hl 0 rfl) ?_
            refine lv_aload_n hx hb dX8_doubtsBy_66 rfl (lv_at hl 2 rfl) ?_
            refine g_get (v := .ref (A 1)) hx hb hts hown hK hP 0 rfl rfl gu_wsX80 0 (by decide) gm_5_14 rfl dX8_doubtsBy_67 ?_
            refine lv_iconst (v := nI (0)) hx hb dX8_doubtsBy_70 gc_0 ?_
            refine g_iald (x := nI (jn)) hx hb hK hP 1 rfl (by omega) (by decide) hj dX8_doubtsBy_71 ?_
            refine g_icmp_ge (P := jn ≤ i_13) (tgt := 126) hx hb dX8_doubtsBy_72 (by decide) (nI_leI (by omega) (by omega)) (fun c_23 => ?_) (fun c_23 => ?_)
            · have d_23 : ¬ i_13 < jn := Nat.not_lt.mpr c_23
              have hN_24 : jn = i_13 := by omega
              subst hN_24
              refine lv_iload hx hb dX8_doubtsBy_126 (lv_at hl 1 rfl) ?_
              exact g_iretW (v := dbO panel merit verdict (f 6) (f 7) (jn)) hx hb hr hlk hS dX8_doubtsBy_128 (⟨rfl, hP⟩)
            · have d_23 : i_13 < jn := Nat.not_le.mp c_23
              refine lv_iload_n hx hb dX8_doubtsBy_75 rfl (lv_at hl 3 rfl) ?_
              refine lv_iload hx hb dX8_doubtsBy_76 (lv_at hl 0 rfl) ?_
              refine rd_calle (va_runS (As := [.int (panel), .int (nI (i_13))]) (rest := []) ⟨hx, hb, hml, hown, hts⟩ (c_X8_has l D cA (panel) (i_13)) (cwS 2 hts (gWS gm_14_10 gm_14_11 gm_1_5 gm_14_12) rfl rfl rfl (by decide +kernel) ⟨Nat.le_of_ble_eq_true rfl, Nat.le_of_ble_eq_true rfl⟩) (gPreS hK trivial) rfl rfl hl.1 rfl (lv_room (Nat.le_of_ble_eq_true rfl)) dX8_doubtsBy_78 ⟨by omega, by omega⟩) ?_
              refine g_if_eq (P := hs (panel) (i_13) = false) (tgt := 120) hx hb dX8_doubtsBy_81 (by decide) b2i_0 (fun c_25 => ?_) (fun c_25 => ?_)
              · refine lv_iinc (v := nI (i_13 + 1)) (lv' := [(5, .int (nI (i_13 + 1))), (4, .int (dbO panel merit verdict (f 6) (f 7) (jn))), (0, .ref (A 0)), (1, .int (panel)), (2, .int (merit)), (3, .int (verdict))]) hx hb dX8_doubtsBy_120 hl (k := 0) rfl (inc_1 _) (by decide) rfl (fun ls hl => ?_)
                refine lv_goto (tgt := 64) hx hb dX8_doubtsBy_123 (by decide) ?_
                exact ih_18 (i_13 + 1) _ (dbS panel (dbO panel merit verdict (f 6) (f 7) jn) (f 7) i_13) H locs (by omega) (by omega) rfl (by simp [dbS, c_23, d_23, c_25])  hP hS ls (lv_sub hl [0, 1, 2, 3, 4, 5] rfl)
              · have c_25 : hs (panel) (i_13) = true := eq_true_of_ne_false c_25
                refine lv_aload_n hx hb dX8_doubtsBy_84 rfl (lv_at hl 2 rfl) ?_
                refine g_get (v := .ref (A 8)) hx hb hts hown hK hP 0 rfl rfl gu_wsX80 17 (by decide) gm_5_22 rfl dX8_doubtsBy_85 ?_
                refine lv_iload hx hb dX8_doubtsBy_88 (lv_at hl 0 rfl) ?_
                refine lv_aload_n hx hb dX8_doubtsBy_90 rfl (lv_at hl 2 rfl) ?_
                refine g_get (v := .ref (A 8)) hx hb hts hown hK hP 0 rfl rfl gu_wsX80 17 (by decide) gm_5_22 rfl dX8_doubtsBy_91 ?_
                refine lv_iload hx hb dX8_doubtsBy_94 (lv_at hl 0 rfl) ?_
                refine g_iald (x := dbS panel (dbO panel merit verdict (f 6) (f 7) jn) (f 7) i_13 (i_13)) hx hb hK hP 8 rfl (by omega) (by decide) rfl dX8_doubtsBy_96 ?_
                refine lv_iload hx hb dX8_doubtsBy_97 (lv_at hl 1 rfl) ?_
                refine lv_iload hx hb dX8_doubtsBy_99 (lv_at hl 0 rfl) ?_
                refine rd_calle (va_runS (As := [.int (dbO panel merit verdict (f 6) (f 7) (jn)), .int (nI (i_13))]) (rest := [.int (dbS panel (dbO panel merit verdict (f 6) (f 7) jn) (f 7) i_13 (i_13)), .int (nI (i_13)), .ref (A 8)]) ⟨hx, hb, hml, hown, hts⟩ (c_X8_has l D cA (dbO panel merit verdict (f 6) (f 7) (jn)) (i_13)) (cwS 2 hts (gWS gm_14_10 gm_14_11 gm_1_5 gm_14_12) rfl rfl rfl (by decide +kernel) ⟨Nat.le_of_ble_eq_true rfl, Nat.le_of_ble_eq_true rfl⟩) (gPreS hK trivial) rfl rfl hl.1 rfl (lv_room (Nat.le_of_ble_eq_true rfl)) dX8_doubtsBy_101 ⟨by omega, by omega⟩) ?_
                refine g_if_eq (P := hs (dbO panel merit verdict (f 6) (f 7) (jn)) (i_13) = false) (tgt := 111) hx hb dX8_doubtsBy_104 (by decide) b2i_0 (fun c_26 => ?_) (fun c_26 => ?_)
                · refine lv_iconst (v := -1) hx hb dX8_doubtsBy_111 gc_m1 ?_
                  refine lv_iadd hx hb dX8_doubtsBy_112 ?_
                  refine lv_iconst (v := nI (0)) hx hb dX8_doubtsBy_113 gc_0 ?_
                  refine lv_bipush (v := nI (9)) hx hb dX8_doubtsBy_114 gb_9 ?_
                  refine rd_calle (va_runS (As := [.int ((dbS panel (dbO panel merit verdict (f 6) (f 7) jn) (f 7) i_13 (i_13)) + (-1)), .int (nI (0)), .int (nI (9))]) (rest := [.int (nI (i_13)), .ref (A 8)]) ⟨hx, hb, hml, hown, hts⟩ (c_X8_within l D cA ((dbS panel (dbO panel merit verdict (f 6) (f 7) jn) (f 7) i_13 (i_13)) + (-1)) (nI (0)) (nI (9))) (cwS 3 hts (gWS gm_18_15 gm_18_16 gm_1_5 gm_18_17) rfl rfl rfl (by decide +kernel) ⟨Nat.le_of_ble_eq_true rfl, Nat.le_of_ble_eq_true rfl⟩) (gPreS hK trivial) rfl rfl hl.1 rfl (lv_room (Nat.le_of_ble_eq_true rfl)) dX8_doubtsBy_116 ⟨by omega, by omega⟩) ?_
                  refine g_iast (ws' := mw cA A (x) (va_up (f) 7 (upd (dbS panel (dbO panel merit verdict (f 6) (f 7) jn) (f 7) i_13) (i_13) (wi ((dbS panel (dbO panel merit verdict (f 6) (f 7) jn) (f 7) i_13 (i_13)) + (-1)) (nI (0)) (nI (9)))))) hx hb hK hP hD hS 8 rfl (by omega) (by decide) rfl dX8_doubtsBy_119 (fun H locs hP hD hS => ?_)
                  refine lv_iinc (v := nI (i_13 + 1)) (lv' := [(5, .int (nI (i_13 + 1))), (4, .int (dbO panel merit verdict (f 6) (f 7) (jn))), (0, .ref (A 0)), (1, .int (panel)), (2, .int (merit)), (3, .int (verdict))]) hx hb dX8_doubtsBy_120 hl (k := 0) rfl (inc_1 _) (by decide) rfl (fun ls hl => ?_)
                  refine lv_goto (tgt := 64) hx hb dX8_doubtsBy_123 (by decide) ?_
                  exact ih_18 (i_13 + 1) _ (upd (dbS panel (dbO panel merit verdict (f 6) (f 7) jn) (f 7) i_13) (i_13) (wi ((dbS panel (dbO panel merit verdict (f 6) (f 7) jn) (f 7) i_13 (i_13)) + (-1)) (nI (0)) (nI (9)))) H locs (by omega) (by omega) rfl (by simp [dbS, c_23, d_23, c_25, c_26])  hP hS ls (lv_sub hl [0, 1, 2, 3, 4, 5] rfl)
                · have c_26 : hs (dbO panel merit verdict (f 6) (f 7) (jn)) (i_13) = true := eq_true_of_ne_false c_26
                  refine lv_iconst (v := nI (1)) hx hb dX8_doubtsBy_107 gc_1 ?_
                  refine lv_goto (tgt := 112) hx hb dX8_doubtsBy_108 (by decide) ?_
                  refine lv_iadd hx hb dX8_doubtsBy_112 ?_
                  refine lv_iconst (v := nI (0)) hx hb dX8_doubtsBy_113 gc_0 ?_
                  refine lv_bipush (v := nI (9)) hx hb dX8_doubtsBy_114 gb_9 ?_
                  refine rd_calle (va_runS (As := [.int ((dbS panel (dbO panel merit verdict (f 6) (f 7) jn) (f 7) i_13 (i_13)) + (nI (1))), .int (nI (0)), .int (nI (9))]) (rest := [.int (nI (i_13)), .ref (A 8)]) ⟨hx, hb, hml, hown, hts⟩ (c_X8_within l D cA ((dbS panel (dbO panel merit verdict (f 6) (f 7) jn) (f 7) i_13 (i_13)) + (nI (1))) (nI (0)) (nI (9))) (cwS 3 hts (gWS gm_18_15 gm_18_16 gm_1_5 gm_18_17) rfl rfl rfl (by decide +kernel) ⟨Nat.le_of_ble_eq_true rfl, Nat.le_of_ble_eq_true rfl⟩) (gPreS hK trivial) rfl rfl hl.1 rfl (lv_room (Nat.le_of_ble_eq_true rfl)) dX8_doubtsBy_116 ⟨by omega, by omega⟩) ?_
                  refine g_iast (ws' := mw cA A (x) (va_up (f) 7 (upd (dbS panel (dbO panel merit verdict (f 6) (f 7) jn) (f 7) i_13) (i_13) (wi ((dbS panel (dbO panel merit verdict (f 6) (f 7) jn) (f 7) i_13 (i_13)) + (nI (1))) (nI (0)) (nI (9)))))) hx hb hK hP hD hS 8 rfl (by omega) (by decide) rfl dX8_doubtsBy_119 (fun H locs hP hD hS => ?_)
                  refine lv_iinc (v := nI (i_13 + 1)) (lv' := [(5, .int (nI (i_13 + 1))), (4, .int (dbO panel merit verdict (f 6) (f 7) (jn))), (0, .ref (A 0)), (1, .int (panel)), (2, .int (merit)), (3, .int (verdict))]) hx hb dX8_doubtsBy_120 hl (k := 0) rfl (inc_1 _) (by decide) rfl (fun ls hl => ?_)
                  refine lv_goto (tgt := 64) hx hb dX8_doubtsBy_123 (by decide) ?_
                  exact ih_18 (i_13 + 1) _ (upd (dbS panel (dbO panel merit verdict (f 6) (f 7) jn) (f 7) i_13) (i_13) (wi ((dbS panel (dbO panel merit verdict (f 6) (f 7) jn) (f 7) i_13 (i_13)) + (nI (1))) (nI (0)) (nI (9)))) H locs (by omega) (by omega) rfl (by simp [dbS, c_23, d_23, c_25, c_26])  hP hS ls (lv_sub hl [0, 1, 2, 3, 4, 5] rfl)
        exact LP_17 (jn + 1) 0 _ (f 7) s.heap [] (by omega) (by omega) rfl rfl  hP hS ls (lv_sub hl [0, 1, 2, 3, 4, 5] rfl)
      · have d_11 : i_1 < jn := Nat.not_le.mp c_11
        refine lv_iload_n hx hb dX8_doubtsBy_17 rfl (lv_at hl 3 rfl) ?_
        refine lv_iload hx hb dX8_doubtsBy_18 (lv_at hl 0 rfl) ?_
        refine rd_calle (va_runS (As := [.int (panel), .int (nI (i_1))]) (rest := []) ⟨hx, hb, hml, hown, hts⟩ (c_X8_has l D cA (panel) (i_1)) (cwS 2 hts (gWS gm_14_10 gm_14_11 gm_1_5 gm_14_12) rfl rfl rfl (by decide +kernel) ⟨Nat.le_of_ble_eq_true rfl, Nat.le_of_ble_eq_true rfl⟩) (gPreS hK trivial) rfl rfl hl.1 rfl (lv_room (Nat.le_of_ble_eq_true rfl)) dX8_doubtsBy_20 ⟨by omega, by omega⟩) ?_
        refine g_if_eq (P := hs (panel) (i_1) = false) (tgt := 55) hx hb dX8_doubtsBy_23 (by decide) b2i_0 (fun c_27 => ?_) (fun c_27 => ?_)
        · refine lv_iinc (v := nI (i_1 + 1)) (lv' := [(5, .int (nI (i_1 + 1))), (4, .int (dbO panel merit verdict (f 6) (f 7) i_1)), (0, .ref (A 0)), (1, .int (panel)), (2, .int (merit)), (3, .int (verdict))]) hx hb dX8_doubtsBy_55 hl (k := 0) rfl (inc_1 _) (by decide) rfl (fun ls hl => ?_)
          refine lv_goto (tgt := 6) hx hb dX8_doubtsBy_58 (by decide) ?_
          exact ih_8 (i_1 + 1) _ _ (by omega) (by omega) rfl (by simp [dbO, c_11, d_11, c_27])  ls (lv_sub hl [0, 1, 2, 3, 4, 5] rfl)
        · have c_27 : hs (panel) (i_1) = true := eq_true_of_ne_false c_27
          refine lv_aload_n hx hb dX8_doubtsBy_26 rfl (lv_at hl 2 rfl) ?_
          refine lv_iload hx hb dX8_doubtsBy_27 (lv_at hl 0 rfl) ?_
          refine lv_iload_n hx hb dX8_doubtsBy_29 rfl (lv_at hl 4 rfl) ?_
          refine rd_calle (va_runV (As := [.int (nI (i_1)), .int (merit)]) (rest := []) ⟨hx, hb, hml, hown, hts⟩ (c_X8_isFor l D cA A (x) (f) (i_1) (merit) (by omega)) (cwV 2 hts (gWV gm_18_7 gm_18_8 gm_18_9 gm_1_5 gm_18_10) rfl rfl rfl (by decide +kernel) ⟨Nat.le_of_ble_eq_true rfl, Nat.le_of_ble_eq_true rfl⟩) (gPreV hK (g_rf hK hP (ci := 10) (q0 := 0) rfl rfl) hP) rfl rfl hl.1 rfl (lv_room (Nat.le_of_ble_eq_true rfl)) dX8_doubtsBy_30 ⟨by omega, by omega⟩) ?_
          refine lv_iload_n hx hb dX8_doubtsBy_33 rfl (lv_at hl 5 rfl) ?_
          refine lv_iconst (v := nI (1)) hx hb dX8_doubtsBy_34 gc_1 ?_
          refine g_icmp_ne (P := verdict = nI (1)) (tgt := 42) hx hb dX8_doubtsBy_35 (by decide) Iff.rfl (fun c_28 => ?_) (fun c_28 => ?_)
          · refine lv_iconst (v := nI (0)) hx hb dX8_doubtsBy_42 gc_0 ?_
            refine g_icmp_eq (P := forB (merit) (f 6 (i_1)) (f 7 (i_1)) = false) (tgt := 55) hx hb dX8_doubtsBy_43 (by decide) b2i_n0 (fun c_29 => ?_) (fun c_29 => ?_)
            · refine lv_iinc (v := nI (i_1 + 1)) (lv' := [(5, .int (nI (i_1 + 1))), (4, .int (dbO panel merit verdict (f 6) (f 7) i_1)), (0, .ref (A 0)), (1, .int (panel)), (2, .int (merit)), (3, .int (verdict))]) hx hb dX8_doubtsBy_55 hl (k := 0) rfl (inc_1 _) (by decide) rfl (fun ls hl => ?_)
              refine lv_goto (tgt := 6) hx hb dX8_doubtsBy_58 (by decide) ?_
              exact ih_8 (i_1 + 1) _ _ (by omega) (by omega) rfl (by simp [dbO, c_11, d_11, c_27, c_28, c_29])  ls (lv_sub hl [0, 1, 2, 3, 4, 5] rfl)
            · have c_29 : forB (merit) (f 6 (i_1)) (f 7 (i_1)) = true := eq_true_of_ne_false c_29
              refine lv_iload hx hb dX8_doubtsBy_46 (lv_at hl 1 rfl) ?_
              refine lv_iconst (v := nI (1)) hx hb dX8_doubtsBy_48 gc_1 ?_
              refine lv_iload hx hb dX8_doubtsBy_49 (lv_at hl 0 rfl) ?_
              refine lv_ishl hx hb dX8_doubtsBy_51 ?_
              refine lv_ior hx hb dX8_doubtsBy_52 ?_
              refine lv_istore (lv' := [(4, .int ((dbO panel merit verdict (f 6) (f 7) i_1) ||| ((nI (1)) <<< ((nI (i_1)) &&& 31)))), (5, .int (nI (i_1))), (0, .ref (A 0)), (1, .int (panel)), (2, .int (merit)), (3, .int (verdict))]) hx hb dX8_doubtsBy_53 hl (by decide) rfl (fun ls hl => ?_)
              refine lv_iinc (v := nI (i_1 + 1)) (lv' := [(5, .int (nI (i_1 + 1))), (4, .int ((dbO panel merit verdict (f 6) (f 7) i_1) ||| ((nI (1)) <<< ((nI (i_1)) &&& 31)))), (0, .ref (A 0)), (1, .int (panel)), (2, .int (merit)), (3, .int (verdict))]) hx hb dX8_doubtsBy_55 hl (k := 1) rfl (inc_1 _) (by decide) rfl (fun ls hl => ?_)
              refine lv_goto (tgt := 6) hx hb dX8_doubtsBy_58 (by decide) ?_
              exact ih_8 (i_1 + 1) _ _ (by omega) (by omega) rfl (by simp [dbO, c_11, d_11, c_27, c_28, c_29])  ls (lv_sub hl [0, 1, 2, 3, 4, 5] rfl)
          · refine lv_iconst (v := nI (1)) hx hb dX8_doubtsBy_38 gc_1 ?_
            refine lv_goto (tgt := 43) hx hb dX8_doubtsBy_39 (by decide) ?_
            refine g_icmp_eq (P := forB (merit) (f 6 (i_1)) (f 7 (i_1)) = true) (tgt := 55) hx hb dX8_doubtsBy_43 (by decide) b2i_n1 (fun c_30 => ?_) (fun c_30 => ?_)
            · refine lv_iinc (v := nI (i_1 + 1)) (lv' := [(5, .int (nI (i_1 + 1))), (4, .int (dbO panel merit verdict (f 6) (f 7) i_1)), (0, .ref (A 0)), (1, .int (panel)), (2, .int (merit)), (3, .int (verdict))]) hx hb dX8_doubtsBy_55 hl (k := 0) rfl (inc_1 _) (by decide) rfl (fun ls hl => ?_)
              refine lv_goto (tgt := 6) hx hb dX8_doubtsBy_58 (by decide) ?_
              exact ih_8 (i_1 + 1) _ _ (by omega) (by omega) rfl (by simp [dbO, c_11, d_11, c_27, c_28, c_30])  ls (lv_sub hl [0, 1, 2, 3, 4, 5] rfl)
            · have c_30 : forB (merit) (f 6 (i_1)) (f 7 (i_1)) = false := eq_false_of_ne_true c_30
              refine lv_iload hx hb dX8_doubtsBy_46 (lv_at hl 1 rfl) ?_
              refine lv_iconst (v := nI (1)) hx hb dX8_doubtsBy_48 gc_1 ?_
              refine lv_iload hx hb dX8_doubtsBy_49 (lv_at hl 0 rfl) ?_
              refine lv_ishl hx hb dX8_doubtsBy_51 ?_
              refine lv_ior hx hb dX8_doubtsBy_52 ?_
              refine lv_istore (lv' := [(4, .int ((dbO panel merit verdict (f 6) (f 7) i_1) ||| ((nI (1)) <<< ((nI (i_1)) &&& 31)))), (5, .int (nI (i_1))), (0, .ref (A 0)), (1, .int (panel)), (2, .int (merit)), (3, .int (verdict))]) hx hb dX8_doubtsBy_53 hl (by decide) rfl (fun ls hl => ?_)
              refine lv_iinc (v := nI (i_1 + 1)) (lv' := [(5, .int (nI (i_1 + 1))), (4, .int ((dbO panel merit verdict (f 6) (f 7) i_1) ||| ((nI (1)) <<< ((nI (i_1)) &&& 31)))), (0, .ref (A 0)), (1, .int (panel)), (2, .int (merit)), (3, .int (verdict))]) hx hb dX8_doubtsBy_55 hl (k := 1) rfl (inc_1 _) (by decide) rfl (fun ls hl => ?_)
              refine lv_goto (tgt := 6) hx hb dX8_doubtsBy_58 (by decide) ?_
              exact ih_8 (i_1 + 1) _ _ (by omega) (by omega) rfl (by simp [dbO, c_11, d_11, c_27, c_28, c_30])  ls (lv_sub hl [0, 1, 2, 3, 4, 5] rfl)
  exact LP_5 (jn + 1) 0 _ _ (by omega) (by omega) rfl rfl  ls (lv_sub hl [0, 1, 2, 3, 4, 5] rfl)

