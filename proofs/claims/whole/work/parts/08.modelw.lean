def mInj (A : Nat → Nat) : Prop := ∀ i j : Nat, i < 10 → j < 10 → A i = A j → i = j
def MA (A : Nat → Nat) : Nat → Prop := fun q => ∃ k : Nat, k < 10 ∧ q = A k
theorem mw_ad {cA : Nat → ClassId} {A : Nat → Nat} {x : Nat → Int32} {f : Nat → Nat → Int32} {k : Nat} {q : Nat × va_E} (h : (mw cA A x f)[k]? = some q) : k < 10 ∧ q.1 = A k := by
  match k, h with
  | 0, h => cases h; exact ⟨by decide, rfl⟩
  | 1, h => cases h; exact ⟨by decide, rfl⟩
  | 2, h => cases h; exact ⟨by decide, rfl⟩
  | 3, h => cases h; exact ⟨by decide, rfl⟩
  | 4, h => cases h; exact ⟨by decide, rfl⟩
  | 5, h => cases h; exact ⟨by decide, rfl⟩
  | 6, h => cases h; exact ⟨by decide, rfl⟩
  | 7, h => cases h; exact ⟨by decide, rfl⟩
  | 8, h => cases h; exact ⟨by decide, rfl⟩
  | 9, h => cases h; exact ⟨by decide, rfl⟩
  | k + 10, h => exact absurd h (by simp [mw])
theorem mD {cA : Nat → ClassId} {A : Nat → Nat} {x : Nat → Int32} {f : Nat → Nat → Int32} (hA : mInj A) : va_D (MA A) (mw cA A x f) :=
  ⟨fun i j p q hp hq e => hA i j (mw_ad hp).1 (mw_ad hq).1 (by rw [← (mw_ad hp).2, ← (mw_ad hq).2]; exact e), fun k q h => ⟨k, (mw_ad h).1, (mw_ad h).2⟩⟩
theorem mw_set {D : va_G} {cA : Nat → ClassId} {A : Nat → Nat} {x : Nat → Int32} {f : Nat → Nat → Int32} {H H1 : Heap} {p : Nat} {e0 e : va_E} (hA : mInj A) (hP : va_P D vwCl (mw cA A x f) H) (hp : (mw cA A x f)[p]? = some (A p, e0)) (he : va_at D vwCl (A p, e) H1) (oq : ∀ q : Nat, q < H.size → ¬ q = A p → H1[q]? = H[q]?) : va_P D vwCl ((mw cA A x f).set p (A p, e)) H1 := by
  have hl := (List.getElem?_eq_some_iff.mp hp).1
  intro k q hk
  by_cases hkp : k = p
  · subst hkp
    rw [List.getElem?_set_self hl] at hk
    cases hk
    exact he
  · rw [List.getElem?_set_ne (Ne.symm hkp)] at hk
    refine (hP k q hk).kept (oq q.1 (hP k q hk).lt (fun z => hkp ?_))
    exact hA k p (mw_ad hk).1 (mw_ad hp).1 (by rw [← (mw_ad hk).2]; exact z)

set_option maxHeartbeats 4000000 in
set_option maxRecDepth 100000 in
theorem c_X8_fails (l : Launch) (D : va_G) (cA : Nat → ClassId) (A : Nat → Nat) (x : Nat → Int32) (f : Nat → Nat → Int32) (n : Nat) (hA : mInj A) (hn : n < 3) : Met l yX8_fails (gw yX8_fails cX8_fails 2 (some .boolean)) ({ frames := 0, cells := 0, slots := 0, locals := 0 } : Room) (gPc [.ref (A 0), .int (nI (n))] (fun H => va_P D vwCl (mw cA A x f) H) D cA) (wrI (fun r H => r = b2i (decide (0 < n)) ∧ va_P D vwCl (mw cA A (upd (upd x 4 (nI n)) 3 (nI 0)) (f)) H) (MA A)) 0 0 (MA A) := by
  refine gOf (by decide) (Nat.le_of_ble_eq_true rfl) ?_
  intro p e s m below meth c ls hx hb hml hr hlk hown hts hnm hP hK hl
  have hl : lv_has ls 2 [(0, .ref (A 0)), (1, .int (nI (n)))] := hl
  have hD : va_D (MA A) (mw cA A x f) := mD hA
  have hS : va_S (MA A) s.heap s.heap [] := va_S.rf
  refine lv_aload_n hx hb dX8_fails_0 rfl (lv_at hl 0 rfl) ?_
  refine lv_iload_n hx hb dX8_fails_1 rfl (lv_at hl 1 rfl) ?_
  refine g_put (ws' := mw cA A (upd (x) 4 (nI (n))) (f)) hx hb hts hown hK hP hD hS 0 rfl rfl gu_wsX80 tyX8_ok nmX8 8 (by decide) gm_9_3 rfl rfl rfl (Nat.le_of_ble_eq_true rfl) rfl dX8_fails_2 (fun H locs hP hD hS => ?_)
  refine lv_aload_n hx hb dX8_fails_5 rfl (lv_at hl 0 rfl) ?_
  refine lv_iconst (v := nI (0)) hx hb dX8_fails_6 gc_0 ?_
  refine g_put (ws' := mw cA A (upd (upd (x) 3 (nI (0))) 4 (nI (n))) (f)) hx hb hts hown hK hP hD hS 0 rfl rfl gu_wsX80 tyX8_ok nmX8 7 (by decide) gm_9_4 rfl rfl rfl (Nat.le_of_ble_eq_true rfl) rfl dX8_fails_7 (fun H locs hP hD hS => ?_)
  refine lv_iload_n hx hb dX8_fails_10 rfl (lv_at hl 1 rfl) ?_
  refine g_if_le (P := n = 0) (tgt := 18) hx hb dX8_fails_11 (by decide) (nI_ez (by omega)) (fun c_1 => ?_) (fun c_1 => ?_)
  · refine lv_iconst (v := nI (0)) hx hb dX8_fails_18 gc_0 ?_
    exact g_zretW (v := nI (0)) hx hb hr hlk rfl hS dX8_fails_19 (⟨by simp [b2i, c_1], hP⟩)
  · refine lv_iconst (v := nI (1)) hx hb dX8_fails_14 gc_1 ?_
    refine lv_goto (tgt := 19) hx hb dX8_fails_15 (by decide) ?_
    exact g_zretW (v := nI (1)) hx hb hr hlk rfl hS dX8_fails_19 (⟨by simp [b2i, c_1], hP⟩)

set_option maxHeartbeats 4000000 in
set_option maxRecDepth 100000 in
theorem c_X8_refuses (l : Launch) (D : va_G) (cA : Nat → ClassId) (A : Nat → Nat) (x : Nat → Int32) (f : Nat → Nat → Int32) (n : Nat) (w d : Int32) (hA : mInj A)  : Met l yX8_refuses (gw yX8_refuses cX8_refuses 4 (some .int)) ({ frames := 0, cells := 0, slots := 0, locals := 0 } : Room) (gPc [.ref (A 0), .int (nI (n)), .int (w), .int (d)] (fun H => va_P D vwCl (mw cA A x f) H) D cA) (wrI (fun r H => r = nI 0 ∧ va_P D vwCl (mw cA A (upd (upd (upd (upd x 4 (nI n)) 3 (nI 1)) 5 w) 6 d) (f)) H) (MA A)) 0 0 (MA A) := by
  refine gOf (by decide) (Nat.le_of_ble_eq_true rfl) ?_
  intro p e s m below meth c ls hx hb hml hr hlk hown hts hnm hP hK hl
  have hl : lv_has ls 4 [(0, .ref (A 0)), (1, .int (nI (n))), (2, .int (w)), (3, .int (d))] := hl
  have hD : va_D (MA A) (mw cA A x f) := mD hA
  have hS : va_S (MA A) s.heap s.heap [] := va_S.rf
  refine lv_aload_n hx hb dX8_refuses_0 rfl (lv_at hl 0 rfl) ?_
  refine lv_iload_n hx hb dX8_refuses_1 rfl (lv_at hl 1 rfl) ?_
  refine g_put (ws' := mw cA A (upd (x) 4 (nI (n))) (f)) hx hb hts hown hK hP hD hS 0 rfl rfl gu_wsX80 tyX8_ok nmX8 8 (by decide) gm_9_3 rfl rfl rfl (Nat.le_of_ble_eq_true rfl) rfl dX8_refuses_2 (fun H locs hP hD hS => ?_)
  refine lv_aload_n hx hb dX8_refuses_5 rfl (lv_at hl 0 rfl) ?_
  refine lv_iconst (v := nI (1)) hx hb dX8_refuses_6 gc_1 ?_
  refine g_put (ws' := mw cA A (upd (upd (x) 3 (nI (1))) 4 (nI (n))) (f)) hx hb hts hown hK hP hD hS 0 rfl rfl gu_wsX80 tyX8_ok nmX8 7 (by decide) gm_9_4 rfl rfl rfl (Nat.le_of_ble_eq_true rfl) rfl dX8_refuses_7 (fun H locs hP hD hS => ?_)
  refine lv_aload_n hx hb dX8_refuses_10 rfl (lv_at hl 0 rfl) ?_
  refine lv_iload_n hx hb dX8_refuses_11 rfl (lv_at hl 2 rfl) ?_
  refine g_put (ws' := mw cA A (upd (upd (upd (x) 3 (nI (1))) 4 (nI (n))) 5 (w)) (f)) hx hb hts hown hK hP hD hS 0 rfl rfl gu_wsX80 tyX8_ok nmX8 9 (by decide) gm_9_9 rfl rfl rfl (Nat.le_of_ble_eq_true rfl) rfl dX8_refuses_12 (fun H locs hP hD hS => ?_)
  refine lv_aload_n hx hb dX8_refuses_15 rfl (lv_at hl 0 rfl) ?_
  refine lv_iload_n hx hb dX8_refuses_16 rfl (lv_at hl 3 rfl) ?_
  refine g_put (ws' := mw cA A (upd (upd (upd (upd (x) 3 (nI (1))) 4 (nI (n))) 5 (w)) 6 (d)) (f)) hx hb hts hown hK hP hD hS 0 rfl rfl gu_wsX80 tyX8_ok nmX8 10 (by decide) gm_9_10 rfl rfl rfl (Nat.le_of_ble_eq_true rfl) rfl dX8_refuses_17 (fun H locs hP hD hS => ?_)
  refine lv_iconst (v := nI (0)) hx hb dX8_refuses_20 gc_0 ?_
  exact g_iretW (v := nI (0)) hx hb hr hlk hS dX8_refuses_21 (⟨rfl, hP⟩)

set_option maxHeartbeats 4000000 in
set_option maxRecDepth 100000 in
theorem c_X8_lays (l : Launch) (D : va_G) (cA : Nat → ClassId) (A : Nat → Nat) (x : Nat → Int32) (f : Nat → Nat → Int32) (q w : Nat) (v : Int32) (hA : mInj A) (hq : 44 + 8 * q + w < 124) : Met l yX8_lays (gw yX8_lays cX8_lays 4 none) ({ frames := 0, cells := 0, slots := 0, locals := 0 } : Room) (gPc [.ref (A 0), .int (nI (q)), .int (nI (w)), .int (v)] (fun H => va_P D vwCl (mw cA A x f) H) D cA) (wrV (fun H => va_P D vwCl (mw cA A (x) (va_up f 0 (upd (f 0) (44 + 8 * q + w) v))) H) (MA A)) 0 0 (MA A) := by
  refine gOf (by decide) (Nat.le_of_ble_eq_true rfl) ?_
  intro p e s m below meth c ls hx hb hml hr hlk hown hts hnm hP hK hl
  have hl : lv_has ls 4 [(0, .ref (A 0)), (1, .int (nI (q))), (2, .int (nI (w))), (3, .int (v))] := hl
  have hD : va_D (MA A) (mw cA A x f) := mD hA
  have hS : va_S (MA A) s.heap s.heap [] := va_S.rf
  refine lv_aload_n hx hb dX8_lays_0 rfl (lv_at hl 0 rfl) ?_
  refine g_get (v := .ref (A 1)) hx hb hts hown hK hP 0 rfl rfl gu_wsX80 0 (by decide) gm_5_14 rfl dX8_lays_1 ?_
  refine lv_bipush (v := nI (44)) hx hb dX8_lays_4 gb_44 ?_
  refine lv_bipush (v := nI (8)) hx hb dX8_lays_6 gb_8 ?_
  refine lv_iload_n hx hb dX8_lays_8 rfl (lv_at hl 1 rfl) ?_
  refine g_imul hx hb dX8_lays_9 ?_
  refine g_iadd hx hb dX8_lays_10 ?_
  refine lv_iload_n hx hb dX8_lays_11 rfl (lv_at hl 2 rfl) ?_
  refine g_iadd hx hb dX8_lays_12 ?_
  refine lv_iload_n hx hb dX8_lays_13 rfl (lv_at hl 3 rfl) ?_
  refine g_iast (ws' := mw cA A (x) (va_up (f) 0 (upd (f 0) (((44) + (8 * q)) + (w)) (v)))) hx hb hK hP hD hS 1 rfl (by omega) (by decide) rfl dX8_lays_14 (fun H locs hP hD hS => ?_)
  exact g_vretW hx hb hr hlk hS dX8_lays_15 (hP)

theorem va_at_i {D : va_G} {cA : ClassId} {n : Nat} {f g : Nat → Int32} {a : Nat} {H : Heap} (h : va_at D vwCl (a, .inl (cA, n, .inl f)) H) (e : ∀ j, j < n → f j = g j) : va_at D vwCl (a, .inl (cA, n, .inl g)) H := by
  have h2 : H[a]? = some (vp_cell cA (n, .inl f)) := h
  show H[a]? = some (vp_cell cA (n, .inl g))
  rw [h2, vp_cell_i, vp_cell_i]
  congr 1
  unfold arrV
  congr 1
  apply Array.ext
  · simp
  · intro i h1 h2
    simp at h1
    simp [e i h1]

def lmS (g l0 d0 : Nat → Int32) : Nat → (Nat → Int32) × (Nat → Int32)
  | 0 => (l0, d0)
  | k + 1 => (upd (lmS g l0 d0 k).1 k (gby g k 0), upd (lmS g l0 d0 k).2 k (gby g k 1))
def tmS (l d g0 : Nat → Int32) : Nat → (Nat → Int32)
  | 0 => g0
  | k + 1 => upd (upd (tmS l d g0 k) (8 + 4 * k + 0) (l k)) (8 + 4 * k + 1) (d k)
theorem tmS_lo {l d g0 : Nat → Int32} {q : Nat} (hq : q < 8) : ∀ k, tmS l d g0 k q = g0 q
  | 0 => rfl
  | k + 1 => by
    show upd (upd (tmS l d g0 k) (8 + 4 * k + 0) (l k)) (8 + 4 * k + 1) (d k) q = _
    rw [pk_un (by omega), pk_un (by omega), tmS_lo hq k]
def dbO (panel merit verdict : Int32) (l d : Nat → Int32) : Nat → Int32
  | 0 => nI 0
  | k + 1 => if (hs panel k && (forB merit (l k) (d k) != decide (verdict = nI 1))) = true then dbO panel merit verdict l d k ||| (nI 1 <<< (nI k &&& 31)) else dbO panel merit verdict l d k
def dbS (panel others : Int32) (d0 : Nat → Int32) : Nat → (Nat → Int32)
  | 0 => d0
  | k + 1 => if hs panel k = true then upd (dbS panel others d0 k) k (wi (dbS panel others d0 k k + (if hs others k = true then nI 1 else -1)) (nI 0) (nI 9)) else dbS panel others d0 k
def tkT (merit v d : Int32) : Int32 := wi (v + (if forB merit v d = true then -1 else nI 1)) (-9) (nI 9)
def tkS (panel merit : Int32) (d l0 : Nat → Int32) : Nat → Int32 × (Nat → Int32)
  | 0 => (nI 0, l0)
  | k + 1 => if hs panel k = true then ((tkS panel merit d l0 k).1 + (if tkT merit ((tkS panel merit d l0 k).2 k) (d k) = (tkS panel merit d l0 k).2 k then nI 0 else nI 1), upd (tkS panel merit d l0 k).2 k (tkT merit ((tkS panel merit d l0 k).2 k) (d k))) else tkS panel merit d l0 k

set_option maxHeartbeats 4000000 in
set_option maxRecDepth 100000 in
theorem c_X8_laysMinds (l : Launch) (D : va_G) (cA : Nat → ClassId) (A : Nat → Nat) (x : Nat → Int32) (f : Nat → Nat → Int32) (jn : Nat) (hA : mInj A) (hj : f 0 0 = nI jn) (hjn : jn ≤ 9) : Met l yX8_laysMinds (gw yX8_laysMinds cX8_laysMinds 2 none) ({ frames := 1, cells := 0, slots := 0, locals := 22 } : Room) (gPc [.ref (A 0)] (fun H => va_P D vwCl (mw cA A x f) H) D cA) (wrV (fun H => va_P D vwCl (mw cA A (x) (va_up (va_up f 6 ((lmS (f 0) (f 6) (f 7) jn).1)) 7 ((lmS (f 0) (f 6) (f 7) jn).2))) H) (MA A)) 0 0 (MA A) := by
  refine gOf (by decide) (Nat.le_of_ble_eq_true rfl) ?_
  intro p e s m below meth c ls hx hb hml hr hlk hown hts hnm hP hK hl
  have hl : lv_has ls 2 [(0, .ref (A 0))] := hl
  have hD : va_D (MA A) (mw cA A x f) := mD hA
  have hS : va_S (MA A) s.heap s.heap [] := va_S.rf
  refine lv_iconst (v := nI (0)) hx hb dX8_laysMinds_0 gc_0 ?_
  refine lv_istore_n (lv' := [(1, .int (nI (0))), (0, .ref (A 0))]) hx hb dX8_laysMinds_1 rfl hl (by decide) rfl (fun ls hl => ?_)
  have LP_6 : ∀ (n_2 i_1 : Nat) (x_3 : Int32) (F_4 F_5 : Nat → Int32) (H : Heap) (locs : List Loc), i_1 ≤ jn → jn + 1 ≤ i_1 + n_2 → x_3 = nI (i_1) → F_4 = (lmS (f 0) (f 6) (f 7) i_1).1 → F_5 = (lmS (f 0) (f 6) (f 7) i_1).2 → va_P D vwCl (mw cA A (x) (va_up (va_up (f) 6 (F_4)) 7 (F_5))) H → va_S (MA A) s.heap H locs → ∀ (ls : Array Slot), lv_has ls 2 [(1, .int (x_3)), (0, .ref (A 0))] → W p l e ({ frames := 1, cells := 0, slots := 0, locals := 22 } : Room) s m ([.ref (A 0)] : List Value).toArray below meth c H locs 0 0 (MQ below (wrV (fun H => va_P D vwCl (mw cA A (x) (va_up (va_up f 6 ((lmS (f 0) (f 6) (f 7) jn).1)) 7 ((lmS (f 0) (f 6) (f 7) jn).2))) H) (MA A)) ([.ref (A 0)] : List Value).toArray s 0 0 (MA A)) (F0 m 2 ls []) := by
    intro n_2
    induction n_2 with
    | zero => intro i_1 x_3 F_4 F_5 H locs h1 h2; exact absurd h2 (by omega)
    | succ n_2 ih_7 =>
      intro i_1 x_3 F_4 F_5 H locs h_8 h_9 e_10 e_11 e_12 hP hS ls hl
      subst e_10
      subst e_11
      subst e_12
      have hD : va_D (MA A) (mw cA A (x) (va_up (va_up (f) 6 ((lmS (f 0) (f 6) (f 7) i_1).1)) 7 ((lmS (f 0) (f 6) (f 7) i_1).2))) := mD hA
      refine lv_iload_n hx hb dX8_laysMinds_2 rfl (lv_at hl 0 rfl) ?_
      refine lv_aload_n hx hb dX8_laysMinds_3 rfl (lv_at hl 1 rfl) ?_
      refine g_get (v := .ref (A 1)) hx hb hts hown hK hP 0 rfl rfl gu_wsX80 0 (by decide) gm_5_14 rfl dX8_laysMinds_4 ?_
      refine lv_iconst (v := nI (0)) hx hb dX8_laysMinds_7 gc_0 ?_
      refine g_iald (x := nI (jn)) hx hb hK hP 1 rfl (by omega) (by decide) hj dX8_laysMinds_8 ?_
      refine g_icmp_ge (P := jn ≤ i_1) (tgt := 42) hx hb dX8_laysMinds_9 (by decide) (nI_leI (by omega) (by omega)) (fun c_13 => ?_) (fun c_13 => ?_)
      · have d_13 : ¬ i_1 < jn := Nat.not_lt.mpr c_13
        have hN_14 : jn = i_1 := by omega
        subst hN_14
        exact g_vretW hx hb hr hlk hS dX8_laysMinds_42 (hP)
      · have d_13 : i_1 < jn := Nat.not_le.mp c_13
        refine lv_aload_n hx hb dX8_laysMinds_12 rfl (lv_at hl 1 rfl) ?_
        refine g_get (v := .ref (A 7)) hx hb hts hown hK hP 0 rfl rfl gu_wsX80 16 (by decide) gm_5_21 rfl dX8_laysMinds_13 ?_
        refine lv_iload_n hx hb dX8_laysMinds_16 rfl (lv_at hl 0 rfl) ?_
        refine lv_aload_n hx hb dX8_laysMinds_17 rfl (lv_at hl 1 rfl) ?_
        refine lv_iload_n hx hb dX8_laysMinds_18 rfl (lv_at hl 0 rfl) ?_
        refine lv_iconst (v := nI (0)) hx hb dX8_laysMinds_19 gc_0 ?_
        refine rd_calle (va_runV (As := [.int (nI (i_1)), .int (nI (0))]) (rest := [.int (nI (i_1)), .ref (A 7)]) ⟨hx, hb, hml, hown, hts⟩ (c_X8_by l D cA A (x) (va_up (va_up (f) 6 ((lmS (f 0) (f 6) (f 7) i_1).1)) 7 ((lmS (f 0) (f 6) (f 7) i_1).2)) (i_1) (0) (by omega)) (cwV 2 hts (gWV gm_15_9 gm_15_10 gm_15_11 gm_1_5 gm_15_12) rfl rfl rfl (by decide +kernel) ⟨Nat.le_of_ble_eq_true rfl, Nat.le_of_ble_eq_true rfl⟩) (gPreV hK (g_rf hK hP (ci := 10) (q0 := 0) rfl rfl) hP) rfl rfl hl.1 rfl (lv_room (Nat.le_of_ble_eq_true rfl)) dX8_laysMinds_20 ⟨by omega, by omega⟩) ?_
        refine g_iast (ws' := mw cA A (x) (va_up (va_up (f) 6 (upd ((lmS (f 0) (f 6) (f 7) i_1).1) (i_1) (gby (f 0) (i_1) (0)))) 7 ((lmS (f 0) (f 6) (f 7) i_1).2))) hx hb hK hP hD hS 7 rfl (by omega) (by decide) rfl dX8_laysMinds_23 (fun H locs hP hD hS => ?_)
        refine lv_aload_n hx hb dX8_laysMinds_24 rfl (lv_at hl 1 rfl) ?_
        refine g_get (v := .ref (A 8)) hx hb hts hown hK hP 0 rfl rfl gu_wsX80 17 (by decide) gm_5_22 rfl dX8_laysMinds_25 ?_
        refine lv_iload_n hx hb dX8_laysMinds_28 rfl (lv_at hl 0 rfl) ?_
        refine lv_aload_n hx hb dX8_laysMinds_29 rfl (lv_at hl 1 rfl) ?_
        refine lv_iload_n hx hb dX8_laysMinds_30 rfl (lv_at hl 0 rfl) ?_
        refine lv_iconst (v := nI (1)) hx hb dX8_laysMinds_31 gc_1 ?_
        refine rd_calle (va_runV (As := [.int (nI (i_1)), .int (nI (1))]) (rest := [.int (nI (i_1)), .ref (A 8)]) ⟨hx, hb, hml, hown, hts⟩ (c_X8_by l D cA A (x) (va_up (va_up (f) 6 (upd ((lmS (f 0) (f 6) (f 7) i_1).1) (i_1) (gby (f 0) (i_1) (0)))) 7 ((lmS (f 0) (f 6) (f 7) i_1).2)) (i_1) (1) (by omega)) (cwV 2 hts (gWV gm_15_9 gm_15_10 gm_15_11 gm_1_5 gm_15_12) rfl rfl rfl (by decide +kernel) ⟨Nat.le_of_ble_eq_true rfl, Nat.le_of_ble_eq_true rfl⟩) (gPreV hK (g_rf hK hP (ci := 10) (q0 := 0) rfl rfl) hP) rfl rfl hl.1 rfl (lv_room (Nat.le_of_ble_eq_true rfl)) dX8_laysMinds_32 ⟨by omega, by omega⟩) ?_
        refine g_iast (ws' := mw cA A (x) (va_up (va_up (f) 6 (upd ((lmS (f 0) (f 6) (f 7) i_1).1) (i_1) (gby (f 0) (i_1) (0)))) 7 (upd ((lmS (f 0) (f 6) (f 7) i_1).2) (i_1) (gby (f 0) (i_1) (1))))) hx hb hK hP hD hS 8 rfl (by omega) (by decide) rfl dX8_laysMinds_35 (fun H locs hP hD hS => ?_)
        refine lv_iinc (v := nI (i_1 + 1)) (lv' := [(1, .int (nI (i_1 + 1))), (0, .ref (A 0))]) hx hb dX8_laysMinds_36 hl (k := 0) rfl (inc_1 _) (by decide) rfl (fun ls hl => ?_)
        refine lv_goto (tgt := 2) hx hb dX8_laysMinds_39 (by decide) ?_
        exact ih_7 (i_1 + 1) _ (upd ((lmS (f 0) (f 6) (f 7) i_1).1) (i_1) (gby (f 0) (i_1) (0))) (upd ((lmS (f 0) (f 6) (f 7) i_1).2) (i_1) (gby (f 0) (i_1) (1))) H locs (by omega) (by omega) rfl rfl rfl hP hS ls (lv_sub hl [0, 1] rfl)
  exact LP_6 (jn + 1) 0 _ (f 6) (f 7) s.heap [] (by omega) (by omega) rfl rfl rfl hP hS ls (lv_sub hl [0, 1] rfl)

