def thS (g : Nat → Int32) (jn : Nat) (panel merit : Int32) (z0 : (Nat → Int32) × (Nat → Int32)) : Nat → (Nat → Int32) × (Nat → Int32)
  | 0 => z0
  | 1 => z0
  | k + 2 => ((tkS panel merit (thS g jn panel merit z0 (k + 1)).2 (thS g jn panel merit z0 (k + 1)).1 jn).2, dbS panel (dbO panel merit (nI (vdM g (tkS panel merit (thS g jn panel merit z0 (k + 1)).2 (thS g jn panel merit z0 (k + 1)).1 jn).2 (thS g jn panel merit z0 (k + 1)).2 jn panel merit)) (tkS panel merit (thS g jn panel merit z0 (k + 1)).2 (thS g jn panel merit z0 (k + 1)).1 jn).2 (thS g jn panel merit z0 (k + 1)).2 jn) (thS g jn panel merit z0 (k + 1)).2 jn)
/-- the verdict after the thought k -/
def thV (g : Nat → Int32) (jn : Nat) (panel merit : Int32) (z0 : (Nat → Int32) × (Nat → Int32)) (k : Nat) : Nat := vdM g (tkS panel merit (thS g jn panel merit z0 k).2 (thS g jn panel merit z0 k).1 jn).2 (thS g jn panel merit z0 k).2 jn panel merit
theorem vdM_le {g l d : Nat → Int32} {jn : Nat} {panel merit : Int32} : vdM g l d jn panel merit ≤ 2 := by unfold vdM; split <;> omega
def thQ (g : Nat → Int32) (jn : Nat) (panel merit : Int32) (z0 : (Nat → Int32) × (Nat → Int32)) (k : Nat) : Bool := decide (0 < k) && !decide (thV g jn panel merit z0 k = vdM g z0.1 z0.2 jn panel merit)
theorem tkS_n {panel merit : Int32} {d l0 : Nat → Int32} : ∀ k, ∃ n : Nat, n ≤ k ∧ (tkS panel merit d l0 k).1 = nI n
  | 0 => ⟨0, Nat.le_refl 0, rfl⟩
  | k + 1 => by
    obtain ⟨n, hn, e⟩ := tkS_n (panel := panel) (merit := merit) (d := d) (l0 := l0) k
    unfold tkS
    split
    · show ∃ n' : Nat, n' ≤ k + 1 ∧ (tkS panel merit d l0 k).1 + _ = nI n'
      split
      · exact ⟨n, by omega, by rw [e, nI_add, Nat.add_zero]⟩
      · exact ⟨n + 1, by omega, by rw [e, nI_add]⟩
    · exact ⟨n, by omega, e⟩
theorem nI_bv (n : Nat) (h : n < 2 ^ 32) : (nI n).toBitVec.toNat = n := by
  show (BitVec.ofNat 32 n).toNat = n
  rw [BitVec.toNat_ofNat]
  exact Nat.mod_eq_of_lt h
theorem bv_nI (x : Int32) : nI x.toBitVec.toNat = x := by
  apply Int32.toBitVec_inj.mp
  apply BitVec.eq_of_toNat_eq
  rw [nI_bv _ x.toBitVec.isLt]
theorem sh_bv : ∀ k : Nat, k < 31 → (nI 1 <<< (nI k &&& 31)).toBitVec.toNat = 2 ^ k := by decide +kernel
theorem or_bv (a b : Int32) : (a ||| b).toBitVec.toNat = a.toBitVec.toNat ||| b.toBitVec.toNat := by
  rw [Int32.toBitVec_or, BitVec.toNat_or]
theorem dbO_bv {panel merit verdict : Int32} {l d : Nat → Int32} : ∀ k, k ≤ 30 → (dbO panel merit verdict l d k).toBitVec.toNat < 2 ^ k
  | 0, _ => by show (nI 0).toBitVec.toNat < 2 ^ 0; decide +kernel
  | k + 1, h => by
    have ih := dbO_bv (panel := panel) (merit := merit) (verdict := verdict) (l := l) (d := d) k (by omega)
    have h2 : (2 : Nat) ^ k < 2 ^ (k + 1) := Nat.pow_lt_pow_right (by decide) (Nat.lt_succ_self k)
    unfold dbO
    split
    · rw [or_bv, sh_bv k (by omega)]
      exact Nat.or_lt_two_pow (Nat.lt_trans ih h2) h2
    · exact Nat.lt_trans ih h2
theorem dbO_n {panel merit verdict : Int32} {l d : Nat → Int32} {k : Nat} (hk : k ≤ 30) : ∃ n : Nat, n < 2 ^ k ∧ dbO panel merit verdict l d k = nI n := ⟨_, dbO_bv k hk, (bv_nI _).symm⟩
theorem th_pos {p1 m1 p2 m2 v : Int32} {d1 l1 d2 l2 : Nat → Int32} {jn : Nat} (h : jn ≤ 9) : ¬ (tkS p1 m1 d1 l1 jn).1 + dbO p2 m2 v d2 l2 jn < 0 := by
  obtain ⟨a, ha, ea⟩ := tkS_n (panel := p1) (merit := m1) (d := d1) (l0 := l1) jn
  obtain ⟨b, hb, eb⟩ := dbO_n (panel := p2) (merit := m2) (verdict := v) (l := d2) (d := l2) (k := jn) (by omega)
  have h9 : (2 : Nat) ^ jn ≤ 2 ^ 9 := Nat.pow_le_pow_right (by decide) h
  rw [ea, eb, nI_add]
  exact nI_pos (by omega)
def thF (g l d : Nat → Int32) (jn : Nat) (panel merit : Int32) : Option Nat := fnd (thQ g jn panel merit (lmS g l d jn)) 41
def thM (x : Nat → Int32) (f : Nat → Nat → Int32) (jn cn : Nat) (v : Int32) : Int32 × MX := if decide (0 < npC (f 0) cn v) = true then (nI 0, (failX x (npC (f 0) cn v), f)) else (nI ((thF (f 0) (f 6) (f 7) jn (gof (f 0) v.toNatClampNeg 2) (gof (f 0) v.toNatClampNeg 0)).getD 0), (failX x (npC (f 0) cn v), f))

theorem thS_s {g : Nat → Int32} {jn : Nat} {panel merit : Int32} {z0 : (Nat → Int32) × (Nat → Int32)} : ∀ {i : Nat}, 1 ≤ i → thS g jn panel merit z0 (i + 1) = ((tkS panel merit (thS g jn panel merit z0 i).2 (thS g jn panel merit z0 i).1 jn).2, dbS panel (dbO panel merit (nI (thV g jn panel merit z0 i)) (tkS panel merit (thS g jn panel merit z0 i).2 (thS g jn panel merit z0 i).1 jn).2 (thS g jn panel merit z0 i).2 jn) (thS g jn panel merit z0 i).2 jn)
  | 0, h => absurd h (by decide)
  | _ + 1, _ => rfl
theorem thQ_t {g : Nat → Int32} {jn : Nat} {panel merit : Int32} {z0 : (Nat → Int32) × (Nat → Int32)} {i : Nat} (h : 1 ≤ i) (c : ¬ thV g jn panel merit z0 i = vdM g z0.1 z0.2 jn panel merit) : thQ g jn panel merit z0 i = true := by
  rw [thQ, decide_eq_true (show 0 < i from h), decide_eq_false c]; rfl
theorem thQ_f {g : Nat → Int32} {jn : Nat} {panel merit : Int32} {z0 : (Nat → Int32) × (Nat → Int32)} {i : Nat} (c : thV g jn panel merit z0 i = vdM g z0.1 z0.2 jn panel merit) : thQ g jn panel merit z0 i = false := by
  rw [thQ, decide_eq_true c]; simp
theorem fnd_ext {p q : Nat → Bool} : ∀ {n : Nat}, (∀ k, k < n → p k = q k) → fnd p n = fnd q n
  | 0, _ => rfl
  | n + 1, h => by
    have ih := fnd_ext (p := p) (q := q) (n := n) (fun k hk => h k (by omega))
    rw [fnd, fnd, ih, h n (by omega)]

set_option maxHeartbeats 1000000 in
set_option maxRecDepth 100000 in
theorem c_X8_thoughts (l : Launch) (D : va_G) (cA : Nat → ClassId) (A : Nat → Nat) (x : Nat → Int32) (f : Nat → Nat → Int32) (v : Int32) (jn cn : Nat) (hA : mInj A) (hj : f 0 0 = nI jn) (hjn : jn ≤ 9) (hc : f 0 1 = nI cn) (hcn : cn ≤ 10) : Met l yX8_thoughts (gw yX8_thoughts cX8_thoughts 9 (some .int)) ({ frames := 3, cells := 0, slots := 0, locals := 64 } : Room) (gPc [.ref (A 0), .int (v)] (fun H => va_P D vwCl (mw cA A x f) H) D cA) (wrI (fun r H => r = (thM x f jn cn v).1 ∧ ∃ l9 d9 : Nat → Int32, va_P D vwCl (mw cA A (thM x f jn cn v).2.1 (va_up (va_up f 6 l9) 7 d9)) H) (MA A)) 0 0 (MA A) := by
  refine gOf (by decide) (Nat.le_of_ble_eq_true rfl) ?_
  intro p e s m below meth c ls hx hb hml hr hlk hown hts hnm hP hK hl
  have hl : lv_has ls 9 [(0, .ref (A 0)), (1, .int (v))] := hl
  have hD : va_D (MA A) (mw cA A x f) := mD hA
  have hS : va_S (MA A) s.heap s.heap [] := va_S.rf
  refine lv_aload_n hx hb dX8_thoughts_0 rfl (lv_at hl 0 rfl) ?_
  refine lv_iload_n hx hb dX8_thoughts_1 rfl (lv_at hl 1 rfl) ?_
  refine wr_calli (va_runV (As := [.int (v)]) (rest := []) ⟨hx, hb, hml, hown, hts⟩ (c_X8_isNoPanel l D cA A (x) (f) (v) cn hA hc hcn) (cwV 1 hts (gWV gm_27_18 gm_27_19 gm_27_20 gm_1_5 gm_27_21) rfl rfl rfl (by decide +kernel) ⟨Nat.le_of_ble_eq_true rfl, Nat.le_of_ble_eq_true rfl⟩) (gPreV hK (g_rf hK hP (ci := 10) (q0 := 0) rfl rfl) hP) rfl rfl hl.1 rfl (lv_room (Nat.le_of_ble_eq_true rfl)) dX8_thoughts_2 ⟨by omega, by omega⟩) hS (fun q _ h => h) (fun q h => h) (fun r H locs hw9 hz9 hk9 hS => ?_)
  obtain ⟨rfl, hP⟩ := hw9
  have hP : va_P D vwCl (mw cA A (upd (upd (x) 3 (nI (0))) 4 (nI (npC (f 0) cn (v)))) (f)) H := hP
  have hD : va_D (MA A) (mw cA A (upd (upd (x) 3 (nI (0))) 4 (nI (npC (f 0) cn (v)))) (f)) := mD hA
  refine g_if_eq (P := decide (0 < npC (f 0) cn (v)) = false) (tgt := 10) hx hb dX8_thoughts_5 (by decide) b2i_0 (fun c_1 => ?_) (fun c_1 => ?_)
  · have hz_2 := npC_z c_1
    obtain ⟨j_3, hj_5, ej_4⟩ := isIx_n hz_2.1 (by omega)
    rw [ej_4] at hl
    have hl : lv_has ls 9 [(0, .ref (A 0)), (1, .int (nI (j_3)))] := hl
    refine lv_aload_n hx hb dX8_thoughts_10 rfl (lv_at hl 0 rfl) ?_
    refine lv_iload_n hx hb dX8_thoughts_11 rfl (lv_at hl 1 rfl) ?_
    refine lv_iconst (v := nI (2)) hx hb dX8_thoughts_12 gc_2 ?_
    refine rd_calle (va_runV (As := [.int (nI (j_3)), .int (nI (2))]) (rest := []) ⟨hx, hb, hml, hown, hts⟩ (c_X8_of l D cA A (upd (upd (x) 3 (nI (0))) 4 (nI (npC (f 0) cn (v)))) (f) (j_3) (2) (by omega)) (cwV 2 hts (gWV gm_14_3 gm_14_4 gm_14_5 gm_1_5 gm_14_6) rfl rfl rfl (by decide +kernel) ⟨Nat.le_of_ble_eq_true rfl, Nat.le_of_ble_eq_true rfl⟩) (gPreV hK (g_rf hK hP (ci := 10) (q0 := 0) rfl rfl) hP) rfl rfl hl.1 rfl (lv_room (Nat.le_of_ble_eq_true rfl)) dX8_thoughts_13 ⟨by omega, by omega⟩) ?_
    refine lv_istore_n (lv' := [(2, .int (gof (f 0) (j_3) (2))), (0, .ref (A 0)), (1, .int (nI (j_3)))]) hx hb dX8_thoughts_16 rfl hl (by decide) rfl (fun ls hl => ?_)
    refine lv_aload_n hx hb dX8_thoughts_17 rfl (lv_at hl 1 rfl) ?_
    refine lv_iload_n hx hb dX8_thoughts_18 rfl (lv_at hl 2 rfl) ?_
    refine lv_iconst (v := nI (0)) hx hb dX8_thoughts_19 gc_0 ?_
    refine rd_calle (va_runV (As := [.int (nI (j_3)), .int (nI (0))]) (rest := []) ⟨hx, hb, hml, hown, hts⟩ (c_X8_of l D cA A (upd (upd (x) 3 (nI (0))) 4 (nI (npC (f 0) cn (v)))) (f) (j_3) (0) (by omega)) (cwV 2 hts (gWV gm_14_3 gm_14_4 gm_14_5 gm_1_5 gm_14_6) rfl rfl rfl (by decide +kernel) ⟨Nat.le_of_ble_eq_true rfl, Nat.le_of_ble_eq_true rfl⟩) (gPreV hK (g_rf hK hP (ci := 10) (q0 := 0) rfl rfl) hP) rfl rfl hl.1 rfl (lv_room (Nat.le_of_ble_eq_true rfl)) dX8_thoughts_20 ⟨by omega, by omega⟩) ?_
    refine lv_istore_n (lv' := [(3, .int (gof (f 0) (j_3) (0))), (2, .int (gof (f 0) (j_3) (2))), (0, .ref (A 0)), (1, .int (nI (j_3)))]) hx hb dX8_thoughts_23 rfl hl (by decide) rfl (fun ls hl => ?_)
    refine lv_aload_n hx hb dX8_thoughts_24 rfl (lv_at hl 2 rfl) ?_
    refine wr_callv (va_runV (As := []) (rest := []) ⟨hx, hb, hml, hown, hts⟩ (c_X8_laysMinds l D cA A (upd (upd (x) 3 (nI (0))) 4 (nI (npC (f 0) cn (v)))) (f)  jn hA hj hjn) (cwV 0 hts (gWV gm_17_23 gm_18_0 gm_18_1 gm_1_5 gm_18_2) rfl rfl rfl (by decide +kernel) ⟨Nat.le_of_ble_eq_true rfl, Nat.le_of_ble_eq_true rfl⟩) (gPreV hK (g_rf hK hP (ci := 10) (q0 := 0) rfl rfl) hP) rfl rfl hl.1 rfl (lv_room (Nat.le_of_ble_eq_true rfl)) dX8_thoughts_25 ⟨by omega, by omega⟩) hS (fun q _ h => h) (fun q h => h) (fun H locs hP hz9 hk9 hS => ?_)
    have hP : va_P D vwCl (mw cA A (upd (upd (x) 3 (nI (0))) 4 (nI (npC (f 0) cn (v)))) (va_up (va_up (f) 6 ((lmS (f 0) (f 6) (f 7) jn).1)) 7 ((lmS (f 0) (f 6) (f 7) jn).2))) H := hP
    have hD : va_D (MA A) (mw cA A (upd (upd (x) 3 (nI (0))) 4 (nI (npC (f 0) cn (v)))) (va_up (va_up (f) 6 ((lmS (f 0) (f 6) (f 7) jn).1)) 7 ((lmS (f 0) (f 6) (f 7) jn).2))) := mD hA
    refine lv_aload_n hx hb dX8_thoughts_28 rfl (lv_at hl 2 rfl) ?_
    refine lv_iload_n hx hb dX8_thoughts_29 rfl (lv_at hl 1 rfl) ?_
    refine lv_iload_n hx hb dX8_thoughts_30 rfl (lv_at hl 0 rfl) ?_
    refine rd_calle (va_runV (As := [.int (gof (f 0) (j_3) (2)), .int (gof (f 0) (j_3) (0))]) (rest := []) ⟨hx, hb, hml, hown, hts⟩ (c_X8_verdictBy l D cA A (upd (upd (x) 3 (nI (0))) 4 (nI (npC (f 0) cn (v)))) (va_up (va_up (f) 6 ((lmS (f 0) (f 6) (f 7) jn).1)) 7 ((lmS (f 0) (f 6) (f 7) jn).2)) (gof (f 0) (j_3) (2)) (gof (f 0) (j_3) (0)) jn hj hjn) (cwV 2 hts (gWV gm_18_3 gm_18_4 gm_18_5 gm_1_5 gm_18_6) rfl rfl rfl (by decide +kernel) ⟨Nat.le_of_ble_eq_true rfl, Nat.le_of_ble_eq_true rfl⟩) (gPreV hK (g_rf hK hP (ci := 10) (q0 := 0) rfl rfl) hP) rfl rfl hl.1 rfl (lv_room (Nat.le_of_ble_eq_true rfl)) dX8_thoughts_31 ⟨by omega, by omega⟩) ?_
    refine lv_istore (lv' := [(4, .int (nI (vdM (f 0) ((lmS (f 0) (f 6) (f 7) jn).1) ((lmS (f 0) (f 6) (f 7) jn).2) jn (gof (f 0) (j_3) (2)) (gof (f 0) (j_3) (0))))), (3, .int (gof (f 0) (j_3) (0))), (2, .int (gof (f 0) (j_3) (2))), (0, .ref (A 0)), (1, .int (nI (j_3)))]) hx hb dX8_thoughts_34 hl (by decide) rfl (fun ls hl => ?_)
    refine lv_iconst (v := nI (1)) hx hb dX8_thoughts_36 gc_1 ?_
    refine lv_istore (lv' := [(5, .int (nI (1))), (4, .int (nI (vdM (f 0) ((lmS (f 0) (f 6) (f 7) jn).1) ((lmS (f 0) (f 6) (f 7) jn).2) jn (gof (f 0) (j_3) (2)) (gof (f 0) (j_3) (0))))), (3, .int (gof (f 0) (j_3) (0))), (2, .int (gof (f 0) (j_3) (2))), (0, .ref (A 0)), (1, .int (nI (j_3)))]) hx hb dX8_thoughts_37 hl (by decide) rfl (fun ls hl => ?_)
    have LP_11 : ∀ (n_7 i_6 : Nat) (x_8 : Int32) (F_9 F_10 : Nat → Int32) (H : Heap) (locs : List Loc), i_6 ≤ 41 → 41 + 1 ≤ i_6 + n_7 → x_8 = nI (i_6) → F_9 = (thS (f 0) jn (gof (f 0) (j_3) (2)) (gof (f 0) (j_3) (0)) (lmS (f 0) (f 6) (f 7) jn) i_6).1 → F_10 = (thS (f 0) jn (gof (f 0) (j_3) (2)) (gof (f 0) (j_3) (0)) (lmS (f 0) (f 6) (f 7) jn) i_6).2 → (fnd (thQ (f 0) jn (gof (f 0) (j_3) (2)) (gof (f 0) (j_3) (0)) (lmS (f 0) (f 6) (f 7) jn)) (i_6) = none) → (1 ≤ i_6) → va_P D vwCl (mw cA A (upd (upd (x) 3 (nI (0))) 4 (nI (npC (f 0) cn (v)))) (va_up (va_up (f) 6 (F_9)) 7 (F_10))) H → va_S (MA A) s.heap H locs → ∀ (ls : Array Slot), lv_has ls 9 [(5, .int (x_8)), (4, .int (nI (vdM (f 0) ((lmS (f 0) (f 6) (f 7) jn).1) ((lmS (f 0) (f 6) (f 7) jn).2) jn (gof (f 0) (j_3) (2)) (gof (f 0) (j_3) (0))))), (3, .int (gof (f 0) (j_3) (0))), (2, .int (gof (f 0) (j_3) (2))), (0, .ref (A 0)), (1, .int (nI (j_3)))] → W p l e ({ frames := 3, cells := 0, slots := 0, locals := 64 } : Room) s m ([.ref (A 0), .int (v)] : List Value).toArray below meth c H locs 0 0 (MQ below (wrI (fun r H => r = (thM x f jn cn v).1 ∧ ∃ l9 d9 : Nat → Int32, va_P D vwCl (mw cA A (thM x f jn cn v).2.1 (va_up (va_up f 6 l9) 7 d9)) H) (MA A)) ([.ref (A 0), .int (v)] : List Value).toArray s 0 0 (MA A)) (F0 m 39 ls []) := by
      intro n_7
      induction n_7 with
      | zero => intro i_6 x_8 F_9 F_10 H locs h1 h2; exact absurd h2 (by omega)
      | succ n_7 ih_12 =>
        intro i_6 x_8 F_9 F_10 H locs h_13 h_14 e_15 e_16 e_17 hv hp1 hP hS ls hl
        subst e_15
        subst e_16
        subst e_17
        have hD : va_D (MA A) (mw cA A (upd (upd (x) 3 (nI (0))) 4 (nI (npC (f 0) cn (v)))) (va_up (va_up (f) 6 ((thS (f 0) jn (gof (f 0) (j_3) (2)) (gof (f 0) (j_3) (0)) (lmS (f 0) (f 6) (f 7) jn) i_6).1)) 7 ((thS (f 0) jn (gof (f 0) (j_3) (2)) (gof (f 0) (j_3) (0)) (lmS (f 0) (f 6) (f 7) jn) i_6).2))) := mD hA
        refine lv_iload hx hb dX8_thoughts_39 (lv_at hl 0 rfl) ?_
        refine lv_bipush (v := nI (40)) hx hb dX8_thoughts_41 gb_40 ?_
        refine g_icmp_gt (P := 40 < i_6) (tgt := 96) hx hb dX8_thoughts_43 (by decide) (nI_ltI (by omega) (by omega)) (fun c_18 => ?_) (fun c_18 => ?_)
        · have d_18 : ¬ i_6 ≤ 40 := Nat.not_le.mpr c_18
          have hN_19 : 41 = i_6 := by omega
          subst hN_19
          refine lv_iconst (v := nI (0)) hx hb dX8_thoughts_96 gc_0 ?_
          exact g_iretW (v := nI (0)) hx hb hr hlk hS dX8_thoughts_97 (by have hq9 : v.toNatClampNeg = j_3 := (by rw [ej_4, nI_clamp (by omega)]); rw [thM, hq9, if_neg (bnt c_1)]; exact ⟨(by rw [thF, hv]; rfl), _, _, hP⟩)
        · have d_18 : i_6 ≤ 40 := Nat.not_lt.mp c_18
          refine lv_aload_n hx hb dX8_thoughts_46 rfl (lv_at hl 4 rfl) ?_
          refine lv_iload_n hx hb dX8_thoughts_47 rfl (lv_at hl 3 rfl) ?_
          refine lv_iload_n hx hb dX8_thoughts_48 rfl (lv_at hl 2 rfl) ?_
          refine wr_calli (va_runV (As := [.int (gof (f 0) (j_3) (2)), .int (gof (f 0) (j_3) (0))]) (rest := []) ⟨hx, hb, hml, hown, hts⟩ (c_X8_thinks l D cA A (upd (upd (x) 3 (nI (0))) 4 (nI (npC (f 0) cn (v)))) (va_up (va_up (f) 6 ((thS (f 0) jn (gof (f 0) (j_3) (2)) (gof (f 0) (j_3) (0)) (lmS (f 0) (f 6) (f 7) jn) i_6).1)) 7 ((thS (f 0) jn (gof (f 0) (j_3) (2)) (gof (f 0) (j_3) (0)) (lmS (f 0) (f 6) (f 7) jn) i_6).2)) (gof (f 0) (j_3) (2)) (gof (f 0) (j_3) (0)) jn hA hj hjn) (cwV 2 hts (gWV gm_19_23 gm_20_0 gm_20_1 gm_1_5 gm_20_2) rfl rfl rfl (by decide +kernel) ⟨Nat.le_of_ble_eq_true rfl, Nat.le_of_ble_eq_true rfl⟩) (gPreV hK (g_rf hK hP (ci := 10) (q0 := 0) rfl rfl) hP) rfl rfl hl.1 rfl (lv_room (Nat.le_of_ble_eq_true rfl)) dX8_thoughts_49 ⟨by omega, by omega⟩) hS (fun q _ h => h) (fun q h => h) (fun r H locs hw9 hz9 hk9 hS => ?_)
          obtain ⟨rfl, hP⟩ := hw9
          have hP : va_P D vwCl (mw cA A (upd (upd (x) 3 (nI (0))) 4 (nI (npC (f 0) cn (v)))) (va_up (va_up (f) 6 ((tkS (gof (f 0) (j_3) (2)) (gof (f 0) (j_3) (0)) ((thS (f 0) jn (gof (f 0) (j_3) (2)) (gof (f 0) (j_3) (0)) (lmS (f 0) (f 6) (f 7) jn) i_6).2) ((thS (f 0) jn (gof (f 0) (j_3) (2)) (gof (f 0) (j_3) (0)) (lmS (f 0) (f 6) (f 7) jn) i_6).1) jn).2)) 7 ((thS (f 0) jn (gof (f 0) (j_3) (2)) (gof (f 0) (j_3) (0)) (lmS (f 0) (f 6) (f 7) jn) i_6).2))) H := hP
          have hD : va_D (MA A) (mw cA A (upd (upd (x) 3 (nI (0))) 4 (nI (npC (f 0) cn (v)))) (va_up (va_up (f) 6 ((tkS (gof (f 0) (j_3) (2)) (gof (f 0) (j_3) (0)) ((thS (f 0) jn (gof (f 0) (j_3) (2)) (gof (f 0) (j_3) (0)) (lmS (f 0) (f 6) (f 7) jn) i_6).2) ((thS (f 0) jn (gof (f 0) (j_3) (2)) (gof (f 0) (j_3) (0)) (lmS (f 0) (f 6) (f 7) jn) i_6).1) jn).2)) 7 ((thS (f 0) jn (gof (f 0) (j_3) (2)) (gof (f 0) (j_3) (0)) (lmS (f 0) (f 6) (f 7) jn) i_6).2))) := mD hA
          refine lv_istore (lv' := [(6, .int ((tkS (gof (f 0) (j_3) (2)) (gof (f 0) (j_3) (0)) ((thS (f 0) jn (gof (f 0) (j_3) (2)) (gof (f 0) (j_3) (0)) (lmS (f 0) (f 6) (f 7) jn) i_6).2) ((thS (f 0) jn (gof (f 0) (j_3) (2)) (gof (f 0) (j_3) (0)) (lmS (f 0) (f 6) (f 7) jn) i_6).1) jn).1)), (5, .int (nI (i_6))), (4, .int (nI (vdM (f 0) ((lmS (f 0) (f 6) (f 7) jn).1) ((lmS (f 0) (f 6) (f 7) jn).2) jn (gof (f 0) (j_3) (2)) (gof (f 0) (j_3) (0))))), (3, .int (gof (f 0) (j_3) (0))), (2, .int (gof (f 0) (j_3) (2))), (0, .ref (A 0)), (1, .int (nI (j_3)))]) hx hb dX8_thoughts_52 hl (by decide) rfl (fun ls hl => ?_)
          refine lv_aload_n hx hb dX8_thoughts_54 rfl (lv_at hl 5 rfl) ?_
          refine lv_iload_n hx hb dX8_thoughts_55 rfl (lv_at hl 4 rfl) ?_
          refine lv_iload_n hx hb dX8_thoughts_56 rfl (lv_at hl 3 rfl) ?_
          refine rd_calle (va_runV (As := [.int (gof (f 0) (j_3) (2)), .int (gof (f 0) (j_3) (0))]) (rest := []) ⟨hx, hb, hml, hown, hts⟩ (c_X8_verdictBy l D cA A (upd (upd (x) 3 (nI (0))) 4 (nI (npC (f 0) cn (v)))) (va_up (va_up (f) 6 ((tkS (gof (f 0) (j_3) (2)) (gof (f 0) (j_3) (0)) ((thS (f 0) jn (gof (f 0) (j_3) (2)) (gof (f 0) (j_3) (0)) (lmS (f 0) (f 6) (f 7) jn) i_6).2) ((thS (f 0) jn (gof (f 0) (j_3) (2)) (gof (f 0) (j_3) (0)) (lmS (f 0) (f 6) (f 7) jn) i_6).1) jn).2)) 7 ((thS (f 0) jn (gof (f 0) (j_3) (2)) (gof (f 0) (j_3) (0)) (lmS (f 0) (f 6) (f 7) jn) i_6).2)) (gof (f 0) (j_3) (2)) (gof (f 0) (j_3) (0)) jn hj hjn) (cwV 2 hts (gWV gm_18_3 gm_18_4 gm_18_5 gm_1_5 gm_18_6) rfl rfl rfl (by decide +kernel) ⟨Nat.le_of_ble_eq_true rfl, Nat.le_of_ble_eq_true rfl⟩) (gPreV hK (g_rf hK hP (ci := 10) (q0 := 0) rfl rfl) hP) rfl rfl hl.1 rfl (lv_room (Nat.le_of_ble_eq_true rfl)) dX8_thoughts_57 ⟨by omega, by omega⟩) ?_
          have hle_20 := vdM_le (g := f 0) (l := (tkS (gof (f 0) (j_3) (2)) (gof (f 0) (j_3) (0)) ((thS (f 0) jn (gof (f 0) (j_3) (2)) (gof (f 0) (j_3) (0)) (lmS (f 0) (f 6) (f 7) jn) i_6).2) ((thS (f 0) jn (gof (f 0) (j_3) (2)) (gof (f 0) (j_3) (0)) (lmS (f 0) (f 6) (f 7) jn) i_6).1) jn).2) (d := (thS (f 0) jn (gof (f 0) (j_3) (2)) (gof (f 0) (j_3) (0)) (lmS (f 0) (f 6) (f 7) jn) i_6).2) (jn := jn) (panel := (gof (f 0) (j_3) (2))) (merit := (gof (f 0) (j_3) (0)))
          have hle_21 := vdM_le (g := f 0) (l := (lmS (f 0) (f 6) (f 7) jn).1) (d := (lmS (f 0) (f 6) (f 7) jn).2) (jn := jn) (panel := (gof (f 0) (j_3) (2))) (merit := (gof (f 0) (j_3) (0)))
          refine lv_istore (lv' := [(7, .int (nI (vdM (f 0) ((tkS (gof (f 0) (j_3) (2)) (gof (f 0) (j_3) (0)) ((thS (f 0) jn (gof (f 0) (j_3) (2)) (gof (f 0) (j_3) (0)) (lmS (f 0) (f 6) (f 7) jn) i_6).2) ((thS (f 0) jn (gof (f 0) (j_3) (2)) (gof (f 0) (j_3) (0)) (lmS (f 0) (f 6) (f 7) jn) i_6).1) jn).2) ((thS (f 0) jn (gof (f 0) (j_3) (2)) (gof (f 0) (j_3) (0)) (lmS (f 0) (f 6) (f 7) jn) i_6).2) jn (gof (f 0) (j_3) (2)) (gof (f 0) (j_3) (0))))), (6, .int ((tkS (gof (f 0) (j_3) (2)) (gof (f 0) (j_3) (0)) ((thS (f 0) jn (gof (f 0) (j_3) (2)) (gof (f 0) (j_3) (0)) (lmS (f 0) (f 6) (f 7) jn) i_6).2) ((thS (f 0) jn (gof (f 0) (j_3) (2)) (gof (f 0) (j_3) (0)) (lmS (f 0) (f 6) (f 7) jn) i_6).1) jn).1)), (5, .int (nI (i_6))), (4, .int (nI (vdM (f 0) ((lmS (f 0) (f 6) (f 7) jn).1) ((lmS (f 0) (f 6) (f 7) jn).2) jn (gof (f 0) (j_3) (2)) (gof (f 0) (j_3) (0))))), (3, .int (gof (f 0) (j_3) (0))), (2, .int (gof (f 0) (j_3) (2))), (0, .ref (A 0)), (1, .int (nI (j_3)))]) hx hb dX8_thoughts_60 hl (by decide) rfl (fun ls hl => ?_)
          refine lv_aload_n hx hb dX8_thoughts_62 rfl (lv_at hl 6 rfl) ?_
          refine lv_iload_n hx hb dX8_thoughts_63 rfl (lv_at hl 5 rfl) ?_
          refine lv_iload_n hx hb dX8_thoughts_64 rfl (lv_at hl 4 rfl) ?_
          refine lv_iload hx hb dX8_thoughts_65 (lv_at hl 0 rfl) ?_
          refine wr_calli (va_runV (As := [.int (gof (f 0) (j_3) (2)), .int (gof (f 0) (j_3) (0)), .int (nI (vdM (f 0) ((tkS (gof (f 0) (j_3) (2)) (gof (f 0) (j_3) (0)) ((thS (f 0) jn (gof (f 0) (j_3) (2)) (gof (f 0) (j_3) (0)) (lmS (f 0) (f 6) (f 7) jn) i_6).2) ((thS (f 0) jn (gof (f 0) (j_3) (2)) (gof (f 0) (j_3) (0)) (lmS (f 0) (f 6) (f 7) jn) i_6).1) jn).2) ((thS (f 0) jn (gof (f 0) (j_3) (2)) (gof (f 0) (j_3) (0)) (lmS (f 0) (f 6) (f 7) jn) i_6).2) jn (gof (f 0) (j_3) (2)) (gof (f 0) (j_3) (0))))]) (rest := []) ⟨hx, hb, hml, hown, hts⟩ (c_X8_doubtsBy l D cA A (upd (upd (x) 3 (nI (0))) 4 (nI (npC (f 0) cn (v)))) (va_up (va_up (f) 6 ((tkS (gof (f 0) (j_3) (2)) (gof (f 0) (j_3) (0)) ((thS (f 0) jn (gof (f 0) (j_3) (2)) (gof (f 0) (j_3) (0)) (lmS (f 0) (f 6) (f 7) jn) i_6).2) ((thS (f 0) jn (gof (f 0) (j_3) (2)) (gof (f 0) (j_3) (0)) (lmS (f 0) (f 6) (f 7) jn) i_6).1) jn).2)) 7 ((thS (f 0) jn (gof (f 0) (j_3) (2)) (gof (f 0) (j_3) (0)) (lmS (f 0) (f 6) (f 7) jn) i_6).2)) (gof (f 0) (j_3) (2)) (gof (f 0) (j_3) (0)) (nI (vdM (f 0) ((tkS (gof (f 0) (j_3) (2)) (gof (f 0) (j_3) (0)) ((thS (f 0) jn (gof (f 0) (j_3) (2)) (gof (f 0) (j_3) (0)) (lmS (f 0) (f 6) (f 7) jn) i_6).2) ((thS (f 0) jn (gof (f 0) (j_3) (2)) (gof (f 0) (j_3) (0)) (lmS (f 0) (f 6) (f 7) jn) i_6).1) jn).2) ((thS (f 0) jn (gof (f 0) (j_3) (2)) (gof (f 0) (j_3) (0)) (lmS (f 0) (f 6) (f 7) jn) i_6).2) jn (gof (f 0) (j_3) (2)) (gof (f 0) (j_3) (0)))) jn hA hj hjn) (cwV 3 hts (gWV gm_18_11 gm_18_12 gm_18_13 gm_1_5 gm_18_14) rfl rfl rfl (by decide +kernel) ⟨Nat.le_of_ble_eq_true rfl, Nat.le_of_ble_eq_true rfl⟩) (gPreV hK (g_rf hK hP (ci := 10) (q0 := 0) rfl rfl) hP) rfl rfl hl.1 rfl (lv_room (Nat.le_of_ble_eq_true rfl)) dX8_thoughts_67 ⟨by omega, by omega⟩) hS (fun q _ h => h) (fun q h => h) (fun r H locs hw9 hz9 hk9 hS => ?_)
          obtain ⟨rfl, hP⟩ := hw9
          have hP : va_P D vwCl (mw cA A (upd (upd (x) 3 (nI (0))) 4 (nI (npC (f 0) cn (v)))) (va_up (va_up (f) 6 ((tkS (gof (f 0) (j_3) (2)) (gof (f 0) (j_3) (0)) ((thS (f 0) jn (gof (f 0) (j_3) (2)) (gof (f 0) (j_3) (0)) (lmS (f 0) (f 6) (f 7) jn) i_6).2) ((thS (f 0) jn (gof (f 0) (j_3) (2)) (gof (f 0) (j_3) (0)) (lmS (f 0) (f 6) (f 7) jn) i_6).1) jn).2)) 7 (dbS (gof (f 0) (j_3) (2)) (dbO (gof (f 0) (j_3) (2)) (gof (f 0) (j_3) (0)) (nI (vdM (f 0) ((tkS (gof (f 0) (j_3) (2)) (gof (f 0) (j_3) (0)) ((thS (f 0) jn (gof (f 0) (j_3) (2)) (gof (f 0) (j_3) (0)) (lmS (f 0) (f 6) (f 7) jn) i_6).2) ((thS (f 0) jn (gof (f 0) (j_3) (2)) (gof (f 0) (j_3) (0)) (lmS (f 0) (f 6) (f 7) jn) i_6).1) jn).2) ((thS (f 0) jn (gof (f 0) (j_3) (2)) (gof (f 0) (j_3) (0)) (lmS (f 0) (f 6) (f 7) jn) i_6).2) jn (gof (f 0) (j_3) (2)) (gof (f 0) (j_3) (0)))) ((tkS (gof (f 0) (j_3) (2)) (gof (f 0) (j_3) (0)) ((thS (f 0) jn (gof (f 0) (j_3) (2)) (gof (f 0) (j_3) (0)) (lmS (f 0) (f 6) (f 7) jn) i_6).2) ((thS (f 0) jn (gof (f 0) (j_3) (2)) (gof (f 0) (j_3) (0)) (lmS (f 0) (f 6) (f 7) jn) i_6).1) jn).2) ((thS (f 0) jn (gof (f 0) (j_3) (2)) (gof (f 0) (j_3) (0)) (lmS (f 0) (f 6) (f 7) jn) i_6).2) jn) ((thS (f 0) jn (gof (f 0) (j_3) (2)) (gof (f 0) (j_3) (0)) (lmS (f 0) (f 6) (f 7) jn) i_6).2) jn))) H := hP
          have hD : va_D (MA A) (mw cA A (upd (upd (x) 3 (nI (0))) 4 (nI (npC (f 0) cn (v)))) (va_up (va_up (f) 6 ((tkS (gof (f 0) (j_3) (2)) (gof (f 0) (j_3) (0)) ((thS (f 0) jn (gof (f 0) (j_3) (2)) (gof (f 0) (j_3) (0)) (lmS (f 0) (f 6) (f 7) jn) i_6).2) ((thS (f 0) jn (gof (f 0) (j_3) (2)) (gof (f 0) (j_3) (0)) (lmS (f 0) (f 6) (f 7) jn) i_6).1) jn).2)) 7 (dbS (gof (f 0) (j_3) (2)) (dbO (gof (f 0) (j_3) (2)) (gof (f 0) (j_3) (0)) (nI (vdM (f 0) ((tkS (gof (f 0) (j_3) (2)) (gof (f 0) (j_3) (0)) ((thS (f 0) jn (gof (f 0) (j_3) (2)) (gof (f 0) (j_3) (0)) (lmS (f 0) (f 6) (f 7) jn) i_6).2) ((thS (f 0) jn (gof (f 0) (j_3) (2)) (gof (f 0) (j_3) (0)) (lmS (f 0) (f 6) (f 7) jn) i_6).1) jn).2) ((thS (f 0) jn (gof (f 0) (j_3) (2)) (gof (f 0) (j_3) (0)) (lmS (f 0) (f 6) (f 7) jn) i_6).2) jn (gof (f 0) (j_3) (2)) (gof (f 0) (j_3) (0)))) ((tkS (gof (f 0) (j_3) (2)) (gof (f 0) (j_3) (0)) ((thS (f 0) jn (gof (f 0) (j_3) (2)) (gof (f 0) (j_3) (0)) (lmS (f 0) (f 6) (f 7) jn) i_6).2) ((thS (f 0) jn (gof (f 0) (j_3) (2)) (gof (f 0) (j_3) (0)) (lmS (f 0) (f 6) (f 7) jn) i_6).1) jn).2) ((thS (f 0) jn (gof (f 0) (j_3) (2)) (gof (f 0) (j_3) (0)) (lmS (f 0) (f 6) (f 7) jn) i_6).2) jn) ((thS (f 0) jn (gof (f 0) (j_3) (2)) (gof (f 0) (j_3) (0)) (lmS (f 0) (f 6) (f 7) jn) i_6).2) jn))) := mD hA
          refine lv_istore (lv' := [(8, .int (dbO (gof (f 0) (j_3) (2)) (gof (f 0) (j_3) (0)) (nI (vdM (f 0) ((tkS (gof (f 0) (j_3) (2)) (gof (f 0) (j_3) (0)) ((thS (f 0) jn (gof (f 0) (j_3) (2)) (gof (f 0) (j_3) (0)) (lmS (f 0) (f 6) (f 7) jn) i_6).2) ((thS (f 0) jn (gof (f 0) (j_3) (2)) (gof (f 0) (j_3) (0)) (lmS (f 0) (f 6) (f 7) jn) i_6).1) jn).2) ((thS (f 0) jn (gof (f 0) (j_3) (2)) (gof (f 0) (j_3) (0)) (lmS (f 0) (f 6) (f 7) jn) i_6).2) jn (gof (f 0) (j_3) (2)) (gof (f 0) (j_3) (0)))) ((tkS (gof (f 0) (j_3) (2)) (gof (f 0) (j_3) (0)) ((thS (f 0) jn (gof (f 0) (j_3) (2)) (gof (f 0) (j_3) (0)) (lmS (f 0) (f 6) (f 7) jn) i_6).2) ((thS (f 0) jn (gof (f 0) (j_3) (2)) (gof (f 0) (j_3) (0)) (lmS (f 0) (f 6) (f 7) jn) i_6).1) jn).2) ((thS (f 0) jn (gof (f 0) (j_3) (2)) (gof (f 0) (j_3) (0)) (lmS (f 0) (f 6) (f 7) jn) i_6).2) jn)), (7, .int (nI (vdM (f 0) ((tkS (gof (f 0) (j_3) (2)) (gof (f 0) (j_3) (0)) ((thS (f 0) jn (gof (f 0) (j_3) (2)) (gof (f 0) (j_3) (0)) (lmS (f 0) (f 6) (f 7) jn) i_6).2) ((thS (f 0) jn (gof (f 0) (j_3) (2)) (gof (f 0) (j_3) (0)) (lmS (f 0) (f 6) (f 7) jn) i_6).1) jn).2) ((thS (f 0) jn (gof (f 0) (j_3) (2)) (gof (f 0) (j_3) (0)) (lmS (f 0) (f 6) (f 7) jn) i_6).2) jn (gof (f 0) (j_3) (2)) (gof (f 0) (j_3) (0))))), (6, .int ((tkS (gof (f 0) (j_3) (2)) (gof (f 0) (j_3) (0)) ((thS (f 0) jn (gof (f 0) (j_3) (2)) (gof (f 0) (j_3) (0)) (lmS (f 0) (f 6) (f 7) jn) i_6).2) ((thS (f 0) jn (gof (f 0) (j_3) (2)) (gof (f 0) (j_3) (0)) (lmS (f 0) (f 6) (f 7) jn) i_6).1) jn).1)), (5, .int (nI (i_6))), (4, .int (nI (vdM (f 0) ((lmS (f 0) (f 6) (f 7) jn).1) ((lmS (f 0) (f 6) (f 7) jn).2) jn (gof (f 0) (j_3) (2)) (gof (f 0) (j_3) (0))))), (3, .int (gof (f 0) (j_3) (0))), (2, .int (gof (f 0) (j_3) (2))), (0, .ref (A 0)), (1, .int (nI (j_3)))]) hx hb dX8_thoughts_70 hl (by decide) rfl (fun ls hl => ?_)
          refine lv_iload hx hb dX8_thoughts_72 (lv_at hl 1 rfl) ?_
          refine lv_iload hx hb dX8_thoughts_74 (lv_at hl 4 rfl) ?_
          refine g_icmp_eq (P := vdM (f 0) ((tkS (gof (f 0) (j_3) (2)) (gof (f 0) (j_3) (0)) ((thS (f 0) jn (gof (f 0) (j_3) (2)) (gof (f 0) (j_3) (0)) (lmS (f 0) (f 6) (f 7) jn) i_6).2) ((thS (f 0) jn (gof (f 0) (j_3) (2)) (gof (f 0) (j_3) (0)) (lmS (f 0) (f 6) (f 7) jn) i_6).1) jn).2) ((thS (f 0) jn (gof (f 0) (j_3) (2)) (gof (f 0) (j_3) (0)) (lmS (f 0) (f 6) (f 7) jn) i_6).2) jn (gof (f 0) (j_3) (2)) (gof (f 0) (j_3) (0)) = vdM (f 0) ((lmS (f 0) (f 6) (f 7) jn).1) ((lmS (f 0) (f 6) (f 7) jn).2) jn (gof (f 0) (j_3) (2)) (gof (f 0) (j_3) (0))) (tgt := 90) hx hb dX8_thoughts_76 (by decide) (nI_eq (by omega) (by omega)) (fun c_22 => ?_) (fun c_22 => ?_)
          · refine lv_iinc (v := nI (i_6 + 1)) (lv' := [(5, .int (nI (i_6 + 1))), (8, .int (dbO (gof (f 0) (j_3) (2)) (gof (f 0) (j_3) (0)) (nI (vdM (f 0) ((tkS (gof (f 0) (j_3) (2)) (gof (f 0) (j_3) (0)) ((thS (f 0) jn (gof (f 0) (j_3) (2)) (gof (f 0) (j_3) (0)) (lmS (f 0) (f 6) (f 7) jn) i_6).2) ((thS (f 0) jn (gof (f 0) (j_3) (2)) (gof (f 0) (j_3) (0)) (lmS (f 0) (f 6) (f 7) jn) i_6).1) jn).2) ((thS (f 0) jn (gof (f 0) (j_3) (2)) (gof (f 0) (j_3) (0)) (lmS (f 0) (f 6) (f 7) jn) i_6).2) jn (gof (f 0) (j_3) (2)) (gof (f 0) (j_3) (0)))) ((tkS (gof (f 0) (j_3) (2)) (gof (f 0) (j_3) (0)) ((thS (f 0) jn (gof (f 0) (j_3) (2)) (gof (f 0) (j_3) (0)) (lmS (f 0) (f 6) (f 7) jn) i_6).2) ((thS (f 0) jn (gof (f 0) (j_3) (2)) (gof (f 0) (j_3) (0)) (lmS (f 0) (f 6) (f 7) jn) i_6).1) jn).2) ((thS (f 0) jn (gof (f 0) (j_3) (2)) (gof (f 0) (j_3) (0)) (lmS (f 0) (f 6) (f 7) jn) i_6).2) jn)), (7, .int (nI (vdM (f 0) ((tkS (gof (f 0) (j_3) (2)) (gof (f 0) (j_3) (0)) ((thS (f 0) jn (gof (f 0) (j_3) (2)) (gof (f 0) (j_3) (0)) (lmS (f 0) (f 6) (f 7) jn) i_6).2) ((thS (f 0) jn (gof (f 0) (j_3) (2)) (gof (f 0) (j_3) (0)) (lmS (f 0) (f 6) (f 7) jn) i_6).1) jn).2) ((thS (f 0) jn (gof (f 0) (j_3) (2)) (gof (f 0) (j_3) (0)) (lmS (f 0) (f 6) (f 7) jn) i_6).2) jn (gof (f 0) (j_3) (2)) (gof (f 0) (j_3) (0))))), (6, .int ((tkS (gof (f 0) (j_3) (2)) (gof (f 0) (j_3) (0)) ((thS (f 0) jn (gof (f 0) (j_3) (2)) (gof (f 0) (j_3) (0)) (lmS (f 0) (f 6) (f 7) jn) i_6).2) ((thS (f 0) jn (gof (f 0) (j_3) (2)) (gof (f 0) (j_3) (0)) (lmS (f 0) (f 6) (f 7) jn) i_6).1) jn).1)), (4, .int (nI (vdM (f 0) ((lmS (f 0) (f 6) (f 7) jn).1) ((lmS (f 0) (f 6) (f 7) jn).2) jn (gof (f 0) (j_3) (2)) (gof (f 0) (j_3) (0))))), (3, .int (gof (f 0) (j_3) (0))), (2, .int (gof (f 0) (j_3) (2))), (0, .ref (A 0)), (1, .int (nI (j_3)))]) hx hb dX8_thoughts_90 hl (k := 3) rfl (inc_1 _) (by decide) rfl (fun ls hl => ?_)
            refine lv_goto (tgt := 39) hx hb dX8_thoughts_93 (by decide) ?_
            exact ih_12 (i_6 + 1) _ ((tkS (gof (f 0) (j_3) (2)) (gof (f 0) (j_3) (0)) ((thS (f 0) jn (gof (f 0) (j_3) (2)) (gof (f 0) (j_3) (0)) (lmS (f 0) (f 6) (f 7) jn) i_6).2) ((thS (f 0) jn (gof (f 0) (j_3) (2)) (gof (f 0) (j_3) (0)) (lmS (f 0) (f 6) (f 7) jn) i_6).1) jn).2) (dbS (gof (f 0) (j_3) (2)) (dbO (gof (f 0) (j_3) (2)) (gof (f 0) (j_3) (0)) (nI (vdM (f 0) ((tkS (gof (f 0) (j_3) (2)) (gof (f 0) (j_3) (0)) ((thS (f 0) jn (gof (f 0) (j_3) (2)) (gof (f 0) (j_3) (0)) (lmS (f 0) (f 6) (f 7) jn) i_6).2) ((thS (f 0) jn (gof (f 0) (j_3) (2)) (gof (f 0) (j_3) (0)) (lmS (f 0) (f 6) (f 7) jn) i_6).1) jn).2) ((thS (f 0) jn (gof (f 0) (j_3) (2)) (gof (f 0) (j_3) (0)) (lmS (f 0) (f 6) (f 7) jn) i_6).2) jn (gof (f 0) (j_3) (2)) (gof (f 0) (j_3) (0)))) ((tkS (gof (f 0) (j_3) (2)) (gof (f 0) (j_3) (0)) ((thS (f 0) jn (gof (f 0) (j_3) (2)) (gof (f 0) (j_3) (0)) (lmS (f 0) (f 6) (f 7) jn) i_6).2) ((thS (f 0) jn (gof (f 0) (j_3) (2)) (gof (f 0) (j_3) (0)) (lmS (f 0) (f 6) (f 7) jn) i_6).1) jn).2) ((thS (f 0) jn (gof (f 0) (j_3) (2)) (gof (f 0) (j_3) (0)) (lmS (f 0) (f 6) (f 7) jn) i_6).2) jn) ((thS (f 0) jn (gof (f 0) (j_3) (2)) (gof (f 0) (j_3) (0)) (lmS (f 0) (f 6) (f 7) jn) i_6).2) jn) H locs (by omega) (by omega) rfl (by rw [thS_s hp1]) (by rw [thS_s hp1]; rfl) (fnd_succ_none hv (thQ_f c_22)) (by omega) hP hS ls (lv_sub hl [0, 4, 5, 6, 7, 8] rfl)
          · refine lv_iload hx hb dX8_thoughts_79 (lv_at hl 2 rfl) ?_
            refine lv_iload hx hb dX8_thoughts_81 (lv_at hl 0 rfl) ?_
            refine lv_iadd hx hb dX8_thoughts_83 ?_
            refine g_if_lt (P := ((tkS (gof (f 0) (j_3) (2)) (gof (f 0) (j_3) (0)) ((thS (f 0) jn (gof (f 0) (j_3) (2)) (gof (f 0) (j_3) (0)) (lmS (f 0) (f 6) (f 7) jn) i_6).2) ((thS (f 0) jn (gof (f 0) (j_3) (2)) (gof (f 0) (j_3) (0)) (lmS (f 0) (f 6) (f 7) jn) i_6).1) jn).1) + (dbO (gof (f 0) (j_3) (2)) (gof (f 0) (j_3) (0)) (nI (vdM (f 0) ((tkS (gof (f 0) (j_3) (2)) (gof (f 0) (j_3) (0)) ((thS (f 0) jn (gof (f 0) (j_3) (2)) (gof (f 0) (j_3) (0)) (lmS (f 0) (f 6) (f 7) jn) i_6).2) ((thS (f 0) jn (gof (f 0) (j_3) (2)) (gof (f 0) (j_3) (0)) (lmS (f 0) (f 6) (f 7) jn) i_6).1) jn).2) ((thS (f 0) jn (gof (f 0) (j_3) (2)) (gof (f 0) (j_3) (0)) (lmS (f 0) (f 6) (f 7) jn) i_6).2) jn (gof (f 0) (j_3) (2)) (gof (f 0) (j_3) (0)))) ((tkS (gof (f 0) (j_3) (2)) (gof (f 0) (j_3) (0)) ((thS (f 0) jn (gof (f 0) (j_3) (2)) (gof (f 0) (j_3) (0)) (lmS (f 0) (f 6) (f 7) jn) i_6).2) ((thS (f 0) jn (gof (f 0) (j_3) (2)) (gof (f 0) (j_3) (0)) (lmS (f 0) (f 6) (f 7) jn) i_6).1) jn).2) ((thS (f 0) jn (gof (f 0) (j_3) (2)) (gof (f 0) (j_3) (0)) (lmS (f 0) (f 6) (f 7) jn) i_6).2) jn) < 0) (tgt := 90) hx hb dX8_thoughts_84 (by decide) Iff.rfl (fun c_23 => ?_) (fun c_23 => ?_)
            · have d_23 : ¬ 0 ≤ ((tkS (gof (f 0) (j_3) (2)) (gof (f 0) (j_3) (0)) ((thS (f 0) jn (gof (f 0) (j_3) (2)) (gof (f 0) (j_3) (0)) (lmS (f 0) (f 6) (f 7) jn) i_6).2) ((thS (f 0) jn (gof (f 0) (j_3) (2)) (gof (f 0) (j_3) (0)) (lmS (f 0) (f 6) (f 7) jn) i_6).1) jn).1) + (dbO (gof (f 0) (j_3) (2)) (gof (f 0) (j_3) (0)) (nI (vdM (f 0) ((tkS (gof (f 0) (j_3) (2)) (gof (f 0) (j_3) (0)) ((thS (f 0) jn (gof (f 0) (j_3) (2)) (gof (f 0) (j_3) (0)) (lmS (f 0) (f 6) (f 7) jn) i_6).2) ((thS (f 0) jn (gof (f 0) (j_3) (2)) (gof (f 0) (j_3) (0)) (lmS (f 0) (f 6) (f 7) jn) i_6).1) jn).2) ((thS (f 0) jn (gof (f 0) (j_3) (2)) (gof (f 0) (j_3) (0)) (lmS (f 0) (f 6) (f 7) jn) i_6).2) jn (gof (f 0) (j_3) (2)) (gof (f 0) (j_3) (0)))) ((tkS (gof (f 0) (j_3) (2)) (gof (f 0) (j_3) (0)) ((thS (f 0) jn (gof (f 0) (j_3) (2)) (gof (f 0) (j_3) (0)) (lmS (f 0) (f 6) (f 7) jn) i_6).2) ((thS (f 0) jn (gof (f 0) (j_3) (2)) (gof (f 0) (j_3) (0)) (lmS (f 0) (f 6) (f 7) jn) i_6).1) jn).2) ((thS (f 0) jn (gof (f 0) (j_3) (2)) (gof (f 0) (j_3) (0)) (lmS (f 0) (f 6) (f 7) jn) i_6).2) jn) := Int32.not_le.mpr c_23
              exact absurd c_23 (th_pos hjn)
            · have d_23 : 0 ≤ ((tkS (gof (f 0) (j_3) (2)) (gof (f 0) (j_3) (0)) ((thS (f 0) jn (gof (f 0) (j_3) (2)) (gof (f 0) (j_3) (0)) (lmS (f 0) (f 6) (f 7) jn) i_6).2) ((thS (f 0) jn (gof (f 0) (j_3) (2)) (gof (f 0) (j_3) (0)) (lmS (f 0) (f 6) (f 7) jn) i_6).1) jn).1) + (dbO (gof (f 0) (j_3) (2)) (gof (f 0) (j_3) (0)) (nI (vdM (f 0) ((tkS (gof (f 0) (j_3) (2)) (gof (f 0) (j_3) (0)) ((thS (f 0) jn (gof (f 0) (j_3) (2)) (gof (f 0) (j_3) (0)) (lmS (f 0) (f 6) (f 7) jn) i_6).2) ((thS (f 0) jn (gof (f 0) (j_3) (2)) (gof (f 0) (j_3) (0)) (lmS (f 0) (f 6) (f 7) jn) i_6).1) jn).2) ((thS (f 0) jn (gof (f 0) (j_3) (2)) (gof (f 0) (j_3) (0)) (lmS (f 0) (f 6) (f 7) jn) i_6).2) jn (gof (f 0) (j_3) (2)) (gof (f 0) (j_3) (0)))) ((tkS (gof (f 0) (j_3) (2)) (gof (f 0) (j_3) (0)) ((thS (f 0) jn (gof (f 0) (j_3) (2)) (gof (f 0) (j_3) (0)) (lmS (f 0) (f 6) (f 7) jn) i_6).2) ((thS (f 0) jn (gof (f 0) (j_3) (2)) (gof (f 0) (j_3) (0)) (lmS (f 0) (f 6) (f 7) jn) i_6).1) jn).2) ((thS (f 0) jn (gof (f 0) (j_3) (2)) (gof (f 0) (j_3) (0)) (lmS (f 0) (f 6) (f 7) jn) i_6).2) jn) := Int32.not_lt.mp c_23
              refine lv_iload hx hb dX8_thoughts_87 (lv_at hl 3 rfl) ?_
              exact g_iretW (v := nI (i_6)) hx hb hr hlk hS dX8_thoughts_89 (by have hq9 : v.toNatClampNeg = j_3 := (by rw [ej_4, nI_clamp (by omega)]); rw [thM, hq9, if_neg (bnt c_1)]; exact ⟨(by rw [thF, fnd_stop hv (thQ_t hp1 c_22) 41 (by omega)]; rfl), _, _, hP⟩)
    exact LP_11 (41 + 1) 1 _ ((lmS (f 0) (f 6) (f 7) jn).1) ((lmS (f 0) (f 6) (f 7) jn).2) H locs (by omega) (by omega) rfl rfl rfl rfl (Nat.le_refl 1) hP hS ls (lv_sub hl [0, 1, 2, 3, 4, 5] rfl)
  · have c_1 : decide (0 < npC (f 0) cn (v)) = true := eq_true_of_ne_false c_1
    refine lv_iconst (v := nI (0)) hx hb dX8_thoughts_8 gc_0 ?_
    exact g_iretW (v := nI (0)) hx hb hr hlk hS dX8_thoughts_9 (by rw [thM, if_pos c_1]; exact ⟨rfl, f 6, f 7, (by rw [vup_id rfl, vup_id rfl]; exact hP)⟩)

theorem lowM_sp {v : Int32} {i : Nat} (h : hs v i = true) (hi : i < 9) : lowM v < 9 ∧ hs v (lowM v) = true ∧ ∀ k, k < lowM v → hs v k = false := by
  cases e : fnd (hs v) 9 with
  | none => exact absurd (fnd_some.fnd_no e i hi) (by rw [h]; decide)
  | some j =>
    have e2 : lowM v = j := by rw [lowM, e]; rfl
    rw [e2]
    exact ⟨fnd_lt e, (fnd_some e).1, (fnd_some e).2⟩

theorem liB_z {panel : Int32} {s5 : Nat → Int32} {q mer ter jn : Nat} (h : panel = 0) : liB panel s5 q mer ter jn = lpS panel (liA s5 q mer ter) jn := by rw [liB, if_pos h]
theorem liB_p {panel : Int32} {s5 : Nat → Int32} {q mer ter jn : Nat} (h : ¬ panel = 0) : liB panel s5 q mer ter jn = tw 93 (lpS panel (liA s5 q mer ter) jn) := by rw [liB, if_neg h]
theorem liC_z {vd : Int32} (h : vd ≤ 0) {ts : TS} : liC vd ts = ts := by rw [liC, if_pos h]
theorem liC_a {vd : Int32} (h : ¬ vd ≤ 0) (h2 : vd = nI 1) {ts : TS} : liC vd ts = tw 43 ts := by rw [liC, if_neg h, if_pos h2]
theorem liC_b {vd : Int32} (h : ¬ vd ≤ 0) (h2 : ¬ vd = nI 1) {ts : TS} : liC vd ts = tw 45 ts := by rw [liC, if_neg h, if_neg h2]

set_option maxHeartbeats 1000000 in
set_option maxRecDepth 100000 in
theorem c_X8_line (l : Launch) (D : va_G) (cA : Nat → ClassId) (A : Nat → Nat) (x : Nat → Int32) (f : Nat → Nat → Int32) (v : Int32) (jn cn : Nat) (hA : mInj A) (hj : f 0 0 = nI jn) (hjn : jn ≤ 9) (hc : f 0 1 = nI cn) (hcn : cn ≤ 10) (hln : ∀ q, q < cn → ∃ a b : Nat, a ≤ 100 ∧ b ≤ 99 ∧ gof (f 0) q 0 = nI a ∧ gof (f 0) q 1 = nI b) : Met l yX8_line (gw yX8_line cX8_line 4 (some .int)) ({ frames := 4, cells := 0, slots := 0, locals := 84 } : Room) (gPc [.ref (A 0), .int (v)] (fun H => va_P D vwCl (mw cA A x f) H) D cA) (wrI (fun r H => r = (lnO x f jn cn v).1 ∧ va_P D vwCl (mw cA A (lnO x f jn cn v).2.1 (lnO x f jn cn v).2.2) H) (MA A)) 0 0 (MA A) := by
  refine gOf (by decide) (Nat.le_of_ble_eq_true rfl) ?_
  intro p e s m below meth c ls hx hb hml hr hlk hown hts hnm hP hK hl
  have hl : lv_has ls 4 [(0, .ref (A 0)), (1, .int (v))] := hl
  have hD : va_D (MA A) (mw cA A x f) := mD hA
  have hS : va_S (MA A) s.heap s.heap [] := va_S.rf
  refine lv_aload_n hx hb dX8_line_0 rfl (lv_at hl 0 rfl) ?_
  refine lv_aload_n hx hb dX8_line_1 rfl (lv_at hl 0 rfl) ?_
  refine lv_iload_n hx hb dX8_line_2 rfl (lv_at hl 1 rfl) ?_
  refine rd_calle (va_runV (As := [.int (v)]) (rest := [.ref (A 0)]) ⟨hx, hb, hml, hown, hts⟩ (c_X8_isCase l D cA A (x) (f) (v) cn hc hcn) (cwV 1 hts (gWV gm_13_23 gm_14_0 gm_14_1 gm_1_5 gm_14_2) rfl rfl rfl (by decide +kernel) ⟨Nat.le_of_ble_eq_true rfl, Nat.le_of_ble_eq_true rfl⟩) (gPreV hK (g_rf hK hP (ci := 10) (q0 := 0) rfl rfl) hP) rfl rfl hl.1 rfl (lv_room (Nat.le_of_ble_eq_true rfl)) dX8_line_3 ⟨by omega, by omega⟩) ?_
  refine g_if_eq (P := isIx (v) cn = false) (tgt := 13) hx hb dX8_line_6 (by decide) b2i_0 (fun c_1 => ?_) (fun c_1 => ?_)
  · refine lv_iconst (v := nI (1)) hx hb dX8_line_13 gc_1 ?_
    refine wr_calli (va_runV (As := [.int (nI (1))]) (rest := []) ⟨hx, hb, hml, hown, hts⟩ (c_X8_fails l D cA A (x) (f) (1)  hA (by decide)) (cwV 1 hts (gWV gm_8_23 gm_9_0 gm_9_1 gm_1_5 gm_9_2) rfl rfl rfl (by decide +kernel) ⟨Nat.le_of_ble_eq_true rfl, Nat.le_of_ble_eq_true rfl⟩) (gPreV hK (g_rf hK hP (ci := 10) (q0 := 0) rfl rfl) hP) rfl rfl hl.1 rfl (lv_room (Nat.le_of_ble_eq_true rfl)) dX8_line_14 ⟨by omega, by omega⟩) hS (fun q _ h => h) (fun q h => h) (fun r H locs hw9 hz9 hk9 hS => ?_)
    obtain ⟨rfl, hP⟩ := hw9
    have hP : va_P D vwCl (mw cA A (upd (upd (x) 3 (nI (0))) 4 (nI (1))) (f)) H := hP
    have hD : va_D (MA A) (mw cA A (upd (upd (x) 3 (nI (0))) 4 (nI (1))) (f)) := mD hA
    refine g_if_eq (P := true = false) (tgt := 22) hx hb dX8_line_17 (by decide) b2i_0 (fun c_2 => ?_) (fun c_2 => ?_)
    · exact absurd c_2 (by decide)
    · have c_2 : true = true := eq_true_of_ne_false c_2
      refine lv_iconst (v := nI (0)) hx hb dX8_line_20 gc_0 ?_
      exact g_iretW (v := nI (0)) hx hb hr hlk hS dX8_line_21 (by rw [lnO, if_neg (bnt c_1)]; exact ⟨rfl, hP⟩)
  · have c_1 : isIx (v) cn = true := eq_true_of_ne_false c_1
    obtain ⟨j_3, hj_5, ej_4⟩ := isIx_n c_1 (by omega)
    rw [ej_4] at hl
    have hl : lv_has ls 4 [(0, .ref (A 0)), (1, .int (nI (j_3)))] := hl
    obtain ⟨mer, ter, hm9, ht9, hme, hte⟩ := hln j_3 hj_5
    refine lv_iconst (v := nI (0)) hx hb dX8_line_9 gc_0 ?_
    refine lv_goto (tgt := 14) hx hb dX8_line_10 (by decide) ?_
    refine wr_calli (va_runV (As := [.int (nI (0))]) (rest := []) ⟨hx, hb, hml, hown, hts⟩ (c_X8_fails l D cA A (x) (f) (0)  hA (by decide)) (cwV 1 hts (gWV gm_8_23 gm_9_0 gm_9_1 gm_1_5 gm_9_2) rfl rfl rfl (by decide +kernel) ⟨Nat.le_of_ble_eq_true rfl, Nat.le_of_ble_eq_true rfl⟩) (gPreV hK (g_rf hK hP (ci := 10) (q0 := 0) rfl rfl) hP) rfl rfl hl.1 rfl (lv_room (Nat.le_of_ble_eq_true rfl)) dX8_line_14 ⟨by omega, by omega⟩) hS (fun q _ h => h) (fun q h => h) (fun r H locs hw9 hz9 hk9 hS => ?_)
    obtain ⟨rfl, hP⟩ := hw9
    have hP : va_P D vwCl (mw cA A (upd (upd (x) 3 (nI (0))) 4 (nI (0))) (f)) H := hP
    have hD : va_D (MA A) (mw cA A (upd (upd (x) 3 (nI (0))) 4 (nI (0))) (f)) := mD hA
    refine g_if_eq (P := false = false) (tgt := 22) hx hb dX8_line_17 (by decide) b2i_0 (fun c_6 => ?_) (fun c_6 => ?_)
    · refine lv_aload_n hx hb dX8_line_22 rfl (lv_at hl 0 rfl) ?_
      refine lv_iconst (v := nI (0)) hx hb dX8_line_23 gc_0 ?_
      refine g_put (ws' := mw cA A (upd (upd (upd (x) 3 (nI (0))) 4 (nI (0))) 9 (nI (0))) (f)) hx hb hts hown hK hP hD hS 0 rfl rfl gu_wsX80 tyX8_ok nmX8 15 (by decide) gm_37_4 rfl rfl rfl (Nat.le_of_ble_eq_true rfl) rfl dX8_line_24 (fun H locs hP hD hS => ?_)
      have htb_7 : (((f 5, 0) : TS)).2 ≤ 0 := Nat.le_refl 0
      refine lv_aload_n hx hb dX8_line_27 rfl (lv_at hl 0 rfl) ?_
      refine lv_iload_n hx hb dX8_line_28 rfl (lv_at hl 1 rfl) ?_
      refine wr_callv (va_runV (As := [.int (nI (j_3))]) (rest := []) ⟨hx, hb, hml, hown, hts⟩ (c_X8_writesNumber_1 l D cA A (upd (upd (upd (x) 3 (nI (0))) 4 (nI (0))) 9 (nI ((((f 5, 0) : TS)).2))) (va_up (f) 5 ((((f 5, 0) : TS)).1)) ((((f 5, 0) : TS)).2) (j_3) hA (by rfl) (by omega) (by omega)) (cwV 1 hts (gWV gm_37_5 gm_37_6 gm_37_7 gm_1_5 gm_37_8) rfl rfl rfl (by decide +kernel) ⟨Nat.le_of_ble_eq_true rfl, Nat.le_of_ble_eq_true rfl⟩) (gPreV hK (g_rf hK hP (ci := 10) (q0 := 0) rfl rfl) hP) rfl rfl hl.1 rfl (lv_room (Nat.le_of_ble_eq_true rfl)) dX8_line_29 ⟨by omega, by omega⟩) hS (fun q _ h => h) (fun q h => h) (fun H locs hP hz9 hk9 hS => ?_)
      have hP : va_P D vwCl (mw cA A (upd (upd (upd (x) 3 (nI (0))) 4 (nI (0))) 9 (nI ((tn (j_3) (((f 5, 0) : TS))).2))) (va_up (f) 5 ((tn (j_3) (((f 5, 0) : TS))).1))) H := hP
      have hD : va_D (MA A) (mw cA A (upd (upd (upd (x) 3 (nI (0))) 4 (nI (0))) 9 (nI ((tn (j_3) (((f 5, 0) : TS))).2))) (va_up (f) 5 ((tn (j_3) (((f 5, 0) : TS))).1))) := mD hA
      have htb_8 : (tn (j_3) (((f 5, 0) : TS))).2 ≤ 0 + 1 := (by rw [tn_29 (by omega)]; omega)
      refine lv_aload_n hx hb dX8_line_32 rfl (lv_at hl 0 rfl) ?_
      refine lv_bipush (v := nI (58)) hx hb dX8_line_33 gb_58 ?_
      refine wr_callv (va_runV (As := [.int (nI (58))]) (rest := []) ⟨hx, hb, hml, hown, hts⟩ (c_X8_writes l D cA A (upd (upd (upd (x) 3 (nI (0))) 4 (nI (0))) 9 (nI ((tn (j_3) (((f 5, 0) : TS))).2))) (va_up (f) 5 ((tn (j_3) (((f 5, 0) : TS))).1)) ((tn (j_3) (((f 5, 0) : TS))).2) (58) hA (by rfl) (by omega) (by omega)) (cwV 1 hts (gWV gm_37_9 gm_37_10 gm_37_11 gm_1_5 gm_37_12) rfl rfl rfl (by decide +kernel) ⟨Nat.le_of_ble_eq_true rfl, Nat.le_of_ble_eq_true rfl⟩) (gPreV hK (g_rf hK hP (ci := 10) (q0 := 0) rfl rfl) hP) rfl rfl hl.1 rfl (lv_room (Nat.le_of_ble_eq_true rfl)) dX8_line_35 ⟨by omega, by omega⟩) hS (fun q _ h => h) (fun q h => h) (fun H locs hP hz9 hk9 hS => ?_)
      have hP : va_P D vwCl (mw cA A (upd (upd (upd (x) 3 (nI (0))) 4 (nI (0))) 9 (nI ((tw (58) (tn (j_3) (((f 5, 0) : TS)))).2))) (va_up (f) 5 ((tw (58) (tn (j_3) (((f 5, 0) : TS)))).1))) H := hP
      have hD : va_D (MA A) (mw cA A (upd (upd (upd (x) 3 (nI (0))) 4 (nI (0))) 9 (nI ((tw (58) (tn (j_3) (((f 5, 0) : TS)))).2))) (va_up (f) 5 ((tw (58) (tn (j_3) (((f 5, 0) : TS)))).1))) := mD hA
      have htb_9 : (tw (58) (tn (j_3) (((f 5, 0) : TS)))).2 ≤ 0 + 1 + 1 := (by rw [tw_2]; omega)
      refine lv_aload_n hx hb dX8_line_38 rfl (lv_at hl 0 rfl) ?_
      refine lv_aload_n hx hb dX8_line_39 rfl (lv_at hl 0 rfl) ?_
      refine lv_iload_n hx hb dX8_line_40 rfl (lv_at hl 1 rfl) ?_
      refine lv_iconst (v := nI (0)) hx hb dX8_line_41 gc_0 ?_
      refine rd_calle (va_runV (As := [.int (nI (j_3)), .int (nI (0))]) (rest := [.ref (A 0)]) ⟨hx, hb, hml, hown, hts⟩ (c_X8_of l D cA A (upd (upd (upd (x) 3 (nI (0))) 4 (nI (0))) 9 (nI ((tw (58) (tn (j_3) (((f 5, 0) : TS)))).2))) (va_up (f) 5 ((tw (58) (tn (j_3) (((f 5, 0) : TS)))).1)) (j_3) (0) (by omega)) (cwV 2 hts (gWV gm_14_3 gm_14_4 gm_14_5 gm_1_5 gm_14_6) rfl rfl rfl (by decide +kernel) ⟨Nat.le_of_ble_eq_true rfl, Nat.le_of_ble_eq_true rfl⟩) (gPreV hK (g_rf hK hP (ci := 10) (q0 := 0) rfl rfl) hP) rfl rfl hl.1 rfl (lv_room (Nat.le_of_ble_eq_true rfl)) dX8_line_42 ⟨by omega, by omega⟩) ?_
      refine g_top hme ?_
      refine wr_callv (va_runV (As := [.int (nI (mer))]) (rest := []) ⟨hx, hb, hml, hown, hts⟩ (c_X8_writesNumber_3 l D cA A (upd (upd (upd (x) 3 (nI (0))) 4 (nI (0))) 9 (nI ((tw (58) (tn (j_3) (((f 5, 0) : TS)))).2))) (va_up (f) 5 ((tw (58) (tn (j_3) (((f 5, 0) : TS)))).1)) ((tw (58) (tn (j_3) (((f 5, 0) : TS)))).2) (mer) hA (by rfl) (by omega) (by omega)) (cwV 1 hts (gWV gm_37_5 gm_37_6 gm_37_7 gm_1_5 gm_37_8) rfl rfl rfl (by decide +kernel) ⟨Nat.le_of_ble_eq_true rfl, Nat.le_of_ble_eq_true rfl⟩) (gPreV hK (g_rf hK hP (ci := 10) (q0 := 0) rfl rfl) hP) rfl rfl hl.1 rfl (lv_room (Nat.le_of_ble_eq_true rfl)) dX8_line_45 ⟨by omega, by omega⟩) hS (fun q _ h => h) (fun q h => h) (fun H locs hP hz9 hk9 hS => ?_)
      have hP : va_P D vwCl (mw cA A (upd (upd (upd (x) 3 (nI (0))) 4 (nI (0))) 9 (nI ((tn (mer) (tw (58) (tn (j_3) (((f 5, 0) : TS))))).2))) (va_up (f) 5 ((tn (mer) (tw (58) (tn (j_3) (((f 5, 0) : TS))))).1))) H := hP
      have hD : va_D (MA A) (mw cA A (upd (upd (upd (x) 3 (nI (0))) 4 (nI (0))) 9 (nI ((tn (mer) (tw (58) (tn (j_3) (((f 5, 0) : TS))))).2))) (va_up (f) 5 ((tn (mer) (tw (58) (tn (j_3) (((f 5, 0) : TS))))).1))) := mD hA
      have htb_10 : (tn (mer) (tw (58) (tn (j_3) (((f 5, 0) : TS))))).2 ≤ 0 + 1 + 1 + 3 := (by have q9 := (tn_2 (ts := tw (58) (tn (j_3) (((f 5, 0) : TS)))) (n := mer) (by omega)).2; omega)
      refine lv_aload_n hx hb dX8_line_48 rfl (lv_at hl 0 rfl) ?_
      refine lv_bipush (v := nI (64)) hx hb dX8_line_49 gb_64 ?_
      refine wr_callv (va_runV (As := [.int (nI (64))]) (rest := []) ⟨hx, hb, hml, hown, hts⟩ (c_X8_writes l D cA A (upd (upd (upd (x) 3 (nI (0))) 4 (nI (0))) 9 (nI ((tn (mer) (tw (58) (tn (j_3) (((f 5, 0) : TS))))).2))) (va_up (f) 5 ((tn (mer) (tw (58) (tn (j_3) (((f 5, 0) : TS))))).1)) ((tn (mer) (tw (58) (tn (j_3) (((f 5, 0) : TS))))).2) (64) hA (by rfl) (by omega) (by omega)) (cwV 1 hts (gWV gm_37_9 gm_37_10 gm_37_11 gm_1_5 gm_37_12) rfl rfl rfl (by decide +kernel) ⟨Nat.le_of_ble_eq_true rfl, Nat.le_of_ble_eq_true rfl⟩) (gPreV hK (g_rf hK hP (ci := 10) (q0 := 0) rfl rfl) hP) rfl rfl hl.1 rfl (lv_room (Nat.le_of_ble_eq_true rfl)) dX8_line_51 ⟨by omega, by omega⟩) hS (fun q _ h => h) (fun q h => h) (fun H locs hP hz9 hk9 hS => ?_)
      have hP : va_P D vwCl (mw cA A (upd (upd (upd (x) 3 (nI (0))) 4 (nI (0))) 9 (nI ((tw (64) (tn (mer) (tw (58) (tn (j_3) (((f 5, 0) : TS)))))).2))) (va_up (f) 5 ((tw (64) (tn (mer) (tw (58) (tn (j_3) (((f 5, 0) : TS)))))).1))) H := hP
      have hD : va_D (MA A) (mw cA A (upd (upd (upd (x) 3 (nI (0))) 4 (nI (0))) 9 (nI ((tw (64) (tn (mer) (tw (58) (tn (j_3) (((f 5, 0) : TS)))))).2))) (va_up (f) 5 ((tw (64) (tn (mer) (tw (58) (tn (j_3) (((f 5, 0) : TS)))))).1))) := mD hA
      have htb_11 : (tw (64) (tn (mer) (tw (58) (tn (j_3) (((f 5, 0) : TS)))))).2 ≤ 0 + 1 + 1 + 3 + 1 := (by rw [tw_2]; omega)
      refine lv_aload_n hx hb dX8_line_54 rfl (lv_at hl 0 rfl) ?_
      refine lv_aload_n hx hb dX8_line_55 rfl (lv_at hl 0 rfl) ?_
      refine lv_iload_n hx hb dX8_line_56 rfl (lv_at hl 1 rfl) ?_
      refine lv_iconst (v := nI (1)) hx hb dX8_line_57 gc_1 ?_
      refine rd_calle (va_runV (As := [.int (nI (j_3)), .int (nI (1))]) (rest := [.ref (A 0)]) ⟨hx, hb, hml, hown, hts⟩ (c_X8_of l D cA A (upd (upd (upd (x) 3 (nI (0))) 4 (nI (0))) 9 (nI ((tw (64) (tn (mer) (tw (58) (tn (j_3) (((f 5, 0) : TS)))))).2))) (va_up (f) 5 ((tw (64) (tn (mer) (tw (58) (tn (j_3) (((f 5, 0) : TS)))))).1)) (j_3) (1) (by omega)) (cwV 2 hts (gWV gm_14_3 gm_14_4 gm_14_5 gm_1_5 gm_14_6) rfl rfl rfl (by decide +kernel) ⟨Nat.le_of_ble_eq_true rfl, Nat.le_of_ble_eq_true rfl⟩) (gPreV hK (g_rf hK hP (ci := 10) (q0 := 0) rfl rfl) hP) rfl rfl hl.1 rfl (lv_room (Nat.le_of_ble_eq_true rfl)) dX8_line_58 ⟨by omega, by omega⟩) ?_
      refine g_top hte ?_
      refine wr_callv (va_runV (As := [.int (nI (ter))]) (rest := []) ⟨hx, hb, hml, hown, hts⟩ (c_X8_writesNumber_2 l D cA A (upd (upd (upd (x) 3 (nI (0))) 4 (nI (0))) 9 (nI ((tw (64) (tn (mer) (tw (58) (tn (j_3) (((f 5, 0) : TS)))))).2))) (va_up (f) 5 ((tw (64) (tn (mer) (tw (58) (tn (j_3) (((f 5, 0) : TS)))))).1)) ((tw (64) (tn (mer) (tw (58) (tn (j_3) (((f 5, 0) : TS)))))).2) (ter) hA (by rfl) (by omega) (by omega)) (cwV 1 hts (gWV gm_37_5 gm_37_6 gm_37_7 gm_1_5 gm_37_8) rfl rfl rfl (by decide +kernel) ⟨Nat.le_of_ble_eq_true rfl, Nat.le_of_ble_eq_true rfl⟩) (gPreV hK (g_rf hK hP (ci := 10) (q0 := 0) rfl rfl) hP) rfl rfl hl.1 rfl (lv_room (Nat.le_of_ble_eq_true rfl)) dX8_line_61 ⟨by omega, by omega⟩) hS (fun q _ h => h) (fun q h => h) (fun H locs hP hz9 hk9 hS => ?_)
      have hP : va_P D vwCl (mw cA A (upd (upd (upd (x) 3 (nI (0))) 4 (nI (0))) 9 (nI ((tn (ter) (tw (64) (tn (mer) (tw (58) (tn (j_3) (((f 5, 0) : TS))))))).2))) (va_up (f) 5 ((tn (ter) (tw (64) (tn (mer) (tw (58) (tn (j_3) (((f 5, 0) : TS))))))).1))) H := hP
      have hD : va_D (MA A) (mw cA A (upd (upd (upd (x) 3 (nI (0))) 4 (nI (0))) 9 (nI ((tn (ter) (tw (64) (tn (mer) (tw (58) (tn (j_3) (((f 5, 0) : TS))))))).2))) (va_up (f) 5 ((tn (ter) (tw (64) (tn (mer) (tw (58) (tn (j_3) (((f 5, 0) : TS))))))).1))) := mD hA
      have htb_12 : (tn (ter) (tw (64) (tn (mer) (tw (58) (tn (j_3) (((f 5, 0) : TS))))))).2 ≤ 0 + 1 + 1 + 3 + 1 + 3 := (by have q9 := (tn_2 (ts := tw (64) (tn (mer) (tw (58) (tn (j_3) (((f 5, 0) : TS)))))) (n := ter) (by omega)).2; omega)
      have hliA : (liA (f 5) j_3 mer ter).2 ≤ 9 := htb_12
      refine lv_aload_n hx hb dX8_line_64 rfl (lv_at hl 0 rfl) ?_
      refine lv_iload_n hx hb dX8_line_65 rfl (lv_at hl 1 rfl) ?_
      refine lv_iconst (v := nI (2)) hx hb dX8_line_66 gc_2 ?_
      refine rd_calle (va_runV (As := [.int (nI (j_3)), .int (nI (2))]) (rest := []) ⟨hx, hb, hml, hown, hts⟩ (c_X8_of l D cA A (upd (upd (upd (x) 3 (nI (0))) 4 (nI (0))) 9 (nI ((tn (ter) (tw (64) (tn (mer) (tw (58) (tn (j_3) (((f 5, 0) : TS))))))).2))) (va_up (f) 5 ((tn (ter) (tw (64) (tn (mer) (tw (58) (tn (j_3) (((f 5, 0) : TS))))))).1)) (j_3) (2) (by omega)) (cwV 2 hts (gWV gm_14_3 gm_14_4 gm_14_5 gm_1_5 gm_14_6) rfl rfl rfl (by decide +kernel) ⟨Nat.le_of_ble_eq_true rfl, Nat.le_of_ble_eq_true rfl⟩) (gPreV hK (g_rf hK hP (ci := 10) (q0 := 0) rfl rfl) hP) rfl rfl hl.1 rfl (lv_room (Nat.le_of_ble_eq_true rfl)) dX8_line_67 ⟨by omega, by omega⟩) ?_
      refine lv_istore_n (lv' := [(2, .int (gof (f 0) (j_3) (2))), (0, .ref (A 0)), (1, .int (nI (j_3)))]) hx hb dX8_line_70 rfl hl (by decide) rfl (fun ls hl => ?_)
      refine lv_iconst (v := nI (0)) hx hb dX8_line_71 gc_0 ?_
      refine lv_istore_n (lv' := [(3, .int (nI (0))), (2, .int (gof (f 0) (j_3) (2))), (0, .ref (A 0)), (1, .int (nI (j_3)))]) hx hb dX8_line_72 rfl hl (by decide) rfl (fun ls hl => ?_)
      have LP_18 : ∀ (n_14 i_13 : Nat) (x_15 X_16 : Int32) (F_17 : Nat → Int32) (H : Heap) (locs : List Loc), i_13 ≤ jn → jn + 1 ≤ i_13 + n_14 → x_15 = nI (i_13) → X_16 = nI ((lpS (gof (f 0) (j_3) (2)) (liA (f 5) j_3 mer ter) i_13).2) → F_17 = (lpS (gof (f 0) (j_3) (2)) (liA (f 5) j_3 mer ter) i_13).1 → va_P D vwCl (mw cA A (upd (upd (upd (x) 3 (nI (0))) 4 (nI (0))) 9 (X_16)) (va_up (f) 5 (F_17))) H → va_S (MA A) s.heap H locs → ∀ (ls : Array Slot), lv_has ls 4 [(3, .int (x_15)), (2, .int (gof (f 0) (j_3) (2))), (0, .ref (A 0)), (1, .int (nI (j_3)))] → W p l e ({ frames := 4, cells := 0, slots := 0, locals := 84 } : Room) s m ([.ref (A 0), .int (v)] : List Value).toArray below meth c H locs 0 0 (MQ below (wrI (fun r H => r = (lnO x f jn cn v).1 ∧ va_P D vwCl (mw cA A (lnO x f jn cn v).2.1 (lnO x f jn cn v).2.2) H) (MA A)) ([.ref (A 0), .int (v)] : List Value).toArray s 0 0 (MA A)) (F0 m 73 ls []) := by
        intro n_14
        induction n_14 with
        | zero => intro i_13 x_15 X_16 F_17 H locs h1 h2; exact absurd h2 (by omega)
        | succ n_14 ih_19 =>
          intro i_13 x_15 X_16 F_17 H locs h_20 h_21 e_22 e_23 e_24 hP hS ls hl
          subst e_22
          subst e_23
          subst e_24
          have hD : va_D (MA A) (mw cA A (upd (upd (upd (x) 3 (nI (0))) 4 (nI (0))) 9 (nI ((lpS (gof (f 0) (j_3) (2)) (liA (f 5) j_3 mer ter) i_13).2))) (va_up (f) 5 ((lpS (gof (f 0) (j_3) (2)) (liA (f 5) j_3 mer ter) i_13).1))) := mD hA
          have hla9 := lpS_2 (panel := gof (f 0) (j_3) (2)) (ts := liA (f 5) j_3 mer ter) i_13 (by omega)
          have htb_25 : (lpS (gof (f 0) (j_3) (2)) (liA (f 5) j_3 mer ter) i_13).2 ≤ 29 := (by omega)
          refine lv_iload_n hx hb dX8_line_73 rfl (lv_at hl 0 rfl) ?_
          refine lv_aload_n hx hb dX8_line_74 rfl (lv_at hl 2 rfl) ?_
          refine g_get (v := .ref (A 1)) hx hb hts hown hK hP 0 rfl rfl gu_wsX80 0 (by decide) gm_5_14 rfl dX8_line_75 ?_
          refine lv_iconst (v := nI (0)) hx hb dX8_line_78 gc_0 ?_
          refine g_iald (x := nI (jn)) hx hb hK hP 1 rfl (by omega) (by decide) hj dX8_line_79 ?_
          refine g_icmp_ge (P := jn ≤ i_13) (tgt := 124) hx hb dX8_line_80 (by decide) (nI_leI (by omega) (by omega)) (fun c_26 => ?_) (fun c_26 => ?_)
          · have d_26 : ¬ i_13 < jn := Nat.not_lt.mpr c_26
            have hN_27 : jn = i_13 := by omega
            subst hN_27
            refine lv_iload_n hx hb dX8_line_124 rfl (lv_at hl 1 rfl) ?_
            refine g_if_eq (P := gof (f 0) (j_3) (2) = 0) (tgt := 134) hx hb dX8_line_125 (by decide) Iff.rfl (fun c_28 => ?_) (fun c_28 => ?_)
            · refine lv_aload_n hx hb dX8_line_134 rfl (lv_at hl 2 rfl) ?_
              refine lv_iload_n hx hb dX8_line_135 rfl (lv_at hl 3 rfl) ?_
              refine lv_iconst (v := nI (3)) hx hb dX8_line_136 gc_3 ?_
              refine rd_calle (va_runV (As := [.int (nI (j_3)), .int (nI (3))]) (rest := []) ⟨hx, hb, hml, hown, hts⟩ (c_X8_of l D cA A (upd (upd (upd (x) 3 (nI (0))) 4 (nI (0))) 9 (nI ((lpS (gof (f 0) (j_3) (2)) (liA (f 5) j_3 mer ter) (jn)).2))) (va_up (f) 5 ((lpS (gof (f 0) (j_3) (2)) (liA (f 5) j_3 mer ter) (jn)).1)) (j_3) (3) (by omega)) (cwV 2 hts (gWV gm_14_3 gm_14_4 gm_14_5 gm_1_5 gm_14_6) rfl rfl rfl (by decide +kernel) ⟨Nat.le_of_ble_eq_true rfl, Nat.le_of_ble_eq_true rfl⟩) (gPreV hK (g_rf hK hP (ci := 10) (q0 := 0) rfl rfl) hP) rfl rfl hl.1 rfl (lv_room (Nat.le_of_ble_eq_true rfl)) dX8_line_137 ⟨by omega, by omega⟩) ?_
              refine g_if_le (P := gof (f 0) (j_3) (3) ≤ 0) (tgt := 164) hx hb dX8_line_140 (by decide) Iff.rfl (fun c_29 => ?_) (fun c_29 => ?_)
              · have d_29 : ¬ 0 < gof (f 0) (j_3) (3) := Int32.not_lt.mpr c_29
                refine lv_aload_n hx hb dX8_line_164 rfl (lv_at hl 2 rfl) ?_
                refine lv_iload_n hx hb dX8_line_165 rfl (lv_at hl 3 rfl) ?_
                refine rd_calle (va_runV (As := [.int (nI (j_3))]) (rest := []) ⟨hx, hb, hml, hown, hts⟩ (c_X8_isClosed l D cA A (upd (upd (upd (x) 3 (nI (0))) 4 (nI (0))) 9 (nI ((lpS (gof (f 0) (j_3) (2)) (liA (f 5) j_3 mer ter) (jn)).2))) (va_up (f) 5 ((lpS (gof (f 0) (j_3) (2)) (liA (f 5) j_3 mer ter) (jn)).1)) (j_3) (by omega)) (cwV 1 hts (gWV gm_14_17 gm_14_18 gm_14_19 gm_1_5 gm_14_20) rfl rfl rfl (by decide +kernel) ⟨Nat.le_of_ble_eq_true rfl, Nat.le_of_ble_eq_true rfl⟩) (gPreV hK (g_rf hK hP (ci := 10) (q0 := 0) rfl rfl) hP) rfl rfl hl.1 rfl (lv_room (Nat.le_of_ble_eq_true rfl)) dX8_line_166 ⟨by omega, by omega⟩) ?_
                refine g_if_eq (P := clM (f 0) (j_3) = false) (tgt := 178) hx hb dX8_line_169 (by decide) b2i_0 (fun c_30 => ?_) (fun c_30 => ?_)
                · refine lv_aload_n hx hb dX8_line_178 rfl (lv_at hl 2 rfl) ?_
                  refine g_get (v := .int (nI ((lpS (gof (f 0) (j_3) (2)) (liA (f 5) j_3 mer ter) (jn)).2))) hx hb hts hown hK hP 0 rfl rfl gu_wsX80 15 (by decide) gm_37_4 rfl dX8_line_179 ?_
                  exact g_iretW (v := nI ((lpS (gof (f 0) (j_3) (2)) (liA (f 5) j_3 mer ter) (jn)).2)) hx hb hr hlk hS dX8_line_182 (by have hq9 : v.toNatClampNeg = j_3 := (by rw [ej_4, nI_clamp (by omega)]); have hm8 : (gof (f 0) j_3 0).toNatClampNeg = mer := (by rw [hme, nI_clamp (by omega)]); have ht8 : (gof (f 0) j_3 1).toNatClampNeg = ter := (by rw [hte, nI_clamp (by omega)]); have eB := liB_z (s5 := f 5) (q := j_3) (mer := mer) (ter := ter) (jn := jn) c_28; have eC := liC_z c_29 (ts := liB (gof (f 0) j_3 2) (f 5) j_3 mer ter jn); have eL : lineT (f 0) (f 5) jn j_3 mer ter = liD (clM (f 0) j_3) (liC (gof (f 0) j_3 3) (liB (gof (f 0) j_3 2) (f 5) j_3 mer ter jn)) := rfl; rw [eC, eB, c_30] at eL; rw [lnO, if_pos c_1, hq9, hm8, ht8, eL]; exact ⟨rfl, hP⟩)
                · have c_30 : clM (f 0) (j_3) = true := eq_true_of_ne_false c_30
                  refine lv_aload_n hx hb dX8_line_172 rfl (lv_at hl 2 rfl) ?_
                  refine lv_bipush (v := nI (33)) hx hb dX8_line_173 gb_33 ?_
                  refine wr_callv (va_runV (As := [.int (nI (33))]) (rest := []) ⟨hx, hb, hml, hown, hts⟩ (c_X8_writes l D cA A (upd (upd (upd (x) 3 (nI (0))) 4 (nI (0))) 9 (nI ((lpS (gof (f 0) (j_3) (2)) (liA (f 5) j_3 mer ter) (jn)).2))) (va_up (f) 5 ((lpS (gof (f 0) (j_3) (2)) (liA (f 5) j_3 mer ter) (jn)).1)) ((lpS (gof (f 0) (j_3) (2)) (liA (f 5) j_3 mer ter) (jn)).2) (33) hA (by rfl) (by omega) (by omega)) (cwV 1 hts (gWV gm_37_9 gm_37_10 gm_37_11 gm_1_5 gm_37_12) rfl rfl rfl (by decide +kernel) ⟨Nat.le_of_ble_eq_true rfl, Nat.le_of_ble_eq_true rfl⟩) (gPreV hK (g_rf hK hP (ci := 10) (q0 := 0) rfl rfl) hP) rfl rfl hl.1 rfl (lv_room (Nat.le_of_ble_eq_true rfl)) dX8_line_175 ⟨by omega, by omega⟩) hS (fun q _ h => h) (fun q h => h) (fun H locs hP hz9 hk9 hS => ?_)
                  have hP : va_P D vwCl (mw cA A (upd (upd (upd (x) 3 (nI (0))) 4 (nI (0))) 9 (nI ((tw (33) (lpS (gof (f 0) (j_3) (2)) (liA (f 5) j_3 mer ter) (jn))).2))) (va_up (f) 5 ((tw (33) (lpS (gof (f 0) (j_3) (2)) (liA (f 5) j_3 mer ter) (jn))).1))) H := hP
                  have hD : va_D (MA A) (mw cA A (upd (upd (upd (x) 3 (nI (0))) 4 (nI (0))) 9 (nI ((tw (33) (lpS (gof (f 0) (j_3) (2)) (liA (f 5) j_3 mer ter) (jn))).2))) (va_up (f) 5 ((tw (33) (lpS (gof (f 0) (j_3) (2)) (liA (f 5) j_3 mer ter) (jn))).1))) := mD hA
                  have htb_31 : (tw (33) (lpS (gof (f 0) (j_3) (2)) (liA (f 5) j_3 mer ter) (jn))).2 ≤ 29 + 1 := (by rw [tw_2]; omega)
                  refine lv_aload_n hx hb dX8_line_178 rfl (lv_at hl 2 rfl) ?_
                  refine g_get (v := .int (nI ((tw (33) (lpS (gof (f 0) (j_3) (2)) (liA (f 5) j_3 mer ter) (jn))).2))) hx hb hts hown hK hP 0 rfl rfl gu_wsX80 15 (by decide) gm_37_4 rfl dX8_line_179 ?_
                  exact g_iretW (v := nI ((tw (33) (lpS (gof (f 0) (j_3) (2)) (liA (f 5) j_3 mer ter) (jn))).2)) hx hb hr hlk hS dX8_line_182 (by have hq9 : v.toNatClampNeg = j_3 := (by rw [ej_4, nI_clamp (by omega)]); have hm8 : (gof (f 0) j_3 0).toNatClampNeg = mer := (by rw [hme, nI_clamp (by omega)]); have ht8 : (gof (f 0) j_3 1).toNatClampNeg = ter := (by rw [hte, nI_clamp (by omega)]); have eB := liB_z (s5 := f 5) (q := j_3) (mer := mer) (ter := ter) (jn := jn) c_28; have eC := liC_z c_29 (ts := liB (gof (f 0) j_3 2) (f 5) j_3 mer ter jn); have eL : lineT (f 0) (f 5) jn j_3 mer ter = liD (clM (f 0) j_3) (liC (gof (f 0) j_3 3) (liB (gof (f 0) j_3 2) (f 5) j_3 mer ter jn)) := rfl; rw [eC, eB, c_30] at eL; rw [lnO, if_pos c_1, hq9, hm8, ht8, eL]; exact ⟨rfl, hP⟩)
              · have d_29 : 0 < gof (f 0) (j_3) (3) := Int32.not_le.mp c_29
                refine lv_aload_n hx hb dX8_line_143 rfl (lv_at hl 2 rfl) ?_
                refine lv_aload_n hx hb dX8_line_144 rfl (lv_at hl 2 rfl) ?_
                refine lv_iload_n hx hb dX8_line_145 rfl (lv_at hl 3 rfl) ?_
                refine lv_iconst (v := nI (3)) hx hb dX8_line_146 gc_3 ?_
                refine rd_calle (va_runV (As := [.int (nI (j_3)), .int (nI (3))]) (rest := [.ref (A 0)]) ⟨hx, hb, hml, hown, hts⟩ (c_X8_of l D cA A (upd (upd (upd (x) 3 (nI (0))) 4 (nI (0))) 9 (nI ((lpS (gof (f 0) (j_3) (2)) (liA (f 5) j_3 mer ter) (jn)).2))) (va_up (f) 5 ((lpS (gof (f 0) (j_3) (2)) (liA (f 5) j_3 mer ter) (jn)).1)) (j_3) (3) (by omega)) (cwV 2 hts (gWV gm_14_3 gm_14_4 gm_14_5 gm_1_5 gm_14_6) rfl rfl rfl (by decide +kernel) ⟨Nat.le_of_ble_eq_true rfl, Nat.le_of_ble_eq_true rfl⟩) (gPreV hK (g_rf hK hP (ci := 10) (q0 := 0) rfl rfl) hP) rfl rfl hl.1 rfl (lv_room (Nat.le_of_ble_eq_true rfl)) dX8_line_147 ⟨by omega, by omega⟩) ?_
                refine lv_iconst (v := nI (1)) hx hb dX8_line_150 gc_1 ?_
                refine g_icmp_ne (P := gof (f 0) (j_3) (3) = nI (1)) (tgt := 159) hx hb dX8_line_151 (by decide) Iff.rfl (fun c_32 => ?_) (fun c_32 => ?_)
                · refine lv_bipush (v := nI (45)) hx hb dX8_line_159 gb_45 ?_
                  refine wr_callv (va_runV (As := [.int (nI (45))]) (rest := []) ⟨hx, hb, hml, hown, hts⟩ (c_X8_writes l D cA A (upd (upd (upd (x) 3 (nI (0))) 4 (nI (0))) 9 (nI ((lpS (gof (f 0) (j_3) (2)) (liA (f 5) j_3 mer ter) (jn)).2))) (va_up (f) 5 ((lpS (gof (f 0) (j_3) (2)) (liA (f 5) j_3 mer ter) (jn)).1)) ((lpS (gof (f 0) (j_3) (2)) (liA (f 5) j_3 mer ter) (jn)).2) (45) hA (by rfl) (by omega) (by omega)) (cwV 1 hts (gWV gm_37_9 gm_37_10 gm_37_11 gm_1_5 gm_37_12) rfl rfl rfl (by decide +kernel) ⟨Nat.le_of_ble_eq_true rfl, Nat.le_of_ble_eq_true rfl⟩) (gPreV hK (g_rf hK hP (ci := 10) (q0 := 0) rfl rfl) hP) rfl rfl hl.1 rfl (lv_room (Nat.le_of_ble_eq_true rfl)) dX8_line_161 ⟨by omega, by omega⟩) hS (fun q _ h => h) (fun q h => h) (fun H locs hP hz9 hk9 hS => ?_)
                  have hP : va_P D vwCl (mw cA A (upd (upd (upd (x) 3 (nI (0))) 4 (nI (0))) 9 (nI ((tw (45) (lpS (gof (f 0) (j_3) (2)) (liA (f 5) j_3 mer ter) (jn))).2))) (va_up (f) 5 ((tw (45) (lpS (gof (f 0) (j_3) (2)) (liA (f 5) j_3 mer ter) (jn))).1))) H := hP
                  have hD : va_D (MA A) (mw cA A (upd (upd (upd (x) 3 (nI (0))) 4 (nI (0))) 9 (nI ((tw (45) (lpS (gof (f 0) (j_3) (2)) (liA (f 5) j_3 mer ter) (jn))).2))) (va_up (f) 5 ((tw (45) (lpS (gof (f 0) (j_3) (2)) (liA (f 5) j_3 mer ter) (jn))).1))) := mD hA
                  have htb_33 : (tw (45) (lpS (gof (f 0) (j_3) (2)) (liA (f 5) j_3 mer ter) (jn))).2 ≤ 29 + 1 := (by rw [tw_2]; omega)
                  refine lv_aload_n hx hb dX8_line_164 rfl (lv_at hl 2 rfl) ?_
                  refine lv_iload_n hx hb dX8_line_165 rfl (lv_at hl 3 rfl) ?_
                  refine rd_calle (va_runV (As := [.int (nI (j_3))]) (rest := []) ⟨hx, hb, hml, hown, hts⟩ (c_X8_isClosed l D cA A (upd (upd (upd (x) 3 (nI (0))) 4 (nI (0))) 9 (nI ((tw (45) (lpS (gof (f 0) (j_3) (2)) (liA (f 5) j_3 mer ter) (jn))).2))) (va_up (f) 5 ((tw (45) (lpS (gof (f 0) (j_3) (2)) (liA (f 5) j_3 mer ter) (jn))).1)) (j_3) (by omega)) (cwV 1 hts (gWV gm_14_17 gm_14_18 gm_14_19 gm_1_5 gm_14_20) rfl rfl rfl (by decide +kernel) ⟨Nat.le_of_ble_eq_true rfl, Nat.le_of_ble_eq_true rfl⟩) (gPreV hK (g_rf hK hP (ci := 10) (q0 := 0) rfl rfl) hP) rfl rfl hl.1 rfl (lv_room (Nat.le_of_ble_eq_true rfl)) dX8_line_166 ⟨by omega, by omega⟩) ?_
                  refine g_if_eq (P := clM (f 0) (j_3) = false) (tgt := 178) hx hb dX8_line_169 (by decide) b2i_0 (fun c_34 => ?_) (fun c_34 => ?_)
                  · refine lv_aload_n hx hb dX8_line_178 rfl (lv_at hl 2 rfl) ?_
                    refine g_get (v := .int (nI ((tw (45) (lpS (gof (f 0) (j_3) (2)) (liA (f 5) j_3 mer ter) (jn))).2))) hx hb hts hown hK hP 0 rfl rfl gu_wsX80 15 (by decide) gm_37_4 rfl dX8_line_179 ?_
                    exact g_iretW (v := nI ((tw (45) (lpS (gof (f 0) (j_3) (2)) (liA (f 5) j_3 mer ter) (jn))).2)) hx hb hr hlk hS dX8_line_182 (by have hq9 : v.toNatClampNeg = j_3 := (by rw [ej_4, nI_clamp (by omega)]); have hm8 : (gof (f 0) j_3 0).toNatClampNeg = mer := (by rw [hme, nI_clamp (by omega)]); have ht8 : (gof (f 0) j_3 1).toNatClampNeg = ter := (by rw [hte, nI_clamp (by omega)]); have eB := liB_z (s5 := f 5) (q := j_3) (mer := mer) (ter := ter) (jn := jn) c_28; have eC := liC_b c_29 c_32 (ts := liB (gof (f 0) j_3 2) (f 5) j_3 mer ter jn); have eL : lineT (f 0) (f 5) jn j_3 mer ter = liD (clM (f 0) j_3) (liC (gof (f 0) j_3 3) (liB (gof (f 0) j_3 2) (f 5) j_3 mer ter jn)) := rfl; rw [eC, eB, c_34] at eL; rw [lnO, if_pos c_1, hq9, hm8, ht8, eL]; exact ⟨rfl, hP⟩)
                  · have c_34 : clM (f 0) (j_3) = true := eq_true_of_ne_false c_34
                    refine lv_aload_n hx hb dX8_line_172 rfl (lv_at hl 2 rfl) ?_
                    refine lv_bipush (v := nI (33)) hx hb dX8_line_173 gb_33 ?_
                    refine wr_callv (va_runV (As := [.int (nI (33))]) (rest := []) ⟨hx, hb, hml, hown, hts⟩ (c_X8_writes l D cA A (upd (upd (upd (x) 3 (nI (0))) 4 (nI (0))) 9 (nI ((tw (45) (lpS (gof (f 0) (j_3) (2)) (liA (f 5) j_3 mer ter) (jn))).2))) (va_up (f) 5 ((tw (45) (lpS (gof (f 0) (j_3) (2)) (liA (f 5) j_3 mer ter) (jn))).1)) ((tw (45) (lpS (gof (f 0) (j_3) (2)) (liA (f 5) j_3 mer ter) (jn))).2) (33) hA (by rfl) (by omega) (by omega)) (cwV 1 hts (gWV gm_37_9 gm_37_10 gm_37_11 gm_1_5 gm_37_12) rfl rfl rfl (by decide +kernel) ⟨Nat.le_of_ble_eq_true rfl, Nat.le_of_ble_eq_true rfl⟩) (gPreV hK (g_rf hK hP (ci := 10) (q0 := 0) rfl rfl) hP) rfl rfl hl.1 rfl (lv_room (Nat.le_of_ble_eq_true rfl)) dX8_line_175 ⟨by omega, by omega⟩) hS (fun q _ h => h) (fun q h => h) (fun H locs hP hz9 hk9 hS => ?_)
                    have hP : va_P D vwCl (mw cA A (upd (upd (upd (x) 3 (nI (0))) 4 (nI (0))) 9 (nI ((tw (33) (tw (45) (lpS (gof (f 0) (j_3) (2)) (liA (f 5) j_3 mer ter) (jn)))).2))) (va_up (f) 5 ((tw (33) (tw (45) (lpS (gof (f 0) (j_3) (2)) (liA (f 5) j_3 mer ter) (jn)))).1))) H := hP
                    have hD : va_D (MA A) (mw cA A (upd (upd (upd (x) 3 (nI (0))) 4 (nI (0))) 9 (nI ((tw (33) (tw (45) (lpS (gof (f 0) (j_3) (2)) (liA (f 5) j_3 mer ter) (jn)))).2))) (va_up (f) 5 ((tw (33) (tw (45) (lpS (gof (f 0) (j_3) (2)) (liA (f 5) j_3 mer ter) (jn)))).1))) := mD hA
                    have htb_35 : (tw (33) (tw (45) (lpS (gof (f 0) (j_3) (2)) (liA (f 5) j_3 mer ter) (jn)))).2 ≤ 29 + 1 + 1 := (by rw [tw_2]; omega)
                    refine lv_aload_n hx hb dX8_line_178 rfl (lv_at hl 2 rfl) ?_
                    refine g_get (v := .int (nI ((tw (33) (tw (45) (lpS (gof (f 0) (j_3) (2)) (liA (f 5) j_3 mer ter) (jn)))).2))) hx hb hts hown hK hP 0 rfl rfl gu_wsX80 15 (by decide) gm_37_4 rfl dX8_line_179 ?_
                    exact g_iretW (v := nI ((tw (33) (tw (45) (lpS (gof (f 0) (j_3) (2)) (liA (f 5) j_3 mer ter) (jn)))).2)) hx hb hr hlk hS dX8_line_182 (by have hq9 : v.toNatClampNeg = j_3 := (by rw [ej_4, nI_clamp (by omega)]); have hm8 : (gof (f 0) j_3 0).toNatClampNeg = mer := (by rw [hme, nI_clamp (by omega)]); have ht8 : (gof (f 0) j_3 1).toNatClampNeg = ter := (by rw [hte, nI_clamp (by omega)]); have eB := liB_z (s5 := f 5) (q := j_3) (mer := mer) (ter := ter) (jn := jn) c_28; have eC := liC_b c_29 c_32 (ts := liB (gof (f 0) j_3 2) (f 5) j_3 mer ter jn); have eL : lineT (f 0) (f 5) jn j_3 mer ter = liD (clM (f 0) j_3) (liC (gof (f 0) j_3 3) (liB (gof (f 0) j_3 2) (f 5) j_3 mer ter jn)) := rfl; rw [eC, eB, c_34] at eL; rw [lnO, if_pos c_1, hq9, hm8, ht8, eL]; exact ⟨rfl, hP⟩)
                · refine lv_bipush (v := nI (43)) hx hb dX8_line_154 gb_43 ?_
                  refine lv_goto (tgt := 161) hx hb dX8_line_156 (by decide) ?_
                  refine wr_callv (va_runV (As := [.int (nI (43))]) (rest := []) ⟨hx, hb, hml, hown, hts⟩ (c_X8_writes l D cA A (upd (upd (upd (x) 3 (nI (0))) 4 (nI (0))) 9 (nI ((lpS (gof (f 0) (j_3) (2)) (liA (f 5) j_3 mer ter) (jn)).2))) (va_up (f) 5 ((lpS (gof (f 0) (j_3) (2)) (liA (f 5) j_3 mer ter) (jn)).1)) ((lpS (gof (f 0) (j_3) (2)) (liA (f 5) j_3 mer ter) (jn)).2) (43) hA (by rfl) (by omega) (by omega)) (cwV 1 hts (gWV gm_37_9 gm_37_10 gm_37_11 gm_1_5 gm_37_12) rfl rfl rfl (by decide +kernel) ⟨Nat.le_of_ble_eq_true rfl, Nat.le_of_ble_eq_true rfl⟩) (gPreV hK (g_rf hK hP (ci := 10) (q0 := 0) rfl rfl) hP) rfl rfl hl.1 rfl (lv_room (Nat.le_of_ble_eq_true rfl)) dX8_line_161 ⟨by omega, by omega⟩) hS (fun q _ h => h) (fun q h => h) (fun H locs hP hz9 hk9 hS => ?_)
                  have hP : va_P D vwCl (mw cA A (upd (upd (upd (x) 3 (nI (0))) 4 (nI (0))) 9 (nI ((tw (43) (lpS (gof (f 0) (j_3) (2)) (liA (f 5) j_3 mer ter) (jn))).2))) (va_up (f) 5 ((tw (43) (lpS (gof (f 0) (j_3) (2)) (liA (f 5) j_3 mer ter) (jn))).1))) H := hP
                  have hD : va_D (MA A) (mw cA A (upd (upd (upd (x) 3 (nI (0))) 4 (nI (0))) 9 (nI ((tw (43) (lpS (gof (f 0) (j_3) (2)) (liA (f 5) j_3 mer ter) (jn))).2))) (va_up (f) 5 ((tw (43) (lpS (gof (f 0) (j_3) (2)) (liA (f 5) j_3 mer ter) (jn))).1))) := mD hA
                  have htb_36 : (tw (43) (lpS (gof (f 0) (j_3) (2)) (liA (f 5) j_3 mer ter) (jn))).2 ≤ 29 + 1 := (by rw [tw_2]; omega)
                  refine lv_aload_n hx hb dX8_line_164 rfl (lv_at hl 2 rfl) ?_
                  refine lv_iload_n hx hb dX8_line_165 rfl (lv_at hl 3 rfl) ?_
                  refine rd_calle (va_runV (As := [.int (nI (j_3))]) (rest := []) ⟨hx, hb, hml, hown, hts⟩ (c_X8_isClosed l D cA A (upd (upd (upd (x) 3 (nI (0))) 4 (nI (0))) 9 (nI ((tw (43) (lpS (gof (f 0) (j_3) (2)) (liA (f 5) j_3 mer ter) (jn))).2))) (va_up (f) 5 ((tw (43) (lpS (gof (f 0) (j_3) (2)) (liA (f 5) j_3 mer ter) (jn))).1)) (j_3) (by omega)) (cwV 1 hts (gWV gm_14_17 gm_14_18 gm_14_19 gm_1_5 gm_14_20) rfl rfl rfl (by decide +kernel) ⟨Nat.le_of_ble_eq_true rfl, Nat.le_of_ble_eq_true rfl⟩) (gPreV hK (g_rf hK hP (ci := 10) (q0 := 0) rfl rfl) hP) rfl rfl hl.1 rfl (lv_room (Nat.le_of_ble_eq_true rfl)) dX8_line_166 ⟨by omega, by omega⟩) ?_
                  refine g_if_eq (P := clM (f 0) (j_3) = false) (tgt := 178) hx hb dX8_line_169 (by decide) b2i_0 (fun c_37 => ?_) (fun c_37 => ?_)
                  · refine lv_aload_n hx hb dX8_line_178 rfl (lv_at hl 2 rfl) ?_
                    refine g_get (v := .int (nI ((tw (43) (lpS (gof (f 0) (j_3) (2)) (liA (f 5) j_3 mer ter) (jn))).2))) hx hb hts hown hK hP 0 rfl rfl gu_wsX80 15 (by decide) gm_37_4 rfl dX8_line_179 ?_
                    exact g_iretW (v := nI ((tw (43) (lpS (gof (f 0) (j_3) (2)) (liA (f 5) j_3 mer ter) (jn))).2)) hx hb hr hlk hS dX8_line_182 (by have hq9 : v.toNatClampNeg = j_3 := (by rw [ej_4, nI_clamp (by omega)]); have hm8 : (gof (f 0) j_3 0).toNatClampNeg = mer := (by rw [hme, nI_clamp (by omega)]); have ht8 : (gof (f 0) j_3 1).toNatClampNeg = ter := (by rw [hte, nI_clamp (by omega)]); have eB := liB_z (s5 := f 5) (q := j_3) (mer := mer) (ter := ter) (jn := jn) c_28; have eC := liC_a c_29 c_32 (ts := liB (gof (f 0) j_3 2) (f 5) j_3 mer ter jn); have eL : lineT (f 0) (f 5) jn j_3 mer ter = liD (clM (f 0) j_3) (liC (gof (f 0) j_3 3) (liB (gof (f 0) j_3 2) (f 5) j_3 mer ter jn)) := rfl; rw [eC, eB, c_37] at eL; rw [lnO, if_pos c_1, hq9, hm8, ht8, eL]; exact ⟨rfl, hP⟩)
                  · have c_37 : clM (f 0) (j_3) = true := eq_true_of_ne_false c_37
                    refine lv_aload_n hx hb dX8_line_172 rfl (lv_at hl 2 rfl) ?_
                    refine lv_bipush (v := nI (33)) hx hb dX8_line_173 gb_33 ?_
                    refine wr_callv (va_runV (As := [.int (nI (33))]) (rest := []) ⟨hx, hb, hml, hown, hts⟩ (c_X8_writes l D cA A (upd (upd (upd (x) 3 (nI (0))) 4 (nI (0))) 9 (nI ((tw (43) (lpS (gof (f 0) (j_3) (2)) (liA (f 5) j_3 mer ter) (jn))).2))) (va_up (f) 5 ((tw (43) (lpS (gof (f 0) (j_3) (2)) (liA (f 5) j_3 mer ter) (jn))).1)) ((tw (43) (lpS (gof (f 0) (j_3) (2)) (liA (f 5) j_3 mer ter) (jn))).2) (33) hA (by rfl) (by omega) (by omega)) (cwV 1 hts (gWV gm_37_9 gm_37_10 gm_37_11 gm_1_5 gm_37_12) rfl rfl rfl (by decide +kernel) ⟨Nat.le_of_ble_eq_true rfl, Nat.le_of_ble_eq_true rfl⟩) (gPreV hK (g_rf hK hP (ci := 10) (q0 := 0) rfl rfl) hP) rfl rfl hl.1 rfl (lv_room (Nat.le_of_ble_eq_true rfl)) dX8_line_175 ⟨by omega, by omega⟩) hS (fun q _ h => h) (fun q h => h) (fun H locs hP hz9 hk9 hS => ?_)
                    have hP : va_P D vwCl (mw cA A (upd (upd (upd (x) 3 (nI (0))) 4 (nI (0))) 9 (nI ((tw (33) (tw (43) (lpS (gof (f 0) (j_3) (2)) (liA (f 5) j_3 mer ter) (jn)))).2))) (va_up (f) 5 ((tw (33) (tw (43) (lpS (gof (f 0) (j_3) (2)) (liA (f 5) j_3 mer ter) (jn)))).1))) H := hP
                    have hD : va_D (MA A) (mw cA A (upd (upd (upd (x) 3 (nI (0))) 4 (nI (0))) 9 (nI ((tw (33) (tw (43) (lpS (gof (f 0) (j_3) (2)) (liA (f 5) j_3 mer ter) (jn)))).2))) (va_up (f) 5 ((tw (33) (tw (43) (lpS (gof (f 0) (j_3) (2)) (liA (f 5) j_3 mer ter) (jn)))).1))) := mD hA
                    have htb_38 : (tw (33) (tw (43) (lpS (gof (f 0) (j_3) (2)) (liA (f 5) j_3 mer ter) (jn)))).2 ≤ 29 + 1 + 1 := (by rw [tw_2]; omega)
                    refine lv_aload_n hx hb dX8_line_178 rfl (lv_at hl 2 rfl) ?_
                    refine g_get (v := .int (nI ((tw (33) (tw (43) (lpS (gof (f 0) (j_3) (2)) (liA (f 5) j_3 mer ter) (jn)))).2))) hx hb hts hown hK hP 0 rfl rfl gu_wsX80 15 (by decide) gm_37_4 rfl dX8_line_179 ?_
                    exact g_iretW (v := nI ((tw (33) (tw (43) (lpS (gof (f 0) (j_3) (2)) (liA (f 5) j_3 mer ter) (jn)))).2)) hx hb hr hlk hS dX8_line_182 (by have hq9 : v.toNatClampNeg = j_3 := (by rw [ej_4, nI_clamp (by omega)]); have hm8 : (gof (f 0) j_3 0).toNatClampNeg = mer := (by rw [hme, nI_clamp (by omega)]); have ht8 : (gof (f 0) j_3 1).toNatClampNeg = ter := (by rw [hte, nI_clamp (by omega)]); have eB := liB_z (s5 := f 5) (q := j_3) (mer := mer) (ter := ter) (jn := jn) c_28; have eC := liC_a c_29 c_32 (ts := liB (gof (f 0) j_3 2) (f 5) j_3 mer ter jn); have eL : lineT (f 0) (f 5) jn j_3 mer ter = liD (clM (f 0) j_3) (liC (gof (f 0) j_3 3) (liB (gof (f 0) j_3 2) (f 5) j_3 mer ter jn)) := rfl; rw [eC, eB, c_37] at eL; rw [lnO, if_pos c_1, hq9, hm8, ht8, eL]; exact ⟨rfl, hP⟩)
            · refine lv_aload_n hx hb dX8_line_128 rfl (lv_at hl 2 rfl) ?_
              refine lv_bipush (v := nI (93)) hx hb dX8_line_129 gb_93 ?_
              refine wr_callv (va_runV (As := [.int (nI (93))]) (rest := []) ⟨hx, hb, hml, hown, hts⟩ (c_X8_writes l D cA A (upd (upd (upd (x) 3 (nI (0))) 4 (nI (0))) 9 (nI ((lpS (gof (f 0) (j_3) (2)) (liA (f 5) j_3 mer ter) (jn)).2))) (va_up (f) 5 ((lpS (gof (f 0) (j_3) (2)) (liA (f 5) j_3 mer ter) (jn)).1)) ((lpS (gof (f 0) (j_3) (2)) (liA (f 5) j_3 mer ter) (jn)).2) (93) hA (by rfl) (by omega) (by omega)) (cwV 1 hts (gWV gm_37_9 gm_37_10 gm_37_11 gm_1_5 gm_37_12) rfl rfl rfl (by decide +kernel) ⟨Nat.le_of_ble_eq_true rfl, Nat.le_of_ble_eq_true rfl⟩) (gPreV hK (g_rf hK hP (ci := 10) (q0 := 0) rfl rfl) hP) rfl rfl hl.1 rfl (lv_room (Nat.le_of_ble_eq_true rfl)) dX8_line_131 ⟨by omega, by omega⟩) hS (fun q _ h => h) (fun q h => h) (fun H locs hP hz9 hk9 hS => ?_)
              have hP : va_P D vwCl (mw cA A (upd (upd (upd (x) 3 (nI (0))) 4 (nI (0))) 9 (nI ((tw (93) (lpS (gof (f 0) (j_3) (2)) (liA (f 5) j_3 mer ter) (jn))).2))) (va_up (f) 5 ((tw (93) (lpS (gof (f 0) (j_3) (2)) (liA (f 5) j_3 mer ter) (jn))).1))) H := hP
              have hD : va_D (MA A) (mw cA A (upd (upd (upd (x) 3 (nI (0))) 4 (nI (0))) 9 (nI ((tw (93) (lpS (gof (f 0) (j_3) (2)) (liA (f 5) j_3 mer ter) (jn))).2))) (va_up (f) 5 ((tw (93) (lpS (gof (f 0) (j_3) (2)) (liA (f 5) j_3 mer ter) (jn))).1))) := mD hA
              have htb_39 : (tw (93) (lpS (gof (f 0) (j_3) (2)) (liA (f 5) j_3 mer ter) (jn))).2 ≤ 29 + 1 := (by rw [tw_2]; omega)
              refine lv_aload_n hx hb dX8_line_134 rfl (lv_at hl 2 rfl) ?_
              refine lv_iload_n hx hb dX8_line_135 rfl (lv_at hl 3 rfl) ?_
              refine lv_iconst (v := nI (3)) hx hb dX8_line_136 gc_3 ?_
              refine rd_calle (va_runV (As := [.int (nI (j_3)), .int (nI (3))]) (rest := []) ⟨hx, hb, hml, hown, hts⟩ (c_X8_of l D cA A (upd (upd (upd (x) 3 (nI (0))) 4 (nI (0))) 9 (nI ((tw (93) (lpS (gof (f 0) (j_3) (2)) (liA (f 5) j_3 mer ter) (jn))).2))) (va_up (f) 5 ((tw (93) (lpS (gof (f 0) (j_3) (2)) (liA (f 5) j_3 mer ter) (jn))).1)) (j_3) (3) (by omega)) (cwV 2 hts (gWV gm_14_3 gm_14_4 gm_14_5 gm_1_5 gm_14_6) rfl rfl rfl (by decide +kernel) ⟨Nat.le_of_ble_eq_true rfl, Nat.le_of_ble_eq_true rfl⟩) (gPreV hK (g_rf hK hP (ci := 10) (q0 := 0) rfl rfl) hP) rfl rfl hl.1 rfl (lv_room (Nat.le_of_ble_eq_true rfl)) dX8_line_137 ⟨by omega, by omega⟩) ?_
              refine g_if_le (P := gof (f 0) (j_3) (3) ≤ 0) (tgt := 164) hx hb dX8_line_140 (by decide) Iff.rfl (fun c_40 => ?_) (fun c_40 => ?_)
              · have d_40 : ¬ 0 < gof (f 0) (j_3) (3) := Int32.not_lt.mpr c_40
                refine lv_aload_n hx hb dX8_line_164 rfl (lv_at hl 2 rfl) ?_
                refine lv_iload_n hx hb dX8_line_165 rfl (lv_at hl 3 rfl) ?_
                refine rd_calle (va_runV (As := [.int (nI (j_3))]) (rest := []) ⟨hx, hb, hml, hown, hts⟩ (c_X8_isClosed l D cA A (upd (upd (upd (x) 3 (nI (0))) 4 (nI (0))) 9 (nI ((tw (93) (lpS (gof (f 0) (j_3) (2)) (liA (f 5) j_3 mer ter) (jn))).2))) (va_up (f) 5 ((tw (93) (lpS (gof (f 0) (j_3) (2)) (liA (f 5) j_3 mer ter) (jn))).1)) (j_3) (by omega)) (cwV 1 hts (gWV gm_14_17 gm_14_18 gm_14_19 gm_1_5 gm_14_20) rfl rfl rfl (by decide +kernel) ⟨Nat.le_of_ble_eq_true rfl, Nat.le_of_ble_eq_true rfl⟩) (gPreV hK (g_rf hK hP (ci := 10) (q0 := 0) rfl rfl) hP) rfl rfl hl.1 rfl (lv_room (Nat.le_of_ble_eq_true rfl)) dX8_line_166 ⟨by omega, by omega⟩) ?_
                refine g_if_eq (P := clM (f 0) (j_3) = false) (tgt := 178) hx hb dX8_line_169 (by decide) b2i_0 (fun c_41 => ?_) (fun c_41 => ?_)
                · refine lv_aload_n hx hb dX8_line_178 rfl (lv_at hl 2 rfl) ?_
                  refine g_get (v := .int (nI ((tw (93) (lpS (gof (f 0) (j_3) (2)) (liA (f 5) j_3 mer ter) (jn))).2))) hx hb hts hown hK hP 0 rfl rfl gu_wsX80 15 (by decide) gm_37_4 rfl dX8_line_179 ?_
                  exact g_iretW (v := nI ((tw (93) (lpS (gof (f 0) (j_3) (2)) (liA (f 5) j_3 mer ter) (jn))).2)) hx hb hr hlk hS dX8_line_182 (by have hq9 : v.toNatClampNeg = j_3 := (by rw [ej_4, nI_clamp (by omega)]); have hm8 : (gof (f 0) j_3 0).toNatClampNeg = mer := (by rw [hme, nI_clamp (by omega)]); have ht8 : (gof (f 0) j_3 1).toNatClampNeg = ter := (by rw [hte, nI_clamp (by omega)]); have eB := liB_p (s5 := f 5) (q := j_3) (mer := mer) (ter := ter) (jn := jn) c_28; have eC := liC_z c_40 (ts := liB (gof (f 0) j_3 2) (f 5) j_3 mer ter jn); have eL : lineT (f 0) (f 5) jn j_3 mer ter = liD (clM (f 0) j_3) (liC (gof (f 0) j_3 3) (liB (gof (f 0) j_3 2) (f 5) j_3 mer ter jn)) := rfl; rw [eC, eB, c_41] at eL; rw [lnO, if_pos c_1, hq9, hm8, ht8, eL]; exact ⟨rfl, hP⟩)
                · have c_41 : clM (f 0) (j_3) = true := eq_true_of_ne_false c_41
                  refine lv_aload_n hx hb dX8_line_172 rfl (lv_at hl 2 rfl) ?_
                  refine lv_bipush (v := nI (33)) hx hb dX8_line_173 gb_33 ?_
                  refine wr_callv (va_runV (As := [.int (nI (33))]) (rest := []) ⟨hx, hb, hml, hown, hts⟩ (c_X8_writes l D cA A (upd (upd (upd (x) 3 (nI (0))) 4 (nI (0))) 9 (nI ((tw (93) (lpS (gof (f 0) (j_3) (2)) (liA (f 5) j_3 mer ter) (jn))).2))) (va_up (f) 5 ((tw (93) (lpS (gof (f 0) (j_3) (2)) (liA (f 5) j_3 mer ter) (jn))).1)) ((tw (93) (lpS (gof (f 0) (j_3) (2)) (liA (f 5) j_3 mer ter) (jn))).2) (33) hA (by rfl) (by omega) (by omega)) (cwV 1 hts (gWV gm_37_9 gm_37_10 gm_37_11 gm_1_5 gm_37_12) rfl rfl rfl (by decide +kernel) ⟨Nat.le_of_ble_eq_true rfl, Nat.le_of_ble_eq_true rfl⟩) (gPreV hK (g_rf hK hP (ci := 10) (q0 := 0) rfl rfl) hP) rfl rfl hl.1 rfl (lv_room (Nat.le_of_ble_eq_true rfl)) dX8_line_175 ⟨by omega, by omega⟩) hS (fun q _ h => h) (fun q h => h) (fun H locs hP hz9 hk9 hS => ?_)
                  have hP : va_P D vwCl (mw cA A (upd (upd (upd (x) 3 (nI (0))) 4 (nI (0))) 9 (nI ((tw (33) (tw (93) (lpS (gof (f 0) (j_3) (2)) (liA (f 5) j_3 mer ter) (jn)))).2))) (va_up (f) 5 ((tw (33) (tw (93) (lpS (gof (f 0) (j_3) (2)) (liA (f 5) j_3 mer ter) (jn)))).1))) H := hP
                  have hD : va_D (MA A) (mw cA A (upd (upd (upd (x) 3 (nI (0))) 4 (nI (0))) 9 (nI ((tw (33) (tw (93) (lpS (gof (f 0) (j_3) (2)) (liA (f 5) j_3 mer ter) (jn)))).2))) (va_up (f) 5 ((tw (33) (tw (93) (lpS (gof (f 0) (j_3) (2)) (liA (f 5) j_3 mer ter) (jn)))).1))) := mD hA
                  have htb_42 : (tw (33) (tw (93) (lpS (gof (f 0) (j_3) (2)) (liA (f 5) j_3 mer ter) (jn)))).2 ≤ 29 + 1 + 1 := (by rw [tw_2]; omega)
                  refine lv_aload_n hx hb dX8_line_178 rfl (lv_at hl 2 rfl) ?_
                  refine g_get (v := .int (nI ((tw (33) (tw (93) (lpS (gof (f 0) (j_3) (2)) (liA (f 5) j_3 mer ter) (jn)))).2))) hx hb hts hown hK hP 0 rfl rfl gu_wsX80 15 (by decide) gm_37_4 rfl dX8_line_179 ?_
                  exact g_iretW (v := nI ((tw (33) (tw (93) (lpS (gof (f 0) (j_3) (2)) (liA (f 5) j_3 mer ter) (jn)))).2)) hx hb hr hlk hS dX8_line_182 (by have hq9 : v.toNatClampNeg = j_3 := (by rw [ej_4, nI_clamp (by omega)]); have hm8 : (gof (f 0) j_3 0).toNatClampNeg = mer := (by rw [hme, nI_clamp (by omega)]); have ht8 : (gof (f 0) j_3 1).toNatClampNeg = ter := (by rw [hte, nI_clamp (by omega)]); have eB := liB_p (s5 := f 5) (q := j_3) (mer := mer) (ter := ter) (jn := jn) c_28; have eC := liC_z c_40 (ts := liB (gof (f 0) j_3 2) (f 5) j_3 mer ter jn); have eL : lineT (f 0) (f 5) jn j_3 mer ter = liD (clM (f 0) j_3) (liC (gof (f 0) j_3 3) (liB (gof (f 0) j_3 2) (f 5) j_3 mer ter jn)) := rfl; rw [eC, eB, c_41] at eL; rw [lnO, if_pos c_1, hq9, hm8, ht8, eL]; exact ⟨rfl, hP⟩)
              · have d_40 : 0 < gof (f 0) (j_3) (3) := Int32.not_le.mp c_40
                refine lv_aload_n hx hb dX8_line_143 rfl (lv_at hl 2 rfl) ?_
                refine lv_aload_n hx hb dX8_line_144 rfl (lv_at hl 2 rfl) ?_
                refine lv_iload_n hx hb dX8_line_145 rfl (lv_at hl 3 rfl) ?_
                refine lv_iconst (v := nI (3)) hx hb dX8_line_146 gc_3 ?_
                refine rd_calle (va_runV (As := [.int (nI (j_3)), .int (nI (3))]) (rest := [.ref (A 0)]) ⟨hx, hb, hml, hown, hts⟩ (c_X8_of l D cA A (upd (upd (upd (x) 3 (nI (0))) 4 (nI (0))) 9 (nI ((tw (93) (lpS (gof (f 0) (j_3) (2)) (liA (f 5) j_3 mer ter) (jn))).2))) (va_up (f) 5 ((tw (93) (lpS (gof (f 0) (j_3) (2)) (liA (f 5) j_3 mer ter) (jn))).1)) (j_3) (3) (by omega)) (cwV 2 hts (gWV gm_14_3 gm_14_4 gm_14_5 gm_1_5 gm_14_6) rfl rfl rfl (by decide +kernel) ⟨Nat.le_of_ble_eq_true rfl, Nat.le_of_ble_eq_true rfl⟩) (gPreV hK (g_rf hK hP (ci := 10) (q0 := 0) rfl rfl) hP) rfl rfl hl.1 rfl (lv_room (Nat.le_of_ble_eq_true rfl)) dX8_line_147 ⟨by omega, by omega⟩) ?_
                refine lv_iconst (v := nI (1)) hx hb dX8_line_150 gc_1 ?_
                refine g_icmp_ne (P := gof (f 0) (j_3) (3) = nI (1)) (tgt := 159) hx hb dX8_line_151 (by decide) Iff.rfl (fun c_43 => ?_) (fun c_43 => ?_)
                · refine lv_bipush (v := nI (45)) hx hb dX8_line_159 gb_45 ?_
                  refine wr_callv (va_runV (As := [.int (nI (45))]) (rest := []) ⟨hx, hb, hml, hown, hts⟩ (c_X8_writes l D cA A (upd (upd (upd (x) 3 (nI (0))) 4 (nI (0))) 9 (nI ((tw (93) (lpS (gof (f 0) (j_3) (2)) (liA (f 5) j_3 mer ter) (jn))).2))) (va_up (f) 5 ((tw (93) (lpS (gof (f 0) (j_3) (2)) (liA (f 5) j_3 mer ter) (jn))).1)) ((tw (93) (lpS (gof (f 0) (j_3) (2)) (liA (f 5) j_3 mer ter) (jn))).2) (45) hA (by rfl) (by omega) (by omega)) (cwV 1 hts (gWV gm_37_9 gm_37_10 gm_37_11 gm_1_5 gm_37_12) rfl rfl rfl (by decide +kernel) ⟨Nat.le_of_ble_eq_true rfl, Nat.le_of_ble_eq_true rfl⟩) (gPreV hK (g_rf hK hP (ci := 10) (q0 := 0) rfl rfl) hP) rfl rfl hl.1 rfl (lv_room (Nat.le_of_ble_eq_true rfl)) dX8_line_161 ⟨by omega, by omega⟩) hS (fun q _ h => h) (fun q h => h) (fun H locs hP hz9 hk9 hS => ?_)
                  have hP : va_P D vwCl (mw cA A (upd (upd (upd (x) 3 (nI (0))) 4 (nI (0))) 9 (nI ((tw (45) (tw (93) (lpS (gof (f 0) (j_3) (2)) (liA (f 5) j_3 mer ter) (jn)))).2))) (va_up (f) 5 ((tw (45) (tw (93) (lpS (gof (f 0) (j_3) (2)) (liA (f 5) j_3 mer ter) (jn)))).1))) H := hP
                  have hD : va_D (MA A) (mw cA A (upd (upd (upd (x) 3 (nI (0))) 4 (nI (0))) 9 (nI ((tw (45) (tw (93) (lpS (gof (f 0) (j_3) (2)) (liA (f 5) j_3 mer ter) (jn)))).2))) (va_up (f) 5 ((tw (45) (tw (93) (lpS (gof (f 0) (j_3) (2)) (liA (f 5) j_3 mer ter) (jn)))).1))) := mD hA
                  have htb_44 : (tw (45) (tw (93) (lpS (gof (f 0) (j_3) (2)) (liA (f 5) j_3 mer ter) (jn)))).2 ≤ 29 + 1 + 1 := (by rw [tw_2]; omega)
                  refine lv_aload_n hx hb dX8_line_164 rfl (lv_at hl 2 rfl) ?_
                  refine lv_iload_n hx hb dX8_line_165 rfl (lv_at hl 3 rfl) ?_
                  refine rd_calle (va_runV (As := [.int (nI (j_3))]) (rest := []) ⟨hx, hb, hml, hown, hts⟩ (c_X8_isClosed l D cA A (upd (upd (upd (x) 3 (nI (0))) 4 (nI (0))) 9 (nI ((tw (45) (tw (93) (lpS (gof (f 0) (j_3) (2)) (liA (f 5) j_3 mer ter) (jn)))).2))) (va_up (f) 5 ((tw (45) (tw (93) (lpS (gof (f 0) (j_3) (2)) (liA (f 5) j_3 mer ter) (jn)))).1)) (j_3) (by omega)) (cwV 1 hts (gWV gm_14_17 gm_14_18 gm_14_19 gm_1_5 gm_14_20) rfl rfl rfl (by decide +kernel) ⟨Nat.le_of_ble_eq_true rfl, Nat.le_of_ble_eq_true rfl⟩) (gPreV hK (g_rf hK hP (ci := 10) (q0 := 0) rfl rfl) hP) rfl rfl hl.1 rfl (lv_room (Nat.le_of_ble_eq_true rfl)) dX8_line_166 ⟨by omega, by omega⟩) ?_
                  refine g_if_eq (P := clM (f 0) (j_3) = false) (tgt := 178) hx hb dX8_line_169 (by decide) b2i_0 (fun c_45 => ?_) (fun c_45 => ?_)
                  · refine lv_aload_n hx hb dX8_line_178 rfl (lv_at hl 2 rfl) ?_
                    refine g_get (v := .int (nI ((tw (45) (tw (93) (lpS (gof (f 0) (j_3) (2)) (liA (f 5) j_3 mer ter) (jn)))).2))) hx hb hts hown hK hP 0 rfl rfl gu_wsX80 15 (by decide) gm_37_4 rfl dX8_line_179 ?_
                    exact g_iretW (v := nI ((tw (45) (tw (93) (lpS (gof (f 0) (j_3) (2)) (liA (f 5) j_3 mer ter) (jn)))).2)) hx hb hr hlk hS dX8_line_182 (by have hq9 : v.toNatClampNeg = j_3 := (by rw [ej_4, nI_clamp (by omega)]); have hm8 : (gof (f 0) j_3 0).toNatClampNeg = mer := (by rw [hme, nI_clamp (by omega)]); have ht8 : (gof (f 0) j_3 1).toNatClampNeg = ter := (by rw [hte, nI_clamp (by omega)]); have eB := liB_p (s5 := f 5) (q := j_3) (mer := mer) (ter := ter) (jn := jn) c_28; have eC := liC_b c_40 c_43 (ts := liB (gof (f 0) j_3 2) (f 5) j_3 mer ter jn); have eL : lineT (f 0) (f 5) jn j_3 mer ter = liD (clM (f 0) j_3) (liC (gof (f 0) j_3 3) (liB (gof (f 0) j_3 2) (f 5) j_3 mer ter jn)) := rfl; rw [eC, eB, c_45] at eL; rw [lnO, if_pos c_1, hq9, hm8, ht8, eL]; exact ⟨rfl, hP⟩)
                  · have c_45 : clM (f 0) (j_3) = true := eq_true_of_ne_false c_45
                    refine lv_aload_n hx hb dX8_line_172 rfl (lv_at hl 2 rfl) ?_
                    refine lv_bipush (v := nI (33)) hx hb dX8_line_173 gb_33 ?_
                    refine wr_callv (va_runV (As := [.int (nI (33))]) (rest := []) ⟨hx, hb, hml, hown, hts⟩ (c_X8_writes l D cA A (upd (upd (upd (x) 3 (nI (0))) 4 (nI (0))) 9 (nI ((tw (45) (tw (93) (lpS (gof (f 0) (j_3) (2)) (liA (f 5) j_3 mer ter) (jn)))).2))) (va_up (f) 5 ((tw (45) (tw (93) (lpS (gof (f 0) (j_3) (2)) (liA (f 5) j_3 mer ter) (jn)))).1)) ((tw (45) (tw (93) (lpS (gof (f 0) (j_3) (2)) (liA (f 5) j_3 mer ter) (jn)))).2) (33) hA (by rfl) (by omega) (by omega)) (cwV 1 hts (gWV gm_37_9 gm_37_10 gm_37_11 gm_1_5 gm_37_12) rfl rfl rfl (by decide +kernel) ⟨Nat.le_of_ble_eq_true rfl, Nat.le_of_ble_eq_true rfl⟩) (gPreV hK (g_rf hK hP (ci := 10) (q0 := 0) rfl rfl) hP) rfl rfl hl.1 rfl (lv_room (Nat.le_of_ble_eq_true rfl)) dX8_line_175 ⟨by omega, by omega⟩) hS (fun q _ h => h) (fun q h => h) (fun H locs hP hz9 hk9 hS => ?_)
                    have hP : va_P D vwCl (mw cA A (upd (upd (upd (x) 3 (nI (0))) 4 (nI (0))) 9 (nI ((tw (33) (tw (45) (tw (93) (lpS (gof (f 0) (j_3) (2)) (liA (f 5) j_3 mer ter) (jn))))).2))) (va_up (f) 5 ((tw (33) (tw (45) (tw (93) (lpS (gof (f 0) (j_3) (2)) (liA (f 5) j_3 mer ter) (jn))))).1))) H := hP
                    have hD : va_D (MA A) (mw cA A (upd (upd (upd (x) 3 (nI (0))) 4 (nI (0))) 9 (nI ((tw (33) (tw (45) (tw (93) (lpS (gof (f 0) (j_3) (2)) (liA (f 5) j_3 mer ter) (jn))))).2))) (va_up (f) 5 ((tw (33) (tw (45) (tw (93) (lpS (gof (f 0) (j_3) (2)) (liA (f 5) j_3 mer ter) (jn))))).1))) := mD hA
                    have htb_46 : (tw (33) (tw (45) (tw (93) (lpS (gof (f 0) (j_3) (2)) (liA (f 5) j_3 mer ter) (jn))))).2 ≤ 29 + 1 + 1 + 1 := (by rw [tw_2]; omega)
                    refine lv_aload_n hx hb dX8_line_178 rfl (lv_at hl 2 rfl) ?_
                    refine g_get (v := .int (nI ((tw (33) (tw (45) (tw (93) (lpS (gof (f 0) (j_3) (2)) (liA (f 5) j_3 mer ter) (jn))))).2))) hx hb hts hown hK hP 0 rfl rfl gu_wsX80 15 (by decide) gm_37_4 rfl dX8_line_179 ?_
                    exact g_iretW (v := nI ((tw (33) (tw (45) (tw (93) (lpS (gof (f 0) (j_3) (2)) (liA (f 5) j_3 mer ter) (jn))))).2)) hx hb hr hlk hS dX8_line_182 (by have hq9 : v.toNatClampNeg = j_3 := (by rw [ej_4, nI_clamp (by omega)]); have hm8 : (gof (f 0) j_3 0).toNatClampNeg = mer := (by rw [hme, nI_clamp (by omega)]); have ht8 : (gof (f 0) j_3 1).toNatClampNeg = ter := (by rw [hte, nI_clamp (by omega)]); have eB := liB_p (s5 := f 5) (q := j_3) (mer := mer) (ter := ter) (jn := jn) c_28; have eC := liC_b c_40 c_43 (ts := liB (gof (f 0) j_3 2) (f 5) j_3 mer ter jn); have eL : lineT (f 0) (f 5) jn j_3 mer ter = liD (clM (f 0) j_3) (liC (gof (f 0) j_3 3) (liB (gof (f 0) j_3 2) (f 5) j_3 mer ter jn)) := rfl; rw [eC, eB, c_45] at eL; rw [lnO, if_pos c_1, hq9, hm8, ht8, eL]; exact ⟨rfl, hP⟩)
                · refine lv_bipush (v := nI (43)) hx hb dX8_line_154 gb_43 ?_
                  refine lv_goto (tgt := 161) hx hb dX8_line_156 (by decide) ?_
                  refine wr_callv (va_runV (As := [.int (nI (43))]) (rest := []) ⟨hx, hb, hml, hown, hts⟩ (c_X8_writes l D cA A (upd (upd (upd (x) 3 (nI (0))) 4 (nI (0))) 9 (nI ((tw (93) (lpS (gof (f 0) (j_3) (2)) (liA (f 5) j_3 mer ter) (jn))).2))) (va_up (f) 5 ((tw (93) (lpS (gof (f 0) (j_3) (2)) (liA (f 5) j_3 mer ter) (jn))).1)) ((tw (93) (lpS (gof (f 0) (j_3) (2)) (liA (f 5) j_3 mer ter) (jn))).2) (43) hA (by rfl) (by omega) (by omega)) (cwV 1 hts (gWV gm_37_9 gm_37_10 gm_37_11 gm_1_5 gm_37_12) rfl rfl rfl (by decide +kernel) ⟨Nat.le_of_ble_eq_true rfl, Nat.le_of_ble_eq_true rfl⟩) (gPreV hK (g_rf hK hP (ci := 10) (q0 := 0) rfl rfl) hP) rfl rfl hl.1 rfl (lv_room (Nat.le_of_ble_eq_true rfl)) dX8_line_161 ⟨by omega, by omega⟩) hS (fun q _ h => h) (fun q h => h) (fun H locs hP hz9 hk9 hS => ?_)
                  have hP : va_P D vwCl (mw cA A (upd (upd (upd (x) 3 (nI (0))) 4 (nI (0))) 9 (nI ((tw (43) (tw (93) (lpS (gof (f 0) (j_3) (2)) (liA (f 5) j_3 mer ter) (jn)))).2))) (va_up (f) 5 ((tw (43) (tw (93) (lpS (gof (f 0) (j_3) (2)) (liA (f 5) j_3 mer ter) (jn)))).1))) H := hP
                  have hD : va_D (MA A) (mw cA A (upd (upd (upd (x) 3 (nI (0))) 4 (nI (0))) 9 (nI ((tw (43) (tw (93) (lpS (gof (f 0) (j_3) (2)) (liA (f 5) j_3 mer ter) (jn)))).2))) (va_up (f) 5 ((tw (43) (tw (93) (lpS (gof (f 0) (j_3) (2)) (liA (f 5) j_3 mer ter) (jn)))).1))) := mD hA
                  have htb_47 : (tw (43) (tw (93) (lpS (gof (f 0) (j_3) (2)) (liA (f 5) j_3 mer ter) (jn)))).2 ≤ 29 + 1 + 1 := (by rw [tw_2]; omega)
                  refine lv_aload_n hx hb dX8_line_164 rfl (lv_at hl 2 rfl) ?_
                  refine lv_iload_n hx hb dX8_line_165 rfl (lv_at hl 3 rfl) ?_
                  refine rd_calle (va_runV (As := [.int (nI (j_3))]) (rest := []) ⟨hx, hb, hml, hown, hts⟩ (c_X8_isClosed l D cA A (upd (upd (upd (x) 3 (nI (0))) 4 (nI (0))) 9 (nI ((tw (43) (tw (93) (lpS (gof (f 0) (j_3) (2)) (liA (f 5) j_3 mer ter) (jn)))).2))) (va_up (f) 5 ((tw (43) (tw (93) (lpS (gof (f 0) (j_3) (2)) (liA (f 5) j_3 mer ter) (jn)))).1)) (j_3) (by omega)) (cwV 1 hts (gWV gm_14_17 gm_14_18 gm_14_19 gm_1_5 gm_14_20) rfl rfl rfl (by decide +kernel) ⟨Nat.le_of_ble_eq_true rfl, Nat.le_of_ble_eq_true rfl⟩) (gPreV hK (g_rf hK hP (ci := 10) (q0 := 0) rfl rfl) hP) rfl rfl hl.1 rfl (lv_room (Nat.le_of_ble_eq_true rfl)) dX8_line_166 ⟨by omega, by omega⟩) ?_
                  refine g_if_eq (P := clM (f 0) (j_3) = false) (tgt := 178) hx hb dX8_line_169 (by decide) b2i_0 (fun c_48 => ?_) (fun c_48 => ?_)
                  · refine lv_aload_n hx hb dX8_line_178 rfl (lv_at hl 2 rfl) ?_
                    refine g_get (v := .int (nI ((tw (43) (tw (93) (lpS (gof (f 0) (j_3) (2)) (liA (f 5) j_3 mer ter) (jn)))).2))) hx hb hts hown hK hP 0 rfl rfl gu_wsX80 15 (by decide) gm_37_4 rfl dX8_line_179 ?_
                    exact g_iretW (v := nI ((tw (43) (tw (93) (lpS (gof (f 0) (j_3) (2)) (liA (f 5) j_3 mer ter) (jn)))).2)) hx hb hr hlk hS dX8_line_182 (by have hq9 : v.toNatClampNeg = j_3 := (by rw [ej_4, nI_clamp (by omega)]); have hm8 : (gof (f 0) j_3 0).toNatClampNeg = mer := (by rw [hme, nI_clamp (by omega)]); have ht8 : (gof (f 0) j_3 1).toNatClampNeg = ter := (by rw [hte, nI_clamp (by omega)]); have eB := liB_p (s5 := f 5) (q := j_3) (mer := mer) (ter := ter) (jn := jn) c_28; have eC := liC_a c_40 c_43 (ts := liB (gof (f 0) j_3 2) (f 5) j_3 mer ter jn); have eL : lineT (f 0) (f 5) jn j_3 mer ter = liD (clM (f 0) j_3) (liC (gof (f 0) j_3 3) (liB (gof (f 0) j_3 2) (f 5) j_3 mer ter jn)) := rfl; rw [eC, eB, c_48] at eL; rw [lnO, if_pos c_1, hq9, hm8, ht8, eL]; exact ⟨rfl, hP⟩)
                  · have c_48 : clM (f 0) (j_3) = true := eq_true_of_ne_false c_48
                    refine lv_aload_n hx hb dX8_line_172 rfl (lv_at hl 2 rfl) ?_
                    refine lv_bipush (v := nI (33)) hx hb dX8_line_173 gb_33 ?_
                    refine wr_callv (va_runV (As := [.int (nI (33))]) (rest := []) ⟨hx, hb, hml, hown, hts⟩ (c_X8_writes l D cA A (upd (upd (upd (x) 3 (nI (0))) 4 (nI (0))) 9 (nI ((tw (43) (tw (93) (lpS (gof (f 0) (j_3) (2)) (liA (f 5) j_3 mer ter) (jn)))).2))) (va_up (f) 5 ((tw (43) (tw (93) (lpS (gof (f 0) (j_3) (2)) (liA (f 5) j_3 mer ter) (jn)))).1)) ((tw (43) (tw (93) (lpS (gof (f 0) (j_3) (2)) (liA (f 5) j_3 mer ter) (jn)))).2) (33) hA (by rfl) (by omega) (by omega)) (cwV 1 hts (gWV gm_37_9 gm_37_10 gm_37_11 gm_1_5 gm_37_12) rfl rfl rfl (by decide +kernel) ⟨Nat.le_of_ble_eq_true rfl, Nat.le_of_ble_eq_true rfl⟩) (gPreV hK (g_rf hK hP (ci := 10) (q0 := 0) rfl rfl) hP) rfl rfl hl.1 rfl (lv_room (Nat.le_of_ble_eq_true rfl)) dX8_line_175 ⟨by omega, by omega⟩) hS (fun q _ h => h) (fun q h => h) (fun H locs hP hz9 hk9 hS => ?_)
                    have hP : va_P D vwCl (mw cA A (upd (upd (upd (x) 3 (nI (0))) 4 (nI (0))) 9 (nI ((tw (33) (tw (43) (tw (93) (lpS (gof (f 0) (j_3) (2)) (liA (f 5) j_3 mer ter) (jn))))).2))) (va_up (f) 5 ((tw (33) (tw (43) (tw (93) (lpS (gof (f 0) (j_3) (2)) (liA (f 5) j_3 mer ter) (jn))))).1))) H := hP
                    have hD : va_D (MA A) (mw cA A (upd (upd (upd (x) 3 (nI (0))) 4 (nI (0))) 9 (nI ((tw (33) (tw (43) (tw (93) (lpS (gof (f 0) (j_3) (2)) (liA (f 5) j_3 mer ter) (jn))))).2))) (va_up (f) 5 ((tw (33) (tw (43) (tw (93) (lpS (gof (f 0) (j_3) (2)) (liA (f 5) j_3 mer ter) (jn))))).1))) := mD hA
                    have htb_49 : (tw (33) (tw (43) (tw (93) (lpS (gof (f 0) (j_3) (2)) (liA (f 5) j_3 mer ter) (jn))))).2 ≤ 29 + 1 + 1 + 1 := (by rw [tw_2]; omega)
                    refine lv_aload_n hx hb dX8_line_178 rfl (lv_at hl 2 rfl) ?_
                    refine g_get (v := .int (nI ((tw (33) (tw (43) (tw (93) (lpS (gof (f 0) (j_3) (2)) (liA (f 5) j_3 mer ter) (jn))))).2))) hx hb hts hown hK hP 0 rfl rfl gu_wsX80 15 (by decide) gm_37_4 rfl dX8_line_179 ?_
                    exact g_iretW (v := nI ((tw (33) (tw (43) (tw (93) (lpS (gof (f 0) (j_3) (2)) (liA (f 5) j_3 mer ter) (jn))))).2)) hx hb hr hlk hS dX8_line_182 (by have hq9 : v.toNatClampNeg = j_3 := (by rw [ej_4, nI_clamp (by omega)]); have hm8 : (gof (f 0) j_3 0).toNatClampNeg = mer := (by rw [hme, nI_clamp (by omega)]); have ht8 : (gof (f 0) j_3 1).toNatClampNeg = ter := (by rw [hte, nI_clamp (by omega)]); have eB := liB_p (s5 := f 5) (q := j_3) (mer := mer) (ter := ter) (jn := jn) c_28; have eC := liC_a c_40 c_43 (ts := liB (gof (f 0) j_3 2) (f 5) j_3 mer ter jn); have eL : lineT (f 0) (f 5) jn j_3 mer ter = liD (clM (f 0) j_3) (liC (gof (f 0) j_3 3) (liB (gof (f 0) j_3 2) (f 5) j_3 mer ter jn)) := rfl; rw [eC, eB, c_48] at eL; rw [lnO, if_pos c_1, hq9, hm8, ht8, eL]; exact ⟨rfl, hP⟩)
          · have d_26 : i_13 < jn := Nat.not_le.mp c_26
            refine lv_iload_n hx hb dX8_line_83 rfl (lv_at hl 1 rfl) ?_
            refine lv_iload_n hx hb dX8_line_84 rfl (lv_at hl 0 rfl) ?_
            refine rd_calle (va_runS (As := [.int (gof (f 0) (j_3) (2)), .int (nI (i_13))]) (rest := []) ⟨hx, hb, hml, hown, hts⟩ (c_X8_has l D cA (gof (f 0) (j_3) (2)) (i_13)) (cwS 2 hts (gWS gm_14_10 gm_14_11 gm_1_5 gm_14_12) rfl rfl rfl (by decide +kernel) ⟨Nat.le_of_ble_eq_true rfl, Nat.le_of_ble_eq_true rfl⟩) (gPreS hK trivial) rfl rfl hl.1 rfl (lv_room (Nat.le_of_ble_eq_true rfl)) dX8_line_85 ⟨by omega, by omega⟩) ?_
            refine g_if_ne (P := hs (gof (f 0) (j_3) (2)) (i_13) = false) (tgt := 94) hx hb dX8_line_88 (by decide) b2i_0 (fun c_50 => ?_) (fun c_50 => ?_)
            · have c_50 : hs (gof (f 0) (j_3) (2)) (i_13) = true := eq_true_of_ne_false c_50
              refine lv_aload_n hx hb dX8_line_94 rfl (lv_at hl 2 rfl) ?_
              refine lv_iload_n hx hb dX8_line_95 rfl (lv_at hl 0 rfl) ?_
              refine lv_iload_n hx hb dX8_line_96 rfl (lv_at hl 1 rfl) ?_
              have lw_51 := lowM_sp c_50 (by omega)
              refine rd_calle (va_runS (As := [.int (gof (f 0) (j_3) (2))]) (rest := [.int (nI (i_13)), .ref (A 0)]) ⟨hx, hb, hml, hown, hts⟩ (c_X8_lowest l D cA (gof (f 0) (j_3) (2)) (lowM (gof (f 0) (j_3) (2))) lw_51.1 lw_51.2.1 lw_51.2.2) (cwS 1 hts (gWS gm_14_7 gm_14_8 gm_1_5 gm_14_9) rfl rfl rfl (by decide +kernel) ⟨Nat.le_of_ble_eq_true rfl, Nat.le_of_ble_eq_true rfl⟩) (gPreS hK trivial) rfl rfl hl.1 rfl (lv_room (Nat.le_of_ble_eq_true rfl)) dX8_line_97 ⟨by omega, by omega⟩) ?_
              refine g_icmp_ne (P := i_13 = lowM (gof (f 0) (j_3) (2))) (tgt := 108) hx hb dX8_line_100 (by decide) (nI_eq (by omega) (by omega)) (fun c_52 => ?_) (fun c_52 => ?_)
              · refine lv_bipush (v := nI (44)) hx hb dX8_line_108 gb_44 ?_
                refine wr_callv (va_runV (As := [.int (nI (44))]) (rest := []) ⟨hx, hb, hml, hown, hts⟩ (c_X8_writes l D cA A (upd (upd (upd (x) 3 (nI (0))) 4 (nI (0))) 9 (nI ((lpS (gof (f 0) (j_3) (2)) (liA (f 5) j_3 mer ter) i_13).2))) (va_up (f) 5 ((lpS (gof (f 0) (j_3) (2)) (liA (f 5) j_3 mer ter) i_13).1)) ((lpS (gof (f 0) (j_3) (2)) (liA (f 5) j_3 mer ter) i_13).2) (44) hA (by rfl) (by omega) (by omega)) (cwV 1 hts (gWV gm_37_9 gm_37_10 gm_37_11 gm_1_5 gm_37_12) rfl rfl rfl (by decide +kernel) ⟨Nat.le_of_ble_eq_true rfl, Nat.le_of_ble_eq_true rfl⟩) (gPreV hK (g_rf hK hP (ci := 10) (q0 := 0) rfl rfl) hP) rfl rfl hl.1 rfl (lv_room (Nat.le_of_ble_eq_true rfl)) dX8_line_110 ⟨by omega, by omega⟩) hS (fun q _ h => h) (fun q h => h) (fun H locs hP hz9 hk9 hS => ?_)
                have hP : va_P D vwCl (mw cA A (upd (upd (upd (x) 3 (nI (0))) 4 (nI (0))) 9 (nI ((tw (44) (lpS (gof (f 0) (j_3) (2)) (liA (f 5) j_3 mer ter) i_13)).2))) (va_up (f) 5 ((tw (44) (lpS (gof (f 0) (j_3) (2)) (liA (f 5) j_3 mer ter) i_13)).1))) H := hP
                have hD : va_D (MA A) (mw cA A (upd (upd (upd (x) 3 (nI (0))) 4 (nI (0))) 9 (nI ((tw (44) (lpS (gof (f 0) (j_3) (2)) (liA (f 5) j_3 mer ter) i_13)).2))) (va_up (f) 5 ((tw (44) (lpS (gof (f 0) (j_3) (2)) (liA (f 5) j_3 mer ter) i_13)).1))) := mD hA
                have htb_53 : (tw (44) (lpS (gof (f 0) (j_3) (2)) (liA (f 5) j_3 mer ter) i_13)).2 ≤ 29 + 1 := (by rw [tw_2]; omega)
                refine lv_aload_n hx hb dX8_line_113 rfl (lv_at hl 2 rfl) ?_
                refine lv_iload_n hx hb dX8_line_114 rfl (lv_at hl 0 rfl) ?_
                refine wr_callv (va_runV (As := [.int (nI (i_13))]) (rest := []) ⟨hx, hb, hml, hown, hts⟩ (c_X8_writesNumber_1 l D cA A (upd (upd (upd (x) 3 (nI (0))) 4 (nI (0))) 9 (nI ((tw (44) (lpS (gof (f 0) (j_3) (2)) (liA (f 5) j_3 mer ter) i_13)).2))) (va_up (f) 5 ((tw (44) (lpS (gof (f 0) (j_3) (2)) (liA (f 5) j_3 mer ter) i_13)).1)) ((tw (44) (lpS (gof (f 0) (j_3) (2)) (liA (f 5) j_3 mer ter) i_13)).2) (i_13) hA (by rfl) (by omega) (by omega)) (cwV 1 hts (gWV gm_37_5 gm_37_6 gm_37_7 gm_1_5 gm_37_8) rfl rfl rfl (by decide +kernel) ⟨Nat.le_of_ble_eq_true rfl, Nat.le_of_ble_eq_true rfl⟩) (gPreV hK (g_rf hK hP (ci := 10) (q0 := 0) rfl rfl) hP) rfl rfl hl.1 rfl (lv_room (Nat.le_of_ble_eq_true rfl)) dX8_line_115 ⟨by omega, by omega⟩) hS (fun q _ h => h) (fun q h => h) (fun H locs hP hz9 hk9 hS => ?_)
                have hP : va_P D vwCl (mw cA A (upd (upd (upd (x) 3 (nI (0))) 4 (nI (0))) 9 (nI ((tn (i_13) (tw (44) (lpS (gof (f 0) (j_3) (2)) (liA (f 5) j_3 mer ter) i_13))).2))) (va_up (f) 5 ((tn (i_13) (tw (44) (lpS (gof (f 0) (j_3) (2)) (liA (f 5) j_3 mer ter) i_13))).1))) H := hP
                have hD : va_D (MA A) (mw cA A (upd (upd (upd (x) 3 (nI (0))) 4 (nI (0))) 9 (nI ((tn (i_13) (tw (44) (lpS (gof (f 0) (j_3) (2)) (liA (f 5) j_3 mer ter) i_13))).2))) (va_up (f) 5 ((tn (i_13) (tw (44) (lpS (gof (f 0) (j_3) (2)) (liA (f 5) j_3 mer ter) i_13))).1))) := mD hA
                have htb_54 : (tn (i_13) (tw (44) (lpS (gof (f 0) (j_3) (2)) (liA (f 5) j_3 mer ter) i_13))).2 ≤ 29 + 1 + 1 := (by rw [tn_29 (by omega)]; omega)
                refine lv_iinc (v := nI (i_13 + 1)) (lv' := [(3, .int (nI (i_13 + 1))), (2, .int (gof (f 0) (j_3) (2))), (0, .ref (A 0)), (1, .int (nI (j_3)))]) hx hb dX8_line_118 hl (k := 0) rfl (inc_1 _) (by decide) rfl (fun ls hl => ?_)
                refine lv_goto (tgt := 73) hx hb dX8_line_121 (by decide) ?_
                exact ih_19 (i_13 + 1) _ (nI ((tn (i_13) (tw (44) (lpS (gof (f 0) (j_3) (2)) (liA (f 5) j_3 mer ter) i_13))).2)) ((tn (i_13) (tw (44) (lpS (gof (f 0) (j_3) (2)) (liA (f 5) j_3 mer ter) i_13))).1) H locs (by omega) (by omega) rfl (by rw [lpS, if_pos c_50, if_neg c_52]) (by rw [lpS, if_pos c_50, if_neg c_52]) hP hS ls (lv_sub hl [0, 1, 2, 3] rfl)
              · refine lv_bipush (v := nI (91)) hx hb dX8_line_103 gb_91 ?_
                refine lv_goto (tgt := 110) hx hb dX8_line_105 (by decide) ?_
                refine wr_callv (va_runV (As := [.int (nI (91))]) (rest := []) ⟨hx, hb, hml, hown, hts⟩ (c_X8_writes l D cA A (upd (upd (upd (x) 3 (nI (0))) 4 (nI (0))) 9 (nI ((lpS (gof (f 0) (j_3) (2)) (liA (f 5) j_3 mer ter) i_13).2))) (va_up (f) 5 ((lpS (gof (f 0) (j_3) (2)) (liA (f 5) j_3 mer ter) i_13).1)) ((lpS (gof (f 0) (j_3) (2)) (liA (f 5) j_3 mer ter) i_13).2) (91) hA (by rfl) (by omega) (by omega)) (cwV 1 hts (gWV gm_37_9 gm_37_10 gm_37_11 gm_1_5 gm_37_12) rfl rfl rfl (by decide +kernel) ⟨Nat.le_of_ble_eq_true rfl, Nat.le_of_ble_eq_true rfl⟩) (gPreV hK (g_rf hK hP (ci := 10) (q0 := 0) rfl rfl) hP) rfl rfl hl.1 rfl (lv_room (Nat.le_of_ble_eq_true rfl)) dX8_line_110 ⟨by omega, by omega⟩) hS (fun q _ h => h) (fun q h => h) (fun H locs hP hz9 hk9 hS => ?_)
                have hP : va_P D vwCl (mw cA A (upd (upd (upd (x) 3 (nI (0))) 4 (nI (0))) 9 (nI ((tw (91) (lpS (gof (f 0) (j_3) (2)) (liA (f 5) j_3 mer ter) i_13)).2))) (va_up (f) 5 ((tw (91) (lpS (gof (f 0) (j_3) (2)) (liA (f 5) j_3 mer ter) i_13)).1))) H := hP
                have hD : va_D (MA A) (mw cA A (upd (upd (upd (x) 3 (nI (0))) 4 (nI (0))) 9 (nI ((tw (91) (lpS (gof (f 0) (j_3) (2)) (liA (f 5) j_3 mer ter) i_13)).2))) (va_up (f) 5 ((tw (91) (lpS (gof (f 0) (j_3) (2)) (liA (f 5) j_3 mer ter) i_13)).1))) := mD hA
                have htb_55 : (tw (91) (lpS (gof (f 0) (j_3) (2)) (liA (f 5) j_3 mer ter) i_13)).2 ≤ 29 + 1 := (by rw [tw_2]; omega)
                refine lv_aload_n hx hb dX8_line_113 rfl (lv_at hl 2 rfl) ?_
                refine lv_iload_n hx hb dX8_line_114 rfl (lv_at hl 0 rfl) ?_
                refine wr_callv (va_runV (As := [.int (nI (i_13))]) (rest := []) ⟨hx, hb, hml, hown, hts⟩ (c_X8_writesNumber_1 l D cA A (upd (upd (upd (x) 3 (nI (0))) 4 (nI (0))) 9 (nI ((tw (91) (lpS (gof (f 0) (j_3) (2)) (liA (f 5) j_3 mer ter) i_13)).2))) (va_up (f) 5 ((tw (91) (lpS (gof (f 0) (j_3) (2)) (liA (f 5) j_3 mer ter) i_13)).1)) ((tw (91) (lpS (gof (f 0) (j_3) (2)) (liA (f 5) j_3 mer ter) i_13)).2) (i_13) hA (by rfl) (by omega) (by omega)) (cwV 1 hts (gWV gm_37_5 gm_37_6 gm_37_7 gm_1_5 gm_37_8) rfl rfl rfl (by decide +kernel) ⟨Nat.le_of_ble_eq_true rfl, Nat.le_of_ble_eq_true rfl⟩) (gPreV hK (g_rf hK hP (ci := 10) (q0 := 0) rfl rfl) hP) rfl rfl hl.1 rfl (lv_room (Nat.le_of_ble_eq_true rfl)) dX8_line_115 ⟨by omega, by omega⟩) hS (fun q _ h => h) (fun q h => h) (fun H locs hP hz9 hk9 hS => ?_)
                have hP : va_P D vwCl (mw cA A (upd (upd (upd (x) 3 (nI (0))) 4 (nI (0))) 9 (nI ((tn (i_13) (tw (91) (lpS (gof (f 0) (j_3) (2)) (liA (f 5) j_3 mer ter) i_13))).2))) (va_up (f) 5 ((tn (i_13) (tw (91) (lpS (gof (f 0) (j_3) (2)) (liA (f 5) j_3 mer ter) i_13))).1))) H := hP
                have hD : va_D (MA A) (mw cA A (upd (upd (upd (x) 3 (nI (0))) 4 (nI (0))) 9 (nI ((tn (i_13) (tw (91) (lpS (gof (f 0) (j_3) (2)) (liA (f 5) j_3 mer ter) i_13))).2))) (va_up (f) 5 ((tn (i_13) (tw (91) (lpS (gof (f 0) (j_3) (2)) (liA (f 5) j_3 mer ter) i_13))).1))) := mD hA
                have htb_56 : (tn (i_13) (tw (91) (lpS (gof (f 0) (j_3) (2)) (liA (f 5) j_3 mer ter) i_13))).2 ≤ 29 + 1 + 1 := (by rw [tn_29 (by omega)]; omega)
                refine lv_iinc (v := nI (i_13 + 1)) (lv' := [(3, .int (nI (i_13 + 1))), (2, .int (gof (f 0) (j_3) (2))), (0, .ref (A 0)), (1, .int (nI (j_3)))]) hx hb dX8_line_118 hl (k := 0) rfl (inc_1 _) (by decide) rfl (fun ls hl => ?_)
                refine lv_goto (tgt := 73) hx hb dX8_line_121 (by decide) ?_
                exact ih_19 (i_13 + 1) _ (nI ((tn (i_13) (tw (91) (lpS (gof (f 0) (j_3) (2)) (liA (f 5) j_3 mer ter) i_13))).2)) ((tn (i_13) (tw (91) (lpS (gof (f 0) (j_3) (2)) (liA (f 5) j_3 mer ter) i_13))).1) H locs (by omega) (by omega) rfl (by rw [lpS, if_pos c_50, if_pos c_52]) (by rw [lpS, if_pos c_50, if_pos c_52]) hP hS ls (lv_sub hl [0, 1, 2, 3] rfl)
            · refine lv_goto (tgt := 118) hx hb dX8_line_91 (by decide) ?_
              refine lv_iinc (v := nI (i_13 + 1)) (lv' := [(3, .int (nI (i_13 + 1))), (2, .int (gof (f 0) (j_3) (2))), (0, .ref (A 0)), (1, .int (nI (j_3)))]) hx hb dX8_line_118 hl (k := 0) rfl (inc_1 _) (by decide) rfl (fun ls hl => ?_)
              refine lv_goto (tgt := 73) hx hb dX8_line_121 (by decide) ?_
              exact ih_19 (i_13 + 1) _ (nI ((lpS (gof (f 0) (j_3) (2)) (liA (f 5) j_3 mer ter) i_13).2)) ((lpS (gof (f 0) (j_3) (2)) (liA (f 5) j_3 mer ter) i_13).1) H locs (by omega) (by omega) rfl (by rw [lpS, if_neg (bnt c_50)]) (by rw [lpS, if_neg (bnt c_50)]) hP hS ls (lv_sub hl [0, 1, 2, 3] rfl)
      exact LP_18 (jn + 1) 0 _ (nI ((tn (ter) (tw (64) (tn (mer) (tw (58) (tn (j_3) (((f 5, 0) : TS))))))).2)) ((tn (ter) (tw (64) (tn (mer) (tw (58) (tn (j_3) (((f 5, 0) : TS))))))).1) H locs (by omega) (by omega) rfl rfl rfl hP hS ls (lv_sub hl [0, 1, 2, 3] rfl)
    · exact absurd c_6 (by decide)

def rlnM (x : Nat → Int32) (f : Nat → Nat → Int32) (cn : Nat) : Int32 × MX := (nI (rlS (f 0) cn (f 5) (fb_ct (rlM (f 0)) cn)).2, (upd (upd x 4 (nI 0)) 9 (nI (rlS (f 0) cn (f 5) (fb_ct (rlM (f 0)) cn)).2), va_up f 5 (rlS (f 0) cn (f 5) (fb_ct (rlM (f 0)) cn)).1))

set_option maxHeartbeats 1000000 in
set_option maxRecDepth 100000 in
theorem c_X8_rollLine (l : Launch) (D : va_G) (cA : Nat → ClassId) (A : Nat → Nat) (x : Nat → Int32) (f : Nat → Nat → Int32) (cn : Nat) (hA : mInj A) (hc : f 0 1 = nI cn) (hcn : cn ≤ 10) (hrk : ∀ k : Nat, k < fb_ct (rlM (f 0)) cn → ∃ b, raM (f 0) cn (nI k) = some b) : Met l yX8_rollLine (gw yX8_rollLine cX8_rollLine 2 (some .int)) ({ frames := 4, cells := 0, slots := 0, locals := 91 } : Room) (gPc [.ref (A 0)] (fun H => va_P D vwCl (mw cA A x f) H) D cA) (wrI (fun r H => r = (rlnM x f cn).1 ∧ va_P D vwCl (mw cA A (rlnM x f cn).2.1 (rlnM x f cn).2.2) H) (MA A)) 0 0 (MA A) := by
  refine gOf (by decide) (Nat.le_of_ble_eq_true rfl) ?_
  intro p e s m below meth c ls hx hb hml hr hlk hown hts hnm hP hK hl
  have hl : lv_has ls 2 [(0, .ref (A 0))] := hl
  have hD : va_D (MA A) (mw cA A x f) := mD hA
  have hS : va_S (MA A) s.heap s.heap [] := va_S.rf
  refine lv_aload_n hx hb dX8_rollLine_0 rfl (lv_at hl 0 rfl) ?_
  refine lv_iconst (v := nI (0)) hx hb dX8_rollLine_1 gc_0 ?_
  refine g_put (ws' := mw cA A (upd (x) 4 (nI (0))) (f)) hx hb hts hown hK hP hD hS 0 rfl rfl gu_wsX80 tyX8_ok nmX8 8 (by decide) gm_9_3 rfl rfl rfl (Nat.le_of_ble_eq_true rfl) rfl dX8_rollLine_2 (fun H locs hP hD hS => ?_)
  refine lv_aload_n hx hb dX8_rollLine_5 rfl (lv_at hl 0 rfl) ?_
  refine lv_iconst (v := nI (0)) hx hb dX8_rollLine_6 gc_0 ?_
  refine g_put (ws' := mw cA A (upd (upd (x) 4 (nI (0))) 9 (nI (0))) (f)) hx hb hts hown hK hP hD hS 0 rfl rfl gu_wsX80 tyX8_ok nmX8 15 (by decide) gm_37_4 rfl rfl rfl (Nat.le_of_ble_eq_true rfl) rfl dX8_rollLine_7 (fun H locs hP hD hS => ?_)
  have htb_1 : (((f 5, 0) : TS)).2 ≤ 0 := Nat.le_refl 0
  refine lv_iconst (v := nI (0)) hx hb dX8_rollLine_10 gc_0 ?_
  refine lv_istore_n (lv' := [(1, .int (nI (0))), (0, .ref (A 0))]) hx hb dX8_rollLine_11 rfl hl (by decide) rfl (fun ls hl => ?_)
  have LP_7 : ∀ (n_3 i_2 : Nat) (x_4 X_5 : Int32) (F_6 : Nat → Int32) (H : Heap) (locs : List Loc), i_2 ≤ fb_ct (rlM (f 0)) cn → fb_ct (rlM (f 0)) cn + 1 ≤ i_2 + n_3 → x_4 = nI (i_2) → X_5 = nI ((rlS (f 0) cn (f 5) i_2).2) → F_6 = (rlS (f 0) cn (f 5) i_2).1 → va_P D vwCl (mw cA A (upd (upd (x) 4 (nI (0))) 9 (X_5)) (va_up (f) 5 (F_6))) H → va_S (MA A) s.heap H locs → ∀ (ls : Array Slot), lv_has ls 2 [(1, .int (x_4)), (0, .ref (A 0))] → W p l e ({ frames := 4, cells := 0, slots := 0, locals := 91 } : Room) s m ([.ref (A 0)] : List Value).toArray below meth c H locs 0 0 (MQ below (wrI (fun r H => r = (rlnM x f cn).1 ∧ va_P D vwCl (mw cA A (rlnM x f cn).2.1 (rlnM x f cn).2.2) H) (MA A)) ([.ref (A 0)] : List Value).toArray s 0 0 (MA A)) (F0 m 12 ls []) := by
    intro n_3
    induction n_3 with
    | zero => intro i_2 x_4 X_5 F_6 H locs h1 h2; exact absurd h2 (by omega)
    | succ n_3 ih_8 =>
      intro i_2 x_4 X_5 F_6 H locs h_9 h_10 e_11 e_12 e_13 hP hS ls hl
      subst e_11
      subst e_12
      subst e_13
      have hD : va_D (MA A) (mw cA A (upd (upd (x) 4 (nI (0))) 9 (nI ((rlS (f 0) cn (f 5) i_2).2))) (va_up (f) 5 ((rlS (f 0) cn (f 5) i_2).1))) := mD hA
      have hrl9 : fb_ct (rlM (f 0)) cn ≤ cn := fb_ct_le _ _
      have hrs9 := rlS_2 (g := f 0) (cn := cn) (s5 := f 5) hcn i_2
      have htb_14 : (rlS (f 0) cn (f 5) i_2).2 ≤ 20 := (by omega)
      refine lv_iload_n hx hb dX8_rollLine_12 rfl (lv_at hl 0 rfl) ?_
      refine lv_aload_n hx hb dX8_rollLine_13 rfl (lv_at hl 1 rfl) ?_
      refine rd_calle (va_runV (As := []) (rest := [.int (nI (i_2))]) ⟨hx, hb, hml, hown, hts⟩ (c_X8_rolls l D cA A (upd (upd (x) 4 (nI (0))) 9 (nI ((rlS (f 0) cn (f 5) i_2).2))) (va_up (f) 5 ((rlS (f 0) cn (f 5) i_2).1))  cn hc hcn) (cwV 0 hts (gWV gm_23_18 gm_23_19 gm_23_20 gm_1_5 gm_23_21) rfl rfl rfl (by decide +kernel) ⟨Nat.le_of_ble_eq_true rfl, Nat.le_of_ble_eq_true rfl⟩) (gPreV hK (g_rf hK hP (ci := 10) (q0 := 0) rfl rfl) hP) rfl rfl hl.1 rfl (lv_room (Nat.le_of_ble_eq_true rfl)) dX8_rollLine_14 ⟨by omega, by omega⟩) ?_
      refine g_top (z := nI (fb_ct (rlM (f 0)) cn)) rfl ?_
      refine g_icmp_ge (P := fb_ct (rlM (f 0)) cn ≤ i_2) (tgt := 45) hx hb dX8_rollLine_17 (by decide) (nI_leI (by omega) (by omega)) (fun c_15 => ?_) (fun c_15 => ?_)
      · have d_15 : ¬ i_2 < fb_ct (rlM (f 0)) cn := Nat.not_lt.mpr c_15
        have hN_16 : fb_ct (rlM (f 0)) cn = i_2 := by omega
        subst hN_16
        refine lv_aload_n hx hb dX8_rollLine_45 rfl (lv_at hl 1 rfl) ?_
        refine g_get (v := .int (nI ((rlS (f 0) cn (f 5) (fb_ct (rlM (f 0)) cn)).2))) hx hb hts hown hK hP 0 rfl rfl gu_wsX80 15 (by decide) gm_37_4 rfl dX8_rollLine_46 ?_
        exact g_iretW (v := nI ((rlS (f 0) cn (f 5) (fb_ct (rlM (f 0)) cn)).2)) hx hb hr hlk hS dX8_rollLine_49 (⟨rfl, hP⟩)
      · have d_15 : i_2 < fb_ct (rlM (f 0)) cn := Nat.not_le.mp c_15
        refine lv_iload_n hx hb dX8_rollLine_20 rfl (lv_at hl 0 rfl) ?_
        refine g_if_le (P := i_2 = 0) (tgt := 30) hx hb dX8_rollLine_21 (by decide) (nI_ez (a := i_2) (by omega)) (fun c_17 => ?_) (fun c_17 => ?_)
        · refine lv_aload_n hx hb dX8_rollLine_30 rfl (lv_at hl 1 rfl) ?_
          refine lv_aload_n hx hb dX8_rollLine_31 rfl (lv_at hl 1 rfl) ?_
          refine lv_iload_n hx hb dX8_rollLine_32 rfl (lv_at hl 0 rfl) ?_
          refine rd_calle (va_runV (As := [.int (nI (i_2))]) (rest := [.ref (A 0)]) ⟨hx, hb, hml, hown, hts⟩ (c_X8_rolledAt l D cA A (upd (upd (x) 4 (nI (0))) 9 (nI ((rlS (f 0) cn (f 5) i_2).2))) (va_up (f) 5 ((rlS (f 0) cn (f 5) i_2).1)) (nI (i_2)) cn hc hcn) (cwV 1 hts (gWV gm_24_2 gm_24_3 gm_24_4 gm_1_5 gm_24_5) rfl rfl rfl (by decide +kernel) ⟨Nat.le_of_ble_eq_true rfl, Nat.le_of_ble_eq_true rfl⟩) (gPreV hK (g_rf hK hP (ci := 10) (q0 := 0) rfl rfl) hP) rfl rfl hl.1 rfl (lv_room (Nat.le_of_ble_eq_true rfl)) dX8_rollLine_33 ⟨by omega, by omega⟩) ?_
          refine g_top (z := oI (raM (f 0) cn (nI (i_2)))) rfl ?_
          obtain ⟨b_18, eb_19⟩ := hrk i_2 (by omega)
          have hb_20 := raM_lt eb_19
          refine g_top (z := nI b_18) (by rw [eb_19]; rfl) ?_
          refine wr_callv (va_runV (As := [.int (nI (b_18))]) (rest := []) ⟨hx, hb, hml, hown, hts⟩ (c_X8_writesNumber_1 l D cA A (upd (upd (x) 4 (nI (0))) 9 (nI ((rlS (f 0) cn (f 5) i_2).2))) (va_up (f) 5 ((rlS (f 0) cn (f 5) i_2).1)) ((rlS (f 0) cn (f 5) i_2).2) (b_18) hA (by rfl) (by omega) (by omega)) (cwV 1 hts (gWV gm_37_5 gm_37_6 gm_37_7 gm_1_5 gm_37_8) rfl rfl rfl (by decide +kernel) ⟨Nat.le_of_ble_eq_true rfl, Nat.le_of_ble_eq_true rfl⟩) (gPreV hK (g_rf hK hP (ci := 10) (q0 := 0) rfl rfl) hP) rfl rfl hl.1 rfl (lv_room (Nat.le_of_ble_eq_true rfl)) dX8_rollLine_36 ⟨by omega, by omega⟩) hS (fun q _ h => h) (fun q h => h) (fun H locs hP hz9 hk9 hS => ?_)
          have hP : va_P D vwCl (mw cA A (upd (upd (x) 4 (nI (0))) 9 (nI ((tn (b_18) (rlS (f 0) cn (f 5) i_2)).2))) (va_up (f) 5 ((tn (b_18) (rlS (f 0) cn (f 5) i_2)).1))) H := hP
          have hD : va_D (MA A) (mw cA A (upd (upd (x) 4 (nI (0))) 9 (nI ((tn (b_18) (rlS (f 0) cn (f 5) i_2)).2))) (va_up (f) 5 ((tn (b_18) (rlS (f 0) cn (f 5) i_2)).1))) := mD hA
          have htb_21 : (tn (b_18) (rlS (f 0) cn (f 5) i_2)).2 ≤ 20 + 1 := (by rw [tn_29 (by omega)]; omega)
          refine lv_iinc (v := nI (i_2 + 1)) (lv' := [(1, .int (nI (i_2 + 1))), (0, .ref (A 0))]) hx hb dX8_rollLine_39 hl (k := 0) rfl (inc_1 _) (by decide) rfl (fun ls hl => ?_)
          refine lv_goto (tgt := 12) hx hb dX8_rollLine_42 (by decide) ?_
          exact ih_8 (i_2 + 1) _ (nI ((tn (b_18) (rlS (f 0) cn (f 5) i_2)).2)) ((tn (b_18) (rlS (f 0) cn (f 5) i_2)).1) H locs (by omega) (by omega) rfl (by rw [rlS, eb_19, if_pos c_17]; rfl) (by rw [rlS, eb_19, if_pos c_17]; rfl) hP hS ls (lv_sub hl [0, 1] rfl)
        · refine lv_aload_n hx hb dX8_rollLine_24 rfl (lv_at hl 1 rfl) ?_
          refine lv_bipush (v := nI (32)) hx hb dX8_rollLine_25 gb_32 ?_
          refine wr_callv (va_runV (As := [.int (nI (32))]) (rest := []) ⟨hx, hb, hml, hown, hts⟩ (c_X8_writes l D cA A (upd (upd (x) 4 (nI (0))) 9 (nI ((rlS (f 0) cn (f 5) i_2).2))) (va_up (f) 5 ((rlS (f 0) cn (f 5) i_2).1)) ((rlS (f 0) cn (f 5) i_2).2) (32) hA (by rfl) (by omega) (by omega)) (cwV 1 hts (gWV gm_37_9 gm_37_10 gm_37_11 gm_1_5 gm_37_12) rfl rfl rfl (by decide +kernel) ⟨Nat.le_of_ble_eq_true rfl, Nat.le_of_ble_eq_true rfl⟩) (gPreV hK (g_rf hK hP (ci := 10) (q0 := 0) rfl rfl) hP) rfl rfl hl.1 rfl (lv_room (Nat.le_of_ble_eq_true rfl)) dX8_rollLine_27 ⟨by omega, by omega⟩) hS (fun q _ h => h) (fun q h => h) (fun H locs hP hz9 hk9 hS => ?_)
          have hP : va_P D vwCl (mw cA A (upd (upd (x) 4 (nI (0))) 9 (nI ((tw (32) (rlS (f 0) cn (f 5) i_2)).2))) (va_up (f) 5 ((tw (32) (rlS (f 0) cn (f 5) i_2)).1))) H := hP
          have hD : va_D (MA A) (mw cA A (upd (upd (x) 4 (nI (0))) 9 (nI ((tw (32) (rlS (f 0) cn (f 5) i_2)).2))) (va_up (f) 5 ((tw (32) (rlS (f 0) cn (f 5) i_2)).1))) := mD hA
          have htb_22 : (tw (32) (rlS (f 0) cn (f 5) i_2)).2 ≤ 20 + 1 := (by rw [tw_2]; omega)
          refine lv_aload_n hx hb dX8_rollLine_30 rfl (lv_at hl 1 rfl) ?_
          refine lv_aload_n hx hb dX8_rollLine_31 rfl (lv_at hl 1 rfl) ?_
          refine lv_iload_n hx hb dX8_rollLine_32 rfl (lv_at hl 0 rfl) ?_
          refine rd_calle (va_runV (As := [.int (nI (i_2))]) (rest := [.ref (A 0)]) ⟨hx, hb, hml, hown, hts⟩ (c_X8_rolledAt l D cA A (upd (upd (x) 4 (nI (0))) 9 (nI ((tw (32) (rlS (f 0) cn (f 5) i_2)).2))) (va_up (f) 5 ((tw (32) (rlS (f 0) cn (f 5) i_2)).1)) (nI (i_2)) cn hc hcn) (cwV 1 hts (gWV gm_24_2 gm_24_3 gm_24_4 gm_1_5 gm_24_5) rfl rfl rfl (by decide +kernel) ⟨Nat.le_of_ble_eq_true rfl, Nat.le_of_ble_eq_true rfl⟩) (gPreV hK (g_rf hK hP (ci := 10) (q0 := 0) rfl rfl) hP) rfl rfl hl.1 rfl (lv_room (Nat.le_of_ble_eq_true rfl)) dX8_rollLine_33 ⟨by omega, by omega⟩) ?_
          refine g_top (z := oI (raM (f 0) cn (nI (i_2)))) rfl ?_
          obtain ⟨b_23, eb_24⟩ := hrk i_2 (by omega)
          have hb_25 := raM_lt eb_24
          refine g_top (z := nI b_23) (by rw [eb_24]; rfl) ?_
          refine wr_callv (va_runV (As := [.int (nI (b_23))]) (rest := []) ⟨hx, hb, hml, hown, hts⟩ (c_X8_writesNumber_1 l D cA A (upd (upd (x) 4 (nI (0))) 9 (nI ((tw (32) (rlS (f 0) cn (f 5) i_2)).2))) (va_up (f) 5 ((tw (32) (rlS (f 0) cn (f 5) i_2)).1)) ((tw (32) (rlS (f 0) cn (f 5) i_2)).2) (b_23) hA (by rfl) (by omega) (by omega)) (cwV 1 hts (gWV gm_37_5 gm_37_6 gm_37_7 gm_1_5 gm_37_8) rfl rfl rfl (by decide +kernel) ⟨Nat.le_of_ble_eq_true rfl, Nat.le_of_ble_eq_true rfl⟩) (gPreV hK (g_rf hK hP (ci := 10) (q0 := 0) rfl rfl) hP) rfl rfl hl.1 rfl (lv_room (Nat.le_of_ble_eq_true rfl)) dX8_rollLine_36 ⟨by omega, by omega⟩) hS (fun q _ h => h) (fun q h => h) (fun H locs hP hz9 hk9 hS => ?_)
          have hP : va_P D vwCl (mw cA A (upd (upd (x) 4 (nI (0))) 9 (nI ((tn (b_23) (tw (32) (rlS (f 0) cn (f 5) i_2))).2))) (va_up (f) 5 ((tn (b_23) (tw (32) (rlS (f 0) cn (f 5) i_2))).1))) H := hP
          have hD : va_D (MA A) (mw cA A (upd (upd (x) 4 (nI (0))) 9 (nI ((tn (b_23) (tw (32) (rlS (f 0) cn (f 5) i_2))).2))) (va_up (f) 5 ((tn (b_23) (tw (32) (rlS (f 0) cn (f 5) i_2))).1))) := mD hA
          have htb_26 : (tn (b_23) (tw (32) (rlS (f 0) cn (f 5) i_2))).2 ≤ 20 + 1 + 1 := (by rw [tn_29 (by omega)]; omega)
          refine lv_iinc (v := nI (i_2 + 1)) (lv' := [(1, .int (nI (i_2 + 1))), (0, .ref (A 0))]) hx hb dX8_rollLine_39 hl (k := 0) rfl (inc_1 _) (by decide) rfl (fun ls hl => ?_)
          refine lv_goto (tgt := 12) hx hb dX8_rollLine_42 (by decide) ?_
          exact ih_8 (i_2 + 1) _ (nI ((tn (b_23) (tw (32) (rlS (f 0) cn (f 5) i_2))).2)) ((tn (b_23) (tw (32) (rlS (f 0) cn (f 5) i_2))).1) H locs (by omega) (by omega) rfl (by rw [rlS, eb_24, if_neg c_17]; rfl) (by rw [rlS, eb_24, if_neg c_17]; rfl) hP hS ls (lv_sub hl [0, 1] rfl)
  exact LP_7 (fb_ct (rlM (f 0)) cn + 1) 0 _ (nI ((((f 5, 0) : TS)).2)) ((((f 5, 0) : TS)).1) H locs (by omega) (by omega) rfl rfl rfl hP hS ls (lv_sub hl [0, 1] rfl)

def hrM (inp : Nat → Int32) (ln q : Nat) : Int32 := if q < ln then inp q else -1
def dgM (inp : Nat → Int32) (ln q : Nat) : Bool := inB (hrM inp ln q) (nI 48) (nI 57)
theorem m1_dg : inB (-1) (nI 48) (nI 57) = false := by decide +kernel
theorem dgM_lt {inp : Nat → Int32} {ln q : Nat} (h : dgM inp ln q = true) : q < ln := by
  rcases Nat.lt_or_ge q ln with z | z
  · exact z
  · rw [dgM, hrM, if_neg (by omega), m1_dg] at h; cases h
def skO (inp : Nat → Int32) (ln q c : Nat) : Bool × Nat := if hrM inp ln q = nI c then (true, q + 1) else (false, q)
theorem nI_nm1 {c : Nat} (h : c < 2 ^ 31) : ¬ (-1 : Int32) = nI c := fun e => by
  have h1 : (nI c).toInt = (c : Int) := nI_toInt h
  have h2 : (-1 : Int32).toInt = -1 := by decide +kernel
  rw [← e] at h1
  omega
theorem skO_le {inp : Nat → Int32} {ln q c : Nat} (hc : c < 65536) (h : q ≤ ln) : (skO inp ln q c).2 ≤ ln := by
  unfold skO
  split
  · rename_i e
    rcases Nat.lt_or_ge q ln with z | z
    · exact z
    · rw [hrM, if_neg (by omega)] at e; exact absurd e (nI_nm1 (by omega))
  · exact h
def fgV (inp : Nat → Int32) (ln q : Nat) : Nat → Int32
  | 0 => nI 0
  | k + 1 => (nI 10 * fgV inp ln q k + hrM inp ln (q + k)) - nI 48
def fgN (inp : Nat → Int32) (ln q mo : Nat) : Nat := (fnd (fun k => !dgM inp ln (q + k)) mo).getD mo
theorem fnd_all {p : Nat → Bool} : ∀ {n : Nat}, fnd p n = none → ∀ i, i < n → p i = false := fun h i hi => fnd_some.fnd_no h i hi
theorem fgN_le {inp : Nat → Int32} {ln q mo : Nat} (h : q ≤ ln) : q + fgN inp ln q mo ≤ ln ∨ fgN inp ln q mo = 0 := by
  unfold fgN
  have key : ∀ n : Nat, 0 < n → (∀ i, i < n → (!dgM inp ln (q + i)) = false) → q + n ≤ ln := fun n hn hh => by
    have := hh (n - 1) (by omega)
    have h2 : dgM inp ln (q + (n - 1)) = true := by simpa using this
    have := dgM_lt h2
    omega
  cases e : fnd (fun k => !dgM inp ln (q + k)) mo with
  | none =>
    rcases Nat.eq_zero_or_pos mo with z | z
    · right; exact z
    · left; exact key mo z (fnd_all e)
  | some k =>
    rcases Nat.eq_zero_or_pos k with z | z
    · right; exact z
    · left; exact key k z (fnd_some e).2
def fgO (inp : Nat → Int32) (ln q : Nat) (td : Nat → Int32) (pl mo : Nat) : Bool × (Nat × (Nat → Int32)) := if dgM inp ln q = true then (true, (q + fgN inp ln q mo, upd td pl (fgV inp ln q (fgN inp ln q mo)))) else (false, (q, td))
theorem fgO_le {inp : Nat → Int32} {ln q : Nat} {td : Nat → Int32} {pl mo : Nat} (h : q ≤ ln) : (fgO inp ln q td pl mo).2.1 ≤ ln := by
  unfold fgO
  split
  · show q + fgN inp ln q mo ≤ ln
    rcases fgN_le (inp := inp) (mo := mo) h with z | z
    · exact z
    · omega
  · exact h
def lhO (inp : Nat → Int32) (ln q : Nat) (td : Nat → Int32) (pl : Nat) : Bool × (Nat × (Nat → Int32)) := if (fgO inp ln (skO inp ln q 45).2 td pl 1).1 = true then (true, ((fgO inp ln (skO inp ln q 45).2 td pl 1).2.1, upd (fgO inp ln (skO inp ln q 45).2 td pl 1).2.2 pl (if (skO inp ln q 45).1 = true then -((fgO inp ln (skO inp ln q 45).2 td pl 1).2.2 pl) else (fgO inp ln (skO inp ln q 45).2 td pl 1).2.2 pl))) else (false, (fgO inp ln (skO inp ln q 45).2 td pl 1).2)
theorem lhO_le {inp : Nat → Int32} {ln q : Nat} {td : Nat → Int32} {pl : Nat} (h : q ≤ ln) : (lhO inp ln q td pl).2.1 ≤ ln := by
  unfold lhO
  split
  · exact fgO_le (skO_le (by decide) h)
  · exact fgO_le (skO_le (by decide) h)
theorem upd2 {x : Nat → Int32} {k : Nat} {a b : Int32} : upd (upd x k a) k b = upd x k b := by
  funext j
  by_cases e : j = k
  · subst e; rw [pk_us, pk_us]
  · rw [pk_un e, pk_un e, pk_un e]

set_option maxHeartbeats 1000000 in
set_option maxRecDepth 100000 in
theorem c_X8_here (l : Launch) (D : va_G) (cA : Nat → ClassId) (A : Nat → Nat) (x : Nat → Int32) (f : Nat → Nat → Int32) (ln at_ : Nat) (hl7 : x 7 = nI ln) (hat : x 10 = nI at_) (hl60 : ln ≤ 60) (ha6 : at_ ≤ ln) : Met l yX8_here (gw yX8_here cX8_here 1 (some .int)) ({ frames := 0, cells := 0, slots := 0, locals := 0 } : Room) (gPc [.ref (A 0)] (fun H => va_P D vwCl (mw cA A x f) H) D cA) (rdI (fun r => r = hrM (f 4) ln at_)) 0 0 nF := by
  refine gOf (by decide) (Nat.le_of_ble_eq_true rfl) ?_
  intro p e s m below meth c ls hx hb hml hr hlk hown hts hnm hP hK hl
  have hl : lv_has ls 1 [(0, .ref (A 0))] := hl
  refine lv_aload_n hx hb dX8_here_0 rfl (lv_at hl 0 rfl) ?_
  refine g_get (v := .int (x 10)) hx hb hts hown hK hP 0 rfl rfl gu_wsX80 18 (by decide) gm_45_17 rfl dX8_here_1 ?_
  refine g_top hat ?_
  refine lv_aload_n hx hb dX8_here_4 rfl (lv_at hl 0 rfl) ?_
  refine g_get (v := .int (x 7)) hx hb hts hown hK hP 0 rfl rfl gu_wsX80 12 (by decide) gm_39_10 rfl dX8_here_5 ?_
  refine g_top hl7 ?_
  refine g_icmp_ge (P := ln ≤ at_) (tgt := 23) hx hb dX8_here_8 (by decide) (nI_leI (by omega) (by omega)) (fun c_1 => ?_) (fun c_1 => ?_)
  · have d_1 : ¬ at_ < ln := Nat.not_lt.mpr c_1
    refine lv_iconst (v := -1) hx hb dX8_here_23 gc_m1 ?_
    exact g_iret (v := -1) hx hb hr hlk dX8_here_24 (by simp [hrM, c_1, d_1])
  · have d_1 : at_ < ln := Nat.not_le.mp c_1
    refine lv_aload_n hx hb dX8_here_11 rfl (lv_at hl 0 rfl) ?_
    refine g_get (v := .ref (A 5)) hx hb hts hown hK hP 0 rfl rfl gu_wsX80 11 (by decide) gm_5_18 rfl dX8_here_12 ?_
    refine lv_aload_n hx hb dX8_here_15 rfl (lv_at hl 0 rfl) ?_
    refine g_get (v := .int (x 10)) hx hb hts hown hK hP 0 rfl rfl gu_wsX80 18 (by decide) gm_45_17 rfl dX8_here_16 ?_
    refine g_top hat ?_
    refine g_iald (x := f 4 (at_)) hx hb hK hP 5 rfl (by omega) (by decide) rfl dX8_here_19 ?_
    refine lv_goto (tgt := 24) hx hb dX8_here_20 (by decide) ?_
    exact g_iret (v := f 4 (at_)) hx hb hr hlk dX8_here_24 (by simp [hrM, c_1, d_1])

set_option maxHeartbeats 1000000 in
set_option maxRecDepth 100000 in
theorem c_X8_skips (l : Launch) (D : va_G) (cA : Nat → ClassId) (A : Nat → Nat) (x : Nat → Int32) (f : Nat → Nat → Int32) (c9 ln at_ : Nat) (hA : mInj A) (hl7 : x 7 = nI ln) (hat : x 10 = nI at_) (hl60 : ln ≤ 60) (ha6 : at_ ≤ ln) (hc6 : c9 < 65536) : Met l yX8_skips (gw yX8_skips cX8_skips 2 (some .boolean)) ({ frames := 1, cells := 0, slots := 0, locals := 20 } : Room) (gPc [.ref (A 0), .int (nI (c9))] (fun H => va_P D vwCl (mw cA A x f) H) D cA) (wrI (fun r H => r = b2i (skO (f 4) ln at_ c9).1 ∧ va_P D vwCl (mw cA A (upd x 10 (nI (skO (f 4) ln at_ c9).2)) (f)) H) (MA A)) 0 0 (MA A) := by
  refine gOf (by decide) (Nat.le_of_ble_eq_true rfl) ?_
  intro p e s m below meth c ls hx hb hml hr hlk hown hts hnm hP hK hl
  have hl : lv_has ls 2 [(0, .ref (A 0)), (1, .int (nI (c9)))] := hl
  have hD : va_D (MA A) (mw cA A x f) := mD hA
  have hS : va_S (MA A) s.heap s.heap [] := va_S.rf
  refine lv_aload_n hx hb dX8_skips_0 rfl (lv_at hl 0 rfl) ?_
  refine rd_calle (va_runV (As := []) (rest := []) ⟨hx, hb, hml, hown, hts⟩ (c_X8_here l D cA A (x) (f) (ln) (at_) hl7 hat (by omega) (by omega)) (cwV 0 hts (gWV gm_46_7 gm_46_8 gm_46_9 gm_1_5 gm_46_10) rfl rfl rfl (by decide +kernel) ⟨Nat.le_of_ble_eq_true rfl, Nat.le_of_ble_eq_true rfl⟩) (gPreV hK (g_rf hK hP (ci := 10) (q0 := 0) rfl rfl) hP) rfl rfl hl.1 rfl (lv_room (Nat.le_of_ble_eq_true rfl)) dX8_skips_1 ⟨by omega, by omega⟩) ?_
  refine lv_iload_n hx hb dX8_skips_4 rfl (lv_at hl 1 rfl) ?_
  refine g_icmp_eq (P := hrM (f 4) (ln) (at_) = nI (c9)) (tgt := 10) hx hb dX8_skips_5 (by decide) Iff.rfl (fun c_1 => ?_) (fun c_1 => ?_)
  · refine lv_aload_n hx hb dX8_skips_10 rfl (lv_at hl 0 rfl) ?_
    refine lv_dup hx hb dX8_skips_11 rfl ?_
    refine g_get (v := .int (x 10)) hx hb hts hown hK hP 0 rfl rfl gu_wsX80 18 (by decide) gm_45_17 rfl dX8_skips_12 ?_
    refine g_top hat ?_
    refine lv_iconst (v := nI (1)) hx hb dX8_skips_15 gc_1 ?_
    refine g_iadd hx hb dX8_skips_16 ?_
    refine g_put (ws' := mw cA A (upd (x) 10 (nI ((at_) + (1)))) (f)) hx hb hts hown hK hP hD hS 0 rfl rfl gu_wsX80 tyX8_ok nmX8 18 (by decide) gm_45_17 rfl rfl rfl (Nat.le_of_ble_eq_true rfl) rfl dX8_skips_17 (fun H locs hP hD hS => ?_)
    refine lv_iconst (v := nI (1)) hx hb dX8_skips_20 gc_1 ?_
    exact g_zretW (v := nI (1)) hx hb hr hlk rfl hS dX8_skips_21 (by rw [skO, if_pos c_1]; exact ⟨rfl, hP⟩)
  · refine lv_iconst (v := nI (0)) hx hb dX8_skips_8 gc_0 ?_
    exact g_zretW (v := nI (0)) hx hb hr hlk rfl hS dX8_skips_9 (by rw [skO, if_neg c_1]; exact ⟨rfl, (by rw [upd_id hat]; exact hP)⟩)

set_option maxHeartbeats 1000000 in
set_option maxRecDepth 100000 in
theorem c_X8_figures (l : Launch) (D : va_G) (cA : Nat → ClassId) (A : Nat → Nat) (x : Nat → Int32) (f : Nat → Nat → Int32) (pl mo ln at_ : Nat) (hA : mInj A) (hl7 : x 7 = nI ln) (hat : x 10 = nI at_) (hl60 : ln ≤ 60) (ha6 : at_ ≤ ln) (hpl : pl < 93) (hmo : mo ≤ 3) : Met l yX8_figures (gw yX8_figures cX8_figures 4 (some .boolean)) ({ frames := 1, cells := 0, slots := 0, locals := 22 } : Room) (gPc [.ref (A 0), .int (nI (pl)), .int (nI (mo))] (fun H => va_P D vwCl (mw cA A x f) H) D cA) (wrI (fun r H => r = b2i (fgO (f 4) ln at_ (f 8) pl mo).1 ∧ va_P D vwCl (mw cA A (upd x 10 (nI (fgO (f 4) ln at_ (f 8) pl mo).2.1)) (va_up f 8 (fgO (f 4) ln at_ (f 8) pl mo).2.2)) H) (MA A)) 0 0 (MA A) := by
  refine gOf (by decide) (Nat.le_of_ble_eq_true rfl) ?_
  intro p e s m below meth c ls hx hb hml hr hlk hown hts hnm hP hK hl
  have hl : lv_has ls 4 [(0, .ref (A 0)), (1, .int (nI (pl))), (2, .int (nI (mo)))] := hl
  have hD : va_D (MA A) (mw cA A x f) := mD hA
  have hS : va_S (MA A) s.heap s.heap [] := va_S.rf
  refine lv_aload_n hx hb dX8_figures_0 rfl (lv_at hl 0 rfl) ?_
  refine rd_calle (va_runV (As := []) (rest := []) ⟨hx, hb, hml, hown, hts⟩ (c_X8_here l D cA A (x) (f) (ln) (at_) hl7 hat (by omega) (by omega)) (cwV 0 hts (gWV gm_46_7 gm_46_8 gm_46_9 gm_1_5 gm_46_10) rfl rfl rfl (by decide +kernel) ⟨Nat.le_of_ble_eq_true rfl, Nat.le_of_ble_eq_true rfl⟩) (gPreV hK (g_rf hK hP (ci := 10) (q0 := 0) rfl rfl) hP) rfl rfl hl.1 rfl (lv_room (Nat.le_of_ble_eq_true rfl)) dX8_figures_1 ⟨by omega, by omega⟩) ?_
  refine lv_bipush (v := nI (48)) hx hb dX8_figures_4 gb_48 ?_
  refine lv_bipush (v := nI (57)) hx hb dX8_figures_6 gb_57 ?_
  refine rd_calle (va_runS (As := [.int (hrM (f 4) (ln) (at_)), .int (nI (48)), .int (nI (57))]) (rest := []) ⟨hx, hb, hml, hown, hts⟩ (c_X8_in l D cA (hrM (f 4) (ln) (at_)) (nI (48)) (nI (57))) (cwS 3 hts (gWS gm_8_20 gm_8_21 gm_1_5 gm_8_22) rfl rfl rfl (by decide +kernel) ⟨Nat.le_of_ble_eq_true rfl, Nat.le_of_ble_eq_true rfl⟩) (gPreS hK trivial) rfl rfl hl.1 rfl (lv_room (Nat.le_of_ble_eq_true rfl)) dX8_figures_8 ⟨by omega, by omega⟩) ?_
  refine g_if_ne (P := inB (hrM (f 4) (ln) (at_)) (nI (48)) (nI (57)) = false) (tgt := 16) hx hb dX8_figures_11 (by decide) b2i_0 (fun c_1 => ?_) (fun c_1 => ?_)
  · have c_1 : inB (hrM (f 4) (ln) (at_)) (nI (48)) (nI (57)) = true := eq_true_of_ne_false c_1
    refine lv_aload_n hx hb dX8_figures_16 rfl (lv_at hl 0 rfl) ?_
    refine g_get (v := .ref (A 9)) hx hb hts hown hK hP 0 rfl rfl gu_wsX80 19 (by decide) gm_5_23 rfl dX8_figures_17 ?_
    refine lv_iload_n hx hb dX8_figures_20 rfl (lv_at hl 1 rfl) ?_
    refine lv_iconst (v := nI (0)) hx hb dX8_figures_21 gc_0 ?_
    refine g_iast (ws' := mw cA A (x) (va_up (f) 8 (upd (f 8) (pl) (nI (0))))) hx hb hK hP hD hS 9 rfl (by omega) (by decide) rfl dX8_figures_22 (fun H locs hP hD hS => ?_)
    refine lv_iconst (v := nI (0)) hx hb dX8_figures_23 gc_0 ?_
    refine lv_istore_n (lv' := [(3, .int (nI (0))), (0, .ref (A 0)), (1, .int (nI (pl))), (2, .int (nI (mo)))]) hx hb dX8_figures_24 rfl hl (by decide) rfl (fun ls hl => ?_)
    have LP_7 : ∀ (n_3 i_2 : Nat) (x_4 X_5 : Int32) (F_6 : Nat → Int32) (H : Heap) (locs : List Loc), i_2 ≤ mo → mo + 1 ≤ i_2 + n_3 → x_4 = nI (i_2) → X_5 = nI (at_ + i_2) → F_6 = upd (f 8) pl (fgV (f 4) ln at_ i_2) → (fnd (fun k => !dgM (f 4) ln (at_ + k)) (i_2) = none) → (∀ j, j < i_2 → (!dgM (f 4) ln (at_ + j)) = false) → va_P D vwCl (mw cA A (upd (x) 10 (X_5)) (va_up (f) 8 (F_6))) H → va_S (MA A) s.heap H locs → ∀ (ls : Array Slot), lv_has ls 4 [(3, .int (x_4)), (0, .ref (A 0)), (1, .int (nI (pl))), (2, .int (nI (mo)))] → W p l e ({ frames := 1, cells := 0, slots := 0, locals := 22 } : Room) s m ([.ref (A 0), .int (nI (pl)), .int (nI (mo))] : List Value).toArray below meth c H locs 0 0 (MQ below (wrI (fun r H => r = b2i (fgO (f 4) ln at_ (f 8) pl mo).1 ∧ va_P D vwCl (mw cA A (upd x 10 (nI (fgO (f 4) ln at_ (f 8) pl mo).2.1)) (va_up f 8 (fgO (f 4) ln at_ (f 8) pl mo).2.2)) H) (MA A)) ([.ref (A 0), .int (nI (pl)), .int (nI (mo))] : List Value).toArray s 0 0 (MA A)) (F0 m 25 ls []) := by
      intro n_3
      induction n_3 with
      | zero => intro i_2 x_4 X_5 F_6 H locs h1 h2; exact absurd h2 (by omega)
      | succ n_3 ih_8 =>
        intro i_2 x_4 X_5 F_6 H locs h_9 h_10 e_11 e_12 e_13 hv hv9 hP hS ls hl
        subst e_11
        subst e_12
        subst e_13
        have hD : va_D (MA A) (mw cA A (upd (x) 10 (nI (at_ + i_2))) (va_up (f) 8 (upd (f 8) pl (fgV (f 4) ln at_ i_2)))) := mD hA
        have hxb_14 : at_ + i_2 ≤ ln := by rcases Nat.eq_zero_or_pos i_2 with z9 | z9; exact (by omega); have q9 := hv9 (i_2 - 1) (by omega); have q8 := dgM_lt (show dgM (f 4) ln (at_ + (i_2 - 1)) = true by simpa using q9); omega
        refine lv_iload_n hx hb dX8_figures_25 rfl (lv_at hl 0 rfl) ?_
        refine lv_iload_n hx hb dX8_figures_26 rfl (lv_at hl 3 rfl) ?_
        refine g_icmp_ge (P := mo ≤ i_2) (tgt := 83) hx hb dX8_figures_27 (by decide) (nI_leI (by omega) (by omega)) (fun c_15 => ?_) (fun c_15 => ?_)
        · have d_15 : ¬ i_2 < mo := Nat.not_lt.mpr c_15
          have hN_16 : mo = i_2 := by omega
          subst hN_16
          refine lv_iconst (v := nI (1)) hx hb dX8_figures_83 gc_1 ?_
          exact g_zretW (v := nI (1)) hx hb hr hlk rfl hS dX8_figures_84 (by have e9 : fgN (f 4) ln at_ mo = mo := (by rw [fgN, hv]; rfl); have c9 : dgM (f 4) ln at_ = true := c_1; rw [fgO, if_pos c9, e9]; exact ⟨rfl, hP⟩)
        · have d_15 : i_2 < mo := Nat.not_le.mp c_15
          refine lv_aload_n hx hb dX8_figures_30 rfl (lv_at hl 1 rfl) ?_
          refine rd_calle (va_runV (As := []) (rest := []) ⟨hx, hb, hml, hown, hts⟩ (c_X8_here l D cA A (upd (x) 10 (nI (at_ + i_2))) (va_up (f) 8 (upd (f 8) pl (fgV (f 4) ln at_ i_2))) (ln) (at_ + i_2) hl7 (by rfl) (by omega) (by omega)) (cwV 0 hts (gWV gm_46_7 gm_46_8 gm_46_9 gm_1_5 gm_46_10) rfl rfl rfl (by decide +kernel) ⟨Nat.le_of_ble_eq_true rfl, Nat.le_of_ble_eq_true rfl⟩) (gPreV hK (g_rf hK hP (ci := 10) (q0 := 0) rfl rfl) hP) rfl rfl hl.1 rfl (lv_room (Nat.le_of_ble_eq_true rfl)) dX8_figures_31 ⟨by omega, by omega⟩) ?_
          refine lv_bipush (v := nI (48)) hx hb dX8_figures_34 gb_48 ?_
          refine lv_bipush (v := nI (57)) hx hb dX8_figures_36 gb_57 ?_
          refine rd_calle (va_runS (As := [.int (hrM (f 4) (ln) (at_ + i_2)), .int (nI (48)), .int (nI (57))]) (rest := []) ⟨hx, hb, hml, hown, hts⟩ (c_X8_in l D cA (hrM (f 4) (ln) (at_ + i_2)) (nI (48)) (nI (57))) (cwS 3 hts (gWS gm_8_20 gm_8_21 gm_1_5 gm_8_22) rfl rfl rfl (by decide +kernel) ⟨Nat.le_of_ble_eq_true rfl, Nat.le_of_ble_eq_true rfl⟩) (gPreS hK trivial) rfl rfl hl.1 rfl (lv_room (Nat.le_of_ble_eq_true rfl)) dX8_figures_38 ⟨by omega, by omega⟩) ?_
          refine g_if_eq (P := inB (hrM (f 4) (ln) (at_ + i_2)) (nI (48)) (nI (57)) = false) (tgt := 83) hx hb dX8_figures_41 (by decide) b2i_0 (fun c_17 => ?_) (fun c_17 => ?_)
          · refine lv_iconst (v := nI (1)) hx hb dX8_figures_83 gc_1 ?_
            exact g_zretW (v := nI (1)) hx hb hr hlk rfl hS dX8_figures_84 (by have e9 : fgN (f 4) ln at_ mo = i_2 := (by rw [fgN, fnd_stop hv (by simp only [dgM]; rw [c_17]; rfl) mo (by omega)]; rfl); have c9 : dgM (f 4) ln at_ = true := c_1; rw [fgO, if_pos c9, e9]; exact ⟨rfl, hP⟩)
          · have c_17 : inB (hrM (f 4) (ln) (at_ + i_2)) (nI (48)) (nI (57)) = true := eq_true_of_ne_false c_17
            refine lv_aload_n hx hb dX8_figures_44 rfl (lv_at hl 1 rfl) ?_
            refine g_get (v := .ref (A 9)) hx hb hts hown hK hP 0 rfl rfl gu_wsX80 19 (by decide) gm_5_23 rfl dX8_figures_45 ?_
            refine lv_iload_n hx hb dX8_figures_48 rfl (lv_at hl 2 rfl) ?_
            refine lv_bipush (v := nI (10)) hx hb dX8_figures_49 gb_10 ?_
            refine lv_aload_n hx hb dX8_figures_51 rfl (lv_at hl 1 rfl) ?_
            refine g_get (v := .ref (A 9)) hx hb hts hown hK hP 0 rfl rfl gu_wsX80 19 (by decide) gm_5_23 rfl dX8_figures_52 ?_
            refine lv_iload_n hx hb dX8_figures_55 rfl (lv_at hl 2 rfl) ?_
            refine g_iald (x := fgV (f 4) ln at_ i_2) hx hb hK hP 9 rfl (by omega) (by decide) pk_us dX8_figures_56 ?_
            refine lv_imul hx hb dX8_figures_57 ?_
            refine lv_aload_n hx hb dX8_figures_58 rfl (lv_at hl 1 rfl) ?_
            refine rd_calle (va_runV (As := []) (rest := [.int ((nI (10)) * (fgV (f 4) ln at_ i_2)), .int (nI (pl)), .ref (A 9)]) ⟨hx, hb, hml, hown, hts⟩ (c_X8_here l D cA A (upd (x) 10 (nI (at_ + i_2))) (va_up (f) 8 (upd (f 8) pl (fgV (f 4) ln at_ i_2))) (ln) (at_ + i_2) hl7 (by rfl) (by omega) (by omega)) (cwV 0 hts (gWV gm_46_7 gm_46_8 gm_46_9 gm_1_5 gm_46_10) rfl rfl rfl (by decide +kernel) ⟨Nat.le_of_ble_eq_true rfl, Nat.le_of_ble_eq_true rfl⟩) (gPreV hK (g_rf hK hP (ci := 10) (q0 := 0) rfl rfl) hP) rfl rfl hl.1 rfl (lv_room (Nat.le_of_ble_eq_true rfl)) dX8_figures_59 ⟨by omega, by omega⟩) ?_
            refine lv_iadd hx hb dX8_figures_62 ?_
            refine lv_bipush (v := nI (48)) hx hb dX8_figures_63 gb_48 ?_
            refine lv_isub hx hb dX8_figures_65 ?_
            refine g_iast (ws' := mw cA A (upd (x) 10 (nI (at_ + i_2))) (va_up (f) 8 (upd (upd (f 8) pl (fgV (f 4) ln at_ i_2)) (pl) ((((nI (10)) * (fgV (f 4) ln at_ i_2)) + (hrM (f 4) (ln) (at_ + i_2))) - (nI (48)))))) hx hb hK hP hD hS 9 rfl (by omega) (by decide) rfl dX8_figures_66 (fun H locs hP hD hS => ?_)
            refine lv_aload_n hx hb dX8_figures_67 rfl (lv_at hl 1 rfl) ?_
            refine lv_dup hx hb dX8_figures_68 rfl ?_
            refine g_get (v := .int (nI (at_ + i_2))) hx hb hts hown hK hP 0 rfl rfl gu_wsX80 18 (by decide) gm_45_17 rfl dX8_figures_69 ?_
            refine lv_iconst (v := nI (1)) hx hb dX8_figures_72 gc_1 ?_
            refine g_iadd hx hb dX8_figures_73 ?_
            refine g_put (ws' := mw cA A (upd (x) 10 (nI ((at_ + i_2) + (1)))) (va_up (f) 8 (upd (upd (f 8) pl (fgV (f 4) ln at_ i_2)) (pl) ((((nI (10)) * (fgV (f 4) ln at_ i_2)) + (hrM (f 4) (ln) (at_ + i_2))) - (nI (48)))))) hx hb hts hown hK hP hD hS 0 rfl rfl gu_wsX80 tyX8_ok nmX8 18 (by decide) gm_45_17 rfl rfl rfl (Nat.le_of_ble_eq_true rfl) rfl dX8_figures_74 (fun H locs hP hD hS => ?_)
            refine lv_iinc (v := nI (i_2 + 1)) (lv' := [(3, .int (nI (i_2 + 1))), (0, .ref (A 0)), (1, .int (nI (pl))), (2, .int (nI (mo)))]) hx hb dX8_figures_77 hl (k := 0) rfl (inc_1 _) (by decide) rfl (fun ls hl => ?_)
            refine lv_goto (tgt := 25) hx hb dX8_figures_80 (by decide) ?_
            exact ih_8 (i_2 + 1) _ (nI ((at_ + i_2) + (1))) (upd (upd (f 8) pl (fgV (f 4) ln at_ i_2)) (pl) ((((nI (10)) * (fgV (f 4) ln at_ i_2)) + (hrM (f 4) (ln) (at_ + i_2))) - (nI (48)))) H locs (by omega) (by omega) rfl rfl (by rw [upd2]; rfl) (fnd_succ_none hv (by simp only [dgM]; rw [c_17]; rfl)) (fnd_all (fnd_succ_none hv (by simp only [dgM]; rw [c_17]; rfl))) hP hS ls (lv_sub hl [0, 1, 2, 3] rfl)
    exact LP_7 (mo + 1) 0 _ (x 10) (upd (f 8) (pl) (nI (0))) H locs (by omega) (by omega) rfl hat rfl rfl (fun _ h => absurd h (Nat.not_lt_zero _)) hP hS ls (lv_sub hl [0, 1, 2, 3] rfl)
  · refine lv_iconst (v := nI (0)) hx hb dX8_figures_14 gc_0 ?_
    exact g_zretW (v := nI (0)) hx hb hr hlk rfl hS dX8_figures_15 (by rw [fgO, if_neg (show ¬ dgM (f 4) ln at_ = true from bnt c_1)]; exact ⟨rfl, (by rw [upd_id hat, vup_id rfl]; exact hP)⟩)

set_option maxHeartbeats 1000000 in
set_option maxRecDepth 100000 in
theorem c_X8_leaningHere (l : Launch) (D : va_G) (cA : Nat → ClassId) (A : Nat → Nat) (x : Nat → Int32) (f : Nat → Nat → Int32) (pl ln at_ : Nat) (hA : mInj A) (hl7 : x 7 = nI ln) (hat : x 10 = nI at_) (hl60 : ln ≤ 60) (ha6 : at_ ≤ ln) (hpl : pl < 93) : Met l yX8_leaningHere (gw yX8_leaningHere cX8_leaningHere 3 (some .boolean)) ({ frames := 2, cells := 0, slots := 0, locals := 45 } : Room) (gPc [.ref (A 0), .int (nI (pl))] (fun H => va_P D vwCl (mw cA A x f) H) D cA) (wrI (fun r H => r = b2i (lhO (f 4) ln at_ (f 8) pl).1 ∧ va_P D vwCl (mw cA A (upd x 10 (nI (lhO (f 4) ln at_ (f 8) pl).2.1)) (va_up f 8 (lhO (f 4) ln at_ (f 8) pl).2.2)) H) (MA A)) 0 0 (MA A) := by
  refine gOf (by decide) (Nat.le_of_ble_eq_true rfl) ?_
  intro p e s m below meth c ls hx hb hml hr hlk hown hts hnm hP hK hl
  have hl : lv_has ls 3 [(0, .ref (A 0)), (1, .int (nI (pl)))] := hl
  have hD : va_D (MA A) (mw cA A x f) := mD hA
  have hS : va_S (MA A) s.heap s.heap [] := va_S.rf
  refine lv_aload_n hx hb dX8_leaningHere_0 rfl (lv_at hl 0 rfl) ?_
  refine lv_bipush (v := nI (45)) hx hb dX8_leaningHere_1 gb_45 ?_
  refine wr_calli (va_runV (As := [.int (nI (45))]) (rest := []) ⟨hx, hb, hml, hown, hts⟩ (c_X8_skips l D cA A (x) (f) (45) (ln) (at_) hA hl7 hat (by omega) (by omega) (by omega)) (cwV 1 hts (gWV gm_46_3 gm_46_4 gm_46_5 gm_1_5 gm_46_6) rfl rfl rfl (by decide +kernel) ⟨Nat.le_of_ble_eq_true rfl, Nat.le_of_ble_eq_true rfl⟩) (gPreV hK (g_rf hK hP (ci := 10) (q0 := 0) rfl rfl) hP) rfl rfl hl.1 rfl (lv_room (Nat.le_of_ble_eq_true rfl)) dX8_leaningHere_3 ⟨by omega, by omega⟩) hS (fun q _ h => h) (fun q h => h) (fun r H locs hw9 hz9 hk9 hS => ?_)
  obtain ⟨rfl, hP⟩ := hw9
  have hP : va_P D vwCl (mw cA A (upd (x) 10 (nI ((skO (f 4) (ln) (at_) (45)).2))) (f)) H := hP
  have hD : va_D (MA A) (mw cA A (upd (x) 10 (nI ((skO (f 4) (ln) (at_) (45)).2))) (f)) := mD hA
  have hxb_1 : (skO (f 4) (ln) (at_) (45)).2 ≤ ln := skO_le (by omega) (by omega)
  refine lv_istore_n (lv' := [(2, .int (b2i ((skO (f 4) (ln) (at_) (45)).1))), (0, .ref (A 0)), (1, .int (nI (pl)))]) hx hb dX8_leaningHere_6 rfl hl (by decide) rfl (fun ls hl => ?_)
  refine lv_aload_n hx hb dX8_leaningHere_7 rfl (lv_at hl 1 rfl) ?_
  refine lv_iload_n hx hb dX8_leaningHere_8 rfl (lv_at hl 2 rfl) ?_
  refine lv_iconst (v := nI (1)) hx hb dX8_leaningHere_9 gc_1 ?_
  refine wr_calli (va_runV (As := [.int (nI (pl)), .int (nI (1))]) (rest := []) ⟨hx, hb, hml, hown, hts⟩ (c_X8_figures l D cA A (upd (x) 10 (nI ((skO (f 4) (ln) (at_) (45)).2))) (f) (pl) (1) (ln) ((skO (f 4) (ln) (at_) (45)).2) hA hl7 (by rfl) (by omega) (by omega) (by omega) (by omega)) (cwV 2 hts (gWV gm_47_1 gm_47_2 gm_47_3 gm_1_5 gm_47_4) rfl rfl rfl (by decide +kernel) ⟨Nat.le_of_ble_eq_true rfl, Nat.le_of_ble_eq_true rfl⟩) (gPreV hK (g_rf hK hP (ci := 10) (q0 := 0) rfl rfl) hP) rfl rfl hl.1 rfl (lv_room (Nat.le_of_ble_eq_true rfl)) dX8_leaningHere_10 ⟨by omega, by omega⟩) hS (fun q _ h => h) (fun q h => h) (fun r H locs hw9 hz9 hk9 hS => ?_)
  obtain ⟨rfl, hP⟩ := hw9
  have hP : va_P D vwCl (mw cA A (upd (x) 10 (nI ((fgO (f 4) (ln) ((skO (f 4) (ln) (at_) (45)).2) (f 8) (pl) (1)).2.1))) (va_up (f) 8 ((fgO (f 4) (ln) ((skO (f 4) (ln) (at_) (45)).2) (f 8) (pl) (1)).2.2))) H := hP
  have hD : va_D (MA A) (mw cA A (upd (x) 10 (nI ((fgO (f 4) (ln) ((skO (f 4) (ln) (at_) (45)).2) (f 8) (pl) (1)).2.1))) (va_up (f) 8 ((fgO (f 4) (ln) ((skO (f 4) (ln) (at_) (45)).2) (f 8) (pl) (1)).2.2))) := mD hA
  have hxb_2 : (fgO (f 4) (ln) ((skO (f 4) (ln) (at_) (45)).2) (f 8) (pl) (1)).2.1 ≤ ln := fgO_le (by omega)
  refine g_if_ne (P := (fgO (f 4) (ln) ((skO (f 4) (ln) (at_) (45)).2) (f 8) (pl) (1)).1 = false) (tgt := 18) hx hb dX8_leaningHere_13 (by decide) b2i_0 (fun c_3 => ?_) (fun c_3 => ?_)
  · have c_3 : (fgO (f 4) (ln) ((skO (f 4) (ln) (at_) (45)).2) (f 8) (pl) (1)).1 = true := eq_true_of_ne_false c_3
    refine lv_aload_n hx hb dX8_leaningHere_18 rfl (lv_at hl 1 rfl) ?_
    refine g_get (v := .ref (A 9)) hx hb hts hown hK hP 0 rfl rfl gu_wsX80 19 (by decide) gm_5_23 rfl dX8_leaningHere_19 ?_
    refine lv_iload_n hx hb dX8_leaningHere_22 rfl (lv_at hl 2 rfl) ?_
    refine lv_iload_n hx hb dX8_leaningHere_23 rfl (lv_at hl 0 rfl) ?_
    refine g_if_eq (P := (skO (f 4) (ln) (at_) (45)).1 = false) (tgt := 37) hx hb dX8_leaningHere_24 (by decide) b2i_0 (fun c_4 => ?_) (fun c_4 => ?_)
    · refine lv_aload_n hx hb dX8_leaningHere_37 rfl (lv_at hl 1 rfl) ?_
      refine g_get (v := .ref (A 9)) hx hb hts hown hK hP 0 rfl rfl gu_wsX80 19 (by decide) gm_5_23 rfl dX8_leaningHere_38 ?_
      refine lv_iload_n hx hb dX8_leaningHere_41 rfl (lv_at hl 2 rfl) ?_
      refine g_iald (x := (fgO (f 4) (ln) ((skO (f 4) (ln) (at_) (45)).2) (f 8) (pl) (1)).2.2 (pl)) hx hb hK hP 9 rfl (by omega) (by decide) rfl dX8_leaningHere_42 ?_
      refine g_iast (ws' := mw cA A (upd (x) 10 (nI ((fgO (f 4) (ln) ((skO (f 4) (ln) (at_) (45)).2) (f 8) (pl) (1)).2.1))) (va_up (f) 8 (upd ((fgO (f 4) (ln) ((skO (f 4) (ln) (at_) (45)).2) (f 8) (pl) (1)).2.2) (pl) ((fgO (f 4) (ln) ((skO (f 4) (ln) (at_) (45)).2) (f 8) (pl) (1)).2.2 (pl))))) hx hb hK hP hD hS 9 rfl (by omega) (by decide) rfl dX8_leaningHere_43 (fun H locs hP hD hS => ?_)
      refine lv_iconst (v := nI (1)) hx hb dX8_leaningHere_44 gc_1 ?_
      exact g_zretW (v := nI (1)) hx hb hr hlk rfl hS dX8_leaningHere_45 (by rw [lhO, if_pos c_3, if_neg (bnt c_4)]; exact ⟨rfl, hP⟩)
    · have c_4 : (skO (f 4) (ln) (at_) (45)).1 = true := eq_true_of_ne_false c_4
      refine lv_aload_n hx hb dX8_leaningHere_27 rfl (lv_at hl 1 rfl) ?_
      refine g_get (v := .ref (A 9)) hx hb hts hown hK hP 0 rfl rfl gu_wsX80 19 (by decide) gm_5_23 rfl dX8_leaningHere_28 ?_
      refine lv_iload_n hx hb dX8_leaningHere_31 rfl (lv_at hl 2 rfl) ?_
      refine g_iald (x := (fgO (f 4) (ln) ((skO (f 4) (ln) (at_) (45)).2) (f 8) (pl) (1)).2.2 (pl)) hx hb hK hP 9 rfl (by omega) (by decide) rfl dX8_leaningHere_32 ?_
      refine lv_ineg hx hb dX8_leaningHere_33 ?_
      refine lv_goto (tgt := 43) hx hb dX8_leaningHere_34 (by decide) ?_
      refine g_iast (ws' := mw cA A (upd (x) 10 (nI ((fgO (f 4) (ln) ((skO (f 4) (ln) (at_) (45)).2) (f 8) (pl) (1)).2.1))) (va_up (f) 8 (upd ((fgO (f 4) (ln) ((skO (f 4) (ln) (at_) (45)).2) (f 8) (pl) (1)).2.2) (pl) (-((fgO (f 4) (ln) ((skO (f 4) (ln) (at_) (45)).2) (f 8) (pl) (1)).2.2 (pl)))))) hx hb hK hP hD hS 9 rfl (by omega) (by decide) rfl dX8_leaningHere_43 (fun H locs hP hD hS => ?_)
      refine lv_iconst (v := nI (1)) hx hb dX8_leaningHere_44 gc_1 ?_
      exact g_zretW (v := nI (1)) hx hb hr hlk rfl hS dX8_leaningHere_45 (by rw [lhO, if_pos c_3, if_pos c_4]; exact ⟨rfl, hP⟩)
  · refine lv_iconst (v := nI (0)) hx hb dX8_leaningHere_16 gc_0 ?_
    exact g_zretW (v := nI (0)) hx hb hr hlk rfl hS dX8_leaningHere_17 (by rw [lhO, if_neg (bnt c_3)]; exact ⟨rfl, hP⟩)

set_option maxHeartbeats 1000000 in
set_option maxRecDepth 100000 in
theorem c_X8_hasOrder (l : Launch) (D : va_G) (cA : Nat → ClassId) (A : Nat → Nat) (x : Nat → Int32) (f : Nat → Nat → Int32) (wh tm : Nat) (hA : mInj A) (htm : x 11 = nI tm) (ht31 : tm ≤ 30) : Met l yX8_hasOrder (gw yX8_hasOrder cX8_hasOrder 2 (some .boolean)) ({ frames := 0, cells := 0, slots := 0, locals := 0 } : Room) (gPc [.ref (A 0), .int (nI (wh))] (fun H => va_P D vwCl (mw cA A x f) H) D cA) (wrI (fun r H => r = b2i true ∧ va_P D vwCl (mw cA A (x) (va_up f 8 (upd (f 8) (3 * tm) (nI wh)))) H) (MA A)) 0 0 (MA A) := by
  refine gOf (by decide) (Nat.le_of_ble_eq_true rfl) ?_
  intro p e s m below meth c ls hx hb hml hr hlk hown hts hnm hP hK hl
  have hl : lv_has ls 2 [(0, .ref (A 0)), (1, .int (nI (wh)))] := hl
  have hD : va_D (MA A) (mw cA A x f) := mD hA
  have hS : va_S (MA A) s.heap s.heap [] := va_S.rf
  refine lv_aload_n hx hb dX8_hasOrder_0 rfl (lv_at hl 0 rfl) ?_
  refine g_get (v := .ref (A 9)) hx hb hts hown hK hP 0 rfl rfl gu_wsX80 19 (by decide) gm_5_23 rfl dX8_hasOrder_1 ?_
  refine lv_iconst (v := nI (3)) hx hb dX8_hasOrder_4 gc_3 ?_
  refine lv_aload_n hx hb dX8_hasOrder_5 rfl (lv_at hl 0 rfl) ?_
  refine g_get (v := .int (x 11)) hx hb hts hown hK hP 0 rfl rfl gu_wsX80 20 (by decide) gm_45_18 rfl dX8_hasOrder_6 ?_
  refine g_top htm ?_
  refine g_imul hx hb dX8_hasOrder_9 ?_
  refine lv_iload_n hx hb dX8_hasOrder_10 rfl (lv_at hl 1 rfl) ?_
  refine g_iast (ws' := mw cA A (x) (va_up (f) 8 (upd (f 8) (3 * tm) (nI (wh))))) hx hb hK hP hD hS 9 rfl (by omega) (by decide) rfl dX8_hasOrder_11 (fun H locs hP hD hS => ?_)
  refine lv_iconst (v := nI (1)) hx hb dX8_hasOrder_12 gc_1 ?_
  exact g_zretW (v := nI (1)) hx hb hr hlk rfl hS dX8_hasOrder_13 (⟨rfl, hP⟩)

theorem inB_out {v : Int32} {lo hi : Nat} (h : ¬ inB v (nI lo) (nI hi) = true) (h1 : lo < 2 ^ 31) (h2 : hi < 2 ^ 31) : v.toInt < (lo : Int) ∨ (hi : Int) < v.toInt := by
  have e1 : (nI lo).toInt = (lo : Int) := nI_toInt h1
  have e2 : (nI hi).toInt = (hi : Int) := nI_toInt h2
  simp only [inB, Int32.lt_iff_toInt_lt, e1, e2, decide_eq_true_eq] at h
  omega
def acV (x : Nat → Int32) (g : Nat → Int32) (jn cn : Nat) (k : Nat) : Int32 := match k with
  | 4 => nI (fb_ct (fun k => if false = true then clM g k else decide (gof g k 2 = 0)) cn)
  | 5 => nI (fb_ct (fun k => if true = true then clM g k else decide (gof g k 2 = 0)) cn)
  | 6 => g 4
  | 7 => g 5
  | 8 => g 6
  | 9 => isum (fun j => gby g j 1) jn
  | 10 => x 7
  | 11 => x 1
  | k => g k
def acM (x : Nat → Int32) (g : Nat → Int32) (jn cn : Nat) (v : Int32) : Int32 × (Nat → Int32) := if inB v (nI 0) (nI 11) = true then (acV x g jn cn v.toNatClampNeg, failX x 0) else (nI 0, failX x 1)

set_option maxHeartbeats 1000000 in
set_option maxRecDepth 100000 in
theorem c_X8_account (l : Launch) (D : va_G) (cA : Nat → ClassId) (A : Nat → Nat) (x : Nat → Int32) (f : Nat → Nat → Int32) (v : Int32) (jn cn : Nat) (hA : mInj A) (hj : f 0 0 = nI jn) (hjn : jn ≤ 9) (hc : f 0 1 = nI cn) (hcn : cn ≤ 10) : Met l yX8_account (gw yX8_account cX8_account 2 (some .int)) ({ frames := 3, cells := 0, slots := 0, locals := 66 } : Room) (gPc [.ref (A 0), .int (v)] (fun H => va_P D vwCl (mw cA A x f) H) D cA) (wrI (fun r H => r = (acM x (f 0) jn cn v).1 ∧ va_P D vwCl (mw cA A (acM x (f 0) jn cn v).2 f) H) (MA A)) 0 0 (MA A) := by
  refine gOf (by decide) (Nat.le_of_ble_eq_true rfl) ?_
  intro p e s m below meth c ls hx hb hml hr hlk hown hts hnm hP hK hl
  have hl : lv_has ls 2 [(0, .ref (A 0)), (1, .int (v))] := hl
  have hD : va_D (MA A) (mw cA A x f) := mD hA
  have hS : va_S (MA A) s.heap s.heap [] := va_S.rf
  refine lv_aload_n hx hb dX8_account_0 rfl (lv_at hl 0 rfl) ?_
  refine lv_iload_n hx hb dX8_account_1 rfl (lv_at hl 1 rfl) ?_
  refine lv_iconst (v := nI (0)) hx hb dX8_account_2 gc_0 ?_
  refine lv_bipush (v := nI (11)) hx hb dX8_account_3 gb_11 ?_
  refine rd_calle (va_runS (As := [.int (v), .int (nI (0)), .int (nI (11))]) (rest := [.ref (A 0)]) ⟨hx, hb, hml, hown, hts⟩ (c_X8_in l D cA (v) (nI (0)) (nI (11))) (cwS 3 hts (gWS gm_8_20 gm_8_21 gm_1_5 gm_8_22) rfl rfl rfl (by decide +kernel) ⟨Nat.le_of_ble_eq_true rfl, Nat.le_of_ble_eq_true rfl⟩) (gPreS hK trivial) rfl rfl hl.1 rfl (lv_room (Nat.le_of_ble_eq_true rfl)) dX8_account_5 ⟨by omega, by omega⟩) ?_
  refine g_if_eq (P := inB (v) (nI (0)) (nI (11)) = false) (tgt := 15) hx hb dX8_account_8 (by decide) b2i_0 (fun c_1 => ?_) (fun c_1 => ?_)
  · refine lv_iconst (v := nI (1)) hx hb dX8_account_15 gc_1 ?_
    refine wr_calli (va_runV (As := [.int (nI (1))]) (rest := []) ⟨hx, hb, hml, hown, hts⟩ (c_X8_fails l D cA A (x) (f) (1)  hA (by decide)) (cwV 1 hts (gWV gm_8_23 gm_9_0 gm_9_1 gm_1_5 gm_9_2) rfl rfl rfl (by decide +kernel) ⟨Nat.le_of_ble_eq_true rfl, Nat.le_of_ble_eq_true rfl⟩) (gPreV hK (g_rf hK hP (ci := 10) (q0 := 0) rfl rfl) hP) rfl rfl hl.1 rfl (lv_room (Nat.le_of_ble_eq_true rfl)) dX8_account_16 ⟨by omega, by omega⟩) hS (fun q _ h => h) (fun q h => h) (fun r H locs hw9 hz9 hk9 hS => ?_)
    obtain ⟨rfl, hP⟩ := hw9
    have hP : va_P D vwCl (mw cA A (upd (upd (x) 3 (nI (0))) 4 (nI (1))) (f)) H := hP
    have hD : va_D (MA A) (mw cA A (upd (upd (x) 3 (nI (0))) 4 (nI (1))) (f)) := mD hA
    refine g_if_eq (P := true = false) (tgt := 24) hx hb dX8_account_19 (by decide) b2i_0 (fun c_2 => ?_) (fun c_2 => ?_)
    · exact absurd c_2 (by decide)
    · have c_2 : true = true := eq_true_of_ne_false c_2
      refine lv_iconst (v := nI (0)) hx hb dX8_account_22 gc_0 ?_
      exact g_iretW (v := nI (0)) hx hb hr hlk hS dX8_account_23 (by rw [acM, if_neg (bnt c_1)]; exact ⟨rfl, hP⟩)
  · have c_1 : inB (v) (nI (0)) (nI (11)) = true := eq_true_of_ne_false c_1
    obtain ⟨k_3, hk_5, ek_4⟩ := inB_n c_1 (by decide)
    rw [ek_4] at hl
    have hl : lv_has ls 2 [(0, .ref (A 0)), (1, .int (nI (k_3)))] := hl
    refine lv_iconst (v := nI (0)) hx hb dX8_account_11 gc_0 ?_
    refine lv_goto (tgt := 16) hx hb dX8_account_12 (by decide) ?_
    refine wr_calli (va_runV (As := [.int (nI (0))]) (rest := []) ⟨hx, hb, hml, hown, hts⟩ (c_X8_fails l D cA A (x) (f) (0)  hA (by decide)) (cwV 1 hts (gWV gm_8_23 gm_9_0 gm_9_1 gm_1_5 gm_9_2) rfl rfl rfl (by decide +kernel) ⟨Nat.le_of_ble_eq_true rfl, Nat.le_of_ble_eq_true rfl⟩) (gPreV hK (g_rf hK hP (ci := 10) (q0 := 0) rfl rfl) hP) rfl rfl hl.1 rfl (lv_room (Nat.le_of_ble_eq_true rfl)) dX8_account_16 ⟨by omega, by omega⟩) hS (fun q _ h => h) (fun q h => h) (fun r H locs hw9 hz9 hk9 hS => ?_)
    obtain ⟨rfl, hP⟩ := hw9
    have hP : va_P D vwCl (mw cA A (upd (upd (x) 3 (nI (0))) 4 (nI (0))) (f)) H := hP
    have hD : va_D (MA A) (mw cA A (upd (upd (x) 3 (nI (0))) 4 (nI (0))) (f)) := mD hA
    refine g_if_eq (P := false = false) (tgt := 24) hx hb dX8_account_19 (by decide) b2i_0 (fun c_6 => ?_) (fun c_6 => ?_)
    · refine lv_iload_n hx hb dX8_account_24 rfl (lv_at hl 1 rfl) ?_
      have hsw_7 : k_3 = 0 ∨ k_3 = 1 ∨ k_3 = 2 ∨ k_3 = 3 ∨ k_3 = 4 ∨ k_3 = 5 ∨ k_3 = 6 ∨ k_3 = 7 ∨ k_3 = 8 ∨ k_3 = 9 ∨ k_3 = 10 ∨ k_3 = 11 := by omega
      rcases hsw_7 with rfl | rfl | rfl | rfl | rfl | rfl | rfl | rfl | rfl | rfl | rfl | rfl
      · refine lv_tableOut (tgt := 122) hx hb dX8_account_25 (by decide +kernel) (by decide) ?_
        refine lv_aload_n hx hb dX8_account_122 rfl (lv_at hl 0 rfl) ?_
        refine g_get (v := .ref (A 1)) hx hb hts hown hK hP 0 rfl rfl gu_wsX80 0 (by decide) gm_5_14 rfl dX8_account_123 ?_
        refine lv_iload_n hx hb dX8_account_126 rfl (lv_at hl 1 rfl) ?_
        refine g_iald (x := f 0 ((0))) hx hb hK hP 1 rfl (by omega) (by decide) rfl dX8_account_127 ?_
        exact g_iretW (v := f 0 ((0))) hx hb hr hlk hS dX8_account_128 (by have hq9 : v.toNatClampNeg = 0 := (by rw [ek_4]; decide +kernel); rw [acM, if_pos c_1, hq9]; exact ⟨rfl, hP⟩)
      · refine lv_tableOut (tgt := 122) hx hb dX8_account_25 (by decide +kernel) (by decide) ?_
        refine lv_aload_n hx hb dX8_account_122 rfl (lv_at hl 0 rfl) ?_
        refine g_get (v := .ref (A 1)) hx hb hts hown hK hP 0 rfl rfl gu_wsX80 0 (by decide) gm_5_14 rfl dX8_account_123 ?_
        refine lv_iload_n hx hb dX8_account_126 rfl (lv_at hl 1 rfl) ?_
        refine g_iald (x := f 0 ((1))) hx hb hK hP 1 rfl (by omega) (by decide) rfl dX8_account_127 ?_
        exact g_iretW (v := f 0 ((1))) hx hb hr hlk hS dX8_account_128 (by have hq9 : v.toNatClampNeg = 1 := (by rw [ek_4]; decide +kernel); rw [acM, if_pos c_1, hq9]; exact ⟨rfl, hP⟩)
      · refine lv_tableOut (tgt := 122) hx hb dX8_account_25 (by decide +kernel) (by decide) ?_
        refine lv_aload_n hx hb dX8_account_122 rfl (lv_at hl 0 rfl) ?_
        refine g_get (v := .ref (A 1)) hx hb hts hown hK hP 0 rfl rfl gu_wsX80 0 (by decide) gm_5_14 rfl dX8_account_123 ?_
        refine lv_iload_n hx hb dX8_account_126 rfl (lv_at hl 1 rfl) ?_
        refine g_iald (x := f 0 ((2))) hx hb hK hP 1 rfl (by omega) (by decide) rfl dX8_account_127 ?_
        exact g_iretW (v := f 0 ((2))) hx hb hr hlk hS dX8_account_128 (by have hq9 : v.toNatClampNeg = 2 := (by rw [ek_4]; decide +kernel); rw [acM, if_pos c_1, hq9]; exact ⟨rfl, hP⟩)
      · refine lv_tableOut (tgt := 122) hx hb dX8_account_25 (by decide +kernel) (by decide) ?_
        refine lv_aload_n hx hb dX8_account_122 rfl (lv_at hl 0 rfl) ?_
        refine g_get (v := .ref (A 1)) hx hb hts hown hK hP 0 rfl rfl gu_wsX80 0 (by decide) gm_5_14 rfl dX8_account_123 ?_
        refine lv_iload_n hx hb dX8_account_126 rfl (lv_at hl 1 rfl) ?_
        refine g_iald (x := f 0 ((3))) hx hb hK hP 1 rfl (by omega) (by decide) rfl dX8_account_127 ?_
        exact g_iretW (v := f 0 ((3))) hx hb hr hlk hS dX8_account_128 (by have hq9 : v.toNatClampNeg = 3 := (by rw [ek_4]; decide +kernel); rw [acM, if_pos c_1, hq9]; exact ⟨rfl, hP⟩)
      · refine lv_tableIn (off := 47) (tgt := 72) hx hb dX8_account_25 (by decide +kernel) (by decide +kernel) (by decide +kernel) (by decide) ?_
        refine lv_aload_n hx hb dX8_account_72 rfl (lv_at hl 0 rfl) ?_
        refine lv_iconst (v := nI (0)) hx hb dX8_account_73 gc_0 ?_
        refine rd_calle (va_runV (As := [.int (nI (0))]) (rest := []) ⟨hx, hb, hml, hown, hts⟩ (c_X8_cases l D cA A (upd (upd (x) 3 (nI (0))) 4 (nI (0))) (f) false cn hc hcn) (cwV 1 hts (gWV gm_49_22 gm_49_23 gm_50_0 gm_1_5 gm_50_1) rfl rfl rfl (by decide +kernel) ⟨Nat.le_of_ble_eq_true rfl, Nat.le_of_ble_eq_true rfl⟩) (gPreV hK (g_rf hK hP (ci := 10) (q0 := 0) rfl rfl) hP) rfl rfl hl.1 rfl (lv_room (Nat.le_of_ble_eq_true rfl)) dX8_account_74 ⟨by omega, by omega⟩) ?_
        exact g_iretW (v := nI (fb_ct (fun k => if false = true then clM (f 0) k else decide (gof (f 0) k 2 = 0)) cn)) hx hb hr hlk hS dX8_account_77 (by have hq9 : v.toNatClampNeg = 4 := (by rw [ek_4]; decide +kernel); rw [acM, if_pos c_1, hq9]; exact ⟨rfl, hP⟩)
      · refine lv_tableIn (off := 53) (tgt := 78) hx hb dX8_account_25 (by decide +kernel) (by decide +kernel) (by decide +kernel) (by decide) ?_
        refine lv_aload_n hx hb dX8_account_78 rfl (lv_at hl 0 rfl) ?_
        refine lv_iconst (v := nI (1)) hx hb dX8_account_79 gc_1 ?_
        refine rd_calle (va_runV (As := [.int (nI (1))]) (rest := []) ⟨hx, hb, hml, hown, hts⟩ (c_X8_cases l D cA A (upd (upd (x) 3 (nI (0))) 4 (nI (0))) (f) true cn hc hcn) (cwV 1 hts (gWV gm_49_22 gm_49_23 gm_50_0 gm_1_5 gm_50_1) rfl rfl rfl (by decide +kernel) ⟨Nat.le_of_ble_eq_true rfl, Nat.le_of_ble_eq_true rfl⟩) (gPreV hK (g_rf hK hP (ci := 10) (q0 := 0) rfl rfl) hP) rfl rfl hl.1 rfl (lv_room (Nat.le_of_ble_eq_true rfl)) dX8_account_80 ⟨by omega, by omega⟩) ?_
        exact g_iretW (v := nI (fb_ct (fun k => if true = true then clM (f 0) k else decide (gof (f 0) k 2 = 0)) cn)) hx hb hr hlk hS dX8_account_83 (by have hq9 : v.toNatClampNeg = 5 := (by rw [ek_4]; decide +kernel); rw [acM, if_pos c_1, hq9]; exact ⟨rfl, hP⟩)
      · refine lv_tableIn (off := 59) (tgt := 84) hx hb dX8_account_25 (by decide +kernel) (by decide +kernel) (by decide +kernel) (by decide) ?_
        refine lv_aload_n hx hb dX8_account_84 rfl (lv_at hl 0 rfl) ?_
        refine g_get (v := .ref (A 1)) hx hb hts hown hK hP 0 rfl rfl gu_wsX80 0 (by decide) gm_5_14 rfl dX8_account_85 ?_
        refine lv_iconst (v := nI (4)) hx hb dX8_account_88 gc_4 ?_
        refine g_iald (x := f 0 (4)) hx hb hK hP 1 rfl (by omega) (by decide) rfl dX8_account_89 ?_
        exact g_iretW (v := f 0 (4)) hx hb hr hlk hS dX8_account_90 (by have hq9 : v.toNatClampNeg = 6 := (by rw [ek_4]; decide +kernel); rw [acM, if_pos c_1, hq9]; exact ⟨rfl, hP⟩)
      · refine lv_tableIn (off := 66) (tgt := 91) hx hb dX8_account_25 (by decide +kernel) (by decide +kernel) (by decide +kernel) (by decide) ?_
        refine lv_aload_n hx hb dX8_account_91 rfl (lv_at hl 0 rfl) ?_
        refine g_get (v := .ref (A 1)) hx hb hts hown hK hP 0 rfl rfl gu_wsX80 0 (by decide) gm_5_14 rfl dX8_account_92 ?_
        refine lv_iconst (v := nI (5)) hx hb dX8_account_95 gc_5 ?_
        refine g_iald (x := f 0 (5)) hx hb hK hP 1 rfl (by omega) (by decide) rfl dX8_account_96 ?_
        exact g_iretW (v := f 0 (5)) hx hb hr hlk hS dX8_account_97 (by have hq9 : v.toNatClampNeg = 7 := (by rw [ek_4]; decide +kernel); rw [acM, if_pos c_1, hq9]; exact ⟨rfl, hP⟩)
      · refine lv_tableIn (off := 73) (tgt := 98) hx hb dX8_account_25 (by decide +kernel) (by decide +kernel) (by decide +kernel) (by decide) ?_
        refine lv_aload_n hx hb dX8_account_98 rfl (lv_at hl 0 rfl) ?_
        refine g_get (v := .ref (A 1)) hx hb hts hown hK hP 0 rfl rfl gu_wsX80 0 (by decide) gm_5_14 rfl dX8_account_99 ?_
        refine lv_bipush (v := nI (6)) hx hb dX8_account_102 gb_6 ?_
        refine g_iald (x := f 0 (6)) hx hb hK hP 1 rfl (by omega) (by decide) rfl dX8_account_104 ?_
        exact g_iretW (v := f 0 (6)) hx hb hr hlk hS dX8_account_105 (by have hq9 : v.toNatClampNeg = 8 := (by rw [ek_4]; decide +kernel); rw [acM, if_pos c_1, hq9]; exact ⟨rfl, hP⟩)
      · refine lv_tableIn (off := 81) (tgt := 106) hx hb dX8_account_25 (by decide +kernel) (by decide +kernel) (by decide +kernel) (by decide) ?_
        refine lv_aload_n hx hb dX8_account_106 rfl (lv_at hl 0 rfl) ?_
        refine lv_iconst (v := nI (1)) hx hb dX8_account_107 gc_1 ?_
        refine rd_calle (va_runV (As := [.int (nI (1))]) (rest := []) ⟨hx, hb, hml, hown, hts⟩ (c_X8_summed l D cA A (upd (upd (x) 3 (nI (0))) 4 (nI (0))) (f) (1) jn hj hjn (by omega)) (cwV 1 hts (gWV gm_50_2 gm_50_3 gm_50_4 gm_1_5 gm_50_5) rfl rfl rfl (by decide +kernel) ⟨Nat.le_of_ble_eq_true rfl, Nat.le_of_ble_eq_true rfl⟩) (gPreV hK (g_rf hK hP (ci := 10) (q0 := 0) rfl rfl) hP) rfl rfl hl.1 rfl (lv_room (Nat.le_of_ble_eq_true rfl)) dX8_account_108 ⟨by omega, by omega⟩) ?_
        exact g_iretW (v := isum (fun j => gby (f 0) j (1)) jn) hx hb hr hlk hS dX8_account_111 (by have hq9 : v.toNatClampNeg = 9 := (by rw [ek_4]; decide +kernel); rw [acM, if_pos c_1, hq9]; exact ⟨rfl, hP⟩)
      · refine lv_tableIn (off := 87) (tgt := 112) hx hb dX8_account_25 (by decide +kernel) (by decide +kernel) (by decide +kernel) (by decide) ?_
        refine lv_aload_n hx hb dX8_account_112 rfl (lv_at hl 0 rfl) ?_
        refine g_get (v := .int (x 7)) hx hb hts hown hK hP 0 rfl rfl gu_wsX80 12 (by decide) gm_39_10 rfl dX8_account_113 ?_
        exact g_iretW (v := x 7) hx hb hr hlk hS dX8_account_116 (by have hq9 : v.toNatClampNeg = 10 := (by rw [ek_4]; decide +kernel); rw [acM, if_pos c_1, hq9]; exact ⟨rfl, hP⟩)
      · refine lv_tableIn (off := 92) (tgt := 117) hx hb dX8_account_25 (by decide +kernel) (by decide +kernel) (by decide +kernel) (by decide) ?_
        refine lv_aload_n hx hb dX8_account_117 rfl (lv_at hl 0 rfl) ?_
        refine g_get (v := .int (x 1)) hx hb hts hown hK hP 0 rfl rfl gu_wsX80 5 (by decide) gm_9_16 rfl dX8_account_118 ?_
        exact g_iretW (v := x 1) hx hb hr hlk hS dX8_account_121 (by have hq9 : v.toNatClampNeg = 11 := (by rw [ek_4]; decide +kernel); rw [acM, if_pos c_1, hq9]; exact ⟨rfl, hP⟩)
    · exact absurd c_6 (by decide)

def crM (x : Nat → Int32) (f : Nat → Nat → Int32) (jn cn clk ton : Nat) (w : Bool) (ch : Nat) (p k : Nat) : Int32 × MX := match k with
  | 0 => jrM x f jn w ch (f 8 (p + 1)) (f 8 (p + 2))
  | 1 => brM x f cn w ch (f 8 (p + 1)) (f 8 (p + 2))
  | 2 => caM x f jn cn w ch (f 8 (p + 1))
  | 3 => voM x f jn cn w ch (f 8 (p + 1))
  | 4 => usM x f jn cn w ch (f 8 (p + 1))
  | 5 => apM x f jn cn w ch (f 8 (p + 1))
  | 6 => ckM x f clk w ch
  | _ => ngM x f jn cn clk ton w ch

set_option maxHeartbeats 1000000 in
set_option maxRecDepth 100000 in
theorem c_X8_carries (l : Launch) (D : va_G) (cA : Nat → ClassId) (A : Nat → Nat) (x : Nat → Int32) (f : Nat → Nat → Int32) (jn cn clk ton : Nat) (w : Bool) (ch p9 k9 : Nat) (hA : mInj A) (hj : f 0 0 = nI jn) (hjn : jn ≤ 9) (hc : f 0 1 = nI cn) (hcn : cn ≤ 10) (hclk : f 0 2 = nI clk) (hc4 : clk ≤ 4) (hton : f 0 3 = nI ton) (ht99 : ton ≤ 99) (hw : x 2 = b2i w) (hch : x 1 = nI ch) (hc8 : ch ≤ 8) (hlow : ∀ q, q < cn → ¬ gof (f 0) q 2 = 0 → ∃ j, fnd (hs (gof (f 0) q 2)) 9 = some j) (hp9 : p9 + 2 < 93) (hk9 : f 8 p9 = nI k9) (hk7 : k9 ≤ 7) : Met l yX8_carries (gw yX8_carries cX8_carries 3 (some .int)) ({ frames := 6, cells := 0, slots := 0, locals := 138 } : Room) (gPc [.ref (A 0), .int (nI (p9))] (fun H => va_P D vwCl (mw cA A x f) H) D cA) (wrI (fun r H => r = (crM x f jn cn clk ton w ch p9 k9).1 ∧ va_P D vwCl (mw cA A (crM x f jn cn clk ton w ch p9 k9).2.1 (crM x f jn cn clk ton w ch p9 k9).2.2) H) (MA A)) 0 0 (MA A) := by
  refine gOf (by decide) (Nat.le_of_ble_eq_true rfl) ?_
  intro p e s m below meth c ls hx hb hml hr hlk hown hts hnm hP hK hl
  have hl : lv_has ls 3 [(0, .ref (A 0)), (1, .int (nI (p9)))] := hl
  have hD : va_D (MA A) (mw cA A x f) := mD hA
  have hS : va_S (MA A) s.heap s.heap [] := va_S.rf
  refine lv_aload_n hx hb dX8_carries_0 rfl (lv_at hl 0 rfl) ?_
  refine g_get (v := .ref (A 9)) hx hb hts hown hK hP 0 rfl rfl gu_wsX80 19 (by decide) gm_5_23 rfl dX8_carries_1 ?_
  refine lv_iload_n hx hb dX8_carries_4 rfl (lv_at hl 1 rfl) ?_
  refine lv_iconst (v := nI (1)) hx hb dX8_carries_5 gc_1 ?_
  refine g_iadd hx hb dX8_carries_6 ?_
  refine g_iald (x := f 8 (p9 + 1)) hx hb hK hP 9 rfl (by omega) (by decide) rfl dX8_carries_7 ?_
  refine lv_istore_n (lv' := [(2, .int (f 8 (p9 + 1))), (0, .ref (A 0)), (1, .int (nI (p9)))]) hx hb dX8_carries_8 rfl hl (by decide) rfl (fun ls hl => ?_)
  refine lv_aload_n hx hb dX8_carries_9 rfl (lv_at hl 1 rfl) ?_
  refine g_get (v := .ref (A 9)) hx hb hts hown hK hP 0 rfl rfl gu_wsX80 19 (by decide) gm_5_23 rfl dX8_carries_10 ?_
  refine lv_iload_n hx hb dX8_carries_13 rfl (lv_at hl 2 rfl) ?_
  refine g_iald (x := nI (k9)) hx hb hK hP 9 rfl (by omega) (by decide) hk9 dX8_carries_14 ?_
  have hsw_1 : k9 = 0 ∨ k9 = 1 ∨ k9 = 2 ∨ k9 = 3 ∨ k9 = 4 ∨ k9 = 5 ∨ k9 = 6 ∨ k9 = 7 := by omega
  rcases hsw_1 with rfl | rfl | rfl | rfl | rfl | rfl | rfl | rfl
  · refine lv_tableIn (off := 41) (tgt := 56) hx hb dX8_carries_15 (by decide +kernel) (by decide +kernel) (by decide +kernel) (by decide) ?_
    refine lv_aload_n hx hb dX8_carries_56 rfl (lv_at hl 1 rfl) ?_
    refine lv_iload_n hx hb dX8_carries_57 rfl (lv_at hl 0 rfl) ?_
    refine lv_aload_n hx hb dX8_carries_58 rfl (lv_at hl 1 rfl) ?_
    refine g_get (v := .ref (A 9)) hx hb hts hown hK hP 0 rfl rfl gu_wsX80 19 (by decide) gm_5_23 rfl dX8_carries_59 ?_
    refine lv_iload_n hx hb dX8_carries_62 rfl (lv_at hl 2 rfl) ?_
    refine lv_iconst (v := nI (2)) hx hb dX8_carries_63 gc_2 ?_
    refine g_iadd hx hb dX8_carries_64 ?_
    refine g_iald (x := f 8 (p9 + 2)) hx hb hK hP 9 rfl (by omega) (by decide) rfl dX8_carries_65 ?_
    refine wr_calli (va_runV (As := [.int (f 8 (p9 + 1)), .int (f 8 (p9 + 2))]) (rest := []) ⟨hx, hb, hml, hown, hts⟩ (c_X8_juror l D cA A (x) (f) (f 8 (p9 + 1)) (f 8 (p9 + 2)) jn w ch hA hj hjn hw hch hc8) (cwV 2 hts (gWV gm_47_9 gm_8_17 gm_8_18 gm_1_5 gm_8_19) rfl rfl rfl (by decide +kernel) ⟨Nat.le_of_ble_eq_true rfl, Nat.le_of_ble_eq_true rfl⟩) (gPreV hK (g_rf hK hP (ci := 10) (q0 := 0) rfl rfl) hP) rfl rfl hl.1 rfl (lv_room (Nat.le_of_ble_eq_true rfl)) dX8_carries_66 ⟨by omega, by omega⟩) hS (fun q _ h => h) (fun q h => h) (fun r H locs hw9 hz9 hk9 hS => ?_)
    obtain ⟨rfl, hP⟩ := hw9
    exact g_iretW (v := (jrM (x) (f) jn w ch (f 8 (p9 + 1)) (f 8 (p9 + 2))).1) hx hb hr hlk hS dX8_carries_69 (⟨rfl, hP⟩)
  · refine lv_tableIn (off := 55) (tgt := 70) hx hb dX8_carries_15 (by decide +kernel) (by decide +kernel) (by decide +kernel) (by decide) ?_
    refine lv_aload_n hx hb dX8_carries_70 rfl (lv_at hl 1 rfl) ?_
    refine lv_iload_n hx hb dX8_carries_71 rfl (lv_at hl 0 rfl) ?_
    refine lv_aload_n hx hb dX8_carries_72 rfl (lv_at hl 1 rfl) ?_
    refine g_get (v := .ref (A 9)) hx hb hts hown hK hP 0 rfl rfl gu_wsX80 19 (by decide) gm_5_23 rfl dX8_carries_73 ?_
    refine lv_iload_n hx hb dX8_carries_76 rfl (lv_at hl 2 rfl) ?_
    refine lv_iconst (v := nI (2)) hx hb dX8_carries_77 gc_2 ?_
    refine g_iadd hx hb dX8_carries_78 ?_
    refine g_iald (x := f 8 (p9 + 2)) hx hb hK hP 9 rfl (by omega) (by decide) rfl dX8_carries_79 ?_
    refine wr_calli (va_runV (As := [.int (f 8 (p9 + 1)), .int (f 8 (p9 + 2))]) (rest := []) ⟨hx, hb, hml, hown, hts⟩ (c_X8_bring l D cA A (x) (f) (f 8 (p9 + 1)) (f 8 (p9 + 2)) cn w ch hA hc hcn hw hch hc8) (cwV 2 hts (gWV gm_47_10 gm_10_22 gm_10_23 gm_1_5 gm_11_0) rfl rfl rfl (by decide +kernel) ⟨Nat.le_of_ble_eq_true rfl, Nat.le_of_ble_eq_true rfl⟩) (gPreV hK (g_rf hK hP (ci := 10) (q0 := 0) rfl rfl) hP) rfl rfl hl.1 rfl (lv_room (Nat.le_of_ble_eq_true rfl)) dX8_carries_80 ⟨by omega, by omega⟩) hS (fun q _ h => h) (fun q h => h) (fun r H locs hw9 hz9 hk9 hS => ?_)
    obtain ⟨rfl, hP⟩ := hw9
    exact g_iretW (v := (brM (x) (f) cn w ch (f 8 (p9 + 1)) (f 8 (p9 + 2))).1) hx hb hr hlk hS dX8_carries_83 (⟨rfl, hP⟩)
  · refine lv_tableIn (off := 69) (tgt := 84) hx hb dX8_carries_15 (by decide +kernel) (by decide +kernel) (by decide +kernel) (by decide) ?_
    refine lv_aload_n hx hb dX8_carries_84 rfl (lv_at hl 1 rfl) ?_
    refine lv_iload_n hx hb dX8_carries_85 rfl (lv_at hl 0 rfl) ?_
    refine wr_calli (va_runV (As := [.int (f 8 (p9 + 1))]) (rest := []) ⟨hx, hb, hml, hown, hts⟩ (c_X8_call l D cA A (x) (f) (f 8 (p9 + 1)) jn cn w ch hA hj hjn hc hcn hw hch hc8 hlow) (cwV 1 hts (gWV gm_47_11 gm_13_20 gm_13_21 gm_1_5 gm_13_22) rfl rfl rfl (by decide +kernel) ⟨Nat.le_of_ble_eq_true rfl, Nat.le_of_ble_eq_true rfl⟩) (gPreV hK (g_rf hK hP (ci := 10) (q0 := 0) rfl rfl) hP) rfl rfl hl.1 rfl (lv_room (Nat.le_of_ble_eq_true rfl)) dX8_carries_86 ⟨by omega, by omega⟩) hS (fun q _ h => h) (fun q h => h) (fun r H locs hw9 hz9 hk9 hS => ?_)
    obtain ⟨rfl, hP⟩ := hw9
    exact g_iretW (v := (caM (x) (f) jn cn w ch (f 8 (p9 + 1))).1) hx hb hr hlk hS dX8_carries_89 (⟨rfl, hP⟩)
  · refine lv_tableIn (off := 75) (tgt := 90) hx hb dX8_carries_15 (by decide +kernel) (by decide +kernel) (by decide +kernel) (by decide) ?_
    refine lv_aload_n hx hb dX8_carries_90 rfl (lv_at hl 1 rfl) ?_
    refine lv_iload_n hx hb dX8_carries_91 rfl (lv_at hl 0 rfl) ?_
    refine wr_calli (va_runV (As := [.int (f 8 (p9 + 1))]) (rest := []) ⟨hx, hb, hml, hown, hts⟩ (c_X8_vote l D cA A (x) (f) (f 8 (p9 + 1)) jn cn w ch hA hj hjn hc hcn hw hch hc8) (cwV 1 hts (gWV gm_47_12 gm_17_16 gm_17_17 gm_1_5 gm_17_18) rfl rfl rfl (by decide +kernel) ⟨Nat.le_of_ble_eq_true rfl, Nat.le_of_ble_eq_true rfl⟩) (gPreV hK (g_rf hK hP (ci := 10) (q0 := 0) rfl rfl) hP) rfl rfl hl.1 rfl (lv_room (Nat.le_of_ble_eq_true rfl)) dX8_carries_92 ⟨by omega, by omega⟩) hS (fun q _ h => h) (fun q h => h) (fun r H locs hw9 hz9 hk9 hS => ?_)
    obtain ⟨rfl, hP⟩ := hw9
    exact g_iretW (v := (voM (x) (f) jn cn w ch (f 8 (p9 + 1))).1) hx hb hr hlk hS dX8_carries_95 (⟨rfl, hP⟩)
  · refine lv_tableIn (off := 81) (tgt := 96) hx hb dX8_carries_15 (by decide +kernel) (by decide +kernel) (by decide +kernel) (by decide) ?_
    refine lv_aload_n hx hb dX8_carries_96 rfl (lv_at hl 1 rfl) ?_
    refine lv_iload_n hx hb dX8_carries_97 rfl (lv_at hl 0 rfl) ?_
    refine wr_calli (va_runV (As := [.int (f 8 (p9 + 1))]) (rest := []) ⟨hx, hb, hml, hown, hts⟩ (c_X8_unsay l D cA A (x) (f) (f 8 (p9 + 1)) jn cn w ch hA hj hjn hc hcn hw hch hc8) (cwV 1 hts (gWV gm_47_13 gm_19_20 gm_19_21 gm_1_5 gm_19_22) rfl rfl rfl (by decide +kernel) ⟨Nat.le_of_ble_eq_true rfl, Nat.le_of_ble_eq_true rfl⟩) (gPreV hK (g_rf hK hP (ci := 10) (q0 := 0) rfl rfl) hP) rfl rfl hl.1 rfl (lv_room (Nat.le_of_ble_eq_true rfl)) dX8_carries_98 ⟨by omega, by omega⟩) hS (fun q _ h => h) (fun q h => h) (fun r H locs hw9 hz9 hk9 hS => ?_)
    obtain ⟨rfl, hP⟩ := hw9
    exact g_iretW (v := (usM (x) (f) jn cn w ch (f 8 (p9 + 1))).1) hx hb hr hlk hS dX8_carries_101 (⟨rfl, hP⟩)
  · refine lv_tableIn (off := 87) (tgt := 102) hx hb dX8_carries_15 (by decide +kernel) (by decide +kernel) (by decide +kernel) (by decide) ?_
    refine lv_aload_n hx hb dX8_carries_102 rfl (lv_at hl 1 rfl) ?_
    refine lv_iload_n hx hb dX8_carries_103 rfl (lv_at hl 0 rfl) ?_
    refine wr_calli (va_runV (As := [.int (f 8 (p9 + 1))]) (rest := []) ⟨hx, hb, hml, hown, hts⟩ (c_X8_appeal l D cA A (x) (f) (f 8 (p9 + 1)) jn cn w ch hA hj hjn hc hcn hw hch hc8) (cwV 1 hts (gWV gm_47_14 gm_21_5 gm_21_6 gm_1_5 gm_21_7) rfl rfl rfl (by decide +kernel) ⟨Nat.le_of_ble_eq_true rfl, Nat.le_of_ble_eq_true rfl⟩) (gPreV hK (g_rf hK hP (ci := 10) (q0 := 0) rfl rfl) hP) rfl rfl hl.1 rfl (lv_room (Nat.le_of_ble_eq_true rfl)) dX8_carries_104 ⟨by omega, by omega⟩) hS (fun q _ h => h) (fun q h => h) (fun r H locs hw9 hz9 hk9 hS => ?_)
    obtain ⟨rfl, hP⟩ := hw9
    exact g_iretW (v := (apM (x) (f) jn cn w ch (f 8 (p9 + 1))).1) hx hb hr hlk hS dX8_carries_107 (⟨rfl, hP⟩)
  · refine lv_tableIn (off := 93) (tgt := 108) hx hb dX8_carries_15 (by decide +kernel) (by decide +kernel) (by decide +kernel) (by decide) ?_
    refine lv_aload_n hx hb dX8_carries_108 rfl (lv_at hl 1 rfl) ?_
    refine wr_calli (va_runV (As := []) (rest := []) ⟨hx, hb, hml, hown, hts⟩ (c_X8_clerk l D cA A (x) (f)  clk w ch hA hclk hc4 hw hch hc8) (cwV 0 hts (gWV gm_47_15 gm_22_6 gm_22_7 gm_1_5 gm_22_8) rfl rfl rfl (by decide +kernel) ⟨Nat.le_of_ble_eq_true rfl, Nat.le_of_ble_eq_true rfl⟩) (gPreV hK (g_rf hK hP (ci := 10) (q0 := 0) rfl rfl) hP) rfl rfl hl.1 rfl (lv_room (Nat.le_of_ble_eq_true rfl)) dX8_carries_109 ⟨by omega, by omega⟩) hS (fun q _ h => h) (fun q h => h) (fun r H locs hw9 hz9 hk9 hS => ?_)
    obtain ⟨rfl, hP⟩ := hw9
    exact g_iretW (v := (ckM (x) (f) clk w ch).1) hx hb hr hlk hS dX8_carries_112 (⟨rfl, hP⟩)
  · refine lv_tableOut (tgt := 113) hx hb dX8_carries_15 (by decide +kernel) (by decide) ?_
    refine lv_aload_n hx hb dX8_carries_113 rfl (lv_at hl 1 rfl) ?_
    refine wr_calli (va_runV (As := []) (rest := []) ⟨hx, hb, hml, hown, hts⟩ (c_X8_night l D cA A (x) (f)  jn cn clk ton w ch hA hj hjn hc hcn hclk hc4 hton ht99 hw hch hc8) (cwV 0 hts (gWV gm_47_16 gm_23_15 gm_23_16 gm_1_5 gm_23_17) rfl rfl rfl (by decide +kernel) ⟨Nat.le_of_ble_eq_true rfl, Nat.le_of_ble_eq_true rfl⟩) (gPreV hK (g_rf hK hP (ci := 10) (q0 := 0) rfl rfl) hP) rfl rfl hl.1 rfl (lv_room (Nat.le_of_ble_eq_true rfl)) dX8_carries_114 ⟨by omega, by omega⟩) hS (fun q _ h => h) (fun q h => h) (fun r H locs hw9 hz9 hk9 hS => ?_)
    obtain ⟨rfl, hP⟩ := hw9
    exact g_iretW (v := (ngM (x) (f) jn cn clk ton w ch).1) hx hb hr hlk hS dX8_carries_117 (⟨rfl, hP⟩)

def jw (cA : Nat → ClassId) (J : Nat → Nat) (jf : Nat → Nat → Int32) (jn : Nat) : va_W := [(J 0, .inr (5, [.ref (J 1), .ref (J 2), .ref (J 3), .ref (J 4), .int (nI jn)])), (J 1, .inl (cA 0, 9, .inl (jf 0))), (J 2, .inl (cA 0, 9, .inl (jf 1))), (J 3, .inl (cA 0, 9, .inl (jf 2))), (J 4, .inl (cA 0, 9, .inl (jf 3)))]
def kw (cA : Nat → ClassId) (K : Nat → Nat) (kf : Nat → Nat → Int32) (rw : Nat → Nat) (cn rl : Nat) : va_W := [(K 0, .inr (2, [.ref (K 1), .ref (K 2), .ref (K 3), .ref (K 4), .ref (K 5), .ref (K 6), .ref (K 7), .ref (K 8), .ref (K 9), .int (nI cn), .int (nI rl)])), (K 1, .inl (cA 0, 10, .inl (kf 0))), (K 2, .inl (cA 0, 10, .inl (kf 1))), (K 3, .inl (cA 0, 10, .inl (kf 2))), (K 4, .inl (cA 0, 10, .inl (kf 3))), (K 5, .inl (cA 0, 10, .inl (kf 4))), (K 6, .inl (cA 0, 10, .inl (kf 5))), (K 7, .inl (cA 0, 10, .inl (kf 6))), (K 8, .inl (cA 0, 10, .inl (kf 7))), (K 9, .inl (cA 0, 10, .inl (fun j => nI (rw j))))]
def cw (cA : Nat → ClassId) (A : Nat → Nat) (jf : Nat → Nat → Int32) (jn : Nat) (kf : Nat → Nat → Int32) (rw : Nat → Nat) (cn rl clk ton : Nat) (sd : Int32) : va_W := [(A 0, .inr (3, [.ref (A 1), .ref (A 6), .int (nI clk), .int (nI ton), .int sd])), (A 1, .inr (5, [.ref (A 2), .ref (A 3), .ref (A 4), .ref (A 5), .int (nI jn)])), (A 2, .inl (cA 0, 9, .inl (jf 0))), (A 3, .inl (cA 0, 9, .inl (jf 1))), (A 4, .inl (cA 0, 9, .inl (jf 2))), (A 5, .inl (cA 0, 9, .inl (jf 3))), (A 6, .inr (2, [.ref (A 7), .ref (A 8), .ref (A 9), .ref (A 10), .ref (A 11), .ref (A 12), .ref (A 13), .ref (A 14), .ref (A 15), .int (nI cn), .int (nI rl)])), (A 7, .inl (cA 0, 10, .inl (kf 0))), (A 8, .inl (cA 0, 10, .inl (kf 1))), (A 9, .inl (cA 0, 10, .inl (kf 2))), (A 10, .inl (cA 0, 10, .inl (kf 3))), (A 11, .inl (cA 0, 10, .inl (kf 4))), (A 12, .inl (cA 0, 10, .inl (kf 5))), (A 13, .inl (cA 0, 10, .inl (kf 6))), (A 14, .inl (cA 0, 10, .inl (kf 7))), (A 15, .inl (cA 0, 10, .inl (fun j => nI (rw j))))]

theorem isIx_code (v : Int32) {n : Nat} (hn : n < 2 ^ 31) : isIx v n = decide (0 ≤ v ∧ ¬ nI n ≤ v) := by
  have h1 : (nI n).toInt = (n : Int) := nI_toInt hn
  have h0 : (0 : Int32).toInt = 0 := by decide +kernel
  simp only [isIx, Int32.le_iff_toInt_le, h0, h1]
  congr 1
  apply propext
  omega
def opC (b : Bool) : Nat := if b = true then 1 else 2
theorem opC_le (b : Bool) : opC b ≤ 2 := by cases b <;> decide
theorem opC_1 (b : Bool) : opC b = 1 ↔ b = true := by cases b <;> decide
def vdF (l d : Nat → Int32) (jn : Nat) (panel merit : Int32) : Nat := if 1 < fb_ct (fun k => hs panel k && forB merit (l k) (d k)) jn then 1 else 2
theorem vdF_le (l d : Nat → Int32) (jn : Nat) (panel merit : Int32) : vdF l d jn panel merit ≤ 2 := by unfold vdF; split <;> omega

set_option maxHeartbeats 1000000 in
set_option maxRecDepth 100000 in
theorem c_X7_isIn (l : Launch) (D : va_G) (cA : Nat → ClassId) (v : Int32) (k : Nat)  : Met l yX7_isIn (gw yX7_isIn cX7_isIn 2 (some .boolean)) ({ frames := 0, cells := 0, slots := 0, locals := 0 } : Room) (gPc [.int (v), .int (nI (k))] (fun H => True) D cA) (rdI (fun r => r = b2i (hs v k))) 0 0 nF := by
  refine gOf (by decide) (Nat.le_of_ble_eq_true rfl) ?_
  intro p e s m below meth c ls hx hb hml hr hlk hown hts hnm hP hK hl
  have hl : lv_has ls 2 [(0, .int (v)), (1, .int (nI (k)))] := hl
  refine lv_iload_n hx hb dX7_isIn_0 rfl (lv_at hl 0 rfl) ?_
  refine lv_iload_n hx hb dX7_isIn_1 rfl (lv_at hl 1 rfl) ?_
  refine lv_ishr hx hb dX7_isIn_2 ?_
  refine lv_iconst (v := nI (1)) hx hb dX7_isIn_3 gc_1 ?_
  refine lv_iand hx hb dX7_isIn_4 ?_
  refine lv_iconst (v := nI (1)) hx hb dX7_isIn_5 gc_1 ?_
  refine g_icmp_ne (P := ((v) >>> ((nI (k)) &&& 31)) &&& (nI (1)) = nI (1)) (tgt := 13) hx hb dX7_isIn_6 (by decide) Iff.rfl (fun c_1 => ?_) (fun c_1 => ?_)
  · refine lv_iconst (v := nI (0)) hx hb dX7_isIn_13 gc_0 ?_
    exact g_zret (v := nI (0)) hx hb hr hlk rfl dX7_isIn_14 (by simp [hs, b2i, c_1])
  · refine lv_iconst (v := nI (1)) hx hb dX7_isIn_9 gc_1 ?_
    refine lv_goto (tgt := 14) hx hb dX7_isIn_10 (by decide) ?_
    exact g_zret (v := nI (1)) hx hb hr hlk rfl dX7_isIn_14 (by simp [hs, b2i, c_1])

set_option maxHeartbeats 1000000 in
set_option maxRecDepth 100000 in
theorem c_X3_has (l : Launch) (D : va_G) (cA : Nat → ClassId) (J : Nat → Nat) (jf : Nat → Nat → Int32) (jn : Nat) (v : Int32) (hjn : jn ≤ 9) : Met l yX3_has (gw yX3_has cX3_has 2 (some .boolean)) ({ frames := 0, cells := 0, slots := 0, locals := 0 } : Room) (gPc [.ref (J 0), .int (v)] (fun H => va_P D vwCl (jw cA J jf jn) H) D cA) (rdI (fun r => r = b2i (isIx v jn))) 0 0 nF := by
  refine gOf (by decide) (Nat.le_of_ble_eq_true rfl) ?_
  intro p e s m below meth c ls hx hb hml hr hlk hown hts hnm hP hK hl
  have hl : lv_has ls 2 [(0, .ref (J 0)), (1, .int (v))] := hl
  refine lv_iload_n hx hb dX3_has_0 rfl (lv_at hl 1 rfl) ?_
  refine g_if_lt (P := v < 0) (tgt := 16) hx hb dX3_has_1 (by decide) Iff.rfl (fun c_1 => ?_) (fun c_1 => ?_)
  · have d_1 : ¬ 0 ≤ v := Int32.not_le.mpr c_1
    refine lv_iconst (v := nI (0)) hx hb dX3_has_16 gc_0 ?_
    exact g_zret (v := nI (0)) hx hb hr hlk rfl dX3_has_17 (by rw [isIx_code v (by omega)]; simp [b2i, c_1, d_1])
  · have d_1 : 0 ≤ v := Int32.not_lt.mp c_1
    refine lv_iload_n hx hb dX3_has_4 rfl (lv_at hl 1 rfl) ?_
    refine lv_aload_n hx hb dX3_has_5 rfl (lv_at hl 0 rfl) ?_
    refine g_get (v := .int (nI (jn))) hx hb hts hown hK hP 0 rfl rfl gu_wsX30 4 (by decide) gm_3_13 rfl dX3_has_6 ?_
    refine g_icmp_ge (P := nI (jn) ≤ v) (tgt := 16) hx hb dX3_has_9 (by decide) Iff.rfl (fun c_2 => ?_) (fun c_2 => ?_)
    · have d_2 : ¬ v < nI (jn) := Int32.not_lt.mpr c_2
      refine lv_iconst (v := nI (0)) hx hb dX3_has_16 gc_0 ?_
      exact g_zret (v := nI (0)) hx hb hr hlk rfl dX3_has_17 (by rw [isIx_code v (by omega)]; simp [b2i, c_1, d_1, c_2, d_2])
    · have d_2 : v < nI (jn) := Int32.not_le.mp c_2
      refine lv_iconst (v := nI (1)) hx hb dX3_has_12 gc_1 ?_
      refine lv_goto (tgt := 17) hx hb dX3_has_13 (by decide) ?_
      exact g_zret (v := nI (1)) hx hb hr hlk rfl dX3_has_17 (by rw [isIx_code v (by omega)]; simp [b2i, c_1, d_1, c_2, d_2])

set_option maxHeartbeats 1000000 in
set_option maxRecDepth 100000 in
theorem c_X3_opinion (l : Launch) (D : va_G) (cA : Nat → ClassId) (J : Nat → Nat) (jf : Nat → Nat → Int32) (jn : Nat) (j : Nat) (merit : Int32) (hq : j < 9) : Met l yX3_opinion (gw yX3_opinion cX3_opinion 3 (some .int)) ({ frames := 0, cells := 0, slots := 0, locals := 0 } : Room) (gPc [.ref (J 0), .int (nI (j)), .int (merit)] (fun H => va_P D vwCl (jw cA J jf jn) H) D cA) (rdI (fun r => r = nI (opC (forB merit (jf 0 j) (jf 1 j))))) 0 0 nF := by
  refine gOf (by decide) (Nat.le_of_ble_eq_true rfl) ?_
  intro p e s m below meth c ls hx hb hml hr hlk hown hts hnm hP hK hl
  have hl : lv_has ls 3 [(0, .ref (J 0)), (1, .int (nI (j))), (2, .int (merit))] := hl
  refine lv_iload_n hx hb dX3_opinion_0 rfl (lv_at hl 2 rfl) ?_
  refine lv_iconst (v := nI (5)) hx hb dX3_opinion_1 gc_5 ?_
  refine lv_aload_n hx hb dX3_opinion_2 rfl (lv_at hl 0 rfl) ?_
  refine g_get (v := .ref (J 1)) hx hb hts hown hK hP 0 rfl rfl gu_wsX30 0 (by decide) gm_3_9 rfl dX3_opinion_3 ?_
  refine lv_iload_n hx hb dX3_opinion_6 rfl (lv_at hl 1 rfl) ?_
  refine g_iald (x := jf 0 (j)) hx hb hK hP 1 rfl (by omega) (by decide) rfl dX3_opinion_7 ?_
  refine lv_imul hx hb dX3_opinion_8 ?_
  refine lv_iadd hx hb dX3_opinion_9 ?_
  refine lv_aload_n hx hb dX3_opinion_10 rfl (lv_at hl 0 rfl) ?_
  refine g_get (v := .ref (J 2)) hx hb hts hown hK hP 0 rfl rfl gu_wsX30 1 (by decide) gm_3_10 rfl dX3_opinion_11 ?_
  refine lv_iload_n hx hb dX3_opinion_14 rfl (lv_at hl 1 rfl) ?_
  refine g_iald (x := jf 1 (j)) hx hb hK hP 2 rfl (by omega) (by decide) rfl dX3_opinion_15 ?_
  refine lv_isub hx hb dX3_opinion_16 ?_
  refine lv_bipush (v := nI (50)) hx hb dX3_opinion_17 gb_50 ?_
  refine g_icmp_lt (P := ((merit) + ((nI (5)) * (jf 0 (j)))) - (jf 1 (j)) < nI (50)) (tgt := 26) hx hb dX3_opinion_19 (by decide) Iff.rfl (fun c_1 => ?_) (fun c_1 => ?_)
  · have d_1 : ¬ nI (50) ≤ ((merit) + ((nI (5)) * (jf 0 (j)))) - (jf 1 (j)) := Int32.not_le.mpr c_1
    refine lv_iconst (v := nI (2)) hx hb dX3_opinion_26 gc_2 ?_
    exact g_iret (v := nI (2)) hx hb hr hlk dX3_opinion_27 (by simp [forB, opC, c_1, d_1])
  · have d_1 : nI (50) ≤ ((merit) + ((nI (5)) * (jf 0 (j)))) - (jf 1 (j)) := Int32.not_lt.mp c_1
    refine lv_iconst (v := nI (1)) hx hb dX3_opinion_22 gc_1 ?_
    refine lv_goto (tgt := 27) hx hb dX3_opinion_23 (by decide) ?_
    exact g_iret (v := nI (1)) hx hb hr hlk dX3_opinion_27 (by simp [forB, opC, c_1, d_1])

set_option maxHeartbeats 1000000 in
set_option maxRecDepth 100000 in
theorem c_X3_verdictByCount (l : Launch) (D : va_G) (cA : Nat → ClassId) (J : Nat → Nat) (jf : Nat → Nat → Int32) (jn : Nat) (panel merit : Int32) (hjn : jn ≤ 9) : Met l yX3_verdictByCount (gw yX3_verdictByCount cX3_verdictByCount 5 (some .int)) ({ frames := 1, cells := 0, slots := 0, locals := 22 } : Room) (gPc [.ref (J 0), .int (panel), .int (merit)] (fun H => va_P D vwCl (jw cA J jf jn) H) D cA) (rdI (fun r => r = nI (vdF (jf 0) (jf 1) jn panel merit))) 0 0 nF := by
  refine gOf (by decide) (Nat.le_of_ble_eq_true rfl) ?_
  intro p e s m below meth c ls hx hb hml hr hlk hown hts hnm hP hK hl
  have hl : lv_has ls 5 [(0, .ref (J 0)), (1, .int (panel)), (2, .int (merit))] := hl
  refine lv_iconst (v := nI (0)) hx hb dX3_verdictByCount_0 gc_0 ?_
  refine lv_istore_n (lv' := [(3, .int (nI (0))), (0, .ref (J 0)), (1, .int (panel)), (2, .int (merit))]) hx hb dX3_verdictByCount_1 rfl hl (by decide) rfl (fun ls hl => ?_)
  refine lv_iconst (v := nI (0)) hx hb dX3_verdictByCount_2 gc_0 ?_
  refine lv_istore (lv' := [(4, .int (nI (0))), (3, .int (nI (0))), (0, .ref (J 0)), (1, .int (panel)), (2, .int (merit))]) hx hb dX3_verdictByCount_3 hl (by decide) rfl (fun ls hl => ?_)
  have LP_5 : ∀ (n_2 i_1 : Nat) (x_3 x_4 : Int32), i_1 ≤ jn → jn + 1 ≤ i_1 + n_2 → x_3 = nI (i_1) → x_4 = nI (fb_ct (fun k => hs panel k && forB merit (jf 0 k) (jf 1 k)) i_1) → ∀ (ls : Array Slot), lv_has ls 5 [(4, .int (x_3)), (3, .int (x_4)), (0, .ref (J 0)), (1, .int (panel)), (2, .int (merit))] → W p l e ({ frames := 1, cells := 0, slots := 0, locals := 22 } : Room) s m ([.ref (J 0), .int (panel), .int (merit)] : List Value).toArray below meth c s.heap [] 0 0 (MQ below (rdI (fun r => r = nI (vdF (jf 0) (jf 1) jn panel merit))) ([.ref (J 0), .int (panel), .int (merit)] : List Value).toArray s 0 0 nF) (F0 m 5 ls []) := by
    intro n_2
    induction n_2 with
    | zero => intro i_1 x_3 x_4 h1 h2; exact absurd h2 (by omega)
    | succ n_2 ih_8 =>
      intro i_1 x_3 x_4 h_9 h_10 e_6 e_7  ls hl
      subst e_6
      subst e_7
      refine lv_iload hx hb dX3_verdictByCount_5 (lv_at hl 0 rfl) ?_
      refine lv_aload_n hx hb dX3_verdictByCount_7 rfl (lv_at hl 2 rfl) ?_
      refine g_get (v := .int (nI (jn))) hx hb hts hown hK hP 0 rfl rfl gu_wsX30 4 (by decide) gm_3_13 rfl dX3_verdictByCount_8 ?_
      refine g_icmp_ge (P := jn ≤ i_1) (tgt := 43) hx hb dX3_verdictByCount_11 (by decide) (nI_leI (by omega) (by omega)) (fun c_11 => ?_) (fun c_11 => ?_)
      · have d_11 : ¬ i_1 < jn := Nat.not_lt.mpr c_11
        have hN_12 : jn = i_1 := by omega
        subst hN_12
        refine lv_iload_n hx hb dX3_verdictByCount_43 rfl (lv_at hl 1 rfl) ?_
        refine lv_iconst (v := nI (2)) hx hb dX3_verdictByCount_44 gc_2 ?_
        have hle_13 := fb_ct_le (fun k => hs panel k && forB merit (jf 0 k) (jf 1 k)) jn
        refine g_icmp_lt (P := fb_ct (fun k => hs panel k && forB merit (jf 0 k) (jf 1 k)) (jn) < 2) (tgt := 52) hx hb dX3_verdictByCount_45 (by decide) (nI_ltI (by omega) (by omega)) (fun c_14 => ?_) (fun c_14 => ?_)
        · have d_14 : ¬ 2 ≤ fb_ct (fun k => hs panel k && forB merit (jf 0 k) (jf 1 k)) (jn) := Nat.not_le.mpr c_14
          refine lv_iconst (v := nI (2)) hx hb dX3_verdictByCount_52 gc_2 ?_
          exact g_iret (v := nI (2)) hx hb hr hlk dX3_verdictByCount_53 (by rw [vdF, if_neg (by omega)])
        · have d_14 : 2 ≤ fb_ct (fun k => hs panel k && forB merit (jf 0 k) (jf 1 k)) (jn) := Nat.not_lt.mp c_14
          refine lv_iconst (v := nI (1)) hx hb dX3_verdictByCount_48 gc_1 ?_
          refine lv_goto (tgt := 53) hx hb dX3_verdictByCount_49 (by decide) ?_
          exact g_iret (v := nI (1)) hx hb hr hlk dX3_verdictByCount_53 (by rw [vdF, if_pos (by omega)])
      · have d_11 : i_1 < jn := Nat.not_le.mp c_11
        refine lv_iload_n hx hb dX3_verdictByCount_14 rfl (lv_at hl 3 rfl) ?_
        refine lv_iload hx hb dX3_verdictByCount_15 (lv_at hl 0 rfl) ?_
        refine rd_calle (va_runSN (As := [.int (panel), .int (nI (i_1))]) (rest := []) ⟨hx, hb, hml, hown, hts⟩ (c_X7_isIn l D cA (panel) (i_1)) ⟨(va_cnB 2 hts (gWN gm_12_9) rfl rfl rfl (hK.2 _ (List.mem_of_getElem? (i := 10) rfl)) (hts _ (List.mem_cons_of_mem _ gm_1_2)) (by decide +kernel) ⟨Nat.le_of_ble_eq_true rfl, Nat.le_of_ble_eq_true rfl⟩), hts _ (List.mem_cons_of_mem _ gm_12_8), trivial⟩ (gPreS hK trivial) rfl rfl hl.1 rfl (lv_room (Nat.le_of_ble_eq_true rfl)) dX3_verdictByCount_17 ⟨by omega, by omega⟩) ?_
        refine g_if_eq (P := hs (panel) (i_1) = false) (tgt := 37) hx hb dX3_verdictByCount_20 (by decide) b2i_0 (fun c_15 => ?_) (fun c_15 => ?_)
        · refine lv_iinc (v := nI (i_1 + 1)) (lv' := [(4, .int (nI (i_1 + 1))), (3, .int (nI (fb_ct (fun k => hs panel k && forB merit (jf 0 k) (jf 1 k)) i_1))), (0, .ref (J 0)), (1, .int (panel)), (2, .int (merit))]) hx hb dX3_verdictByCount_37 hl (k := 0) rfl (inc_1 _) (by decide) rfl (fun ls hl => ?_)
          refine lv_goto (tgt := 5) hx hb dX3_verdictByCount_40 (by decide) ?_
          exact ih_8 (i_1 + 1) _ _ (by omega) (by omega) rfl (by rw [fb_ct_succ]; simp [c_11, d_11, c_15] <;> simp_all [opC_1])  ls (lv_sub hl [0, 1, 2, 3, 4] rfl)
        · have c_15 : hs (panel) (i_1) = true := eq_true_of_ne_false c_15
          refine lv_aload_n hx hb dX3_verdictByCount_23 rfl (lv_at hl 2 rfl) ?_
          refine lv_iload hx hb dX3_verdictByCount_24 (lv_at hl 0 rfl) ?_
          refine lv_iload_n hx hb dX3_verdictByCount_26 rfl (lv_at hl 4 rfl) ?_
          refine rd_calle (va_runV (As := [.int (nI (i_1)), .int (merit)]) (rest := []) ⟨hx, hb, hml, hown, hts⟩ (c_X3_opinion l D cA J jf jn (i_1) (merit) (by omega)) (cwV 2 hts (gWV gm_16_19 gm_16_20 gm_16_21 gm_2_5 gm_16_22) rfl rfl rfl (by decide +kernel) ⟨Nat.le_of_ble_eq_true rfl, Nat.le_of_ble_eq_true rfl⟩) (gPreV hK (g_rf hK hP (ci := 5) (q0 := 0) rfl rfl) hP) rfl rfl hl.1 rfl (lv_room (Nat.le_of_ble_eq_true rfl)) dX3_verdictByCount_27 ⟨by omega, by omega⟩) ?_
          refine lv_iconst (v := nI (1)) hx hb dX3_verdictByCount_30 gc_1 ?_
          have hle_16 := opC_le (forB merit (jf 0 (i_1)) (jf 1 (i_1)))
          refine g_icmp_ne (P := opC (forB (merit) (jf 0 (i_1)) (jf 1 (i_1))) = 1) (tgt := 37) hx hb dX3_verdictByCount_31 (by decide) (nI_eq (by omega) (by omega)) (fun c_17 => ?_) (fun c_17 => ?_)
          · refine lv_iinc (v := nI (i_1 + 1)) (lv' := [(4, .int (nI (i_1 + 1))), (3, .int (nI (fb_ct (fun k => hs panel k && forB merit (jf 0 k) (jf 1 k)) i_1))), (0, .ref (J 0)), (1, .int (panel)), (2, .int (merit))]) hx hb dX3_verdictByCount_37 hl (k := 0) rfl (inc_1 _) (by decide) rfl (fun ls hl => ?_)
            refine lv_goto (tgt := 5) hx hb dX3_verdictByCount_40 (by decide) ?_
            exact ih_8 (i_1 + 1) _ _ (by omega) (by omega) rfl (by rw [fb_ct_succ]; simp [c_11, d_11, c_15, c_17] <;> simp_all [opC_1])  ls (lv_sub hl [0, 1, 2, 3, 4] rfl)
          · refine lv_iinc (v := nI (fb_ct (fun k => hs panel k && forB merit (jf 0 k) (jf 1 k)) i_1 + 1)) (lv' := [(3, .int (nI (fb_ct (fun k => hs panel k && forB merit (jf 0 k) (jf 1 k)) i_1 + 1))), (4, .int (nI (i_1))), (0, .ref (J 0)), (1, .int (panel)), (2, .int (merit))]) hx hb dX3_verdictByCount_34 hl (k := 1) rfl (inc_1 _) (by decide) rfl (fun ls hl => ?_)
            refine lv_iinc (v := nI (i_1 + 1)) (lv' := [(4, .int (nI (i_1 + 1))), (3, .int (nI (fb_ct (fun k => hs panel k && forB merit (jf 0 k) (jf 1 k)) i_1 + 1))), (0, .ref (J 0)), (1, .int (panel)), (2, .int (merit))]) hx hb dX3_verdictByCount_37 hl (k := 1) rfl (inc_1 _) (by decide) rfl (fun ls hl => ?_)
            refine lv_goto (tgt := 5) hx hb dX3_verdictByCount_40 (by decide) ?_
            exact ih_8 (i_1 + 1) _ _ (by omega) (by omega) rfl (by rw [fb_ct_succ]; simp [c_11, d_11, c_15, c_17] <;> simp_all [opC_1])  ls (lv_sub hl [0, 1, 2, 3, 4] rfl)
  exact LP_5 (jn + 1) 0 _ _ (by omega) (by omega) rfl rfl  ls (lv_sub hl [0, 1, 2, 3, 4] rfl)

set_option maxHeartbeats 1000000 in
set_option maxRecDepth 100000 in
theorem c_X3_lowestOf (l : Launch) (D : va_G) (cA : Nat → ClassId) (J : Nat → Nat) (jf : Nat → Nat → Int32) (jn : Nat) (panel : Int32) (hjn : jn ≤ 9) : Met l yX3_lowestOf (gw yX3_lowestOf cX3_lowestOf 3 (some .int)) ({ frames := 1, cells := 0, slots := 0, locals := 21 } : Room) (gPc [.ref (J 0), .int (panel)] (fun H => va_P D vwCl (jw cA J jf jn) H) D cA) (rdI (fun r => r = oI (fnd (hs panel) jn))) 0 0 nF := by
  refine gOf (by decide) (Nat.le_of_ble_eq_true rfl) ?_
  intro p e s m below meth c ls hx hb hml hr hlk hown hts hnm hP hK hl
  have hl : lv_has ls 3 [(0, .ref (J 0)), (1, .int (panel))] := hl
  refine lv_iconst (v := nI (0)) hx hb dX3_lowestOf_0 gc_0 ?_
  refine lv_istore_n (lv' := [(2, .int (nI (0))), (0, .ref (J 0)), (1, .int (panel))]) hx hb dX3_lowestOf_1 rfl hl (by decide) rfl (fun ls hl => ?_)
  have LP_4 : ∀ (n_2 i_1 : Nat) (x_3 : Int32), i_1 ≤ jn → jn + 1 ≤ i_1 + n_2 → x_3 = nI (i_1) → (fnd (hs panel) (i_1) = none) → ∀ (ls : Array Slot), lv_has ls 3 [(2, .int (x_3)), (0, .ref (J 0)), (1, .int (panel))] → W p l e ({ frames := 1, cells := 0, slots := 0, locals := 21 } : Room) s m ([.ref (J 0), .int (panel)] : List Value).toArray below meth c s.heap [] 0 0 (MQ below (rdI (fun r => r = oI (fnd (hs panel) jn))) ([.ref (J 0), .int (panel)] : List Value).toArray s 0 0 nF) (F0 m 2 ls []) := by
    intro n_2
    induction n_2 with
    | zero => intro i_1 x_3 h1 h2; exact absurd h2 (by omega)
    | succ n_2 ih_6 =>
      intro i_1 x_3 h_7 h_8 e_5 hv ls hl
      subst e_5
      refine lv_iload_n hx hb dX3_lowestOf_2 rfl (lv_at hl 0 rfl) ?_
      refine lv_aload_n hx hb dX3_lowestOf_3 rfl (lv_at hl 1 rfl) ?_
      refine g_get (v := .int (nI (jn))) hx hb hts hown hK hP 0 rfl rfl gu_wsX30 4 (by decide) gm_3_13 rfl dX3_lowestOf_4 ?_
      refine g_icmp_ge (P := jn ≤ i_1) (tgt := 26) hx hb dX3_lowestOf_7 (by decide) (nI_leI (by omega) (by omega)) (fun c_9 => ?_) (fun c_9 => ?_)
      · have d_9 : ¬ i_1 < jn := Nat.not_lt.mpr c_9
        have hN_10 : jn = i_1 := by omega
        subst hN_10
        refine lv_iconst (v := -1) hx hb dX3_lowestOf_26 gc_m1 ?_
        exact g_iret (v := -1) hx hb hr hlk dX3_lowestOf_27 (by rw [hv]; rfl)
      · have d_9 : i_1 < jn := Nat.not_le.mp c_9
        refine lv_iload_n hx hb dX3_lowestOf_10 rfl (lv_at hl 2 rfl) ?_
        refine lv_iload_n hx hb dX3_lowestOf_11 rfl (lv_at hl 0 rfl) ?_
        refine rd_calle (va_runSN (As := [.int (panel), .int (nI (i_1))]) (rest := []) ⟨hx, hb, hml, hown, hts⟩ (c_X7_isIn l D cA (panel) (i_1)) ⟨(va_cnB 2 hts (gWN gm_12_9) rfl rfl rfl (hK.2 _ (List.mem_of_getElem? (i := 10) rfl)) (hts _ (List.mem_cons_of_mem _ gm_1_2)) (by decide +kernel) ⟨Nat.le_of_ble_eq_true rfl, Nat.le_of_ble_eq_true rfl⟩), hts _ (List.mem_cons_of_mem _ gm_12_8), trivial⟩ (gPreS hK trivial) rfl rfl hl.1 rfl (lv_room (Nat.le_of_ble_eq_true rfl)) dX3_lowestOf_12 ⟨by omega, by omega⟩) ?_
        refine g_if_eq (P := hs (panel) (i_1) = false) (tgt := 20) hx hb dX3_lowestOf_15 (by decide) b2i_0 (fun c_11 => ?_) (fun c_11 => ?_)
        · refine lv_iinc (v := nI (i_1 + 1)) (lv' := [(2, .int (nI (i_1 + 1))), (0, .ref (J 0)), (1, .int (panel))]) hx hb dX3_lowestOf_20 hl (k := 0) rfl (inc_1 _) (by decide) rfl (fun ls hl => ?_)
          refine lv_goto (tgt := 2) hx hb dX3_lowestOf_23 (by decide) ?_
          exact ih_6 (i_1 + 1) _ (by omega) (by omega) rfl (fnd_succ_none hv (by simp [c_9, d_9, c_11] <;> omega)) ls (lv_sub hl [0, 1, 2] rfl)
        · have c_11 : hs (panel) (i_1) = true := eq_true_of_ne_false c_11
          refine lv_iload_n hx hb dX3_lowestOf_18 rfl (lv_at hl 0 rfl) ?_
          exact g_iret (v := nI (i_1)) hx hb hr hlk dX3_lowestOf_19 (by rw [fnd_stop hv (by simp [c_9, d_9, c_11]) jn (by omega)]; rfl)
  exact LP_4 (jn + 1) 0 _ (by omega) (by omega) rfl rfl ls (lv_sub hl [0, 1, 2] rfl)

def dbF (d : Nat → Int32) (jn : Nat) (panel : Int32) : Option Nat := bst (hs panel) (fun k b => decide (¬ d k ≤ d b)) jn
def mdF (l d : Nat → Int32) (a b : Nat) : Bool := if d a = d b then decide (¬ l a ≤ l b) else decide (¬ d a ≤ d b)
def fdF (l d : Nat → Int32) (jn : Nat) (out : Int32) : Option Nat := bst (fun k => !hs out k) (mdF l d) jn

set_option maxHeartbeats 1000000 in
set_option maxRecDepth 100000 in
theorem c_X3_mostDoubtfulOf (l : Launch) (D : va_G) (cA : Nat → ClassId) (J : Nat → Nat) (jf : Nat → Nat → Int32) (jn : Nat) (panel : Int32) (hjn : jn ≤ 9) : Met l yX3_mostDoubtfulOf (gw yX3_mostDoubtfulOf cX3_mostDoubtfulOf 4 (some .int)) ({ frames := 1, cells := 0, slots := 0, locals := 21 } : Room) (gPc [.ref (J 0), .int (panel)] (fun H => va_P D vwCl (jw cA J jf jn) H) D cA) (rdI (fun r => r = oI (dbF (jf 1) jn panel))) 0 0 nF := by
  refine gOf (by decide) (Nat.le_of_ble_eq_true rfl) ?_
  intro p e s m below meth c ls hx hb hml hr hlk hown hts hnm hP hK hl
  have hl : lv_has ls 4 [(0, .ref (J 0)), (1, .int (panel))] := hl
  refine lv_iconst (v := -1) hx hb dX3_mostDoubtfulOf_0 gc_m1 ?_
  refine lv_istore_n (lv' := [(2, .int (-1)), (0, .ref (J 0)), (1, .int (panel))]) hx hb dX3_mostDoubtfulOf_1 rfl hl (by decide) rfl (fun ls hl => ?_)
  refine lv_iconst (v := nI (0)) hx hb dX3_mostDoubtfulOf_2 gc_0 ?_
  refine lv_istore_n (lv' := [(3, .int (nI (0))), (2, .int (-1)), (0, .ref (J 0)), (1, .int (panel))]) hx hb dX3_mostDoubtfulOf_3 rfl hl (by decide) rfl (fun ls hl => ?_)
  have LP_5 : ∀ (n_2 i_1 : Nat) (x_3 x_4 : Int32), i_1 ≤ jn → jn + 1 ≤ i_1 + n_2 → x_3 = nI (i_1) → x_4 = oI (bst (hs panel) (fun k b => decide (¬ jf 1 k ≤ jf 1 b)) i_1) → ∀ (ls : Array Slot), lv_has ls 4 [(3, .int (x_3)), (2, .int (x_4)), (0, .ref (J 0)), (1, .int (panel))] → W p l e ({ frames := 1, cells := 0, slots := 0, locals := 21 } : Room) s m ([.ref (J 0), .int (panel)] : List Value).toArray below meth c s.heap [] 0 0 (MQ below (rdI (fun r => r = oI (dbF (jf 1) jn panel))) ([.ref (J 0), .int (panel)] : List Value).toArray s 0 0 nF) (F0 m 4 ls []) := by
    intro n_2
    induction n_2 with
    | zero => intro i_1 x_3 x_4 h1 h2; exact absurd h2 (by omega)
    | succ n_2 ih_8 =>
      intro i_1 x_3 x_4 h_9 h_10 e_6 e_7  ls hl
      subst e_6
      subst e_7
      refine lv_iload_n hx hb dX3_mostDoubtfulOf_4 rfl (lv_at hl 0 rfl) ?_
      refine lv_aload_n hx hb dX3_mostDoubtfulOf_5 rfl (lv_at hl 2 rfl) ?_
      refine g_get (v := .int (nI (jn))) hx hb hts hown hK hP 0 rfl rfl gu_wsX30 4 (by decide) gm_3_13 rfl dX3_mostDoubtfulOf_6 ?_
      refine g_icmp_ge (P := jn ≤ i_1) (tgt := 48) hx hb dX3_mostDoubtfulOf_9 (by decide) (nI_leI (by omega) (by omega)) (fun c_11 => ?_) (fun c_11 => ?_)
      · have d_11 : ¬ i_1 < jn := Nat.not_lt.mpr c_11
        have hN_12 : jn = i_1 := by omega
        subst hN_12
        refine lv_iload_n hx hb dX3_mostDoubtfulOf_48 rfl (lv_at hl 1 rfl) ?_
        exact g_iret (v := oI (bst (hs panel) (fun k b => decide (¬ jf 1 k ≤ jf 1 b)) (jn))) hx hb hr hlk dX3_mostDoubtfulOf_49 (rfl)
      · have d_11 : i_1 < jn := Nat.not_le.mp c_11
        refine lv_iload_n hx hb dX3_mostDoubtfulOf_12 rfl (lv_at hl 3 rfl) ?_
        refine lv_iload_n hx hb dX3_mostDoubtfulOf_13 rfl (lv_at hl 0 rfl) ?_
        refine rd_calle (va_runSN (As := [.int (panel), .int (nI (i_1))]) (rest := []) ⟨hx, hb, hml, hown, hts⟩ (c_X7_isIn l D cA (panel) (i_1)) ⟨(va_cnB 2 hts (gWN gm_12_9) rfl rfl rfl (hK.2 _ (List.mem_of_getElem? (i := 10) rfl)) (hts _ (List.mem_cons_of_mem _ gm_1_2)) (by decide +kernel) ⟨Nat.le_of_ble_eq_true rfl, Nat.le_of_ble_eq_true rfl⟩), hts _ (List.mem_cons_of_mem _ gm_12_8), trivial⟩ (gPreS hK trivial) rfl rfl hl.1 rfl (lv_room (Nat.le_of_ble_eq_true rfl)) dX3_mostDoubtfulOf_14 ⟨by omega, by omega⟩) ?_
        refine g_if_eq (P := hs (panel) (i_1) = false) (tgt := 42) hx hb dX3_mostDoubtfulOf_17 (by decide) b2i_0 (fun c_13 => ?_) (fun c_13 => ?_)
        · refine lv_iinc (v := nI (i_1 + 1)) (lv' := [(3, .int (nI (i_1 + 1))), (2, .int (oI (bst (hs panel) (fun k b => decide (¬ jf 1 k ≤ jf 1 b)) i_1))), (0, .ref (J 0)), (1, .int (panel))]) hx hb dX3_mostDoubtfulOf_42 hl (k := 0) rfl (inc_1 _) (by decide) rfl (fun ls hl => ?_)
          refine lv_goto (tgt := 4) hx hb dX3_mostDoubtfulOf_45 (by decide) ?_
          exact ih_8 (i_1 + 1) _ _ (by omega) (by omega) rfl (by rw [bst_no (by simp [c_13])])  ls (lv_sub hl [0, 1, 2, 3] rfl)
        · have c_13 : hs (panel) (i_1) = true := eq_true_of_ne_false c_13
          refine lv_iload_n hx hb dX3_mostDoubtfulOf_20 rfl (lv_at hl 1 rfl) ?_
          refine lv_iconst (v := -1) hx hb dX3_mostDoubtfulOf_21 gc_m1 ?_
          refine g_icmp_eq (P := bst (hs panel) (fun k b => decide (¬ jf 1 k ≤ jf 1 b)) i_1 = none) (tgt := 40) hx hb dX3_mostDoubtfulOf_22 (by decide) (oI_m1 (fun b q => by have := bst_lt q; omega)) (fun c_14 => ?_) (fun c_14 => ?_)
          · refine lv_iload_n hx hb dX3_mostDoubtfulOf_40 rfl (lv_at hl 0 rfl) ?_
            refine lv_istore_n (lv' := [(2, .int (nI (i_1))), (3, .int (nI (i_1))), (0, .ref (J 0)), (1, .int (panel))]) hx hb dX3_mostDoubtfulOf_41 rfl hl (by decide) rfl (fun ls hl => ?_)
            refine lv_iinc (v := nI (i_1 + 1)) (lv' := [(3, .int (nI (i_1 + 1))), (2, .int (nI (i_1))), (0, .ref (J 0)), (1, .int (panel))]) hx hb dX3_mostDoubtfulOf_42 hl (k := 1) rfl (inc_1 _) (by decide) rfl (fun ls hl => ?_)
            refine lv_goto (tgt := 4) hx hb dX3_mostDoubtfulOf_45 (by decide) ?_
            exact ih_8 (i_1 + 1) _ _ (by omega) (by omega) rfl (by rw [bst_new (by simp [c_13]) c_14]; rfl)  ls (lv_sub hl [0, 1, 2, 3] rfl)
          · obtain ⟨b_15, eb_16⟩ := o_some c_14
            have hb_17 := bst_lt eb_16
            rw [eb_16] at hl
            have hl : lv_has ls 4 [(3, .int (nI (i_1))), (2, .int (nI (b_15))), (0, .ref (J 0)), (1, .int (panel))] := hl
            refine lv_aload_n hx hb dX3_mostDoubtfulOf_25 rfl (lv_at hl 2 rfl) ?_
            refine g_get (v := .ref (J 2)) hx hb hts hown hK hP 0 rfl rfl gu_wsX30 1 (by decide) gm_3_10 rfl dX3_mostDoubtfulOf_26 ?_
            refine lv_iload_n hx hb dX3_mostDoubtfulOf_29 rfl (lv_at hl 0 rfl) ?_
            refine g_iald (x := jf 1 (i_1)) hx hb hK hP 2 rfl (by omega) (by decide) rfl dX3_mostDoubtfulOf_30 ?_
            refine lv_aload_n hx hb dX3_mostDoubtfulOf_31 rfl (lv_at hl 2 rfl) ?_
            refine g_get (v := .ref (J 2)) hx hb hts hown hK hP 0 rfl rfl gu_wsX30 1 (by decide) gm_3_10 rfl dX3_mostDoubtfulOf_32 ?_
            refine lv_iload_n hx hb dX3_mostDoubtfulOf_35 rfl (lv_at hl 1 rfl) ?_
            refine g_iald (x := jf 1 (b_15)) hx hb hK hP 2 rfl (by omega) (by decide) rfl dX3_mostDoubtfulOf_36 ?_
            refine g_icmp_le (P := jf 1 (i_1) ≤ jf 1 (b_15)) (tgt := 42) hx hb dX3_mostDoubtfulOf_37 (by decide) Iff.rfl (fun c_18 => ?_) (fun c_18 => ?_)
            · have d_18 : ¬ jf 1 (b_15) < jf 1 (i_1) := Int32.not_lt.mpr c_18
              refine lv_iinc (v := nI (i_1 + 1)) (lv' := [(3, .int (nI (i_1 + 1))), (2, .int (nI (b_15))), (0, .ref (J 0)), (1, .int (panel))]) hx hb dX3_mostDoubtfulOf_42 hl (k := 0) rfl (inc_1 _) (by decide) rfl (fun ls hl => ?_)
              refine lv_goto (tgt := 4) hx hb dX3_mostDoubtfulOf_45 (by decide) ?_
              exact ih_8 (i_1 + 1) _ _ (by omega) (by omega) rfl (by rw [bst_lose (by simp [c_13]) eb_16 (by simp [c_18])]; rfl)  ls (lv_sub hl [0, 1, 2, 3] rfl)
            · have d_18 : jf 1 (b_15) < jf 1 (i_1) := Int32.not_le.mp c_18
              refine lv_iload_n hx hb dX3_mostDoubtfulOf_40 rfl (lv_at hl 0 rfl) ?_
              refine lv_istore_n (lv' := [(2, .int (nI (i_1))), (3, .int (nI (i_1))), (0, .ref (J 0)), (1, .int (panel))]) hx hb dX3_mostDoubtfulOf_41 rfl hl (by decide) rfl (fun ls hl => ?_)
              refine lv_iinc (v := nI (i_1 + 1)) (lv' := [(3, .int (nI (i_1 + 1))), (2, .int (nI (i_1))), (0, .ref (J 0)), (1, .int (panel))]) hx hb dX3_mostDoubtfulOf_42 hl (k := 1) rfl (inc_1 _) (by decide) rfl (fun ls hl => ?_)
              refine lv_goto (tgt := 4) hx hb dX3_mostDoubtfulOf_45 (by decide) ?_
              exact ih_8 (i_1 + 1) _ _ (by omega) (by omega) rfl (by rw [bst_win (by simp [c_13]) eb_16 (by simp [c_18])]; rfl)  ls (lv_sub hl [0, 1, 2, 3] rfl)
  exact LP_5 (jn + 1) 0 _ _ (by omega) (by omega) rfl rfl  ls (lv_sub hl [0, 1, 2, 3] rfl)

set_option maxHeartbeats 1000000 in
set_option maxRecDepth 100000 in
theorem c_X3_isMoreDoubtful (l : Launch) (D : va_G) (cA : Nat → ClassId) (J : Nat → Nat) (jf : Nat → Nat → Int32) (jn : Nat) (a b : Nat) (ha : a < 9) (hb_ : b < 9) : Met l yX3_isMoreDoubtful (gw yX3_isMoreDoubtful cX3_isMoreDoubtful 3 (some .boolean)) ({ frames := 0, cells := 0, slots := 0, locals := 0 } : Room) (gPc [.ref (J 0), .int (nI (a)), .int (nI (b))] (fun H => va_P D vwCl (jw cA J jf jn) H) D cA) (rdI (fun r => r = b2i (mdF (jf 0) (jf 1) a b))) 0 0 nF := by
  refine gOf (by decide) (Nat.le_of_ble_eq_true rfl) ?_
  intro p e s m below meth c ls hx hb hml hr hlk hown hts hnm hP hK hl
  have hl : lv_has ls 3 [(0, .ref (J 0)), (1, .int (nI (a))), (2, .int (nI (b)))] := hl
  refine lv_aload_n hx hb dX3_isMoreDoubtful_0 rfl (lv_at hl 0 rfl) ?_
  refine g_get (v := .ref (J 2)) hx hb hts hown hK hP 0 rfl rfl gu_wsX30 1 (by decide) gm_3_10 rfl dX3_isMoreDoubtful_1 ?_
  refine lv_iload_n hx hb dX3_isMoreDoubtful_4 rfl (lv_at hl 1 rfl) ?_
  refine g_iald (x := jf 1 (a)) hx hb hK hP 2 rfl (by omega) (by decide) rfl dX3_isMoreDoubtful_5 ?_
  refine lv_aload_n hx hb dX3_isMoreDoubtful_6 rfl (lv_at hl 0 rfl) ?_
  refine g_get (v := .ref (J 2)) hx hb hts hown hK hP 0 rfl rfl gu_wsX30 1 (by decide) gm_3_10 rfl dX3_isMoreDoubtful_7 ?_
  refine lv_iload_n hx hb dX3_isMoreDoubtful_10 rfl (lv_at hl 2 rfl) ?_
  refine g_iald (x := jf 1 (b)) hx hb hK hP 2 rfl (by omega) (by decide) rfl dX3_isMoreDoubtful_11 ?_
  refine g_icmp_eq (P := jf 1 (a) = jf 1 (b)) (tgt := 36) hx hb dX3_isMoreDoubtful_12 (by decide) Iff.rfl (fun c_1 => ?_) (fun c_1 => ?_)
  · refine lv_aload_n hx hb dX3_isMoreDoubtful_36 rfl (lv_at hl 0 rfl) ?_
    refine g_get (v := .ref (J 1)) hx hb hts hown hK hP 0 rfl rfl gu_wsX30 0 (by decide) gm_3_9 rfl dX3_isMoreDoubtful_37 ?_
    refine lv_iload_n hx hb dX3_isMoreDoubtful_40 rfl (lv_at hl 1 rfl) ?_
    refine g_iald (x := jf 0 (a)) hx hb hK hP 1 rfl (by omega) (by decide) rfl dX3_isMoreDoubtful_41 ?_
    refine lv_aload_n hx hb dX3_isMoreDoubtful_42 rfl (lv_at hl 0 rfl) ?_
    refine g_get (v := .ref (J 1)) hx hb hts hown hK hP 0 rfl rfl gu_wsX30 0 (by decide) gm_3_9 rfl dX3_isMoreDoubtful_43 ?_
    refine lv_iload_n hx hb dX3_isMoreDoubtful_46 rfl (lv_at hl 2 rfl) ?_
    refine g_iald (x := jf 0 (b)) hx hb hK hP 1 rfl (by omega) (by decide) rfl dX3_isMoreDoubtful_47 ?_
    refine g_icmp_le (P := jf 0 (a) ≤ jf 0 (b)) (tgt := 55) hx hb dX3_isMoreDoubtful_48 (by decide) Iff.rfl (fun c_2 => ?_) (fun c_2 => ?_)
    · have d_2 : ¬ jf 0 (b) < jf 0 (a) := Int32.not_lt.mpr c_2
      refine lv_iconst (v := nI (0)) hx hb dX3_isMoreDoubtful_55 gc_0 ?_
      exact g_zret (v := nI (0)) hx hb hr hlk rfl dX3_isMoreDoubtful_56 (by simp [mdF, b2i, c_1, c_2, d_2])
    · have d_2 : jf 0 (b) < jf 0 (a) := Int32.not_le.mp c_2
      refine lv_iconst (v := nI (1)) hx hb dX3_isMoreDoubtful_51 gc_1 ?_
      refine lv_goto (tgt := 56) hx hb dX3_isMoreDoubtful_52 (by decide) ?_
      exact g_zret (v := nI (1)) hx hb hr hlk rfl dX3_isMoreDoubtful_56 (by simp [mdF, b2i, c_1, c_2, d_2])
  · refine lv_aload_n hx hb dX3_isMoreDoubtful_15 rfl (lv_at hl 0 rfl) ?_
    refine g_get (v := .ref (J 2)) hx hb hts hown hK hP 0 rfl rfl gu_wsX30 1 (by decide) gm_3_10 rfl dX3_isMoreDoubtful_16 ?_
    refine lv_iload_n hx hb dX3_isMoreDoubtful_19 rfl (lv_at hl 1 rfl) ?_
    refine g_iald (x := jf 1 (a)) hx hb hK hP 2 rfl (by omega) (by decide) rfl dX3_isMoreDoubtful_20 ?_
    refine lv_aload_n hx hb dX3_isMoreDoubtful_21 rfl (lv_at hl 0 rfl) ?_
    refine g_get (v := .ref (J 2)) hx hb hts hown hK hP 0 rfl rfl gu_wsX30 1 (by decide) gm_3_10 rfl dX3_isMoreDoubtful_22 ?_
    refine lv_iload_n hx hb dX3_isMoreDoubtful_25 rfl (lv_at hl 2 rfl) ?_
    refine g_iald (x := jf 1 (b)) hx hb hK hP 2 rfl (by omega) (by decide) rfl dX3_isMoreDoubtful_26 ?_
    refine g_icmp_le (P := jf 1 (a) ≤ jf 1 (b)) (tgt := 34) hx hb dX3_isMoreDoubtful_27 (by decide) Iff.rfl (fun c_3 => ?_) (fun c_3 => ?_)
    · have d_3 : ¬ jf 1 (b) < jf 1 (a) := Int32.not_lt.mpr c_3
      refine lv_iconst (v := nI (0)) hx hb dX3_isMoreDoubtful_34 gc_0 ?_
      exact g_zret (v := nI (0)) hx hb hr hlk rfl dX3_isMoreDoubtful_35 (by simp [mdF, b2i, c_1, c_3, d_3])
    · have d_3 : jf 1 (b) < jf 1 (a) := Int32.not_le.mp c_3
      refine lv_iconst (v := nI (1)) hx hb dX3_isMoreDoubtful_30 gc_1 ?_
      refine lv_goto (tgt := 35) hx hb dX3_isMoreDoubtful_31 (by decide) ?_
      exact g_zret (v := nI (1)) hx hb hr hlk rfl dX3_isMoreDoubtful_35 (by simp [mdF, b2i, c_1, c_3, d_3])

set_option maxHeartbeats 1000000 in
set_option maxRecDepth 100000 in
theorem c_X3_firstDoubtful (l : Launch) (D : va_G) (cA : Nat → ClassId) (J : Nat → Nat) (jf : Nat → Nat → Int32) (jn : Nat) (out : Int32) (hjn : jn ≤ 9) : Met l yX3_firstDoubtful (gw yX3_firstDoubtful cX3_firstDoubtful 4 (some .int)) ({ frames := 1, cells := 0, slots := 0, locals := 22 } : Room) (gPc [.ref (J 0), .int (out)] (fun H => va_P D vwCl (jw cA J jf jn) H) D cA) (rdI (fun r => r = oI (fdF (jf 0) (jf 1) jn out))) 0 0 nF := by
  refine gOf (by decide) (Nat.le_of_ble_eq_true rfl) ?_
  intro p e s m below meth c ls hx hb hml hr hlk hown hts hnm hP hK hl
  have hl : lv_has ls 4 [(0, .ref (J 0)), (1, .int (out))] := hl
  refine lv_iconst (v := -1) hx hb dX3_firstDoubtful_0 gc_m1 ?_
  refine lv_istore_n (lv' := [(2, .int (-1)), (0, .ref (J 0)), (1, .int (out))]) hx hb dX3_firstDoubtful_1 rfl hl (by decide) rfl (fun ls hl => ?_)
  refine lv_iconst (v := nI (0)) hx hb dX3_firstDoubtful_2 gc_0 ?_
  refine lv_istore_n (lv' := [(3, .int (nI (0))), (2, .int (-1)), (0, .ref (J 0)), (1, .int (out))]) hx hb dX3_firstDoubtful_3 rfl hl (by decide) rfl (fun ls hl => ?_)
  have LP_5 : ∀ (n_2 i_1 : Nat) (x_3 x_4 : Int32), i_1 ≤ jn → jn + 1 ≤ i_1 + n_2 → x_3 = nI (i_1) → x_4 = oI (bst (fun k => !hs out k) (mdF (jf 0) (jf 1)) i_1) → ∀ (ls : Array Slot), lv_has ls 4 [(3, .int (x_3)), (2, .int (x_4)), (0, .ref (J 0)), (1, .int (out))] → W p l e ({ frames := 1, cells := 0, slots := 0, locals := 22 } : Room) s m ([.ref (J 0), .int (out)] : List Value).toArray below meth c s.heap [] 0 0 (MQ below (rdI (fun r => r = oI (fdF (jf 0) (jf 1) jn out))) ([.ref (J 0), .int (out)] : List Value).toArray s 0 0 nF) (F0 m 4 ls []) := by
    intro n_2
    induction n_2 with
    | zero => intro i_1 x_3 x_4 h1 h2; exact absurd h2 (by omega)
    | succ n_2 ih_8 =>
      intro i_1 x_3 x_4 h_9 h_10 e_6 e_7  ls hl
      subst e_6
      subst e_7
      refine lv_iload_n hx hb dX3_firstDoubtful_4 rfl (lv_at hl 0 rfl) ?_
      refine lv_aload_n hx hb dX3_firstDoubtful_5 rfl (lv_at hl 2 rfl) ?_
      refine g_get (v := .int (nI (jn))) hx hb hts hown hK hP 0 rfl rfl gu_wsX30 4 (by decide) gm_3_13 rfl dX3_firstDoubtful_6 ?_
      refine g_icmp_ge (P := jn ≤ i_1) (tgt := 42) hx hb dX3_firstDoubtful_9 (by decide) (nI_leI (by omega) (by omega)) (fun c_11 => ?_) (fun c_11 => ?_)
      · have d_11 : ¬ i_1 < jn := Nat.not_lt.mpr c_11
        have hN_12 : jn = i_1 := by omega
        subst hN_12
        refine lv_iload_n hx hb dX3_firstDoubtful_42 rfl (lv_at hl 1 rfl) ?_
        exact g_iret (v := oI (bst (fun k => !hs out k) (mdF (jf 0) (jf 1)) (jn))) hx hb hr hlk dX3_firstDoubtful_43 (rfl)
      · have d_11 : i_1 < jn := Nat.not_le.mp c_11
        refine lv_iload_n hx hb dX3_firstDoubtful_12 rfl (lv_at hl 3 rfl) ?_
        refine lv_iload_n hx hb dX3_firstDoubtful_13 rfl (lv_at hl 0 rfl) ?_
        refine rd_calle (va_runSN (As := [.int (out), .int (nI (i_1))]) (rest := []) ⟨hx, hb, hml, hown, hts⟩ (c_X7_isIn l D cA (out) (i_1)) ⟨(va_cnB 2 hts (gWN gm_12_9) rfl rfl rfl (hK.2 _ (List.mem_of_getElem? (i := 10) rfl)) (hts _ (List.mem_cons_of_mem _ gm_1_2)) (by decide +kernel) ⟨Nat.le_of_ble_eq_true rfl, Nat.le_of_ble_eq_true rfl⟩), hts _ (List.mem_cons_of_mem _ gm_12_8), trivial⟩ (gPreS hK trivial) rfl rfl hl.1 rfl (lv_room (Nat.le_of_ble_eq_true rfl)) dX3_firstDoubtful_14 ⟨by omega, by omega⟩) ?_
        refine g_if_ne (P := hs (out) (i_1) = false) (tgt := 36) hx hb dX3_firstDoubtful_17 (by decide) b2i_0 (fun c_13 => ?_) (fun c_13 => ?_)
        · have c_13 : hs (out) (i_1) = true := eq_true_of_ne_false c_13
          refine lv_iinc (v := nI (i_1 + 1)) (lv' := [(3, .int (nI (i_1 + 1))), (2, .int (oI (bst (fun k => !hs out k) (mdF (jf 0) (jf 1)) i_1))), (0, .ref (J 0)), (1, .int (out))]) hx hb dX3_firstDoubtful_36 hl (k := 0) rfl (inc_1 _) (by decide) rfl (fun ls hl => ?_)
          refine lv_goto (tgt := 4) hx hb dX3_firstDoubtful_39 (by decide) ?_
          exact ih_8 (i_1 + 1) _ _ (by omega) (by omega) rfl (by rw [bst_no (by simp [c_13])])  ls (lv_sub hl [0, 1, 2, 3] rfl)
        · refine lv_iload_n hx hb dX3_firstDoubtful_20 rfl (lv_at hl 1 rfl) ?_
          refine lv_iconst (v := -1) hx hb dX3_firstDoubtful_21 gc_m1 ?_
          refine g_icmp_eq (P := bst (fun k => !hs out k) (mdF (jf 0) (jf 1)) i_1 = none) (tgt := 34) hx hb dX3_firstDoubtful_22 (by decide) (oI_m1 (fun b q => by have := bst_lt q; omega)) (fun c_14 => ?_) (fun c_14 => ?_)
          · refine lv_iload_n hx hb dX3_firstDoubtful_34 rfl (lv_at hl 0 rfl) ?_
            refine lv_istore_n (lv' := [(2, .int (nI (i_1))), (3, .int (nI (i_1))), (0, .ref (J 0)), (1, .int (out))]) hx hb dX3_firstDoubtful_35 rfl hl (by decide) rfl (fun ls hl => ?_)
            refine lv_iinc (v := nI (i_1 + 1)) (lv' := [(3, .int (nI (i_1 + 1))), (2, .int (nI (i_1))), (0, .ref (J 0)), (1, .int (out))]) hx hb dX3_firstDoubtful_36 hl (k := 1) rfl (inc_1 _) (by decide) rfl (fun ls hl => ?_)
            refine lv_goto (tgt := 4) hx hb dX3_firstDoubtful_39 (by decide) ?_
            exact ih_8 (i_1 + 1) _ _ (by omega) (by omega) rfl (by rw [bst_new (by simp [c_13]) c_14]; rfl)  ls (lv_sub hl [0, 1, 2, 3] rfl)
          · obtain ⟨b_15, eb_16⟩ := o_some c_14
            have hb_17 := bst_lt eb_16
            rw [eb_16] at hl
            have hl : lv_has ls 4 [(3, .int (nI (i_1))), (2, .int (nI (b_15))), (0, .ref (J 0)), (1, .int (out))] := hl
            refine lv_aload_n hx hb dX3_firstDoubtful_25 rfl (lv_at hl 2 rfl) ?_
            refine lv_iload_n hx hb dX3_firstDoubtful_26 rfl (lv_at hl 0 rfl) ?_
            refine lv_iload_n hx hb dX3_firstDoubtful_27 rfl (lv_at hl 1 rfl) ?_
            refine rd_calle (va_runV (As := [.int (nI (i_1)), .int (nI (b_15))]) (rest := []) ⟨hx, hb, hml, hown, hts⟩ (c_X3_isMoreDoubtful l D cA J jf jn (i_1) (b_15) (by omega) (by omega)) (cwV 2 hts (gWV gm_35_5 gm_35_6 gm_35_7 gm_2_5 gm_35_8) rfl rfl rfl (by decide +kernel) ⟨Nat.le_of_ble_eq_true rfl, Nat.le_of_ble_eq_true rfl⟩) (gPreV hK (g_rf hK hP (ci := 5) (q0 := 0) rfl rfl) hP) rfl rfl hl.1 rfl (lv_room (Nat.le_of_ble_eq_true rfl)) dX3_firstDoubtful_28 ⟨by omega, by omega⟩) ?_
            refine g_if_eq (P := mdF (jf 0) (jf 1) (i_1) (b_15) = false) (tgt := 36) hx hb dX3_firstDoubtful_31 (by decide) b2i_0 (fun c_18 => ?_) (fun c_18 => ?_)
            · refine lv_iinc (v := nI (i_1 + 1)) (lv' := [(3, .int (nI (i_1 + 1))), (2, .int (nI (b_15))), (0, .ref (J 0)), (1, .int (out))]) hx hb dX3_firstDoubtful_36 hl (k := 0) rfl (inc_1 _) (by decide) rfl (fun ls hl => ?_)
              refine lv_goto (tgt := 4) hx hb dX3_firstDoubtful_39 (by decide) ?_
              exact ih_8 (i_1 + 1) _ _ (by omega) (by omega) rfl (by rw [bst_lose (by simp [c_13]) eb_16 (by simp [c_18])]; rfl)  ls (lv_sub hl [0, 1, 2, 3] rfl)
            · have c_18 : mdF (jf 0) (jf 1) (i_1) (b_15) = true := eq_true_of_ne_false c_18
              refine lv_iload_n hx hb dX3_firstDoubtful_34 rfl (lv_at hl 0 rfl) ?_
              refine lv_istore_n (lv' := [(2, .int (nI (i_1))), (3, .int (nI (i_1))), (0, .ref (J 0)), (1, .int (out))]) hx hb dX3_firstDoubtful_35 rfl hl (by decide) rfl (fun ls hl => ?_)
              refine lv_iinc (v := nI (i_1 + 1)) (lv' := [(3, .int (nI (i_1 + 1))), (2, .int (nI (i_1))), (0, .ref (J 0)), (1, .int (out))]) hx hb dX3_firstDoubtful_36 hl (k := 1) rfl (inc_1 _) (by decide) rfl (fun ls hl => ?_)
              refine lv_goto (tgt := 4) hx hb dX3_firstDoubtful_39 (by decide) ?_
              exact ih_8 (i_1 + 1) _ _ (by omega) (by omega) rfl (by rw [bst_win (by simp [c_13]) eb_16 (by simp [c_18])]; rfl)  ls (lv_sub hl [0, 1, 2, 3] rfl)
  exact LP_5 (jn + 1) 0 _ _ (by omega) (by omega) rfl rfl  ls (lv_sub hl [0, 1, 2, 3] rfl)

set_option maxHeartbeats 1000000 in
set_option maxRecDepth 100000 in
theorem c_X0_has (l : Launch) (D : va_G) (cA : Nat → ClassId) (K : Nat → Nat) (kf : Nat → Nat → Int32) (rw : Nat → Nat) (cn rl : Nat) (v : Int32) (hcn : cn ≤ 10) : Met l yX0_has (gw yX0_has cX0_has 2 (some .boolean)) ({ frames := 0, cells := 0, slots := 0, locals := 0 } : Room) (gPc [.ref (K 0), .int (v)] (fun H => va_P D vwCl (kw cA K kf rw cn rl) H) D cA) (rdI (fun r => r = b2i (isIx v cn))) 0 0 nF := by
  refine gOf (by decide) (Nat.le_of_ble_eq_true rfl) ?_
  intro p e s m below meth c ls hx hb hml hr hlk hown hts hnm hP hK hl
  have hl : lv_has ls 2 [(0, .ref (K 0)), (1, .int (v))] := hl
  refine lv_iload_n hx hb dX0_has_0 rfl (lv_at hl 1 rfl) ?_
  refine g_if_lt (P := v < 0) (tgt := 16) hx hb dX0_has_1 (by decide) Iff.rfl (fun c_1 => ?_) (fun c_1 => ?_)
  · have d_1 : ¬ 0 ≤ v := Int32.not_le.mpr c_1
    refine lv_iconst (v := nI (0)) hx hb dX0_has_16 gc_0 ?_
    exact g_zret (v := nI (0)) hx hb hr hlk rfl dX0_has_17 (by rw [isIx_code v (by omega)]; simp [b2i, c_1, d_1])
  · have d_1 : 0 ≤ v := Int32.not_lt.mp c_1
    refine lv_iload_n hx hb dX0_has_4 rfl (lv_at hl 1 rfl) ?_
    refine lv_aload_n hx hb dX0_has_5 rfl (lv_at hl 0 rfl) ?_
    refine g_get (v := .int (nI (cn))) hx hb hts hown hK hP 0 rfl rfl gu_wsX00 9 (by decide) gm_4_2 rfl dX0_has_6 ?_
    refine g_icmp_ge (P := nI (cn) ≤ v) (tgt := 16) hx hb dX0_has_9 (by decide) Iff.rfl (fun c_2 => ?_) (fun c_2 => ?_)
    · have d_2 : ¬ v < nI (cn) := Int32.not_lt.mpr c_2
      refine lv_iconst (v := nI (0)) hx hb dX0_has_16 gc_0 ?_
      exact g_zret (v := nI (0)) hx hb hr hlk rfl dX0_has_17 (by rw [isIx_code v (by omega)]; simp [b2i, c_1, d_1, c_2, d_2])
    · have d_2 : v < nI (cn) := Int32.not_le.mp c_2
      refine lv_iconst (v := nI (1)) hx hb dX0_has_12 gc_1 ?_
      refine lv_goto (tgt := 17) hx hb dX0_has_13 (by decide) ?_
      exact g_zret (v := nI (1)) hx hb hr hlk rfl dX0_has_17 (by rw [isIx_code v (by omega)]; simp [b2i, c_1, d_1, c_2, d_2])

def clF (k : Nat → Nat → Int32) (c : Nat) : Bool := !decide (k 5 c = -1)
def hpF (k : Nat → Nat → Int32) (c : Nat) : Bool := !decide (k 2 c = 0)
def hvF (k : Nat → Nat → Int32) (c : Nat) : Bool := !decide (k 3 c = 0)
def hdF (k : Nat → Nat → Int32) (c : Nat) : Bool := hpF k c && !hvF k c
def rpF (k : Nat → Nat → Int32) (c : Nat) (night : Int32) : Bool := hvF k c && !clF k c && decide (¬ night - nI 4 < k 4 c)
def cbF (k : Nat → Nat → Int32) (a b : Nat) : Bool := if k 1 a = k 1 b then (if k 0 a = k 0 b then decide (a < b) else decide (k 0 a < k 0 b)) else decide (k 1 a < k 1 b)
def fhF (k : Nat → Nat → Int32) (cn : Nat) (out : Int32) : Option Nat := bst (fun c => hdF k c && !hs out c) (cbF k) cn

set_option maxHeartbeats 1000000 in
set_option maxRecDepth 100000 in
theorem c_X0_hasPanel (l : Launch) (D : va_G) (cA : Nat → ClassId) (K : Nat → Nat) (kf : Nat → Nat → Int32) (rw : Nat → Nat) (cn rl : Nat) (q : Nat) (hq : q < 10) : Met l yX0_hasPanel (gw yX0_hasPanel cX0_hasPanel 2 (some .boolean)) ({ frames := 0, cells := 0, slots := 0, locals := 0 } : Room) (gPc [.ref (K 0), .int (nI (q))] (fun H => va_P D vwCl (kw cA K kf rw cn rl) H) D cA) (rdI (fun r => r = b2i (hpF kf q))) 0 0 nF := by
  refine gOf (by decide) (Nat.le_of_ble_eq_true rfl) ?_
  intro p e s m below meth c ls hx hb hml hr hlk hown hts hnm hP hK hl
  have hl : lv_has ls 2 [(0, .ref (K 0)), (1, .int (nI (q)))] := hl
  refine lv_aload_n hx hb dX0_hasPanel_0 rfl (lv_at hl 0 rfl) ?_
  refine g_get (v := .ref (K 3)) hx hb hts hown hK hP 0 rfl rfl gu_wsX00 2 (by decide) gm_3_19 rfl dX0_hasPanel_1 ?_
  refine lv_iload_n hx hb dX0_hasPanel_4 rfl (lv_at hl 1 rfl) ?_
  refine g_iald (x := kf 2 (q)) hx hb hK hP 3 rfl (by omega) (by decide) rfl dX0_hasPanel_5 ?_
  refine g_if_eq (P := kf 2 (q) = 0) (tgt := 13) hx hb dX0_hasPanel_6 (by decide) Iff.rfl (fun c_1 => ?_) (fun c_1 => ?_)
  · refine lv_iconst (v := nI (0)) hx hb dX0_hasPanel_13 gc_0 ?_
    exact g_zret (v := nI (0)) hx hb hr hlk rfl dX0_hasPanel_14 (by simp [hpF, b2i, c_1])
  · refine lv_iconst (v := nI (1)) hx hb dX0_hasPanel_9 gc_1 ?_
    refine lv_goto (tgt := 14) hx hb dX0_hasPanel_10 (by decide) ?_
    exact g_zret (v := nI (1)) hx hb hr hlk rfl dX0_hasPanel_14 (by simp [hpF, b2i, c_1])

set_option maxHeartbeats 1000000 in
set_option maxRecDepth 100000 in
theorem c_X0_hasVerdict (l : Launch) (D : va_G) (cA : Nat → ClassId) (K : Nat → Nat) (kf : Nat → Nat → Int32) (rw : Nat → Nat) (cn rl : Nat) (q : Nat) (hq : q < 10) : Met l yX0_hasVerdict (gw yX0_hasVerdict cX0_hasVerdict 2 (some .boolean)) ({ frames := 0, cells := 0, slots := 0, locals := 0 } : Room) (gPc [.ref (K 0), .int (nI (q))] (fun H => va_P D vwCl (kw cA K kf rw cn rl) H) D cA) (rdI (fun r => r = b2i (hvF kf q))) 0 0 nF := by
  refine gOf (by decide) (Nat.le_of_ble_eq_true rfl) ?_
  intro p e s m below meth c ls hx hb hml hr hlk hown hts hnm hP hK hl
  have hl : lv_has ls 2 [(0, .ref (K 0)), (1, .int (nI (q)))] := hl
  refine lv_aload_n hx hb dX0_hasVerdict_0 rfl (lv_at hl 0 rfl) ?_
  refine g_get (v := .ref (K 4)) hx hb hts hown hK hP 0 rfl rfl gu_wsX00 3 (by decide) gm_3_20 rfl dX0_hasVerdict_1 ?_
  refine lv_iload_n hx hb dX0_hasVerdict_4 rfl (lv_at hl 1 rfl) ?_
  refine g_iald (x := kf 3 (q)) hx hb hK hP 4 rfl (by omega) (by decide) rfl dX0_hasVerdict_5 ?_
  refine g_if_eq (P := kf 3 (q) = 0) (tgt := 13) hx hb dX0_hasVerdict_6 (by decide) Iff.rfl (fun c_1 => ?_) (fun c_1 => ?_)
  · refine lv_iconst (v := nI (0)) hx hb dX0_hasVerdict_13 gc_0 ?_
    exact g_zret (v := nI (0)) hx hb hr hlk rfl dX0_hasVerdict_14 (by simp [hvF, b2i, c_1])
  · refine lv_iconst (v := nI (1)) hx hb dX0_hasVerdict_9 gc_1 ?_
    refine lv_goto (tgt := 14) hx hb dX0_hasVerdict_10 (by decide) ?_
    exact g_zret (v := nI (1)) hx hb hr hlk rfl dX0_hasVerdict_14 (by simp [hvF, b2i, c_1])

set_option maxHeartbeats 1000000 in
set_option maxRecDepth 100000 in
theorem c_X0_isClosed (l : Launch) (D : va_G) (cA : Nat → ClassId) (K : Nat → Nat) (kf : Nat → Nat → Int32) (rw : Nat → Nat) (cn rl : Nat) (q : Nat) (hq : q < 10) : Met l yX0_isClosed (gw yX0_isClosed cX0_isClosed 2 (some .boolean)) ({ frames := 0, cells := 0, slots := 0, locals := 0 } : Room) (gPc [.ref (K 0), .int (nI (q))] (fun H => va_P D vwCl (kw cA K kf rw cn rl) H) D cA) (rdI (fun r => r = b2i (clF kf q))) 0 0 nF := by
  refine gOf (by decide) (Nat.le_of_ble_eq_true rfl) ?_
  intro p e s m below meth c ls hx hb hml hr hlk hown hts hnm hP hK hl
  have hl : lv_has ls 2 [(0, .ref (K 0)), (1, .int (nI (q)))] := hl
  refine lv_aload_n hx hb dX0_isClosed_0 rfl (lv_at hl 0 rfl) ?_
  refine g_get (v := .ref (K 6)) hx hb hts hown hK hP 0 rfl rfl gu_wsX00 5 (by decide) gm_3_22 rfl dX0_isClosed_1 ?_
  refine lv_iload_n hx hb dX0_isClosed_4 rfl (lv_at hl 1 rfl) ?_
  refine g_iald (x := kf 5 (q)) hx hb hK hP 6 rfl (by omega) (by decide) rfl dX0_isClosed_5 ?_
  refine lv_iconst (v := -1) hx hb dX0_isClosed_6 gc_m1 ?_
  refine g_icmp_eq (P := kf 5 (q) = -1) (tgt := 14) hx hb dX0_isClosed_7 (by decide) Iff.rfl (fun c_1 => ?_) (fun c_1 => ?_)
  · refine lv_iconst (v := nI (0)) hx hb dX0_isClosed_14 gc_0 ?_
    exact g_zret (v := nI (0)) hx hb hr hlk rfl dX0_isClosed_15 (by simp [clF, b2i, c_1])
  · refine lv_iconst (v := nI (1)) hx hb dX0_isClosed_10 gc_1 ?_
    refine lv_goto (tgt := 15) hx hb dX0_isClosed_11 (by decide) ?_
    exact g_zret (v := nI (1)) hx hb hr hlk rfl dX0_isClosed_15 (by simp [clF, b2i, c_1])

set_option maxHeartbeats 1000000 in
set_option maxRecDepth 100000 in
theorem c_X0_isHeard (l : Launch) (D : va_G) (cA : Nat → ClassId) (K : Nat → Nat) (kf : Nat → Nat → Int32) (rw : Nat → Nat) (cn rl : Nat) (q : Nat) (hq : q < 10) : Met l yX0_isHeard (gw yX0_isHeard cX0_isHeard 2 (some .boolean)) ({ frames := 1, cells := 0, slots := 0, locals := 21 } : Room) (gPc [.ref (K 0), .int (nI (q))] (fun H => va_P D vwCl (kw cA K kf rw cn rl) H) D cA) (rdI (fun r => r = b2i (hdF kf q))) 0 0 nF := by
  refine gOf (by decide) (Nat.le_of_ble_eq_true rfl) ?_
  intro p e s m below meth c ls hx hb hml hr hlk hown hts hnm hP hK hl
  have hl : lv_has ls 2 [(0, .ref (K 0)), (1, .int (nI (q)))] := hl
  refine lv_aload_n hx hb dX0_isHeard_0 rfl (lv_at hl 0 rfl) ?_
  refine lv_iload_n hx hb dX0_isHeard_1 rfl (lv_at hl 1 rfl) ?_
  refine rd_calle (va_runV (As := [.int (nI (q))]) (rest := []) ⟨hx, hb, hml, hown, hts⟩ (c_X0_hasPanel l D cA K kf rw cn rl (q) (by omega)) (cwV 1 hts (gWV gm_31_10 gm_12_1 gm_12_2 gm_3_0 gm_12_3) rfl rfl rfl (by decide +kernel) ⟨Nat.le_of_ble_eq_true rfl, Nat.le_of_ble_eq_true rfl⟩) (gPreV hK (g_rf hK hP (ci := 2) (q0 := 0) rfl rfl) hP) rfl rfl hl.1 rfl (lv_room (Nat.le_of_ble_eq_true rfl)) dX0_isHeard_2 ⟨by omega, by omega⟩) ?_
  refine g_if_eq (P := hpF kf (q) = false) (tgt := 20) hx hb dX0_isHeard_5 (by decide) b2i_0 (fun c_1 => ?_) (fun c_1 => ?_)
  · refine lv_iconst (v := nI (0)) hx hb dX0_isHeard_20 gc_0 ?_
    exact g_zret (v := nI (0)) hx hb hr hlk rfl dX0_isHeard_21 (by simp [hdF, b2i, c_1])
  · have c_1 : hpF kf (q) = true := eq_true_of_ne_false c_1
    refine lv_aload_n hx hb dX0_isHeard_8 rfl (lv_at hl 0 rfl) ?_
    refine lv_iload_n hx hb dX0_isHeard_9 rfl (lv_at hl 1 rfl) ?_
    refine rd_calle (va_runV (As := [.int (nI (q))]) (rest := []) ⟨hx, hb, hml, hown, hts⟩ (c_X0_hasVerdict l D cA K kf rw cn rl (q) (by omega)) (cwV 1 hts (gWV gm_23_12 gm_16_5 gm_16_6 gm_3_0 gm_16_7) rfl rfl rfl (by decide +kernel) ⟨Nat.le_of_ble_eq_true rfl, Nat.le_of_ble_eq_true rfl⟩) (gPreV hK (g_rf hK hP (ci := 2) (q0 := 0) rfl rfl) hP) rfl rfl hl.1 rfl (lv_room (Nat.le_of_ble_eq_true rfl)) dX0_isHeard_10 ⟨by omega, by omega⟩) ?_
    refine g_if_ne (P := hvF kf (q) = false) (tgt := 20) hx hb dX0_isHeard_13 (by decide) b2i_0 (fun c_2 => ?_) (fun c_2 => ?_)
    · have c_2 : hvF kf (q) = true := eq_true_of_ne_false c_2
      refine lv_iconst (v := nI (0)) hx hb dX0_isHeard_20 gc_0 ?_
      exact g_zret (v := nI (0)) hx hb hr hlk rfl dX0_isHeard_21 (by simp [hdF, b2i, c_1, c_2])
    · refine lv_iconst (v := nI (1)) hx hb dX0_isHeard_16 gc_1 ?_
      refine lv_goto (tgt := 21) hx hb dX0_isHeard_17 (by decide) ?_
      exact g_zret (v := nI (1)) hx hb hr hlk rfl dX0_isHeard_21 (by simp [hdF, b2i, c_1, c_2])

set_option maxHeartbeats 1000000 in
set_option maxRecDepth 100000 in
theorem c_X0_isRipe (l : Launch) (D : va_G) (cA : Nat → ClassId) (K : Nat → Nat) (kf : Nat → Nat → Int32) (rw : Nat → Nat) (cn rl : Nat) (q : Nat) (night : Int32) (hq : q < 10) : Met l yX0_isRipe (gw yX0_isRipe cX0_isRipe 3 (some .boolean)) ({ frames := 1, cells := 0, slots := 0, locals := 21 } : Room) (gPc [.ref (K 0), .int (nI (q)), .int (night)] (fun H => va_P D vwCl (kw cA K kf rw cn rl) H) D cA) (rdI (fun r => r = b2i (rpF kf q night))) 0 0 nF := by
  refine gOf (by decide) (Nat.le_of_ble_eq_true rfl) ?_
  intro p e s m below meth c ls hx hb hml hr hlk hown hts hnm hP hK hl
  have hl : lv_has ls 3 [(0, .ref (K 0)), (1, .int (nI (q))), (2, .int (night))] := hl
  refine lv_aload_n hx hb dX0_isRipe_0 rfl (lv_at hl 0 rfl) ?_
  refine lv_iload_n hx hb dX0_isRipe_1 rfl (lv_at hl 1 rfl) ?_
  refine rd_calle (va_runV (As := [.int (nI (q))]) (rest := []) ⟨hx, hb, hml, hown, hts⟩ (c_X0_hasVerdict l D cA K kf rw cn rl (q) (by omega)) (cwV 1 hts (gWV gm_23_12 gm_16_5 gm_16_6 gm_3_0 gm_16_7) rfl rfl rfl (by decide +kernel) ⟨Nat.le_of_ble_eq_true rfl, Nat.le_of_ble_eq_true rfl⟩) (gPreV hK (g_rf hK hP (ci := 2) (q0 := 0) rfl rfl) hP) rfl rfl hl.1 rfl (lv_room (Nat.le_of_ble_eq_true rfl)) dX0_isRipe_2 ⟨by omega, by omega⟩) ?_
  refine g_if_eq (P := hvF kf (q) = false) (tgt := 32) hx hb dX0_isRipe_5 (by decide) b2i_0 (fun c_1 => ?_) (fun c_1 => ?_)
  · refine lv_iconst (v := nI (0)) hx hb dX0_isRipe_32 gc_0 ?_
    exact g_zret (v := nI (0)) hx hb hr hlk rfl dX0_isRipe_33 (by simp [rpF, b2i, c_1])
  · have c_1 : hvF kf (q) = true := eq_true_of_ne_false c_1
    refine lv_aload_n hx hb dX0_isRipe_8 rfl (lv_at hl 0 rfl) ?_
    refine lv_iload_n hx hb dX0_isRipe_9 rfl (lv_at hl 1 rfl) ?_
    refine rd_calle (va_runV (As := [.int (nI (q))]) (rest := []) ⟨hx, hb, hml, hown, hts⟩ (c_X0_isClosed l D cA K kf rw cn rl (q) (by omega)) (cwV 1 hts (gWV gm_23_13 gm_12_17 gm_12_18 gm_3_0 gm_12_19) rfl rfl rfl (by decide +kernel) ⟨Nat.le_of_ble_eq_true rfl, Nat.le_of_ble_eq_true rfl⟩) (gPreV hK (g_rf hK hP (ci := 2) (q0 := 0) rfl rfl) hP) rfl rfl hl.1 rfl (lv_room (Nat.le_of_ble_eq_true rfl)) dX0_isRipe_10 ⟨by omega, by omega⟩) ?_
    refine g_if_ne (P := clF kf (q) = false) (tgt := 32) hx hb dX0_isRipe_13 (by decide) b2i_0 (fun c_2 => ?_) (fun c_2 => ?_)
    · have c_2 : clF kf (q) = true := eq_true_of_ne_false c_2
      refine lv_iconst (v := nI (0)) hx hb dX0_isRipe_32 gc_0 ?_
      exact g_zret (v := nI (0)) hx hb hr hlk rfl dX0_isRipe_33 (by simp [rpF, b2i, c_1, c_2])
    · refine lv_aload_n hx hb dX0_isRipe_16 rfl (lv_at hl 0 rfl) ?_
      refine g_get (v := .ref (K 5)) hx hb hts hown hK hP 0 rfl rfl gu_wsX00 4 (by decide) gm_3_21 rfl dX0_isRipe_17 ?_
      refine lv_iload_n hx hb dX0_isRipe_20 rfl (lv_at hl 1 rfl) ?_
      refine g_iald (x := kf 4 (q)) hx hb hK hP 5 rfl (by omega) (by decide) rfl dX0_isRipe_21 ?_
      refine lv_iload_n hx hb dX0_isRipe_22 rfl (lv_at hl 2 rfl) ?_
      refine lv_iconst (v := nI (4)) hx hb dX0_isRipe_23 gc_4 ?_
      refine lv_isub hx hb dX0_isRipe_24 ?_
      refine g_icmp_gt (P := (night) - (nI (4)) < kf 4 (q)) (tgt := 32) hx hb dX0_isRipe_25 (by decide) Iff.rfl (fun c_3 => ?_) (fun c_3 => ?_)
      · have d_3 : ¬ kf 4 (q) ≤ (night) - (nI (4)) := Int32.not_le.mpr c_3
        refine lv_iconst (v := nI (0)) hx hb dX0_isRipe_32 gc_0 ?_
        exact g_zret (v := nI (0)) hx hb hr hlk rfl dX0_isRipe_33 (by simp [rpF, b2i, c_1, c_2, c_3, d_3])
      · have d_3 : kf 4 (q) ≤ (night) - (nI (4)) := Int32.not_lt.mp c_3
        refine lv_iconst (v := nI (1)) hx hb dX0_isRipe_28 gc_1 ?_
        refine lv_goto (tgt := 33) hx hb dX0_isRipe_29 (by decide) ?_
        exact g_zret (v := nI (1)) hx hb hr hlk rfl dX0_isRipe_33 (by simp [rpF, b2i, c_1, c_2, c_3, d_3])

set_option maxHeartbeats 1000000 in
set_option maxRecDepth 100000 in
theorem c_X0_comesBefore (l : Launch) (D : va_G) (cA : Nat → ClassId) (K : Nat → Nat) (kf : Nat → Nat → Int32) (rw : Nat → Nat) (cn rl : Nat) (a b : Nat) (ha : a < 10) (hb_ : b < 10) : Met l yX0_comesBefore (gw yX0_comesBefore cX0_comesBefore 3 (some .boolean)) ({ frames := 0, cells := 0, slots := 0, locals := 0 } : Room) (gPc [.ref (K 0), .int (nI (a)), .int (nI (b))] (fun H => va_P D vwCl (kw cA K kf rw cn rl) H) D cA) (rdI (fun r => r = b2i (cbF kf a b))) 0 0 nF := by
  refine gOf (by decide) (Nat.le_of_ble_eq_true rfl) ?_
  intro p e s m below meth c ls hx hb hml hr hlk hown hts hnm hP hK hl
  have hl : lv_has ls 3 [(0, .ref (K 0)), (1, .int (nI (a))), (2, .int (nI (b)))] := hl
  refine lv_aload_n hx hb dX0_comesBefore_0 rfl (lv_at hl 0 rfl) ?_
  refine g_get (v := .ref (K 2)) hx hb hts hown hK hP 0 rfl rfl gu_wsX00 1 (by decide) gm_3_18 rfl dX0_comesBefore_1 ?_
  refine lv_iload_n hx hb dX0_comesBefore_4 rfl (lv_at hl 1 rfl) ?_
  refine g_iald (x := kf 1 (a)) hx hb hK hP 2 rfl (by omega) (by decide) rfl dX0_comesBefore_5 ?_
  refine lv_aload_n hx hb dX0_comesBefore_6 rfl (lv_at hl 0 rfl) ?_
  refine g_get (v := .ref (K 2)) hx hb hts hown hK hP 0 rfl rfl gu_wsX00 1 (by decide) gm_3_18 rfl dX0_comesBefore_7 ?_
  refine lv_iload_n hx hb dX0_comesBefore_10 rfl (lv_at hl 2 rfl) ?_
  refine g_iald (x := kf 1 (b)) hx hb hK hP 2 rfl (by omega) (by decide) rfl dX0_comesBefore_11 ?_
  refine g_icmp_eq (P := kf 1 (a) = kf 1 (b)) (tgt := 36) hx hb dX0_comesBefore_12 (by decide) Iff.rfl (fun c_1 => ?_) (fun c_1 => ?_)
  · refine lv_aload_n hx hb dX0_comesBefore_36 rfl (lv_at hl 0 rfl) ?_
    refine g_get (v := .ref (K 1)) hx hb hts hown hK hP 0 rfl rfl gu_wsX00 0 (by decide) gm_3_17 rfl dX0_comesBefore_37 ?_
    refine lv_iload_n hx hb dX0_comesBefore_40 rfl (lv_at hl 1 rfl) ?_
    refine g_iald (x := kf 0 (a)) hx hb hK hP 1 rfl (by omega) (by decide) rfl dX0_comesBefore_41 ?_
    refine lv_aload_n hx hb dX0_comesBefore_42 rfl (lv_at hl 0 rfl) ?_
    refine g_get (v := .ref (K 1)) hx hb hts hown hK hP 0 rfl rfl gu_wsX00 0 (by decide) gm_3_17 rfl dX0_comesBefore_43 ?_
    refine lv_iload_n hx hb dX0_comesBefore_46 rfl (lv_at hl 2 rfl) ?_
    refine g_iald (x := kf 0 (b)) hx hb hK hP 1 rfl (by omega) (by decide) rfl dX0_comesBefore_47 ?_
    refine g_icmp_eq (P := kf 0 (a) = kf 0 (b)) (tgt := 72) hx hb dX0_comesBefore_48 (by decide) Iff.rfl (fun c_2 => ?_) (fun c_2 => ?_)
    · refine lv_iload_n hx hb dX0_comesBefore_72 rfl (lv_at hl 1 rfl) ?_
      refine lv_iload_n hx hb dX0_comesBefore_73 rfl (lv_at hl 2 rfl) ?_
      refine g_icmp_ge (P := b ≤ a) (tgt := 81) hx hb dX0_comesBefore_74 (by decide) (nI_leI (by omega) (by omega)) (fun c_3 => ?_) (fun c_3 => ?_)
      · have d_3 : ¬ a < b := Nat.not_lt.mpr c_3
        refine lv_iconst (v := nI (0)) hx hb dX0_comesBefore_81 gc_0 ?_
        exact g_zret (v := nI (0)) hx hb hr hlk rfl dX0_comesBefore_82 (by simp [cbF, b2i, c_1, c_2, c_3, d_3] <;> omega)
      · have d_3 : a < b := Nat.not_le.mp c_3
        refine lv_iconst (v := nI (1)) hx hb dX0_comesBefore_77 gc_1 ?_
        refine lv_goto (tgt := 82) hx hb dX0_comesBefore_78 (by decide) ?_
        exact g_zret (v := nI (1)) hx hb hr hlk rfl dX0_comesBefore_82 (by simp [cbF, b2i, c_1, c_2, c_3, d_3] <;> omega)
    · refine lv_aload_n hx hb dX0_comesBefore_51 rfl (lv_at hl 0 rfl) ?_
      refine g_get (v := .ref (K 1)) hx hb hts hown hK hP 0 rfl rfl gu_wsX00 0 (by decide) gm_3_17 rfl dX0_comesBefore_52 ?_
      refine lv_iload_n hx hb dX0_comesBefore_55 rfl (lv_at hl 1 rfl) ?_
      refine g_iald (x := kf 0 (a)) hx hb hK hP 1 rfl (by omega) (by decide) rfl dX0_comesBefore_56 ?_
      refine lv_aload_n hx hb dX0_comesBefore_57 rfl (lv_at hl 0 rfl) ?_
      refine g_get (v := .ref (K 1)) hx hb hts hown hK hP 0 rfl rfl gu_wsX00 0 (by decide) gm_3_17 rfl dX0_comesBefore_58 ?_
      refine lv_iload_n hx hb dX0_comesBefore_61 rfl (lv_at hl 2 rfl) ?_
      refine g_iald (x := kf 0 (b)) hx hb hK hP 1 rfl (by omega) (by decide) rfl dX0_comesBefore_62 ?_
      refine g_icmp_ge (P := kf 0 (b) ≤ kf 0 (a)) (tgt := 70) hx hb dX0_comesBefore_63 (by decide) Iff.rfl (fun c_4 => ?_) (fun c_4 => ?_)
      · have d_4 : ¬ kf 0 (a) < kf 0 (b) := Int32.not_lt.mpr c_4
        refine lv_iconst (v := nI (0)) hx hb dX0_comesBefore_70 gc_0 ?_
        exact g_zret (v := nI (0)) hx hb hr hlk rfl dX0_comesBefore_71 (by simp [cbF, b2i, c_1, c_2, c_4, d_4] <;> omega)
      · have d_4 : kf 0 (a) < kf 0 (b) := Int32.not_le.mp c_4
        refine lv_iconst (v := nI (1)) hx hb dX0_comesBefore_66 gc_1 ?_
        refine lv_goto (tgt := 71) hx hb dX0_comesBefore_67 (by decide) ?_
        exact g_zret (v := nI (1)) hx hb hr hlk rfl dX0_comesBefore_71 (by simp [cbF, b2i, c_1, c_2, c_4, d_4] <;> omega)
  · refine lv_aload_n hx hb dX0_comesBefore_15 rfl (lv_at hl 0 rfl) ?_
    refine g_get (v := .ref (K 2)) hx hb hts hown hK hP 0 rfl rfl gu_wsX00 1 (by decide) gm_3_18 rfl dX0_comesBefore_16 ?_
    refine lv_iload_n hx hb dX0_comesBefore_19 rfl (lv_at hl 1 rfl) ?_
    refine g_iald (x := kf 1 (a)) hx hb hK hP 2 rfl (by omega) (by decide) rfl dX0_comesBefore_20 ?_
    refine lv_aload_n hx hb dX0_comesBefore_21 rfl (lv_at hl 0 rfl) ?_
    refine g_get (v := .ref (K 2)) hx hb hts hown hK hP 0 rfl rfl gu_wsX00 1 (by decide) gm_3_18 rfl dX0_comesBefore_22 ?_
    refine lv_iload_n hx hb dX0_comesBefore_25 rfl (lv_at hl 2 rfl) ?_
    refine g_iald (x := kf 1 (b)) hx hb hK hP 2 rfl (by omega) (by decide) rfl dX0_comesBefore_26 ?_
    refine g_icmp_ge (P := kf 1 (b) ≤ kf 1 (a)) (tgt := 34) hx hb dX0_comesBefore_27 (by decide) Iff.rfl (fun c_5 => ?_) (fun c_5 => ?_)
    · have d_5 : ¬ kf 1 (a) < kf 1 (b) := Int32.not_lt.mpr c_5
      refine lv_iconst (v := nI (0)) hx hb dX0_comesBefore_34 gc_0 ?_
      exact g_zret (v := nI (0)) hx hb hr hlk rfl dX0_comesBefore_35 (by simp [cbF, b2i, c_1, c_5, d_5] <;> omega)
    · have d_5 : kf 1 (a) < kf 1 (b) := Int32.not_le.mp c_5
      refine lv_iconst (v := nI (1)) hx hb dX0_comesBefore_30 gc_1 ?_
      refine lv_goto (tgt := 35) hx hb dX0_comesBefore_31 (by decide) ?_
      exact g_zret (v := nI (1)) hx hb hr hlk rfl dX0_comesBefore_35 (by simp [cbF, b2i, c_1, c_5, d_5] <;> omega)

set_option maxHeartbeats 1000000 in
set_option maxRecDepth 100000 in
theorem c_X0_firstHeard (l : Launch) (D : va_G) (cA : Nat → ClassId) (K : Nat → Nat) (kf : Nat → Nat → Int32) (rw : Nat → Nat) (cn rl : Nat) (out : Int32) (hcn : cn ≤ 10) : Met l yX0_firstHeard (gw yX0_firstHeard cX0_firstHeard 4 (some .int)) ({ frames := 2, cells := 0, slots := 0, locals := 42 } : Room) (gPc [.ref (K 0), .int (out)] (fun H => va_P D vwCl (kw cA K kf rw cn rl) H) D cA) (rdI (fun r => r = oI (fhF kf cn out))) 0 0 nF := by
  refine gOf (by decide) (Nat.le_of_ble_eq_true rfl) ?_
  intro p e s m below meth c ls hx hb hml hr hlk hown hts hnm hP hK hl
  have hl : lv_has ls 4 [(0, .ref (K 0)), (1, .int (out))] := hl
  refine lv_iconst (v := -1) hx hb dX0_firstHeard_0 gc_m1 ?_
  refine lv_istore_n (lv' := [(2, .int (-1)), (0, .ref (K 0)), (1, .int (out))]) hx hb dX0_firstHeard_1 rfl hl (by decide) rfl (fun ls hl => ?_)
  refine lv_iconst (v := nI (0)) hx hb dX0_firstHeard_2 gc_0 ?_
  refine lv_istore_n (lv' := [(3, .int (nI (0))), (2, .int (-1)), (0, .ref (K 0)), (1, .int (out))]) hx hb dX0_firstHeard_3 rfl hl (by decide) rfl (fun ls hl => ?_)
  have LP_5 : ∀ (n_2 i_1 : Nat) (x_3 x_4 : Int32), i_1 ≤ cn → cn + 1 ≤ i_1 + n_2 → x_3 = nI (i_1) → x_4 = oI (bst (fun c => hdF kf c && !hs out c) (cbF kf) i_1) → ∀ (ls : Array Slot), lv_has ls 4 [(3, .int (x_3)), (2, .int (x_4)), (0, .ref (K 0)), (1, .int (out))] → W p l e ({ frames := 2, cells := 0, slots := 0, locals := 42 } : Room) s m ([.ref (K 0), .int (out)] : List Value).toArray below meth c s.heap [] 0 0 (MQ below (rdI (fun r => r = oI (fhF kf cn out))) ([.ref (K 0), .int (out)] : List Value).toArray s 0 0 nF) (F0 m 4 ls []) := by
    intro n_2
    induction n_2 with
    | zero => intro i_1 x_3 x_4 h1 h2; exact absurd h2 (by omega)
    | succ n_2 ih_8 =>
      intro i_1 x_3 x_4 h_9 h_10 e_6 e_7  ls hl
      subst e_6
      subst e_7
      refine lv_iload_n hx hb dX0_firstHeard_4 rfl (lv_at hl 0 rfl) ?_
      refine lv_aload_n hx hb dX0_firstHeard_5 rfl (lv_at hl 2 rfl) ?_
      refine g_get (v := .int (nI (cn))) hx hb hts hown hK hP 0 rfl rfl gu_wsX00 9 (by decide) gm_4_2 rfl dX0_firstHeard_6 ?_
      refine g_icmp_ge (P := cn ≤ i_1) (tgt := 50) hx hb dX0_firstHeard_9 (by decide) (nI_leI (by omega) (by omega)) (fun c_11 => ?_) (fun c_11 => ?_)
      · have d_11 : ¬ i_1 < cn := Nat.not_lt.mpr c_11
        have hN_12 : cn = i_1 := by omega
        subst hN_12
        refine lv_iload_n hx hb dX0_firstHeard_50 rfl (lv_at hl 1 rfl) ?_
        exact g_iret (v := oI (bst (fun c => hdF kf c && !hs out c) (cbF kf) (cn))) hx hb hr hlk dX0_firstHeard_51 (rfl)
      · have d_11 : i_1 < cn := Nat.not_le.mp c_11
        refine lv_aload_n hx hb dX0_firstHeard_12 rfl (lv_at hl 2 rfl) ?_
        refine lv_iload_n hx hb dX0_firstHeard_13 rfl (lv_at hl 0 rfl) ?_
        refine rd_calle (va_runV (As := [.int (nI (i_1))]) (rest := []) ⟨hx, hb, hml, hown, hts⟩ (c_X0_isHeard l D cA K kf rw cn rl (i_1) (by omega)) (cwV 1 hts (gWV gm_31_6 gm_31_7 gm_31_8 gm_3_0 gm_31_9) rfl rfl rfl (by decide +kernel) ⟨Nat.le_of_ble_eq_true rfl, Nat.le_of_ble_eq_true rfl⟩) (gPreV hK (g_rf hK hP (ci := 2) (q0 := 0) rfl rfl) hP) rfl rfl hl.1 rfl (lv_room (Nat.le_of_ble_eq_true rfl)) dX0_firstHeard_14 ⟨by omega, by omega⟩) ?_
        refine g_if_eq (P := hdF kf (i_1) = false) (tgt := 44) hx hb dX0_firstHeard_17 (by decide) b2i_0 (fun c_13 => ?_) (fun c_13 => ?_)
        · refine lv_iinc (v := nI (i_1 + 1)) (lv' := [(3, .int (nI (i_1 + 1))), (2, .int (oI (bst (fun c => hdF kf c && !hs out c) (cbF kf) i_1))), (0, .ref (K 0)), (1, .int (out))]) hx hb dX0_firstHeard_44 hl (k := 0) rfl (inc_1 _) (by decide) rfl (fun ls hl => ?_)
          refine lv_goto (tgt := 4) hx hb dX0_firstHeard_47 (by decide) ?_
          exact ih_8 (i_1 + 1) _ _ (by omega) (by omega) rfl (by rw [bst_no (by simp [c_13])])  ls (lv_sub hl [0, 1, 2, 3] rfl)
        · have c_13 : hdF kf (i_1) = true := eq_true_of_ne_false c_13
          refine lv_iload_n hx hb dX0_firstHeard_20 rfl (lv_at hl 3 rfl) ?_
          refine lv_iload_n hx hb dX0_firstHeard_21 rfl (lv_at hl 0 rfl) ?_
          refine rd_calle (va_runSN (As := [.int (out), .int (nI (i_1))]) (rest := []) ⟨hx, hb, hml, hown, hts⟩ (c_X7_isIn l D cA (out) (i_1)) ⟨(va_cnB 2 hts (gWN gm_12_9) rfl rfl rfl (hK.2 _ (List.mem_of_getElem? (i := 9) rfl)) (hts _ (List.mem_cons_of_mem _ gm_1_2)) (by decide +kernel) ⟨Nat.le_of_ble_eq_true rfl, Nat.le_of_ble_eq_true rfl⟩), hts _ (List.mem_cons_of_mem _ gm_12_8), trivial⟩ (gPreS hK trivial) rfl rfl hl.1 rfl (lv_room (Nat.le_of_ble_eq_true rfl)) dX0_firstHeard_22 ⟨by omega, by omega⟩) ?_
          refine g_if_ne (P := hs (out) (i_1) = false) (tgt := 44) hx hb dX0_firstHeard_25 (by decide) b2i_0 (fun c_14 => ?_) (fun c_14 => ?_)
          · have c_14 : hs (out) (i_1) = true := eq_true_of_ne_false c_14
            refine lv_iinc (v := nI (i_1 + 1)) (lv' := [(3, .int (nI (i_1 + 1))), (2, .int (oI (bst (fun c => hdF kf c && !hs out c) (cbF kf) i_1))), (0, .ref (K 0)), (1, .int (out))]) hx hb dX0_firstHeard_44 hl (k := 0) rfl (inc_1 _) (by decide) rfl (fun ls hl => ?_)
            refine lv_goto (tgt := 4) hx hb dX0_firstHeard_47 (by decide) ?_
            exact ih_8 (i_1 + 1) _ _ (by omega) (by omega) rfl (by rw [bst_no (by simp [c_13, c_14])])  ls (lv_sub hl [0, 1, 2, 3] rfl)
          · refine lv_iload_n hx hb dX0_firstHeard_28 rfl (lv_at hl 1 rfl) ?_
            refine lv_iconst (v := -1) hx hb dX0_firstHeard_29 gc_m1 ?_
            refine g_icmp_eq (P := bst (fun c => hdF kf c && !hs out c) (cbF kf) i_1 = none) (tgt := 42) hx hb dX0_firstHeard_30 (by decide) (oI_m1 (fun b q => by have := bst_lt q; omega)) (fun c_15 => ?_) (fun c_15 => ?_)
            · refine lv_iload_n hx hb dX0_firstHeard_42 rfl (lv_at hl 0 rfl) ?_
              refine lv_istore_n (lv' := [(2, .int (nI (i_1))), (3, .int (nI (i_1))), (0, .ref (K 0)), (1, .int (out))]) hx hb dX0_firstHeard_43 rfl hl (by decide) rfl (fun ls hl => ?_)
              refine lv_iinc (v := nI (i_1 + 1)) (lv' := [(3, .int (nI (i_1 + 1))), (2, .int (nI (i_1))), (0, .ref (K 0)), (1, .int (out))]) hx hb dX0_firstHeard_44 hl (k := 1) rfl (inc_1 _) (by decide) rfl (fun ls hl => ?_)
              refine lv_goto (tgt := 4) hx hb dX0_firstHeard_47 (by decide) ?_
              exact ih_8 (i_1 + 1) _ _ (by omega) (by omega) rfl (by rw [bst_new (by simp [c_13, c_14]) c_15]; rfl)  ls (lv_sub hl [0, 1, 2, 3] rfl)
            · obtain ⟨b_16, eb_17⟩ := o_some c_15
              have hb_18 := bst_lt eb_17
              rw [eb_17] at hl
              have hl : lv_has ls 4 [(3, .int (nI (i_1))), (2, .int (nI (b_16))), (0, .ref (K 0)), (1, .int (out))] := hl
              refine lv_aload_n hx hb dX0_firstHeard_33 rfl (lv_at hl 2 rfl) ?_
              refine lv_iload_n hx hb dX0_firstHeard_34 rfl (lv_at hl 0 rfl) ?_
              refine lv_iload_n hx hb dX0_firstHeard_35 rfl (lv_at hl 1 rfl) ?_
              refine rd_calle (va_runV (As := [.int (nI (i_1)), .int (nI (b_16))]) (rest := []) ⟨hx, hb, hml, hown, hts⟩ (c_X0_comesBefore l D cA K kf rw cn rl (i_1) (b_16) (by omega) (by omega)) (cwV 2 hts (gWV gm_13_15 gm_13_16 gm_13_17 gm_3_0 gm_13_18) rfl rfl rfl (by decide +kernel) ⟨Nat.le_of_ble_eq_true rfl, Nat.le_of_ble_eq_true rfl⟩) (gPreV hK (g_rf hK hP (ci := 2) (q0 := 0) rfl rfl) hP) rfl rfl hl.1 rfl (lv_room (Nat.le_of_ble_eq_true rfl)) dX0_firstHeard_36 ⟨by omega, by omega⟩) ?_
              refine g_if_eq (P := cbF kf (i_1) (b_16) = false) (tgt := 44) hx hb dX0_firstHeard_39 (by decide) b2i_0 (fun c_19 => ?_) (fun c_19 => ?_)
              · refine lv_iinc (v := nI (i_1 + 1)) (lv' := [(3, .int (nI (i_1 + 1))), (2, .int (nI (b_16))), (0, .ref (K 0)), (1, .int (out))]) hx hb dX0_firstHeard_44 hl (k := 0) rfl (inc_1 _) (by decide) rfl (fun ls hl => ?_)
                refine lv_goto (tgt := 4) hx hb dX0_firstHeard_47 (by decide) ?_
                exact ih_8 (i_1 + 1) _ _ (by omega) (by omega) rfl (by rw [bst_lose (by simp [c_13, c_14]) eb_17 (by simp [c_19])]; rfl)  ls (lv_sub hl [0, 1, 2, 3] rfl)
              · have c_19 : cbF kf (i_1) (b_16) = true := eq_true_of_ne_false c_19
                refine lv_iload_n hx hb dX0_firstHeard_42 rfl (lv_at hl 0 rfl) ?_
                refine lv_istore_n (lv' := [(2, .int (nI (i_1))), (3, .int (nI (i_1))), (0, .ref (K 0)), (1, .int (out))]) hx hb dX0_firstHeard_43 rfl hl (by decide) rfl (fun ls hl => ?_)
                refine lv_iinc (v := nI (i_1 + 1)) (lv' := [(3, .int (nI (i_1 + 1))), (2, .int (nI (i_1))), (0, .ref (K 0)), (1, .int (out))]) hx hb dX0_firstHeard_44 hl (k := 1) rfl (inc_1 _) (by decide) rfl (fun ls hl => ?_)
                refine lv_goto (tgt := 4) hx hb dX0_firstHeard_47 (by decide) ?_
                exact ih_8 (i_1 + 1) _ _ (by omega) (by omega) rfl (by rw [bst_win (by simp [c_13, c_14]) eb_17 (by simp [c_19])]; rfl)  ls (lv_sub hl [0, 1, 2, 3] rfl)
  exact LP_5 (cn + 1) 0 _ _ (by omega) (by omega) rfl rfl  ls (lv_sub hl [0, 1, 2, 3] rfl)

set_option maxHeartbeats 1000000 in
set_option maxRecDepth 100000 in
theorem c_X0_placeOnRoll (l : Launch) (D : va_G) (cA : Nat → ClassId) (K : Nat → Nat) (kf : Nat → Nat → Int32) (rw : Nat → Nat) (cn rl : Nat) (q : Nat) (hrl : rl ≤ 10) (hrw : ∀ k, k < rl → rw k < 10) (hq : q < 10) : Met l yX0_placeOnRoll (gw yX0_placeOnRoll cX0_placeOnRoll 3 (some .int)) ({ frames := 0, cells := 0, slots := 0, locals := 0 } : Room) (gPc [.ref (K 0), .int (nI (q))] (fun H => va_P D vwCl (kw cA K kf rw cn rl) H) D cA) (rdI (fun r => r = oI (fnd (fun k => decide (rw k = q)) rl))) 0 0 nF := by
  refine gOf (by decide) (Nat.le_of_ble_eq_true rfl) ?_
  intro p e s m below meth c ls hx hb hml hr hlk hown hts hnm hP hK hl
  have hl : lv_has ls 3 [(0, .ref (K 0)), (1, .int (nI (q)))] := hl
  refine lv_iconst (v := nI (0)) hx hb dX0_placeOnRoll_0 gc_0 ?_
  refine lv_istore_n (lv' := [(2, .int (nI (0))), (0, .ref (K 0)), (1, .int (nI (q)))]) hx hb dX0_placeOnRoll_1 rfl hl (by decide) rfl (fun ls hl => ?_)
  have LP_4 : ∀ (n_2 i_1 : Nat) (x_3 : Int32), i_1 ≤ rl → rl + 1 ≤ i_1 + n_2 → x_3 = nI (i_1) → (fnd (fun k => decide (rw k = q)) (i_1) = none) → ∀ (ls : Array Slot), lv_has ls 3 [(2, .int (x_3)), (0, .ref (K 0)), (1, .int (nI (q)))] → W p l e ({ frames := 0, cells := 0, slots := 0, locals := 0 } : Room) s m ([.ref (K 0), .int (nI (q))] : List Value).toArray below meth c s.heap [] 0 0 (MQ below (rdI (fun r => r = oI (fnd (fun k => decide (rw k = q)) rl))) ([.ref (K 0), .int (nI (q))] : List Value).toArray s 0 0 nF) (F0 m 2 ls []) := by
    intro n_2
    induction n_2 with
    | zero => intro i_1 x_3 h1 h2; exact absurd h2 (by omega)
    | succ n_2 ih_6 =>
      intro i_1 x_3 h_7 h_8 e_5 hv ls hl
      subst e_5
      refine lv_iload_n hx hb dX0_placeOnRoll_2 rfl (lv_at hl 0 rfl) ?_
      refine lv_aload_n hx hb dX0_placeOnRoll_3 rfl (lv_at hl 1 rfl) ?_
      refine g_get (v := .int (nI (rl))) hx hb hts hown hK hP 0 rfl rfl gu_wsX00 10 (by decide) gm_4_3 rfl dX0_placeOnRoll_4 ?_
      refine g_icmp_ge (P := rl ≤ i_1) (tgt := 28) hx hb dX0_placeOnRoll_7 (by decide) (nI_leI (by omega) (by omega)) (fun c_9 => ?_) (fun c_9 => ?_)
      · have d_9 : ¬ i_1 < rl := Nat.not_lt.mpr c_9
        have hN_10 : rl = i_1 := by omega
        subst hN_10
        refine lv_iconst (v := -1) hx hb dX0_placeOnRoll_28 gc_m1 ?_
        exact g_iret (v := -1) hx hb hr hlk dX0_placeOnRoll_29 (by rw [hv]; rfl)
      · have d_9 : i_1 < rl := Nat.not_le.mp c_9
        refine lv_aload_n hx hb dX0_placeOnRoll_10 rfl (lv_at hl 1 rfl) ?_
        refine g_get (v := .ref (K 9)) hx hb hts hown hK hP 0 rfl rfl gu_wsX00 8 (by decide) gm_4_1 rfl dX0_placeOnRoll_11 ?_
        refine lv_iload_n hx hb dX0_placeOnRoll_14 rfl (lv_at hl 0 rfl) ?_
        refine g_iald (x := nI (rw (i_1))) hx hb hK hP 9 rfl (by omega) (by decide) rfl dX0_placeOnRoll_15 ?_
        refine lv_iload_n hx hb dX0_placeOnRoll_16 rfl (lv_at hl 2 rfl) ?_
        have hrk_11 := hrw (i_1) (by omega)
        refine g_icmp_ne (P := rw (i_1) = q) (tgt := 22) hx hb dX0_placeOnRoll_17 (by decide) (nI_eq (by omega) (by omega)) (fun c_12 => ?_) (fun c_12 => ?_)
        · refine lv_iinc (v := nI (i_1 + 1)) (lv' := [(2, .int (nI (i_1 + 1))), (0, .ref (K 0)), (1, .int (nI (q)))]) hx hb dX0_placeOnRoll_22 hl (k := 0) rfl (inc_1 _) (by decide) rfl (fun ls hl => ?_)
          refine lv_goto (tgt := 2) hx hb dX0_placeOnRoll_25 (by decide) ?_
          exact ih_6 (i_1 + 1) _ (by omega) (by omega) rfl (fnd_succ_none hv (by simp [c_9, d_9, c_12] <;> omega)) ls (lv_sub hl [0, 1, 2] rfl)
        · refine lv_iload_n hx hb dX0_placeOnRoll_20 rfl (lv_at hl 0 rfl) ?_
          exact g_iret (v := nI (i_1)) hx hb hr hlk dX0_placeOnRoll_21 (by rw [fnd_stop hv (by simp [c_9, d_9, c_12]) rl (by omega)]; rfl)
  exact LP_4 (rl + 1) 0 _ (by omega) (by omega) rfl rfl ls (lv_sub hl [0, 1, 2] rfl)

def nthS (first : Int32 → Option Nat) : Nat → Int32 × Option Nat
  | 0 => (nI 0, first (nI 0))
  | k + 1 => match (nthS first k).2 with
    | none => nthS first k
    | some b => ((nthS first k).1 ||| (nI 1 <<< (nI b &&& 31)), first ((nthS first k).1 ||| (nI 1 <<< (nI b &&& 31))))
theorem nthS_some {first : Int32 → Option Nat} {k b : Nat} (h : (nthS first k).2 = some b) : nthS first (k + 1) = ((nthS first k).1 ||| (nI 1 <<< (nI b &&& 31)), first ((nthS first k).1 ||| (nI 1 <<< (nI b &&& 31)))) := by
  show (match (nthS first k).2 with | none => _ | some b => _) = _
  rw [h]
theorem nthS_none {first : Int32 → Option Nat} {k : Nat} (h : (nthS first k).2 = none) : ∀ m, k ≤ m → nthS first m = nthS first k
  | 0, q => by rw [Nat.le_zero.mp q]
  | m + 1, q => by
    rcases Nat.lt_or_ge m k with r | r
    · rw [show m + 1 = k by omega]
    · have e := nthS_none h m r
      show (match (nthS first m).2 with | none => _ | some b => _) = _
      rw [e, h]
def nthV (first : Int32 → Option Nat) (n : Nat) (v : Int32) : Option Nat := if isIx v n = true then (nthS first v.toNatClampNeg).2 else none
theorem nthV_in {first : Int32 → Option Nat} {n j : Nat} {v : Int32} (hj : j < n) (hn : n < 2 ^ 31) (e : v = nI j) : nthV first n v = (nthS first j).2 := by
  rw [nthV, e, if_pos (isIx_t hj hn), nI_clamp (Nat.lt_trans hj hn)]
theorem nthV_out {first : Int32 → Option Nat} {n : Nat} {v : Int32} (h : isIx v n = false) : nthV first n v = none := by
  rw [nthV, if_neg (by rw [h]; decide)]
theorem nthS_lt {first : Int32 → Option Nat} {n : Nat} (h : ∀ o b, first o = some b → b < n) : ∀ k b, (nthS first k).2 = some b → b < n
  | 0, b, q => h _ b q
  | k + 1, b, q => by
    cases e : (nthS first k).2 with
    | none =>
      rw [nthS_none e (k + 1) (Nat.le_succ k)] at q
      exact nthS_lt h k b q
    | some z =>
      rw [nthS_some e] at q
      exact h _ b q
theorem fdF_lt {l d : Nat → Int32} {n : Nat} (o : Int32) (b : Nat) (h : fdF l d n o = some b) : b < n := bst_lt h
theorem fhF_lt {k : Nat → Nat → Int32} {n : Nat} (o : Int32) (b : Nat) (h : fhF k n o = some b) : b < n := bst_lt h

set_option maxHeartbeats 1000000 in
set_option maxRecDepth 100000 in
theorem c_X3_doubtfulAt (l : Launch) (D : va_G) (cA : Nat → ClassId) (J : Nat → Nat) (jf : Nat → Nat → Int32) (jn : Nat) (v : Int32) (hjn : jn ≤ 9) : Met l yX3_doubtfulAt (gw yX3_doubtfulAt cX3_doubtfulAt 5 (some .int)) ({ frames := 2, cells := 0, slots := 0, locals := 45 } : Room) (gPc [.ref (J 0), .int (v)] (fun H => va_P D vwCl (jw cA J jf jn) H) D cA) (rdI (fun r => r = oI (nthV (fdF (jf 0) (jf 1) jn) jn v))) 0 0 nF := by
  refine gOf (by decide) (Nat.le_of_ble_eq_true rfl) ?_
  intro p e s m below meth c ls hx hb hml hr hlk hown hts hnm hP hK hl
  have hl : lv_has ls 5 [(0, .ref (J 0)), (1, .int (v))] := hl
  refine lv_aload_n hx hb dX3_doubtfulAt_0 rfl (lv_at hl 0 rfl) ?_
  refine lv_iload_n hx hb dX3_doubtfulAt_1 rfl (lv_at hl 1 rfl) ?_
  refine rd_calle (va_runV (As := [.int (v)]) (rest := []) ⟨hx, hb, hml, hown, hts⟩ (c_X3_has l D cA J jf jn (v) hjn) (cwV 1 hts (gWV gm_35_0 gm_25_2 gm_25_3 gm_2_5 gm_25_4) rfl rfl rfl (by decide +kernel) ⟨Nat.le_of_ble_eq_true rfl, Nat.le_of_ble_eq_true rfl⟩) (gPreV hK (g_rf hK hP (ci := 5) (q0 := 0) rfl rfl) hP) rfl rfl hl.1 rfl (lv_room (Nat.le_of_ble_eq_true rfl)) dX3_doubtfulAt_2 ⟨by omega, by omega⟩) ?_
  refine g_if_ne (P := isIx (v) jn = false) (tgt := 10) hx hb dX3_doubtfulAt_5 (by decide) b2i_0 (fun c_1 => ?_) (fun c_1 => ?_)
  · have c_1 : isIx (v) jn = true := eq_true_of_ne_false c_1
    obtain ⟨j_2, hj_4, ej_3⟩ := isIx_n c_1 (by omega)
    rw [ej_3] at hl
    have hl : lv_has ls 5 [(0, .ref (J 0)), (1, .int (nI (j_2)))] := hl
    refine lv_iconst (v := nI (0)) hx hb dX3_doubtfulAt_10 gc_0 ?_
    refine lv_istore_n (lv' := [(2, .int (nI (0))), (0, .ref (J 0)), (1, .int (nI (j_2)))]) hx hb dX3_doubtfulAt_11 rfl hl (by decide) rfl (fun ls hl => ?_)
    refine lv_aload_n hx hb dX3_doubtfulAt_12 rfl (lv_at hl 1 rfl) ?_
    refine lv_iload_n hx hb dX3_doubtfulAt_13 rfl (lv_at hl 0 rfl) ?_
    refine rd_calle (va_runV (As := [.int (nI (0))]) (rest := []) ⟨hx, hb, hml, hown, hts⟩ (c_X3_firstDoubtful l D cA J jf jn (nI (0)) hjn) (cwV 1 hts (gWV gm_35_1 gm_35_2 gm_35_3 gm_2_5 gm_35_4) rfl rfl rfl (by decide +kernel) ⟨Nat.le_of_ble_eq_true rfl, Nat.le_of_ble_eq_true rfl⟩) (gPreV hK (g_rf hK hP (ci := 5) (q0 := 0) rfl rfl) hP) rfl rfl hl.1 rfl (lv_room (Nat.le_of_ble_eq_true rfl)) dX3_doubtfulAt_14 ⟨by omega, by omega⟩) ?_
    refine lv_istore_n (lv' := [(3, .int (oI (fdF (jf 0) (jf 1) jn (nI (0))))), (2, .int (nI (0))), (0, .ref (J 0)), (1, .int (nI (j_2)))]) hx hb dX3_doubtfulAt_17 rfl hl (by decide) rfl (fun ls hl => ?_)
    refine lv_iconst (v := nI (0)) hx hb dX3_doubtfulAt_18 gc_0 ?_
    refine lv_istore (lv' := [(4, .int (nI (0))), (3, .int (oI (fdF (jf 0) (jf 1) jn (nI (0))))), (2, .int (nI (0))), (0, .ref (J 0)), (1, .int (nI (j_2)))]) hx hb dX3_doubtfulAt_19 hl (by decide) rfl (fun ls hl => ?_)
    have LP_10 : ∀ (n_6 i_5 : Nat) (x_7 x_8 x_9 : Int32), i_5 ≤ j_2 → j_2 + 1 ≤ i_5 + n_6 → x_7 = nI (i_5) → x_8 = oI ((nthS (fdF (jf 0) (jf 1) jn) i_5).2) → x_9 = (nthS (fdF (jf 0) (jf 1) jn) i_5).1 → ∀ (ls : Array Slot), lv_has ls 5 [(4, .int (x_7)), (3, .int (x_8)), (2, .int (x_9)), (0, .ref (J 0)), (1, .int (nI (j_2)))] → W p l e ({ frames := 2, cells := 0, slots := 0, locals := 45 } : Room) s m ([.ref (J 0), .int (v)] : List Value).toArray below meth c s.heap [] 0 0 (MQ below (rdI (fun r => r = oI (nthV (fdF (jf 0) (jf 1) jn) jn v))) ([.ref (J 0), .int (v)] : List Value).toArray s 0 0 nF) (F0 m 21 ls []) := by
      intro n_6
      induction n_6 with
      | zero => intro i_5 x_7 x_8 x_9 h1 h2; exact absurd h2 (by omega)
      | succ n_6 ih_14 =>
        intro i_5 x_7 x_8 x_9 h_15 h_16 e_11 e_12 e_13  ls hl
        subst e_11
        subst e_12
        subst e_13
        refine lv_iload hx hb dX3_doubtfulAt_21 (lv_at hl 0 rfl) ?_
        refine lv_iload_n hx hb dX3_doubtfulAt_23 rfl (lv_at hl 4 rfl) ?_
        refine g_icmp_ge (P := j_2 ≤ i_5) (tgt := 50) hx hb dX3_doubtfulAt_24 (by decide) (nI_leI (by omega) (by omega)) (fun c_17 => ?_) (fun c_17 => ?_)
        · have d_17 : ¬ i_5 < j_2 := Nat.not_lt.mpr c_17
          have hN_18 : j_2 = i_5 := by omega
          subst hN_18
          refine lv_iload_n hx hb dX3_doubtfulAt_50 rfl (lv_at hl 1 rfl) ?_
          exact g_iret (v := oI ((nthS (fdF (jf 0) (jf 1) jn) (j_2)).2)) hx hb hr hlk dX3_doubtfulAt_51 (by rw [nthV_in hj_4 (by omega) ej_3])
        · have d_17 : i_5 < j_2 := Nat.not_le.mp c_17
          refine lv_iload_n hx hb dX3_doubtfulAt_27 rfl (lv_at hl 1 rfl) ?_
          refine lv_iconst (v := -1) hx hb dX3_doubtfulAt_28 gc_m1 ?_
          refine g_icmp_eq (P := (nthS (fdF (jf 0) (jf 1) jn) i_5).2 = none) (tgt := 50) hx hb dX3_doubtfulAt_29 (by decide) (oI_m1 (fun b q => by have := nthS_lt fdF_lt _ _ q; omega)) (fun c_19 => ?_) (fun c_19 => ?_)
          · refine lv_iload_n hx hb dX3_doubtfulAt_50 rfl (lv_at hl 1 rfl) ?_
            exact g_iret (v := oI ((nthS (fdF (jf 0) (jf 1) jn) i_5).2)) hx hb hr hlk dX3_doubtfulAt_51 (by rw [nthV_in hj_4 (by omega) ej_3, nthS_none c_19 j_2 (by omega)])
          · obtain ⟨b_20, eb_21⟩ := o_some c_19
            have hb_22 := nthS_lt fdF_lt _ _ eb_21
            rw [eb_21] at hl
            have hl : lv_has ls 5 [(4, .int (nI (i_5))), (3, .int (nI (b_20))), (2, .int ((nthS (fdF (jf 0) (jf 1) jn) i_5).1)), (0, .ref (J 0)), (1, .int (nI (j_2)))] := hl
            refine lv_iload_n hx hb dX3_doubtfulAt_32 rfl (lv_at hl 2 rfl) ?_
            refine lv_iconst (v := nI (1)) hx hb dX3_doubtfulAt_33 gc_1 ?_
            refine lv_iload_n hx hb dX3_doubtfulAt_34 rfl (lv_at hl 1 rfl) ?_
            refine lv_ishl hx hb dX3_doubtfulAt_35 ?_
            refine lv_ior hx hb dX3_doubtfulAt_36 ?_
            refine lv_istore_n (lv' := [(2, .int (((nthS (fdF (jf 0) (jf 1) jn) i_5).1) ||| ((nI (1)) <<< ((nI (b_20)) &&& 31)))), (4, .int (nI (i_5))), (3, .int (nI (b_20))), (0, .ref (J 0)), (1, .int (nI (j_2)))]) hx hb dX3_doubtfulAt_37 rfl hl (by decide) rfl (fun ls hl => ?_)
            refine lv_aload_n hx hb dX3_doubtfulAt_38 rfl (lv_at hl 3 rfl) ?_
            refine lv_iload_n hx hb dX3_doubtfulAt_39 rfl (lv_at hl 0 rfl) ?_
            refine rd_calle (va_runV (As := [.int (((nthS (fdF (jf 0) (jf 1) jn) i_5).1) ||| ((nI (1)) <<< ((nI (b_20)) &&& 31)))]) (rest := []) ⟨hx, hb, hml, hown, hts⟩ (c_X3_firstDoubtful l D cA J jf jn (((nthS (fdF (jf 0) (jf 1) jn) i_5).1) ||| ((nI (1)) <<< ((nI (b_20)) &&& 31))) hjn) (cwV 1 hts (gWV gm_35_1 gm_35_2 gm_35_3 gm_2_5 gm_35_4) rfl rfl rfl (by decide +kernel) ⟨Nat.le_of_ble_eq_true rfl, Nat.le_of_ble_eq_true rfl⟩) (gPreV hK (g_rf hK hP (ci := 5) (q0 := 0) rfl rfl) hP) rfl rfl hl.1 rfl (lv_room (Nat.le_of_ble_eq_true rfl)) dX3_doubtfulAt_40 ⟨by omega, by omega⟩) ?_
            refine lv_istore_n (lv' := [(3, .int (oI (fdF (jf 0) (jf 1) jn (((nthS (fdF (jf 0) (jf 1) jn) i_5).1) ||| ((nI (1)) <<< ((nI (b_20)) &&& 31)))))), (2, .int (((nthS (fdF (jf 0) (jf 1) jn) i_5).1) ||| ((nI (1)) <<< ((nI (b_20)) &&& 31)))), (4, .int (nI (i_5))), (0, .ref (J 0)), (1, .int (nI (j_2)))]) hx hb dX3_doubtfulAt_43 rfl hl (by decide) rfl (fun ls hl => ?_)
            refine lv_iinc (v := nI (i_5 + 1)) (lv' := [(4, .int (nI (i_5 + 1))), (3, .int (oI (fdF (jf 0) (jf 1) jn (((nthS (fdF (jf 0) (jf 1) jn) i_5).1) ||| ((nI (1)) <<< ((nI (b_20)) &&& 31)))))), (2, .int (((nthS (fdF (jf 0) (jf 1) jn) i_5).1) ||| ((nI (1)) <<< ((nI (b_20)) &&& 31)))), (0, .ref (J 0)), (1, .int (nI (j_2)))]) hx hb dX3_doubtfulAt_44 hl (k := 2) rfl (inc_1 _) (by decide) rfl (fun ls hl => ?_)
            refine lv_goto (tgt := 21) hx hb dX3_doubtfulAt_47 (by decide) ?_
            exact ih_14 (i_5 + 1) _ _ _ (by omega) (by omega) rfl (by rw [nthS_some eb_21]) (by rw [nthS_some eb_21])  ls (lv_sub hl [0, 1, 2, 3, 4] rfl)
    exact LP_10 (j_2 + 1) 0 _ _ _ (by omega) (by omega) rfl rfl rfl  ls (lv_sub hl [0, 1, 2, 3, 4] rfl)
  · refine lv_iconst (v := -1) hx hb dX3_doubtfulAt_8 gc_m1 ?_
    exact g_iret (v := -1) hx hb hr hlk dX3_doubtfulAt_9 (by rw [nthV_out c_1]; rfl)

set_option maxHeartbeats 1000000 in
set_option maxRecDepth 100000 in
theorem c_X0_takenOutAt (l : Launch) (D : va_G) (cA : Nat → ClassId) (K : Nat → Nat) (kf : Nat → Nat → Int32) (rw : Nat → Nat) (cn rl : Nat) (v : Int32) (hcn : cn ≤ 10) : Met l yX0_takenOutAt (gw yX0_takenOutAt cX0_takenOutAt 5 (some .int)) ({ frames := 3, cells := 0, slots := 0, locals := 65 } : Room) (gPc [.ref (K 0), .int (v)] (fun H => va_P D vwCl (kw cA K kf rw cn rl) H) D cA) (rdI (fun r => r = oI (nthV (fhF kf cn) cn v))) 0 0 nF := by
  refine gOf (by decide) (Nat.le_of_ble_eq_true rfl) ?_
  intro p e s m below meth c ls hx hb hml hr hlk hown hts hnm hP hK hl
  have hl : lv_has ls 5 [(0, .ref (K 0)), (1, .int (v))] := hl
  refine lv_aload_n hx hb dX0_takenOutAt_0 rfl (lv_at hl 0 rfl) ?_
  refine lv_iload_n hx hb dX0_takenOutAt_1 rfl (lv_at hl 1 rfl) ?_
  refine rd_calle (va_runV (As := [.int (v)]) (rest := []) ⟨hx, hb, hml, hown, hts⟩ (c_X0_has l D cA K kf rw cn rl (v) hcn) (cwV 1 hts (gWV gm_31_1 gm_11_16 gm_11_17 gm_3_0 gm_11_18) rfl rfl rfl (by decide +kernel) ⟨Nat.le_of_ble_eq_true rfl, Nat.le_of_ble_eq_true rfl⟩) (gPreV hK (g_rf hK hP (ci := 2) (q0 := 0) rfl rfl) hP) rfl rfl hl.1 rfl (lv_room (Nat.le_of_ble_eq_true rfl)) dX0_takenOutAt_2 ⟨by omega, by omega⟩) ?_
  refine g_if_ne (P := isIx (v) cn = false) (tgt := 10) hx hb dX0_takenOutAt_5 (by decide) b2i_0 (fun c_1 => ?_) (fun c_1 => ?_)
  · have c_1 : isIx (v) cn = true := eq_true_of_ne_false c_1
    obtain ⟨j_2, hj_4, ej_3⟩ := isIx_n c_1 (by omega)
    rw [ej_3] at hl
    have hl : lv_has ls 5 [(0, .ref (K 0)), (1, .int (nI (j_2)))] := hl
    refine lv_iconst (v := nI (0)) hx hb dX0_takenOutAt_10 gc_0 ?_
    refine lv_istore_n (lv' := [(2, .int (nI (0))), (0, .ref (K 0)), (1, .int (nI (j_2)))]) hx hb dX0_takenOutAt_11 rfl hl (by decide) rfl (fun ls hl => ?_)
    refine lv_aload_n hx hb dX0_takenOutAt_12 rfl (lv_at hl 1 rfl) ?_
    refine lv_iload_n hx hb dX0_takenOutAt_13 rfl (lv_at hl 0 rfl) ?_
    refine rd_calle (va_runV (As := [.int (nI (0))]) (rest := []) ⟨hx, hb, hml, hown, hts⟩ (c_X0_firstHeard l D cA K kf rw cn rl (nI (0)) hcn) (cwV 1 hts (gWV gm_31_2 gm_31_3 gm_31_4 gm_3_0 gm_31_5) rfl rfl rfl (by decide +kernel) ⟨Nat.le_of_ble_eq_true rfl, Nat.le_of_ble_eq_true rfl⟩) (gPreV hK (g_rf hK hP (ci := 2) (q0 := 0) rfl rfl) hP) rfl rfl hl.1 rfl (lv_room (Nat.le_of_ble_eq_true rfl)) dX0_takenOutAt_14 ⟨by omega, by omega⟩) ?_
    refine lv_istore_n (lv' := [(3, .int (oI (fhF kf cn (nI (0))))), (2, .int (nI (0))), (0, .ref (K 0)), (1, .int (nI (j_2)))]) hx hb dX0_takenOutAt_17 rfl hl (by decide) rfl (fun ls hl => ?_)
    refine lv_iconst (v := nI (0)) hx hb dX0_takenOutAt_18 gc_0 ?_
    refine lv_istore (lv' := [(4, .int (nI (0))), (3, .int (oI (fhF kf cn (nI (0))))), (2, .int (nI (0))), (0, .ref (K 0)), (1, .int (nI (j_2)))]) hx hb dX0_takenOutAt_19 hl (by decide) rfl (fun ls hl => ?_)
    have LP_10 : ∀ (n_6 i_5 : Nat) (x_7 x_8 x_9 : Int32), i_5 ≤ j_2 → j_2 + 1 ≤ i_5 + n_6 → x_7 = nI (i_5) → x_8 = oI ((nthS (fhF kf cn) i_5).2) → x_9 = (nthS (fhF kf cn) i_5).1 → ∀ (ls : Array Slot), lv_has ls 5 [(4, .int (x_7)), (3, .int (x_8)), (2, .int (x_9)), (0, .ref (K 0)), (1, .int (nI (j_2)))] → W p l e ({ frames := 3, cells := 0, slots := 0, locals := 65 } : Room) s m ([.ref (K 0), .int (v)] : List Value).toArray below meth c s.heap [] 0 0 (MQ below (rdI (fun r => r = oI (nthV (fhF kf cn) cn v))) ([.ref (K 0), .int (v)] : List Value).toArray s 0 0 nF) (F0 m 21 ls []) := by
      intro n_6
      induction n_6 with
      | zero => intro i_5 x_7 x_8 x_9 h1 h2; exact absurd h2 (by omega)
      | succ n_6 ih_14 =>
        intro i_5 x_7 x_8 x_9 h_15 h_16 e_11 e_12 e_13  ls hl
        subst e_11
        subst e_12
        subst e_13
        refine lv_iload hx hb dX0_takenOutAt_21 (lv_at hl 0 rfl) ?_
        refine lv_iload_n hx hb dX0_takenOutAt_23 rfl (lv_at hl 4 rfl) ?_
        refine g_icmp_ge (P := j_2 ≤ i_5) (tgt := 50) hx hb dX0_takenOutAt_24 (by decide) (nI_leI (by omega) (by omega)) (fun c_17 => ?_) (fun c_17 => ?_)
        · have d_17 : ¬ i_5 < j_2 := Nat.not_lt.mpr c_17
          have hN_18 : j_2 = i_5 := by omega
          subst hN_18
          refine lv_iload_n hx hb dX0_takenOutAt_50 rfl (lv_at hl 1 rfl) ?_
          exact g_iret (v := oI ((nthS (fhF kf cn) (j_2)).2)) hx hb hr hlk dX0_takenOutAt_51 (by rw [nthV_in hj_4 (by omega) ej_3])
        · have d_17 : i_5 < j_2 := Nat.not_le.mp c_17
          refine lv_iload_n hx hb dX0_takenOutAt_27 rfl (lv_at hl 1 rfl) ?_
          refine lv_iconst (v := -1) hx hb dX0_takenOutAt_28 gc_m1 ?_
          refine g_icmp_eq (P := (nthS (fhF kf cn) i_5).2 = none) (tgt := 50) hx hb dX0_takenOutAt_29 (by decide) (oI_m1 (fun b q => by have := nthS_lt fhF_lt _ _ q; omega)) (fun c_19 => ?_) (fun c_19 => ?_)
          · refine lv_iload_n hx hb dX0_takenOutAt_50 rfl (lv_at hl 1 rfl) ?_
            exact g_iret (v := oI ((nthS (fhF kf cn) i_5).2)) hx hb hr hlk dX0_takenOutAt_51 (by rw [nthV_in hj_4 (by omega) ej_3, nthS_none c_19 j_2 (by omega)])
          · obtain ⟨b_20, eb_21⟩ := o_some c_19
            have hb_22 := nthS_lt fhF_lt _ _ eb_21
            rw [eb_21] at hl
            have hl : lv_has ls 5 [(4, .int (nI (i_5))), (3, .int (nI (b_20))), (2, .int ((nthS (fhF kf cn) i_5).1)), (0, .ref (K 0)), (1, .int (nI (j_2)))] := hl
            refine lv_iload_n hx hb dX0_takenOutAt_32 rfl (lv_at hl 2 rfl) ?_
            refine lv_iconst (v := nI (1)) hx hb dX0_takenOutAt_33 gc_1 ?_
            refine lv_iload_n hx hb dX0_takenOutAt_34 rfl (lv_at hl 1 rfl) ?_
            refine lv_ishl hx hb dX0_takenOutAt_35 ?_
            refine lv_ior hx hb dX0_takenOutAt_36 ?_
            refine lv_istore_n (lv' := [(2, .int (((nthS (fhF kf cn) i_5).1) ||| ((nI (1)) <<< ((nI (b_20)) &&& 31)))), (4, .int (nI (i_5))), (3, .int (nI (b_20))), (0, .ref (K 0)), (1, .int (nI (j_2)))]) hx hb dX0_takenOutAt_37 rfl hl (by decide) rfl (fun ls hl => ?_)
            refine lv_aload_n hx hb dX0_takenOutAt_38 rfl (lv_at hl 3 rfl) ?_
            refine lv_iload_n hx hb dX0_takenOutAt_39 rfl (lv_at hl 0 rfl) ?_
            refine rd_calle (va_runV (As := [.int (((nthS (fhF kf cn) i_5).1) ||| ((nI (1)) <<< ((nI (b_20)) &&& 31)))]) (rest := []) ⟨hx, hb, hml, hown, hts⟩ (c_X0_firstHeard l D cA K kf rw cn rl (((nthS (fhF kf cn) i_5).1) ||| ((nI (1)) <<< ((nI (b_20)) &&& 31))) hcn) (cwV 1 hts (gWV gm_31_2 gm_31_3 gm_31_4 gm_3_0 gm_31_5) rfl rfl rfl (by decide +kernel) ⟨Nat.le_of_ble_eq_true rfl, Nat.le_of_ble_eq_true rfl⟩) (gPreV hK (g_rf hK hP (ci := 2) (q0 := 0) rfl rfl) hP) rfl rfl hl.1 rfl (lv_room (Nat.le_of_ble_eq_true rfl)) dX0_takenOutAt_40 ⟨by omega, by omega⟩) ?_
            refine lv_istore_n (lv' := [(3, .int (oI (fhF kf cn (((nthS (fhF kf cn) i_5).1) ||| ((nI (1)) <<< ((nI (b_20)) &&& 31)))))), (2, .int (((nthS (fhF kf cn) i_5).1) ||| ((nI (1)) <<< ((nI (b_20)) &&& 31)))), (4, .int (nI (i_5))), (0, .ref (K 0)), (1, .int (nI (j_2)))]) hx hb dX0_takenOutAt_43 rfl hl (by decide) rfl (fun ls hl => ?_)
            refine lv_iinc (v := nI (i_5 + 1)) (lv' := [(4, .int (nI (i_5 + 1))), (3, .int (oI (fhF kf cn (((nthS (fhF kf cn) i_5).1) ||| ((nI (1)) <<< ((nI (b_20)) &&& 31)))))), (2, .int (((nthS (fhF kf cn) i_5).1) ||| ((nI (1)) <<< ((nI (b_20)) &&& 31)))), (0, .ref (K 0)), (1, .int (nI (j_2)))]) hx hb dX0_takenOutAt_44 hl (k := 2) rfl (inc_1 _) (by decide) rfl (fun ls hl => ?_)
            refine lv_goto (tgt := 21) hx hb dX0_takenOutAt_47 (by decide) ?_
            exact ih_14 (i_5 + 1) _ _ _ (by omega) (by omega) rfl (by rw [nthS_some eb_21]) (by rw [nthS_some eb_21])  ls (lv_sub hl [0, 1, 2, 3, 4] rfl)
    exact LP_10 (j_2 + 1) 0 _ _ _ (by omega) (by omega) rfl rfl rfl  ls (lv_sub hl [0, 1, 2, 3, 4] rfl)
  · refine lv_iconst (v := -1) hx hb dX0_takenOutAt_8 gc_m1 ?_
    exact g_iret (v := -1) hx hb hr hlk dX0_takenOutAt_9 (by rw [nthV_out c_1]; rfl)

def ldF (k : Nat → Nat → Int32) (cn j : Nat) : Nat := fb_ct (fun c => !clF k c && hs (k 2 c) j) cn
theorem ldF_le (k : Nat → Nat → Int32) (cn j : Nat) : ldF k cn j ≤ cn := fb_ct_le _ _
def cdF (k : Nat → Nat → Int32) (cn : Nat) (but : Int32) (j : Nat) : Bool := !hs but j && decide (ldF k cn j < 3)
def cwF (k : Nat → Nat → Int32) (cn jn : Nat) (but : Int32) : Nat := fb_ct (cdF k cn but) jn
def fcl (k : Nat → Nat → Int32) (cn : Nat) (but : Int32) (j : Nat) : Nat := if hs but j = true then 3 else ldF k cn j
def fcS (d : Nat → Int32) (k : Nat → Nat → Int32) (cn : Nat) (but : Int32) : Nat → Option Nat × Nat
  | 0 => (none, 3)
  | n + 1 => if fcl k cn but n < (fcS d k cn but n).2 then (some n, fcl k cn but n)
    else if fcl k cn but n = (fcS d k cn but n).2 then (match (fcS d k cn but n).1 with
      | none => fcS d k cn but n
      | some b => if d b ≤ d n then fcS d k cn but n else (some n, fcl k cn but n))
    else fcS d k cn but n
theorem fcS_win {d : Nat → Int32} {k : Nat → Nat → Int32} {cn n : Nat} {but : Int32} (h : fcl k cn but n < (fcS d k cn but n).2) : fcS d k cn but (n + 1) = (some n, fcl k cn but n) := by rw [fcS, if_pos h]
theorem fcS_keep1 {d : Nat → Int32} {k : Nat → Nat → Int32} {cn n : Nat} {but : Int32} (h : ¬ fcl k cn but n < (fcS d k cn but n).2) (h2 : ¬ fcl k cn but n = (fcS d k cn but n).2) : fcS d k cn but (n + 1) = fcS d k cn but n := by rw [fcS, if_neg h, if_neg h2]
theorem fcS_none {d : Nat → Int32} {k : Nat → Nat → Int32} {cn n : Nat} {but : Int32} (h2 : fcl k cn but n = (fcS d k cn but n).2) (h3 : (fcS d k cn but n).1 = none) : fcS d k cn but (n + 1) = fcS d k cn but n := by rw [fcS, if_neg (by omega), if_pos h2, h3]
theorem fcS_keep {d : Nat → Int32} {k : Nat → Nat → Int32} {cn n b : Nat} {but : Int32} (h2 : fcl k cn but n = (fcS d k cn but n).2) (h3 : (fcS d k cn but n).1 = some b) (h4 : d b ≤ d n) : fcS d k cn but (n + 1) = fcS d k cn but n := by rw [fcS, if_neg (by omega), if_pos h2, h3]; exact if_pos h4
theorem fcS_twin {d : Nat → Int32} {k : Nat → Nat → Int32} {cn n b : Nat} {but : Int32} (h2 : fcl k cn but n = (fcS d k cn but n).2) (h3 : (fcS d k cn but n).1 = some b) (h4 : ¬ d b ≤ d n) : fcS d k cn but (n + 1) = (some n, fcl k cn but n) := by rw [fcS, if_neg (by omega), if_pos h2, h3]; exact if_neg h4
theorem fcS_le (d : Nat → Int32) (k : Nat → Nat → Int32) (cn : Nat) (but : Int32) : ∀ n, (fcS d k cn but n).2 ≤ 3
  | 0 => Nat.le_refl 3
  | n + 1 => by
    have h := fcS_le d k cn but n
    unfold fcS
    split
    · show fcl k cn but n ≤ 3; omega
    · split
      · split
        · exact h
        · split
          · exact h
          · show fcl k cn but n ≤ 3; omega
      · exact h
theorem fcS_lt (d : Nat → Int32) (k : Nat → Nat → Int32) (cn : Nat) (but : Int32) : ∀ n b, (fcS d k cn but n).1 = some b → b < n
  | 0, b, h => by cases h
  | n + 1, b, h => by
    have ih := fcS_lt d k cn but n
    unfold fcS at h
    split at h
    · cases h; omega
    · split at h
      · split at h
        · have := ih b h; omega
        · split at h
          · have := ih b h; omega
          · cases h; omega
      · have := ih b h; omega
theorem fcl_le (k : Nat → Nat → Int32) (cn : Nat) (but : Int32) (j : Nat) (h : cn ≤ 10) : fcl k cn but j ≤ 10 := by
  unfold fcl
  split
  · omega
  · have := ldF_le k cn j; omega
def fcF (d : Nat → Int32) (k : Nat → Nat → Int32) (jn cn : Nat) (but : Int32) : Option Nat := (fcS d k cn but jn).1
theorem fcF_lt {d : Nat → Int32} {k : Nat → Nat → Int32} {jn cn : Nat} (but : Int32) (b : Nat) (h : fcF d k jn cn but = some b) : b < jn := fcS_lt d k cn but jn b h
def tkF (k : Nat → Nat → Int32) (rw : Nat → Nat) (rl clk ton q : Nat) : Option Nat := match fnd (fun j => decide (rw j = q)) rl with
  | none => none
  | some j => if clk < 1 then none else if 99 < ton + 1 + j / clk then none else some (ton + 1 + j / clk)

set_option maxHeartbeats 1000000 in
set_option maxRecDepth 100000 in
theorem c_X1_loadOf (l : Launch) (D : va_G) (cA : Nat → ClassId) (A : Nat → Nat) (jf : Nat → Nat → Int32) (jn : Nat) (kf : Nat → Nat → Int32) (rw : Nat → Nat) (cn rl clk ton : Nat) (sd : Int32) (j : Nat) (hcn : cn ≤ 10) : Met l yX1_loadOf (gw yX1_loadOf cX1_loadOf 4 (some .int)) ({ frames := 1, cells := 0, slots := 0, locals := 21 } : Room) (gPc [.ref (A 0), .int (nI (j))] (fun H => va_P D vwCl (cw cA A jf jn kf rw cn rl clk ton sd) H) D cA) (rdI (fun r => r = nI (ldF kf cn j))) 0 0 nF := by
  refine gOf (by decide) (Nat.le_of_ble_eq_true rfl) ?_
  intro p e s m below meth c ls hx hb hml hr hlk hown hts hnm hP hK hl
  have hl : lv_has ls 4 [(0, .ref (A 0)), (1, .int (nI (j)))] := hl
  refine lv_iconst (v := nI (0)) hx hb dX1_loadOf_0 gc_0 ?_
  refine lv_istore_n (lv' := [(2, .int (nI (0))), (0, .ref (A 0)), (1, .int (nI (j)))]) hx hb dX1_loadOf_1 rfl hl (by decide) rfl (fun ls hl => ?_)
  refine lv_iconst (v := nI (0)) hx hb dX1_loadOf_2 gc_0 ?_
  refine lv_istore_n (lv' := [(3, .int (nI (0))), (2, .int (nI (0))), (0, .ref (A 0)), (1, .int (nI (j)))]) hx hb dX1_loadOf_3 rfl hl (by decide) rfl (fun ls hl => ?_)
  have LP_5 : ∀ (n_2 i_1 : Nat) (x_3 x_4 : Int32), i_1 ≤ cn → cn + 1 ≤ i_1 + n_2 → x_3 = nI (i_1) → x_4 = nI (fb_ct (fun c => !clF kf c && hs (kf 2 c) j) i_1) → ∀ (ls : Array Slot), lv_has ls 4 [(3, .int (x_3)), (2, .int (x_4)), (0, .ref (A 0)), (1, .int (nI (j)))] → W p l e ({ frames := 1, cells := 0, slots := 0, locals := 21 } : Room) s m ([.ref (A 0), .int (nI (j))] : List Value).toArray below meth c s.heap [] 0 0 (MQ below (rdI (fun r => r = nI (ldF kf cn j))) ([.ref (A 0), .int (nI (j))] : List Value).toArray s 0 0 nF) (F0 m 4 ls []) := by
    intro n_2
    induction n_2 with
    | zero => intro i_1 x_3 x_4 h1 h2; exact absurd h2 (by omega)
    | succ n_2 ih_8 =>
      intro i_1 x_3 x_4 h_9 h_10 e_6 e_7  ls hl
      subst e_6
      subst e_7
      refine lv_iload_n hx hb dX1_loadOf_4 rfl (lv_at hl 0 rfl) ?_
      refine lv_aload_n hx hb dX1_loadOf_5 rfl (lv_at hl 2 rfl) ?_
      refine g_get (v := .ref (A 6)) hx hb hts hown hK hP 0 rfl rfl gu_wsX10 1 (by decide) gm_3_1 rfl dX1_loadOf_6 ?_
      refine g_get (v := .int (nI (cn))) hx hb hts hown hK hP 6 rfl rfl gu_wsX00 9 (by decide) gm_12_14 rfl dX1_loadOf_9 ?_
      refine g_icmp_ge (P := cn ≤ i_1) (tgt := 51) hx hb dX1_loadOf_12 (by decide) (nI_leI (by omega) (by omega)) (fun c_11 => ?_) (fun c_11 => ?_)
      · have d_11 : ¬ i_1 < cn := Nat.not_lt.mpr c_11
        have hN_12 : cn = i_1 := by omega
        subst hN_12
        refine lv_iload_n hx hb dX1_loadOf_51 rfl (lv_at hl 1 rfl) ?_
        exact g_iret (v := nI (fb_ct (fun c => !clF kf c && hs (kf 2 c) j) (cn))) hx hb hr hlk dX1_loadOf_52 (rfl)
      · have d_11 : i_1 < cn := Nat.not_le.mp c_11
        refine lv_aload_n hx hb dX1_loadOf_15 rfl (lv_at hl 2 rfl) ?_
        refine g_get (v := .ref (A 6)) hx hb hts hown hK hP 0 rfl rfl gu_wsX10 1 (by decide) gm_3_1 rfl dX1_loadOf_16 ?_
        refine lv_iload_n hx hb dX1_loadOf_19 rfl (lv_at hl 0 rfl) ?_
        refine rd_calle (va_runV (As := [.int (nI (i_1))]) (rest := []) ⟨hx, hb, hml, hown, hts⟩ (c_X0_isClosed l D cA (fun k => A (k + 6)) kf rw cn rl (i_1) (by omega)) (cwV 1 hts (gWV gm_12_16 gm_12_17 gm_12_18 gm_3_0 gm_12_19) rfl rfl rfl (by decide +kernel) ⟨Nat.le_of_ble_eq_true rfl, Nat.le_of_ble_eq_true rfl⟩) (gPreV hK (g_rf hK hP (ci := 2) (q0 := 6) rfl rfl) (hP.sub [6, 7, 8, 9, 10, 11, 12, 13, 14, 15] rfl)) rfl rfl hl.1 rfl (lv_room (Nat.le_of_ble_eq_true rfl)) dX1_loadOf_20 ⟨by omega, by omega⟩) ?_
        refine g_if_ne (P := clF kf (i_1) = false) (tgt := 45) hx hb dX1_loadOf_23 (by decide) b2i_0 (fun c_13 => ?_) (fun c_13 => ?_)
        · have c_13 : clF kf (i_1) = true := eq_true_of_ne_false c_13
          refine lv_iinc (v := nI (i_1 + 1)) (lv' := [(3, .int (nI (i_1 + 1))), (2, .int (nI (fb_ct (fun c => !clF kf c && hs (kf 2 c) j) i_1))), (0, .ref (A 0)), (1, .int (nI (j)))]) hx hb dX1_loadOf_45 hl (k := 0) rfl (inc_1 _) (by decide) rfl (fun ls hl => ?_)
          refine lv_goto (tgt := 4) hx hb dX1_loadOf_48 (by decide) ?_
          exact ih_8 (i_1 + 1) _ _ (by omega) (by omega) rfl (by simp [fb_ct_succ, c_11, d_11, c_13])  ls (lv_sub hl [0, 1, 2, 3] rfl)
        · refine lv_aload_n hx hb dX1_loadOf_26 rfl (lv_at hl 2 rfl) ?_
          refine g_get (v := .ref (A 6)) hx hb hts hown hK hP 0 rfl rfl gu_wsX10 1 (by decide) gm_3_1 rfl dX1_loadOf_27 ?_
          refine g_get (v := .ref (A 9)) hx hb hts hown hK hP 6 rfl rfl gu_wsX00 2 (by decide) gm_12_15 rfl dX1_loadOf_30 ?_
          refine lv_iload_n hx hb dX1_loadOf_33 rfl (lv_at hl 0 rfl) ?_
          refine g_iald (x := kf 2 (i_1)) hx hb hK hP 9 rfl (by omega) (by decide) rfl dX1_loadOf_34 ?_
          refine lv_iload_n hx hb dX1_loadOf_35 rfl (lv_at hl 3 rfl) ?_
          refine rd_calle (va_runSN (As := [.int (kf 2 (i_1)), .int (nI (j))]) (rest := []) ⟨hx, hb, hml, hown, hts⟩ (c_X7_isIn l D cA (kf 2 (i_1)) (j)) ⟨(va_cnB 2 hts (gWN gm_12_9) rfl rfl rfl (hK.2 _ (List.mem_of_getElem? (i := 8) rfl)) (hts _ (List.mem_cons_of_mem _ gm_1_2)) (by decide +kernel) ⟨Nat.le_of_ble_eq_true rfl, Nat.le_of_ble_eq_true rfl⟩), hts _ (List.mem_cons_of_mem _ gm_12_8), trivial⟩ (gPreS hK trivial) rfl rfl hl.1 rfl (lv_room (Nat.le_of_ble_eq_true rfl)) dX1_loadOf_36 ⟨by omega, by omega⟩) ?_
          refine g_if_eq (P := hs (kf 2 (i_1)) (j) = false) (tgt := 45) hx hb dX1_loadOf_39 (by decide) b2i_0 (fun c_14 => ?_) (fun c_14 => ?_)
          · refine lv_iinc (v := nI (i_1 + 1)) (lv' := [(3, .int (nI (i_1 + 1))), (2, .int (nI (fb_ct (fun c => !clF kf c && hs (kf 2 c) j) i_1))), (0, .ref (A 0)), (1, .int (nI (j)))]) hx hb dX1_loadOf_45 hl (k := 0) rfl (inc_1 _) (by decide) rfl (fun ls hl => ?_)
            refine lv_goto (tgt := 4) hx hb dX1_loadOf_48 (by decide) ?_
            exact ih_8 (i_1 + 1) _ _ (by omega) (by omega) rfl (by simp [fb_ct_succ, c_11, d_11, c_13, c_14])  ls (lv_sub hl [0, 1, 2, 3] rfl)
          · have c_14 : hs (kf 2 (i_1)) (j) = true := eq_true_of_ne_false c_14
            refine lv_iinc (v := nI (fb_ct (fun c => !clF kf c && hs (kf 2 c) j) i_1 + 1)) (lv' := [(2, .int (nI (fb_ct (fun c => !clF kf c && hs (kf 2 c) j) i_1 + 1))), (3, .int (nI (i_1))), (0, .ref (A 0)), (1, .int (nI (j)))]) hx hb dX1_loadOf_42 hl (k := 1) rfl (inc_1 _) (by decide) rfl (fun ls hl => ?_)
            refine lv_iinc (v := nI (i_1 + 1)) (lv' := [(3, .int (nI (i_1 + 1))), (2, .int (nI (fb_ct (fun c => !clF kf c && hs (kf 2 c) j) i_1 + 1))), (0, .ref (A 0)), (1, .int (nI (j)))]) hx hb dX1_loadOf_45 hl (k := 1) rfl (inc_1 _) (by decide) rfl (fun ls hl => ?_)
            refine lv_goto (tgt := 4) hx hb dX1_loadOf_48 (by decide) ?_
            exact ih_8 (i_1 + 1) _ _ (by omega) (by omega) rfl (by simp [fb_ct_succ, c_11, d_11, c_13, c_14])  ls (lv_sub hl [0, 1, 2, 3] rfl)
  exact LP_5 (cn + 1) 0 _ _ (by omega) (by omega) rfl rfl  ls (lv_sub hl [0, 1, 2, 3] rfl)

set_option maxHeartbeats 1000000 in
set_option maxRecDepth 100000 in
theorem c_X1_callableWithout (l : Launch) (D : va_G) (cA : Nat → ClassId) (A : Nat → Nat) (jf : Nat → Nat → Int32) (jn : Nat) (kf : Nat → Nat → Int32) (rw : Nat → Nat) (cn rl clk ton : Nat) (sd : Int32) (but : Int32) (hjn : jn ≤ 9) (hcn : cn ≤ 10) : Met l yX1_callableWithout (gw yX1_callableWithout cX1_callableWithout 4 (some .int)) ({ frames := 2, cells := 0, slots := 0, locals := 44 } : Room) (gPc [.ref (A 0), .int (but)] (fun H => va_P D vwCl (cw cA A jf jn kf rw cn rl clk ton sd) H) D cA) (rdI (fun r => r = nI (cwF kf cn jn but))) 0 0 nF := by
  refine gOf (by decide) (Nat.le_of_ble_eq_true rfl) ?_
  intro p e s m below meth c ls hx hb hml hr hlk hown hts hnm hP hK hl
  have hl : lv_has ls 4 [(0, .ref (A 0)), (1, .int (but))] := hl
  refine lv_iconst (v := nI (0)) hx hb dX1_callableWithout_0 gc_0 ?_
  refine lv_istore_n (lv' := [(2, .int (nI (0))), (0, .ref (A 0)), (1, .int (but))]) hx hb dX1_callableWithout_1 rfl hl (by decide) rfl (fun ls hl => ?_)
  refine lv_iconst (v := nI (0)) hx hb dX1_callableWithout_2 gc_0 ?_
  refine lv_istore_n (lv' := [(3, .int (nI (0))), (2, .int (nI (0))), (0, .ref (A 0)), (1, .int (but))]) hx hb dX1_callableWithout_3 rfl hl (by decide) rfl (fun ls hl => ?_)
  have LP_5 : ∀ (n_2 i_1 : Nat) (x_3 x_4 : Int32), i_1 ≤ jn → jn + 1 ≤ i_1 + n_2 → x_3 = nI (i_1) → x_4 = nI (fb_ct (cdF kf cn but) i_1) → ∀ (ls : Array Slot), lv_has ls 4 [(3, .int (x_3)), (2, .int (x_4)), (0, .ref (A 0)), (1, .int (but))] → W p l e ({ frames := 2, cells := 0, slots := 0, locals := 44 } : Room) s m ([.ref (A 0), .int (but)] : List Value).toArray below meth c s.heap [] 0 0 (MQ below (rdI (fun r => r = nI (cwF kf cn jn but))) ([.ref (A 0), .int (but)] : List Value).toArray s 0 0 nF) (F0 m 4 ls []) := by
    intro n_2
    induction n_2 with
    | zero => intro i_1 x_3 x_4 h1 h2; exact absurd h2 (by omega)
    | succ n_2 ih_8 =>
      intro i_1 x_3 x_4 h_9 h_10 e_6 e_7  ls hl
      subst e_6
      subst e_7
      refine lv_iload_n hx hb dX1_callableWithout_4 rfl (lv_at hl 0 rfl) ?_
      refine lv_aload_n hx hb dX1_callableWithout_5 rfl (lv_at hl 2 rfl) ?_
      refine g_get (v := .ref (A 1)) hx hb hts hown hK hP 0 rfl rfl gu_wsX10 0 (by decide) gm_2_21 rfl dX1_callableWithout_6 ?_
      refine g_get (v := .int (nI (jn))) hx hb hts hown hK hP 1 rfl rfl gu_wsX30 4 (by decide) gm_13_0 rfl dX1_callableWithout_9 ?_
      refine g_icmp_ge (P := jn ≤ i_1) (tgt := 46) hx hb dX1_callableWithout_12 (by decide) (nI_leI (by omega) (by omega)) (fun c_11 => ?_) (fun c_11 => ?_)
      · have d_11 : ¬ i_1 < jn := Nat.not_lt.mpr c_11
        have hN_12 : jn = i_1 := by omega
        subst hN_12
        refine lv_iload_n hx hb dX1_callableWithout_46 rfl (lv_at hl 1 rfl) ?_
        exact g_iret (v := nI (fb_ct (cdF kf cn but) (jn))) hx hb hr hlk dX1_callableWithout_47 (rfl)
      · have d_11 : i_1 < jn := Nat.not_le.mp c_11
        refine lv_iload_n hx hb dX1_callableWithout_15 rfl (lv_at hl 1 rfl) ?_
        refine lv_iload_n hx hb dX1_callableWithout_16 rfl (lv_at hl 3 rfl) ?_
        refine lv_iload_n hx hb dX1_callableWithout_17 rfl (lv_at hl 0 rfl) ?_
        refine rd_calle (va_runSN (As := [.int (but), .int (nI (i_1))]) (rest := [.int (nI (fb_ct (cdF kf cn but) i_1))]) ⟨hx, hb, hml, hown, hts⟩ (c_X7_isIn l D cA (but) (i_1)) ⟨(va_cnB 2 hts (gWN gm_12_9) rfl rfl rfl (hK.2 _ (List.mem_of_getElem? (i := 8) rfl)) (hts _ (List.mem_cons_of_mem _ gm_1_2)) (by decide +kernel) ⟨Nat.le_of_ble_eq_true rfl, Nat.le_of_ble_eq_true rfl⟩), hts _ (List.mem_cons_of_mem _ gm_12_8), trivial⟩ (gPreS hK trivial) rfl rfl hl.1 rfl (lv_room (Nat.le_of_ble_eq_true rfl)) dX1_callableWithout_18 ⟨by omega, by omega⟩) ?_
        refine g_if_ne (P := hs (but) (i_1) = false) (tgt := 37) hx hb dX1_callableWithout_21 (by decide) b2i_0 (fun c_13 => ?_) (fun c_13 => ?_)
        · have c_13 : hs (but) (i_1) = true := eq_true_of_ne_false c_13
          refine lv_iconst (v := nI (0)) hx hb dX1_callableWithout_37 gc_0 ?_
          refine g_iadd hx hb dX1_callableWithout_38 ?_
          refine lv_istore_n (lv' := [(2, .int (nI ((fb_ct (cdF kf cn but) i_1) + (0)))), (3, .int (nI (i_1))), (0, .ref (A 0)), (1, .int (but))]) hx hb dX1_callableWithout_39 rfl hl (by decide) rfl (fun ls hl => ?_)
          refine lv_iinc (v := nI (i_1 + 1)) (lv' := [(3, .int (nI (i_1 + 1))), (2, .int (nI ((fb_ct (cdF kf cn but) i_1) + (0)))), (0, .ref (A 0)), (1, .int (but))]) hx hb dX1_callableWithout_40 hl (k := 1) rfl (inc_1 _) (by decide) rfl (fun ls hl => ?_)
          refine lv_goto (tgt := 4) hx hb dX1_callableWithout_43 (by decide) ?_
          exact ih_8 (i_1 + 1) _ _ (by omega) (by omega) rfl (by simp [fb_ct_succ, cdF, c_11, d_11, c_13] <;> omega)  ls (lv_sub hl [0, 1, 2, 3] rfl)
        · refine lv_aload_n hx hb dX1_callableWithout_24 rfl (lv_at hl 2 rfl) ?_
          refine lv_iload_n hx hb dX1_callableWithout_25 rfl (lv_at hl 0 rfl) ?_
          refine rd_calle (va_runV (As := [.int (nI (i_1))]) (rest := [.int (nI (fb_ct (cdF kf cn but) i_1))]) ⟨hx, hb, hml, hown, hts⟩ (c_X1_loadOf l D cA A jf jn kf rw cn rl clk ton sd (i_1) hcn) (cwV 1 hts (gWV gm_13_1 gm_12_11 gm_12_12 gm_1_16 gm_12_13) rfl rfl rfl (by decide +kernel) ⟨Nat.le_of_ble_eq_true rfl, Nat.le_of_ble_eq_true rfl⟩) (gPreV hK (g_rf hK hP (ci := 3) (q0 := 0) rfl rfl) hP) rfl rfl hl.1 rfl (lv_room (Nat.le_of_ble_eq_true rfl)) dX1_callableWithout_26 ⟨by omega, by omega⟩) ?_
          refine lv_iconst (v := nI (3)) hx hb dX1_callableWithout_29 gc_3 ?_
          have hle_14 := ldF_le kf cn (i_1)
          refine g_icmp_ge (P := 3 ≤ ldF kf cn (i_1)) (tgt := 37) hx hb dX1_callableWithout_30 (by decide) (nI_leI (by omega) (by omega)) (fun c_15 => ?_) (fun c_15 => ?_)
          · have d_15 : ¬ ldF kf cn (i_1) < 3 := Nat.not_lt.mpr c_15
            refine lv_iconst (v := nI (0)) hx hb dX1_callableWithout_37 gc_0 ?_
            refine g_iadd hx hb dX1_callableWithout_38 ?_
            refine lv_istore_n (lv' := [(2, .int (nI ((fb_ct (cdF kf cn but) i_1) + (0)))), (3, .int (nI (i_1))), (0, .ref (A 0)), (1, .int (but))]) hx hb dX1_callableWithout_39 rfl hl (by decide) rfl (fun ls hl => ?_)
            refine lv_iinc (v := nI (i_1 + 1)) (lv' := [(3, .int (nI (i_1 + 1))), (2, .int (nI ((fb_ct (cdF kf cn but) i_1) + (0)))), (0, .ref (A 0)), (1, .int (but))]) hx hb dX1_callableWithout_40 hl (k := 1) rfl (inc_1 _) (by decide) rfl (fun ls hl => ?_)
            refine lv_goto (tgt := 4) hx hb dX1_callableWithout_43 (by decide) ?_
            exact ih_8 (i_1 + 1) _ _ (by omega) (by omega) rfl (by simp [fb_ct_succ, cdF, c_11, d_11, c_13, c_15, d_15] <;> omega)  ls (lv_sub hl [0, 1, 2, 3] rfl)
          · have d_15 : ldF kf cn (i_1) < 3 := Nat.not_le.mp c_15
            refine lv_iconst (v := nI (1)) hx hb dX1_callableWithout_33 gc_1 ?_
            refine lv_goto (tgt := 38) hx hb dX1_callableWithout_34 (by decide) ?_
            refine g_iadd hx hb dX1_callableWithout_38 ?_
            refine lv_istore_n (lv' := [(2, .int (nI ((fb_ct (cdF kf cn but) i_1) + (1)))), (3, .int (nI (i_1))), (0, .ref (A 0)), (1, .int (but))]) hx hb dX1_callableWithout_39 rfl hl (by decide) rfl (fun ls hl => ?_)
            refine lv_iinc (v := nI (i_1 + 1)) (lv' := [(3, .int (nI (i_1 + 1))), (2, .int (nI ((fb_ct (cdF kf cn but) i_1) + (1)))), (0, .ref (A 0)), (1, .int (but))]) hx hb dX1_callableWithout_40 hl (k := 1) rfl (inc_1 _) (by decide) rfl (fun ls hl => ?_)
            refine lv_goto (tgt := 4) hx hb dX1_callableWithout_43 (by decide) ?_
            exact ih_8 (i_1 + 1) _ _ (by omega) (by omega) rfl (by simp [fb_ct_succ, cdF, c_11, d_11, c_13, c_15, d_15] <;> omega)  ls (lv_sub hl [0, 1, 2, 3] rfl)
  exact LP_5 (jn + 1) 0 _ _ (by omega) (by omega) rfl rfl  ls (lv_sub hl [0, 1, 2, 3] rfl)

set_option maxHeartbeats 1000000 in
set_option maxRecDepth 100000 in
theorem c_X1_firstCallable (l : Launch) (D : va_G) (cA : Nat → ClassId) (A : Nat → Nat) (jf : Nat → Nat → Int32) (jn : Nat) (kf : Nat → Nat → Int32) (rw : Nat → Nat) (cn rl clk ton : Nat) (sd : Int32) (but : Int32) (hjn : jn ≤ 9) (hcn : cn ≤ 10) : Met l yX1_firstCallable (gw yX1_firstCallable cX1_firstCallable 7 (some .int)) ({ frames := 2, cells := 0, slots := 0, locals := 44 } : Room) (gPc [.ref (A 0), .int (but)] (fun H => va_P D vwCl (cw cA A jf jn kf rw cn rl clk ton sd) H) D cA) (rdI (fun r => r = oI (fcF (jf 1) kf jn cn but))) 0 0 nF := by
  refine gOf (by decide) (Nat.le_of_ble_eq_true rfl) ?_
  intro p e s m below meth c ls hx hb hml hr hlk hown hts hnm hP hK hl
  have hl : lv_has ls 7 [(0, .ref (A 0)), (1, .int (but))] := hl
  refine lv_iconst (v := -1) hx hb dX1_firstCallable_0 gc_m1 ?_
  refine lv_istore_n (lv' := [(2, .int (-1)), (0, .ref (A 0)), (1, .int (but))]) hx hb dX1_firstCallable_1 rfl hl (by decide) rfl (fun ls hl => ?_)
  refine lv_iconst (v := nI (3)) hx hb dX1_firstCallable_2 gc_3 ?_
  refine lv_istore_n (lv' := [(3, .int (nI (3))), (2, .int (-1)), (0, .ref (A 0)), (1, .int (but))]) hx hb dX1_firstCallable_3 rfl hl (by decide) rfl (fun ls hl => ?_)
  refine lv_iconst (v := nI (0)) hx hb dX1_firstCallable_4 gc_0 ?_
  refine lv_istore (lv' := [(4, .int (nI (0))), (3, .int (nI (3))), (2, .int (-1)), (0, .ref (A 0)), (1, .int (but))]) hx hb dX1_firstCallable_5 hl (by decide) rfl (fun ls hl => ?_)
  have LP_6 : ∀ (n_2 i_1 : Nat) (x_3 x_4 x_5 : Int32), i_1 ≤ jn → jn + 1 ≤ i_1 + n_2 → x_3 = nI (i_1) → x_4 = nI ((fcS (jf 1) kf cn but i_1).2) → x_5 = oI ((fcS (jf 1) kf cn but i_1).1) → ∀ (ls : Array Slot), lv_has ls 7 [(4, .int (x_3)), (3, .int (x_4)), (2, .int (x_5)), (0, .ref (A 0)), (1, .int (but))] → W p l e ({ frames := 2, cells := 0, slots := 0, locals := 44 } : Room) s m ([.ref (A 0), .int (but)] : List Value).toArray below meth c s.heap [] 0 0 (MQ below (rdI (fun r => r = oI (fcF (jf 1) kf jn cn but))) ([.ref (A 0), .int (but)] : List Value).toArray s 0 0 nF) (F0 m 7 ls []) := by
    intro n_2
    induction n_2 with
    | zero => intro i_1 x_3 x_4 x_5 h1 h2; exact absurd h2 (by omega)
    | succ n_2 ih_10 =>
      intro i_1 x_3 x_4 x_5 h_11 h_12 e_7 e_8 e_9  ls hl
      subst e_7
      subst e_8
      subst e_9
      refine lv_iload hx hb dX1_firstCallable_7 (lv_at hl 0 rfl) ?_
      refine lv_aload_n hx hb dX1_firstCallable_9 rfl (lv_at hl 3 rfl) ?_
      refine g_get (v := .ref (A 1)) hx hb hts hown hK hP 0 rfl rfl gu_wsX10 0 (by decide) gm_2_21 rfl dX1_firstCallable_10 ?_
      refine g_get (v := .int (nI (jn))) hx hb hts hown hK hP 1 rfl rfl gu_wsX30 4 (by decide) gm_13_0 rfl dX1_firstCallable_13 ?_
      refine g_icmp_ge (P := jn ≤ i_1) (tgt := 103) hx hb dX1_firstCallable_16 (by decide) (nI_leI (by omega) (by omega)) (fun c_13 => ?_) (fun c_13 => ?_)
      · have d_13 : ¬ i_1 < jn := Nat.not_lt.mpr c_13
        have hN_14 : jn = i_1 := by omega
        subst hN_14
        refine lv_iload_n hx hb dX1_firstCallable_103 rfl (lv_at hl 2 rfl) ?_
        exact g_iret (v := oI ((fcS (jf 1) kf cn but (jn)).1)) hx hb hr hlk dX1_firstCallable_104 (rfl)
      · have d_13 : i_1 < jn := Nat.not_le.mp c_13
        refine lv_iload_n hx hb dX1_firstCallable_19 rfl (lv_at hl 4 rfl) ?_
        refine lv_iload hx hb dX1_firstCallable_20 (lv_at hl 0 rfl) ?_
        refine rd_calle (va_runSN (As := [.int (but), .int (nI (i_1))]) (rest := []) ⟨hx, hb, hml, hown, hts⟩ (c_X7_isIn l D cA (but) (i_1)) ⟨(va_cnB 2 hts (gWN gm_12_9) rfl rfl rfl (hK.2 _ (List.mem_of_getElem? (i := 8) rfl)) (hts _ (List.mem_cons_of_mem _ gm_1_2)) (by decide +kernel) ⟨Nat.le_of_ble_eq_true rfl, Nat.le_of_ble_eq_true rfl⟩), hts _ (List.mem_cons_of_mem _ gm_12_8), trivial⟩ (gPreS hK trivial) rfl rfl hl.1 rfl (lv_room (Nat.le_of_ble_eq_true rfl)) dX1_firstCallable_22 ⟨by omega, by omega⟩) ?_
        refine g_if_eq (P := hs (but) (i_1) = false) (tgt := 32) hx hb dX1_firstCallable_25 (by decide) b2i_0 (fun c_15 => ?_) (fun c_15 => ?_)
        · refine lv_aload_n hx hb dX1_firstCallable_32 rfl (lv_at hl 3 rfl) ?_
          refine lv_iload hx hb dX1_firstCallable_33 (lv_at hl 0 rfl) ?_
          refine rd_calle (va_runV (As := [.int (nI (i_1))]) (rest := []) ⟨hx, hb, hml, hown, hts⟩ (c_X1_loadOf l D cA A jf jn kf rw cn rl clk ton sd (i_1) hcn) (cwV 1 hts (gWV gm_13_1 gm_12_11 gm_12_12 gm_1_16 gm_12_13) rfl rfl rfl (by decide +kernel) ⟨Nat.le_of_ble_eq_true rfl, Nat.le_of_ble_eq_true rfl⟩) (gPreV hK (g_rf hK hP (ci := 3) (q0 := 0) rfl rfl) hP) rfl rfl hl.1 rfl (lv_room (Nat.le_of_ble_eq_true rfl)) dX1_firstCallable_35 ⟨by omega, by omega⟩) ?_
          refine g_top (z := nI (fcl kf cn but (i_1))) (by simp [fcl, c_13, d_13, c_15]) ?_
          have hle_16 := fcl_le kf cn but (i_1) hcn
          have hle_17 := fcS_le (jf 1) kf cn but (i_1)
          refine lv_istore (lv' := [(5, .int (nI (fcl kf cn but (i_1)))), (4, .int (nI (i_1))), (3, .int (nI ((fcS (jf 1) kf cn but i_1).2))), (2, .int (oI ((fcS (jf 1) kf cn but i_1).1))), (0, .ref (A 0)), (1, .int (but))]) hx hb dX1_firstCallable_38 hl (by decide) rfl (fun ls hl => ?_)
          refine lv_iload hx hb dX1_firstCallable_40 (lv_at hl 0 rfl) ?_
          refine lv_iload_n hx hb dX1_firstCallable_42 rfl (lv_at hl 2 rfl) ?_
          refine g_icmp_ne (P := fcl kf cn but (i_1) = (fcS (jf 1) kf cn but i_1).2) (tgt := 77) hx hb dX1_firstCallable_43 (by decide) (nI_eq (by omega) (by omega)) (fun c_18 => ?_) (fun c_18 => ?_)
          · refine lv_iconst (v := nI (0)) hx hb dX1_firstCallable_77 gc_0 ?_
            refine lv_istore (lv' := [(6, .int (nI (0))), (5, .int (nI (fcl kf cn but (i_1)))), (4, .int (nI (i_1))), (3, .int (nI ((fcS (jf 1) kf cn but i_1).2))), (2, .int (oI ((fcS (jf 1) kf cn but i_1).1))), (0, .ref (A 0)), (1, .int (but))]) hx hb dX1_firstCallable_78 hl (by decide) rfl (fun ls hl => ?_)
            refine lv_iload hx hb dX1_firstCallable_80 (lv_at hl 1 rfl) ?_
            refine lv_iload_n hx hb dX1_firstCallable_82 rfl (lv_at hl 3 rfl) ?_
            refine g_icmp_lt (P := fcl kf cn but (i_1) < (fcS (jf 1) kf cn but i_1).2) (tgt := 91) hx hb dX1_firstCallable_83 (by decide) (nI_ltI (by omega) (by omega)) (fun c_19 => ?_) (fun c_19 => ?_)
            · have d_19 : ¬ (fcS (jf 1) kf cn but i_1).2 ≤ fcl kf cn but (i_1) := Nat.not_le.mpr c_19
              refine lv_iload hx hb dX1_firstCallable_91 (lv_at hl 2 rfl) ?_
              refine lv_istore_n (lv' := [(2, .int (nI (i_1))), (6, .int (nI (0))), (5, .int (nI (fcl kf cn but (i_1)))), (4, .int (nI (i_1))), (3, .int (nI ((fcS (jf 1) kf cn but i_1).2))), (0, .ref (A 0)), (1, .int (but))]) hx hb dX1_firstCallable_93 rfl hl (by decide) rfl (fun ls hl => ?_)
              refine lv_iload hx hb dX1_firstCallable_94 (lv_at hl 2 rfl) ?_
              refine lv_istore_n (lv' := [(3, .int (nI (fcl kf cn but (i_1)))), (2, .int (nI (i_1))), (6, .int (nI (0))), (5, .int (nI (fcl kf cn but (i_1)))), (4, .int (nI (i_1))), (0, .ref (A 0)), (1, .int (but))]) hx hb dX1_firstCallable_96 rfl hl (by decide) rfl (fun ls hl => ?_)
              refine lv_iinc (v := nI (i_1 + 1)) (lv' := [(4, .int (nI (i_1 + 1))), (3, .int (nI (fcl kf cn but (i_1)))), (2, .int (nI (i_1))), (6, .int (nI (0))), (5, .int (nI (fcl kf cn but (i_1)))), (0, .ref (A 0)), (1, .int (but))]) hx hb dX1_firstCallable_97 hl (k := 4) rfl (inc_1 _) (by decide) rfl (fun ls hl => ?_)
              refine lv_goto (tgt := 7) hx hb dX1_firstCallable_100 (by decide) ?_
              exact ih_10 (i_1 + 1) _ _ _ (by omega) (by omega) rfl (by rw [fcS_win c_19] <;> rfl) (by rw [fcS_win c_19] <;> rfl)  ls (lv_sub hl [0, 1, 2, 5, 6] rfl)
            · have d_19 : (fcS (jf 1) kf cn but i_1).2 ≤ fcl kf cn but (i_1) := Nat.not_lt.mp c_19
              refine lv_iload hx hb dX1_firstCallable_86 (lv_at hl 0 rfl) ?_
              refine g_if_eq (P := 0 = 0) (tgt := 97) hx hb dX1_firstCallable_88 (by decide) (nI_z (by omega)) (fun c_20 => ?_) (fun c_20 => ?_)
              · refine lv_iinc (v := nI (i_1 + 1)) (lv' := [(4, .int (nI (i_1 + 1))), (6, .int (nI (0))), (5, .int (nI (fcl kf cn but (i_1)))), (3, .int (nI ((fcS (jf 1) kf cn but i_1).2))), (2, .int (oI ((fcS (jf 1) kf cn but i_1).1))), (0, .ref (A 0)), (1, .int (but))]) hx hb dX1_firstCallable_97 hl (k := 2) rfl (inc_1 _) (by decide) rfl (fun ls hl => ?_)
                refine lv_goto (tgt := 7) hx hb dX1_firstCallable_100 (by decide) ?_
                exact ih_10 (i_1 + 1) _ _ _ (by omega) (by omega) rfl (by rw [fcS_keep1 c_19 c_18]) (by rw [fcS_keep1 c_19 c_18])  ls (lv_sub hl [0, 3, 4, 5, 6] rfl)
              · exact absurd c_20 (by decide)
          · refine lv_iload_n hx hb dX1_firstCallable_46 rfl (lv_at hl 3 rfl) ?_
            refine lv_iconst (v := -1) hx hb dX1_firstCallable_47 gc_m1 ?_
            refine g_icmp_eq (P := (fcS (jf 1) kf cn but i_1).1 = none) (tgt := 77) hx hb dX1_firstCallable_48 (by decide) (oI_m1 (fun b q => by have := fcS_lt _ _ _ _ _ _ q; omega)) (fun c_21 => ?_) (fun c_21 => ?_)
            · refine lv_iconst (v := nI (0)) hx hb dX1_firstCallable_77 gc_0 ?_
              refine lv_istore (lv' := [(6, .int (nI (0))), (5, .int (nI (fcl kf cn but (i_1)))), (4, .int (nI (i_1))), (3, .int (nI ((fcS (jf 1) kf cn but i_1).2))), (2, .int (oI ((fcS (jf 1) kf cn but i_1).1))), (0, .ref (A 0)), (1, .int (but))]) hx hb dX1_firstCallable_78 hl (by decide) rfl (fun ls hl => ?_)
              refine lv_iload hx hb dX1_firstCallable_80 (lv_at hl 1 rfl) ?_
              refine lv_iload_n hx hb dX1_firstCallable_82 rfl (lv_at hl 3 rfl) ?_
              refine g_icmp_lt (P := fcl kf cn but (i_1) < (fcS (jf 1) kf cn but i_1).2) (tgt := 91) hx hb dX1_firstCallable_83 (by decide) (nI_ltI (by omega) (by omega)) (fun c_22 => ?_) (fun c_22 => ?_)
              · have d_22 : ¬ (fcS (jf 1) kf cn but i_1).2 ≤ fcl kf cn but (i_1) := Nat.not_le.mpr c_22
                refine lv_iload hx hb dX1_firstCallable_91 (lv_at hl 2 rfl) ?_
                refine lv_istore_n (lv' := [(2, .int (nI (i_1))), (6, .int (nI (0))), (5, .int (nI (fcl kf cn but (i_1)))), (4, .int (nI (i_1))), (3, .int (nI ((fcS (jf 1) kf cn but i_1).2))), (0, .ref (A 0)), (1, .int (but))]) hx hb dX1_firstCallable_93 rfl hl (by decide) rfl (fun ls hl => ?_)
                refine lv_iload hx hb dX1_firstCallable_94 (lv_at hl 2 rfl) ?_
                refine lv_istore_n (lv' := [(3, .int (nI (fcl kf cn but (i_1)))), (2, .int (nI (i_1))), (6, .int (nI (0))), (5, .int (nI (fcl kf cn but (i_1)))), (4, .int (nI (i_1))), (0, .ref (A 0)), (1, .int (but))]) hx hb dX1_firstCallable_96 rfl hl (by decide) rfl (fun ls hl => ?_)
                refine lv_iinc (v := nI (i_1 + 1)) (lv' := [(4, .int (nI (i_1 + 1))), (3, .int (nI (fcl kf cn but (i_1)))), (2, .int (nI (i_1))), (6, .int (nI (0))), (5, .int (nI (fcl kf cn but (i_1)))), (0, .ref (A 0)), (1, .int (but))]) hx hb dX1_firstCallable_97 hl (k := 4) rfl (inc_1 _) (by decide) rfl (fun ls hl => ?_)
                refine lv_goto (tgt := 7) hx hb dX1_firstCallable_100 (by decide) ?_
                exact ih_10 (i_1 + 1) _ _ _ (by omega) (by omega) rfl (by exfalso; omega) (by exfalso; omega)  ls (lv_sub hl [0, 1, 2, 5, 6] rfl)
              · have d_22 : (fcS (jf 1) kf cn but i_1).2 ≤ fcl kf cn but (i_1) := Nat.not_lt.mp c_22
                refine lv_iload hx hb dX1_firstCallable_86 (lv_at hl 0 rfl) ?_
                refine g_if_eq (P := 0 = 0) (tgt := 97) hx hb dX1_firstCallable_88 (by decide) (nI_z (by omega)) (fun c_23 => ?_) (fun c_23 => ?_)
                · refine lv_iinc (v := nI (i_1 + 1)) (lv' := [(4, .int (nI (i_1 + 1))), (6, .int (nI (0))), (5, .int (nI (fcl kf cn but (i_1)))), (3, .int (nI ((fcS (jf 1) kf cn but i_1).2))), (2, .int (oI ((fcS (jf 1) kf cn but i_1).1))), (0, .ref (A 0)), (1, .int (but))]) hx hb dX1_firstCallable_97 hl (k := 2) rfl (inc_1 _) (by decide) rfl (fun ls hl => ?_)
                  refine lv_goto (tgt := 7) hx hb dX1_firstCallable_100 (by decide) ?_
                  exact ih_10 (i_1 + 1) _ _ _ (by omega) (by omega) rfl (by rw [fcS_none c_18 c_21]) (by rw [fcS_none c_18 c_21])  ls (lv_sub hl [0, 3, 4, 5, 6] rfl)
                · exact absurd c_23 (by decide)
            · obtain ⟨b_24, eb_25⟩ := o_some c_21
              have hb_26 := fcS_lt _ _ _ _ _ _ eb_25
              rw [eb_25] at hl
              have hl : lv_has ls 7 [(5, .int (nI (fcl kf cn but (i_1)))), (4, .int (nI (i_1))), (3, .int (nI ((fcS (jf 1) kf cn but i_1).2))), (2, .int (nI (b_24))), (0, .ref (A 0)), (1, .int (but))] := hl
              refine lv_aload_n hx hb dX1_firstCallable_51 rfl (lv_at hl 4 rfl) ?_
              refine g_get (v := .ref (A 1)) hx hb hts hown hK hP 0 rfl rfl gu_wsX10 0 (by decide) gm_2_21 rfl dX1_firstCallable_52 ?_
              refine g_get (v := .ref (A 3)) hx hb hts hown hK hP 1 rfl rfl gu_wsX30 1 (by decide) gm_13_10 rfl dX1_firstCallable_55 ?_
              refine lv_iload hx hb dX1_firstCallable_58 (lv_at hl 1 rfl) ?_
              refine g_iald (x := jf 1 (i_1)) hx hb hK hP 3 rfl (by omega) (by decide) rfl dX1_firstCallable_60 ?_
              refine lv_aload_n hx hb dX1_firstCallable_61 rfl (lv_at hl 4 rfl) ?_
              refine g_get (v := .ref (A 1)) hx hb hts hown hK hP 0 rfl rfl gu_wsX10 0 (by decide) gm_2_21 rfl dX1_firstCallable_62 ?_
              refine g_get (v := .ref (A 3)) hx hb hts hown hK hP 1 rfl rfl gu_wsX30 1 (by decide) gm_13_10 rfl dX1_firstCallable_65 ?_
              refine lv_iload_n hx hb dX1_firstCallable_68 rfl (lv_at hl 3 rfl) ?_
              refine g_iald (x := jf 1 (b_24)) hx hb hK hP 3 rfl (by omega) (by decide) rfl dX1_firstCallable_69 ?_
              refine g_icmp_ge (P := jf 1 (b_24) ≤ jf 1 (i_1)) (tgt := 77) hx hb dX1_firstCallable_70 (by decide) Iff.rfl (fun c_27 => ?_) (fun c_27 => ?_)
              · have d_27 : ¬ jf 1 (i_1) < jf 1 (b_24) := Int32.not_lt.mpr c_27
                refine lv_iconst (v := nI (0)) hx hb dX1_firstCallable_77 gc_0 ?_
                refine lv_istore (lv' := [(6, .int (nI (0))), (5, .int (nI (fcl kf cn but (i_1)))), (4, .int (nI (i_1))), (3, .int (nI ((fcS (jf 1) kf cn but i_1).2))), (2, .int (nI (b_24))), (0, .ref (A 0)), (1, .int (but))]) hx hb dX1_firstCallable_78 hl (by decide) rfl (fun ls hl => ?_)
                refine lv_iload hx hb dX1_firstCallable_80 (lv_at hl 1 rfl) ?_
                refine lv_iload_n hx hb dX1_firstCallable_82 rfl (lv_at hl 3 rfl) ?_
                refine g_icmp_lt (P := fcl kf cn but (i_1) < (fcS (jf 1) kf cn but i_1).2) (tgt := 91) hx hb dX1_firstCallable_83 (by decide) (nI_ltI (by omega) (by omega)) (fun c_28 => ?_) (fun c_28 => ?_)
                · have d_28 : ¬ (fcS (jf 1) kf cn but i_1).2 ≤ fcl kf cn but (i_1) := Nat.not_le.mpr c_28
                  refine lv_iload hx hb dX1_firstCallable_91 (lv_at hl 2 rfl) ?_
                  refine lv_istore_n (lv' := [(2, .int (nI (i_1))), (6, .int (nI (0))), (5, .int (nI (fcl kf cn but (i_1)))), (4, .int (nI (i_1))), (3, .int (nI ((fcS (jf 1) kf cn but i_1).2))), (0, .ref (A 0)), (1, .int (but))]) hx hb dX1_firstCallable_93 rfl hl (by decide) rfl (fun ls hl => ?_)
                  refine lv_iload hx hb dX1_firstCallable_94 (lv_at hl 2 rfl) ?_
                  refine lv_istore_n (lv' := [(3, .int (nI (fcl kf cn but (i_1)))), (2, .int (nI (i_1))), (6, .int (nI (0))), (5, .int (nI (fcl kf cn but (i_1)))), (4, .int (nI (i_1))), (0, .ref (A 0)), (1, .int (but))]) hx hb dX1_firstCallable_96 rfl hl (by decide) rfl (fun ls hl => ?_)
                  refine lv_iinc (v := nI (i_1 + 1)) (lv' := [(4, .int (nI (i_1 + 1))), (3, .int (nI (fcl kf cn but (i_1)))), (2, .int (nI (i_1))), (6, .int (nI (0))), (5, .int (nI (fcl kf cn but (i_1)))), (0, .ref (A 0)), (1, .int (but))]) hx hb dX1_firstCallable_97 hl (k := 4) rfl (inc_1 _) (by decide) rfl (fun ls hl => ?_)
                  refine lv_goto (tgt := 7) hx hb dX1_firstCallable_100 (by decide) ?_
                  exact ih_10 (i_1 + 1) _ _ _ (by omega) (by omega) rfl (by exfalso; omega) (by exfalso; omega)  ls (lv_sub hl [0, 1, 2, 5, 6] rfl)
                · have d_28 : (fcS (jf 1) kf cn but i_1).2 ≤ fcl kf cn but (i_1) := Nat.not_lt.mp c_28
                  refine lv_iload hx hb dX1_firstCallable_86 (lv_at hl 0 rfl) ?_
                  refine g_if_eq (P := 0 = 0) (tgt := 97) hx hb dX1_firstCallable_88 (by decide) (nI_z (by omega)) (fun c_29 => ?_) (fun c_29 => ?_)
                  · refine lv_iinc (v := nI (i_1 + 1)) (lv' := [(4, .int (nI (i_1 + 1))), (6, .int (nI (0))), (5, .int (nI (fcl kf cn but (i_1)))), (3, .int (nI ((fcS (jf 1) kf cn but i_1).2))), (2, .int (nI (b_24))), (0, .ref (A 0)), (1, .int (but))]) hx hb dX1_firstCallable_97 hl (k := 2) rfl (inc_1 _) (by decide) rfl (fun ls hl => ?_)
                    refine lv_goto (tgt := 7) hx hb dX1_firstCallable_100 (by decide) ?_
                    exact ih_10 (i_1 + 1) _ _ _ (by omega) (by omega) rfl (by rw [fcS_keep c_18 eb_25 c_27]) (by rw [fcS_keep c_18 eb_25 c_27]; rw [eb_25]; rfl)  ls (lv_sub hl [0, 3, 4, 5, 6] rfl)
                  · exact absurd c_29 (by decide)
              · have d_27 : jf 1 (i_1) < jf 1 (b_24) := Int32.not_le.mp c_27
                refine lv_iconst (v := nI (1)) hx hb dX1_firstCallable_73 gc_1 ?_
                refine lv_goto (tgt := 78) hx hb dX1_firstCallable_74 (by decide) ?_
                refine lv_istore (lv' := [(6, .int (nI (1))), (5, .int (nI (fcl kf cn but (i_1)))), (4, .int (nI (i_1))), (3, .int (nI ((fcS (jf 1) kf cn but i_1).2))), (2, .int (nI (b_24))), (0, .ref (A 0)), (1, .int (but))]) hx hb dX1_firstCallable_78 hl (by decide) rfl (fun ls hl => ?_)
                refine lv_iload hx hb dX1_firstCallable_80 (lv_at hl 1 rfl) ?_
                refine lv_iload_n hx hb dX1_firstCallable_82 rfl (lv_at hl 3 rfl) ?_
                refine g_icmp_lt (P := fcl kf cn but (i_1) < (fcS (jf 1) kf cn but i_1).2) (tgt := 91) hx hb dX1_firstCallable_83 (by decide) (nI_ltI (by omega) (by omega)) (fun c_30 => ?_) (fun c_30 => ?_)
                · have d_30 : ¬ (fcS (jf 1) kf cn but i_1).2 ≤ fcl kf cn but (i_1) := Nat.not_le.mpr c_30
                  refine lv_iload hx hb dX1_firstCallable_91 (lv_at hl 2 rfl) ?_
                  refine lv_istore_n (lv' := [(2, .int (nI (i_1))), (6, .int (nI (1))), (5, .int (nI (fcl kf cn but (i_1)))), (4, .int (nI (i_1))), (3, .int (nI ((fcS (jf 1) kf cn but i_1).2))), (0, .ref (A 0)), (1, .int (but))]) hx hb dX1_firstCallable_93 rfl hl (by decide) rfl (fun ls hl => ?_)
                  refine lv_iload hx hb dX1_firstCallable_94 (lv_at hl 2 rfl) ?_
                  refine lv_istore_n (lv' := [(3, .int (nI (fcl kf cn but (i_1)))), (2, .int (nI (i_1))), (6, .int (nI (1))), (5, .int (nI (fcl kf cn but (i_1)))), (4, .int (nI (i_1))), (0, .ref (A 0)), (1, .int (but))]) hx hb dX1_firstCallable_96 rfl hl (by decide) rfl (fun ls hl => ?_)
                  refine lv_iinc (v := nI (i_1 + 1)) (lv' := [(4, .int (nI (i_1 + 1))), (3, .int (nI (fcl kf cn but (i_1)))), (2, .int (nI (i_1))), (6, .int (nI (1))), (5, .int (nI (fcl kf cn but (i_1)))), (0, .ref (A 0)), (1, .int (but))]) hx hb dX1_firstCallable_97 hl (k := 4) rfl (inc_1 _) (by decide) rfl (fun ls hl => ?_)
                  refine lv_goto (tgt := 7) hx hb dX1_firstCallable_100 (by decide) ?_
                  exact ih_10 (i_1 + 1) _ _ _ (by omega) (by omega) rfl (by exfalso; omega) (by exfalso; omega)  ls (lv_sub hl [0, 1, 2, 5, 6] rfl)
                · have d_30 : (fcS (jf 1) kf cn but i_1).2 ≤ fcl kf cn but (i_1) := Nat.not_lt.mp c_30
                  refine lv_iload hx hb dX1_firstCallable_86 (lv_at hl 0 rfl) ?_
                  refine g_if_eq (P := 1 = 0) (tgt := 97) hx hb dX1_firstCallable_88 (by decide) (nI_z (by omega)) (fun c_31 => ?_) (fun c_31 => ?_)
                  · exact absurd c_31 (by decide)
                  · refine lv_iload hx hb dX1_firstCallable_91 (lv_at hl 2 rfl) ?_
                    refine lv_istore_n (lv' := [(2, .int (nI (i_1))), (6, .int (nI (1))), (5, .int (nI (fcl kf cn but (i_1)))), (4, .int (nI (i_1))), (3, .int (nI ((fcS (jf 1) kf cn but i_1).2))), (0, .ref (A 0)), (1, .int (but))]) hx hb dX1_firstCallable_93 rfl hl (by decide) rfl (fun ls hl => ?_)
                    refine lv_iload hx hb dX1_firstCallable_94 (lv_at hl 2 rfl) ?_
                    refine lv_istore_n (lv' := [(3, .int (nI (fcl kf cn but (i_1)))), (2, .int (nI (i_1))), (6, .int (nI (1))), (5, .int (nI (fcl kf cn but (i_1)))), (4, .int (nI (i_1))), (0, .ref (A 0)), (1, .int (but))]) hx hb dX1_firstCallable_96 rfl hl (by decide) rfl (fun ls hl => ?_)
                    refine lv_iinc (v := nI (i_1 + 1)) (lv' := [(4, .int (nI (i_1 + 1))), (3, .int (nI (fcl kf cn but (i_1)))), (2, .int (nI (i_1))), (6, .int (nI (1))), (5, .int (nI (fcl kf cn but (i_1)))), (0, .ref (A 0)), (1, .int (but))]) hx hb dX1_firstCallable_97 hl (k := 4) rfl (inc_1 _) (by decide) rfl (fun ls hl => ?_)
                    refine lv_goto (tgt := 7) hx hb dX1_firstCallable_100 (by decide) ?_
                    exact ih_10 (i_1 + 1) _ _ _ (by omega) (by omega) rfl (by rw [fcS_twin c_18 eb_25 c_27] <;> rfl) (by rw [fcS_twin c_18 eb_25 c_27] <;> rfl)  ls (lv_sub hl [0, 1, 2, 5, 6] rfl)
        · have c_15 : hs (but) (i_1) = true := eq_true_of_ne_false c_15
          refine lv_iconst (v := nI (3)) hx hb dX1_firstCallable_28 gc_3 ?_
          refine lv_goto (tgt := 38) hx hb dX1_firstCallable_29 (by decide) ?_
          refine g_top (z := nI (fcl kf cn but (i_1))) (by simp [fcl, c_13, d_13, c_15]) ?_
          have hle_32 := fcl_le kf cn but (i_1) hcn
          have hle_33 := fcS_le (jf 1) kf cn but (i_1)
          refine lv_istore (lv' := [(5, .int (nI (fcl kf cn but (i_1)))), (4, .int (nI (i_1))), (3, .int (nI ((fcS (jf 1) kf cn but i_1).2))), (2, .int (oI ((fcS (jf 1) kf cn but i_1).1))), (0, .ref (A 0)), (1, .int (but))]) hx hb dX1_firstCallable_38 hl (by decide) rfl (fun ls hl => ?_)
          refine lv_iload hx hb dX1_firstCallable_40 (lv_at hl 0 rfl) ?_
          refine lv_iload_n hx hb dX1_firstCallable_42 rfl (lv_at hl 2 rfl) ?_
          refine g_icmp_ne (P := fcl kf cn but (i_1) = (fcS (jf 1) kf cn but i_1).2) (tgt := 77) hx hb dX1_firstCallable_43 (by decide) (nI_eq (by omega) (by omega)) (fun c_34 => ?_) (fun c_34 => ?_)
          · refine lv_iconst (v := nI (0)) hx hb dX1_firstCallable_77 gc_0 ?_
            refine lv_istore (lv' := [(6, .int (nI (0))), (5, .int (nI (fcl kf cn but (i_1)))), (4, .int (nI (i_1))), (3, .int (nI ((fcS (jf 1) kf cn but i_1).2))), (2, .int (oI ((fcS (jf 1) kf cn but i_1).1))), (0, .ref (A 0)), (1, .int (but))]) hx hb dX1_firstCallable_78 hl (by decide) rfl (fun ls hl => ?_)
            refine lv_iload hx hb dX1_firstCallable_80 (lv_at hl 1 rfl) ?_
            refine lv_iload_n hx hb dX1_firstCallable_82 rfl (lv_at hl 3 rfl) ?_
            refine g_icmp_lt (P := fcl kf cn but (i_1) < (fcS (jf 1) kf cn but i_1).2) (tgt := 91) hx hb dX1_firstCallable_83 (by decide) (nI_ltI (by omega) (by omega)) (fun c_35 => ?_) (fun c_35 => ?_)
            · have d_35 : ¬ (fcS (jf 1) kf cn but i_1).2 ≤ fcl kf cn but (i_1) := Nat.not_le.mpr c_35
              refine lv_iload hx hb dX1_firstCallable_91 (lv_at hl 2 rfl) ?_
              refine lv_istore_n (lv' := [(2, .int (nI (i_1))), (6, .int (nI (0))), (5, .int (nI (fcl kf cn but (i_1)))), (4, .int (nI (i_1))), (3, .int (nI ((fcS (jf 1) kf cn but i_1).2))), (0, .ref (A 0)), (1, .int (but))]) hx hb dX1_firstCallable_93 rfl hl (by decide) rfl (fun ls hl => ?_)
              refine lv_iload hx hb dX1_firstCallable_94 (lv_at hl 2 rfl) ?_
              refine lv_istore_n (lv' := [(3, .int (nI (fcl kf cn but (i_1)))), (2, .int (nI (i_1))), (6, .int (nI (0))), (5, .int (nI (fcl kf cn but (i_1)))), (4, .int (nI (i_1))), (0, .ref (A 0)), (1, .int (but))]) hx hb dX1_firstCallable_96 rfl hl (by decide) rfl (fun ls hl => ?_)
              refine lv_iinc (v := nI (i_1 + 1)) (lv' := [(4, .int (nI (i_1 + 1))), (3, .int (nI (fcl kf cn but (i_1)))), (2, .int (nI (i_1))), (6, .int (nI (0))), (5, .int (nI (fcl kf cn but (i_1)))), (0, .ref (A 0)), (1, .int (but))]) hx hb dX1_firstCallable_97 hl (k := 4) rfl (inc_1 _) (by decide) rfl (fun ls hl => ?_)
              refine lv_goto (tgt := 7) hx hb dX1_firstCallable_100 (by decide) ?_
              exact ih_10 (i_1 + 1) _ _ _ (by omega) (by omega) rfl (by rw [fcS_win c_35] <;> rfl) (by rw [fcS_win c_35] <;> rfl)  ls (lv_sub hl [0, 1, 2, 5, 6] rfl)
            · have d_35 : (fcS (jf 1) kf cn but i_1).2 ≤ fcl kf cn but (i_1) := Nat.not_lt.mp c_35
              refine lv_iload hx hb dX1_firstCallable_86 (lv_at hl 0 rfl) ?_
              refine g_if_eq (P := 0 = 0) (tgt := 97) hx hb dX1_firstCallable_88 (by decide) (nI_z (by omega)) (fun c_36 => ?_) (fun c_36 => ?_)
              · refine lv_iinc (v := nI (i_1 + 1)) (lv' := [(4, .int (nI (i_1 + 1))), (6, .int (nI (0))), (5, .int (nI (fcl kf cn but (i_1)))), (3, .int (nI ((fcS (jf 1) kf cn but i_1).2))), (2, .int (oI ((fcS (jf 1) kf cn but i_1).1))), (0, .ref (A 0)), (1, .int (but))]) hx hb dX1_firstCallable_97 hl (k := 2) rfl (inc_1 _) (by decide) rfl (fun ls hl => ?_)
                refine lv_goto (tgt := 7) hx hb dX1_firstCallable_100 (by decide) ?_
                exact ih_10 (i_1 + 1) _ _ _ (by omega) (by omega) rfl (by rw [fcS_keep1 c_35 c_34]) (by rw [fcS_keep1 c_35 c_34])  ls (lv_sub hl [0, 3, 4, 5, 6] rfl)
              · exact absurd c_36 (by decide)
          · refine lv_iload_n hx hb dX1_firstCallable_46 rfl (lv_at hl 3 rfl) ?_
            refine lv_iconst (v := -1) hx hb dX1_firstCallable_47 gc_m1 ?_
            refine g_icmp_eq (P := (fcS (jf 1) kf cn but i_1).1 = none) (tgt := 77) hx hb dX1_firstCallable_48 (by decide) (oI_m1 (fun b q => by have := fcS_lt _ _ _ _ _ _ q; omega)) (fun c_37 => ?_) (fun c_37 => ?_)
            · refine lv_iconst (v := nI (0)) hx hb dX1_firstCallable_77 gc_0 ?_
              refine lv_istore (lv' := [(6, .int (nI (0))), (5, .int (nI (fcl kf cn but (i_1)))), (4, .int (nI (i_1))), (3, .int (nI ((fcS (jf 1) kf cn but i_1).2))), (2, .int (oI ((fcS (jf 1) kf cn but i_1).1))), (0, .ref (A 0)), (1, .int (but))]) hx hb dX1_firstCallable_78 hl (by decide) rfl (fun ls hl => ?_)
              refine lv_iload hx hb dX1_firstCallable_80 (lv_at hl 1 rfl) ?_
              refine lv_iload_n hx hb dX1_firstCallable_82 rfl (lv_at hl 3 rfl) ?_
              refine g_icmp_lt (P := fcl kf cn but (i_1) < (fcS (jf 1) kf cn but i_1).2) (tgt := 91) hx hb dX1_firstCallable_83 (by decide) (nI_ltI (by omega) (by omega)) (fun c_38 => ?_) (fun c_38 => ?_)
              · have d_38 : ¬ (fcS (jf 1) kf cn but i_1).2 ≤ fcl kf cn but (i_1) := Nat.not_le.mpr c_38
                refine lv_iload hx hb dX1_firstCallable_91 (lv_at hl 2 rfl) ?_
                refine lv_istore_n (lv' := [(2, .int (nI (i_1))), (6, .int (nI (0))), (5, .int (nI (fcl kf cn but (i_1)))), (4, .int (nI (i_1))), (3, .int (nI ((fcS (jf 1) kf cn but i_1).2))), (0, .ref (A 0)), (1, .int (but))]) hx hb dX1_firstCallable_93 rfl hl (by decide) rfl (fun ls hl => ?_)
                refine lv_iload hx hb dX1_firstCallable_94 (lv_at hl 2 rfl) ?_
                refine lv_istore_n (lv' := [(3, .int (nI (fcl kf cn but (i_1)))), (2, .int (nI (i_1))), (6, .int (nI (0))), (5, .int (nI (fcl kf cn but (i_1)))), (4, .int (nI (i_1))), (0, .ref (A 0)), (1, .int (but))]) hx hb dX1_firstCallable_96 rfl hl (by decide) rfl (fun ls hl => ?_)
                refine lv_iinc (v := nI (i_1 + 1)) (lv' := [(4, .int (nI (i_1 + 1))), (3, .int (nI (fcl kf cn but (i_1)))), (2, .int (nI (i_1))), (6, .int (nI (0))), (5, .int (nI (fcl kf cn but (i_1)))), (0, .ref (A 0)), (1, .int (but))]) hx hb dX1_firstCallable_97 hl (k := 4) rfl (inc_1 _) (by decide) rfl (fun ls hl => ?_)
                refine lv_goto (tgt := 7) hx hb dX1_firstCallable_100 (by decide) ?_
                exact ih_10 (i_1 + 1) _ _ _ (by omega) (by omega) rfl (by exfalso; omega) (by exfalso; omega)  ls (lv_sub hl [0, 1, 2, 5, 6] rfl)
              · have d_38 : (fcS (jf 1) kf cn but i_1).2 ≤ fcl kf cn but (i_1) := Nat.not_lt.mp c_38
                refine lv_iload hx hb dX1_firstCallable_86 (lv_at hl 0 rfl) ?_
                refine g_if_eq (P := 0 = 0) (tgt := 97) hx hb dX1_firstCallable_88 (by decide) (nI_z (by omega)) (fun c_39 => ?_) (fun c_39 => ?_)
                · refine lv_iinc (v := nI (i_1 + 1)) (lv' := [(4, .int (nI (i_1 + 1))), (6, .int (nI (0))), (5, .int (nI (fcl kf cn but (i_1)))), (3, .int (nI ((fcS (jf 1) kf cn but i_1).2))), (2, .int (oI ((fcS (jf 1) kf cn but i_1).1))), (0, .ref (A 0)), (1, .int (but))]) hx hb dX1_firstCallable_97 hl (k := 2) rfl (inc_1 _) (by decide) rfl (fun ls hl => ?_)
                  refine lv_goto (tgt := 7) hx hb dX1_firstCallable_100 (by decide) ?_
                  exact ih_10 (i_1 + 1) _ _ _ (by omega) (by omega) rfl (by rw [fcS_none c_34 c_37]) (by rw [fcS_none c_34 c_37])  ls (lv_sub hl [0, 3, 4, 5, 6] rfl)
                · exact absurd c_39 (by decide)
            · obtain ⟨b_40, eb_41⟩ := o_some c_37
              have hb_42 := fcS_lt _ _ _ _ _ _ eb_41
              rw [eb_41] at hl
              have hl : lv_has ls 7 [(5, .int (nI (fcl kf cn but (i_1)))), (4, .int (nI (i_1))), (3, .int (nI ((fcS (jf 1) kf cn but i_1).2))), (2, .int (nI (b_40))), (0, .ref (A 0)), (1, .int (but))] := hl
              refine lv_aload_n hx hb dX1_firstCallable_51 rfl (lv_at hl 4 rfl) ?_
              refine g_get (v := .ref (A 1)) hx hb hts hown hK hP 0 rfl rfl gu_wsX10 0 (by decide) gm_2_21 rfl dX1_firstCallable_52 ?_
              refine g_get (v := .ref (A 3)) hx hb hts hown hK hP 1 rfl rfl gu_wsX30 1 (by decide) gm_13_10 rfl dX1_firstCallable_55 ?_
              refine lv_iload hx hb dX1_firstCallable_58 (lv_at hl 1 rfl) ?_
              refine g_iald (x := jf 1 (i_1)) hx hb hK hP 3 rfl (by omega) (by decide) rfl dX1_firstCallable_60 ?_
              refine lv_aload_n hx hb dX1_firstCallable_61 rfl (lv_at hl 4 rfl) ?_
              refine g_get (v := .ref (A 1)) hx hb hts hown hK hP 0 rfl rfl gu_wsX10 0 (by decide) gm_2_21 rfl dX1_firstCallable_62 ?_
              refine g_get (v := .ref (A 3)) hx hb hts hown hK hP 1 rfl rfl gu_wsX30 1 (by decide) gm_13_10 rfl dX1_firstCallable_65 ?_
              refine lv_iload_n hx hb dX1_firstCallable_68 rfl (lv_at hl 3 rfl) ?_
              refine g_iald (x := jf 1 (b_40)) hx hb hK hP 3 rfl (by omega) (by decide) rfl dX1_firstCallable_69 ?_
              refine g_icmp_ge (P := jf 1 (b_40) ≤ jf 1 (i_1)) (tgt := 77) hx hb dX1_firstCallable_70 (by decide) Iff.rfl (fun c_43 => ?_) (fun c_43 => ?_)
              · have d_43 : ¬ jf 1 (i_1) < jf 1 (b_40) := Int32.not_lt.mpr c_43
                refine lv_iconst (v := nI (0)) hx hb dX1_firstCallable_77 gc_0 ?_
                refine lv_istore (lv' := [(6, .int (nI (0))), (5, .int (nI (fcl kf cn but (i_1)))), (4, .int (nI (i_1))), (3, .int (nI ((fcS (jf 1) kf cn but i_1).2))), (2, .int (nI (b_40))), (0, .ref (A 0)), (1, .int (but))]) hx hb dX1_firstCallable_78 hl (by decide) rfl (fun ls hl => ?_)
                refine lv_iload hx hb dX1_firstCallable_80 (lv_at hl 1 rfl) ?_
                refine lv_iload_n hx hb dX1_firstCallable_82 rfl (lv_at hl 3 rfl) ?_
                refine g_icmp_lt (P := fcl kf cn but (i_1) < (fcS (jf 1) kf cn but i_1).2) (tgt := 91) hx hb dX1_firstCallable_83 (by decide) (nI_ltI (by omega) (by omega)) (fun c_44 => ?_) (fun c_44 => ?_)
                · have d_44 : ¬ (fcS (jf 1) kf cn but i_1).2 ≤ fcl kf cn but (i_1) := Nat.not_le.mpr c_44
                  refine lv_iload hx hb dX1_firstCallable_91 (lv_at hl 2 rfl) ?_
                  refine lv_istore_n (lv' := [(2, .int (nI (i_1))), (6, .int (nI (0))), (5, .int (nI (fcl kf cn but (i_1)))), (4, .int (nI (i_1))), (3, .int (nI ((fcS (jf 1) kf cn but i_1).2))), (0, .ref (A 0)), (1, .int (but))]) hx hb dX1_firstCallable_93 rfl hl (by decide) rfl (fun ls hl => ?_)
                  refine lv_iload hx hb dX1_firstCallable_94 (lv_at hl 2 rfl) ?_
                  refine lv_istore_n (lv' := [(3, .int (nI (fcl kf cn but (i_1)))), (2, .int (nI (i_1))), (6, .int (nI (0))), (5, .int (nI (fcl kf cn but (i_1)))), (4, .int (nI (i_1))), (0, .ref (A 0)), (1, .int (but))]) hx hb dX1_firstCallable_96 rfl hl (by decide) rfl (fun ls hl => ?_)
                  refine lv_iinc (v := nI (i_1 + 1)) (lv' := [(4, .int (nI (i_1 + 1))), (3, .int (nI (fcl kf cn but (i_1)))), (2, .int (nI (i_1))), (6, .int (nI (0))), (5, .int (nI (fcl kf cn but (i_1)))), (0, .ref (A 0)), (1, .int (but))]) hx hb dX1_firstCallable_97 hl (k := 4) rfl (inc_1 _) (by decide) rfl (fun ls hl => ?_)
                  refine lv_goto (tgt := 7) hx hb dX1_firstCallable_100 (by decide) ?_
                  exact ih_10 (i_1 + 1) _ _ _ (by omega) (by omega) rfl (by exfalso; omega) (by exfalso; omega)  ls (lv_sub hl [0, 1, 2, 5, 6] rfl)
                · have d_44 : (fcS (jf 1) kf cn but i_1).2 ≤ fcl kf cn but (i_1) := Nat.not_lt.mp c_44
                  refine lv_iload hx hb dX1_firstCallable_86 (lv_at hl 0 rfl) ?_
                  refine g_if_eq (P := 0 = 0) (tgt := 97) hx hb dX1_firstCallable_88 (by decide) (nI_z (by omega)) (fun c_45 => ?_) (fun c_45 => ?_)
                  · refine lv_iinc (v := nI (i_1 + 1)) (lv' := [(4, .int (nI (i_1 + 1))), (6, .int (nI (0))), (5, .int (nI (fcl kf cn but (i_1)))), (3, .int (nI ((fcS (jf 1) kf cn but i_1).2))), (2, .int (nI (b_40))), (0, .ref (A 0)), (1, .int (but))]) hx hb dX1_firstCallable_97 hl (k := 2) rfl (inc_1 _) (by decide) rfl (fun ls hl => ?_)
                    refine lv_goto (tgt := 7) hx hb dX1_firstCallable_100 (by decide) ?_
                    exact ih_10 (i_1 + 1) _ _ _ (by omega) (by omega) rfl (by rw [fcS_keep c_34 eb_41 c_43]) (by rw [fcS_keep c_34 eb_41 c_43]; rw [eb_41]; rfl)  ls (lv_sub hl [0, 3, 4, 5, 6] rfl)
                  · exact absurd c_45 (by decide)
              · have d_43 : jf 1 (i_1) < jf 1 (b_40) := Int32.not_le.mp c_43
                refine lv_iconst (v := nI (1)) hx hb dX1_firstCallable_73 gc_1 ?_
                refine lv_goto (tgt := 78) hx hb dX1_firstCallable_74 (by decide) ?_
                refine lv_istore (lv' := [(6, .int (nI (1))), (5, .int (nI (fcl kf cn but (i_1)))), (4, .int (nI (i_1))), (3, .int (nI ((fcS (jf 1) kf cn but i_1).2))), (2, .int (nI (b_40))), (0, .ref (A 0)), (1, .int (but))]) hx hb dX1_firstCallable_78 hl (by decide) rfl (fun ls hl => ?_)
                refine lv_iload hx hb dX1_firstCallable_80 (lv_at hl 1 rfl) ?_
                refine lv_iload_n hx hb dX1_firstCallable_82 rfl (lv_at hl 3 rfl) ?_
                refine g_icmp_lt (P := fcl kf cn but (i_1) < (fcS (jf 1) kf cn but i_1).2) (tgt := 91) hx hb dX1_firstCallable_83 (by decide) (nI_ltI (by omega) (by omega)) (fun c_46 => ?_) (fun c_46 => ?_)
                · have d_46 : ¬ (fcS (jf 1) kf cn but i_1).2 ≤ fcl kf cn but (i_1) := Nat.not_le.mpr c_46
                  refine lv_iload hx hb dX1_firstCallable_91 (lv_at hl 2 rfl) ?_
                  refine lv_istore_n (lv' := [(2, .int (nI (i_1))), (6, .int (nI (1))), (5, .int (nI (fcl kf cn but (i_1)))), (4, .int (nI (i_1))), (3, .int (nI ((fcS (jf 1) kf cn but i_1).2))), (0, .ref (A 0)), (1, .int (but))]) hx hb dX1_firstCallable_93 rfl hl (by decide) rfl (fun ls hl => ?_)
                  refine lv_iload hx hb dX1_firstCallable_94 (lv_at hl 2 rfl) ?_
                  refine lv_istore_n (lv' := [(3, .int (nI (fcl kf cn but (i_1)))), (2, .int (nI (i_1))), (6, .int (nI (1))), (5, .int (nI (fcl kf cn but (i_1)))), (4, .int (nI (i_1))), (0, .ref (A 0)), (1, .int (but))]) hx hb dX1_firstCallable_96 rfl hl (by decide) rfl (fun ls hl => ?_)
                  refine lv_iinc (v := nI (i_1 + 1)) (lv' := [(4, .int (nI (i_1 + 1))), (3, .int (nI (fcl kf cn but (i_1)))), (2, .int (nI (i_1))), (6, .int (nI (1))), (5, .int (nI (fcl kf cn but (i_1)))), (0, .ref (A 0)), (1, .int (but))]) hx hb dX1_firstCallable_97 hl (k := 4) rfl (inc_1 _) (by decide) rfl (fun ls hl => ?_)
                  refine lv_goto (tgt := 7) hx hb dX1_firstCallable_100 (by decide) ?_
                  exact ih_10 (i_1 + 1) _ _ _ (by omega) (by omega) rfl (by exfalso; omega) (by exfalso; omega)  ls (lv_sub hl [0, 1, 2, 5, 6] rfl)
                · have d_46 : (fcS (jf 1) kf cn but i_1).2 ≤ fcl kf cn but (i_1) := Nat.not_lt.mp c_46
                  refine lv_iload hx hb dX1_firstCallable_86 (lv_at hl 0 rfl) ?_
                  refine g_if_eq (P := 1 = 0) (tgt := 97) hx hb dX1_firstCallable_88 (by decide) (nI_z (by omega)) (fun c_47 => ?_) (fun c_47 => ?_)
                  · exact absurd c_47 (by decide)
                  · refine lv_iload hx hb dX1_firstCallable_91 (lv_at hl 2 rfl) ?_
                    refine lv_istore_n (lv' := [(2, .int (nI (i_1))), (6, .int (nI (1))), (5, .int (nI (fcl kf cn but (i_1)))), (4, .int (nI (i_1))), (3, .int (nI ((fcS (jf 1) kf cn but i_1).2))), (0, .ref (A 0)), (1, .int (but))]) hx hb dX1_firstCallable_93 rfl hl (by decide) rfl (fun ls hl => ?_)
                    refine lv_iload hx hb dX1_firstCallable_94 (lv_at hl 2 rfl) ?_
                    refine lv_istore_n (lv' := [(3, .int (nI (fcl kf cn but (i_1)))), (2, .int (nI (i_1))), (6, .int (nI (1))), (5, .int (nI (fcl kf cn but (i_1)))), (4, .int (nI (i_1))), (0, .ref (A 0)), (1, .int (but))]) hx hb dX1_firstCallable_96 rfl hl (by decide) rfl (fun ls hl => ?_)
                    refine lv_iinc (v := nI (i_1 + 1)) (lv' := [(4, .int (nI (i_1 + 1))), (3, .int (nI (fcl kf cn but (i_1)))), (2, .int (nI (i_1))), (6, .int (nI (1))), (5, .int (nI (fcl kf cn but (i_1)))), (0, .ref (A 0)), (1, .int (but))]) hx hb dX1_firstCallable_97 hl (k := 4) rfl (inc_1 _) (by decide) rfl (fun ls hl => ?_)
                    refine lv_goto (tgt := 7) hx hb dX1_firstCallable_100 (by decide) ?_
                    exact ih_10 (i_1 + 1) _ _ _ (by omega) (by omega) rfl (by rw [fcS_twin c_34 eb_41 c_43] <;> rfl) (by rw [fcS_twin c_34 eb_41 c_43] <;> rfl)  ls (lv_sub hl [0, 1, 2, 5, 6] rfl)
  exact LP_6 (jn + 1) 0 _ _ _ (by omega) (by omega) rfl rfl rfl  ls (lv_sub hl [0, 1, 2, 3, 4] rfl)

set_option maxHeartbeats 1000000 in
set_option maxRecDepth 100000 in
theorem c_X1_callableAt (l : Launch) (D : va_G) (cA : Nat → ClassId) (A : Nat → Nat) (jf : Nat → Nat → Int32) (jn : Nat) (kf : Nat → Nat → Int32) (rw : Nat → Nat) (cn rl clk ton : Nat) (sd : Int32) (v : Int32) (hjn : jn ≤ 9) (hcn : cn ≤ 10) : Met l yX1_callableAt (gw yX1_callableAt cX1_callableAt 5 (some .int)) ({ frames := 3, cells := 0, slots := 0, locals := 70 } : Room) (gPc [.ref (A 0), .int (v)] (fun H => va_P D vwCl (cw cA A jf jn kf rw cn rl clk ton sd) H) D cA) (rdI (fun r => r = oI (nthV (fcF (jf 1) kf jn cn) jn v))) 0 0 nF := by
  refine gOf (by decide) (Nat.le_of_ble_eq_true rfl) ?_
  intro p e s m below meth c ls hx hb hml hr hlk hown hts hnm hP hK hl
  have hl : lv_has ls 5 [(0, .ref (A 0)), (1, .int (v))] := hl
  refine lv_aload_n hx hb dX1_callableAt_0 rfl (lv_at hl 0 rfl) ?_
  refine g_get (v := .ref (A 1)) hx hb hts hown hK hP 0 rfl rfl gu_wsX10 0 (by decide) gm_2_21 rfl dX1_callableAt_1 ?_
  refine lv_iload_n hx hb dX1_callableAt_4 rfl (lv_at hl 1 rfl) ?_
  refine rd_calle (va_runV (As := [.int (v)]) (rest := []) ⟨hx, hb, hml, hown, hts⟩ (c_X3_has l D cA (fun k => A (k + 1)) jf jn (v) hjn) (cwV 1 hts (gWV gm_29_2 gm_25_2 gm_25_3 gm_2_5 gm_25_4) rfl rfl rfl (by decide +kernel) ⟨Nat.le_of_ble_eq_true rfl, Nat.le_of_ble_eq_true rfl⟩) (gPreV hK (g_rf hK hP (ci := 5) (q0 := 1) rfl rfl) (hP.sub [1, 2, 3, 4, 5] rfl)) rfl rfl hl.1 rfl (lv_room (Nat.le_of_ble_eq_true rfl)) dX1_callableAt_5 ⟨by omega, by omega⟩) ?_
  refine g_if_ne (P := isIx (v) jn = false) (tgt := 13) hx hb dX1_callableAt_8 (by decide) b2i_0 (fun c_1 => ?_) (fun c_1 => ?_)
  · have c_1 : isIx (v) jn = true := eq_true_of_ne_false c_1
    obtain ⟨j_2, hj_4, ej_3⟩ := isIx_n c_1 (by omega)
    rw [ej_3] at hl
    have hl : lv_has ls 5 [(0, .ref (A 0)), (1, .int (nI (j_2)))] := hl
    refine lv_iconst (v := nI (0)) hx hb dX1_callableAt_13 gc_0 ?_
    refine lv_istore_n (lv' := [(2, .int (nI (0))), (0, .ref (A 0)), (1, .int (nI (j_2)))]) hx hb dX1_callableAt_14 rfl hl (by decide) rfl (fun ls hl => ?_)
    refine lv_aload_n hx hb dX1_callableAt_15 rfl (lv_at hl 1 rfl) ?_
    refine lv_iload_n hx hb dX1_callableAt_16 rfl (lv_at hl 0 rfl) ?_
    refine rd_calle (va_runV (As := [.int (nI (0))]) (rest := []) ⟨hx, hb, hml, hown, hts⟩ (c_X1_firstCallable l D cA A jf jn kf rw cn rl clk ton sd (nI (0)) hjn hcn) (cwV 1 hts (gWV gm_13_6 gm_13_7 gm_13_8 gm_1_16 gm_13_9) rfl rfl rfl (by decide +kernel) ⟨Nat.le_of_ble_eq_true rfl, Nat.le_of_ble_eq_true rfl⟩) (gPreV hK (g_rf hK hP (ci := 3) (q0 := 0) rfl rfl) hP) rfl rfl hl.1 rfl (lv_room (Nat.le_of_ble_eq_true rfl)) dX1_callableAt_17 ⟨by omega, by omega⟩) ?_
    refine lv_istore_n (lv' := [(3, .int (oI (fcF (jf 1) kf jn cn (nI (0))))), (2, .int (nI (0))), (0, .ref (A 0)), (1, .int (nI (j_2)))]) hx hb dX1_callableAt_20 rfl hl (by decide) rfl (fun ls hl => ?_)
    refine lv_iconst (v := nI (0)) hx hb dX1_callableAt_21 gc_0 ?_
    refine lv_istore (lv' := [(4, .int (nI (0))), (3, .int (oI (fcF (jf 1) kf jn cn (nI (0))))), (2, .int (nI (0))), (0, .ref (A 0)), (1, .int (nI (j_2)))]) hx hb dX1_callableAt_22 hl (by decide) rfl (fun ls hl => ?_)
    have LP_10 : ∀ (n_6 i_5 : Nat) (x_7 x_8 x_9 : Int32), i_5 ≤ j_2 → j_2 + 1 ≤ i_5 + n_6 → x_7 = nI (i_5) → x_8 = oI ((nthS (fcF (jf 1) kf jn cn) i_5).2) → x_9 = (nthS (fcF (jf 1) kf jn cn) i_5).1 → ∀ (ls : Array Slot), lv_has ls 5 [(4, .int (x_7)), (3, .int (x_8)), (2, .int (x_9)), (0, .ref (A 0)), (1, .int (nI (j_2)))] → W p l e ({ frames := 3, cells := 0, slots := 0, locals := 70 } : Room) s m ([.ref (A 0), .int (v)] : List Value).toArray below meth c s.heap [] 0 0 (MQ below (rdI (fun r => r = oI (nthV (fcF (jf 1) kf jn cn) jn v))) ([.ref (A 0), .int (v)] : List Value).toArray s 0 0 nF) (F0 m 24 ls []) := by
      intro n_6
      induction n_6 with
      | zero => intro i_5 x_7 x_8 x_9 h1 h2; exact absurd h2 (by omega)
      | succ n_6 ih_14 =>
        intro i_5 x_7 x_8 x_9 h_15 h_16 e_11 e_12 e_13  ls hl
        subst e_11
        subst e_12
        subst e_13
        refine lv_iload hx hb dX1_callableAt_24 (lv_at hl 0 rfl) ?_
        refine lv_iload_n hx hb dX1_callableAt_26 rfl (lv_at hl 4 rfl) ?_
        refine g_icmp_ge (P := j_2 ≤ i_5) (tgt := 53) hx hb dX1_callableAt_27 (by decide) (nI_leI (by omega) (by omega)) (fun c_17 => ?_) (fun c_17 => ?_)
        · have d_17 : ¬ i_5 < j_2 := Nat.not_lt.mpr c_17
          have hN_18 : j_2 = i_5 := by omega
          subst hN_18
          refine lv_iload_n hx hb dX1_callableAt_53 rfl (lv_at hl 1 rfl) ?_
          exact g_iret (v := oI ((nthS (fcF (jf 1) kf jn cn) (j_2)).2)) hx hb hr hlk dX1_callableAt_54 (by rw [nthV_in hj_4 (by omega) ej_3])
        · have d_17 : i_5 < j_2 := Nat.not_le.mp c_17
          refine lv_iload_n hx hb dX1_callableAt_30 rfl (lv_at hl 1 rfl) ?_
          refine lv_iconst (v := -1) hx hb dX1_callableAt_31 gc_m1 ?_
          refine g_icmp_eq (P := (nthS (fcF (jf 1) kf jn cn) i_5).2 = none) (tgt := 53) hx hb dX1_callableAt_32 (by decide) (oI_m1 (fun b q => by have := nthS_lt fcF_lt _ _ q; omega)) (fun c_19 => ?_) (fun c_19 => ?_)
          · refine lv_iload_n hx hb dX1_callableAt_53 rfl (lv_at hl 1 rfl) ?_
            exact g_iret (v := oI ((nthS (fcF (jf 1) kf jn cn) i_5).2)) hx hb hr hlk dX1_callableAt_54 (by rw [nthV_in hj_4 (by omega) ej_3, nthS_none c_19 j_2 (by omega)])
          · obtain ⟨b_20, eb_21⟩ := o_some c_19
            have hb_22 := nthS_lt fcF_lt _ _ eb_21
            rw [eb_21] at hl
            have hl : lv_has ls 5 [(4, .int (nI (i_5))), (3, .int (nI (b_20))), (2, .int ((nthS (fcF (jf 1) kf jn cn) i_5).1)), (0, .ref (A 0)), (1, .int (nI (j_2)))] := hl
            refine lv_iload_n hx hb dX1_callableAt_35 rfl (lv_at hl 2 rfl) ?_
            refine lv_iconst (v := nI (1)) hx hb dX1_callableAt_36 gc_1 ?_
            refine lv_iload_n hx hb dX1_callableAt_37 rfl (lv_at hl 1 rfl) ?_
            refine lv_ishl hx hb dX1_callableAt_38 ?_
            refine lv_ior hx hb dX1_callableAt_39 ?_
            refine lv_istore_n (lv' := [(2, .int (((nthS (fcF (jf 1) kf jn cn) i_5).1) ||| ((nI (1)) <<< ((nI (b_20)) &&& 31)))), (4, .int (nI (i_5))), (3, .int (nI (b_20))), (0, .ref (A 0)), (1, .int (nI (j_2)))]) hx hb dX1_callableAt_40 rfl hl (by decide) rfl (fun ls hl => ?_)
            refine lv_aload_n hx hb dX1_callableAt_41 rfl (lv_at hl 3 rfl) ?_
            refine lv_iload_n hx hb dX1_callableAt_42 rfl (lv_at hl 0 rfl) ?_
            refine rd_calle (va_runV (As := [.int (((nthS (fcF (jf 1) kf jn cn) i_5).1) ||| ((nI (1)) <<< ((nI (b_20)) &&& 31)))]) (rest := []) ⟨hx, hb, hml, hown, hts⟩ (c_X1_firstCallable l D cA A jf jn kf rw cn rl clk ton sd (((nthS (fcF (jf 1) kf jn cn) i_5).1) ||| ((nI (1)) <<< ((nI (b_20)) &&& 31))) hjn hcn) (cwV 1 hts (gWV gm_13_6 gm_13_7 gm_13_8 gm_1_16 gm_13_9) rfl rfl rfl (by decide +kernel) ⟨Nat.le_of_ble_eq_true rfl, Nat.le_of_ble_eq_true rfl⟩) (gPreV hK (g_rf hK hP (ci := 3) (q0 := 0) rfl rfl) hP) rfl rfl hl.1 rfl (lv_room (Nat.le_of_ble_eq_true rfl)) dX1_callableAt_43 ⟨by omega, by omega⟩) ?_
            refine lv_istore_n (lv' := [(3, .int (oI (fcF (jf 1) kf jn cn (((nthS (fcF (jf 1) kf jn cn) i_5).1) ||| ((nI (1)) <<< ((nI (b_20)) &&& 31)))))), (2, .int (((nthS (fcF (jf 1) kf jn cn) i_5).1) ||| ((nI (1)) <<< ((nI (b_20)) &&& 31)))), (4, .int (nI (i_5))), (0, .ref (A 0)), (1, .int (nI (j_2)))]) hx hb dX1_callableAt_46 rfl hl (by decide) rfl (fun ls hl => ?_)
            refine lv_iinc (v := nI (i_5 + 1)) (lv' := [(4, .int (nI (i_5 + 1))), (3, .int (oI (fcF (jf 1) kf jn cn (((nthS (fcF (jf 1) kf jn cn) i_5).1) ||| ((nI (1)) <<< ((nI (b_20)) &&& 31)))))), (2, .int (((nthS (fcF (jf 1) kf jn cn) i_5).1) ||| ((nI (1)) <<< ((nI (b_20)) &&& 31)))), (0, .ref (A 0)), (1, .int (nI (j_2)))]) hx hb dX1_callableAt_47 hl (k := 2) rfl (inc_1 _) (by decide) rfl (fun ls hl => ?_)
            refine lv_goto (tgt := 24) hx hb dX1_callableAt_50 (by decide) ?_
            exact ih_14 (i_5 + 1) _ _ _ (by omega) (by omega) rfl (by rw [nthS_some eb_21]) (by rw [nthS_some eb_21])  ls (lv_sub hl [0, 1, 2, 3, 4] rfl)
    exact LP_10 (j_2 + 1) 0 _ _ _ (by omega) (by omega) rfl rfl rfl  ls (lv_sub hl [0, 1, 2, 3, 4] rfl)
  · refine lv_iconst (v := -1) hx hb dX1_callableAt_11 gc_m1 ?_
    exact g_iret (v := -1) hx hb hr hlk dX1_callableAt_12 (by rw [nthV_out c_1]; rfl)

set_option maxHeartbeats 1000000 in
set_option maxRecDepth 100000 in
theorem c_X0_rowAt (l : Launch) (D : va_G) (cA : Nat → ClassId) (K : Nat → Nat) (kf : Nat → Nat → Int32) (rw : Nat → Nat) (cn rl : Nat) (v : Int32) (hrl : rl ≤ 10) (hrw : ∀ k, k < rl → rw k < 10) : Met l yX0_rowAt (gw yX0_rowAt cX0_rowAt 2 (some .int)) ({ frames := 0, cells := 0, slots := 0, locals := 0 } : Room) (gPc [.ref (K 0), .int (v)] (fun H => va_P D vwCl (kw cA K kf rw cn rl) H) D cA) (rdI (fun r => r = oI (if isIx v rl = true then some (rw v.toNatClampNeg) else none))) 0 0 nF := by
  refine gOf (by decide) (Nat.le_of_ble_eq_true rfl) ?_
  intro p e s m below meth c ls hx hb hml hr hlk hown hts hnm hP hK hl
  have hl : lv_has ls 2 [(0, .ref (K 0)), (1, .int (v))] := hl
  refine lv_iload_n hx hb dX0_rowAt_0 rfl (lv_at hl 1 rfl) ?_
  refine g_if_lt (P := v < 0) (tgt := 21) hx hb dX0_rowAt_1 (by decide) Iff.rfl (fun c_1 => ?_) (fun c_1 => ?_)
  · have d_1 : ¬ 0 ≤ v := Int32.not_le.mpr c_1
    refine lv_iconst (v := -1) hx hb dX0_rowAt_21 gc_m1 ?_
    exact g_iret (v := -1) hx hb hr hlk dX0_rowAt_22 (by rw [isIx_code v (by omega)]; simp [c_1, d_1, oI])
  · have d_1 : 0 ≤ v := Int32.not_lt.mp c_1
    refine lv_iload_n hx hb dX0_rowAt_4 rfl (lv_at hl 1 rfl) ?_
    refine lv_aload_n hx hb dX0_rowAt_5 rfl (lv_at hl 0 rfl) ?_
    refine g_get (v := .int (nI (rl))) hx hb hts hown hK hP 0 rfl rfl gu_wsX00 10 (by decide) gm_4_3 rfl dX0_rowAt_6 ?_
    refine g_icmp_ge (P := nI (rl) ≤ v) (tgt := 21) hx hb dX0_rowAt_9 (by decide) Iff.rfl (fun c_2 => ?_) (fun c_2 => ?_)
    · have d_2 : ¬ v < nI (rl) := Int32.not_lt.mpr c_2
      refine lv_iconst (v := -1) hx hb dX0_rowAt_21 gc_m1 ?_
      exact g_iret (v := -1) hx hb hr hlk dX0_rowAt_22 (by rw [isIx_code v (by omega)]; simp [c_1, d_1, c_2, d_2, oI])
    · have d_2 : v < nI (rl) := Int32.not_le.mp c_2
      obtain ⟨j_3, hj_4, ej_5⟩ := isIx_n (by rw [isIx_code v (by omega)]; simp [c_1, d_1, c_2, d_2, c_2] : isIx v rl = true) (by omega)
      rw [ej_5] at hl
      have hl : lv_has ls 2 [(0, .ref (K 0)), (1, .int (nI (j_3)))] := hl
      refine lv_aload_n hx hb dX0_rowAt_12 rfl (lv_at hl 0 rfl) ?_
      refine g_get (v := .ref (K 9)) hx hb hts hown hK hP 0 rfl rfl gu_wsX00 8 (by decide) gm_4_1 rfl dX0_rowAt_13 ?_
      refine lv_iload_n hx hb dX0_rowAt_16 rfl (lv_at hl 1 rfl) ?_
      refine g_iald (x := nI (rw (j_3))) hx hb hK hP 9 rfl (by omega) (by decide) rfl dX0_rowAt_17 ?_
      refine lv_goto (tgt := 22) hx hb dX0_rowAt_18 (by decide) ?_
      exact g_iret (v := nI (rw (j_3))) hx hb hr hlk dX0_rowAt_22 (by rw [if_pos (by rw [ej_5]; exact isIx_t hj_4 (by omega)), ej_5, nI_clamp (by omega)]; rfl)

def aInj (n : Nat) (A : Nat → Nat) : Prop := ∀ i j : Nat, i < n → j < n → A i = A j → i = j
def aS (n : Nat) (A : Nat → Nat) : Nat → Prop := fun q => ∃ k : Nat, k < n ∧ q = A k
theorem aInj_s {n m : Nat} {A : Nat → Nat} (h : aInj n A) (a : Nat) (hm : a + m ≤ n) : aInj m (fun k => A (k + a)) := fun i j hi hj e => by
  have := h (i + a) (j + a) (by omega) (by omega) e
  omega
theorem aS_up {n m a : Nat} {A : Nat → Nat} {q : Nat} (hm : a + m ≤ n) (h : aS m (fun k => A (k + a)) q) : aS n A q := by
  obtain ⟨k, hk, e⟩ := h
  exact ⟨k + a, by omega, e⟩
theorem aS_no {n m a i : Nat} {A : Nat → Nat} (h : aInj n A) (hi : i < n) (hm : a + m ≤ n) (hx : i < a ∨ a + m ≤ i) : ¬ aS m (fun k => A (k + a)) (A i) := by
  intro ⟨k, hk, e⟩
  have := h i (k + a) hi (by omega) e
  omega
theorem wAd {ws : va_W} {n : Nat} {A : Nat → Nat} (e : ws.map (fun q => q.1) = (List.range n).map A) {k : Nat} {q : Nat × va_E} (hk : ws[k]? = some q) : k < n ∧ q.1 = A k := by
  have h1 : (ws.map (fun q => q.1))[k]? = some q.1 := by rw [List.getElem?_map, hk]; rfl
  rw [e, List.getElem?_map] at h1
  rcases Nat.lt_or_ge k n with z | z
  · rw [List.getElem?_range z] at h1
    exact ⟨z, (Option.some.inj h1).symm⟩
  · rw [List.getElem?_eq_none (by simpa using z)] at h1
    cases h1
theorem wD {ws : va_W} {n : Nat} {A : Nat → Nat} (h : aInj n A) (e : ws.map (fun q => q.1) = (List.range n).map A) : va_D (aS n A) ws :=
  ⟨fun i j p q hp hq e2 => h i j (wAd e hp).1 (wAd e hq).1 (by rw [← (wAd e hp).2, ← (wAd e hq).2]; exact e2), fun k q hk => ⟨k, (wAd e hk).1, (wAd e hk).2⟩⟩
theorem wKeep {D : va_G} {ws : va_W} {H H1 : Heap} {F : Nat → Prop} (hP : va_P D vwCl ws H) (hn : ∀ (k : Nat) (q : Nat × va_E), ws[k]? = some q → ¬ F q.1) (hk : ∀ q : Nat, q < H.size → ¬ F q → H1[q]? = H[q]?) : va_P D vwCl ws H1 := hP.kept (fun k q h => hk q.1 (hP k q h).lt (hn k q h))
theorem jwD {cA : Nat → ClassId} {J : Nat → Nat} {jf : Nat → Nat → Int32} {jn : Nat} (h : aInj 5 J) : va_D (aS 5 J) (jw cA J jf jn) := wD h rfl
theorem kwD {cA : Nat → ClassId} {K : Nat → Nat} {kf : Nat → Nat → Int32} {rw : Nat → Nat} {cn rl : Nat} (h : aInj 10 K) : va_D (aS 10 K) (kw cA K kf rw cn rl) := wD h rfl
theorem cwD {cA : Nat → ClassId} {A : Nat → Nat} {jf : Nat → Nat → Int32} {jn : Nat} {kf : Nat → Nat → Int32} {rw : Nat → Nat} {cn rl clk ton : Nat} {sd : Int32} (h : aInj 16 A) : va_D (aS 16 A) (cw cA A jf jn kf rw cn rl clk ton sd) := wD h rfl
theorem cw_J {D : va_G} {cA : Nat → ClassId} {A : Nat → Nat} {jf jf' : Nat → Nat → Int32} {jn jn' : Nat} {kf : Nat → Nat → Int32} {rw : Nat → Nat} {cn rl clk ton : Nat} {sd : Int32} {H H1 : Heap} (h : aInj 16 A) (hP : va_P D vwCl (cw cA A jf jn kf rw cn rl clk ton sd) H) (hN : va_P D vwCl (jw cA (fun k => A (k + 1)) jf' jn') H1) (hk : ∀ q : Nat, q < H.size → ¬ aS 5 (fun k => A (k + 1)) q → H1[q]? = H[q]?) : va_P D vwCl (cw cA A jf' jn' kf rw cn rl clk ton sd) H1 := by
  have h0 : va_P D vwCl [(A 0, .inr (3, [.ref (A 1), .ref (A 6), .int (nI clk), .int (nI ton), .int sd]))] H := hP.sub [0] rfl
  have h2 : va_P D vwCl (kw cA (fun k => A (k + 6)) kf rw cn rl) H := hP.sub [6, 7, 8, 9, 10, 11, 12, 13, 14, 15] rfl
  have g0 := wKeep h0 (F := aS 5 (fun k => A (k + 1))) (fun k q e => by
    match k, e with
    | 0, e => cases e; exact aS_no h (by decide) (by decide) (Or.inl (by decide))) hk
  have g2 := wKeep h2 (F := aS 5 (fun k => A (k + 1))) (fun k q e => by
    have w := wAd (n := 10) (A := fun k => A (k + 6)) rfl e
    rw [w.2]
    exact aS_no (i := k + 6) h (by omega) (by decide) (Or.inr (by omega))) hk
  exact ((g0.app hN).app g2)
theorem cw_K {D : va_G} {cA : Nat → ClassId} {A : Nat → Nat} {jf : Nat → Nat → Int32} {jn : Nat} {kf kf' : Nat → Nat → Int32} {rw rw' : Nat → Nat} {cn rl cn' rl' clk ton : Nat} {sd : Int32} {H H1 : Heap} (h : aInj 16 A) (hP : va_P D vwCl (cw cA A jf jn kf rw cn rl clk ton sd) H) (hN : va_P D vwCl (kw cA (fun k => A (k + 6)) kf' rw' cn' rl') H1) (hk : ∀ q : Nat, q < H.size → ¬ aS 10 (fun k => A (k + 6)) q → H1[q]? = H[q]?) : va_P D vwCl (cw cA A jf jn kf' rw' cn' rl' clk ton sd) H1 := by
  have h0 : va_P D vwCl [(A 0, .inr (3, [.ref (A 1), .ref (A 6), .int (nI clk), .int (nI ton), .int sd]))] H := hP.sub [0] rfl
  have h2 : va_P D vwCl (jw cA (fun k => A (k + 1)) jf jn) H := hP.sub [1, 2, 3, 4, 5] rfl
  have g0 := wKeep h0 (F := aS 10 (fun k => A (k + 6))) (fun k q e => by
    match k, e with
    | 0, e => cases e; exact aS_no h (by decide) (by decide) (Or.inl (by decide))) hk
  have g2 := wKeep h2 (F := aS 10 (fun k => A (k + 6))) (fun k q e => by
    have w := wAd (n := 5) (A := fun k => A (k + 1)) rfl e
    rw [w.2]
    exact aS_no (i := k + 1) h (by omega) (by decide) (Or.inl (by omega))) hk
  exact ((g0.app g2).app hN)
def updN (f : Nat → Nat) (k v : Nat) : Nat → Nat := fun j => if j = k then v else f j
theorem updN_nI {f : Nat → Nat} {k v : Nat} : upd (fun j => nI (f j)) k (nI v) = fun j => nI (updN f k v j) := by
  funext j
  by_cases e : j = k
  · subst e; simp [updN, upd]
  · simp [updN, upd, e]
theorem mmin_n {a b : Nat} (ha : a < 2 ^ 31) (hb : b < 2 ^ 31) : (if nI b < nI a then nI b else nI a) = nI (if b < a then b else a) := by
  by_cases h : b < a
  · rw [if_pos h, if_pos ((nI_ltI hb ha).mpr h)]
  · rw [if_neg h, if_neg (fun z => h ((nI_ltI hb ha).mp z))]
theorem mmax_n {a b : Nat} (ha : a < 2 ^ 31) (hb : b < 2 ^ 31) : (if nI a < nI b then nI b else nI a) = nI (if a < b then b else a) := by
  by_cases h : a < b
  · rw [if_pos h, if_pos ((nI_ltI ha hb).mpr h)]
  · rw [if_neg h, if_neg (fun z => h ((nI_ltI ha hb).mp z))]

