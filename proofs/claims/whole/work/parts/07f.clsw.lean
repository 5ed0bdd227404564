theorem dec_1 {a : Nat} (h : 1 ≤ a) : nI a + Int32.ofInt (-1) = nI (a - 1) := by
  have e : Int32.ofInt (-1) = -(nI 1) := by decide +kernel
  rw [e, ← Int32.sub_eq_add_neg, pk_sub h]
theorem opC_n1 {b : Bool} (h : ¬ opC b = 1) : b = false := by cases b with
  | true => exact absurd rfl h
  | false => rfl
def mvF (merit l d : Int32) : Int32 := if forB merit l d = true then l - nI 1 else l + nI 1
def toS (panel merit : Int32) (d l0 : Nat → Int32) : Nat → Nat × (Nat → Int32)
  | 0 => (0, l0)
  | k + 1 => if hs panel k = true then (if mvF merit ((toS panel merit d l0 k).2 k) (d k) < -9 then toS panel merit d l0 k else if nI 9 < mvF merit ((toS panel merit d l0 k).2 k) (d k) then toS panel merit d l0 k else ((toS panel merit d l0 k).1 + 1, upd (toS panel merit d l0 k).2 k (mvF merit ((toS panel merit d l0 k).2 k) (d k)))) else toS panel merit d l0 k
theorem toS_no {panel merit : Int32} {d l0 : Nat → Int32} {k : Nat} (h : hs panel k = false) : toS panel merit d l0 (k + 1) = toS panel merit d l0 k := by rw [toS, if_neg (bnt h)]
theorem toS_lo {panel merit : Int32} {d l0 : Nat → Int32} {k : Nat} {v : Int32} (h : hs panel k = true) (e : mvF merit ((toS panel merit d l0 k).2 k) (d k) = v) (h2 : v < -9) : toS panel merit d l0 (k + 1) = toS panel merit d l0 k := by rw [toS, if_pos h, e, if_pos h2]
theorem toS_hi {panel merit : Int32} {d l0 : Nat → Int32} {k : Nat} {v : Int32} (h : hs panel k = true) (e : mvF merit ((toS panel merit d l0 k).2 k) (d k) = v) (h2 : ¬ v < -9) (h3 : nI 9 < v) : toS panel merit d l0 (k + 1) = toS panel merit d l0 k := by rw [toS, if_pos h, e, if_neg h2, if_pos h3]
theorem toS_up {panel merit : Int32} {d l0 : Nat → Int32} {k : Nat} {v : Int32} (h : hs panel k = true) (e : mvF merit ((toS panel merit d l0 k).2 k) (d k) = v) (h2 : ¬ v < -9) (h3 : ¬ nI 9 < v) : toS panel merit d l0 (k + 1) = ((toS panel merit d l0 k).1 + 1, upd (toS panel merit d l0 k).2 k v) := by rw [toS, if_pos h, e, if_neg h2, if_neg h3]
theorem toS_n {panel merit : Int32} {d l0 : Nat → Int32} : ∀ k, (toS panel merit d l0 k).1 ≤ k
  | 0 => Nat.le_refl 0
  | k + 1 => by
    have ih := toS_n (panel := panel) (merit := merit) (d := d) (l0 := l0) k
    unfold toS
    split
    · split
      · omega
      · split
        · omega
        · show _ + 1 ≤ k + 1; omega
    · omega
theorem mvF_t {merit l d : Int32} (h : forB merit l d = true) : mvF merit l d = l - nI 1 := by rw [mvF, if_pos h]
theorem mvF_f {merit l d : Int32} (h : forB merit l d = false) : mvF merit l d = l + nI 1 := by rw [mvF, if_neg (bnt h)]
abbrev T3 : Type := (Nat → Int32) × ((Nat → Int32) × (Nat → Int32))
def tvU (out : Bool) (z : T3) (k : Nat) : T3 := (upd z.1 k (if out = true then (if nI 9 < z.1 k + nI 1 then nI 9 else z.1 k + nI 1) else (if z.1 k - nI 1 < nI 0 then nI 0 else z.1 k - nI 1)), (upd z.2.1 k (z.2.1 k + nI 1), upd z.2.2 k (z.2.2 k + (if out = true then nI 1 else nI 0))))
def tvS (panel merit : Int32) (vd : Nat) (l : Nat → Int32) (z0 : T3) : Nat → T3
  | 0 => z0
  | k + 1 => if hs panel k = true then tvU (!decide (opC (forB merit (l k) ((tvS panel merit vd l z0 k).1 k)) = vd)) (tvS panel merit vd l z0 k) k else tvS panel merit vd l z0 k
theorem tvS_no {panel merit : Int32} {vd : Nat} {l : Nat → Int32} {z0 : T3} {k : Nat} (h : hs panel k = false) : tvS panel merit vd l z0 (k + 1) = tvS panel merit vd l z0 k := by rw [tvS, if_neg (bnt h)]
theorem tvS_in {panel merit : Int32} {vd : Nat} {l : Nat → Int32} {z0 : T3} {k : Nat} (h : hs panel k = true) (e : opC (forB merit (l k) ((tvS panel merit vd l z0 k).1 k)) = vd) : tvS panel merit vd l z0 (k + 1) = tvU false (tvS panel merit vd l z0 k) k := by rw [tvS, if_pos h, decide_eq_true e]; rfl
theorem tvS_out {panel merit : Int32} {vd : Nat} {l : Nat → Int32} {z0 : T3} {k : Nat} (h : hs panel k = true) (e : ¬ opC (forB merit (l k) ((tvS panel merit vd l z0 k).1 k)) = vd) : tvS panel merit vd l z0 (k + 1) = tvU true (tvS panel merit vd l z0 k) k := by rw [tvS, if_pos h, decide_eq_false e]; rfl
abbrev Q4 : Type := (Nat → Int32) × T3
def ttL (jn : Nat) (panel merit : Int32) (z : Q4) : Nat → Int32 := (toS panel merit z.2.1 z.1 jn).2
def ttV (jn : Nat) (panel merit : Int32) (z : Q4) : Nat := vdF (ttL jn panel merit z) z.2.1 jn panel merit
def ttS (jn : Nat) (panel merit : Int32) (z0 : Q4) : Nat → Q4
  | 0 => z0
  | 1 => z0
  | k + 2 => (ttL jn panel merit (ttS jn panel merit z0 (k + 1)), tvS panel merit (ttV jn panel merit (ttS jn panel merit z0 (k + 1))) (ttL jn panel merit (ttS jn panel merit z0 (k + 1))) (ttS jn panel merit z0 (k + 1)).2 jn)
theorem ttS_s {jn : Nat} {panel merit : Int32} {z0 : Q4} : ∀ {i : Nat}, 1 ≤ i → ttS jn panel merit z0 (i + 1) = (ttL jn panel merit (ttS jn panel merit z0 i), tvS panel merit (ttV jn panel merit (ttS jn panel merit z0 i)) (ttL jn panel merit (ttS jn panel merit z0 i)) (ttS jn panel merit z0 i).2 jn)
  | 0, h => absurd h (by decide)
  | _ + 1, _ => rfl
def ttQ (jn : Nat) (panel merit : Int32) (z0 : Q4) (k : Nat) : Bool := decide (0 < k) && !decide (ttV jn panel merit (ttS jn panel merit z0 k) = vdF z0.1 z0.2.1 jn panel merit)
theorem ttQ_t {jn : Nat} {panel merit : Int32} {z0 : Q4} {i : Nat} (h : 1 ≤ i) (c : ¬ ttV jn panel merit (ttS jn panel merit z0 i) = vdF z0.1 z0.2.1 jn panel merit) : ttQ jn panel merit z0 i = true := by
  rw [ttQ, decide_eq_true (show 0 < i from h), decide_eq_false c]; rfl
theorem ttQ_f {jn : Nat} {panel merit : Int32} {z0 : Q4} {i : Nat} (c : ttV jn panel merit (ttS jn panel merit z0 i) = vdF z0.1 z0.2.1 jn panel merit) : ttQ jn panel merit z0 i = false := by
  rw [ttQ, decide_eq_true c]; simp
def ttF (jn : Nat) (panel merit : Int32) (z0 : Q4) : Nat := (fnd (ttQ jn panel merit z0) 41).getD 0
def crS (kf : Nat → Nat → Int32) (night : Int32) : Nat → (Nat → Int32)
  | 0 => kf 5
  | k + 1 => if rpF (va_up kf 5 (crS kf night k)) k night = true then upd (crS kf night k) k night else crS kf night k
def enS (rw : Nat → Nat) (rl : Nat) : Nat → (Nat → Nat)
  | 0 => rw
  | t + 1 => updN (enS rw rl t) (rl - t) (enS rw rl t (rl - t - 1))
theorem enS_lo {rw : Nat → Nat} {rl j : Nat} : ∀ t, t ≤ rl → j ≤ rl - t → enS rw rl t j = rw j
  | 0, _, _ => rfl
  | t + 1, h, hj => by
    show updN (enS rw rl t) (rl - t) _ j = _
    rw [updN, if_neg (by omega), enS_lo t (by omega) (by omega)]
def enT (kf : Nat → Nat → Int32) (rw : Nat → Nat) (rl q : Nat) : Nat := (fnd (fun t => !cbF kf q (rw (rl - t - 1))) rl).getD rl
def enO (kf : Nat → Nat → Int32) (rw : Nat → Nat) (rl q : Nat) : Nat → Nat := updN (enS rw rl (enT kf rw rl q)) (rl - enT kf rw rl q) q
def stS (rw : Nat → Nat) (p : Nat) : Nat → (Nat → Nat)
  | 0 => rw
  | t + 1 => updN (stS rw p t) (p + t) (stS rw p t (p + t + 1))
def stO (rw : Nat → Nat) (rl q : Nat) : (Nat → Nat) × Nat := match fnd (fun j => decide (rw j = q)) rl with
  | none => (rw, rl)
  | some p => (stS rw p (rl - 1 - p), rl - 1)
theorem stO_none {rw : Nat → Nat} {rl q : Nat} (h : fnd (fun j => decide (rw j = q)) rl = none) : stO rw rl q = (rw, rl) := by rw [stO, h]
theorem stO_some {rw : Nat → Nat} {rl q p : Nat} (h : fnd (fun j => decide (rw j = q)) rl = some p) : stO rw rl q = (stS rw p (rl - 1 - p), rl - 1) := by rw [stO, h]
theorem updN_lt {f : Nat → Nat} {k v j n : Nat} (h : f j < n) (hv : v < n) : updN f k v j < n := by unfold updN; split <;> assumption
theorem stS_lt {rw : Nat → Nat} {p n m : Nat} (h : ∀ j, j < m → rw j < n) : ∀ t, p + t < m → ∀ j, j < m → stS rw p t j < n
  | 0, _, j, hj => h j hj
  | t + 1, ht, j, hj => updN_lt (stS_lt h t (by omega) j hj) (stS_lt h t (by omega) _ (by omega))

set_option maxHeartbeats 1000000 in
set_option maxRecDepth 100000 in
theorem c_X3_add (l : Launch) (D : va_G) (cA : Nat → ClassId) (J : Nat → Nat) (jf : Nat → Nat → Int32) (jn : Nat) (a b : Int32) (hA : aInj 5 J) (hj9 : jn < 9) : Met l yX3_add (gw yX3_add cX3_add 4 (some .int)) ({ frames := 0, cells := 0, slots := 0, locals := 0 } : Room) (gPc [.ref (J 0), .int (a), .int (b)] (fun H => va_P D vwCl (jw cA J (jf) (jn)) H) D cA) (wrI (fun r H => r = nI jn ∧ va_P D vwCl (jw cA J (va_up (va_up (va_up (va_up (jf) 0 (upd (jf 0) jn a)) 1 (upd (jf 1) jn b)) 2 (upd (jf 2) jn (nI 0))) 3 (upd (jf 3) jn (nI 0))) (jn + 1)) H) (aS 5 J)) 0 0 (aS 5 J) := by
  refine gOf (by decide) (Nat.le_of_ble_eq_true rfl) ?_
  intro p e s m below meth c ls hx hb hml hr hlk hown hts hnm hP hK hl
  have hl : lv_has ls 4 [(0, .ref (J 0)), (1, .int (a)), (2, .int (b))] := hl
  have hD : va_D (aS 5 J) (jw cA J (jf) (jn)) := jwD hA
  have hS : va_S (aS 5 J) s.heap s.heap [] := va_S.rf
  refine lv_aload_n hx hb dX3_add_0 rfl (lv_at hl 0 rfl) ?_
  refine g_get (v := .int (nI (jn))) hx hb hts hown hK hP 0 rfl rfl gu_wsX30 4 (by decide) gm_3_13 rfl dX3_add_1 ?_
  refine lv_bipush (v := nI (9)) hx hb dX3_add_4 gb_9 ?_
  refine g_icmp_lt (P := jn < 9) (tgt := 11) hx hb dX3_add_6 (by decide) (nI_ltI (by omega) (by omega)) (fun c_1 => ?_) (fun c_1 => ?_)
  · have d_1 : ¬ 9 ≤ jn := Nat.not_le.mpr c_1
    refine lv_aload_n hx hb dX3_add_11 rfl (lv_at hl 0 rfl) ?_
    refine g_get (v := .int (nI (jn))) hx hb hts hown hK hP 0 rfl rfl gu_wsX30 4 (by decide) gm_3_13 rfl dX3_add_12 ?_
    refine lv_istore_n (lv' := [(3, .int (nI (jn))), (0, .ref (J 0)), (1, .int (a)), (2, .int (b))]) hx hb dX3_add_15 rfl hl (by decide) rfl (fun ls hl => ?_)
    refine lv_aload_n hx hb dX3_add_16 rfl (lv_at hl 1 rfl) ?_
    refine g_get (v := .ref (J 1)) hx hb hts hown hK hP 0 rfl rfl gu_wsX30 0 (by decide) gm_3_9 rfl dX3_add_17 ?_
    refine lv_iload_n hx hb dX3_add_20 rfl (lv_at hl 0 rfl) ?_
    refine lv_iload_n hx hb dX3_add_21 rfl (lv_at hl 2 rfl) ?_
    refine g_iast (ws' := jw cA J (va_up (jf) 0 (upd (jf 0) (jn) (a))) (jn)) hx hb hK hP hD hS 1 rfl (by omega) (by decide) (by first | rfl | (rw [updN_nI]; rfl)) dX3_add_22 (fun H locs hP hD hS => ?_)
    refine lv_aload_n hx hb dX3_add_23 rfl (lv_at hl 1 rfl) ?_
    refine g_get (v := .ref (J 2)) hx hb hts hown hK hP 0 rfl rfl gu_wsX30 1 (by decide) gm_3_10 rfl dX3_add_24 ?_
    refine lv_iload_n hx hb dX3_add_27 rfl (lv_at hl 0 rfl) ?_
    refine lv_iload_n hx hb dX3_add_28 rfl (lv_at hl 3 rfl) ?_
    refine g_iast (ws' := jw cA J (va_up (va_up (jf) 0 (upd (jf 0) (jn) (a))) 1 (upd (jf 1) (jn) (b))) (jn)) hx hb hK hP hD hS 2 rfl (by omega) (by decide) (by first | rfl | (rw [updN_nI]; rfl)) dX3_add_29 (fun H locs hP hD hS => ?_)
    refine lv_aload_n hx hb dX3_add_30 rfl (lv_at hl 1 rfl) ?_
    refine g_get (v := .ref (J 3)) hx hb hts hown hK hP 0 rfl rfl gu_wsX30 2 (by decide) gm_3_11 rfl dX3_add_31 ?_
    refine lv_iload_n hx hb dX3_add_34 rfl (lv_at hl 0 rfl) ?_
    refine lv_iconst (v := nI (0)) hx hb dX3_add_35 gc_0 ?_
    refine g_iast (ws' := jw cA J (va_up (va_up (va_up (jf) 0 (upd (jf 0) (jn) (a))) 1 (upd (jf 1) (jn) (b))) 2 (upd (jf 2) (jn) (nI (0)))) (jn)) hx hb hK hP hD hS 3 rfl (by omega) (by decide) (by first | rfl | (rw [updN_nI]; rfl)) dX3_add_36 (fun H locs hP hD hS => ?_)
    refine lv_aload_n hx hb dX3_add_37 rfl (lv_at hl 1 rfl) ?_
    refine g_get (v := .ref (J 4)) hx hb hts hown hK hP 0 rfl rfl gu_wsX30 3 (by decide) gm_3_12 rfl dX3_add_38 ?_
    refine lv_iload_n hx hb dX3_add_41 rfl (lv_at hl 0 rfl) ?_
    refine lv_iconst (v := nI (0)) hx hb dX3_add_42 gc_0 ?_
    refine g_iast (ws' := jw cA J (va_up (va_up (va_up (va_up (jf) 0 (upd (jf 0) (jn) (a))) 1 (upd (jf 1) (jn) (b))) 2 (upd (jf 2) (jn) (nI (0)))) 3 (upd (jf 3) (jn) (nI (0)))) (jn)) hx hb hK hP hD hS 4 rfl (by omega) (by decide) (by first | rfl | (rw [updN_nI]; rfl)) dX3_add_43 (fun H locs hP hD hS => ?_)
    refine lv_aload_n hx hb dX3_add_44 rfl (lv_at hl 1 rfl) ?_
    refine lv_dup hx hb dX3_add_45 rfl ?_
    refine g_get (v := .int (nI (jn))) hx hb hts hown hK hP 0 rfl rfl gu_wsX30 4 (by decide) gm_3_13 rfl dX3_add_46 ?_
    refine lv_iconst (v := nI (1)) hx hb dX3_add_49 gc_1 ?_
    refine g_iadd hx hb dX3_add_50 ?_
    refine g_put (ws' := jw cA J (va_up (va_up (va_up (va_up (jf) 0 (upd (jf 0) (jn) (a))) 1 (upd (jf 1) (jn) (b))) 2 (upd (jf 2) (jn) (nI (0)))) 3 (upd (jf 3) (jn) (nI (0)))) (jn + 1)) hx hb hts hown hK hP hD hS 0 rfl rfl gu_wsX30 tyX3_ok nmX3 4 (by decide) gm_3_13 rfl rfl rfl (Nat.le_of_ble_eq_true rfl) (by first | rfl | (rw [updN_nI]; rfl)) dX3_add_51 (fun H locs hP hD hS => ?_)
    refine lv_iload_n hx hb dX3_add_54 rfl (lv_at hl 0 rfl) ?_
    exact g_iretW (v := nI (jn)) hx hb hr hlk hS dX3_add_55 (⟨rfl, hP⟩)
  · have d_1 : 9 ≤ jn := Nat.not_lt.mp c_1
    exact absurd c_1 (by omega)

set_option maxHeartbeats 1000000 in
set_option maxRecDepth 100000 in
theorem c_X0_add (l : Launch) (D : va_G) (cA : Nat → ClassId) (K : Nat → Nat) (kf : Nat → Nat → Int32) (rw : Nat → Nat) (cn rl : Nat) (a b : Int32) (hA : aInj 10 K) (hc9 : cn < 10) : Met l yX0_add (gw yX0_add cX0_add 4 (some .int)) ({ frames := 0, cells := 0, slots := 0, locals := 0 } : Room) (gPc [.ref (K 0), .int (a), .int (b)] (fun H => va_P D vwCl (kw cA K (kf) (rw) (cn) (rl)) H) D cA) (wrI (fun r H => r = nI cn ∧ va_P D vwCl (kw cA K (va_up (va_up (va_up (va_up (va_up (va_up (va_up (va_up (kf) 0 (upd (kf 0) cn a)) 1 (upd (kf 1) cn b)) 2 (upd (kf 2) cn (nI 0))) 3 (upd (kf 3) cn (nI 0))) 4 (upd (kf 4) cn (-1))) 5 (upd (kf 5) cn (-1))) 6 (upd (kf 6) cn (nI 0))) 7 (upd (kf 7) cn (nI 0))) rw (cn + 1) rl) H) (aS 10 K)) 0 0 (aS 10 K) := by
  refine gOf (by decide) (Nat.le_of_ble_eq_true rfl) ?_
  intro p e s m below meth c ls hx hb hml hr hlk hown hts hnm hP hK hl
  have hl : lv_has ls 4 [(0, .ref (K 0)), (1, .int (a)), (2, .int (b))] := hl
  have hD : va_D (aS 10 K) (kw cA K (kf) (rw) (cn) (rl)) := kwD hA
  have hS : va_S (aS 10 K) s.heap s.heap [] := va_S.rf
  refine lv_aload_n hx hb dX0_add_0 rfl (lv_at hl 0 rfl) ?_
  refine g_get (v := .int (nI (cn))) hx hb hts hown hK hP 0 rfl rfl gu_wsX00 9 (by decide) gm_4_2 rfl dX0_add_1 ?_
  refine lv_bipush (v := nI (10)) hx hb dX0_add_4 gb_10 ?_
  refine g_icmp_lt (P := cn < 10) (tgt := 11) hx hb dX0_add_6 (by decide) (nI_ltI (by omega) (by omega)) (fun c_1 => ?_) (fun c_1 => ?_)
  · have d_1 : ¬ 10 ≤ cn := Nat.not_le.mpr c_1
    refine lv_aload_n hx hb dX0_add_11 rfl (lv_at hl 0 rfl) ?_
    refine g_get (v := .int (nI (cn))) hx hb hts hown hK hP 0 rfl rfl gu_wsX00 9 (by decide) gm_4_2 rfl dX0_add_12 ?_
    refine lv_istore_n (lv' := [(3, .int (nI (cn))), (0, .ref (K 0)), (1, .int (a)), (2, .int (b))]) hx hb dX0_add_15 rfl hl (by decide) rfl (fun ls hl => ?_)
    refine lv_aload_n hx hb dX0_add_16 rfl (lv_at hl 1 rfl) ?_
    refine g_get (v := .ref (K 1)) hx hb hts hown hK hP 0 rfl rfl gu_wsX00 0 (by decide) gm_3_17 rfl dX0_add_17 ?_
    refine lv_iload_n hx hb dX0_add_20 rfl (lv_at hl 0 rfl) ?_
    refine lv_iload_n hx hb dX0_add_21 rfl (lv_at hl 2 rfl) ?_
    refine g_iast (ws' := kw cA K (va_up (kf) 0 (upd (kf 0) (cn) (a))) (rw) (cn) (rl)) hx hb hK hP hD hS 1 rfl (by omega) (by decide) (by first | rfl | (rw [updN_nI]; rfl)) dX0_add_22 (fun H locs hP hD hS => ?_)
    refine lv_aload_n hx hb dX0_add_23 rfl (lv_at hl 1 rfl) ?_
    refine g_get (v := .ref (K 2)) hx hb hts hown hK hP 0 rfl rfl gu_wsX00 1 (by decide) gm_3_18 rfl dX0_add_24 ?_
    refine lv_iload_n hx hb dX0_add_27 rfl (lv_at hl 0 rfl) ?_
    refine lv_iload_n hx hb dX0_add_28 rfl (lv_at hl 3 rfl) ?_
    refine g_iast (ws' := kw cA K (va_up (va_up (kf) 0 (upd (kf 0) (cn) (a))) 1 (upd (kf 1) (cn) (b))) (rw) (cn) (rl)) hx hb hK hP hD hS 2 rfl (by omega) (by decide) (by first | rfl | (rw [updN_nI]; rfl)) dX0_add_29 (fun H locs hP hD hS => ?_)
    refine lv_aload_n hx hb dX0_add_30 rfl (lv_at hl 1 rfl) ?_
    refine g_get (v := .ref (K 3)) hx hb hts hown hK hP 0 rfl rfl gu_wsX00 2 (by decide) gm_3_19 rfl dX0_add_31 ?_
    refine lv_iload_n hx hb dX0_add_34 rfl (lv_at hl 0 rfl) ?_
    refine lv_iconst (v := nI (0)) hx hb dX0_add_35 gc_0 ?_
    refine g_iast (ws' := kw cA K (va_up (va_up (va_up (kf) 0 (upd (kf 0) (cn) (a))) 1 (upd (kf 1) (cn) (b))) 2 (upd (kf 2) (cn) (nI (0)))) (rw) (cn) (rl)) hx hb hK hP hD hS 3 rfl (by omega) (by decide) (by first | rfl | (rw [updN_nI]; rfl)) dX0_add_36 (fun H locs hP hD hS => ?_)
    refine lv_aload_n hx hb dX0_add_37 rfl (lv_at hl 1 rfl) ?_
    refine g_get (v := .ref (K 4)) hx hb hts hown hK hP 0 rfl rfl gu_wsX00 3 (by decide) gm_3_20 rfl dX0_add_38 ?_
    refine lv_iload_n hx hb dX0_add_41 rfl (lv_at hl 0 rfl) ?_
    refine lv_iconst (v := nI (0)) hx hb dX0_add_42 gc_0 ?_
    refine g_iast (ws' := kw cA K (va_up (va_up (va_up (va_up (kf) 0 (upd (kf 0) (cn) (a))) 1 (upd (kf 1) (cn) (b))) 2 (upd (kf 2) (cn) (nI (0)))) 3 (upd (kf 3) (cn) (nI (0)))) (rw) (cn) (rl)) hx hb hK hP hD hS 4 rfl (by omega) (by decide) (by first | rfl | (rw [updN_nI]; rfl)) dX0_add_43 (fun H locs hP hD hS => ?_)
    refine lv_aload_n hx hb dX0_add_44 rfl (lv_at hl 1 rfl) ?_
    refine g_get (v := .ref (K 5)) hx hb hts hown hK hP 0 rfl rfl gu_wsX00 4 (by decide) gm_3_21 rfl dX0_add_45 ?_
    refine lv_iload_n hx hb dX0_add_48 rfl (lv_at hl 0 rfl) ?_
    refine lv_iconst (v := -1) hx hb dX0_add_49 gc_m1 ?_
    refine g_iast (ws' := kw cA K (va_up (va_up (va_up (va_up (va_up (kf) 0 (upd (kf 0) (cn) (a))) 1 (upd (kf 1) (cn) (b))) 2 (upd (kf 2) (cn) (nI (0)))) 3 (upd (kf 3) (cn) (nI (0)))) 4 (upd (kf 4) (cn) (-1))) (rw) (cn) (rl)) hx hb hK hP hD hS 5 rfl (by omega) (by decide) (by first | rfl | (rw [updN_nI]; rfl)) dX0_add_50 (fun H locs hP hD hS => ?_)
    refine lv_aload_n hx hb dX0_add_51 rfl (lv_at hl 1 rfl) ?_
    refine g_get (v := .ref (K 6)) hx hb hts hown hK hP 0 rfl rfl gu_wsX00 5 (by decide) gm_3_22 rfl dX0_add_52 ?_
    refine lv_iload_n hx hb dX0_add_55 rfl (lv_at hl 0 rfl) ?_
    refine lv_iconst (v := -1) hx hb dX0_add_56 gc_m1 ?_
    refine g_iast (ws' := kw cA K (va_up (va_up (va_up (va_up (va_up (va_up (kf) 0 (upd (kf 0) (cn) (a))) 1 (upd (kf 1) (cn) (b))) 2 (upd (kf 2) (cn) (nI (0)))) 3 (upd (kf 3) (cn) (nI (0)))) 4 (upd (kf 4) (cn) (-1))) 5 (upd (kf 5) (cn) (-1))) (rw) (cn) (rl)) hx hb hK hP hD hS 6 rfl (by omega) (by decide) (by first | rfl | (rw [updN_nI]; rfl)) dX0_add_57 (fun H locs hP hD hS => ?_)
    refine lv_aload_n hx hb dX0_add_58 rfl (lv_at hl 1 rfl) ?_
    refine g_get (v := .ref (K 7)) hx hb hts hown hK hP 0 rfl rfl gu_wsX00 6 (by decide) gm_3_23 rfl dX0_add_59 ?_
    refine lv_iload_n hx hb dX0_add_62 rfl (lv_at hl 0 rfl) ?_
    refine lv_iconst (v := nI (0)) hx hb dX0_add_63 gc_0 ?_
    refine g_iast (ws' := kw cA K (va_up (va_up (va_up (va_up (va_up (va_up (va_up (kf) 0 (upd (kf 0) (cn) (a))) 1 (upd (kf 1) (cn) (b))) 2 (upd (kf 2) (cn) (nI (0)))) 3 (upd (kf 3) (cn) (nI (0)))) 4 (upd (kf 4) (cn) (-1))) 5 (upd (kf 5) (cn) (-1))) 6 (upd (kf 6) (cn) (nI (0)))) (rw) (cn) (rl)) hx hb hK hP hD hS 7 rfl (by omega) (by decide) (by first | rfl | (rw [updN_nI]; rfl)) dX0_add_64 (fun H locs hP hD hS => ?_)
    refine lv_aload_n hx hb dX0_add_65 rfl (lv_at hl 1 rfl) ?_
    refine g_get (v := .ref (K 8)) hx hb hts hown hK hP 0 rfl rfl gu_wsX00 7 (by decide) gm_4_0 rfl dX0_add_66 ?_
    refine lv_iload_n hx hb dX0_add_69 rfl (lv_at hl 0 rfl) ?_
    refine lv_iconst (v := nI (0)) hx hb dX0_add_70 gc_0 ?_
    refine g_iast (ws' := kw cA K (va_up (va_up (va_up (va_up (va_up (va_up (va_up (va_up (kf) 0 (upd (kf 0) (cn) (a))) 1 (upd (kf 1) (cn) (b))) 2 (upd (kf 2) (cn) (nI (0)))) 3 (upd (kf 3) (cn) (nI (0)))) 4 (upd (kf 4) (cn) (-1))) 5 (upd (kf 5) (cn) (-1))) 6 (upd (kf 6) (cn) (nI (0)))) 7 (upd (kf 7) (cn) (nI (0)))) (rw) (cn) (rl)) hx hb hK hP hD hS 8 rfl (by omega) (by decide) (by first | rfl | (rw [updN_nI]; rfl)) dX0_add_71 (fun H locs hP hD hS => ?_)
    refine lv_aload_n hx hb dX0_add_72 rfl (lv_at hl 1 rfl) ?_
    refine lv_dup hx hb dX0_add_73 rfl ?_
    refine g_get (v := .int (nI (cn))) hx hb hts hown hK hP 0 rfl rfl gu_wsX00 9 (by decide) gm_4_2 rfl dX0_add_74 ?_
    refine lv_iconst (v := nI (1)) hx hb dX0_add_77 gc_1 ?_
    refine g_iadd hx hb dX0_add_78 ?_
    refine g_put (ws' := kw cA K (va_up (va_up (va_up (va_up (va_up (va_up (va_up (va_up (kf) 0 (upd (kf 0) (cn) (a))) 1 (upd (kf 1) (cn) (b))) 2 (upd (kf 2) (cn) (nI (0)))) 3 (upd (kf 3) (cn) (nI (0)))) 4 (upd (kf 4) (cn) (-1))) 5 (upd (kf 5) (cn) (-1))) 6 (upd (kf 6) (cn) (nI (0)))) 7 (upd (kf 7) (cn) (nI (0)))) (rw) (cn + 1) (rl)) hx hb hts hown hK hP hD hS 0 rfl rfl gu_wsX00 tyX0_ok nmX0 9 (by decide) gm_4_2 rfl rfl rfl (Nat.le_of_ble_eq_true rfl) (by first | rfl | (rw [updN_nI]; rfl)) dX0_add_79 (fun H locs hP hD hS => ?_)
    refine lv_iload_n hx hb dX0_add_82 rfl (lv_at hl 0 rfl) ?_
    exact g_iretW (v := nI (cn)) hx hb hr hlk hS dX0_add_83 (⟨rfl, hP⟩)
  · have d_1 : 10 ≤ cn := Nat.not_lt.mp c_1
    exact absurd c_1 (by omega)

set_option maxHeartbeats 1000000 in
set_option maxRecDepth 100000 in
theorem c_X3_thinkOver (l : Launch) (D : va_G) (cA : Nat → ClassId) (J : Nat → Nat) (jf : Nat → Nat → Int32) (jn : Nat) (panel merit : Int32) (hA : aInj 5 J) (hjn : jn ≤ 9) : Met l yX3_thinkOver (gw yX3_thinkOver cX3_thinkOver 6 (some .int)) ({ frames := 1, cells := 0, slots := 0, locals := 22 } : Room) (gPc [.ref (J 0), .int (panel), .int (merit)] (fun H => va_P D vwCl (jw cA J (jf) (jn)) H) D cA) (wrI (fun r H => r = nI (toS panel merit (jf 1) (jf 0) jn).1 ∧ va_P D vwCl (jw cA J (va_up jf 0 ((toS panel merit (jf 1) (jf 0) jn).2)) jn) H) (aS 5 J)) 0 0 (aS 5 J) := by
  refine gOf (by decide) (Nat.le_of_ble_eq_true rfl) ?_
  intro p e s m below meth c ls hx hb hml hr hlk hown hts hnm hP hK hl
  have hl : lv_has ls 6 [(0, .ref (J 0)), (1, .int (panel)), (2, .int (merit))] := hl
  have hD : va_D (aS 5 J) (jw cA J (jf) (jn)) := jwD hA
  have hS : va_S (aS 5 J) s.heap s.heap [] := va_S.rf
  refine lv_iconst (v := nI (0)) hx hb dX3_thinkOver_0 gc_0 ?_
  refine lv_istore_n (lv' := [(3, .int (nI (0))), (0, .ref (J 0)), (1, .int (panel)), (2, .int (merit))]) hx hb dX3_thinkOver_1 rfl hl (by decide) rfl (fun ls hl => ?_)
  refine lv_iconst (v := nI (0)) hx hb dX3_thinkOver_2 gc_0 ?_
  refine lv_istore (lv' := [(4, .int (nI (0))), (3, .int (nI (0))), (0, .ref (J 0)), (1, .int (panel)), (2, .int (merit))]) hx hb dX3_thinkOver_3 hl (by decide) rfl (fun ls hl => ?_)
  have LP_6 : ∀ (n_2 i_1 : Nat) (x_3 x_4 : Int32) (F_5 : Nat → Int32) (H : Heap) (locs : List Loc), i_1 ≤ jn → jn + 1 ≤ i_1 + n_2 → x_3 = nI (i_1) → x_4 = nI ((toS panel merit (jf 1) (jf 0) i_1).1) → F_5 = (toS panel merit (jf 1) (jf 0) i_1).2 → va_P D vwCl (jw cA J (va_up (jf) 0 (F_5)) (jn)) H → va_S (aS 5 J) s.heap H locs → ∀ (ls : Array Slot), lv_has ls 6 [(4, .int (x_3)), (3, .int (x_4)), (0, .ref (J 0)), (1, .int (panel)), (2, .int (merit))] → W p l e ({ frames := 1, cells := 0, slots := 0, locals := 22 } : Room) s m ([.ref (J 0), .int (panel), .int (merit)] : List Value).toArray below meth c H locs 0 0 (MQ below (wrI (fun r H => r = nI (toS panel merit (jf 1) (jf 0) jn).1 ∧ va_P D vwCl (jw cA J (va_up jf 0 ((toS panel merit (jf 1) (jf 0) jn).2)) jn) H) (aS 5 J)) ([.ref (J 0), .int (panel), .int (merit)] : List Value).toArray s 0 0 (aS 5 J)) (F0 m 5 ls []) := by
    intro n_2
    induction n_2 with
    | zero => intro i_1 x_3 x_4 F_5 H locs h1 h2; exact absurd h2 (by omega)
    | succ n_2 ih_7 =>
      intro i_1 x_3 x_4 F_5 H locs h_8 h_9 e_10 e_11 e_12 hP hS ls hl
      subst e_10
      subst e_11
      subst e_12
      have hD : va_D (aS 5 J) (jw cA J (va_up (jf) 0 ((toS panel merit (jf 1) (jf 0) i_1).2)) (jn)) := jwD hA
      refine lv_iload hx hb dX3_thinkOver_5 (lv_at hl 0 rfl) ?_
      refine lv_aload_n hx hb dX3_thinkOver_7 rfl (lv_at hl 2 rfl) ?_
      refine g_get (v := .int (nI (jn))) hx hb hts hown hK hP 0 rfl rfl gu_wsX30 4 (by decide) gm_3_13 rfl dX3_thinkOver_8 ?_
      refine g_icmp_ge (P := jn ≤ i_1) (tgt := 89) hx hb dX3_thinkOver_11 (by decide) (nI_leI (by omega) (by omega)) (fun c_13 => ?_) (fun c_13 => ?_)
      · have d_13 : ¬ i_1 < jn := Nat.not_lt.mpr c_13
        have hN_14 : jn = i_1 := by omega
        subst hN_14
        refine lv_iload_n hx hb dX3_thinkOver_89 rfl (lv_at hl 1 rfl) ?_
        exact g_iretW (v := nI ((toS panel merit (jf 1) (jf 0) (jn)).1)) hx hb hr hlk hS dX3_thinkOver_90 (⟨rfl, hP⟩)
      · have d_13 : i_1 < jn := Nat.not_le.mp c_13
        refine lv_iload_n hx hb dX3_thinkOver_14 rfl (lv_at hl 3 rfl) ?_
        refine lv_iload hx hb dX3_thinkOver_15 (lv_at hl 0 rfl) ?_
        refine rd_calle (va_runSN (As := [.int (panel), .int (nI (i_1))]) (rest := []) ⟨hx, hb, hml, hown, hts⟩ (c_X7_isIn l D cA (panel) (i_1)) ⟨(va_cnB 2 hts (gWN gm_12_9) rfl rfl rfl (hK.2 _ (List.mem_of_getElem? (i := 10) rfl)) (hts _ (List.mem_cons_of_mem _ gm_1_2)) (by decide +kernel) ⟨Nat.le_of_ble_eq_true rfl, Nat.le_of_ble_eq_true rfl⟩), hts _ (List.mem_cons_of_mem _ gm_12_8), trivial⟩ (gPreS hK trivial) rfl rfl hl.1 rfl (lv_room (Nat.le_of_ble_eq_true rfl)) dX3_thinkOver_17 ⟨by omega, by omega⟩) ?_
        refine g_if_eq (P := hs (panel) (i_1) = false) (tgt := 83) hx hb dX3_thinkOver_20 (by decide) b2i_0 (fun c_15 => ?_) (fun c_15 => ?_)
        · refine lv_iinc (v := nI (i_1 + 1)) (lv' := [(4, .int (nI (i_1 + 1))), (3, .int (nI ((toS panel merit (jf 1) (jf 0) i_1).1))), (0, .ref (J 0)), (1, .int (panel)), (2, .int (merit))]) hx hb dX3_thinkOver_83 hl (k := 0) rfl (inc_1 _) (by decide) rfl (fun ls hl => ?_)
          refine lv_goto (tgt := 5) hx hb dX3_thinkOver_86 (by decide) ?_
          exact ih_7 (i_1 + 1) _ _ ((toS panel merit (jf 1) (jf 0) i_1).2) H locs (by omega) (by omega) rfl (by rw [toS_no c_15]) (by rw [toS_no c_15]) hP hS ls (lv_sub hl [0, 1, 2, 3, 4] rfl)
        · have c_15 : hs (panel) (i_1) = true := eq_true_of_ne_false c_15
          refine lv_aload_n hx hb dX3_thinkOver_23 rfl (lv_at hl 2 rfl) ?_
          refine lv_iload hx hb dX3_thinkOver_24 (lv_at hl 0 rfl) ?_
          refine lv_iload_n hx hb dX3_thinkOver_26 rfl (lv_at hl 4 rfl) ?_
          refine rd_calle (va_runV (As := [.int (nI (i_1)), .int (merit)]) (rest := []) ⟨hx, hb, hml, hown, hts⟩ (c_X3_opinion l D cA J (va_up (jf) 0 ((toS panel merit (jf 1) (jf 0) i_1).2)) (jn) (i_1) (merit)  (by omega)) (cwV 2 hts (gWV gm_16_19 gm_16_20 gm_16_21 gm_2_5 gm_16_22) rfl rfl rfl (by decide +kernel) ⟨Nat.le_of_ble_eq_true rfl, Nat.le_of_ble_eq_true rfl⟩) (gPreV hK (g_rf hK hP (ci := 5) (q0 := 0) rfl rfl) hP) rfl rfl hl.1 rfl (lv_room (Nat.le_of_ble_eq_true rfl)) dX3_thinkOver_27 ⟨by omega, by omega⟩) ?_
          refine lv_iconst (v := nI (1)) hx hb dX3_thinkOver_30 gc_1 ?_
          refine g_icmp_ne (P := opC (forB (merit) (((toS panel merit (jf 1) (jf 0) i_1).2) (i_1)) (jf 1 (i_1))) = 1) (tgt := 46) hx hb dX3_thinkOver_31 (by decide) (nI_eq (Nat.lt_of_le_of_lt (opC_le _) (by decide)) (by omega)) (fun c_16 => ?_) (fun c_16 => ?_)
          · have cop_17 : forB (merit) (((toS panel merit (jf 1) (jf 0) i_1).2) (i_1)) (jf 1 (i_1)) = false := opC_n1 c_16
            refine lv_aload_n hx hb dX3_thinkOver_46 rfl (lv_at hl 2 rfl) ?_
            refine g_get (v := .ref (J 1)) hx hb hts hown hK hP 0 rfl rfl gu_wsX30 0 (by decide) gm_3_9 rfl dX3_thinkOver_47 ?_
            refine lv_iload hx hb dX3_thinkOver_50 (lv_at hl 0 rfl) ?_
            refine g_iald (x := ((toS panel merit (jf 1) (jf 0) i_1).2) (i_1)) hx hb hK hP 1 rfl (by omega) (by decide) rfl dX3_thinkOver_52 ?_
            refine lv_iconst (v := nI (1)) hx hb dX3_thinkOver_53 gc_1 ?_
            refine lv_iadd hx hb dX3_thinkOver_54 ?_
            refine lv_istore (lv' := [(5, .int ((((toS panel merit (jf 1) (jf 0) i_1).2) (i_1)) + (nI (1)))), (4, .int (nI (i_1))), (3, .int (nI ((toS panel merit (jf 1) (jf 0) i_1).1))), (0, .ref (J 0)), (1, .int (panel)), (2, .int (merit))]) hx hb dX3_thinkOver_55 hl (by decide) rfl (fun ls hl => ?_)
            refine lv_iload hx hb dX3_thinkOver_57 (lv_at hl 0 rfl) ?_
            refine lv_bipush (v := -9) hx hb dX3_thinkOver_59 gb_m9 ?_
            refine g_icmp_lt (P := (((toS panel merit (jf 1) (jf 0) i_1).2) (i_1)) + (nI (1)) < -9) (tgt := 83) hx hb dX3_thinkOver_61 (by decide) Iff.rfl (fun c_18 => ?_) (fun c_18 => ?_)
            · have d_18 : ¬ -9 ≤ (((toS panel merit (jf 1) (jf 0) i_1).2) (i_1)) + (nI (1)) := Int32.not_le.mpr c_18
              refine lv_iinc (v := nI (i_1 + 1)) (lv' := [(4, .int (nI (i_1 + 1))), (5, .int ((((toS panel merit (jf 1) (jf 0) i_1).2) (i_1)) + (nI (1)))), (3, .int (nI ((toS panel merit (jf 1) (jf 0) i_1).1))), (0, .ref (J 0)), (1, .int (panel)), (2, .int (merit))]) hx hb dX3_thinkOver_83 hl (k := 1) rfl (inc_1 _) (by decide) rfl (fun ls hl => ?_)
              refine lv_goto (tgt := 5) hx hb dX3_thinkOver_86 (by decide) ?_
              exact ih_7 (i_1 + 1) _ _ ((toS panel merit (jf 1) (jf 0) i_1).2) H locs (by omega) (by omega) rfl (by rw [toS_lo c_15 (mvF_f cop_17) c_18]) (by rw [toS_lo c_15 (mvF_f cop_17) c_18]) hP hS ls (lv_sub hl [0, 2, 3, 4, 5] rfl)
            · have d_18 : -9 ≤ (((toS panel merit (jf 1) (jf 0) i_1).2) (i_1)) + (nI (1)) := Int32.not_lt.mp c_18
              refine lv_iload hx hb dX3_thinkOver_64 (lv_at hl 0 rfl) ?_
              refine lv_bipush (v := nI (9)) hx hb dX3_thinkOver_66 gb_9 ?_
              refine g_icmp_gt (P := nI (9) < (((toS panel merit (jf 1) (jf 0) i_1).2) (i_1)) + (nI (1))) (tgt := 83) hx hb dX3_thinkOver_68 (by decide) Iff.rfl (fun c_19 => ?_) (fun c_19 => ?_)
              · have d_19 : ¬ (((toS panel merit (jf 1) (jf 0) i_1).2) (i_1)) + (nI (1)) ≤ nI (9) := Int32.not_le.mpr c_19
                refine lv_iinc (v := nI (i_1 + 1)) (lv' := [(4, .int (nI (i_1 + 1))), (5, .int ((((toS panel merit (jf 1) (jf 0) i_1).2) (i_1)) + (nI (1)))), (3, .int (nI ((toS panel merit (jf 1) (jf 0) i_1).1))), (0, .ref (J 0)), (1, .int (panel)), (2, .int (merit))]) hx hb dX3_thinkOver_83 hl (k := 1) rfl (inc_1 _) (by decide) rfl (fun ls hl => ?_)
                refine lv_goto (tgt := 5) hx hb dX3_thinkOver_86 (by decide) ?_
                exact ih_7 (i_1 + 1) _ _ ((toS panel merit (jf 1) (jf 0) i_1).2) H locs (by omega) (by omega) rfl (by rw [toS_hi c_15 (mvF_f cop_17) c_18 c_19]) (by rw [toS_hi c_15 (mvF_f cop_17) c_18 c_19]) hP hS ls (lv_sub hl [0, 2, 3, 4, 5] rfl)
              · have d_19 : (((toS panel merit (jf 1) (jf 0) i_1).2) (i_1)) + (nI (1)) ≤ nI (9) := Int32.not_lt.mp c_19
                refine lv_aload_n hx hb dX3_thinkOver_71 rfl (lv_at hl 3 rfl) ?_
                refine g_get (v := .ref (J 1)) hx hb hts hown hK hP 0 rfl rfl gu_wsX30 0 (by decide) gm_3_9 rfl dX3_thinkOver_72 ?_
                refine lv_iload hx hb dX3_thinkOver_75 (lv_at hl 1 rfl) ?_
                refine lv_iload hx hb dX3_thinkOver_77 (lv_at hl 0 rfl) ?_
                refine g_iast (ws' := jw cA J (va_up (jf) 0 (upd ((toS panel merit (jf 1) (jf 0) i_1).2) (i_1) ((((toS panel merit (jf 1) (jf 0) i_1).2) (i_1)) + (nI (1))))) (jn)) hx hb hK hP hD hS 1 rfl (by omega) (by decide) (by first | rfl | (rw [updN_nI]; rfl)) dX3_thinkOver_79 (fun H locs hP hD hS => ?_)
                refine lv_iinc (v := nI ((toS panel merit (jf 1) (jf 0) i_1).1 + 1)) (lv' := [(3, .int (nI ((toS panel merit (jf 1) (jf 0) i_1).1 + 1))), (5, .int ((((toS panel merit (jf 1) (jf 0) i_1).2) (i_1)) + (nI (1)))), (4, .int (nI (i_1))), (0, .ref (J 0)), (1, .int (panel)), (2, .int (merit))]) hx hb dX3_thinkOver_80 hl (k := 2) rfl (inc_1 _) (by decide) rfl (fun ls hl => ?_)
                refine lv_iinc (v := nI (i_1 + 1)) (lv' := [(4, .int (nI (i_1 + 1))), (3, .int (nI ((toS panel merit (jf 1) (jf 0) i_1).1 + 1))), (5, .int ((((toS panel merit (jf 1) (jf 0) i_1).2) (i_1)) + (nI (1)))), (0, .ref (J 0)), (1, .int (panel)), (2, .int (merit))]) hx hb dX3_thinkOver_83 hl (k := 2) rfl (inc_1 _) (by decide) rfl (fun ls hl => ?_)
                refine lv_goto (tgt := 5) hx hb dX3_thinkOver_86 (by decide) ?_
                exact ih_7 (i_1 + 1) _ _ (upd ((toS panel merit (jf 1) (jf 0) i_1).2) (i_1) ((((toS panel merit (jf 1) (jf 0) i_1).2) (i_1)) + (nI (1)))) H locs (by omega) (by omega) rfl (by rw [toS_up c_15 (mvF_f cop_17) c_18 c_19]) (by rw [toS_up c_15 (mvF_f cop_17) c_18 c_19]) hP hS ls (lv_sub hl [0, 1, 3, 4, 5] rfl)
          · have cop_20 : forB (merit) (((toS panel merit (jf 1) (jf 0) i_1).2) (i_1)) (jf 1 (i_1)) = true := (opC_1 _).mp c_16
            refine lv_aload_n hx hb dX3_thinkOver_34 rfl (lv_at hl 2 rfl) ?_
            refine g_get (v := .ref (J 1)) hx hb hts hown hK hP 0 rfl rfl gu_wsX30 0 (by decide) gm_3_9 rfl dX3_thinkOver_35 ?_
            refine lv_iload hx hb dX3_thinkOver_38 (lv_at hl 0 rfl) ?_
            refine g_iald (x := ((toS panel merit (jf 1) (jf 0) i_1).2) (i_1)) hx hb hK hP 1 rfl (by omega) (by decide) rfl dX3_thinkOver_40 ?_
            refine lv_iconst (v := nI (1)) hx hb dX3_thinkOver_41 gc_1 ?_
            refine lv_isub hx hb dX3_thinkOver_42 ?_
            refine lv_goto (tgt := 55) hx hb dX3_thinkOver_43 (by decide) ?_
            refine lv_istore (lv' := [(5, .int ((((toS panel merit (jf 1) (jf 0) i_1).2) (i_1)) - (nI (1)))), (4, .int (nI (i_1))), (3, .int (nI ((toS panel merit (jf 1) (jf 0) i_1).1))), (0, .ref (J 0)), (1, .int (panel)), (2, .int (merit))]) hx hb dX3_thinkOver_55 hl (by decide) rfl (fun ls hl => ?_)
            refine lv_iload hx hb dX3_thinkOver_57 (lv_at hl 0 rfl) ?_
            refine lv_bipush (v := -9) hx hb dX3_thinkOver_59 gb_m9 ?_
            refine g_icmp_lt (P := (((toS panel merit (jf 1) (jf 0) i_1).2) (i_1)) - (nI (1)) < -9) (tgt := 83) hx hb dX3_thinkOver_61 (by decide) Iff.rfl (fun c_21 => ?_) (fun c_21 => ?_)
            · have d_21 : ¬ -9 ≤ (((toS panel merit (jf 1) (jf 0) i_1).2) (i_1)) - (nI (1)) := Int32.not_le.mpr c_21
              refine lv_iinc (v := nI (i_1 + 1)) (lv' := [(4, .int (nI (i_1 + 1))), (5, .int ((((toS panel merit (jf 1) (jf 0) i_1).2) (i_1)) - (nI (1)))), (3, .int (nI ((toS panel merit (jf 1) (jf 0) i_1).1))), (0, .ref (J 0)), (1, .int (panel)), (2, .int (merit))]) hx hb dX3_thinkOver_83 hl (k := 1) rfl (inc_1 _) (by decide) rfl (fun ls hl => ?_)
              refine lv_goto (tgt := 5) hx hb dX3_thinkOver_86 (by decide) ?_
              exact ih_7 (i_1 + 1) _ _ ((toS panel merit (jf 1) (jf 0) i_1).2) H locs (by omega) (by omega) rfl (by rw [toS_lo c_15 (mvF_t cop_20) c_21]) (by rw [toS_lo c_15 (mvF_t cop_20) c_21]) hP hS ls (lv_sub hl [0, 2, 3, 4, 5] rfl)
            · have d_21 : -9 ≤ (((toS panel merit (jf 1) (jf 0) i_1).2) (i_1)) - (nI (1)) := Int32.not_lt.mp c_21
              refine lv_iload hx hb dX3_thinkOver_64 (lv_at hl 0 rfl) ?_
              refine lv_bipush (v := nI (9)) hx hb dX3_thinkOver_66 gb_9 ?_
              refine g_icmp_gt (P := nI (9) < (((toS panel merit (jf 1) (jf 0) i_1).2) (i_1)) - (nI (1))) (tgt := 83) hx hb dX3_thinkOver_68 (by decide) Iff.rfl (fun c_22 => ?_) (fun c_22 => ?_)
              · have d_22 : ¬ (((toS panel merit (jf 1) (jf 0) i_1).2) (i_1)) - (nI (1)) ≤ nI (9) := Int32.not_le.mpr c_22
                refine lv_iinc (v := nI (i_1 + 1)) (lv' := [(4, .int (nI (i_1 + 1))), (5, .int ((((toS panel merit (jf 1) (jf 0) i_1).2) (i_1)) - (nI (1)))), (3, .int (nI ((toS panel merit (jf 1) (jf 0) i_1).1))), (0, .ref (J 0)), (1, .int (panel)), (2, .int (merit))]) hx hb dX3_thinkOver_83 hl (k := 1) rfl (inc_1 _) (by decide) rfl (fun ls hl => ?_)
                refine lv_goto (tgt := 5) hx hb dX3_thinkOver_86 (by decide) ?_
                exact ih_7 (i_1 + 1) _ _ ((toS panel merit (jf 1) (jf 0) i_1).2) H locs (by omega) (by omega) rfl (by rw [toS_hi c_15 (mvF_t cop_20) c_21 c_22]) (by rw [toS_hi c_15 (mvF_t cop_20) c_21 c_22]) hP hS ls (lv_sub hl [0, 2, 3, 4, 5] rfl)
              · have d_22 : (((toS panel merit (jf 1) (jf 0) i_1).2) (i_1)) - (nI (1)) ≤ nI (9) := Int32.not_lt.mp c_22
                refine lv_aload_n hx hb dX3_thinkOver_71 rfl (lv_at hl 3 rfl) ?_
                refine g_get (v := .ref (J 1)) hx hb hts hown hK hP 0 rfl rfl gu_wsX30 0 (by decide) gm_3_9 rfl dX3_thinkOver_72 ?_
                refine lv_iload hx hb dX3_thinkOver_75 (lv_at hl 1 rfl) ?_
                refine lv_iload hx hb dX3_thinkOver_77 (lv_at hl 0 rfl) ?_
                refine g_iast (ws' := jw cA J (va_up (jf) 0 (upd ((toS panel merit (jf 1) (jf 0) i_1).2) (i_1) ((((toS panel merit (jf 1) (jf 0) i_1).2) (i_1)) - (nI (1))))) (jn)) hx hb hK hP hD hS 1 rfl (by omega) (by decide) (by first | rfl | (rw [updN_nI]; rfl)) dX3_thinkOver_79 (fun H locs hP hD hS => ?_)
                refine lv_iinc (v := nI ((toS panel merit (jf 1) (jf 0) i_1).1 + 1)) (lv' := [(3, .int (nI ((toS panel merit (jf 1) (jf 0) i_1).1 + 1))), (5, .int ((((toS panel merit (jf 1) (jf 0) i_1).2) (i_1)) - (nI (1)))), (4, .int (nI (i_1))), (0, .ref (J 0)), (1, .int (panel)), (2, .int (merit))]) hx hb dX3_thinkOver_80 hl (k := 2) rfl (inc_1 _) (by decide) rfl (fun ls hl => ?_)
                refine lv_iinc (v := nI (i_1 + 1)) (lv' := [(4, .int (nI (i_1 + 1))), (3, .int (nI ((toS panel merit (jf 1) (jf 0) i_1).1 + 1))), (5, .int ((((toS panel merit (jf 1) (jf 0) i_1).2) (i_1)) - (nI (1)))), (0, .ref (J 0)), (1, .int (panel)), (2, .int (merit))]) hx hb dX3_thinkOver_83 hl (k := 2) rfl (inc_1 _) (by decide) rfl (fun ls hl => ?_)
                refine lv_goto (tgt := 5) hx hb dX3_thinkOver_86 (by decide) ?_
                exact ih_7 (i_1 + 1) _ _ (upd ((toS panel merit (jf 1) (jf 0) i_1).2) (i_1) ((((toS panel merit (jf 1) (jf 0) i_1).2) (i_1)) - (nI (1)))) H locs (by omega) (by omega) rfl (by rw [toS_up c_15 (mvF_t cop_20) c_21 c_22]) (by rw [toS_up c_15 (mvF_t cop_20) c_21 c_22]) hP hS ls (lv_sub hl [0, 1, 3, 4, 5] rfl)
  exact LP_6 (jn + 1) 0 _ _ (jf 0) s.heap [] (by omega) (by omega) rfl rfl rfl hP hS ls (lv_sub hl [0, 1, 2, 3, 4] rfl)

set_option maxHeartbeats 1000000 in
set_option maxRecDepth 100000 in
theorem c_X3_takeVerdict (l : Launch) (D : va_G) (cA : Nat → ClassId) (J : Nat → Nat) (jf : Nat → Nat → Int32) (jn : Nat) (panel merit : Int32) (vd : Nat) (hA : aInj 5 J) (hjn : jn ≤ 9) (hvd : vd ≤ 2) : Met l yX3_takeVerdict (gw yX3_takeVerdict cX3_takeVerdict 6 none) ({ frames := 1, cells := 0, slots := 0, locals := 23 } : Room) (gPc [.ref (J 0), .int (panel), .int (merit), .int (nI (vd))] (fun H => va_P D vwCl (jw cA J (jf) (jn)) H) D cA) (wrV (fun H => va_P D vwCl (jw cA J (va_up (va_up (va_up jf 1 ((tvS panel merit vd (jf 0) (jf 1, (jf 2, jf 3)) jn).1)) 2 ((tvS panel merit vd (jf 0) (jf 1, (jf 2, jf 3)) jn).2.1)) 3 ((tvS panel merit vd (jf 0) (jf 1, (jf 2, jf 3)) jn).2.2)) jn) H) (aS 5 J)) 0 0 (aS 5 J) := by
  refine gOf (by decide) (Nat.le_of_ble_eq_true rfl) ?_
  intro p e s m below meth c ls hx hb hml hr hlk hown hts hnm hP hK hl
  have hl : lv_has ls 6 [(0, .ref (J 0)), (1, .int (panel)), (2, .int (merit)), (3, .int (nI (vd)))] := hl
  have hD : va_D (aS 5 J) (jw cA J (jf) (jn)) := jwD hA
  have hS : va_S (aS 5 J) s.heap s.heap [] := va_S.rf
  refine lv_iconst (v := nI (0)) hx hb dX3_takeVerdict_0 gc_0 ?_
  refine lv_istore (lv' := [(4, .int (nI (0))), (0, .ref (J 0)), (1, .int (panel)), (2, .int (merit)), (3, .int (nI (vd)))]) hx hb dX3_takeVerdict_1 hl (by decide) rfl (fun ls hl => ?_)
  have LP_7 : ∀ (n_2 i_1 : Nat) (x_3 : Int32) (F_4 : Nat → Int32) (F_5 : Nat → Int32) (F_6 : Nat → Int32) (H : Heap) (locs : List Loc), i_1 ≤ jn → jn + 1 ≤ i_1 + n_2 → x_3 = nI (i_1) → F_4 = (tvS panel merit vd (jf 0) (jf 1, (jf 2, jf 3)) i_1).1 → F_5 = (tvS panel merit vd (jf 0) (jf 1, (jf 2, jf 3)) i_1).2.1 → F_6 = (tvS panel merit vd (jf 0) (jf 1, (jf 2, jf 3)) i_1).2.2 → va_P D vwCl (jw cA J (va_up (va_up (va_up (jf) 1 (F_4)) 2 (F_5)) 3 (F_6)) (jn)) H → va_S (aS 5 J) s.heap H locs → ∀ (ls : Array Slot), lv_has ls 6 [(4, .int (x_3)), (0, .ref (J 0)), (1, .int (panel)), (2, .int (merit)), (3, .int (nI (vd)))] → W p l e ({ frames := 1, cells := 0, slots := 0, locals := 23 } : Room) s m ([.ref (J 0), .int (panel), .int (merit), .int (nI (vd))] : List Value).toArray below meth c H locs 0 0 (MQ below (wrV (fun H => va_P D vwCl (jw cA J (va_up (va_up (va_up jf 1 ((tvS panel merit vd (jf 0) (jf 1, (jf 2, jf 3)) jn).1)) 2 ((tvS panel merit vd (jf 0) (jf 1, (jf 2, jf 3)) jn).2.1)) 3 ((tvS panel merit vd (jf 0) (jf 1, (jf 2, jf 3)) jn).2.2)) jn) H) (aS 5 J)) ([.ref (J 0), .int (panel), .int (merit), .int (nI (vd))] : List Value).toArray s 0 0 (aS 5 J)) (F0 m 3 ls []) := by
    intro n_2
    induction n_2 with
    | zero => intro i_1 x_3 F_4 F_5 F_6 H locs h1 h2; exact absurd h2 (by omega)
    | succ n_2 ih_8 =>
      intro i_1 x_3 F_4 F_5 F_6 H locs h_9 h_10 e_11 e_12 e_13 e_14 hP hS ls hl
      subst e_11
      subst e_12
      subst e_13
      subst e_14
      have hD : va_D (aS 5 J) (jw cA J (va_up (va_up (va_up (jf) 1 ((tvS panel merit vd (jf 0) (jf 1, (jf 2, jf 3)) i_1).1)) 2 ((tvS panel merit vd (jf 0) (jf 1, (jf 2, jf 3)) i_1).2.1)) 3 ((tvS panel merit vd (jf 0) (jf 1, (jf 2, jf 3)) i_1).2.2)) (jn)) := jwD hA
      refine lv_iload hx hb dX3_takeVerdict_3 (lv_at hl 0 rfl) ?_
      refine lv_aload_n hx hb dX3_takeVerdict_5 rfl (lv_at hl 1 rfl) ?_
      refine g_get (v := .int (nI (jn))) hx hb hts hown hK hP 0 rfl rfl gu_wsX30 4 (by decide) gm_3_13 rfl dX3_takeVerdict_6 ?_
      refine g_icmp_ge (P := jn ≤ i_1) (tgt := 118) hx hb dX3_takeVerdict_9 (by decide) (nI_leI (by omega) (by omega)) (fun c_15 => ?_) (fun c_15 => ?_)
      · have d_15 : ¬ i_1 < jn := Nat.not_lt.mpr c_15
        have hN_16 : jn = i_1 := by omega
        subst hN_16
        exact g_vretW hx hb hr hlk hS dX3_takeVerdict_118 (hP)
      · have d_15 : i_1 < jn := Nat.not_le.mp c_15
        refine lv_iload_n hx hb dX3_takeVerdict_12 rfl (lv_at hl 2 rfl) ?_
        refine lv_iload hx hb dX3_takeVerdict_13 (lv_at hl 0 rfl) ?_
        refine rd_calle (va_runSN (As := [.int (panel), .int (nI (i_1))]) (rest := []) ⟨hx, hb, hml, hown, hts⟩ (c_X7_isIn l D cA (panel) (i_1)) ⟨(va_cnB 2 hts (gWN gm_12_9) rfl rfl rfl (hK.2 _ (List.mem_of_getElem? (i := 10) rfl)) (hts _ (List.mem_cons_of_mem _ gm_1_2)) (by decide +kernel) ⟨Nat.le_of_ble_eq_true rfl, Nat.le_of_ble_eq_true rfl⟩), hts _ (List.mem_cons_of_mem _ gm_12_8), trivial⟩ (gPreS hK trivial) rfl rfl hl.1 rfl (lv_room (Nat.le_of_ble_eq_true rfl)) dX3_takeVerdict_15 ⟨by omega, by omega⟩) ?_
        refine g_if_eq (P := hs (panel) (i_1) = false) (tgt := 112) hx hb dX3_takeVerdict_18 (by decide) b2i_0 (fun c_17 => ?_) (fun c_17 => ?_)
        · refine lv_iinc (v := nI (i_1 + 1)) (lv' := [(4, .int (nI (i_1 + 1))), (0, .ref (J 0)), (1, .int (panel)), (2, .int (merit)), (3, .int (nI (vd)))]) hx hb dX3_takeVerdict_112 hl (k := 0) rfl (inc_1 _) (by decide) rfl (fun ls hl => ?_)
          refine lv_goto (tgt := 3) hx hb dX3_takeVerdict_115 (by decide) ?_
          exact ih_8 (i_1 + 1) _ ((tvS panel merit vd (jf 0) (jf 1, (jf 2, jf 3)) i_1).1) ((tvS panel merit vd (jf 0) (jf 1, (jf 2, jf 3)) i_1).2.1) ((tvS panel merit vd (jf 0) (jf 1, (jf 2, jf 3)) i_1).2.2) H locs (by omega) (by omega) rfl (by rw [tvS_no c_17]) (by rw [tvS_no c_17]) (by rw [tvS_no c_17]) hP hS ls (lv_sub hl [0, 1, 2, 3, 4] rfl)
        · have c_17 : hs (panel) (i_1) = true := eq_true_of_ne_false c_17
          refine lv_aload_n hx hb dX3_takeVerdict_21 rfl (lv_at hl 1 rfl) ?_
          refine lv_iload hx hb dX3_takeVerdict_22 (lv_at hl 0 rfl) ?_
          refine lv_iload_n hx hb dX3_takeVerdict_24 rfl (lv_at hl 3 rfl) ?_
          refine rd_calle (va_runV (As := [.int (nI (i_1)), .int (merit)]) (rest := []) ⟨hx, hb, hml, hown, hts⟩ (c_X3_opinion l D cA J (va_up (va_up (va_up (jf) 1 ((tvS panel merit vd (jf 0) (jf 1, (jf 2, jf 3)) i_1).1)) 2 ((tvS panel merit vd (jf 0) (jf 1, (jf 2, jf 3)) i_1).2.1)) 3 ((tvS panel merit vd (jf 0) (jf 1, (jf 2, jf 3)) i_1).2.2)) (jn) (i_1) (merit)  (by omega)) (cwV 2 hts (gWV gm_16_19 gm_16_20 gm_16_21 gm_2_5 gm_16_22) rfl rfl rfl (by decide +kernel) ⟨Nat.le_of_ble_eq_true rfl, Nat.le_of_ble_eq_true rfl⟩) (gPreV hK (g_rf hK hP (ci := 5) (q0 := 0) rfl rfl) hP) rfl rfl hl.1 rfl (lv_room (Nat.le_of_ble_eq_true rfl)) dX3_takeVerdict_25 ⟨by omega, by omega⟩) ?_
          refine lv_iload_n hx hb dX3_takeVerdict_28 rfl (lv_at hl 4 rfl) ?_
          have hle_18 := opC_le (forB (merit) (jf 0 (i_1)) (((tvS panel merit vd (jf 0) (jf 1, (jf 2, jf 3)) i_1).1) (i_1)))
          refine g_icmp_eq (P := opC (forB (merit) (jf 0 (i_1)) (((tvS panel merit vd (jf 0) (jf 1, (jf 2, jf 3)) i_1).1) (i_1))) = vd) (tgt := 36) hx hb dX3_takeVerdict_29 (by decide) (nI_eq (Nat.lt_of_le_of_lt (opC_le _) (by decide)) (by omega)) (fun c_19 => ?_) (fun c_19 => ?_)
          · refine lv_iconst (v := nI (0)) hx hb dX3_takeVerdict_36 gc_0 ?_
            refine lv_istore (lv' := [(5, .int (nI (0))), (4, .int (nI (i_1))), (0, .ref (J 0)), (1, .int (panel)), (2, .int (merit)), (3, .int (nI (vd)))]) hx hb dX3_takeVerdict_37 hl (by decide) rfl (fun ls hl => ?_)
            refine lv_aload_n hx hb dX3_takeVerdict_39 rfl (lv_at hl 2 rfl) ?_
            refine g_get (v := .ref (J 3)) hx hb hts hown hK hP 0 rfl rfl gu_wsX30 2 (by decide) gm_3_11 rfl dX3_takeVerdict_40 ?_
            refine lv_iload hx hb dX3_takeVerdict_43 (lv_at hl 1 rfl) ?_
            refine lv_dup2_11 hx hb dX3_takeVerdict_45 rfl rfl ?_
            refine g_iald (x := ((tvS panel merit vd (jf 0) (jf 1, (jf 2, jf 3)) i_1).2.1) (i_1)) hx hb hK hP 3 rfl (by omega) (by decide) rfl dX3_takeVerdict_46 ?_
            refine lv_iconst (v := nI (1)) hx hb dX3_takeVerdict_47 gc_1 ?_
            refine lv_iadd hx hb dX3_takeVerdict_48 ?_
            refine g_iast (ws' := jw cA J (va_up (va_up (va_up (jf) 1 ((tvS panel merit vd (jf 0) (jf 1, (jf 2, jf 3)) i_1).1)) 2 (upd ((tvS panel merit vd (jf 0) (jf 1, (jf 2, jf 3)) i_1).2.1) (i_1) ((((tvS panel merit vd (jf 0) (jf 1, (jf 2, jf 3)) i_1).2.1) (i_1)) + (nI (1))))) 3 ((tvS panel merit vd (jf 0) (jf 1, (jf 2, jf 3)) i_1).2.2)) (jn)) hx hb hK hP hD hS 3 rfl (by omega) (by decide) (by first | rfl | (rw [updN_nI]; rfl)) dX3_takeVerdict_49 (fun H locs hP hD hS => ?_)
            refine lv_aload_n hx hb dX3_takeVerdict_50 rfl (lv_at hl 2 rfl) ?_
            refine g_get (v := .ref (J 4)) hx hb hts hown hK hP 0 rfl rfl gu_wsX30 3 (by decide) gm_3_12 rfl dX3_takeVerdict_51 ?_
            refine lv_iload hx hb dX3_takeVerdict_54 (lv_at hl 1 rfl) ?_
            refine lv_dup2_11 hx hb dX3_takeVerdict_56 rfl rfl ?_
            refine g_iald (x := ((tvS panel merit vd (jf 0) (jf 1, (jf 2, jf 3)) i_1).2.2) (i_1)) hx hb hK hP 4 rfl (by omega) (by decide) rfl dX3_takeVerdict_57 ?_
            refine lv_iload hx hb dX3_takeVerdict_58 (lv_at hl 0 rfl) ?_
            refine g_if_eq (P := 0 = 0) (tgt := 67) hx hb dX3_takeVerdict_60 (by decide) (nI_z (by omega)) (fun c_20 => ?_) (fun c_20 => ?_)
            · refine lv_iconst (v := nI (0)) hx hb dX3_takeVerdict_67 gc_0 ?_
              refine lv_iadd hx hb dX3_takeVerdict_68 ?_
              refine g_iast (ws' := jw cA J (va_up (va_up (va_up (jf) 1 ((tvS panel merit vd (jf 0) (jf 1, (jf 2, jf 3)) i_1).1)) 2 (upd ((tvS panel merit vd (jf 0) (jf 1, (jf 2, jf 3)) i_1).2.1) (i_1) ((((tvS panel merit vd (jf 0) (jf 1, (jf 2, jf 3)) i_1).2.1) (i_1)) + (nI (1))))) 3 (upd ((tvS panel merit vd (jf 0) (jf 1, (jf 2, jf 3)) i_1).2.2) (i_1) ((((tvS panel merit vd (jf 0) (jf 1, (jf 2, jf 3)) i_1).2.2) (i_1)) + (nI (0))))) (jn)) hx hb hK hP hD hS 4 rfl (by omega) (by decide) (by first | rfl | (rw [updN_nI]; rfl)) dX3_takeVerdict_69 (fun H locs hP hD hS => ?_)
              refine lv_aload_n hx hb dX3_takeVerdict_70 rfl (lv_at hl 2 rfl) ?_
              refine g_get (v := .ref (J 2)) hx hb hts hown hK hP 0 rfl rfl gu_wsX30 1 (by decide) gm_3_10 rfl dX3_takeVerdict_71 ?_
              refine lv_iload hx hb dX3_takeVerdict_74 (lv_at hl 1 rfl) ?_
              refine lv_iload hx hb dX3_takeVerdict_76 (lv_at hl 0 rfl) ?_
              refine g_if_eq (P := 0 = 0) (tgt := 98) hx hb dX3_takeVerdict_78 (by decide) (nI_z (by omega)) (fun c_21 => ?_) (fun c_21 => ?_)
              · refine lv_aload_n hx hb dX3_takeVerdict_98 rfl (lv_at hl 2 rfl) ?_
                refine g_get (v := .ref (J 2)) hx hb hts hown hK hP 0 rfl rfl gu_wsX30 1 (by decide) gm_3_10 rfl dX3_takeVerdict_99 ?_
                refine lv_iload hx hb dX3_takeVerdict_102 (lv_at hl 1 rfl) ?_
                refine g_iald (x := ((tvS panel merit vd (jf 0) (jf 1, (jf 2, jf 3)) i_1).1) (i_1)) hx hb hK hP 2 rfl (by omega) (by decide) rfl dX3_takeVerdict_104 ?_
                refine lv_iconst (v := nI (1)) hx hb dX3_takeVerdict_105 gc_1 ?_
                refine lv_isub hx hb dX3_takeVerdict_106 ?_
                refine lv_iconst (v := nI (0)) hx hb dX3_takeVerdict_107 gc_0 ?_
                refine va_mmax hx hb (hml.trans hl.1.symm) hown (hts _ (List.mem_cons_of_mem _ gm_17_4)) (hts _ (List.mem_cons_of_mem _ gm_17_5)) (hts _ (List.mem_cons_of_mem _ gm_8_10)) (hts _ (List.mem_cons_of_mem _ gm_17_6)) (by decide) (Nat.le_of_ble_eq_true rfl) (Nat.zero_le _) (Nat.zero_le _) dX3_takeVerdict_108 ?_
                refine g_iast (ws' := jw cA J (va_up (va_up (va_up (jf) 1 (upd ((tvS panel merit vd (jf 0) (jf 1, (jf 2, jf 3)) i_1).1) (i_1) ((if (((tvS panel merit vd (jf 0) (jf 1, (jf 2, jf 3)) i_1).1) (i_1)) - (nI (1)) < nI (0) then nI (0) else (((tvS panel merit vd (jf 0) (jf 1, (jf 2, jf 3)) i_1).1) (i_1)) - (nI (1)))))) 2 (upd ((tvS panel merit vd (jf 0) (jf 1, (jf 2, jf 3)) i_1).2.1) (i_1) ((((tvS panel merit vd (jf 0) (jf 1, (jf 2, jf 3)) i_1).2.1) (i_1)) + (nI (1))))) 3 (upd ((tvS panel merit vd (jf 0) (jf 1, (jf 2, jf 3)) i_1).2.2) (i_1) ((((tvS panel merit vd (jf 0) (jf 1, (jf 2, jf 3)) i_1).2.2) (i_1)) + (nI (0))))) (jn)) hx hb hK hP hD hS 2 rfl (by omega) (by decide) (by first | rfl | (rw [updN_nI]; rfl)) dX3_takeVerdict_111 (fun H locs hP hD hS => ?_)
                refine lv_iinc (v := nI (i_1 + 1)) (lv' := [(4, .int (nI (i_1 + 1))), (5, .int (nI (0))), (0, .ref (J 0)), (1, .int (panel)), (2, .int (merit)), (3, .int (nI (vd)))]) hx hb dX3_takeVerdict_112 hl (k := 1) rfl (inc_1 _) (by decide) rfl (fun ls hl => ?_)
                refine lv_goto (tgt := 3) hx hb dX3_takeVerdict_115 (by decide) ?_
                exact ih_8 (i_1 + 1) _ (upd ((tvS panel merit vd (jf 0) (jf 1, (jf 2, jf 3)) i_1).1) (i_1) ((if (((tvS panel merit vd (jf 0) (jf 1, (jf 2, jf 3)) i_1).1) (i_1)) - (nI (1)) < nI (0) then nI (0) else (((tvS panel merit vd (jf 0) (jf 1, (jf 2, jf 3)) i_1).1) (i_1)) - (nI (1))))) (upd ((tvS panel merit vd (jf 0) (jf 1, (jf 2, jf 3)) i_1).2.1) (i_1) ((((tvS panel merit vd (jf 0) (jf 1, (jf 2, jf 3)) i_1).2.1) (i_1)) + (nI (1)))) (upd ((tvS panel merit vd (jf 0) (jf 1, (jf 2, jf 3)) i_1).2.2) (i_1) ((((tvS panel merit vd (jf 0) (jf 1, (jf 2, jf 3)) i_1).2.2) (i_1)) + (nI (0)))) H locs (by omega) (by omega) rfl (by rw [tvS_in c_17 c_19] <;> rfl) (by rw [tvS_in c_17 c_19] <;> rfl) (by rw [tvS_in c_17 c_19] <;> rfl) hP hS ls (lv_sub hl [0, 2, 3, 4, 5] rfl)
              · exact absurd c_21 (by decide)
            · exact absurd c_20 (by decide)
          · refine lv_iconst (v := nI (1)) hx hb dX3_takeVerdict_32 gc_1 ?_
            refine lv_goto (tgt := 37) hx hb dX3_takeVerdict_33 (by decide) ?_
            refine lv_istore (lv' := [(5, .int (nI (1))), (4, .int (nI (i_1))), (0, .ref (J 0)), (1, .int (panel)), (2, .int (merit)), (3, .int (nI (vd)))]) hx hb dX3_takeVerdict_37 hl (by decide) rfl (fun ls hl => ?_)
            refine lv_aload_n hx hb dX3_takeVerdict_39 rfl (lv_at hl 2 rfl) ?_
            refine g_get (v := .ref (J 3)) hx hb hts hown hK hP 0 rfl rfl gu_wsX30 2 (by decide) gm_3_11 rfl dX3_takeVerdict_40 ?_
            refine lv_iload hx hb dX3_takeVerdict_43 (lv_at hl 1 rfl) ?_
            refine lv_dup2_11 hx hb dX3_takeVerdict_45 rfl rfl ?_
            refine g_iald (x := ((tvS panel merit vd (jf 0) (jf 1, (jf 2, jf 3)) i_1).2.1) (i_1)) hx hb hK hP 3 rfl (by omega) (by decide) rfl dX3_takeVerdict_46 ?_
            refine lv_iconst (v := nI (1)) hx hb dX3_takeVerdict_47 gc_1 ?_
            refine lv_iadd hx hb dX3_takeVerdict_48 ?_
            refine g_iast (ws' := jw cA J (va_up (va_up (va_up (jf) 1 ((tvS panel merit vd (jf 0) (jf 1, (jf 2, jf 3)) i_1).1)) 2 (upd ((tvS panel merit vd (jf 0) (jf 1, (jf 2, jf 3)) i_1).2.1) (i_1) ((((tvS panel merit vd (jf 0) (jf 1, (jf 2, jf 3)) i_1).2.1) (i_1)) + (nI (1))))) 3 ((tvS panel merit vd (jf 0) (jf 1, (jf 2, jf 3)) i_1).2.2)) (jn)) hx hb hK hP hD hS 3 rfl (by omega) (by decide) (by first | rfl | (rw [updN_nI]; rfl)) dX3_takeVerdict_49 (fun H locs hP hD hS => ?_)
            refine lv_aload_n hx hb dX3_takeVerdict_50 rfl (lv_at hl 2 rfl) ?_
            refine g_get (v := .ref (J 4)) hx hb hts hown hK hP 0 rfl rfl gu_wsX30 3 (by decide) gm_3_12 rfl dX3_takeVerdict_51 ?_
            refine lv_iload hx hb dX3_takeVerdict_54 (lv_at hl 1 rfl) ?_
            refine lv_dup2_11 hx hb dX3_takeVerdict_56 rfl rfl ?_
            refine g_iald (x := ((tvS panel merit vd (jf 0) (jf 1, (jf 2, jf 3)) i_1).2.2) (i_1)) hx hb hK hP 4 rfl (by omega) (by decide) rfl dX3_takeVerdict_57 ?_
            refine lv_iload hx hb dX3_takeVerdict_58 (lv_at hl 0 rfl) ?_
            refine g_if_eq (P := 1 = 0) (tgt := 67) hx hb dX3_takeVerdict_60 (by decide) (nI_z (by omega)) (fun c_22 => ?_) (fun c_22 => ?_)
            · exact absurd c_22 (by decide)
            · refine lv_iconst (v := nI (1)) hx hb dX3_takeVerdict_63 gc_1 ?_
              refine lv_goto (tgt := 68) hx hb dX3_takeVerdict_64 (by decide) ?_
              refine lv_iadd hx hb dX3_takeVerdict_68 ?_
              refine g_iast (ws' := jw cA J (va_up (va_up (va_up (jf) 1 ((tvS panel merit vd (jf 0) (jf 1, (jf 2, jf 3)) i_1).1)) 2 (upd ((tvS panel merit vd (jf 0) (jf 1, (jf 2, jf 3)) i_1).2.1) (i_1) ((((tvS panel merit vd (jf 0) (jf 1, (jf 2, jf 3)) i_1).2.1) (i_1)) + (nI (1))))) 3 (upd ((tvS panel merit vd (jf 0) (jf 1, (jf 2, jf 3)) i_1).2.2) (i_1) ((((tvS panel merit vd (jf 0) (jf 1, (jf 2, jf 3)) i_1).2.2) (i_1)) + (nI (1))))) (jn)) hx hb hK hP hD hS 4 rfl (by omega) (by decide) (by first | rfl | (rw [updN_nI]; rfl)) dX3_takeVerdict_69 (fun H locs hP hD hS => ?_)
              refine lv_aload_n hx hb dX3_takeVerdict_70 rfl (lv_at hl 2 rfl) ?_
              refine g_get (v := .ref (J 2)) hx hb hts hown hK hP 0 rfl rfl gu_wsX30 1 (by decide) gm_3_10 rfl dX3_takeVerdict_71 ?_
              refine lv_iload hx hb dX3_takeVerdict_74 (lv_at hl 1 rfl) ?_
              refine lv_iload hx hb dX3_takeVerdict_76 (lv_at hl 0 rfl) ?_
              refine g_if_eq (P := 1 = 0) (tgt := 98) hx hb dX3_takeVerdict_78 (by decide) (nI_z (by omega)) (fun c_23 => ?_) (fun c_23 => ?_)
              · exact absurd c_23 (by decide)
              · refine lv_aload_n hx hb dX3_takeVerdict_81 rfl (lv_at hl 2 rfl) ?_
                refine g_get (v := .ref (J 2)) hx hb hts hown hK hP 0 rfl rfl gu_wsX30 1 (by decide) gm_3_10 rfl dX3_takeVerdict_82 ?_
                refine lv_iload hx hb dX3_takeVerdict_85 (lv_at hl 1 rfl) ?_
                refine g_iald (x := ((tvS panel merit vd (jf 0) (jf 1, (jf 2, jf 3)) i_1).1) (i_1)) hx hb hK hP 2 rfl (by omega) (by decide) rfl dX3_takeVerdict_87 ?_
                refine lv_iconst (v := nI (1)) hx hb dX3_takeVerdict_88 gc_1 ?_
                refine lv_iadd hx hb dX3_takeVerdict_89 ?_
                refine lv_bipush (v := nI (9)) hx hb dX3_takeVerdict_90 gb_9 ?_
                refine va_mmin hx hb (hml.trans hl.1.symm) hown (hts _ (List.mem_cons_of_mem _ gm_17_3)) (hts _ (List.mem_cons_of_mem _ gm_8_9)) (hts _ (List.mem_cons_of_mem _ gm_8_10)) (hts _ (List.mem_cons_of_mem _ gm_8_11)) (by decide) (Nat.le_of_ble_eq_true rfl) (Nat.zero_le _) (Nat.zero_le _) dX3_takeVerdict_92 ?_
                refine lv_goto (tgt := 111) hx hb dX3_takeVerdict_95 (by decide) ?_
                refine g_iast (ws' := jw cA J (va_up (va_up (va_up (jf) 1 (upd ((tvS panel merit vd (jf 0) (jf 1, (jf 2, jf 3)) i_1).1) (i_1) ((if nI (9) < (((tvS panel merit vd (jf 0) (jf 1, (jf 2, jf 3)) i_1).1) (i_1)) + (nI (1)) then nI (9) else (((tvS panel merit vd (jf 0) (jf 1, (jf 2, jf 3)) i_1).1) (i_1)) + (nI (1)))))) 2 (upd ((tvS panel merit vd (jf 0) (jf 1, (jf 2, jf 3)) i_1).2.1) (i_1) ((((tvS panel merit vd (jf 0) (jf 1, (jf 2, jf 3)) i_1).2.1) (i_1)) + (nI (1))))) 3 (upd ((tvS panel merit vd (jf 0) (jf 1, (jf 2, jf 3)) i_1).2.2) (i_1) ((((tvS panel merit vd (jf 0) (jf 1, (jf 2, jf 3)) i_1).2.2) (i_1)) + (nI (1))))) (jn)) hx hb hK hP hD hS 2 rfl (by omega) (by decide) (by first | rfl | (rw [updN_nI]; rfl)) dX3_takeVerdict_111 (fun H locs hP hD hS => ?_)
                refine lv_iinc (v := nI (i_1 + 1)) (lv' := [(4, .int (nI (i_1 + 1))), (5, .int (nI (1))), (0, .ref (J 0)), (1, .int (panel)), (2, .int (merit)), (3, .int (nI (vd)))]) hx hb dX3_takeVerdict_112 hl (k := 1) rfl (inc_1 _) (by decide) rfl (fun ls hl => ?_)
                refine lv_goto (tgt := 3) hx hb dX3_takeVerdict_115 (by decide) ?_
                exact ih_8 (i_1 + 1) _ (upd ((tvS panel merit vd (jf 0) (jf 1, (jf 2, jf 3)) i_1).1) (i_1) ((if nI (9) < (((tvS panel merit vd (jf 0) (jf 1, (jf 2, jf 3)) i_1).1) (i_1)) + (nI (1)) then nI (9) else (((tvS panel merit vd (jf 0) (jf 1, (jf 2, jf 3)) i_1).1) (i_1)) + (nI (1))))) (upd ((tvS panel merit vd (jf 0) (jf 1, (jf 2, jf 3)) i_1).2.1) (i_1) ((((tvS panel merit vd (jf 0) (jf 1, (jf 2, jf 3)) i_1).2.1) (i_1)) + (nI (1)))) (upd ((tvS panel merit vd (jf 0) (jf 1, (jf 2, jf 3)) i_1).2.2) (i_1) ((((tvS panel merit vd (jf 0) (jf 1, (jf 2, jf 3)) i_1).2.2) (i_1)) + (nI (1)))) H locs (by omega) (by omega) rfl (by rw [tvS_out c_17 c_19] <;> rfl) (by rw [tvS_out c_17 c_19] <;> rfl) (by rw [tvS_out c_17 c_19] <;> rfl) hP hS ls (lv_sub hl [0, 2, 3, 4, 5] rfl)
  exact LP_7 (jn + 1) 0 _ (jf 1) (jf 2) (jf 3) s.heap [] (by omega) (by omega) rfl rfl rfl rfl hP hS ls (lv_sub hl [0, 1, 2, 3, 4] rfl)

set_option maxHeartbeats 1000000 in
set_option maxRecDepth 100000 in
theorem c_X3_thoughtsToTurn (l : Launch) (D : va_G) (cA : Nat → ClassId) (J : Nat → Nat) (jf : Nat → Nat → Int32) (jn : Nat) (panel merit : Int32) (hA : aInj 5 J) (hjn : jn ≤ 9) : Met l yX3_thoughtsToTurn (gw yX3_thoughtsToTurn cX3_thoughtsToTurn 6 (some .int)) ({ frames := 2, cells := 0, slots := 0, locals := 48 } : Room) (gPc [.ref (J 0), .int (panel), .int (merit)] (fun H => va_P D vwCl (jw cA J (jf) (jn)) H) D cA) (wrI (fun r H => r = nI (ttF jn panel merit (jf 0, (jf 1, (jf 2, jf 3)))) ∧ ∃ jf9 : Nat → Nat → Int32, va_P D vwCl (jw cA J jf9 jn) H) (aS 5 J)) 0 0 (aS 5 J) := by
  refine gOf (by decide) (Nat.le_of_ble_eq_true rfl) ?_
  intro p e s m below meth c ls hx hb hml hr hlk hown hts hnm hP hK hl
  have hl : lv_has ls 6 [(0, .ref (J 0)), (1, .int (panel)), (2, .int (merit))] := hl
  have hD : va_D (aS 5 J) (jw cA J (jf) (jn)) := jwD hA
  have hS : va_S (aS 5 J) s.heap s.heap [] := va_S.rf
  refine lv_aload_n hx hb dX3_thoughtsToTurn_0 rfl (lv_at hl 0 rfl) ?_
  refine lv_iload_n hx hb dX3_thoughtsToTurn_1 rfl (lv_at hl 1 rfl) ?_
  refine lv_iload_n hx hb dX3_thoughtsToTurn_2 rfl (lv_at hl 2 rfl) ?_
  refine rd_calle (va_runV (As := [.int (panel), .int (merit)]) (rest := []) ⟨hx, hb, hml, hown, hts⟩ (c_X3_verdictByCount l D cA J (jf) (jn) (panel) (merit)  hjn) (cwV 2 hts (gWV gm_29_19 gm_16_16 gm_16_17 gm_2_5 gm_16_18) rfl rfl rfl (by decide +kernel) ⟨Nat.le_of_ble_eq_true rfl, Nat.le_of_ble_eq_true rfl⟩) (gPreV hK (g_rf hK hP (ci := 5) (q0 := 0) rfl rfl) hP) rfl rfl hl.1 rfl (lv_room (Nat.le_of_ble_eq_true rfl)) dX3_thoughtsToTurn_3 ⟨by omega, by omega⟩) ?_
  refine lv_istore_n (lv' := [(3, .int (nI (vdF (jf 0) (jf 1) jn (panel) (merit)))), (0, .ref (J 0)), (1, .int (panel)), (2, .int (merit))]) hx hb dX3_thoughtsToTurn_6 rfl hl (by decide) rfl (fun ls hl => ?_)
  refine lv_iconst (v := nI (1)) hx hb dX3_thoughtsToTurn_7 gc_1 ?_
  refine lv_istore (lv' := [(4, .int (nI (1))), (3, .int (nI (vdF (jf 0) (jf 1) jn (panel) (merit)))), (0, .ref (J 0)), (1, .int (panel)), (2, .int (merit))]) hx hb dX3_thoughtsToTurn_8 hl (by decide) rfl (fun ls hl => ?_)
  have LP_8 : ∀ (n_2 i_1 : Nat) (x_3 : Int32) (F_4 : Nat → Int32) (F_5 : Nat → Int32) (F_6 : Nat → Int32) (F_7 : Nat → Int32) (H : Heap) (locs : List Loc), i_1 ≤ 41 → 41 + 1 ≤ i_1 + n_2 → x_3 = nI (i_1) → F_4 = (ttS jn panel merit (jf 0, (jf 1, (jf 2, jf 3))) i_1).1 → F_5 = (ttS jn panel merit (jf 0, (jf 1, (jf 2, jf 3))) i_1).2.1 → F_6 = (ttS jn panel merit (jf 0, (jf 1, (jf 2, jf 3))) i_1).2.2.1 → F_7 = (ttS jn panel merit (jf 0, (jf 1, (jf 2, jf 3))) i_1).2.2.2 → (fnd (ttQ jn panel merit (jf 0, (jf 1, (jf 2, jf 3)))) (i_1) = none) → (1 ≤ i_1) → va_P D vwCl (jw cA J (va_up (va_up (va_up (va_up (jf) 0 (F_4)) 1 (F_5)) 2 (F_6)) 3 (F_7)) (jn)) H → va_S (aS 5 J) s.heap H locs → ∀ (ls : Array Slot), lv_has ls 6 [(4, .int (x_3)), (3, .int (nI (vdF (jf 0) (jf 1) jn (panel) (merit)))), (0, .ref (J 0)), (1, .int (panel)), (2, .int (merit))] → W p l e ({ frames := 2, cells := 0, slots := 0, locals := 48 } : Room) s m ([.ref (J 0), .int (panel), .int (merit)] : List Value).toArray below meth c H locs 0 0 (MQ below (wrI (fun r H => r = nI (ttF jn panel merit (jf 0, (jf 1, (jf 2, jf 3)))) ∧ ∃ jf9 : Nat → Nat → Int32, va_P D vwCl (jw cA J jf9 jn) H) (aS 5 J)) ([.ref (J 0), .int (panel), .int (merit)] : List Value).toArray s 0 0 (aS 5 J)) (F0 m 10 ls []) := by
    intro n_2
    induction n_2 with
    | zero => intro i_1 x_3 F_4 F_5 F_6 F_7 H locs h1 h2; exact absurd h2 (by omega)
    | succ n_2 ih_9 =>
      intro i_1 x_3 F_4 F_5 F_6 F_7 H locs h_10 h_11 e_12 e_13 e_14 e_15 e_16 hv hp1 hP hS ls hl
      subst e_12
      subst e_13
      subst e_14
      subst e_15
      subst e_16
      have hD : va_D (aS 5 J) (jw cA J (va_up (va_up (va_up (va_up (jf) 0 ((ttS jn panel merit (jf 0, (jf 1, (jf 2, jf 3))) i_1).1)) 1 ((ttS jn panel merit (jf 0, (jf 1, (jf 2, jf 3))) i_1).2.1)) 2 ((ttS jn panel merit (jf 0, (jf 1, (jf 2, jf 3))) i_1).2.2.1)) 3 ((ttS jn panel merit (jf 0, (jf 1, (jf 2, jf 3))) i_1).2.2.2)) (jn)) := jwD hA
      refine lv_iload hx hb dX3_thoughtsToTurn_10 (lv_at hl 0 rfl) ?_
      refine lv_bipush (v := nI (40)) hx hb dX3_thoughtsToTurn_12 gb_40 ?_
      refine g_icmp_gt (P := 40 < i_1) (tgt := 55) hx hb dX3_thoughtsToTurn_14 (by decide) (nI_ltI (by omega) (by omega)) (fun c_17 => ?_) (fun c_17 => ?_)
      · have d_17 : ¬ i_1 ≤ 40 := Nat.not_le.mpr c_17
        have hN_18 : 41 = i_1 := by omega
        subst hN_18
        refine lv_iconst (v := nI (0)) hx hb dX3_thoughtsToTurn_55 gc_0 ?_
        exact g_iretW (v := nI (0)) hx hb hr hlk hS dX3_thoughtsToTurn_56 (⟨by rw [ttF, hv]; rfl, _, hP⟩)
      · have d_17 : i_1 ≤ 40 := Nat.not_lt.mp c_17
        refine lv_aload_n hx hb dX3_thoughtsToTurn_17 rfl (lv_at hl 2 rfl) ?_
        refine lv_iload_n hx hb dX3_thoughtsToTurn_18 rfl (lv_at hl 3 rfl) ?_
        refine lv_iload_n hx hb dX3_thoughtsToTurn_19 rfl (lv_at hl 4 rfl) ?_
        refine wr_calli (va_runV (As := [.int (panel), .int (merit)]) (rest := []) ⟨hx, hb, hml, hown, hts⟩ (c_X3_thinkOver l D cA J (va_up (va_up (va_up (va_up (jf) 0 ((ttS jn panel merit (jf 0, (jf 1, (jf 2, jf 3))) i_1).1)) 1 ((ttS jn panel merit (jf 0, (jf 1, (jf 2, jf 3))) i_1).2.1)) 2 ((ttS jn panel merit (jf 0, (jf 1, (jf 2, jf 3))) i_1).2.2.1)) 3 ((ttS jn panel merit (jf 0, (jf 1, (jf 2, jf 3))) i_1).2.2.2)) (jn) (panel) (merit) hA hjn) (cwV 2 hts (gWV gm_29_20 gm_19_16 gm_19_17 gm_2_5 gm_19_18) rfl rfl rfl (by decide +kernel) ⟨Nat.le_of_ble_eq_true rfl, Nat.le_of_ble_eq_true rfl⟩) (gPreV hK (g_rf hK hP (ci := 5) (q0 := 0) rfl rfl) hP) rfl rfl hl.1 rfl (lv_room (Nat.le_of_ble_eq_true rfl)) dX3_thoughtsToTurn_20 ⟨by omega, by omega⟩) hS (fun q _ h => h) (fun q h => h) (fun r H locs hw9 hz9 hk9 hS => ?_)
        obtain ⟨rfl, hP⟩ := hw9
        have hP : va_P D vwCl (jw cA J (va_up (va_up (va_up (va_up (jf) 0 ((toS (panel) (merit) (((ttS jn panel merit (jf 0, (jf 1, (jf 2, jf 3))) i_1).2.1)) (((ttS jn panel merit (jf 0, (jf 1, (jf 2, jf 3))) i_1).1)) jn).2)) 1 ((ttS jn panel merit (jf 0, (jf 1, (jf 2, jf 3))) i_1).2.1)) 2 ((ttS jn panel merit (jf 0, (jf 1, (jf 2, jf 3))) i_1).2.2.1)) 3 ((ttS jn panel merit (jf 0, (jf 1, (jf 2, jf 3))) i_1).2.2.2)) (jn)) H := hP
        have hD : va_D (aS 5 J) (jw cA J (va_up (va_up (va_up (va_up (jf) 0 ((toS (panel) (merit) (((ttS jn panel merit (jf 0, (jf 1, (jf 2, jf 3))) i_1).2.1)) (((ttS jn panel merit (jf 0, (jf 1, (jf 2, jf 3))) i_1).1)) jn).2)) 1 ((ttS jn panel merit (jf 0, (jf 1, (jf 2, jf 3))) i_1).2.1)) 2 ((ttS jn panel merit (jf 0, (jf 1, (jf 2, jf 3))) i_1).2.2.1)) 3 ((ttS jn panel merit (jf 0, (jf 1, (jf 2, jf 3))) i_1).2.2.2)) (jn)) := jwD hA
        refine lv_pop hx hb dX3_thoughtsToTurn_23 rfl ?_
        refine lv_aload_n hx hb dX3_thoughtsToTurn_24 rfl (lv_at hl 2 rfl) ?_
        refine lv_iload_n hx hb dX3_thoughtsToTurn_25 rfl (lv_at hl 3 rfl) ?_
        refine lv_iload_n hx hb dX3_thoughtsToTurn_26 rfl (lv_at hl 4 rfl) ?_
        refine rd_calle (va_runV (As := [.int (panel), .int (merit)]) (rest := []) ⟨hx, hb, hml, hown, hts⟩ (c_X3_verdictByCount l D cA J (va_up (va_up (va_up (va_up (jf) 0 ((toS (panel) (merit) (((ttS jn panel merit (jf 0, (jf 1, (jf 2, jf 3))) i_1).2.1)) (((ttS jn panel merit (jf 0, (jf 1, (jf 2, jf 3))) i_1).1)) jn).2)) 1 ((ttS jn panel merit (jf 0, (jf 1, (jf 2, jf 3))) i_1).2.1)) 2 ((ttS jn panel merit (jf 0, (jf 1, (jf 2, jf 3))) i_1).2.2.1)) 3 ((ttS jn panel merit (jf 0, (jf 1, (jf 2, jf 3))) i_1).2.2.2)) (jn) (panel) (merit)  hjn) (cwV 2 hts (gWV gm_29_19 gm_16_16 gm_16_17 gm_2_5 gm_16_18) rfl rfl rfl (by decide +kernel) ⟨Nat.le_of_ble_eq_true rfl, Nat.le_of_ble_eq_true rfl⟩) (gPreV hK (g_rf hK hP (ci := 5) (q0 := 0) rfl rfl) hP) rfl rfl hl.1 rfl (lv_room (Nat.le_of_ble_eq_true rfl)) dX3_thoughtsToTurn_27 ⟨by omega, by omega⟩) ?_
        have hle_19 := vdF_le ((toS (panel) (merit) (((ttS jn panel merit (jf 0, (jf 1, (jf 2, jf 3))) i_1).2.1)) (((ttS jn panel merit (jf 0, (jf 1, (jf 2, jf 3))) i_1).1)) jn).2) ((ttS jn panel merit (jf 0, (jf 1, (jf 2, jf 3))) i_1).2.1) jn panel merit
        have hle_20 := vdF_le (jf 0) (jf 1) jn panel merit
        refine lv_istore (lv' := [(5, .int (nI (vdF (((toS (panel) (merit) (((ttS jn panel merit (jf 0, (jf 1, (jf 2, jf 3))) i_1).2.1)) (((ttS jn panel merit (jf 0, (jf 1, (jf 2, jf 3))) i_1).1)) jn).2)) (((ttS jn panel merit (jf 0, (jf 1, (jf 2, jf 3))) i_1).2.1)) jn (panel) (merit)))), (4, .int (nI (i_1))), (3, .int (nI (vdF (jf 0) (jf 1) jn (panel) (merit)))), (0, .ref (J 0)), (1, .int (panel)), (2, .int (merit))]) hx hb dX3_thoughtsToTurn_30 hl (by decide) rfl (fun ls hl => ?_)
        refine lv_iload hx hb dX3_thoughtsToTurn_32 (lv_at hl 0 rfl) ?_
        refine lv_iload_n hx hb dX3_thoughtsToTurn_34 rfl (lv_at hl 2 rfl) ?_
        refine g_icmp_eq (P := vdF (((toS (panel) (merit) (((ttS jn panel merit (jf 0, (jf 1, (jf 2, jf 3))) i_1).2.1)) (((ttS jn panel merit (jf 0, (jf 1, (jf 2, jf 3))) i_1).1)) jn).2)) (((ttS jn panel merit (jf 0, (jf 1, (jf 2, jf 3))) i_1).2.1)) jn (panel) (merit) = vdF (jf 0) (jf 1) jn (panel) (merit)) (tgt := 41) hx hb dX3_thoughtsToTurn_35 (by decide) (nI_eq (by omega) (by omega)) (fun c_21 => ?_) (fun c_21 => ?_)
        · refine lv_aload_n hx hb dX3_thoughtsToTurn_41 rfl (lv_at hl 3 rfl) ?_
          refine lv_iload_n hx hb dX3_thoughtsToTurn_42 rfl (lv_at hl 4 rfl) ?_
          refine lv_iload_n hx hb dX3_thoughtsToTurn_43 rfl (lv_at hl 5 rfl) ?_
          refine lv_iload hx hb dX3_thoughtsToTurn_44 (lv_at hl 0 rfl) ?_
          refine wr_callv (va_runV (As := [.int (panel), .int (merit), .int (nI (vdF (((toS (panel) (merit) (((ttS jn panel merit (jf 0, (jf 1, (jf 2, jf 3))) i_1).2.1)) (((ttS jn panel merit (jf 0, (jf 1, (jf 2, jf 3))) i_1).1)) jn).2)) (((ttS jn panel merit (jf 0, (jf 1, (jf 2, jf 3))) i_1).2.1)) jn (panel) (merit)))]) (rest := []) ⟨hx, hb, hml, hown, hts⟩ (c_X3_takeVerdict l D cA J (va_up (va_up (va_up (va_up (jf) 0 ((toS (panel) (merit) (((ttS jn panel merit (jf 0, (jf 1, (jf 2, jf 3))) i_1).2.1)) (((ttS jn panel merit (jf 0, (jf 1, (jf 2, jf 3))) i_1).1)) jn).2)) 1 ((ttS jn panel merit (jf 0, (jf 1, (jf 2, jf 3))) i_1).2.1)) 2 ((ttS jn panel merit (jf 0, (jf 1, (jf 2, jf 3))) i_1).2.2.1)) 3 ((ttS jn panel merit (jf 0, (jf 1, (jf 2, jf 3))) i_1).2.2.2)) (jn) (panel) (merit) (vdF (((toS (panel) (merit) (((ttS jn panel merit (jf 0, (jf 1, (jf 2, jf 3))) i_1).2.1)) (((ttS jn panel merit (jf 0, (jf 1, (jf 2, jf 3))) i_1).1)) jn).2)) (((ttS jn panel merit (jf 0, (jf 1, (jf 2, jf 3))) i_1).2.1)) jn (panel) (merit)) hA hjn (by omega)) (cwV 3 hts (gWV gm_29_21 gm_17_0 gm_17_1 gm_2_5 gm_17_2) rfl rfl rfl (by decide +kernel) ⟨Nat.le_of_ble_eq_true rfl, Nat.le_of_ble_eq_true rfl⟩) (gPreV hK (g_rf hK hP (ci := 5) (q0 := 0) rfl rfl) hP) rfl rfl hl.1 rfl (lv_room (Nat.le_of_ble_eq_true rfl)) dX3_thoughtsToTurn_46 ⟨by omega, by omega⟩) hS (fun q _ h => h) (fun q h => h) (fun H locs hP hz9 hk9 hS => ?_)
          have hP : va_P D vwCl (jw cA J (va_up (va_up (va_up (va_up (jf) 0 ((toS (panel) (merit) (((ttS jn panel merit (jf 0, (jf 1, (jf 2, jf 3))) i_1).2.1)) (((ttS jn panel merit (jf 0, (jf 1, (jf 2, jf 3))) i_1).1)) jn).2)) 1 ((tvS (panel) (merit) (vdF (((toS (panel) (merit) (((ttS jn panel merit (jf 0, (jf 1, (jf 2, jf 3))) i_1).2.1)) (((ttS jn panel merit (jf 0, (jf 1, (jf 2, jf 3))) i_1).1)) jn).2)) (((ttS jn panel merit (jf 0, (jf 1, (jf 2, jf 3))) i_1).2.1)) jn (panel) (merit)) (((toS (panel) (merit) (((ttS jn panel merit (jf 0, (jf 1, (jf 2, jf 3))) i_1).2.1)) (((ttS jn panel merit (jf 0, (jf 1, (jf 2, jf 3))) i_1).1)) jn).2)) (((ttS jn panel merit (jf 0, (jf 1, (jf 2, jf 3))) i_1).2.1), (((ttS jn panel merit (jf 0, (jf 1, (jf 2, jf 3))) i_1).2.2.1), ((ttS jn panel merit (jf 0, (jf 1, (jf 2, jf 3))) i_1).2.2.2))) jn).1)) 2 ((tvS (panel) (merit) (vdF (((toS (panel) (merit) (((ttS jn panel merit (jf 0, (jf 1, (jf 2, jf 3))) i_1).2.1)) (((ttS jn panel merit (jf 0, (jf 1, (jf 2, jf 3))) i_1).1)) jn).2)) (((ttS jn panel merit (jf 0, (jf 1, (jf 2, jf 3))) i_1).2.1)) jn (panel) (merit)) (((toS (panel) (merit) (((ttS jn panel merit (jf 0, (jf 1, (jf 2, jf 3))) i_1).2.1)) (((ttS jn panel merit (jf 0, (jf 1, (jf 2, jf 3))) i_1).1)) jn).2)) (((ttS jn panel merit (jf 0, (jf 1, (jf 2, jf 3))) i_1).2.1), (((ttS jn panel merit (jf 0, (jf 1, (jf 2, jf 3))) i_1).2.2.1), ((ttS jn panel merit (jf 0, (jf 1, (jf 2, jf 3))) i_1).2.2.2))) jn).2.1)) 3 ((tvS (panel) (merit) (vdF (((toS (panel) (merit) (((ttS jn panel merit (jf 0, (jf 1, (jf 2, jf 3))) i_1).2.1)) (((ttS jn panel merit (jf 0, (jf 1, (jf 2, jf 3))) i_1).1)) jn).2)) (((ttS jn panel merit (jf 0, (jf 1, (jf 2, jf 3))) i_1).2.1)) jn (panel) (merit)) (((toS (panel) (merit) (((ttS jn panel merit (jf 0, (jf 1, (jf 2, jf 3))) i_1).2.1)) (((ttS jn panel merit (jf 0, (jf 1, (jf 2, jf 3))) i_1).1)) jn).2)) (((ttS jn panel merit (jf 0, (jf 1, (jf 2, jf 3))) i_1).2.1), (((ttS jn panel merit (jf 0, (jf 1, (jf 2, jf 3))) i_1).2.2.1), ((ttS jn panel merit (jf 0, (jf 1, (jf 2, jf 3))) i_1).2.2.2))) jn).2.2)) (jn)) H := hP
          have hD : va_D (aS 5 J) (jw cA J (va_up (va_up (va_up (va_up (jf) 0 ((toS (panel) (merit) (((ttS jn panel merit (jf 0, (jf 1, (jf 2, jf 3))) i_1).2.1)) (((ttS jn panel merit (jf 0, (jf 1, (jf 2, jf 3))) i_1).1)) jn).2)) 1 ((tvS (panel) (merit) (vdF (((toS (panel) (merit) (((ttS jn panel merit (jf 0, (jf 1, (jf 2, jf 3))) i_1).2.1)) (((ttS jn panel merit (jf 0, (jf 1, (jf 2, jf 3))) i_1).1)) jn).2)) (((ttS jn panel merit (jf 0, (jf 1, (jf 2, jf 3))) i_1).2.1)) jn (panel) (merit)) (((toS (panel) (merit) (((ttS jn panel merit (jf 0, (jf 1, (jf 2, jf 3))) i_1).2.1)) (((ttS jn panel merit (jf 0, (jf 1, (jf 2, jf 3))) i_1).1)) jn).2)) (((ttS jn panel merit (jf 0, (jf 1, (jf 2, jf 3))) i_1).2.1), (((ttS jn panel merit (jf 0, (jf 1, (jf 2, jf 3))) i_1).2.2.1), ((ttS jn panel merit (jf 0, (jf 1, (jf 2, jf 3))) i_1).2.2.2))) jn).1)) 2 ((tvS (panel) (merit) (vdF (((toS (panel) (merit) (((ttS jn panel merit (jf 0, (jf 1, (jf 2, jf 3))) i_1).2.1)) (((ttS jn panel merit (jf 0, (jf 1, (jf 2, jf 3))) i_1).1)) jn).2)) (((ttS jn panel merit (jf 0, (jf 1, (jf 2, jf 3))) i_1).2.1)) jn (panel) (merit)) (((toS (panel) (merit) (((ttS jn panel merit (jf 0, (jf 1, (jf 2, jf 3))) i_1).2.1)) (((ttS jn panel merit (jf 0, (jf 1, (jf 2, jf 3))) i_1).1)) jn).2)) (((ttS jn panel merit (jf 0, (jf 1, (jf 2, jf 3))) i_1).2.1), (((ttS jn panel merit (jf 0, (jf 1, (jf 2, jf 3))) i_1).2.2.1), ((ttS jn panel merit (jf 0, (jf 1, (jf 2, jf 3))) i_1).2.2.2))) jn).2.1)) 3 ((tvS (panel) (merit) (vdF (((toS (panel) (merit) (((ttS jn panel merit (jf 0, (jf 1, (jf 2, jf 3))) i_1).2.1)) (((ttS jn panel merit (jf 0, (jf 1, (jf 2, jf 3))) i_1).1)) jn).2)) (((ttS jn panel merit (jf 0, (jf 1, (jf 2, jf 3))) i_1).2.1)) jn (panel) (merit)) (((toS (panel) (merit) (((ttS jn panel merit (jf 0, (jf 1, (jf 2, jf 3))) i_1).2.1)) (((ttS jn panel merit (jf 0, (jf 1, (jf 2, jf 3))) i_1).1)) jn).2)) (((ttS jn panel merit (jf 0, (jf 1, (jf 2, jf 3))) i_1).2.1), (((ttS jn panel merit (jf 0, (jf 1, (jf 2, jf 3))) i_1).2.2.1), ((ttS jn panel merit (jf 0, (jf 1, (jf 2, jf 3))) i_1).2.2.2))) jn).2.2)) (jn)) := jwD hA
          refine lv_iinc (v := nI (i_1 + 1)) (lv' := [(4, .int (nI (i_1 + 1))), (5, .int (nI (vdF (((toS (panel) (merit) (((ttS jn panel merit (jf 0, (jf 1, (jf 2, jf 3))) i_1).2.1)) (((ttS jn panel merit (jf 0, (jf 1, (jf 2, jf 3))) i_1).1)) jn).2)) (((ttS jn panel merit (jf 0, (jf 1, (jf 2, jf 3))) i_1).2.1)) jn (panel) (merit)))), (3, .int (nI (vdF (jf 0) (jf 1) jn (panel) (merit)))), (0, .ref (J 0)), (1, .int (panel)), (2, .int (merit))]) hx hb dX3_thoughtsToTurn_49 hl (k := 1) rfl (inc_1 _) (by decide) rfl (fun ls hl => ?_)
          refine lv_goto (tgt := 10) hx hb dX3_thoughtsToTurn_52 (by decide) ?_
          exact ih_9 (i_1 + 1) _ ((toS (panel) (merit) (((ttS jn panel merit (jf 0, (jf 1, (jf 2, jf 3))) i_1).2.1)) (((ttS jn panel merit (jf 0, (jf 1, (jf 2, jf 3))) i_1).1)) jn).2) ((tvS (panel) (merit) (vdF (((toS (panel) (merit) (((ttS jn panel merit (jf 0, (jf 1, (jf 2, jf 3))) i_1).2.1)) (((ttS jn panel merit (jf 0, (jf 1, (jf 2, jf 3))) i_1).1)) jn).2)) (((ttS jn panel merit (jf 0, (jf 1, (jf 2, jf 3))) i_1).2.1)) jn (panel) (merit)) (((toS (panel) (merit) (((ttS jn panel merit (jf 0, (jf 1, (jf 2, jf 3))) i_1).2.1)) (((ttS jn panel merit (jf 0, (jf 1, (jf 2, jf 3))) i_1).1)) jn).2)) (((ttS jn panel merit (jf 0, (jf 1, (jf 2, jf 3))) i_1).2.1), (((ttS jn panel merit (jf 0, (jf 1, (jf 2, jf 3))) i_1).2.2.1), ((ttS jn panel merit (jf 0, (jf 1, (jf 2, jf 3))) i_1).2.2.2))) jn).1) ((tvS (panel) (merit) (vdF (((toS (panel) (merit) (((ttS jn panel merit (jf 0, (jf 1, (jf 2, jf 3))) i_1).2.1)) (((ttS jn panel merit (jf 0, (jf 1, (jf 2, jf 3))) i_1).1)) jn).2)) (((ttS jn panel merit (jf 0, (jf 1, (jf 2, jf 3))) i_1).2.1)) jn (panel) (merit)) (((toS (panel) (merit) (((ttS jn panel merit (jf 0, (jf 1, (jf 2, jf 3))) i_1).2.1)) (((ttS jn panel merit (jf 0, (jf 1, (jf 2, jf 3))) i_1).1)) jn).2)) (((ttS jn panel merit (jf 0, (jf 1, (jf 2, jf 3))) i_1).2.1), (((ttS jn panel merit (jf 0, (jf 1, (jf 2, jf 3))) i_1).2.2.1), ((ttS jn panel merit (jf 0, (jf 1, (jf 2, jf 3))) i_1).2.2.2))) jn).2.1) ((tvS (panel) (merit) (vdF (((toS (panel) (merit) (((ttS jn panel merit (jf 0, (jf 1, (jf 2, jf 3))) i_1).2.1)) (((ttS jn panel merit (jf 0, (jf 1, (jf 2, jf 3))) i_1).1)) jn).2)) (((ttS jn panel merit (jf 0, (jf 1, (jf 2, jf 3))) i_1).2.1)) jn (panel) (merit)) (((toS (panel) (merit) (((ttS jn panel merit (jf 0, (jf 1, (jf 2, jf 3))) i_1).2.1)) (((ttS jn panel merit (jf 0, (jf 1, (jf 2, jf 3))) i_1).1)) jn).2)) (((ttS jn panel merit (jf 0, (jf 1, (jf 2, jf 3))) i_1).2.1), (((ttS jn panel merit (jf 0, (jf 1, (jf 2, jf 3))) i_1).2.2.1), ((ttS jn panel merit (jf 0, (jf 1, (jf 2, jf 3))) i_1).2.2.2))) jn).2.2) H locs (by omega) (by omega) rfl (by rw [ttS_s hp1]; rfl) (by rw [ttS_s hp1]; rfl) (by rw [ttS_s hp1]; rfl) (by rw [ttS_s hp1]; rfl) (fnd_succ_none hv (ttQ_f c_21)) (by omega) hP hS ls (lv_sub hl [0, 2, 3, 4, 5] rfl)
        · refine lv_iload hx hb dX3_thoughtsToTurn_38 (lv_at hl 1 rfl) ?_
          exact g_iretW (v := nI (i_1)) hx hb hr hlk hS dX3_thoughtsToTurn_40 (⟨by rw [ttF, fnd_stop hv (ttQ_t hp1 c_21) 41 (by omega)]; rfl, _, hP⟩)
  exact LP_8 (41 + 1) 1 _ (jf 0) (jf 1) (jf 2) (jf 3) s.heap [] (by omega) (by omega) rfl rfl rfl rfl rfl rfl (Nat.le_refl 1) hP hS ls (lv_sub hl [0, 1, 2, 3, 4] rfl)

set_option maxHeartbeats 1000000 in
set_option maxRecDepth 100000 in
theorem c_X0_closeRipe (l : Launch) (D : va_G) (cA : Nat → ClassId) (K : Nat → Nat) (kf : Nat → Nat → Int32) (rw : Nat → Nat) (cn rl : Nat) (night : Int32) (hA : aInj 10 K) (hcn : cn ≤ 10) : Met l yX0_closeRipe (gw yX0_closeRipe cX0_closeRipe 3 none) ({ frames := 2, cells := 0, slots := 0, locals := 43 } : Room) (gPc [.ref (K 0), .int (night)] (fun H => va_P D vwCl (kw cA K (kf) (rw) (cn) (rl)) H) D cA) (wrV (fun H => va_P D vwCl (kw cA K (va_up kf 5 (crS kf night cn)) rw cn rl) H) (aS 10 K)) 0 0 (aS 10 K) := by
  refine gOf (by decide) (Nat.le_of_ble_eq_true rfl) ?_
  intro p e s m below meth c ls hx hb hml hr hlk hown hts hnm hP hK hl
  have hl : lv_has ls 3 [(0, .ref (K 0)), (1, .int (night))] := hl
  have hD : va_D (aS 10 K) (kw cA K (kf) (rw) (cn) (rl)) := kwD hA
  have hS : va_S (aS 10 K) s.heap s.heap [] := va_S.rf
  refine lv_iconst (v := nI (0)) hx hb dX0_closeRipe_0 gc_0 ?_
  refine lv_istore_n (lv' := [(2, .int (nI (0))), (0, .ref (K 0)), (1, .int (night))]) hx hb dX0_closeRipe_1 rfl hl (by decide) rfl (fun ls hl => ?_)
  have LP_5 : ∀ (n_2 i_1 : Nat) (x_3 : Int32) (F_4 : Nat → Int32) (H : Heap) (locs : List Loc), i_1 ≤ cn → cn + 1 ≤ i_1 + n_2 → x_3 = nI (i_1) → F_4 = crS kf night i_1 → va_P D vwCl (kw cA K (va_up (kf) 5 (F_4)) (rw) (cn) (rl)) H → va_S (aS 10 K) s.heap H locs → ∀ (ls : Array Slot), lv_has ls 3 [(2, .int (x_3)), (0, .ref (K 0)), (1, .int (night))] → W p l e ({ frames := 2, cells := 0, slots := 0, locals := 43 } : Room) s m ([.ref (K 0), .int (night)] : List Value).toArray below meth c H locs 0 0 (MQ below (wrV (fun H => va_P D vwCl (kw cA K (va_up kf 5 (crS kf night cn)) rw cn rl) H) (aS 10 K)) ([.ref (K 0), .int (night)] : List Value).toArray s 0 0 (aS 10 K)) (F0 m 2 ls []) := by
    intro n_2
    induction n_2 with
    | zero => intro i_1 x_3 F_4 H locs h1 h2; exact absurd h2 (by omega)
    | succ n_2 ih_6 =>
      intro i_1 x_3 F_4 H locs h_7 h_8 e_9 e_10 hP hS ls hl
      subst e_9
      subst e_10
      have hD : va_D (aS 10 K) (kw cA K (va_up (kf) 5 (crS kf night i_1)) (rw) (cn) (rl)) := kwD hA
      refine lv_iload_n hx hb dX0_closeRipe_2 rfl (lv_at hl 0 rfl) ?_
      refine lv_aload_n hx hb dX0_closeRipe_3 rfl (lv_at hl 1 rfl) ?_
      refine g_get (v := .int (nI (cn))) hx hb hts hown hK hP 0 rfl rfl gu_wsX00 9 (by decide) gm_4_2 rfl dX0_closeRipe_4 ?_
      refine g_icmp_ge (P := cn ≤ i_1) (tgt := 32) hx hb dX0_closeRipe_7 (by decide) (nI_leI (by omega) (by omega)) (fun c_11 => ?_) (fun c_11 => ?_)
      · have d_11 : ¬ i_1 < cn := Nat.not_lt.mpr c_11
        have hN_12 : cn = i_1 := by omega
        subst hN_12
        exact g_vretW hx hb hr hlk hS dX0_closeRipe_32 (hP)
      · have d_11 : i_1 < cn := Nat.not_le.mp c_11
        refine lv_aload_n hx hb dX0_closeRipe_10 rfl (lv_at hl 1 rfl) ?_
        refine lv_iload_n hx hb dX0_closeRipe_11 rfl (lv_at hl 0 rfl) ?_
        refine lv_iload_n hx hb dX0_closeRipe_12 rfl (lv_at hl 2 rfl) ?_
        refine rd_calle (va_runV (As := [.int (nI (i_1)), .int (night)]) (rest := []) ⟨hx, hb, hml, hown, hts⟩ (c_X0_isRipe l D cA K (va_up (kf) 5 (crS kf night i_1)) (rw) (cn) (rl) (i_1) (night)  (by omega)) (cwV 2 hts (gWV gm_23_8 gm_23_9 gm_23_10 gm_3_0 gm_23_11) rfl rfl rfl (by decide +kernel) ⟨Nat.le_of_ble_eq_true rfl, Nat.le_of_ble_eq_true rfl⟩) (gPreV hK (g_rf hK hP (ci := 2) (q0 := 0) rfl rfl) hP) rfl rfl hl.1 rfl (lv_room (Nat.le_of_ble_eq_true rfl)) dX0_closeRipe_13 ⟨by omega, by omega⟩) ?_
        refine g_if_eq (P := rpF (va_up (kf) 5 (crS kf night i_1)) (i_1) (night) = false) (tgt := 26) hx hb dX0_closeRipe_16 (by decide) b2i_0 (fun c_13 => ?_) (fun c_13 => ?_)
        · refine lv_iinc (v := nI (i_1 + 1)) (lv' := [(2, .int (nI (i_1 + 1))), (0, .ref (K 0)), (1, .int (night))]) hx hb dX0_closeRipe_26 hl (k := 0) rfl (inc_1 _) (by decide) rfl (fun ls hl => ?_)
          refine lv_goto (tgt := 2) hx hb dX0_closeRipe_29 (by decide) ?_
          exact ih_6 (i_1 + 1) _ (crS kf night i_1) H locs (by omega) (by omega) rfl (by rw [crS, if_neg (bnt c_13)]) hP hS ls (lv_sub hl [0, 1, 2] rfl)
        · have c_13 : rpF (va_up (kf) 5 (crS kf night i_1)) (i_1) (night) = true := eq_true_of_ne_false c_13
          refine lv_aload_n hx hb dX0_closeRipe_19 rfl (lv_at hl 1 rfl) ?_
          refine g_get (v := .ref (K 6)) hx hb hts hown hK hP 0 rfl rfl gu_wsX00 5 (by decide) gm_3_22 rfl dX0_closeRipe_20 ?_
          refine lv_iload_n hx hb dX0_closeRipe_23 rfl (lv_at hl 0 rfl) ?_
          refine lv_iload_n hx hb dX0_closeRipe_24 rfl (lv_at hl 2 rfl) ?_
          refine g_iast (ws' := kw cA K (va_up (kf) 5 (upd (crS kf night i_1) (i_1) (night))) (rw) (cn) (rl)) hx hb hK hP hD hS 6 rfl (by omega) (by decide) (by first | rfl | (rw [updN_nI]; rfl)) dX0_closeRipe_25 (fun H locs hP hD hS => ?_)
          refine lv_iinc (v := nI (i_1 + 1)) (lv' := [(2, .int (nI (i_1 + 1))), (0, .ref (K 0)), (1, .int (night))]) hx hb dX0_closeRipe_26 hl (k := 0) rfl (inc_1 _) (by decide) rfl (fun ls hl => ?_)
          refine lv_goto (tgt := 2) hx hb dX0_closeRipe_29 (by decide) ?_
          exact ih_6 (i_1 + 1) _ (upd (crS kf night i_1) (i_1) (night)) H locs (by omega) (by omega) rfl (by rw [crS, if_pos c_13]) hP hS ls (lv_sub hl [0, 1, 2] rfl)
  exact LP_5 (cn + 1) 0 _ (kf 5) s.heap [] (by omega) (by omega) rfl rfl hP hS ls (lv_sub hl [0, 1, 2] rfl)

set_option maxHeartbeats 1000000 in
set_option maxRecDepth 100000 in
theorem c_X0_enroll (l : Launch) (D : va_G) (cA : Nat → ClassId) (K : Nat → Nat) (kf : Nat → Nat → Int32) (rw : Nat → Nat) (cn rl : Nat) (q : Nat) (hA : aInj 10 K) (hr9 : rl ≤ 9) (hrw : ∀ k, k < rl → rw k < 10) (hq : q < 10) : Met l yX0_enroll (gw yX0_enroll cX0_enroll 3 none) ({ frames := 1, cells := 0, slots := 0, locals := 22 } : Room) (gPc [.ref (K 0), .int (nI (q))] (fun H => va_P D vwCl (kw cA K (kf) (rw) (cn) (rl)) H) D cA) (wrV (fun H => va_P D vwCl (kw cA K kf (enO kf rw rl q) cn (rl + 1)) H) (aS 10 K)) 0 0 (aS 10 K) := by
  refine gOf (by decide) (Nat.le_of_ble_eq_true rfl) ?_
  intro p e s m below meth c ls hx hb hml hr hlk hown hts hnm hP hK hl
  have hl : lv_has ls 3 [(0, .ref (K 0)), (1, .int (nI (q)))] := hl
  have hD : va_D (aS 10 K) (kw cA K (kf) (rw) (cn) (rl)) := kwD hA
  have hS : va_S (aS 10 K) s.heap s.heap [] := va_S.rf
  refine lv_aload_n hx hb dX0_enroll_0 rfl (lv_at hl 0 rfl) ?_
  refine g_get (v := .int (nI (rl))) hx hb hts hown hK hP 0 rfl rfl gu_wsX00 10 (by decide) gm_4_3 rfl dX0_enroll_1 ?_
  refine lv_bipush (v := nI (10)) hx hb dX0_enroll_4 gb_10 ?_
  refine g_icmp_lt (P := rl < 10) (tgt := 10) hx hb dX0_enroll_6 (by decide) (nI_ltI (by omega) (by omega)) (fun c_1 => ?_) (fun c_1 => ?_)
  · have d_1 : ¬ 10 ≤ rl := Nat.not_le.mpr c_1
    refine lv_aload_n hx hb dX0_enroll_10 rfl (lv_at hl 0 rfl) ?_
    refine g_get (v := .int (nI (rl))) hx hb hts hown hK hP 0 rfl rfl gu_wsX00 10 (by decide) gm_4_3 rfl dX0_enroll_11 ?_
    refine lv_istore_n (lv' := [(2, .int (nI (rl))), (0, .ref (K 0)), (1, .int (nI (q)))]) hx hb dX0_enroll_14 rfl hl (by decide) rfl (fun ls hl => ?_)
    have LP_6 : ∀ (n_3 i_2 : Nat) (x_4 : Int32) (F_5 : Nat → Nat) (H : Heap) (locs : List Loc), i_2 ≤ rl → rl + 1 ≤ i_2 + n_3 → x_4 = nI (rl - i_2) → F_5 = enS rw rl i_2 → (fnd (fun t => !cbF kf q (rw (rl - t - 1))) (i_2) = none) → va_P D vwCl (kw cA K (kf) (F_5) (cn) (rl)) H → va_S (aS 10 K) s.heap H locs → ∀ (ls : Array Slot), lv_has ls 3 [(2, .int (x_4)), (0, .ref (K 0)), (1, .int (nI (q)))] → W p l e ({ frames := 1, cells := 0, slots := 0, locals := 22 } : Room) s m ([.ref (K 0), .int (nI (q))] : List Value).toArray below meth c H locs 0 0 (MQ below (wrV (fun H => va_P D vwCl (kw cA K kf (enO kf rw rl q) cn (rl + 1)) H) (aS 10 K)) ([.ref (K 0), .int (nI (q))] : List Value).toArray s 0 0 (aS 10 K)) (F0 m 15 ls []) := by
      intro n_3
      induction n_3 with
      | zero => intro i_2 x_4 F_5 H locs h1 h2; exact absurd h2 (by omega)
      | succ n_3 ih_7 =>
        intro i_2 x_4 F_5 H locs h_8 h_9 e_10 e_11 hv hP hS ls hl
        subst e_10
        subst e_11
        have hD : va_D (aS 10 K) (kw cA K (kf) (enS rw rl i_2) (cn) (rl)) := kwD hA
        refine lv_iload_n hx hb dX0_enroll_15 rfl (lv_at hl 0 rfl) ?_
        refine g_if_le (P := rl - i_2 = 0) (tgt := 55) hx hb dX0_enroll_16 (by decide) (nI_ez (a := rl - i_2) (by omega)) (fun c_12 => ?_) (fun c_12 => ?_)
        · have hN_13 : rl = i_2 := by omega
          subst hN_13
          refine lv_aload_n hx hb dX0_enroll_55 rfl (lv_at hl 1 rfl) ?_
          refine g_get (v := .ref (K 9)) hx hb hts hown hK hP 0 rfl rfl gu_wsX00 8 (by decide) gm_4_1 rfl dX0_enroll_56 ?_
          refine lv_iload_n hx hb dX0_enroll_59 rfl (lv_at hl 0 rfl) ?_
          refine lv_iload_n hx hb dX0_enroll_60 rfl (lv_at hl 2 rfl) ?_
          refine g_iast (ws' := kw cA K (kf) (updN (enS rw rl (rl)) (rl - (rl)) (q)) (cn) (rl)) hx hb hK hP hD hS 9 rfl (by omega) (by decide) (by first | rfl | (rw [updN_nI]; rfl)) dX0_enroll_61 (fun H locs hP hD hS => ?_)
          refine lv_aload_n hx hb dX0_enroll_62 rfl (lv_at hl 1 rfl) ?_
          refine lv_dup hx hb dX0_enroll_63 rfl ?_
          refine g_get (v := .int (nI (rl))) hx hb hts hown hK hP 0 rfl rfl gu_wsX00 10 (by decide) gm_4_3 rfl dX0_enroll_64 ?_
          refine lv_iconst (v := nI (1)) hx hb dX0_enroll_67 gc_1 ?_
          refine g_iadd hx hb dX0_enroll_68 ?_
          refine g_put (ws' := kw cA K (kf) (updN (enS rw rl (rl)) (rl - (rl)) (q)) (cn) (rl + 1)) hx hb hts hown hK hP hD hS 0 rfl rfl gu_wsX00 tyX0_ok nmX0 10 (by decide) gm_4_3 rfl rfl rfl (Nat.le_of_ble_eq_true rfl) (by first | rfl | (rw [updN_nI]; rfl)) dX0_enroll_69 (fun H locs hP hD hS => ?_)
          exact g_vretW hx hb hr hlk hS dX0_enroll_72 (by have e9 : enT kf rw rl q = rl := (by rw [enT, hv]; rfl); rw [enO, e9]; exact hP)
        · refine lv_aload_n hx hb dX0_enroll_19 rfl (lv_at hl 1 rfl) ?_
          refine lv_iload_n hx hb dX0_enroll_20 rfl (lv_at hl 2 rfl) ?_
          refine lv_aload_n hx hb dX0_enroll_21 rfl (lv_at hl 1 rfl) ?_
          refine g_get (v := .ref (K 9)) hx hb hts hown hK hP 0 rfl rfl gu_wsX00 8 (by decide) gm_4_1 rfl dX0_enroll_22 ?_
          refine lv_iload_n hx hb dX0_enroll_25 rfl (lv_at hl 0 rfl) ?_
          refine lv_iconst (v := nI (1)) hx hb dX0_enroll_26 gc_1 ?_
          refine g_isub hx hb (by omega) dX0_enroll_27 ?_
          have hrk_14 := hrw (rl - i_2 - 1) (by omega)
          refine g_iald (x := nI (rw (rl - i_2 - 1))) hx hb hK hP 9 rfl (by omega) (by decide) (by rw [enS_lo i_2 (by omega) (by omega)]) dX0_enroll_28 ?_
          refine rd_calle (va_runV (As := [.int (nI (q)), .int (nI (rw (rl - i_2 - 1)))]) (rest := []) ⟨hx, hb, hml, hown, hts⟩ (c_X0_comesBefore l D cA K (kf) (enS rw rl i_2) (cn) (rl) (q) (rw (rl - i_2 - 1))  (by omega) (by omega)) (cwV 2 hts (gWV gm_13_15 gm_13_16 gm_13_17 gm_3_0 gm_13_18) rfl rfl rfl (by decide +kernel) ⟨Nat.le_of_ble_eq_true rfl, Nat.le_of_ble_eq_true rfl⟩) (gPreV hK (g_rf hK hP (ci := 2) (q0 := 0) rfl rfl) hP) rfl rfl hl.1 rfl (lv_room (Nat.le_of_ble_eq_true rfl)) dX0_enroll_29 ⟨by omega, by omega⟩) ?_
          refine g_if_eq (P := cbF kf (q) (rw (rl - i_2 - 1)) = false) (tgt := 55) hx hb dX0_enroll_32 (by decide) b2i_0 (fun c_15 => ?_) (fun c_15 => ?_)
          · refine lv_aload_n hx hb dX0_enroll_55 rfl (lv_at hl 1 rfl) ?_
            refine g_get (v := .ref (K 9)) hx hb hts hown hK hP 0 rfl rfl gu_wsX00 8 (by decide) gm_4_1 rfl dX0_enroll_56 ?_
            refine lv_iload_n hx hb dX0_enroll_59 rfl (lv_at hl 0 rfl) ?_
            refine lv_iload_n hx hb dX0_enroll_60 rfl (lv_at hl 2 rfl) ?_
            refine g_iast (ws' := kw cA K (kf) (updN (enS rw rl i_2) (rl - i_2) (q)) (cn) (rl)) hx hb hK hP hD hS 9 rfl (by omega) (by decide) (by first | rfl | (rw [updN_nI]; rfl)) dX0_enroll_61 (fun H locs hP hD hS => ?_)
            refine lv_aload_n hx hb dX0_enroll_62 rfl (lv_at hl 1 rfl) ?_
            refine lv_dup hx hb dX0_enroll_63 rfl ?_
            refine g_get (v := .int (nI (rl))) hx hb hts hown hK hP 0 rfl rfl gu_wsX00 10 (by decide) gm_4_3 rfl dX0_enroll_64 ?_
            refine lv_iconst (v := nI (1)) hx hb dX0_enroll_67 gc_1 ?_
            refine g_iadd hx hb dX0_enroll_68 ?_
            refine g_put (ws' := kw cA K (kf) (updN (enS rw rl i_2) (rl - i_2) (q)) (cn) (rl + 1)) hx hb hts hown hK hP hD hS 0 rfl rfl gu_wsX00 tyX0_ok nmX0 10 (by decide) gm_4_3 rfl rfl rfl (Nat.le_of_ble_eq_true rfl) (by first | rfl | (rw [updN_nI]; rfl)) dX0_enroll_69 (fun H locs hP hD hS => ?_)
            exact g_vretW hx hb hr hlk hS dX0_enroll_72 (by have e9 : enT kf rw rl q = i_2 := (by rw [enT, fnd_stop hv (by rw [c_15]; rfl) rl (by omega)]; rfl); rw [enO, e9]; exact hP)
          · have c_15 : cbF kf (q) (rw (rl - i_2 - 1)) = true := eq_true_of_ne_false c_15
            refine lv_aload_n hx hb dX0_enroll_35 rfl (lv_at hl 1 rfl) ?_
            refine g_get (v := .ref (K 9)) hx hb hts hown hK hP 0 rfl rfl gu_wsX00 8 (by decide) gm_4_1 rfl dX0_enroll_36 ?_
            refine lv_iload_n hx hb dX0_enroll_39 rfl (lv_at hl 0 rfl) ?_
            refine lv_aload_n hx hb dX0_enroll_40 rfl (lv_at hl 1 rfl) ?_
            refine g_get (v := .ref (K 9)) hx hb hts hown hK hP 0 rfl rfl gu_wsX00 8 (by decide) gm_4_1 rfl dX0_enroll_41 ?_
            refine lv_iload_n hx hb dX0_enroll_44 rfl (lv_at hl 0 rfl) ?_
            refine lv_iconst (v := nI (1)) hx hb dX0_enroll_45 gc_1 ?_
            refine g_isub hx hb (by omega) dX0_enroll_46 ?_
            refine g_iald (x := nI (rw (rl - i_2 - 1))) hx hb hK hP 9 rfl (by omega) (by decide) (by rw [enS_lo i_2 (by omega) (by omega)]) dX0_enroll_47 ?_
            refine g_iast (ws' := kw cA K (kf) (updN (enS rw rl i_2) (rl - i_2) (rw (rl - i_2 - 1))) (cn) (rl)) hx hb hK hP hD hS 9 rfl (by omega) (by decide) (by first | rfl | (rw [updN_nI]; rfl)) dX0_enroll_48 (fun H locs hP hD hS => ?_)
            refine lv_iinc (v := nI (rl - i_2 - 1)) (lv' := [(2, .int (nI (rl - i_2 - 1))), (0, .ref (K 0)), (1, .int (nI (q)))]) hx hb dX0_enroll_49 hl (k := 0) rfl (dec_1 (by omega)) (by decide) rfl (fun ls hl => ?_)
            refine lv_goto (tgt := 15) hx hb dX0_enroll_52 (by decide) ?_
            exact ih_7 (i_2 + 1) _ (updN (enS rw rl i_2) (rl - i_2) (rw (rl - i_2 - 1))) H locs (by omega) (by omega) rfl (by rw [enS, enS_lo (j := rl - i_2 - 1) i_2 (by omega) (by omega)]) (fnd_succ_none hv (by rw [c_15]; rfl)) hP hS ls (lv_sub hl [0, 1, 2] rfl)
    exact LP_6 (rl + 1) 0 _ (rw) s.heap [] (by omega) (by omega) rfl rfl rfl hP hS ls (lv_sub hl [0, 1, 2] rfl)
  · have d_1 : 10 ≤ rl := Nat.not_lt.mp c_1
    exact absurd c_1 (by omega)

set_option maxHeartbeats 1000000 in
set_option maxRecDepth 100000 in
theorem c_X0_strike (l : Launch) (D : va_G) (cA : Nat → ClassId) (K : Nat → Nat) (kf : Nat → Nat → Int32) (rw : Nat → Nat) (cn rl : Nat) (q : Nat) (hA : aInj 10 K) (hrl : rl ≤ 10) (hrw : ∀ k, k < rl → rw k < 10) (hq : q < 10) : Met l yX0_strike (gw yX0_strike cX0_strike 4 none) ({ frames := 1, cells := 0, slots := 0, locals := 22 } : Room) (gPc [.ref (K 0), .int (nI (q))] (fun H => va_P D vwCl (kw cA K (kf) (rw) (cn) (rl)) H) D cA) (wrV (fun H => va_P D vwCl (kw cA K kf (stO rw rl q).1 cn (stO rw rl q).2) H) (aS 10 K)) 0 0 (aS 10 K) := by
  refine gOf (by decide) (Nat.le_of_ble_eq_true rfl) ?_
  intro p e s m below meth c ls hx hb hml hr hlk hown hts hnm hP hK hl
  have hl : lv_has ls 4 [(0, .ref (K 0)), (1, .int (nI (q)))] := hl
  have hD : va_D (aS 10 K) (kw cA K (kf) (rw) (cn) (rl)) := kwD hA
  have hS : va_S (aS 10 K) s.heap s.heap [] := va_S.rf
  refine lv_aload_n hx hb dX0_strike_0 rfl (lv_at hl 0 rfl) ?_
  refine lv_iload_n hx hb dX0_strike_1 rfl (lv_at hl 1 rfl) ?_
  refine rd_calle (va_runV (As := [.int (nI (q))]) (rest := []) ⟨hx, hb, hml, hown, hts⟩ (c_X0_placeOnRoll l D cA K (kf) (rw) (cn) (rl) (q)  hrl hrw (by omega)) (cwV 1 hts (gWV gm_17_11 gm_17_12 gm_17_13 gm_3_0 gm_17_14) rfl rfl rfl (by decide +kernel) ⟨Nat.le_of_ble_eq_true rfl, Nat.le_of_ble_eq_true rfl⟩) (gPreV hK (g_rf hK hP (ci := 2) (q0 := 0) rfl rfl) hP) rfl rfl hl.1 rfl (lv_room (Nat.le_of_ble_eq_true rfl)) dX0_strike_2 ⟨by omega, by omega⟩) ?_
  refine lv_istore_n (lv' := [(2, .int (oI (fnd (fun k => decide (rw k = (q))) rl))), (0, .ref (K 0)), (1, .int (nI (q)))]) hx hb dX0_strike_5 rfl hl (by decide) rfl (fun ls hl => ?_)
  refine lv_iload_n hx hb dX0_strike_6 rfl (lv_at hl 0 rfl) ?_
  refine lv_iconst (v := -1) hx hb dX0_strike_7 gc_m1 ?_
  refine g_icmp_ne (P := fnd (fun k => decide (rw k = (q))) rl = none) (tgt := 12) hx hb dX0_strike_8 (by decide) (oI_m1 (fun b q => by have := fnd_lt q; omega)) (fun c_1 => ?_) (fun c_1 => ?_)
  · obtain ⟨b_2, eb_3⟩ := o_some c_1
    have hb_4 := fnd_lt eb_3
    rw [eb_3] at hl
    have hl : lv_has ls 4 [(2, .int (nI (b_2))), (0, .ref (K 0)), (1, .int (nI (q)))] := hl
    refine lv_aload_n hx hb dX0_strike_12 rfl (lv_at hl 1 rfl) ?_
    refine lv_dup hx hb dX0_strike_13 rfl ?_
    refine g_get (v := .int (nI (rl))) hx hb hts hown hK hP 0 rfl rfl gu_wsX00 10 (by decide) gm_4_3 rfl dX0_strike_14 ?_
    refine lv_iconst (v := nI (1)) hx hb dX0_strike_17 gc_1 ?_
    refine g_isub hx hb (by omega) dX0_strike_18 ?_
    refine g_put (ws' := kw cA K (kf) (rw) (cn) (rl - 1)) hx hb hts hown hK hP hD hS 0 rfl rfl gu_wsX00 tyX0_ok nmX0 10 (by decide) gm_4_3 rfl rfl rfl (Nat.le_of_ble_eq_true rfl) (by first | rfl | (rw [updN_nI]; rfl)) dX0_strike_19 (fun H locs hP hD hS => ?_)
    refine lv_iload_n hx hb dX0_strike_22 rfl (lv_at hl 0 rfl) ?_
    refine lv_istore_n (lv' := [(3, .int (nI (b_2))), (2, .int (nI (b_2))), (0, .ref (K 0)), (1, .int (nI (q)))]) hx hb dX0_strike_23 rfl hl (by decide) rfl (fun ls hl => ?_)
    have LP_9 : ∀ (n_6 i_5 : Nat) (x_7 : Int32) (F_8 : Nat → Nat) (H : Heap) (locs : List Loc), i_5 ≤ (rl - 1 - b_2) → (rl - 1 - b_2) + 1 ≤ i_5 + n_6 → x_7 = nI (b_2 + i_5) → F_8 = stS rw b_2 i_5 → va_P D vwCl (kw cA K (kf) (F_8) (cn) (rl - 1)) H → va_S (aS 10 K) s.heap H locs → ∀ (ls : Array Slot), lv_has ls 4 [(3, .int (x_7)), (2, .int (nI (b_2))), (0, .ref (K 0)), (1, .int (nI (q)))] → W p l e ({ frames := 1, cells := 0, slots := 0, locals := 22 } : Room) s m ([.ref (K 0), .int (nI (q))] : List Value).toArray below meth c H locs 0 0 (MQ below (wrV (fun H => va_P D vwCl (kw cA K kf (stO rw rl q).1 cn (stO rw rl q).2) H) (aS 10 K)) ([.ref (K 0), .int (nI (q))] : List Value).toArray s 0 0 (aS 10 K)) (F0 m 24 ls []) := by
      intro n_6
      induction n_6 with
      | zero => intro i_5 x_7 F_8 H locs h1 h2; exact absurd h2 (by omega)
      | succ n_6 ih_10 =>
        intro i_5 x_7 F_8 H locs h_11 h_12 e_13 e_14 hP hS ls hl
        subst e_13
        subst e_14
        have hD : va_D (aS 10 K) (kw cA K (kf) (stS rw b_2 i_5) (cn) (rl - 1)) := kwD hA
        refine lv_iload_n hx hb dX0_strike_24 rfl (lv_at hl 0 rfl) ?_
        refine lv_aload_n hx hb dX0_strike_25 rfl (lv_at hl 2 rfl) ?_
        refine g_get (v := .int (nI (rl - 1))) hx hb hts hown hK hP 0 rfl rfl gu_wsX00 10 (by decide) gm_4_3 rfl dX0_strike_26 ?_
        refine g_icmp_ge (P := rl - 1 ≤ b_2 + i_5) (tgt := 52) hx hb dX0_strike_29 (by decide) (nI_leI (by omega) (by omega)) (fun c_15 => ?_) (fun c_15 => ?_)
        · have d_15 : ¬ b_2 + i_5 < rl - 1 := Nat.not_lt.mpr c_15
          have hN_16 : rl - 1 - b_2 = i_5 := by omega
          subst hN_16
          exact g_vretW hx hb hr hlk hS dX0_strike_52 (by rw [stO_some eb_3]; exact hP)
        · have d_15 : b_2 + i_5 < rl - 1 := Nat.not_le.mp c_15
          refine lv_aload_n hx hb dX0_strike_32 rfl (lv_at hl 2 rfl) ?_
          refine g_get (v := .ref (K 9)) hx hb hts hown hK hP 0 rfl rfl gu_wsX00 8 (by decide) gm_4_1 rfl dX0_strike_33 ?_
          refine lv_iload_n hx hb dX0_strike_36 rfl (lv_at hl 0 rfl) ?_
          refine lv_aload_n hx hb dX0_strike_37 rfl (lv_at hl 2 rfl) ?_
          refine g_get (v := .ref (K 9)) hx hb hts hown hK hP 0 rfl rfl gu_wsX00 8 (by decide) gm_4_1 rfl dX0_strike_38 ?_
          refine lv_iload_n hx hb dX0_strike_41 rfl (lv_at hl 0 rfl) ?_
          refine lv_iconst (v := nI (1)) hx hb dX0_strike_42 gc_1 ?_
          refine g_iadd hx hb dX0_strike_43 ?_
          refine g_iald (x := nI ((stS rw b_2 i_5) ((b_2 + i_5) + (1)))) hx hb hK hP 9 rfl (by omega) (by decide) rfl dX0_strike_44 ?_
          refine g_iast (ws' := kw cA K (kf) (updN (stS rw b_2 i_5) (b_2 + i_5) ((stS rw b_2 i_5) ((b_2 + i_5) + (1)))) (cn) (rl - 1)) hx hb hK hP hD hS 9 rfl (by omega) (by decide) (by first | rfl | (rw [updN_nI]; rfl)) dX0_strike_45 (fun H locs hP hD hS => ?_)
          refine lv_iinc (v := nI (b_2 + i_5 + 1)) (lv' := [(3, .int (nI (b_2 + i_5 + 1))), (2, .int (nI (b_2))), (0, .ref (K 0)), (1, .int (nI (q)))]) hx hb dX0_strike_46 hl (k := 0) rfl (inc_1 _) (by decide) rfl (fun ls hl => ?_)
          refine lv_goto (tgt := 24) hx hb dX0_strike_49 (by decide) ?_
          exact ih_10 (i_5 + 1) _ (updN (stS rw b_2 i_5) (b_2 + i_5) ((stS rw b_2 i_5) ((b_2 + i_5) + (1)))) H locs (by omega) (by omega) rfl rfl hP hS ls (lv_sub hl [0, 1, 2, 3] rfl)
    exact LP_9 ((rl - 1 - b_2) + 1) 0 _ (rw) H locs (by omega) (by omega) rfl rfl hP hS ls (lv_sub hl [0, 1, 2, 3] rfl)
  · exact g_vretW hx hb hr hlk hS dX0_strike_11 (by rw [stO_none c_1]; exact hP)

