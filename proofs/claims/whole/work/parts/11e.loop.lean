/-! the law's loop -/
theorem lp_and (a : Int32) : ∃ n : Nat, n < 64 ∧ a &&& nI 63 = nI n := by
  refine ⟨(a &&& nI 63).toBitVec.toNat, ?_, ?_⟩
  · rw [Int32.toBitVec_and, BitVec.toNat_and]
    have h : (nI 63).toBitVec.toNat = 63 := by decide +kernel
    rw [h]
    exact Nat.lt_of_le_of_lt Nat.and_le_right (by decide)
  · apply Int32.toBitVec_inj.mp
    show _ = BitVec.ofNat 32 _
    rw [BitVec.ofNat_toNat, BitVec.setWidth_eq]
theorem lp_lt {i L : Nat} (hi : i ≤ 1545) (hL : L ≤ 1536) : Int32.ofNat L - nI 3 < nI i ↔ L < i + 3 := by
  rw [Int32.lt_iff_toInt_lt, Int32.toInt_sub, nI_toInt (show i < 2 ^ 31 by omega), show (Int32.ofNat L).toInt = (L : Int) from nI_toInt (show L < 2 ^ 31 by omega), show (nI 3).toInt = 3 from by decide +kernel]
  simp only [Int.bmod]
  omega
set_option maxHeartbeats 1000000 in
set_option maxRecDepth 100000 in
theorem lp_head (l : Launch) (hlt : l.stackTraces = false) {p : Program} {e : Env} {s : State} {m : MethodId} {args : Array Value} {below : List Frame} {meth : Method} {c0 : Code} {Q : State → Prop} {H : Heap} {locs : List Loc} {ls : Array Slot} {ce sl i : Nat} {D : va_G} {cA : Nat → ClassId} {AE : Nat → Prop} {adK adV sa : Nat → Nat} {U : Nat → Nat} {rg : Nat → Option Nat} {A : Nat → Nat} {o od b L : Nat} {xs : Nat → Int32} {x : Nat → Int32} {f : Nat → Nat → Int32} {g : Nat → Int64} {gd : Nat → UInt64} (hx : p.tables.exec = Jvm.exec) (hb : c0.code = cL_law) (hml : c0.maxLocals = 9) (hown : s.vm.findClass RL = some m.cls) (hts : ∀ w ∈ Cond.initialized RL :: gG, w.before args s = true) (hK : gK D cA s) (hE : gE AE adK adV sa s s.heap) (hN : gNc s) (hX : va_X b L xs s s.heap) (hbl : b < s.heap.size) (hL : L ≤ 1536) (hi9 : i ≤ 1545) (hA : aInj 189 U) (hM : mInj A) (hrg : uRg U rg) (hAE : ∀ q, s.heap.size ≤ q → AE q) (hUf : ∀ q, aS 189 U q → s.heap.size ≤ q ∧ ¬ MA A q ∧ q ≠ o ∧ q ≠ od) (hMf : ∀ q, MA A q → s.heap.size ≤ q ∧ q ≠ o ∧ q ≠ od) (hof : s.heap.size ≤ o ∧ s.heap.size ≤ od ∧ o ≠ od) (hce : ce + 9 ≤ room_1.cells) (hsl : sl + 60 ≤ room_1.slots) (hS : va_S (fun q => s.heap.size ≤ q) s.heap H locs) (hl : lv_has ls 9 [(5, .int (nI i)), (4, .ref (od)), (3, .ref (o)), (2, .ref (A 0)), (1, .ref (U 0)), (0, .ref (b))]) (hLS : LST D cA U rg x f H) (hP : va_P D vwCl (mw cA A x f) H) (hO : va_P D vwCl (oL cA o g) H) (hD : va_P D vwCl (oD cA od gd) H)  (KE : W p l e room_1 s m args below meth c0 H locs ce sl Q (F0 m 2168 ls [])) (KK : i + 3 ≤ L → ∀ (x1 : Nat → Int32) (f1 : Nat → Nat → Int32) (g1 : Nat → Int64) (gd1 : Nat → UInt64) (H1 : Heap) (locs1 : List Loc) (ls1 : Array Slot), LST D cA U rg x1 f1 H1 → va_P D vwCl (mw cA A x1 f1) H1 → va_P D vwCl (oL cA o g1) H1 → va_P D vwCl (oD cA od gd1) H1 → va_S (fun q => s.heap.size ≤ q) s.heap H1 locs1 → lv_has ls1 9 [(5, .int (nI i)), (4, .ref (od)), (3, .ref (o)), (2, .ref (A 0)), (1, .ref (U 0)), (0, .ref (b))] → W p l e room_1 s m args below meth c0 H1 locs1 (ce + 1) (sl + 6) Q (F0 m 2162 ls1 [])) : W p l e room_1 s m args below meth c0 H locs ce sl Q (F0 m 28 ls []) := by
  have hbA : ¬ (fun q => s.heap.size ≤ q) b := fun h => absurd hbl (Nat.not_lt.mpr h)
  refine lv_iload hx hb dL_law_28 (lv_at hl 0 rfl) ?_
  refine lv_aload_n hx hb dL_law_30 rfl (lv_at hl 5 rfl) ?_
  refine va_slen (A := (fun q => s.heap.size ≤ q)) hx hb hX hbl hbA hS dL_law_31 ?_
  refine lv_iconst (v := nI 3) hx hb dL_law_32 gc_3 ?_
  refine lv_isub hx hb dL_law_33 ?_
  refine g_icmp_gt (P := L < i + 3) (tgt := 2168) hx hb dL_law_34 (by decide) (lp_lt hi9 hL) (fun _ => KE) (fun hc => ?_)
  have hi : i + 3 ≤ L := Nat.not_lt.mp hc
  refine lv_aload_n hx hb dL_law_37 rfl (lv_at hl 5 rfl) ?_
  refine lv_iload hx hb dL_law_38 (lv_at hl 0 rfl) ?_
  refine va_sld (A := (fun q => s.heap.size ≤ q)) hx hb hX hbl hbA hS (lp_in (by omega) hL) dL_law_40 ?_
  refine lv_bipush (v := nI 63) hx hb dL_law_41 (by decide +kernel) ?_
  refine lv_iand hx hb dL_law_43 ?_
  obtain ⟨n, hn, en⟩ := lp_and (xs (nI i).toNatClampNeg)
  rw [en]
  by_cases e0 : n = 0
  · subst e0
    refine lv_tableIn (off := 164) (tgt := 208) hx hb dL_law_44 (by decide +kernel) (by decide +kernel) (by decide +kernel) (by decide) ?_
    exact lc_juror l hlt hx hb hml hown hts hK hE hN hX hbl hL hi hA hM hrg hAE hUf hMf hof hce hsl hS hl hLS hP hO hD (KK hi)
  by_cases e1 : n = 1
  · subst e1
    refine lv_tableIn (off := 232) (tgt := 276) hx hb dL_law_44 (by decide +kernel) (by decide +kernel) (by decide +kernel) (by decide) ?_
    exact lc_bring l hlt hx hb hml hown hts hK hE hN hX hbl hL hi hA hM hrg hAE hUf hMf hof hce hsl hS hl hLS hP hO hD (KK hi)
  by_cases e2 : n = 2
  · subst e2
    refine lv_tableIn (off := 300) (tgt := 344) hx hb dL_law_44 (by decide +kernel) (by decide +kernel) (by decide +kernel) (by decide) ?_
    exact lc_call l hlt hx hb hml hown hts hK hE hN hX hbl hL hi hA hM hrg hAE hUf hMf hof hce hsl hS hl hLS hP hO hD (KK hi)
  by_cases e3 : n = 3
  · subst e3
    refine lv_tableIn (off := 356) (tgt := 400) hx hb dL_law_44 (by decide +kernel) (by decide +kernel) (by decide +kernel) (by decide) ?_
    exact lc_vote l hlt hx hb hml hown hts hK hE hN hX hbl hL hi hA hM hrg hAE hUf hMf hof hce hsl hS hl hLS hP hO hD (KK hi)
  by_cases e4 : n = 4
  · subst e4
    refine lv_tableIn (off := 412) (tgt := 456) hx hb dL_law_44 (by decide +kernel) (by decide +kernel) (by decide +kernel) (by decide) ?_
    exact lc_unsay l hlt hx hb hml hown hts hK hE hN hX hbl hL hi hA hM hrg hAE hUf hMf hof hce hsl hS hl hLS hP hO hD (KK hi)
  by_cases e5 : n = 5
  · subst e5
    refine lv_tableIn (off := 468) (tgt := 512) hx hb dL_law_44 (by decide +kernel) (by decide +kernel) (by decide +kernel) (by decide) ?_
    exact lc_appeal l hlt hx hb hml hown hts hK hE hN hX hbl hL hi hA hM hrg hAE hUf hMf hof hce hsl hS hl hLS hP hO hD (KK hi)
  by_cases e6 : n = 6
  · subst e6
    refine lv_tableIn (off := 524) (tgt := 568) hx hb dL_law_44 (by decide +kernel) (by decide +kernel) (by decide +kernel) (by decide) ?_
    exact lc_clerk l hlt hx hb hml hown hts hK hE hN hX hbl hL hi hA hM hrg hAE hUf hMf hof hce hsl hS hl hLS hP hO hD (KK hi)
  by_cases e7 : n = 7
  · subst e7
    refine lv_tableIn (off := 568) (tgt := 612) hx hb dL_law_44 (by decide +kernel) (by decide +kernel) (by decide +kernel) (by decide) ?_
    exact lc_night l hlt hx hb hml hown hts hK hE hN hX hbl hL hi hA hM hrg hAE hUf hMf hof hce hsl hS hl hLS hP hO hD (KK hi)
  by_cases e8 : n = 8
  · subst e8
    refine lv_tableIn (off := 612) (tgt := 656) hx hb dL_law_44 (by decide +kernel) (by decide +kernel) (by decide +kernel) (by decide) ?_
    exact lc_jurorOf l hlt hx hb hml hown hts hK hE hN hX hbl hL hi hA hM hrg hAE hUf hMf hof hce hsl hS hl hLS hP hO hD (KK hi)
  by_cases e9 : n = 9
  · subst e9
    refine lv_tableIn (off := 680) (tgt := 724) hx hb dL_law_44 (by decide +kernel) (by decide +kernel) (by decide +kernel) (by decide) ?_
    exact lc_caseOf l hlt hx hb hml hown hts hK hE hN hX hbl hL hi hA hM hrg hAE hUf hMf hof hce hsl hS hl hLS hP hO hD (KK hi)
  by_cases e10 : n = 10
  · subst e10
    refine lv_tableIn (off := 748) (tgt := 792) hx hb dL_law_44 (by decide +kernel) (by decide +kernel) (by decide +kernel) (by decide) ?_
    exact lc_voteOf l hlt hx hb hml hown hts hK hE hN hX hbl hL hi hA hM hrg hAE hUf hMf hof hce hsl hS hl hLS hP hO hD (KK hi)
  by_cases e11 : n = 11
  · subst e11
    refine lv_tableIn (off := 816) (tgt := 860) hx hb dL_law_44 (by decide +kernel) (by decide +kernel) (by decide +kernel) (by decide) ?_
    exact lc_wouldBe l hlt hx hb hml hown hts hK hE hN hX hbl hL hi hA hM hrg hAE hUf hMf hof hce hsl hS hl hLS hP hO hD (KK hi)
  by_cases e12 : n = 12
  · subst e12
    refine lv_tableIn (off := 900) (tgt := 944) hx hb dL_law_44 (by decide +kernel) (by decide +kernel) (by decide +kernel) (by decide) ?_
    exact lc_load l hlt hx hb hml hown hts hK hE hN hX hbl hL hi hA hM hrg hAE hUf hMf hof hce hsl hS hl hLS hP hO hD (KK hi)
  by_cases e13 : n = 13
  · subst e13
    refine lv_tableIn (off := 984) (tgt := 1028) hx hb dL_law_44 (by decide +kernel) (by decide +kernel) (by decide +kernel) (by decide) ?_
    exact lc_callable l hlt hx hb hml hown hts hK hE hN hX hbl hL hi hA hM hrg hAE hUf hMf hof hce hsl hS hl hLS hP hO hD (KK hi)
  by_cases e14 : n = 14
  · subst e14
    refine lv_tableIn (off := 1040) (tgt := 1084) hx hb dL_law_44 (by decide +kernel) (by decide +kernel) (by decide +kernel) (by decide) ?_
    exact lc_thoughts l hlt hx hb hml hown hts hK hE hN hX hbl hL hi hA hM hrg hAE hUf hMf hof hce hsl hS hl hLS hP hO hD (KK hi)
  by_cases e15 : n = 15
  · subst e15
    refine lv_tableIn (off := 1096) (tgt := 1140) hx hb dL_law_44 (by decide +kernel) (by decide +kernel) (by decide +kernel) (by decide) ?_
    exact lc_isOn l hlt hx hb hml hown hts hK hE hN hX hbl hL hi hA hM hrg hAE hUf hMf hof hce hsl hS hl hLS hP hO hD (KK hi)
  by_cases e16 : n = 16
  · subst e16
    refine lv_tableIn (off := 1171) (tgt := 1215) hx hb dL_law_44 (by decide +kernel) (by decide +kernel) (by decide +kernel) (by decide) ?_
    exact lc_roll l hlt hx hb hml hown hts hK hE hN hX hbl hL hi hA hM hrg hAE hUf hMf hof hce hsl hS hl hLS hP hO hD (KK hi)
  by_cases e17 : n = 17
  · subst e17
    refine lv_tableIn (off := 1255) (tgt := 1299) hx hb dL_law_44 (by decide +kernel) (by decide +kernel) (by decide +kernel) (by decide) ?_
    exact lc_rolled l hlt hx hb hml hown hts hK hE hN hX hbl hL hi hA hM hrg hAE hUf hMf hof hce hsl hS hl hLS hP hO hD (KK hi)
  by_cases e18 : n = 18
  · subst e18
    refine lv_tableIn (off := 1268) (tgt := 1312) hx hb dL_law_44 (by decide +kernel) (by decide +kernel) (by decide +kernel) (by decide) ?_
    exact lc_wouldTake l hlt hx hb hml hown hts hK hE hN hX hbl hL hi hA hM hrg hAE hUf hMf hof hce hsl hS hl hLS hP hO hD (KK hi)
  by_cases e19 : n = 19
  · subst e19
    refine lv_tableIn (off := 1324) (tgt := 1368) hx hb dL_law_44 (by decide +kernel) (by decide +kernel) (by decide +kernel) (by decide) ?_
    exact lc_overdue l hlt hx hb hml hown hts hK hE hN hX hbl hL hi hA hM hrg hAE hUf hMf hof hce hsl hS hl hLS hP hO hD (KK hi)
  by_cases e20 : n = 20
  · subst e20
    refine lv_tableIn (off := 1337) (tgt := 1381) hx hb dL_law_44 (by decide +kernel) (by decide +kernel) (by decide +kernel) (by decide) ?_
    exact lc_termFrom l hlt hx hb hml hown hts hK hE hN hX hbl hL hi hA hM hrg hAE hUf hMf hof hce hsl hS hl hLS hP hO hD (KK hi)
  by_cases e21 : n = 21
  · subst e21
    refine lv_tableIn (off := 1393) (tgt := 1437) hx hb dL_law_44 (by decide +kernel) (by decide +kernel) (by decide +kernel) (by decide) ?_
    exact lc_finalIn l hlt hx hb hml hown hts hK hE hN hX hbl hL hi hA hM hrg hAE hUf hMf hof hce hsl hS hl hLS hP hO hD (KK hi)
  by_cases e22 : n = 22
  · subst e22
    refine lv_tableIn (off := 1449) (tgt := 1493) hx hb dL_law_44 (by decide +kernel) (by decide +kernel) (by decide +kernel) (by decide) ?_
    exact lc_doubtful l hlt hx hb hml hown hts hK hE hN hX hbl hL hi hA hM hrg hAE hUf hMf hof hce hsl hS hl hLS hP hO hD (KK hi)
  by_cases e23 : n = 23
  · subst e23
    refine lv_tableIn (off := 1505) (tgt := 1549) hx hb dL_law_44 (by decide +kernel) (by decide +kernel) (by decide +kernel) (by decide) ?_
    exact lc_line l hlt hx hb hml hown hts hK hE hN hX hbl hL hi hA hM hrg hAE hUf hMf hof hce hsl hS hl hLS hP hO hD (KK hi)
  by_cases e24 : n = 24
  · subst e24
    refine lv_tableIn (off := 1561) (tgt := 1605) hx hb dL_law_44 (by decide +kernel) (by decide +kernel) (by decide +kernel) (by decide) ?_
    exact lc_rollLine l hlt hx hb hml hown hts hK hE hN hX hbl hL hi hA hM hrg hAE hUf hMf hof hce hsl hS hl hLS hP hO hD (KK hi)
  by_cases e25 : n = 25
  · subst e25
    refine lv_tableIn (off := 1574) (tgt := 1618) hx hb dL_law_44 (by decide +kernel) (by decide +kernel) (by decide +kernel) (by decide) ?_
    exact lc_character l hlt hx hb hml hown hts hK hE hN hX hbl hL hi hA hM hrg hAE hUf hMf hof hce hsl hS hl hLS hP hO hD (KK hi)
  by_cases e26 : n = 26
  · subst e26
    refine lv_tableIn (off := 1630) (tgt := 1674) hx hb dL_law_44 (by decide +kernel) (by decide +kernel) (by decide +kernel) (by decide) ?_
    exact lc_append l hlt hx hb hml hown hts hK hE hN hX hbl hL hi hA hM hrg hAE hUf hMf hof hce hsl hS hl hLS hP hO hD (KK hi)
  by_cases e27 : n = 27
  · subst e27
    refine lv_tableIn (off := 1688) (tgt := 1732) hx hb dL_law_44 (by decide +kernel) (by decide +kernel) (by decide +kernel) (by decide) ?_
    exact lc_run l hlt hx hb hml hown hts hK hE hN hX hbl hL hi hA hM hrg hAE hUf hMf hof hce hsl hS hl hLS hP hO hD (KK hi)
  by_cases e28 : n = 28
  · subst e28
    refine lv_tableIn (off := 1732) (tgt := 1776) hx hb dL_law_44 (by decide +kernel) (by decide +kernel) (by decide +kernel) (by decide) ?_
    exact lc_errorPosition l hlt hx hb hml hown hts hK hE hN hX hbl hL hi hA hM hrg hAE hUf hMf hof hce hsl hS hl hLS hP hO hD (KK hi)
  by_cases e29 : n = 29
  · subst e29
    refine lv_tableIn (off := 1745) (tgt := 1789) hx hb dL_law_44 (by decide +kernel) (by decide +kernel) (by decide +kernel) (by decide) ?_
    exact lc_refusal l hlt hx hb hml hown hts hK hE hN hX hbl hL hi hA hM hrg hAE hUf hMf hof hce hsl hS hl hLS hP hO hD (KK hi)
  by_cases e30 : n = 30
  · subst e30
    refine lv_tableIn (off := 1817) (tgt := 1861) hx hb dL_law_44 (by decide +kernel) (by decide +kernel) (by decide +kernel) (by decide) ?_
    exact lc_account l hlt hx hb hml hown hts hK hE hN hX hbl hL hi hA hM hrg hAE hUf hMf hof hce hsl hS hl hLS hP hO hD (KK hi)
  by_cases e31 : n = 31
  · subst e31
    refine lv_tableIn (off := 1873) (tgt := 1917) hx hb dL_law_44 (by decide +kernel) (by decide +kernel) (by decide +kernel) (by decide) ?_
    exact lc_isWell l hlt hx hb hml hown hts hK hE hN hX hbl hL hi hA hM hrg hAE hUf hMf hof hce hsl hS hl hLS hP hO hD (KK hi)
  by_cases e32 : n = 32
  · subst e32
    refine lv_tableIn (off := 1886) (tgt := 1930) hx hb dL_law_44 (by decide +kernel) (by decide +kernel) (by decide +kernel) (by decide) ?_
    exact lc_meanLeaning l hlt hx hb hml hown hts hK hE hN hX hbl hL hi hA hM hrg hAE hUf hMf hof hce hsl hS hl hLS hP hO hD (KK hi)
  by_cases e33 : n = 33
  · subst e33
    refine lv_tableIn (off := 1951) (tgt := 1995) hx hb dL_law_44 (by decide +kernel) (by decide +kernel) (by decide +kernel) (by decide) ?_
    exact lc_unsaidShare l hlt hx hb hml hown hts hK hE hN hX hbl hL hi hA hM hrg hAE hUf hMf hof hce hsl hS hl hLS hP hO hD (KK hi)
  by_cases e34 : n = 34
  · subst e34
    refine lv_tableIn (off := 2017) (tgt := 2061) hx hb dL_law_44 (by decide +kernel) (by decide +kernel) (by decide +kernel) (by decide) ?_
    exact lc_undo l hlt hx hb hml hown hts hK hE hN hX hbl hL hi hA hM hrg hAE hUf hMf hof hce hsl hS hl hLS hP hO hD (KK hi)
  by_cases e35 : n = 35
  · subst e35
    refine lv_tableIn (off := 2061) (tgt := 2105) hx hb dL_law_44 (by decide +kernel) (by decide +kernel) (by decide +kernel) (by decide) ?_
    exact lc_save l hlt hx hb hml hown hts hK hE hN hX hbl hL hi hA hM hrg hAE hUf hMf hof hce hsl hS hl hLS hP hO hD (KK hi)
  by_cases e36 : n = 36
  · subst e36
    refine lv_tableIn (off := 2074) (tgt := 2118) hx hb dL_law_44 (by decide +kernel) (by decide +kernel) (by decide +kernel) (by decide) ?_
    exact lc_restore l hlt hx hb hml hown hts hK hE hN hX hbl hL hi hA hM hrg hAE hUf hMf hof hce hsl hS hl hLS hP hO hD (KK hi)
  refine lv_tableOut (tgt := 2162) hx hb dL_law_44 (Or.inr (by rw [nI_toInt (by omega)]; omega)) (by decide) ?_
  exact W.widen (k := ce + 1) (n := sl + 6) (by omega) (by omega) (KK hi _ _ _ _ _ _ _ hLS hP hO hD hS hl)

set_option maxHeartbeats 1000000 in
theorem lp_loop (l : Launch) (hlt : l.stackTraces = false) {p : Program} {e : Env} {s : State} {m : MethodId} {args : Array Value} {below : List Frame} {meth : Method} {c0 : Code} {Q : State → Prop}  {D : va_G} {cA : Nat → ClassId} {AE : Nat → Prop} {adK adV sa : Nat → Nat} {U : Nat → Nat} {rg : Nat → Option Nat} {A : Nat → Nat} {o od b L : Nat} {xs : Nat → Int32}  (hx : p.tables.exec = Jvm.exec) (hb : c0.code = cL_law) (hml : c0.maxLocals = 9) (hown : s.vm.findClass RL = some m.cls) (hts : ∀ w ∈ Cond.initialized RL :: gG, w.before args s = true) (hK : gK D cA s) (hE : gE AE adK adV sa s s.heap) (hN : gNc s) (hX : va_X b L xs s s.heap) (hbl : b < s.heap.size) (hL : L ≤ 1536)  (hA : aInj 189 U) (hM : mInj A) (hrg : uRg U rg) (hAE : ∀ q, s.heap.size ≤ q → AE q) (hUf : ∀ q, aS 189 U q → s.heap.size ≤ q ∧ ¬ MA A q ∧ q ≠ o ∧ q ≠ od) (hMf : ∀ q, MA A q → s.heap.size ≤ q ∧ q ≠ o ∧ q ≠ od) (hof : s.heap.size ≤ o ∧ s.heap.size ≤ od ∧ o ≠ od)  (KE : ∀ (H : Heap) (locs : List Loc) (ls : Array Slot) (cc ss : Nat), va_S (fun q => s.heap.size ≤ q) s.heap H locs → cc ≤ 3000 → ss ≤ 20000 → W p l e room_1 s m args below meth c0 H locs cc ss Q (F0 m 2168 ls [])) : ∀ (n i : Nat) (x : Nat → Int32) (f : Nat → Nat → Int32) (g : Nat → Int64) (gd : Nat → UInt64) (H : Heap) (locs : List Loc) (ls : Array Slot), L ≤ i + n → i ≤ 1540 → va_S (fun q => s.heap.size ≤ q) s.heap H locs → lv_has ls 9 [(5, .int (nI i)), (4, .ref (od)), (3, .ref (o)), (2, .ref (A 0)), (1, .ref (U 0)), (0, .ref (b))] → LST D cA U rg x f H → va_P D vwCl (mw cA A x f) H → va_P D vwCl (oL cA o g) H → va_P D vwCl (oD cA od gd) H → W p l e room_1 s m args below meth c0 H locs (1000 + i) (10000 + 6 * i) Q (F0 m 28 ls []) := by
  have hcR : room_1.cells = 603072 := rfl
  have hsR : room_1.slots = 7194730 := rfl
  intro n
  induction n with
  | zero =>
    intro i x f g gd H locs ls hn hi hS hl hLS hP hO hD
    exact lp_head l hlt hx hb hml hown hts hK hE hN hX hbl hL (by omega) hA hM hrg hAE hUf hMf hof (by omega) (by omega) hS hl hLS hP hO hD (KE _ _ _ _ _ hS (by omega) (by omega)) (fun q => absurd q (by omega))
  | succ n ih =>
    intro i x f g gd H locs ls hn hi hS hl hLS hP hO hD
    refine lp_head l hlt hx hb hml hown hts hK hE hN hX hbl hL (by omega) hA hM hrg hAE hUf hMf hof (by omega) (by omega) hS hl hLS hP hO hD (KE _ _ _ _ _ hS (by omega) (by omega)) (fun q x1 f1 g1 gd1 H1 locs1 ls1 hLS hP hO hD hS hl => ?_)
    refine lv_iinc (v := nI (i + 3)) (lv' := [(5, .int (nI (i + 3))), (4, .ref (od)), (3, .ref (o)), (2, .ref (A 0)), (1, .ref (U 0)), (0, .ref (b))]) hx hb dL_law_2162 hl (k := 0) rfl (inc_3 _) (by decide) rfl (fun ls hl => ?_)
    refine lv_goto (tgt := 28) hx hb dL_law_2165 (by decide) ?_
    exact W.widen (k := 1000 + (i + 3)) (n := 10000 + 6 * (i + 3)) (by omega) (by omega) (ih _ _ _ _ _ _ _ _ (by omega) (by omega) hS hl hLS hP hO hD)

