/-! strings -/
def sCh (i k : Nat) : Int32 := (sByt.getD i []).getD k 0
theorem sCh_ok : ∀ i, i < 16 → ∀ k, k < sLen.getD i 0 → ((sCh i k &&& nI 255) = sCh i k ∧ (sCh i k).toNatClampNeg < 128 ∧ sCh i k = nI (sCh i k).toNatClampNeg) := by decide +kernel
theorem sLen_lt : ∀ i, i < 16 → sLen.getD i 0 < 10 := by decide +kernel
theorem eS {A : Nat → Prop} {adK adV sa : Nat → Nat} {U : State} {H : Heap} (h : gE A adK adV sa U H) : vk_S 16 sLen sByt adK adV A U H := h.2.2.2.1
theorem eC {A : Nat → Prop} {adK adV sa : Nat → Nat} {U : State} {H : Heap} (h : gE A adK adV sa U H) : va_Z "java/lang/String" "COMPACT_STRINGS" "Z" (.int 1) A U H := h.2.2.2.2.1
theorem eF {A : Nat → Prop} {adK adV sa : Nat → Nat} {U : State} {H : Heap} (h : gE A adK adV sa U H) : va_Zq "jdk/internal/util/Preconditions" "SIOOBE_FORMATTER" "Ljava/util/function/BiFunction;" A U H := h.2.2.2.2.2.1
theorem one_0 : (1 : Int32) = 0 ↔ False := by decide
theorem zer_0 : (nI 0) = 0 ↔ True := by decide
theorem gs_255 : (Int16.ofInt 255).toInt32 = nI 255 := by decide +kernel
theorem gWSa {y0 : MethodName} {b0 : ByteArray} {n0 : Nat} {r0 : Option FieldType} {own : String} {idx : Nat} {y : MethodName} {b : ByteArray} {n : Nat} {r : Option FieldType} (h1 : Cond.methodLink own idx y ∈ gG) (h2 : Cond.static y ∈ gG) (h3 : Cond.initialized y.cls ∈ gG) (h5 : Cond.code y b n r ∈ gG) : GoodIn (gw y0 b0 n0 r0) (va_wsS own idx y (gw y b n r)) := by
  intro w hw
  have k : ∀ {w : Cond}, w ∈ gG → w ∈ gw y0 b0 n0 r0 ∧ ((w.onTables && w.keeps) = true ∨ ∃ ty, w = .arrayClass ty) := fun h => ⟨List.mem_cons_of_mem _ h, gw_good h⟩
  rcases List.mem_append.mp hw with h | h
  · rcases List.mem_cons.mp h with rfl | h
    · exact k h1
    rcases List.mem_cons.mp h with rfl | h
    · exact k h2
    rcases List.mem_cons.mp h with rfl | h
    · exact k h3
    exact absurd h List.not_mem_nil
  · rcases List.mem_cons.mp h with rfl | h
    · exact k h5
    · exact k h
def rdV : Array Value → State → Outcome → State → Prop := fun _ st oc t => oc = .returned none ∧ t.heap = st.heap
section GK3
variable {p : Program} {l : Launch} {e : Env} {R : Room} {s : State} {m : MethodId} {args : Array Value} {below : List Frame} {meth : Method} {c : Code} {H : Heap} {locs : List Loc} {cells slots : Nat} {Q : State → Prop} {cc : ByteArray} {pc : Nat} {ls : Array Slot} {rest st0 : List Value} {a : Array Value}
theorem rd_callv (hr : va_Run p l e R s m args below meth c H locs cells slots 0 0 (F0 m pc ls st0) rest (rdV a) nF) (kk : W p l e R s m args below meth c H locs cells slots Q (F0 m (pc + 3) ls rest)) : W p l e R s m args below meth c H locs cells slots Q (F0 m pc ls st0) := by
  intro T hT X
  obtain ⟨v, st₀, t, T', L, h0, X', hL, e1, e2, ⟨hv, hz⟩, st⟩ := hr T hT X
  cases hv
  have hL0 : L = [] := List.eq_nil_iff_forall_not_mem.mpr (fun q hq => hL q hq)
  subst hL0
  rw [List.append_nil] at X'
  obtain ⟨t2, a1, b1⟩ := kk T' (by rw [e1, hz, h0]) X'
  exact ⟨t2, st t2 a1, b1⟩
theorem g_vret (hx : p.tables.exec = Jvm.exec) (hb : c.code = cc) (hr : meth.sig.returnType = none) (hlk : meth.locks = false) (hdg : decode cc pc = .ok (.return_, 1)) : W p l e R s m args below meth c s.heap [] cells slots (MQ below rdV args s cells slots nF) (F0 m pc ls []) :=
  W.vret hx hb hr (fun t ht _ => ⟨rfl, ht⟩) (fun _ h => nomatch h) hdg hlk
end GK3
set_option maxHeartbeats 1000000 in
set_option maxRecDepth 100000 in
theorem c_coder (l : Launch) (D : va_G) (cA : Nat → ClassId) (A : Nat → Prop) (adK adV sa : Nat → Nat) (i : Nat) (hi : i < 16) : Met l yJ0_coder_7d493 (gw yJ0_coder_7d493 cJ0_coder_7d493 1 (some .byte)) ({ frames := 0, cells := 0, slots := 0, locals := 0 } : Room) (gPx [.ref (adK i)] (fun _ => True) D cA A adK adV sa) (rdI (fun r => r = nI 0)) 0 0 nF := by
  refine gOfx (by decide) (Nat.le_of_ble_eq_true rfl) ?_
  intro p e s m below meth c ls hx hb hml hr hlk hown hts hnm hB hK hE hl
  have hl : lv_has ls 1 [(0, .ref (adK i))] := hl
  refine va_gets hx hb (eC hE) va_S.rf hown (hts _ (List.mem_cons_of_mem _ gm_41_13)) (fun _ h => h) dJ0_coder_0 ?_
  refine g_if_eq (P := False) (tgt := 13) hx hb dJ0_coder_3 (by decide) one_0 (fun h => h.elim) (fun _ => ?_)
  refine lv_aload_n hx hb dJ0_coder_6 rfl (lv_at hl 0 rfl) ?_
  refine vk_getf hx hb ((eS hE).1 i hi).2.1 va_S.rf hown (hts _ (List.mem_cons_of_mem _ gm_41_14)) (fun _ h => h) dJ0_coder_7 ?_
  refine lv_goto (tgt := 14) hx hb dJ0_coder_10 (by decide) ?_
  exact W.zret hx hb hr (ty := .byte) (by decide) (fun t ht _ => ⟨⟨nI 0, rfl, rfl⟩, ht⟩) (fun _ h => nomatch h) dJ0_coder_14 hlk
set_option maxHeartbeats 1000000 in
set_option maxRecDepth 100000 in
theorem c_slen (l : Launch) (D : va_G) (cA : Nat → ClassId) (A : Nat → Prop) (adK adV sa : Nat → Nat) (i : Nat) (hi : i < 16) : Met l yJ0_length_8abf5 (gw yJ0_length_8abf5 cJ0_length_8abf5 1 (some .int)) ({ frames := 1, cells := 0, slots := 0, locals := 20 } : Room) (gPx [.ref (adK i)] (fun _ => True) D cA A adK adV sa) (rdI (fun r => r = nI (sLen.getD i 0))) 0 0 nF := by
  refine gOfx (by decide) (Nat.le_of_ble_eq_true rfl) ?_
  intro p e s m below meth c ls hx hb hml hr hlk hown hts hnm hB hK hE hl
  have hl : lv_has ls 1 [(0, .ref (adK i))] := hl
  refine lv_aload_n hx hb dJ0_length_0 rfl (lv_at hl 0 rfl) ?_
  refine vk_getf hx hb ((eS hE).1 i hi).2.2.1 va_S.rf hown (hts _ (List.mem_cons_of_mem _ gm_41_8)) (fun _ h => h) dJ0_length_1 ?_
  refine va_tlen hx hb ((eS hE).1 i hi).2.2.2 va_S.rf rfl dJ0_length_4 ?_
  refine lv_aload_n hx hb dJ0_length_5 rfl (lv_at hl 0 rfl) ?_
  refine rd_calle (va_runV (As := []) (rest := [.int (nI (sLen.getD i 0))]) ⟨hx, hb, hml, hown, hts⟩ (c_coder l D cA A adK adV sa i hi) (cwV 0 hts (gWV gm_41_9 gm_41_10 gm_41_11 gm_41_6 gm_41_12) rfl rfl rfl (by decide +kernel) ⟨Nat.le_of_ble_eq_true rfl, Nat.le_of_ble_eq_true rfl⟩) (gPreVx hK hE va_S.rf (fun _ h => h) (vk_recv (eS hE) hi va_S.rf) trivial) rfl rfl hl.1 rfl (lv_room (Nat.le_of_ble_eq_true rfl)) dJ0_length_6 ⟨by omega, by omega⟩) ?_
  refine lv_ishr hx hb dJ0_length_9 ?_
  refine g_top (z := nI (sLen.getD i 0)) ?_ ?_
  · show nI (sLen.getD i 0) >>> ((0 : Int32) &&& 31) = _
    have h9 := sLen_lt i hi
    simp
  · exact g_iret hx hb hr hlk dJ0_length_10 rfl
set_option maxHeartbeats 1000000 in
set_option maxRecDepth 100000 in
theorem c_isLatin1 (l : Launch) (D : va_G) (cA : Nat → ClassId) (A : Nat → Prop) (adK adV sa : Nat → Nat) (i : Nat) (hi : i < 16) : Met l yJ0_isLatin1_aae02 (gw yJ0_isLatin1_aae02 cJ0_isLatin1_aae02 1 (some .boolean)) ({ frames := 0, cells := 0, slots := 0, locals := 0 } : Room) (gPx [.ref (adK i)] (fun _ => True) D cA A adK adV sa) (rdI (fun r => r = nI 1)) 0 0 nF := by
  refine gOfx (by decide) (Nat.le_of_ble_eq_true rfl) ?_
  intro p e s m below meth c ls hx hb hml hr hlk hown hts hnm hB hK hE hl
  have hl : lv_has ls 1 [(0, .ref (adK i))] := hl
  refine va_gets hx hb (eC hE) va_S.rf hown (hts _ (List.mem_cons_of_mem _ gm_41_13)) (fun _ h => h) dJ0_isLatin1_0 ?_
  refine g_if_eq (P := False) (tgt := 17) hx hb dJ0_isLatin1_3 (by decide) one_0 (fun h => h.elim) (fun _ => ?_)
  refine lv_aload_n hx hb dJ0_isLatin1_6 rfl (lv_at hl 0 rfl) ?_
  refine vk_getf hx hb ((eS hE).1 i hi).2.1 va_S.rf hown (hts _ (List.mem_cons_of_mem _ gm_41_14)) (fun _ h => h) dJ0_isLatin1_7 ?_
  refine g_if_ne (P := True) (tgt := 17) hx hb dJ0_isLatin1_10 (by decide) zer_0 (fun h => absurd trivial h) (fun _ => ?_)
  refine lv_iconst (v := nI 1) hx hb dJ0_isLatin1_13 gc_1 ?_
  refine lv_goto (tgt := 18) hx hb dJ0_isLatin1_14 (by decide) ?_
  exact g_zret hx hb hr hlk rfl dJ0_isLatin1_18 rfl
set_option maxHeartbeats 1000000 in
set_option maxRecDepth 100000 in
theorem c_pci (l : Launch) (D : va_G) (cA : Nat → ClassId) (A : Nat → Prop) (adK adV sa : Nat → Nat) (k n : Nat) (f : Value) (hk : k < n) (hn : n < 2 ^ 31) (hf : (lg_sl [.int (nI k), .int (nI n), f]).length ≤ 3) : Met l yJ3_checkIndex_8e157 (gw yJ3_checkIndex_8e157 cJ3_checkIndex_8e157 3 (some .int)) ({ frames := 0, cells := 0, slots := 0, locals := 0 } : Room) (gPx [.int (nI k), .int (nI n), f] (fun _ => True) D cA A adK adV sa) (rdI (fun r => r = nI k)) 0 0 nF := by
  refine gOfx (by decide) hf ?_
  intro p e s m below meth c ls hx hb hml hr hlk hown hts hnm hB hK hE hl
  have hl : lv_has ls 3 [(0, .int (nI k)), (1, .int (nI n)), (2, f)] := hl
  refine lv_iload_n hx hb dJ3_checkIndex_0 rfl (lv_at hl 0 rfl) ?_
  refine g_if_lt (P := False) (tgt := 9) hx hb dJ3_checkIndex_1 (by decide) (nI_lz (by omega)) (fun h => h.elim) (fun _ => ?_)
  refine lv_iload_n hx hb dJ3_checkIndex_4 rfl (lv_at hl 0 rfl) ?_
  refine lv_iload_n hx hb dJ3_checkIndex_5 rfl (lv_at hl 1 rfl) ?_
  refine g_icmp_lt (P := k < n) (tgt := 16) hx hb dJ3_checkIndex_6 (by decide) (nI_ltI (by omega) hn) (fun _ => ?_) (fun h => absurd hk h)
  refine lv_iload_n hx hb dJ3_checkIndex_16 rfl (lv_at hl 0 rfl) ?_
  exact g_iret hx hb hr hlk dJ3_checkIndex_17 rfl
set_option maxHeartbeats 1000000 in
set_option maxRecDepth 100000 in
theorem c_sci (l : Launch) (D : va_G) (cA : Nat → ClassId) (A : Nat → Prop) (adK adV sa : Nat → Nat) (k n : Nat) (hk : k < n) (hn : n < 2 ^ 31) : Met l yJ0_checkIndex_df160 (gw yJ0_checkIndex_df160 cJ0_checkIndex_df160 2 none) ({ frames := 1, cells := 0, slots := 0, locals := 30 } : Room) (gPx [.int (nI k), .int (nI n)] (fun _ => True) D cA A adK adV sa) rdV 0 0 nF := by
  refine gOfx (by decide) (Nat.le_of_ble_eq_true rfl) ?_
  intro p e s m below meth c ls hx hb hml hr hlk hown hts hnm hB hK hE hl
  have hl : lv_has ls 2 [(0, .int (nI k)), (1, .int (nI n))] := hl
  refine lv_iload_n hx hb dJ0_checkIndex_0 rfl (lv_at hl 0 rfl) ?_
  refine lv_iload_n hx hb dJ0_checkIndex_1 rfl (lv_at hl 1 rfl) ?_
  rcases eF hE with hz | ⟨q, hz⟩
  · refine va_gets hx hb hz va_S.rf hown (hts _ (List.mem_cons_of_mem _ gm_42_6)) (fun _ h => h) dJ0_checkIndex_2 ?_
    refine rd_calle (va_runS (As := [.int (nI k), .int (nI n), .null]) (rest := []) ⟨hx, hb, hml, hown, hts⟩ (c_pci l D cA A adK adV sa k n .null hk hn (Nat.le_of_ble_eq_true rfl)) (va_cwS 3 hts (gWSa gm_42_7 gm_42_8 gm_42_9 gm_42_10) rfl rfl rfl (by decide +kernel) ⟨Nat.le_of_ble_eq_true rfl, Nat.le_of_ble_eq_true rfl⟩) (gPreSx hK hE va_S.rf (fun _ h => h) trivial) rfl rfl hl.1 rfl (lv_room (Nat.le_of_ble_eq_true rfl)) dJ0_checkIndex_5 ⟨by omega, by omega⟩) ?_
    refine lv_pop hx hb dJ0_checkIndex_8 rfl ?_
    exact g_vret hx hb hr hlk dJ0_checkIndex_9
  · refine va_gets hx hb hz va_S.rf hown (hts _ (List.mem_cons_of_mem _ gm_42_6)) (fun _ h => h) dJ0_checkIndex_2 ?_
    refine rd_calle (va_runS (As := [.int (nI k), .int (nI n), (.ref q)]) (rest := []) ⟨hx, hb, hml, hown, hts⟩ (c_pci l D cA A adK adV sa k n (.ref q) hk hn (Nat.le_of_ble_eq_true rfl)) (va_cwS 3 hts (gWSa gm_42_7 gm_42_8 gm_42_9 gm_42_10) rfl rfl rfl (by decide +kernel) ⟨Nat.le_of_ble_eq_true rfl, Nat.le_of_ble_eq_true rfl⟩) (gPreSx hK hE va_S.rf (fun _ h => h) trivial) rfl rfl hl.1 rfl (lv_room (Nat.le_of_ble_eq_true rfl)) dJ0_checkIndex_5 ⟨by omega, by omega⟩) ?_
    refine lv_pop hx hb dJ0_checkIndex_8 rfl ?_
    exact g_vret hx hb hr hlk dJ0_checkIndex_9
set_option maxHeartbeats 1000000 in
set_option maxRecDepth 100000 in
theorem c_lcat (l : Launch) (D : va_G) (cA : Nat → ClassId) (A : Nat → Prop) (adK adV sa : Nat → Nat) (i k : Nat) (hi : i < 16) (hk : k < sLen.getD i 0) : Met l yJ1_charAt_3b067 (gw yJ1_charAt_3b067 cJ1_charAt_3b067 2 (some .char)) ({ frames := 2, cells := 0, slots := 0, locals := 60 } : Room) (gPx [.ref (adV i), .int (nI k)] (fun _ => True) D cA A adK adV sa) (rdI (fun r => r = sCh i k)) 0 0 nF := by
  refine gOfx (by decide) (Nat.le_of_ble_eq_true rfl) ?_
  intro p e s m below meth c ls hx hb hml hr hlk hown hts hnm hB hK hE hl
  have hl : lv_has ls 2 [(0, .ref (adV i)), (1, .int (nI k))] := hl
  have h9 := sLen_lt i hi
  obtain ⟨hc1, hc2, hc3⟩ := sCh_ok i hi k hk
  refine lv_iload_n hx hb dJ1_charAt_0 rfl (lv_at hl 1 rfl) ?_
  refine lv_aload_n hx hb dJ1_charAt_1 rfl (lv_at hl 0 rfl) ?_
  refine va_tlen hx hb ((eS hE).1 i hi).2.2.2 va_S.rf rfl dJ1_charAt_2 ?_
  refine rd_callv (va_runS (As := [.int (nI k), .int (nI (sLen.getD i 0))]) (rest := []) ⟨hx, hb, hml, hown, hts⟩ (c_sci l D cA A adK adV sa k (sLen.getD i 0) hk (by omega)) (va_cwS 2 hts (gWSa gm_42_3 gm_42_4 gm_41_6 gm_42_5) rfl rfl rfl (by decide +kernel) ⟨Nat.le_of_ble_eq_true rfl, Nat.le_of_ble_eq_true rfl⟩) (gPreSx hK hE va_S.rf (fun _ h => h) trivial) rfl rfl hl.1 rfl (lv_room (Nat.le_of_ble_eq_true rfl)) dJ1_charAt_3 ⟨by omega, by omega⟩) ?_
  refine lv_aload_n hx hb dJ1_charAt_6 rfl (lv_at hl 0 rfl) ?_
  refine lv_iload_n hx hb dJ1_charAt_7 rfl (lv_at hl 1 rfl) ?_
  refine va_tb hx hb ((eS hE).1 i hi).2.2.2 va_S.rf (vp_in_nI hk (by omega)) (by rw [nI_clamp (by omega)]) dJ1_charAt_8 ?_
  refine lv_sipush (v := nI 255) hx hb dJ1_charAt_9 gs_255 ?_
  refine lv_iand hx hb dJ1_charAt_12 ?_
  refine g_top (z := nI (sCh i k).toNatClampNeg) (by rw [← hc3]; exact hc1) ?_
  refine lv_i2c (v := nI (sCh i k).toNatClampNeg) hx hb dJ1_charAt_13 (i2c_n (by omega)) ?_
  refine g_top (z := sCh i k) hc3.symm ?_
  exact g_cret hx hb hr hlk (by rw [hc3]; exact (pk_charN (by omega)).1) dJ1_charAt_14 rfl
set_option maxHeartbeats 1000000 in
set_option maxRecDepth 100000 in
theorem c_scat (l : Launch) (D : va_G) (cA : Nat → ClassId) (A : Nat → Prop) (adK adV sa : Nat → Nat) (i k : Nat) (hi : i < 16) (hk : k < sLen.getD i 0) : Met l yJ0_charAt_5068e (gw yJ0_charAt_5068e cJ0_charAt_5068e 2 (some .char)) ({ frames := 3, cells := 0, slots := 0, locals := 100 } : Room) (gPx [.ref (adK i), .int (nI k)] (fun _ => True) D cA A adK adV sa) (rdI (fun r => r = sCh i k)) 0 0 nF := by
  refine gOfx (by decide) (Nat.le_of_ble_eq_true rfl) ?_
  intro p e s m below meth c ls hx hb hml hr hlk hown hts hnm hB hK hE hl
  have hl : lv_has ls 2 [(0, .ref (adK i)), (1, .int (nI k))] := hl
  obtain ⟨hc1, hc2, hc3⟩ := sCh_ok i hi k hk
  refine lv_aload_n hx hb dJ0_charAt_0 rfl (lv_at hl 0 rfl) ?_
  refine rd_calle (va_runV (As := []) (rest := []) ⟨hx, hb, hml, hown, hts⟩ (c_isLatin1 l D cA A adK adV sa i hi) (cwV 0 hts (gWV gm_41_19 gm_41_20 gm_41_21 gm_41_6 gm_41_22) rfl rfl rfl (by decide +kernel) ⟨Nat.le_of_ble_eq_true rfl, Nat.le_of_ble_eq_true rfl⟩) (gPreVx hK hE va_S.rf (fun _ h => h) (vk_recv (eS hE) hi va_S.rf) trivial) rfl rfl hl.1 rfl (lv_room (Nat.le_of_ble_eq_true rfl)) dJ0_charAt_1 ⟨by omega, by omega⟩) ?_
  refine g_if_eq (P := False) (tgt := 16) hx hb dJ0_charAt_4 (by decide) (by decide) (fun h => h.elim) (fun _ => ?_)
  refine lv_aload_n hx hb dJ0_charAt_7 rfl (lv_at hl 0 rfl) ?_
  refine vk_getf hx hb ((eS hE).1 i hi).2.2.1 va_S.rf hown (hts _ (List.mem_cons_of_mem _ gm_41_8)) (fun _ h => h) dJ0_charAt_8 ?_
  refine lv_iload_n hx hb dJ0_charAt_11 rfl (lv_at hl 1 rfl) ?_
  refine rd_calle (va_runS (As := [.ref (adV i), .int (nI k)]) (rest := []) ⟨hx, hb, hml, hown, hts⟩ (c_lcat l D cA A adK adV sa i k hi hk) (va_cwS 2 hts (gWSa gm_41_23 gm_42_0 gm_42_1 gm_42_2) rfl rfl rfl (by decide +kernel) ⟨Nat.le_of_ble_eq_true rfl, Nat.le_of_ble_eq_true rfl⟩) (gPreSx hK hE va_S.rf (fun _ h => h) trivial) rfl rfl hl.1 rfl (lv_room (Nat.le_of_ble_eq_true rfl)) dJ0_charAt_12 ⟨by omega, by omega⟩) ?_
  exact g_cret hx hb hr hlk (by rw [hc3]; exact (pk_charN (by omega)).1) dJ0_charAt_15 rfl
