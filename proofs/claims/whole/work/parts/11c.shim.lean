theorem cast_IAE : Cond.castable xIAE xIAE ∈ lw_tbl := by decide +kernel
theorem cast_UOE : Cond.castable xUOE xUOE ∈ lw_tbl := by decide +kernel
theorem cast_IOB : Cond.castable xIOB xIOB ∈ lw_tbl := by decide +kernel
theorem cast_ISE : Cond.castable xISE xISE ∈ lw_tbl := by decide +kernel
theorem cast_ARE : Cond.castable xARE xARE ∈ lw_tbl := by decide +kernel
theorem cast_NSE : Cond.castable xNSE xNSE ∈ lw_tbl := by decide +kernel
set_option maxHeartbeats 1000000 in
set_option maxRecDepth 100000 in
theorem c_L_juror (l : Launch) (hlt : l.stackTraces = false) (D : va_G) (cA : Nat → ClassId) (AE : Nat → Prop) (adK adV sa : Nat → Nat) (U : Nat → Nat) (rg : Nat → Option Nat) (c z : CS) (rz : Nat → CS) (hd ct : Nat) (rs dt : Int32) (mf : Nat → Nat → Int32) (mn : Nat) (tc : Nat → Nat) (tl to : Nat) (kd fi se : Int32) (ta : Nat) (nu : Int32) (lc : Nat → Int32) (ln : Nat) (sv : Bool) (er : Int32) (a b : Int32) (o : Nat) (g : Nat → Int64) (hA : aInj 189 U) (hFA : ∀ q, aS 189 U q → AE q) (hoU : ¬ aS 189 U o) (hFO : ∀ q, uO U o q → AE q) (hz : zOk c) (hrg : uRg U rg) (hh8 : hd ≤ 8) (hc8 : ct ≤ 8) : Met l yL_juror (gwL yL_juror cL_juror 5 (some .int) [(0, 10, 13, 13), (0, 10, 17, 15)]) ({ frames := 7, cells := 1, slots := 6, locals := 166 } : Room) (gPy [.ref (U 0), .int (a), .int (b), .ref (o)] (fun H => va_P D vwCl (uw cA U rg c z rz hd ct rs dt mf mn tc tl to kd fi se ta nu lc ln sv er) H ∧ va_P D vwCl (oL cA o g) H) D cA AE adK adV sa) (wrI (fun r H => ∃ (k9 : Nat) (rr : Int32) (g9 : Nat → Int64), r = nI k9 ∧ k9 ≤ 2 ∧ (k9 = 0 → g9 0 = rr.toInt64) ∧ va_P D vwCl (oL cA o g9) H ∧ ((k9 = 0 ∧ jrr a b = true ∧ rfJ (zjn c) = none ∧ rr = nI (zjn c) ∧ va_P D vwCl (uw cA U rg (zAddJ c a b) z (va_up rz hd c) (hUp hd) (hCt ct) rs dt mf mn tc tl to kd fi se ta nu lc ln sv er) H) ∨ (k9 = 1 ∧ jrr a b = false ∧ va_P D vwCl (uw cA U rg c z rz hd ct rs dt mf mn tc tl to kd fi se ta nu lc ln sv er) H) ∨ (k9 = 2 ∧ jrr a b = true ∧ (rfJ (zjn c)).isSome = true ∧ va_P D vwCl (uw cA U rg c z rz hd ct (((rfJ (zjn c)).getD (rs, dt)).1) (((rfJ (zjn c)).getD (rs, dt)).2) mf mn tc tl to kd fi se ta nu lc ln sv er) H))) (uO U o)) 1 6 (uO U o) := by
  refine gOfh (by decide) (Nat.le_of_ble_eq_true rfl) ?_
  intro p e s m below meth c9 ls hx hb hml hr hlk hown hts hte hB hK hE hN hl
  obtain ⟨hP, hO⟩ := hB
  have hl : lv_has ls 5 [(0, .ref (U 0)), (1, .int (a)), (2, .int (b)), (3, .ref (o))] := hl
  have hS : va_S (uO U o) s.heap s.heap [] := va_S.rf
  refine lv_aload_n hx hb dL_juror_0 rfl (lv_at hl 3 rfl) ?_
  refine lv_iconst (v := nI 0) hx hb dL_juror_1 gc_0 ?_
  refine lv_aload_n hx hb dL_juror_2 rfl (lv_at hl 0 rfl) ?_
  refine lv_iload_n hx hb dL_juror_3 rfl (lv_at hl 1 rfl) ?_
  refine lv_iload_n hx hb dL_juror_4 rfl (lv_at hl 2 rfl) ?_
  refine gx_calli (vx_runV (As := [.int (a), .int (b)]) (rest := [.int (nI 0), .ref o]) ⟨hx, hb, hml, hown, hts⟩ (c_X7_juror l hlt D cA AE adK adV sa U rg c z rz hd ct rs dt mf mn tc tl to kd fi se ta nu lc ln sv er a b hA hFA hz hrg hh8 hc8) (cwV 2 hts (gWVL gm_6_5 gm_6_6 gm_6_7 gm_1_2 gm_6_8) rfl rfl rfl (by decide +kernel) ⟨Nat.le_of_ble_eq_true rfl, Nat.le_of_ble_eq_true rfl⟩) (gPreVx hK hE hS hFO (g_rf hK hP (ci := 9) (q0 := 0) rfl rfl) hP) rfl rfl hl.1 rfl (lv_room (Nat.le_of_ble_eq_true rfl)) dL_juror_5 ⟨Nat.le_of_ble_eq_true rfl, Nat.le_of_ble_eq_true rfl⟩) hS (fun q _ h => Or.inl h) (fun q h => Or.inl h) (fun q _ h => Or.inl h) (fun E9 ce q9 H locs hp hz9 hk9 hS hce hcv hcl => ?_) (fun r H locs hp hz9 hk9 hS => ?_)
  · rcases hp with ⟨rfl, ht⟩ | ⟨rfl, ht⟩
    · have hO := vP_fr hO hk9 (oL_n hoU)
      refine vx_catch hown [] (⟨0, 10, 13, 13⟩ : ExceptionTableEntry) [(⟨0, 10, 17, 15⟩ : ExceptionTableEntry)] hte (fun z hz => absurd hz List.not_mem_nil) (by decide +kernel) (by decide) (hts _ (List.mem_cons_of_mem _ gm_6_4)) (wOk_use rfl (hE.1 _ cast_IAE rfl)) hce hcv hcl ?_
      refine lv_astore (lv' := [(4, .ref (q9)), (0, .ref (U 0)), (1, .int (a)), (2, .int (b)), (3, .ref (o))]) hx hb dL_juror_13 hl (by decide) rfl (fun ls hl => ?_)
      refine lv_iconst (v := nI 1) hx hb dL_juror_15 gc_1 ?_
      exact g_iretW (v := nI 1) hx hb hr hlk hS dL_juror_16 ⟨1, 0, _, rfl, by decide, fun q => absurd q (by decide), hO, (Or.inr (Or.inl ⟨rfl, ht⟩))⟩
    · have hO := vP_fr hO hk9 (oL_n hoU)
      refine vx_catch hown [(⟨0, 10, 13, 13⟩ : ExceptionTableEntry)] (⟨0, 10, 17, 15⟩ : ExceptionTableEntry) [] hte (fun z hz => by rw [List.mem_singleton] at hz; subst hz; exact Or.inr ⟨by decide, xIAE, (hts _ (List.mem_cons_of_mem _ gm_6_4)), hN (xUOE, xIAE) (by decide +kernel)⟩) (by decide +kernel) (by decide) (hts _ (List.mem_cons_of_mem _ gm_21_15)) (wOk_use rfl (hE.1 _ cast_UOE rfl)) hce hcv hcl ?_
      refine lv_astore (lv' := [(4, .ref (q9)), (0, .ref (U 0)), (1, .int (a)), (2, .int (b)), (3, .ref (o))]) hx hb dL_juror_17 hl (by decide) rfl (fun ls hl => ?_)
      refine lv_iconst (v := nI 2) hx hb dL_juror_19 gc_2 ?_
      exact g_iretW (v := nI 2) hx hb hr hlk hS dL_juror_20 ⟨2, 0, _, rfl, by decide, fun q => absurd q (by decide), hO, (Or.inr (Or.inr ⟨rfl, ht⟩))⟩
  · obtain ⟨h1, h2, h3, hP⟩ := hp
    have hO := vP_fr hO hk9 (oL_n hoU)
    refine lv_i2l (v := r.toInt64) hx hb dL_juror_8 rfl ?_
    refine g_last hx hb hK hO hS (Or.inr rfl) dL_juror_9 (fun H1 locs1 hO1 hsz hoq hS => ?_)
    have hP := vP_fr (A := fun q => q = o) hP (fun q _ h => hoq q h) (uw_n (A := fun q => q = o) hA (fun q h e9 => hoU (e9 ▸ h)))
    refine lv_goto (tgt := 21) hx hb dL_juror_10 (by decide) ?_
    refine lv_iconst (v := nI 0) hx hb dL_juror_21 gc_0 ?_
    exact g_iretW (v := nI 0) hx hb hr hlk hS dL_juror_22 ⟨0, r, _, rfl, by decide, fun _ => upL0, hO1, Or.inl ⟨rfl, h1, h2, h3, hP⟩⟩

set_option maxHeartbeats 1000000 in
set_option maxRecDepth 100000 in
theorem c_L_bring (l : Launch) (hlt : l.stackTraces = false) (D : va_G) (cA : Nat → ClassId) (AE : Nat → Prop) (adK adV sa : Nat → Nat) (U : Nat → Nat) (rg : Nat → Option Nat) (c z : CS) (rz : Nat → CS) (hd ct : Nat) (rs dt : Int32) (mf : Nat → Nat → Int32) (mn : Nat) (tc : Nat → Nat) (tl to : Nat) (kd fi se : Int32) (ta : Nat) (nu : Int32) (lc : Nat → Int32) (ln : Nat) (sv : Bool) (er : Int32) (a b : Int32) (o : Nat) (g : Nat → Int64) (hA : aInj 189 U) (hFA : ∀ q, aS 189 U q → AE q) (hoU : ¬ aS 189 U o) (hFO : ∀ q, uO U o q → AE q) (hz : zOk c) (hrg : uRg U rg) (hh8 : hd ≤ 8) (hc8 : ct ≤ 8) : Met l yL_bring (gwL yL_bring cL_bring 5 (some .int) [(0, 10, 13, 13), (0, 10, 17, 15)]) ({ frames := 7, cells := 1, slots := 6, locals := 166 } : Room) (gPy [.ref (U 0), .int (a), .int (b), .ref (o)] (fun H => va_P D vwCl (uw cA U rg c z rz hd ct rs dt mf mn tc tl to kd fi se ta nu lc ln sv er) H ∧ va_P D vwCl (oL cA o g) H) D cA AE adK adV sa) (wrI (fun r H => ∃ (k9 : Nat) (rr : Int32) (g9 : Nat → Int64), r = nI k9 ∧ k9 ≤ 2 ∧ (k9 = 0 → g9 0 = rr.toInt64) ∧ va_P D vwCl (oL cA o g9) H ∧ ((k9 = 0 ∧ csr a b = true ∧ rfK (zcn c) = none ∧ rr = nI (zcn c) ∧ va_P D vwCl (uw cA U rg (zAddK c a b) z (va_up rz hd c) (hUp hd) (hCt ct) rs dt mf mn tc tl to kd fi se ta nu lc ln sv er) H) ∨ (k9 = 1 ∧ csr a b = false ∧ va_P D vwCl (uw cA U rg c z rz hd ct rs dt mf mn tc tl to kd fi se ta nu lc ln sv er) H) ∨ (k9 = 2 ∧ csr a b = true ∧ (rfK (zcn c)).isSome = true ∧ va_P D vwCl (uw cA U rg c z rz hd ct (((rfK (zcn c)).getD (rs, dt)).1) (((rfK (zcn c)).getD (rs, dt)).2) mf mn tc tl to kd fi se ta nu lc ln sv er) H))) (uO U o)) 1 6 (uO U o) := by
  refine gOfh (by decide) (Nat.le_of_ble_eq_true rfl) ?_
  intro p e s m below meth c9 ls hx hb hml hr hlk hown hts hte hB hK hE hN hl
  obtain ⟨hP, hO⟩ := hB
  have hl : lv_has ls 5 [(0, .ref (U 0)), (1, .int (a)), (2, .int (b)), (3, .ref (o))] := hl
  have hS : va_S (uO U o) s.heap s.heap [] := va_S.rf
  refine lv_aload_n hx hb dL_bring_0 rfl (lv_at hl 3 rfl) ?_
  refine lv_iconst (v := nI 0) hx hb dL_bring_1 gc_0 ?_
  refine lv_aload_n hx hb dL_bring_2 rfl (lv_at hl 0 rfl) ?_
  refine lv_iload_n hx hb dL_bring_3 rfl (lv_at hl 1 rfl) ?_
  refine lv_iload_n hx hb dL_bring_4 rfl (lv_at hl 2 rfl) ?_
  refine gx_calli (vx_runV (As := [.int (a), .int (b)]) (rest := [.int (nI 0), .ref o]) ⟨hx, hb, hml, hown, hts⟩ (c_X7_bring l hlt D cA AE adK adV sa U rg c z rz hd ct rs dt mf mn tc tl to kd fi se ta nu lc ln sv er a b hA hFA hz hrg hh8 hc8) (cwV 2 hts (gWVL gm_10_3 gm_10_4 gm_10_5 gm_1_2 gm_10_6) rfl rfl rfl (by decide +kernel) ⟨Nat.le_of_ble_eq_true rfl, Nat.le_of_ble_eq_true rfl⟩) (gPreVx hK hE hS hFO (g_rf hK hP (ci := 9) (q0 := 0) rfl rfl) hP) rfl rfl hl.1 rfl (lv_room (Nat.le_of_ble_eq_true rfl)) dL_bring_5 ⟨Nat.le_of_ble_eq_true rfl, Nat.le_of_ble_eq_true rfl⟩) hS (fun q _ h => Or.inl h) (fun q h => Or.inl h) (fun q _ h => Or.inl h) (fun E9 ce q9 H locs hp hz9 hk9 hS hce hcv hcl => ?_) (fun r H locs hp hz9 hk9 hS => ?_)
  · rcases hp with ⟨rfl, ht⟩ | ⟨rfl, ht⟩
    · have hO := vP_fr hO hk9 (oL_n hoU)
      refine vx_catch hown [] (⟨0, 10, 13, 13⟩ : ExceptionTableEntry) [(⟨0, 10, 17, 15⟩ : ExceptionTableEntry)] hte (fun z hz => absurd hz List.not_mem_nil) (by decide +kernel) (by decide) (hts _ (List.mem_cons_of_mem _ gm_6_4)) (wOk_use rfl (hE.1 _ cast_IAE rfl)) hce hcv hcl ?_
      refine lv_astore (lv' := [(4, .ref (q9)), (0, .ref (U 0)), (1, .int (a)), (2, .int (b)), (3, .ref (o))]) hx hb dL_bring_13 hl (by decide) rfl (fun ls hl => ?_)
      refine lv_iconst (v := nI 1) hx hb dL_bring_15 gc_1 ?_
      exact g_iretW (v := nI 1) hx hb hr hlk hS dL_bring_16 ⟨1, 0, _, rfl, by decide, fun q => absurd q (by decide), hO, (Or.inr (Or.inl ⟨rfl, ht⟩))⟩
    · have hO := vP_fr hO hk9 (oL_n hoU)
      refine vx_catch hown [(⟨0, 10, 13, 13⟩ : ExceptionTableEntry)] (⟨0, 10, 17, 15⟩ : ExceptionTableEntry) [] hte (fun z hz => by rw [List.mem_singleton] at hz; subst hz; exact Or.inr ⟨by decide, xIAE, (hts _ (List.mem_cons_of_mem _ gm_6_4)), hN (xUOE, xIAE) (by decide +kernel)⟩) (by decide +kernel) (by decide) (hts _ (List.mem_cons_of_mem _ gm_21_15)) (wOk_use rfl (hE.1 _ cast_UOE rfl)) hce hcv hcl ?_
      refine lv_astore (lv' := [(4, .ref (q9)), (0, .ref (U 0)), (1, .int (a)), (2, .int (b)), (3, .ref (o))]) hx hb dL_bring_17 hl (by decide) rfl (fun ls hl => ?_)
      refine lv_iconst (v := nI 2) hx hb dL_bring_19 gc_2 ?_
      exact g_iretW (v := nI 2) hx hb hr hlk hS dL_bring_20 ⟨2, 0, _, rfl, by decide, fun q => absurd q (by decide), hO, (Or.inr (Or.inr ⟨rfl, ht⟩))⟩
  · obtain ⟨h1, h2, h3, hP⟩ := hp
    have hO := vP_fr hO hk9 (oL_n hoU)
    refine lv_i2l (v := r.toInt64) hx hb dL_bring_8 rfl ?_
    refine g_last hx hb hK hO hS (Or.inr rfl) dL_bring_9 (fun H1 locs1 hO1 hsz hoq hS => ?_)
    have hP := vP_fr (A := fun q => q = o) hP (fun q _ h => hoq q h) (uw_n (A := fun q => q = o) hA (fun q h e9 => hoU (e9 ▸ h)))
    refine lv_goto (tgt := 21) hx hb dL_bring_10 (by decide) ?_
    refine lv_iconst (v := nI 0) hx hb dL_bring_21 gc_0 ?_
    exact g_iretW (v := nI 0) hx hb hr hlk hS dL_bring_22 ⟨0, r, _, rfl, by decide, fun _ => upL0, hO1, Or.inl ⟨rfl, h1, h2, h3, hP⟩⟩

set_option maxHeartbeats 1000000 in
set_option maxRecDepth 100000 in
theorem c_L_call (l : Launch) (hlt : l.stackTraces = false) (D : va_G) (cA : Nat → ClassId) (AE : Nat → Prop) (adK adV sa : Nat → Nat) (U : Nat → Nat) (rg : Nat → Option Nat) (c z : CS) (rz : Nat → CS) (hd ct : Nat) (rs dt : Int32) (mf : Nat → Nat → Int32) (mn : Nat) (tc : Nat → Nat) (tl to : Nat) (kd fi se : Int32) (ta : Nat) (nu : Int32) (lc : Nat → Int32) (ln : Nat) (sv : Bool) (er : Int32) (v : Int32) (o : Nat) (g : Nat → Int64) (hA : aInj 189 U) (hFA : ∀ q, aS 189 U q → AE q) (hoU : ¬ aS 189 U o) (hFO : ∀ q, uO U o q → AE q) (hz : zOk c) (hrg : uRg U rg) (hh8 : hd ≤ 8) (hc8 : ct ≤ 8) (hlo : ∀ q, q < zcn c → hpF (zK c) q = true → fnd (hs (zK c 2 q)) (zjn c) ≠ none) (hr9 : ∀ q, q < zcn c → rfCall (zK c) (zjn c) (zcn c) q = none → zrl c ≤ 9) : Met l yL_call (gwL yL_call cL_call 4 (some .int) [(0, 9, 12, 24), (0, 9, 15, 15)]) ({ frames := 7, cells := 1, slots := 6, locals := 165 } : Room) (gPy [.ref (U 0), .int (v), .ref (o)] (fun H => va_P D vwCl (uw cA U rg c z rz hd ct rs dt mf mn tc tl to kd fi se ta nu lc ln sv er) H ∧ va_P D vwCl (oL cA o g) H) D cA AE adK adV sa) (wrI (fun r H => ∃ (k9 : Nat) (rr : Int32) (g9 : Nat → Int64), r = nI k9 ∧ k9 ≤ 2 ∧ (k9 = 0 → g9 0 = rr.toInt64) ∧ va_P D vwCl (oL cA o g9) H ∧ ((k9 = 0 ∧ ∃ q : Nat, q < zcn c ∧ v = nI q ∧ rfCall (zK c) (zjn c) (zcn c) q = none ∧ rr = zPan c ∧ va_P D vwCl (uw cA U rg (zCall c q) z (va_up rz hd c) (hUp hd) (hCt ct) rs dt mf mn tc tl to kd fi se ta nu lc ln sv er) H) ∨ (k9 = 1 ∧ isIx v (zcn c) = false ∧ va_P D vwCl (uw cA U rg c z rz hd ct rs dt mf mn tc tl to kd fi se ta nu lc ln sv er) H) ∨ (k9 = 2 ∧ ∃ q : Nat, q < zcn c ∧ v = nI q ∧ (rfCall (zK c) (zjn c) (zcn c) q).isSome = true ∧ va_P D vwCl (uw cA U rg c z rz hd ct (((rfCall (zK c) (zjn c) (zcn c) q).getD (rs, dt)).1) (((rfCall (zK c) (zjn c) (zcn c) q).getD (rs, dt)).2) mf mn tc tl to kd fi se ta nu lc ln sv er) H))) (uO U o)) 1 6 (uO U o) := by
  refine gOfh (by decide) (Nat.le_of_ble_eq_true rfl) ?_
  intro p e s m below meth c9 ls hx hb hml hr hlk hown hts hte hB hK hE hN hl
  obtain ⟨hP, hO⟩ := hB
  have hl : lv_has ls 4 [(0, .ref (U 0)), (1, .int (v)), (2, .ref (o))] := hl
  have hS : va_S (uO U o) s.heap s.heap [] := va_S.rf
  refine lv_aload_n hx hb dL_call_0 rfl (lv_at hl 2 rfl) ?_
  refine lv_iconst (v := nI 0) hx hb dL_call_1 gc_0 ?_
  refine lv_aload_n hx hb dL_call_2 rfl (lv_at hl 0 rfl) ?_
  refine lv_iload_n hx hb dL_call_3 rfl (lv_at hl 1 rfl) ?_
  refine gx_calli (vx_runV (As := [.int (v)]) (rest := [.int (nI 0), .ref o]) ⟨hx, hb, hml, hown, hts⟩ (c_X7_call l hlt D cA AE adK adV sa U rg c z rz hd ct rs dt mf mn tc tl to kd fi se ta nu lc ln sv er v hA hFA hz hrg hh8 hc8 hlo hr9) (cwV 1 hts (gWVL gm_11_9 gm_11_10 gm_11_11 gm_1_2 gm_11_12) rfl rfl rfl (by decide +kernel) ⟨Nat.le_of_ble_eq_true rfl, Nat.le_of_ble_eq_true rfl⟩) (gPreVx hK hE hS hFO (g_rf hK hP (ci := 9) (q0 := 0) rfl rfl) hP) rfl rfl hl.1 rfl (lv_room (Nat.le_of_ble_eq_true rfl)) dL_call_4 ⟨Nat.le_of_ble_eq_true rfl, Nat.le_of_ble_eq_true rfl⟩) hS (fun q _ h => Or.inl h) (fun q h => Or.inl h) (fun q _ h => Or.inl h) (fun E9 ce q9 H locs hp hz9 hk9 hS hce hcv hcl => ?_) (fun r H locs hp hz9 hk9 hS => ?_)
  · rcases hp with ⟨rfl, ht⟩ | ⟨rfl, ht⟩
    · have hO := vP_fr hO hk9 (oL_n hoU)
      refine vx_catch hown [] (⟨0, 9, 12, 24⟩ : ExceptionTableEntry) [(⟨0, 9, 15, 15⟩ : ExceptionTableEntry)] hte (fun z hz => absurd hz List.not_mem_nil) (by decide +kernel) (by decide) (hts _ (List.mem_cons_of_mem _ gm_11_8)) (wOk_use rfl (hE.1 _ cast_IOB rfl)) hce hcv hcl ?_
      refine lv_astore_n (lv' := [(3, .ref (q9)), (0, .ref (U 0)), (1, .int (v)), (2, .ref (o))]) hx hb dL_call_12 rfl hl (by decide) rfl (fun ls hl => ?_)
      refine lv_iconst (v := nI 1) hx hb dL_call_13 gc_1 ?_
      exact g_iretW (v := nI 1) hx hb hr hlk hS dL_call_14 ⟨1, 0, _, rfl, by decide, fun q => absurd q (by decide), hO, (Or.inr (Or.inl ⟨rfl, ht⟩))⟩
    · have hO := vP_fr hO hk9 (oL_n hoU)
      refine vx_catch hown [(⟨0, 9, 12, 24⟩ : ExceptionTableEntry)] (⟨0, 9, 15, 15⟩ : ExceptionTableEntry) [] hte (fun z hz => by rw [List.mem_singleton] at hz; subst hz; exact Or.inr ⟨by decide, xIOB, (hts _ (List.mem_cons_of_mem _ gm_11_8)), hN (xUOE, xIOB) (by decide +kernel)⟩) (by decide +kernel) (by decide) (hts _ (List.mem_cons_of_mem _ gm_21_15)) (wOk_use rfl (hE.1 _ cast_UOE rfl)) hce hcv hcl ?_
      refine lv_astore_n (lv' := [(3, .ref (q9)), (0, .ref (U 0)), (1, .int (v)), (2, .ref (o))]) hx hb dL_call_15 rfl hl (by decide) rfl (fun ls hl => ?_)
      refine lv_iconst (v := nI 2) hx hb dL_call_16 gc_2 ?_
      exact g_iretW (v := nI 2) hx hb hr hlk hS dL_call_17 ⟨2, 0, _, rfl, by decide, fun q => absurd q (by decide), hO, (Or.inr (Or.inr ⟨rfl, ht⟩))⟩
  · obtain ⟨q_9, h1, h2, h3, h4, hP⟩ := hp
    have hO := vP_fr hO hk9 (oL_n hoU)
    refine lv_i2l (v := r.toInt64) hx hb dL_call_7 rfl ?_
    refine g_last hx hb hK hO hS (Or.inr rfl) dL_call_8 (fun H1 locs1 hO1 hsz hoq hS => ?_)
    have hP := vP_fr (A := fun q => q = o) hP (fun q _ h => hoq q h) (uw_n (A := fun q => q = o) hA (fun q h e9 => hoU (e9 ▸ h)))
    refine lv_goto (tgt := 18) hx hb dL_call_9 (by decide) ?_
    refine lv_iconst (v := nI 0) hx hb dL_call_18 gc_0 ?_
    exact g_iretW (v := nI 0) hx hb hr hlk hS dL_call_19 ⟨0, r, _, rfl, by decide, fun _ => upL0, hO1, Or.inl ⟨rfl, q_9, h1, h2, h3, h4, hP⟩⟩

set_option maxHeartbeats 1000000 in
set_option maxRecDepth 100000 in
theorem c_L_vote (l : Launch) (hlt : l.stackTraces = false) (D : va_G) (cA : Nat → ClassId) (AE : Nat → Prop) (adK adV sa : Nat → Nat) (U : Nat → Nat) (rg : Nat → Option Nat) (c z : CS) (rz : Nat → CS) (hd ct : Nat) (rs dt : Int32) (mf : Nat → Nat → Int32) (mn : Nat) (tc : Nat → Nat) (tl to : Nat) (kd fi se : Int32) (ta : Nat) (nu : Int32) (lc : Nat → Int32) (ln : Nat) (sv : Bool) (er : Int32) (v : Int32) (o : Nat) (g : Nat → Int64) (hA : aInj 189 U) (hFA : ∀ q, aS 189 U q → AE q) (hoU : ¬ aS 189 U o) (hFO : ∀ q, uO U o q → AE q) (hz : zOk c) (hrg : uRg U rg) (hh8 : hd ≤ 8) (hc8 : ct ≤ 8) : Met l yL_vote (gwL yL_vote cL_vote 4 (some .int) [(0, 9, 12, 24), (0, 9, 15, 15)]) ({ frames := 7, cells := 1, slots := 6, locals := 165 } : Room) (gPy [.ref (U 0), .int (v), .ref (o)] (fun H => va_P D vwCl (uw cA U rg c z rz hd ct rs dt mf mn tc tl to kd fi se ta nu lc ln sv er) H ∧ va_P D vwCl (oL cA o g) H) D cA AE adK adV sa) (wrI (fun r H => ∃ (k9 : Nat) (rr : Int32) (g9 : Nat → Int64), r = nI k9 ∧ k9 ≤ 2 ∧ (k9 = 0 → g9 0 = rr.toInt64) ∧ va_P D vwCl (oL cA o g9) H ∧ ((k9 = 0 ∧ ∃ q : Nat, q < zcn c ∧ v = nI q ∧ rfVote (zK c) q = none ∧ rr = nI (zVd c q) ∧ va_P D vwCl (uw cA U rg (zSay c q) z (va_up rz hd c) (hUp hd) (hCt ct) rs dt mf mn tc tl to kd fi se ta nu lc ln sv er) H) ∨ (k9 = 1 ∧ isIx v (zcn c) = false ∧ va_P D vwCl (uw cA U rg c z rz hd ct rs dt mf mn tc tl to kd fi se ta nu lc ln sv er) H) ∨ (k9 = 2 ∧ ∃ q : Nat, q < zcn c ∧ v = nI q ∧ (rfVote (zK c) q).isSome = true ∧ va_P D vwCl (uw cA U rg c z rz hd ct (((rfVote (zK c) q).getD (rs, dt)).1) (((rfVote (zK c) q).getD (rs, dt)).2) mf mn tc tl to kd fi se ta nu lc ln sv er) H))) (uO U o)) 1 6 (uO U o) := by
  refine gOfh (by decide) (Nat.le_of_ble_eq_true rfl) ?_
  intro p e s m below meth c9 ls hx hb hml hr hlk hown hts hte hB hK hE hN hl
  obtain ⟨hP, hO⟩ := hB
  have hl : lv_has ls 4 [(0, .ref (U 0)), (1, .int (v)), (2, .ref (o))] := hl
  have hS : va_S (uO U o) s.heap s.heap [] := va_S.rf
  refine lv_aload_n hx hb dL_vote_0 rfl (lv_at hl 2 rfl) ?_
  refine lv_iconst (v := nI 0) hx hb dL_vote_1 gc_0 ?_
  refine lv_aload_n hx hb dL_vote_2 rfl (lv_at hl 0 rfl) ?_
  refine lv_iload_n hx hb dL_vote_3 rfl (lv_at hl 1 rfl) ?_
  refine gx_calli (vx_runV (As := [.int (v)]) (rest := [.int (nI 0), .ref o]) ⟨hx, hb, hml, hown, hts⟩ (c_X7_vote l hlt D cA AE adK adV sa U rg c z rz hd ct rs dt mf mn tc tl to kd fi se ta nu lc ln sv er v hA hFA hz hrg hh8 hc8) (cwV 1 hts (gWVL gm_15_16 gm_15_17 gm_15_18 gm_1_2 gm_15_19) rfl rfl rfl (by decide +kernel) ⟨Nat.le_of_ble_eq_true rfl, Nat.le_of_ble_eq_true rfl⟩) (gPreVx hK hE hS hFO (g_rf hK hP (ci := 9) (q0 := 0) rfl rfl) hP) rfl rfl hl.1 rfl (lv_room (Nat.le_of_ble_eq_true rfl)) dL_vote_4 ⟨Nat.le_of_ble_eq_true rfl, Nat.le_of_ble_eq_true rfl⟩) hS (fun q _ h => Or.inl h) (fun q h => Or.inl h) (fun q _ h => Or.inl h) (fun E9 ce q9 H locs hp hz9 hk9 hS hce hcv hcl => ?_) (fun r H locs hp hz9 hk9 hS => ?_)
  · rcases hp with ⟨rfl, ht⟩ | ⟨rfl, ht⟩
    · have hO := vP_fr hO hk9 (oL_n hoU)
      refine vx_catch hown [] (⟨0, 9, 12, 24⟩ : ExceptionTableEntry) [(⟨0, 9, 15, 15⟩ : ExceptionTableEntry)] hte (fun z hz => absurd hz List.not_mem_nil) (by decide +kernel) (by decide) (hts _ (List.mem_cons_of_mem _ gm_11_8)) (wOk_use rfl (hE.1 _ cast_IOB rfl)) hce hcv hcl ?_
      refine lv_astore_n (lv' := [(3, .ref (q9)), (0, .ref (U 0)), (1, .int (v)), (2, .ref (o))]) hx hb dL_vote_12 rfl hl (by decide) rfl (fun ls hl => ?_)
      refine lv_iconst (v := nI 1) hx hb dL_vote_13 gc_1 ?_
      exact g_iretW (v := nI 1) hx hb hr hlk hS dL_vote_14 ⟨1, 0, _, rfl, by decide, fun q => absurd q (by decide), hO, (Or.inr (Or.inl ⟨rfl, ht⟩))⟩
    · have hO := vP_fr hO hk9 (oL_n hoU)
      refine vx_catch hown [(⟨0, 9, 12, 24⟩ : ExceptionTableEntry)] (⟨0, 9, 15, 15⟩ : ExceptionTableEntry) [] hte (fun z hz => by rw [List.mem_singleton] at hz; subst hz; exact Or.inr ⟨by decide, xIOB, (hts _ (List.mem_cons_of_mem _ gm_11_8)), hN (xUOE, xIOB) (by decide +kernel)⟩) (by decide +kernel) (by decide) (hts _ (List.mem_cons_of_mem _ gm_21_15)) (wOk_use rfl (hE.1 _ cast_UOE rfl)) hce hcv hcl ?_
      refine lv_astore_n (lv' := [(3, .ref (q9)), (0, .ref (U 0)), (1, .int (v)), (2, .ref (o))]) hx hb dL_vote_15 rfl hl (by decide) rfl (fun ls hl => ?_)
      refine lv_iconst (v := nI 2) hx hb dL_vote_16 gc_2 ?_
      exact g_iretW (v := nI 2) hx hb hr hlk hS dL_vote_17 ⟨2, 0, _, rfl, by decide, fun q => absurd q (by decide), hO, (Or.inr (Or.inr ⟨rfl, ht⟩))⟩
  · obtain ⟨q_9, h1, h2, h3, h4, hP⟩ := hp
    have hO := vP_fr hO hk9 (oL_n hoU)
    refine lv_i2l (v := r.toInt64) hx hb dL_vote_7 rfl ?_
    refine g_last hx hb hK hO hS (Or.inr rfl) dL_vote_8 (fun H1 locs1 hO1 hsz hoq hS => ?_)
    have hP := vP_fr (A := fun q => q = o) hP (fun q _ h => hoq q h) (uw_n (A := fun q => q = o) hA (fun q h e9 => hoU (e9 ▸ h)))
    refine lv_goto (tgt := 18) hx hb dL_vote_9 (by decide) ?_
    refine lv_iconst (v := nI 0) hx hb dL_vote_18 gc_0 ?_
    exact g_iretW (v := nI 0) hx hb hr hlk hS dL_vote_19 ⟨0, r, _, rfl, by decide, fun _ => upL0, hO1, Or.inl ⟨rfl, q_9, h1, h2, h3, h4, hP⟩⟩

set_option maxHeartbeats 1000000 in
set_option maxRecDepth 100000 in
theorem c_L_unsay (l : Launch) (hlt : l.stackTraces = false) (D : va_G) (cA : Nat → ClassId) (AE : Nat → Prop) (adK adV sa : Nat → Nat) (U : Nat → Nat) (rg : Nat → Option Nat) (c z : CS) (rz : Nat → CS) (hd ct : Nat) (rs dt : Int32) (mf : Nat → Nat → Int32) (mn : Nat) (tc : Nat → Nat) (tl to : Nat) (kd fi se : Int32) (ta : Nat) (nu : Int32) (lc : Nat → Int32) (ln : Nat) (sv : Bool) (er : Int32) (v : Int32) (o : Nat) (g : Nat → Int64) (hA : aInj 189 U) (hFA : ∀ q, aS 189 U q → AE q) (hoU : ¬ aS 189 U o) (hFO : ∀ q, uO U o q → AE q) (hz : zOk c) (hrg : uRg U rg) (hh8 : hd ≤ 8) (hc8 : ct ≤ 8) (hr9 : ∀ q, q < zcn c → rfUns (zK c) q = none → zrl c ≤ 9) : Met l yL_unsay (gwL yL_unsay cL_unsay 4 (some .int) [(0, 9, 12, 24), (0, 9, 15, 15)]) ({ frames := 7, cells := 1, slots := 6, locals := 165 } : Room) (gPy [.ref (U 0), .int (v), .ref (o)] (fun H => va_P D vwCl (uw cA U rg c z rz hd ct rs dt mf mn tc tl to kd fi se ta nu lc ln sv er) H ∧ va_P D vwCl (oL cA o g) H) D cA AE adK adV sa) (wrI (fun r H => ∃ (k9 : Nat) (rr : Int32) (g9 : Nat → Int64), r = nI k9 ∧ k9 ≤ 2 ∧ (k9 = 0 → g9 0 = rr.toInt64) ∧ va_P D vwCl (oL cA o g9) H ∧ ((k9 = 0 ∧ ∃ q : Nat, q < zcn c ∧ v = nI q ∧ rfUns (zK c) q = none ∧ rr = nI (zTo c q).1 ∧ va_P D vwCl (uw cA U rg (zUns c q) z (va_up rz hd c) (hUp hd) (hCt ct) rs dt mf mn tc tl to kd fi se ta nu lc ln sv er) H) ∨ (k9 = 1 ∧ isIx v (zcn c) = false ∧ va_P D vwCl (uw cA U rg c z rz hd ct rs dt mf mn tc tl to kd fi se ta nu lc ln sv er) H) ∨ (k9 = 2 ∧ ∃ q : Nat, q < zcn c ∧ v = nI q ∧ (rfUns (zK c) q).isSome = true ∧ va_P D vwCl (uw cA U rg c z rz hd ct (((rfUns (zK c) q).getD (rs, dt)).1) (((rfUns (zK c) q).getD (rs, dt)).2) mf mn tc tl to kd fi se ta nu lc ln sv er) H))) (uO U o)) 1 6 (uO U o) := by
  refine gOfh (by decide) (Nat.le_of_ble_eq_true rfl) ?_
  intro p e s m below meth c9 ls hx hb hml hr hlk hown hts hte hB hK hE hN hl
  obtain ⟨hP, hO⟩ := hB
  have hl : lv_has ls 4 [(0, .ref (U 0)), (1, .int (v)), (2, .ref (o))] := hl
  have hS : va_S (uO U o) s.heap s.heap [] := va_S.rf
  refine lv_aload_n hx hb dL_unsay_0 rfl (lv_at hl 2 rfl) ?_
  refine lv_iconst (v := nI 0) hx hb dL_unsay_1 gc_0 ?_
  refine lv_aload_n hx hb dL_unsay_2 rfl (lv_at hl 0 rfl) ?_
  refine lv_iload_n hx hb dL_unsay_3 rfl (lv_at hl 1 rfl) ?_
  refine gx_calli (vx_runV (As := [.int (v)]) (rest := [.int (nI 0), .ref o]) ⟨hx, hb, hml, hown, hts⟩ (c_X7_unsay l hlt D cA AE adK adV sa U rg c z rz hd ct rs dt mf mn tc tl to kd fi se ta nu lc ln sv er v hA hFA hz hrg hh8 hc8 hr9) (cwV 1 hts (gWVL gm_19_1 gm_19_2 gm_19_3 gm_1_2 gm_19_4) rfl rfl rfl (by decide +kernel) ⟨Nat.le_of_ble_eq_true rfl, Nat.le_of_ble_eq_true rfl⟩) (gPreVx hK hE hS hFO (g_rf hK hP (ci := 9) (q0 := 0) rfl rfl) hP) rfl rfl hl.1 rfl (lv_room (Nat.le_of_ble_eq_true rfl)) dL_unsay_4 ⟨Nat.le_of_ble_eq_true rfl, Nat.le_of_ble_eq_true rfl⟩) hS (fun q _ h => Or.inl h) (fun q h => Or.inl h) (fun q _ h => Or.inl h) (fun E9 ce q9 H locs hp hz9 hk9 hS hce hcv hcl => ?_) (fun r H locs hp hz9 hk9 hS => ?_)
  · rcases hp with ⟨rfl, ht⟩ | ⟨rfl, ht⟩
    · have hO := vP_fr hO hk9 (oL_n hoU)
      refine vx_catch hown [] (⟨0, 9, 12, 24⟩ : ExceptionTableEntry) [(⟨0, 9, 15, 15⟩ : ExceptionTableEntry)] hte (fun z hz => absurd hz List.not_mem_nil) (by decide +kernel) (by decide) (hts _ (List.mem_cons_of_mem _ gm_11_8)) (wOk_use rfl (hE.1 _ cast_IOB rfl)) hce hcv hcl ?_
      refine lv_astore_n (lv' := [(3, .ref (q9)), (0, .ref (U 0)), (1, .int (v)), (2, .ref (o))]) hx hb dL_unsay_12 rfl hl (by decide) rfl (fun ls hl => ?_)
      refine lv_iconst (v := nI 1) hx hb dL_unsay_13 gc_1 ?_
      exact g_iretW (v := nI 1) hx hb hr hlk hS dL_unsay_14 ⟨1, 0, _, rfl, by decide, fun q => absurd q (by decide), hO, (Or.inr (Or.inl ⟨rfl, ht⟩))⟩
    · have hO := vP_fr hO hk9 (oL_n hoU)
      refine vx_catch hown [(⟨0, 9, 12, 24⟩ : ExceptionTableEntry)] (⟨0, 9, 15, 15⟩ : ExceptionTableEntry) [] hte (fun z hz => by rw [List.mem_singleton] at hz; subst hz; exact Or.inr ⟨by decide, xIOB, (hts _ (List.mem_cons_of_mem _ gm_11_8)), hN (xUOE, xIOB) (by decide +kernel)⟩) (by decide +kernel) (by decide) (hts _ (List.mem_cons_of_mem _ gm_21_15)) (wOk_use rfl (hE.1 _ cast_UOE rfl)) hce hcv hcl ?_
      refine lv_astore_n (lv' := [(3, .ref (q9)), (0, .ref (U 0)), (1, .int (v)), (2, .ref (o))]) hx hb dL_unsay_15 rfl hl (by decide) rfl (fun ls hl => ?_)
      refine lv_iconst (v := nI 2) hx hb dL_unsay_16 gc_2 ?_
      exact g_iretW (v := nI 2) hx hb hr hlk hS dL_unsay_17 ⟨2, 0, _, rfl, by decide, fun q => absurd q (by decide), hO, (Or.inr (Or.inr ⟨rfl, ht⟩))⟩
  · obtain ⟨q_9, h1, h2, h3, h4, hP⟩ := hp
    have hO := vP_fr hO hk9 (oL_n hoU)
    refine lv_i2l (v := r.toInt64) hx hb dL_unsay_7 rfl ?_
    refine g_last hx hb hK hO hS (Or.inr rfl) dL_unsay_8 (fun H1 locs1 hO1 hsz hoq hS => ?_)
    have hP := vP_fr (A := fun q => q = o) hP (fun q _ h => hoq q h) (uw_n (A := fun q => q = o) hA (fun q h e9 => hoU (e9 ▸ h)))
    refine lv_goto (tgt := 18) hx hb dL_unsay_9 (by decide) ?_
    refine lv_iconst (v := nI 0) hx hb dL_unsay_18 gc_0 ?_
    exact g_iretW (v := nI 0) hx hb hr hlk hS dL_unsay_19 ⟨0, r, _, rfl, by decide, fun _ => upL0, hO1, Or.inl ⟨rfl, q_9, h1, h2, h3, h4, hP⟩⟩

set_option maxHeartbeats 1000000 in
set_option maxRecDepth 100000 in
theorem c_L_appeal (l : Launch) (hlt : l.stackTraces = false) (D : va_G) (cA : Nat → ClassId) (AE : Nat → Prop) (adK adV sa : Nat → Nat) (U : Nat → Nat) (rg : Nat → Option Nat) (c z : CS) (rz : Nat → CS) (hd ct : Nat) (rs dt : Int32) (mf : Nat → Nat → Int32) (mn : Nat) (tc : Nat → Nat) (tl to : Nat) (kd fi se : Int32) (ta : Nat) (nu : Int32) (lc : Nat → Int32) (ln : Nat) (sv : Bool) (er : Int32) (v : Int32) (o : Nat) (g : Nat → Int64) (hA : aInj 189 U) (hFA : ∀ q, aS 189 U q → AE q) (hoU : ¬ aS 189 U o) (hFO : ∀ q, uO U o q → AE q) (hz : zOk c) (hrg : uRg U rg) (hh8 : hd ≤ 8) (hc8 : ct ≤ 8) (hap : ∀ q, q < zcn c → rfApp (zK c) (zjn c) (zcn c) q = none → ¬ zOut c q = none ∧ ¬ zIn c q = none) : Met l yL_appeal (gwL yL_appeal cL_appeal 4 (some .int) [(0, 9, 12, 24), (0, 9, 15, 15)]) ({ frames := 7, cells := 1, slots := 6, locals := 165 } : Room) (gPy [.ref (U 0), .int (v), .ref (o)] (fun H => va_P D vwCl (uw cA U rg c z rz hd ct rs dt mf mn tc tl to kd fi se ta nu lc ln sv er) H ∧ va_P D vwCl (oL cA o g) H) D cA AE adK adV sa) (wrI (fun r H => ∃ (k9 : Nat) (rr : Int32) (g9 : Nat → Int64), r = nI k9 ∧ k9 ≤ 2 ∧ (k9 = 0 → g9 0 = rr.toInt64) ∧ va_P D vwCl (oL cA o g9) H ∧ ((k9 = 0 ∧ ∃ q : Nat, q < zcn c ∧ v = nI q ∧ rfApp (zK c) (zjn c) (zcn c) q = none ∧ rr = nI (zVd (zAp c q) q) ∧ va_P D vwCl (uw cA U rg (zSay (zAp c q) q) z (va_up rz hd c) (hUp hd) (hCt ct) rs dt mf mn tc tl to kd fi se ta nu lc ln sv er) H) ∨ (k9 = 1 ∧ isIx v (zcn c) = false ∧ va_P D vwCl (uw cA U rg c z rz hd ct rs dt mf mn tc tl to kd fi se ta nu lc ln sv er) H) ∨ (k9 = 2 ∧ ∃ q : Nat, q < zcn c ∧ v = nI q ∧ (rfApp (zK c) (zjn c) (zcn c) q).isSome = true ∧ va_P D vwCl (uw cA U rg c z rz hd ct (((rfApp (zK c) (zjn c) (zcn c) q).getD (rs, dt)).1) (((rfApp (zK c) (zjn c) (zcn c) q).getD (rs, dt)).2) mf mn tc tl to kd fi se ta nu lc ln sv er) H))) (uO U o)) 1 6 (uO U o) := by
  refine gOfh (by decide) (Nat.le_of_ble_eq_true rfl) ?_
  intro p e s m below meth c9 ls hx hb hml hr hlk hown hts hte hB hK hE hN hl
  obtain ⟨hP, hO⟩ := hB
  have hl : lv_has ls 4 [(0, .ref (U 0)), (1, .int (v)), (2, .ref (o))] := hl
  have hS : va_S (uO U o) s.heap s.heap [] := va_S.rf
  refine lv_aload_n hx hb dL_appeal_0 rfl (lv_at hl 2 rfl) ?_
  refine lv_iconst (v := nI 0) hx hb dL_appeal_1 gc_0 ?_
  refine lv_aload_n hx hb dL_appeal_2 rfl (lv_at hl 0 rfl) ?_
  refine lv_iload_n hx hb dL_appeal_3 rfl (lv_at hl 1 rfl) ?_
  refine gx_calli (vx_runV (As := [.int (v)]) (rest := [.int (nI 0), .ref o]) ⟨hx, hb, hml, hown, hts⟩ (c_X7_appeal l hlt D cA AE adK adV sa U rg c z rz hd ct rs dt mf mn tc tl to kd fi se ta nu lc ln sv er v hA hFA hz hrg hh8 hc8 hap) (cwV 1 hts (gWVL gm_20_6 gm_20_7 gm_20_8 gm_1_2 gm_20_9) rfl rfl rfl (by decide +kernel) ⟨Nat.le_of_ble_eq_true rfl, Nat.le_of_ble_eq_true rfl⟩) (gPreVx hK hE hS hFO (g_rf hK hP (ci := 9) (q0 := 0) rfl rfl) hP) rfl rfl hl.1 rfl (lv_room (Nat.le_of_ble_eq_true rfl)) dL_appeal_4 ⟨Nat.le_of_ble_eq_true rfl, Nat.le_of_ble_eq_true rfl⟩) hS (fun q _ h => Or.inl h) (fun q h => Or.inl h) (fun q _ h => Or.inl h) (fun E9 ce q9 H locs hp hz9 hk9 hS hce hcv hcl => ?_) (fun r H locs hp hz9 hk9 hS => ?_)
  · rcases hp with ⟨rfl, ht⟩ | ⟨rfl, ht⟩
    · have hO := vP_fr hO hk9 (oL_n hoU)
      refine vx_catch hown [] (⟨0, 9, 12, 24⟩ : ExceptionTableEntry) [(⟨0, 9, 15, 15⟩ : ExceptionTableEntry)] hte (fun z hz => absurd hz List.not_mem_nil) (by decide +kernel) (by decide) (hts _ (List.mem_cons_of_mem _ gm_11_8)) (wOk_use rfl (hE.1 _ cast_IOB rfl)) hce hcv hcl ?_
      refine lv_astore_n (lv' := [(3, .ref (q9)), (0, .ref (U 0)), (1, .int (v)), (2, .ref (o))]) hx hb dL_appeal_12 rfl hl (by decide) rfl (fun ls hl => ?_)
      refine lv_iconst (v := nI 1) hx hb dL_appeal_13 gc_1 ?_
      exact g_iretW (v := nI 1) hx hb hr hlk hS dL_appeal_14 ⟨1, 0, _, rfl, by decide, fun q => absurd q (by decide), hO, (Or.inr (Or.inl ⟨rfl, ht⟩))⟩
    · have hO := vP_fr hO hk9 (oL_n hoU)
      refine vx_catch hown [(⟨0, 9, 12, 24⟩ : ExceptionTableEntry)] (⟨0, 9, 15, 15⟩ : ExceptionTableEntry) [] hte (fun z hz => by rw [List.mem_singleton] at hz; subst hz; exact Or.inr ⟨by decide, xIOB, (hts _ (List.mem_cons_of_mem _ gm_11_8)), hN (xUOE, xIOB) (by decide +kernel)⟩) (by decide +kernel) (by decide) (hts _ (List.mem_cons_of_mem _ gm_21_15)) (wOk_use rfl (hE.1 _ cast_UOE rfl)) hce hcv hcl ?_
      refine lv_astore_n (lv' := [(3, .ref (q9)), (0, .ref (U 0)), (1, .int (v)), (2, .ref (o))]) hx hb dL_appeal_15 rfl hl (by decide) rfl (fun ls hl => ?_)
      refine lv_iconst (v := nI 2) hx hb dL_appeal_16 gc_2 ?_
      exact g_iretW (v := nI 2) hx hb hr hlk hS dL_appeal_17 ⟨2, 0, _, rfl, by decide, fun q => absurd q (by decide), hO, (Or.inr (Or.inr ⟨rfl, ht⟩))⟩
  · obtain ⟨q_9, h1, h2, h3, h4, hP⟩ := hp
    have hO := vP_fr hO hk9 (oL_n hoU)
    refine lv_i2l (v := r.toInt64) hx hb dL_appeal_7 rfl ?_
    refine g_last hx hb hK hO hS (Or.inr rfl) dL_appeal_8 (fun H1 locs1 hO1 hsz hoq hS => ?_)
    have hP := vP_fr (A := fun q => q = o) hP (fun q _ h => hoq q h) (uw_n (A := fun q => q = o) hA (fun q h e9 => hoU (e9 ▸ h)))
    refine lv_goto (tgt := 18) hx hb dL_appeal_9 (by decide) ?_
    refine lv_iconst (v := nI 0) hx hb dL_appeal_18 gc_0 ?_
    exact g_iretW (v := nI 0) hx hb hr hlk hS dL_appeal_19 ⟨0, r, _, rfl, by decide, fun _ => upL0, hO1, Or.inl ⟨rfl, q_9, h1, h2, h3, h4, hP⟩⟩

set_option maxHeartbeats 1000000 in
set_option maxRecDepth 100000 in
theorem c_L_clerk (l : Launch) (hlt : l.stackTraces = false) (D : va_G) (cA : Nat → ClassId) (AE : Nat → Prop) (adK adV sa : Nat → Nat) (U : Nat → Nat) (rg : Nat → Option Nat) (c z : CS) (rz : Nat → CS) (hd ct : Nat) (rs dt : Int32) (mf : Nat → Nat → Int32) (mn : Nat) (tc : Nat → Nat) (tl to : Nat) (kd fi se : Int32) (ta : Nat) (nu : Int32) (lc : Nat → Int32) (ln : Nat) (sv : Bool) (er : Int32) (o : Nat) (g : Nat → Int64) (hA : aInj 189 U) (hFA : ∀ q, aS 189 U q → AE q) (hoU : ¬ aS 189 U o) (hFO : ∀ q, uO U o q → AE q) (hz : zOk c) (hrg : uRg U rg) (hh8 : hd ≤ 8) (hc8 : ct ≤ 8) : Met l yL_clerk (gwL yL_clerk cL_clerk 3 (some .int) [(0, 8, 11, 15)]) ({ frames := 7, cells := 1, slots := 6, locals := 164 } : Room) (gPy [.ref (U 0), .ref (o)] (fun H => va_P D vwCl (uw cA U rg c z rz hd ct rs dt mf mn tc tl to kd fi se ta nu lc ln sv er) H ∧ va_P D vwCl (oL cA o g) H) D cA AE adK adV sa) (wrI (fun r H => ∃ (k9 : Nat) (rr : Int32) (g9 : Nat → Int64), r = nI k9 ∧ k9 ≤ 2 ∧ (k9 = 0 → g9 0 = rr.toInt64) ∧ va_P D vwCl (oL cA o g9) H ∧ ((k9 = 0 ∧ rfClk (zck c) = none ∧ rr = nI (zck c + 1) ∧ va_P D vwCl (uw cA U rg (mkz (zJ c) (zjn c) (zK c) (zrw c) (zcn c) (zrl c) (zck c + 1) (ztn c) (zsd c)) z (va_up rz hd c) (hUp hd) (hCt ct) rs dt mf mn tc tl to kd fi se ta nu lc ln sv er) H) ∨ (k9 = 1 ∧ (rfClk (zck c)).isSome = true ∧ va_P D vwCl (uw cA U rg c z rz hd ct (((rfClk (zck c)).getD (rs, dt)).1) (((rfClk (zck c)).getD (rs, dt)).2) mf mn tc tl to kd fi se ta nu lc ln sv er) H))) (uO U o)) 1 6 (uO U o) := by
  refine gOfh (by decide) (Nat.le_of_ble_eq_true rfl) ?_
  intro p e s m below meth c9 ls hx hb hml hr hlk hown hts hte hB hK hE hN hl
  obtain ⟨hP, hO⟩ := hB
  have hl : lv_has ls 3 [(0, .ref (U 0)), (1, .ref (o))] := hl
  have hS : va_S (uO U o) s.heap s.heap [] := va_S.rf
  refine lv_aload_n hx hb dL_clerk_0 rfl (lv_at hl 1 rfl) ?_
  refine lv_iconst (v := nI 0) hx hb dL_clerk_1 gc_0 ?_
  refine lv_aload_n hx hb dL_clerk_2 rfl (lv_at hl 0 rfl) ?_
  refine gx_calli (vx_runV (As := []) (rest := [.int (nI 0), .ref o]) ⟨hx, hb, hml, hown, hts⟩ (c_X7_clerk l hlt D cA AE adK adV sa U rg c z rz hd ct rs dt mf mn tc tl to kd fi se ta nu lc ln sv er  hA hFA hz hrg hh8 hc8) (cwV 0 hts (gWVL gm_21_16 gm_21_17 gm_21_18 gm_1_2 gm_21_19) rfl rfl rfl (by decide +kernel) ⟨Nat.le_of_ble_eq_true rfl, Nat.le_of_ble_eq_true rfl⟩) (gPreVx hK hE hS hFO (g_rf hK hP (ci := 9) (q0 := 0) rfl rfl) hP) rfl rfl hl.1 rfl (lv_room (Nat.le_of_ble_eq_true rfl)) dL_clerk_3 ⟨Nat.le_of_ble_eq_true rfl, Nat.le_of_ble_eq_true rfl⟩) hS (fun q _ h => Or.inl h) (fun q h => Or.inl h) (fun q _ h => Or.inl h) (fun E9 ce q9 H locs hp hz9 hk9 hS hce hcv hcl => ?_) (fun r H locs hp hz9 hk9 hS => ?_)
  · obtain ⟨rfl, ht⟩ := hp
    have hO := vP_fr hO hk9 (oL_n hoU)
    refine vx_catch hown [] (⟨0, 8, 11, 15⟩ : ExceptionTableEntry) [] hte (fun z hz => absurd hz List.not_mem_nil) (by decide +kernel) (by decide) (hts _ (List.mem_cons_of_mem _ gm_21_15)) (wOk_use rfl (hE.1 _ cast_UOE rfl)) hce hcv hcl ?_
    refine lv_astore_n (lv' := [(2, .ref (q9)), (0, .ref (U 0)), (1, .ref (o))]) hx hb dL_clerk_11 rfl hl (by decide) rfl (fun ls hl => ?_)
    refine lv_iconst (v := nI 1) hx hb dL_clerk_12 gc_1 ?_
    exact g_iretW (v := nI 1) hx hb hr hlk hS dL_clerk_13 ⟨1, 0, _, rfl, by decide, fun q => absurd q (by decide), hO, (Or.inr ⟨rfl, ht⟩)⟩
  · obtain ⟨h1, h2, hP⟩ := hp
    have hO := vP_fr hO hk9 (oL_n hoU)
    refine lv_i2l (v := r.toInt64) hx hb dL_clerk_6 rfl ?_
    refine g_last hx hb hK hO hS (Or.inr rfl) dL_clerk_7 (fun H1 locs1 hO1 hsz hoq hS => ?_)
    have hP := vP_fr (A := fun q => q = o) hP (fun q _ h => hoq q h) (uw_n (A := fun q => q = o) hA (fun q h e9 => hoU (e9 ▸ h)))
    refine lv_goto (tgt := 14) hx hb dL_clerk_8 (by decide) ?_
    refine lv_iconst (v := nI 0) hx hb dL_clerk_14 gc_0 ?_
    exact g_iretW (v := nI 0) hx hb hr hlk hS dL_clerk_15 ⟨0, r, _, rfl, by decide, fun _ => upL0, hO1, Or.inl ⟨rfl, h1, h2, hP⟩⟩

set_option maxHeartbeats 1000000 in
set_option maxRecDepth 100000 in
theorem c_L_night (l : Launch) (hlt : l.stackTraces = false) (D : va_G) (cA : Nat → ClassId) (AE : Nat → Prop) (adK adV sa : Nat → Nat) (U : Nat → Nat) (rg : Nat → Option Nat) (c z : CS) (rz : Nat → CS) (hd ct : Nat) (rs dt : Int32) (mf : Nat → Nat → Int32) (mn : Nat) (tc : Nat → Nat) (tl to : Nat) (kd fi se : Int32) (ta : Nat) (nu : Int32) (lc : Nat → Int32) (ln : Nat) (sv : Bool) (er : Int32) (o : Nat) (g : Nat → Int64) (hA : aInj 189 U) (hFA : ∀ q, aS 189 U q → AE q) (hoU : ¬ aS 189 U o) (hFO : ∀ q, uO U o q → AE q) (hz : zOk c) (hrg : uRg U rg) (hh8 : hd ≤ 8) (hc8 : ct ≤ 8) : Met l yL_night (gwL yL_night cL_night 3 (some .int) [(0, 8, 11, 15)]) ({ frames := 7, cells := 1, slots := 6, locals := 164 } : Room) (gPy [.ref (U 0), .ref (o)] (fun H => va_P D vwCl (uw cA U rg c z rz hd ct rs dt mf mn tc tl to kd fi se ta nu lc ln sv er) H ∧ va_P D vwCl (oL cA o g) H) D cA AE adK adV sa) (wrI (fun r H => ∃ (k9 : Nat) (rr : Int32) (g9 : Nat → Int64), r = nI k9 ∧ k9 ≤ 2 ∧ (k9 = 0 → g9 0 = rr.toInt64) ∧ va_P D vwCl (oL cA o g9) H ∧ ((k9 = 0 ∧ rfNt (ztn c) (zrl c) = none ∧ rr = nI (zTk c) ∧ va_P D vwCl (uw cA U rg (zNs c (zTk c)) z (va_up rz hd c) (hUp hd) (hCt ct) rs dt mf mn tc tl to kd fi se ta nu lc ln sv er) H) ∨ (k9 = 1 ∧ (rfNt (ztn c) (zrl c)).isSome = true ∧ va_P D vwCl (uw cA U rg c z rz hd ct (((rfNt (ztn c) (zrl c)).getD (rs, dt)).1) (((rfNt (ztn c) (zrl c)).getD (rs, dt)).2) mf mn tc tl to kd fi se ta nu lc ln sv er) H))) (uO U o)) 1 6 (uO U o) := by
  refine gOfh (by decide) (Nat.le_of_ble_eq_true rfl) ?_
  intro p e s m below meth c9 ls hx hb hml hr hlk hown hts hte hB hK hE hN hl
  obtain ⟨hP, hO⟩ := hB
  have hl : lv_has ls 3 [(0, .ref (U 0)), (1, .ref (o))] := hl
  have hS : va_S (uO U o) s.heap s.heap [] := va_S.rf
  refine lv_aload_n hx hb dL_night_0 rfl (lv_at hl 1 rfl) ?_
  refine lv_iconst (v := nI 0) hx hb dL_night_1 gc_0 ?_
  refine lv_aload_n hx hb dL_night_2 rfl (lv_at hl 0 rfl) ?_
  refine gx_calli (vx_runV (As := []) (rest := [.int (nI 0), .ref o]) ⟨hx, hb, hml, hown, hts⟩ (c_X7_night l hlt D cA AE adK adV sa U rg c z rz hd ct rs dt mf mn tc tl to kd fi se ta nu lc ln sv er  hA hFA hz hrg hh8 hc8) (cwV 0 hts (gWVL gm_22_12 gm_22_13 gm_22_14 gm_1_2 gm_22_15) rfl rfl rfl (by decide +kernel) ⟨Nat.le_of_ble_eq_true rfl, Nat.le_of_ble_eq_true rfl⟩) (gPreVx hK hE hS hFO (g_rf hK hP (ci := 9) (q0 := 0) rfl rfl) hP) rfl rfl hl.1 rfl (lv_room (Nat.le_of_ble_eq_true rfl)) dL_night_3 ⟨Nat.le_of_ble_eq_true rfl, Nat.le_of_ble_eq_true rfl⟩) hS (fun q _ h => Or.inl h) (fun q h => Or.inl h) (fun q _ h => Or.inl h) (fun E9 ce q9 H locs hp hz9 hk9 hS hce hcv hcl => ?_) (fun r H locs hp hz9 hk9 hS => ?_)
  · obtain ⟨rfl, ht⟩ := hp
    have hO := vP_fr hO hk9 (oL_n hoU)
    refine vx_catch hown [] (⟨0, 8, 11, 15⟩ : ExceptionTableEntry) [] hte (fun z hz => absurd hz List.not_mem_nil) (by decide +kernel) (by decide) (hts _ (List.mem_cons_of_mem _ gm_21_15)) (wOk_use rfl (hE.1 _ cast_UOE rfl)) hce hcv hcl ?_
    refine lv_astore_n (lv' := [(2, .ref (q9)), (0, .ref (U 0)), (1, .ref (o))]) hx hb dL_night_11 rfl hl (by decide) rfl (fun ls hl => ?_)
    refine lv_iconst (v := nI 1) hx hb dL_night_12 gc_1 ?_
    exact g_iretW (v := nI 1) hx hb hr hlk hS dL_night_13 ⟨1, 0, _, rfl, by decide, fun q => absurd q (by decide), hO, (Or.inr ⟨rfl, ht⟩)⟩
  · obtain ⟨h1, h2, hP⟩ := hp
    have hO := vP_fr hO hk9 (oL_n hoU)
    refine lv_i2l (v := r.toInt64) hx hb dL_night_6 rfl ?_
    refine g_last hx hb hK hO hS (Or.inr rfl) dL_night_7 (fun H1 locs1 hO1 hsz hoq hS => ?_)
    have hP := vP_fr (A := fun q => q = o) hP (fun q _ h => hoq q h) (uw_n (A := fun q => q = o) hA (fun q h e9 => hoU (e9 ▸ h)))
    refine lv_goto (tgt := 14) hx hb dL_night_8 (by decide) ?_
    refine lv_iconst (v := nI 0) hx hb dL_night_14 gc_0 ?_
    exact g_iretW (v := nI 0) hx hb hr hlk hS dL_night_15 ⟨0, r, _, rfl, by decide, fun _ => upL0, hO1, Or.inl ⟨rfl, h1, h2, hP⟩⟩

set_option maxHeartbeats 1000000 in
set_option maxRecDepth 100000 in
theorem c_L_jurorOf (l : Launch) (hlt : l.stackTraces = false) (D : va_G) (cA : Nat → ClassId) (AE : Nat → Prop) (adK adV sa : Nat → Nat) (U : Nat → Nat) (rg : Nat → Option Nat) (c z : CS) (rz : Nat → CS) (hd ct : Nat) (rs dt : Int32) (mf : Nat → Nat → Int32) (mn : Nat) (tc : Nat → Nat) (tl to : Nat) (kd fi se : Int32) (ta : Nat) (nu : Int32) (lc : Nat → Int32) (ln : Nat) (sv : Bool) (er : Int32) (v t : Int32) (o : Nat) (g : Nat → Int64) (hA : aInj 189 U) (hFA : ∀ q, aS 189 U q → AE q) (hoU : ¬ aS 189 U o) (hFO : ∀ q, uO U o q → AE q) (hz : zOk c)  : Met l yL_jurorOf (gwL yL_jurorOf cL_jurorOf 5 (some .int) [(0, 10, 13, 24), (0, 10, 17, 13)]) ({ frames := 7, cells := 1, slots := 6, locals := 104 } : Room) (gPy [.ref (U 0), .int (v), .int (t), .ref (o)] (fun H => va_P D vwCl (uw cA U rg c z rz hd ct rs dt mf mn tc tl to kd fi se ta nu lc ln sv er) H ∧ va_P D vwCl (oL cA o g) H) D cA AE adK adV sa) (wrI (fun r H => ∃ (k9 : Nat) (rr : Int32) (g9 : Nat → Int64), r = nI k9 ∧ k9 ≤ 2 ∧ (k9 = 0 → g9 0 = rr.toInt64) ∧ va_P D vwCl (oL cA o g9) H ∧ ((k9 = 0 ∧ ∃ j k : Nat, j < zjn c ∧ k ≤ 4 ∧ v = nI j ∧ t = nI k ∧ rr = joF c j k ∧ va_P D vwCl (uw cA U rg c z rz hd ct rs dt mf mn tc tl to kd fi se ta nu lc ln sv er) H) ∨ (k9 = 1 ∧ isIx v (zjn c) = false ∧ va_P D vwCl (uw cA U rg c z rz hd ct rs dt mf mn tc tl to kd fi se ta nu lc ln sv er) H) ∨ (k9 = 2 ∧ ∃ j : Nat, j < zjn c ∧ v = nI j ∧ inB t (nI 0) (nI 4) = false ∧ va_P D vwCl (uw cA U rg c z rz hd ct rs dt mf mn tc tl to kd fi se ta nu lc ln sv er) H))) (uO U o)) 1 6 (uO U o) := by
  refine gOfh (by decide) (Nat.le_of_ble_eq_true rfl) ?_
  intro p e s m below meth c9 ls hx hb hml hr hlk hown hts hte hB hK hE hN hl
  obtain ⟨hP, hO⟩ := hB
  have hl : lv_has ls 5 [(0, .ref (U 0)), (1, .int (v)), (2, .int (t)), (3, .ref (o))] := hl
  have hS : va_S (uO U o) s.heap s.heap [] := va_S.rf
  refine lv_aload_n hx hb dL_jurorOf_0 rfl (lv_at hl 3 rfl) ?_
  refine lv_iconst (v := nI 0) hx hb dL_jurorOf_1 gc_0 ?_
  refine lv_aload_n hx hb dL_jurorOf_2 rfl (lv_at hl 0 rfl) ?_
  refine lv_iload_n hx hb dL_jurorOf_3 rfl (lv_at hl 1 rfl) ?_
  refine lv_iload_n hx hb dL_jurorOf_4 rfl (lv_at hl 2 rfl) ?_
  refine gx_calli (vx_runV (As := [.int (v), .int (t)]) (rest := [.int (nI 0), .ref o]) ⟨hx, hb, hml, hown, hts⟩ (c_X7_jurorOf l hlt D cA AE adK adV sa U rg c z rz hd ct rs dt mf mn tc tl to kd fi se ta nu lc ln sv er v t hA hFA hz ) (cwV 2 hts (gWVL gm_24_17 gm_24_18 gm_24_19 gm_1_2 gm_24_20) rfl rfl rfl (by decide +kernel) ⟨Nat.le_of_ble_eq_true rfl, Nat.le_of_ble_eq_true rfl⟩) (gPreVx hK hE hS hFO (g_rf hK hP (ci := 9) (q0 := 0) rfl rfl) hP) rfl rfl hl.1 rfl (lv_room (Nat.le_of_ble_eq_true rfl)) dL_jurorOf_5 ⟨Nat.le_of_ble_eq_true rfl, Nat.le_of_ble_eq_true rfl⟩) hS (fun q _ h => Or.inl h) (fun q h => Or.inl h) (fun q _ h => Or.inl h) (fun E9 ce q9 H locs hp hz9 hk9 hS hce hcv hcl => ?_) (fun r H locs hp hz9 hk9 hS => ?_)
  · rcases hp with ⟨rfl, ht⟩ | ⟨rfl, ht⟩
    · have hO := vP_fr hO hk9 (oL_n hoU)
      refine vx_catch hown [] (⟨0, 10, 13, 24⟩ : ExceptionTableEntry) [(⟨0, 10, 17, 13⟩ : ExceptionTableEntry)] hte (fun z hz => absurd hz List.not_mem_nil) (by decide +kernel) (by decide) (hts _ (List.mem_cons_of_mem _ gm_11_8)) (wOk_use rfl (hE.1 _ cast_IOB rfl)) hce hcv hcl ?_
      refine lv_astore (lv' := [(4, .ref (q9)), (0, .ref (U 0)), (1, .int (v)), (2, .int (t)), (3, .ref (o))]) hx hb dL_jurorOf_13 hl (by decide) rfl (fun ls hl => ?_)
      refine lv_iconst (v := nI 1) hx hb dL_jurorOf_15 gc_1 ?_
      exact g_iretW (v := nI 1) hx hb hr hlk hS dL_jurorOf_16 ⟨1, 0, _, rfl, by decide, fun q => absurd q (by decide), hO, (Or.inr (Or.inl ⟨rfl, ht⟩))⟩
    · have hO := vP_fr hO hk9 (oL_n hoU)
      refine vx_catch hown [(⟨0, 10, 13, 24⟩ : ExceptionTableEntry)] (⟨0, 10, 17, 13⟩ : ExceptionTableEntry) [] hte (fun z hz => by rw [List.mem_singleton] at hz; subst hz; exact Or.inr ⟨by decide, xIOB, (hts _ (List.mem_cons_of_mem _ gm_11_8)), hN (xIAE, xIOB) (by decide +kernel)⟩) (by decide +kernel) (by decide) (hts _ (List.mem_cons_of_mem _ gm_6_4)) (wOk_use rfl (hE.1 _ cast_IAE rfl)) hce hcv hcl ?_
      refine lv_astore (lv' := [(4, .ref (q9)), (0, .ref (U 0)), (1, .int (v)), (2, .int (t)), (3, .ref (o))]) hx hb dL_jurorOf_17 hl (by decide) rfl (fun ls hl => ?_)
      refine lv_iconst (v := nI 2) hx hb dL_jurorOf_19 gc_2 ?_
      exact g_iretW (v := nI 2) hx hb hr hlk hS dL_jurorOf_20 ⟨2, 0, _, rfl, by decide, fun q => absurd q (by decide), hO, (Or.inr (Or.inr ⟨rfl, ht⟩))⟩
  · obtain ⟨j_9, k_9, h1, h2, h3, h4, h5, hP⟩ := hp
    have hO := vP_fr hO hk9 (oL_n hoU)
    refine lv_i2l (v := r.toInt64) hx hb dL_jurorOf_8 rfl ?_
    refine g_last hx hb hK hO hS (Or.inr rfl) dL_jurorOf_9 (fun H1 locs1 hO1 hsz hoq hS => ?_)
    have hP := vP_fr (A := fun q => q = o) hP (fun q _ h => hoq q h) (uw_n (A := fun q => q = o) hA (fun q h e9 => hoU (e9 ▸ h)))
    refine lv_goto (tgt := 21) hx hb dL_jurorOf_10 (by decide) ?_
    refine lv_iconst (v := nI 0) hx hb dL_jurorOf_21 gc_0 ?_
    exact g_iretW (v := nI 0) hx hb hr hlk hS dL_jurorOf_22 ⟨0, r, _, rfl, by decide, fun _ => upL0, hO1, Or.inl ⟨rfl, j_9, k_9, h1, h2, h3, h4, h5, hP⟩⟩

set_option maxHeartbeats 1000000 in
set_option maxRecDepth 100000 in
theorem c_L_caseOf (l : Launch) (hlt : l.stackTraces = false) (D : va_G) (cA : Nat → ClassId) (AE : Nat → Prop) (adK adV sa : Nat → Nat) (U : Nat → Nat) (rg : Nat → Option Nat) (c z : CS) (rz : Nat → CS) (hd ct : Nat) (rs dt : Int32) (mf : Nat → Nat → Int32) (mn : Nat) (tc : Nat → Nat) (tl to : Nat) (kd fi se : Int32) (ta : Nat) (nu : Int32) (lc : Nat → Int32) (ln : Nat) (sv : Bool) (er : Int32) (v t : Int32) (o : Nat) (g : Nat → Int64) (hA : aInj 189 U) (hFA : ∀ q, aS 189 U q → AE q) (hoU : ¬ aS 189 U o) (hFO : ∀ q, uO U o q → AE q) (hz : zOk c)  : Met l yL_caseOf (gwL yL_caseOf cL_caseOf 5 (some .int) [(0, 10, 13, 24), (0, 10, 17, 13)]) ({ frames := 7, cells := 1, slots := 6, locals := 105 } : Room) (gPy [.ref (U 0), .int (v), .int (t), .ref (o)] (fun H => va_P D vwCl (uw cA U rg c z rz hd ct rs dt mf mn tc tl to kd fi se ta nu lc ln sv er) H ∧ va_P D vwCl (oL cA o g) H) D cA AE adK adV sa) (wrI (fun r H => ∃ (k9 : Nat) (rr : Int32) (g9 : Nat → Int64), r = nI k9 ∧ k9 ≤ 2 ∧ (k9 = 0 → g9 0 = rr.toInt64) ∧ va_P D vwCl (oL cA o g9) H ∧ ((k9 = 0 ∧ ∃ j k : Nat, j < zcn c ∧ k ≤ 7 ∧ v = nI j ∧ t = nI k ∧ rr = coF c j k ∧ va_P D vwCl (uw cA U rg c z rz hd ct rs dt mf mn tc tl to kd fi se ta nu lc ln sv er) H) ∨ (k9 = 1 ∧ isIx v (zcn c) = false ∧ va_P D vwCl (uw cA U rg c z rz hd ct rs dt mf mn tc tl to kd fi se ta nu lc ln sv er) H) ∨ (k9 = 2 ∧ ∃ j : Nat, j < zcn c ∧ v = nI j ∧ inB t (nI 0) (nI 7) = false ∧ va_P D vwCl (uw cA U rg c z rz hd ct rs dt mf mn tc tl to kd fi se ta nu lc ln sv er) H))) (uO U o)) 1 6 (uO U o) := by
  refine gOfh (by decide) (Nat.le_of_ble_eq_true rfl) ?_
  intro p e s m below meth c9 ls hx hb hml hr hlk hown hts hte hB hK hE hN hl
  obtain ⟨hP, hO⟩ := hB
  have hl : lv_has ls 5 [(0, .ref (U 0)), (1, .int (v)), (2, .int (t)), (3, .ref (o))] := hl
  have hS : va_S (uO U o) s.heap s.heap [] := va_S.rf
  refine lv_aload_n hx hb dL_caseOf_0 rfl (lv_at hl 3 rfl) ?_
  refine lv_iconst (v := nI 0) hx hb dL_caseOf_1 gc_0 ?_
  refine lv_aload_n hx hb dL_caseOf_2 rfl (lv_at hl 0 rfl) ?_
  refine lv_iload_n hx hb dL_caseOf_3 rfl (lv_at hl 1 rfl) ?_
  refine lv_iload_n hx hb dL_caseOf_4 rfl (lv_at hl 2 rfl) ?_
  refine gx_calli (vx_runV (As := [.int (v), .int (t)]) (rest := [.int (nI 0), .ref o]) ⟨hx, hb, hml, hown, hts⟩ (c_X7_caseOf l hlt D cA AE adK adV sa U rg c z rz hd ct rs dt mf mn tc tl to kd fi se ta nu lc ln sv er v t hA hFA hz ) (cwV 2 hts (gWVL gm_25_17 gm_25_18 gm_25_19 gm_1_2 gm_25_20) rfl rfl rfl (by decide +kernel) ⟨Nat.le_of_ble_eq_true rfl, Nat.le_of_ble_eq_true rfl⟩) (gPreVx hK hE hS hFO (g_rf hK hP (ci := 9) (q0 := 0) rfl rfl) hP) rfl rfl hl.1 rfl (lv_room (Nat.le_of_ble_eq_true rfl)) dL_caseOf_5 ⟨Nat.le_of_ble_eq_true rfl, Nat.le_of_ble_eq_true rfl⟩) hS (fun q _ h => Or.inl h) (fun q h => Or.inl h) (fun q _ h => Or.inl h) (fun E9 ce q9 H locs hp hz9 hk9 hS hce hcv hcl => ?_) (fun r H locs hp hz9 hk9 hS => ?_)
  · rcases hp with ⟨rfl, ht⟩ | ⟨rfl, ht⟩
    · have hO := vP_fr hO hk9 (oL_n hoU)
      refine vx_catch hown [] (⟨0, 10, 13, 24⟩ : ExceptionTableEntry) [(⟨0, 10, 17, 13⟩ : ExceptionTableEntry)] hte (fun z hz => absurd hz List.not_mem_nil) (by decide +kernel) (by decide) (hts _ (List.mem_cons_of_mem _ gm_11_8)) (wOk_use rfl (hE.1 _ cast_IOB rfl)) hce hcv hcl ?_
      refine lv_astore (lv' := [(4, .ref (q9)), (0, .ref (U 0)), (1, .int (v)), (2, .int (t)), (3, .ref (o))]) hx hb dL_caseOf_13 hl (by decide) rfl (fun ls hl => ?_)
      refine lv_iconst (v := nI 1) hx hb dL_caseOf_15 gc_1 ?_
      exact g_iretW (v := nI 1) hx hb hr hlk hS dL_caseOf_16 ⟨1, 0, _, rfl, by decide, fun q => absurd q (by decide), hO, (Or.inr (Or.inl ⟨rfl, ht⟩))⟩
    · have hO := vP_fr hO hk9 (oL_n hoU)
      refine vx_catch hown [(⟨0, 10, 13, 24⟩ : ExceptionTableEntry)] (⟨0, 10, 17, 13⟩ : ExceptionTableEntry) [] hte (fun z hz => by rw [List.mem_singleton] at hz; subst hz; exact Or.inr ⟨by decide, xIOB, (hts _ (List.mem_cons_of_mem _ gm_11_8)), hN (xIAE, xIOB) (by decide +kernel)⟩) (by decide +kernel) (by decide) (hts _ (List.mem_cons_of_mem _ gm_6_4)) (wOk_use rfl (hE.1 _ cast_IAE rfl)) hce hcv hcl ?_
      refine lv_astore (lv' := [(4, .ref (q9)), (0, .ref (U 0)), (1, .int (v)), (2, .int (t)), (3, .ref (o))]) hx hb dL_caseOf_17 hl (by decide) rfl (fun ls hl => ?_)
      refine lv_iconst (v := nI 2) hx hb dL_caseOf_19 gc_2 ?_
      exact g_iretW (v := nI 2) hx hb hr hlk hS dL_caseOf_20 ⟨2, 0, _, rfl, by decide, fun q => absurd q (by decide), hO, (Or.inr (Or.inr ⟨rfl, ht⟩))⟩
  · obtain ⟨j_9, k_9, h1, h2, h3, h4, h5, hP⟩ := hp
    have hO := vP_fr hO hk9 (oL_n hoU)
    refine lv_i2l (v := r.toInt64) hx hb dL_caseOf_8 rfl ?_
    refine g_last hx hb hK hO hS (Or.inr rfl) dL_caseOf_9 (fun H1 locs1 hO1 hsz hoq hS => ?_)
    have hP := vP_fr (A := fun q => q = o) hP (fun q _ h => hoq q h) (uw_n (A := fun q => q = o) hA (fun q h e9 => hoU (e9 ▸ h)))
    refine lv_goto (tgt := 21) hx hb dL_caseOf_10 (by decide) ?_
    refine lv_iconst (v := nI 0) hx hb dL_caseOf_21 gc_0 ?_
    exact g_iretW (v := nI 0) hx hb hr hlk hS dL_caseOf_22 ⟨0, r, _, rfl, by decide, fun _ => upL0, hO1, Or.inl ⟨rfl, j_9, k_9, h1, h2, h3, h4, h5, hP⟩⟩

set_option maxHeartbeats 1000000 in
set_option maxRecDepth 100000 in
theorem c_L_voteOf (l : Launch) (hlt : l.stackTraces = false) (D : va_G) (cA : Nat → ClassId) (AE : Nat → Prop) (adK adV sa : Nat → Nat) (U : Nat → Nat) (rg : Nat → Option Nat) (c z : CS) (rz : Nat → CS) (hd ct : Nat) (rs dt : Int32) (mf : Nat → Nat → Int32) (mn : Nat) (tc : Nat → Nat) (tl to : Nat) (kd fi se : Int32) (ta : Nat) (nu : Int32) (lc : Nat → Int32) (ln : Nat) (sv : Bool) (er : Int32) (v t : Int32) (o : Nat) (g : Nat → Int64) (hA : aInj 189 U) (hFA : ∀ q, aS 189 U q → AE q) (hoU : ¬ aS 189 U o) (hFO : ∀ q, uO U o q → AE q) (hz : zOk c)  : Met l yL_voteOf (gwL yL_voteOf cL_voteOf 5 (some .int) [(0, 10, 13, 24)]) ({ frames := 7, cells := 1, slots := 6, locals := 104 } : Room) (gPy [.ref (U 0), .int (v), .int (t), .ref (o)] (fun H => va_P D vwCl (uw cA U rg c z rz hd ct rs dt mf mn tc tl to kd fi se ta nu lc ln sv er) H ∧ va_P D vwCl (oL cA o g) H) D cA AE adK adV sa) (wrI (fun r H => ∃ (k9 : Nat) (rr : Int32) (g9 : Nat → Int64), r = nI k9 ∧ k9 ≤ 2 ∧ (k9 = 0 → g9 0 = rr.toInt64) ∧ va_P D vwCl (oL cA o g9) H ∧ ((k9 = 0 ∧ ∃ j q : Nat, j < zjn c ∧ q < zcn c ∧ v = nI j ∧ t = nI q ∧ rr = nI (opC (forB (zK c 0 q) (zJ c 0 j) (zJ c 1 j))) ∧ va_P D vwCl (uw cA U rg c z rz hd ct rs dt mf mn tc tl to kd fi se ta nu lc ln sv er) H) ∨ (k9 = 1 ∧ (isIx v (zjn c) = false ∨ isIx t (zcn c) = false) ∧ va_P D vwCl (uw cA U rg c z rz hd ct rs dt mf mn tc tl to kd fi se ta nu lc ln sv er) H))) (uO U o)) 1 6 (uO U o) := by
  refine gOfh (by decide) (Nat.le_of_ble_eq_true rfl) ?_
  intro p e s m below meth c9 ls hx hb hml hr hlk hown hts hte hB hK hE hN hl
  obtain ⟨hP, hO⟩ := hB
  have hl : lv_has ls 5 [(0, .ref (U 0)), (1, .int (v)), (2, .int (t)), (3, .ref (o))] := hl
  have hS : va_S (uO U o) s.heap s.heap [] := va_S.rf
  refine lv_aload_n hx hb dL_voteOf_0 rfl (lv_at hl 3 rfl) ?_
  refine lv_iconst (v := nI 0) hx hb dL_voteOf_1 gc_0 ?_
  refine lv_aload_n hx hb dL_voteOf_2 rfl (lv_at hl 0 rfl) ?_
  refine lv_iload_n hx hb dL_voteOf_3 rfl (lv_at hl 1 rfl) ?_
  refine lv_iload_n hx hb dL_voteOf_4 rfl (lv_at hl 2 rfl) ?_
  refine gx_calli (vx_runV (As := [.int (v), .int (t)]) (rest := [.int (nI 0), .ref o]) ⟨hx, hb, hml, hown, hts⟩ (c_X7_voteOf l hlt D cA AE adK adV sa U rg c z rz hd ct rs dt mf mn tc tl to kd fi se ta nu lc ln sv er v t hA hFA hz ) (cwV 2 hts (gWVL gm_26_12 gm_26_13 gm_26_14 gm_1_2 gm_26_15) rfl rfl rfl (by decide +kernel) ⟨Nat.le_of_ble_eq_true rfl, Nat.le_of_ble_eq_true rfl⟩) (gPreVx hK hE hS hFO (g_rf hK hP (ci := 9) (q0 := 0) rfl rfl) hP) rfl rfl hl.1 rfl (lv_room (Nat.le_of_ble_eq_true rfl)) dL_voteOf_5 ⟨Nat.le_of_ble_eq_true rfl, Nat.le_of_ble_eq_true rfl⟩) hS (fun q _ h => Or.inl h) (fun q h => Or.inl h) (fun q _ h => Or.inl h) (fun E9 ce q9 H locs hp hz9 hk9 hS hce hcv hcl => ?_) (fun r H locs hp hz9 hk9 hS => ?_)
  · obtain ⟨rfl, ht⟩ := hp
    have hO := vP_fr hO hk9 (oL_n hoU)
    refine vx_catch hown [] (⟨0, 10, 13, 24⟩ : ExceptionTableEntry) [] hte (fun z hz => absurd hz List.not_mem_nil) (by decide +kernel) (by decide) (hts _ (List.mem_cons_of_mem _ gm_11_8)) (wOk_use rfl (hE.1 _ cast_IOB rfl)) hce hcv hcl ?_
    refine lv_astore (lv' := [(4, .ref (q9)), (0, .ref (U 0)), (1, .int (v)), (2, .int (t)), (3, .ref (o))]) hx hb dL_voteOf_13 hl (by decide) rfl (fun ls hl => ?_)
    refine lv_iconst (v := nI 1) hx hb dL_voteOf_15 gc_1 ?_
    exact g_iretW (v := nI 1) hx hb hr hlk hS dL_voteOf_16 ⟨1, 0, _, rfl, by decide, fun q => absurd q (by decide), hO, (Or.inr ⟨rfl, ht⟩)⟩
  · obtain ⟨j_9, q_9, h1, h2, h3, h4, h5, hP⟩ := hp
    have hO := vP_fr hO hk9 (oL_n hoU)
    refine lv_i2l (v := r.toInt64) hx hb dL_voteOf_8 rfl ?_
    refine g_last hx hb hK hO hS (Or.inr rfl) dL_voteOf_9 (fun H1 locs1 hO1 hsz hoq hS => ?_)
    have hP := vP_fr (A := fun q => q = o) hP (fun q _ h => hoq q h) (uw_n (A := fun q => q = o) hA (fun q h e9 => hoU (e9 ▸ h)))
    refine lv_goto (tgt := 17) hx hb dL_voteOf_10 (by decide) ?_
    refine lv_iconst (v := nI 0) hx hb dL_voteOf_17 gc_0 ?_
    exact g_iretW (v := nI 0) hx hb hr hlk hS dL_voteOf_18 ⟨0, r, _, rfl, by decide, fun _ => upL0, hO1, Or.inl ⟨rfl, j_9, q_9, h1, h2, h3, h4, h5, hP⟩⟩

set_option maxHeartbeats 1000000 in
set_option maxRecDepth 100000 in
theorem c_L_wouldBe (l : Launch) (hlt : l.stackTraces = false) (D : va_G) (cA : Nat → ClassId) (AE : Nat → Prop) (adK adV sa : Nat → Nat) (U : Nat → Nat) (rg : Nat → Option Nat) (c z : CS) (rz : Nat → CS) (hd ct : Nat) (rs dt : Int32) (mf : Nat → Nat → Int32) (mn : Nat) (tc : Nat → Nat) (tl to : Nat) (kd fi se : Int32) (ta : Nat) (nu : Int32) (lc : Nat → Int32) (ln : Nat) (sv : Bool) (er : Int32) (v : Int32) (b : Bool) (o : Nat) (g : Nat → Int64) (hA : aInj 189 U) (hFA : ∀ q, aS 189 U q → AE q) (hoU : ¬ aS 189 U o) (hFO : ∀ q, uO U o q → AE q) (hz : zOk c)  : Met l yL_wouldBe (gwL yL_wouldBe cL_wouldBe 5 (some .int) [(0, 10, 13, 24), (0, 10, 17, 55)]) ({ frames := 7, cells := 1, slots := 6, locals := 106 } : Room) (gPy [.ref (U 0), .int (v), .int (b2i (b)), .ref (o)] (fun H => va_P D vwCl (uw cA U rg c z rz hd ct rs dt mf mn tc tl to kd fi se ta nu lc ln sv er) H ∧ va_P D vwCl (oL cA o g) H) D cA AE adK adV sa) (wrI (fun r H => ∃ (k9 : Nat) (rr : Int32) (g9 : Nat → Int64), r = nI k9 ∧ k9 ≤ 2 ∧ (k9 = 0 → g9 0 = rr.toInt64) ∧ va_P D vwCl (oL cA o g9) H ∧ ((k9 = 0 ∧ ∃ q : Nat, q < zcn c ∧ v = nI q ∧ hpF (zK c) q = true ∧ rr = nI (if b = true then vmF (zJ c 0) (zJ c 1) (zjn c) (zK c 2 q) (zK c 0 q) else vdF (zJ c 0) (zJ c 1) (zjn c) (zK c 2 q) (zK c 0 q)) ∧ va_P D vwCl (uw cA U rg c z rz hd ct rs dt mf mn tc tl to kd fi se ta nu lc ln sv er) H) ∨ (k9 = 1 ∧ isIx v (zcn c) = false ∧ va_P D vwCl (uw cA U rg c z rz hd ct rs dt mf mn tc tl to kd fi se ta nu lc ln sv er) H) ∨ (k9 = 2 ∧ ∃ q : Nat, q < zcn c ∧ v = nI q ∧ hpF (zK c) q = false ∧ va_P D vwCl (uw cA U rg c z rz hd ct rs dt mf mn tc tl to kd fi se ta nu lc ln sv er) H))) (uO U o)) 1 6 (uO U o) := by
  refine gOfh (by decide) (Nat.le_of_ble_eq_true rfl) ?_
  intro p e s m below meth c9 ls hx hb hml hr hlk hown hts hte hB hK hE hN hl
  obtain ⟨hP, hO⟩ := hB
  have hl : lv_has ls 5 [(0, .ref (U 0)), (1, .int (v)), (2, .int (b2i (b))), (3, .ref (o))] := hl
  have hS : va_S (uO U o) s.heap s.heap [] := va_S.rf
  refine lv_aload_n hx hb dL_wouldBe_0 rfl (lv_at hl 3 rfl) ?_
  refine lv_iconst (v := nI 0) hx hb dL_wouldBe_1 gc_0 ?_
  refine lv_aload_n hx hb dL_wouldBe_2 rfl (lv_at hl 0 rfl) ?_
  refine lv_iload_n hx hb dL_wouldBe_3 rfl (lv_at hl 1 rfl) ?_
  refine lv_iload_n hx hb dL_wouldBe_4 rfl (lv_at hl 2 rfl) ?_
  refine gx_calli (vx_runV (As := [.int (v), .int (b2i (b))]) (rest := [.int (nI 0), .ref o]) ⟨hx, hb, hml, hown, hts⟩ (c_X7_wouldBe l hlt D cA AE adK adV sa U rg c z rz hd ct rs dt mf mn tc tl to kd fi se ta nu lc ln sv er v b hA hFA hz ) (cwV 2 hts (gWVL gm_27_0 gm_27_1 gm_27_2 gm_1_2 gm_27_3) rfl rfl rfl (by decide +kernel) ⟨Nat.le_of_ble_eq_true rfl, Nat.le_of_ble_eq_true rfl⟩) (gPreVx hK hE hS hFO (g_rf hK hP (ci := 9) (q0 := 0) rfl rfl) hP) rfl rfl hl.1 rfl (lv_room (Nat.le_of_ble_eq_true rfl)) dL_wouldBe_5 ⟨Nat.le_of_ble_eq_true rfl, Nat.le_of_ble_eq_true rfl⟩) hS (fun q _ h => Or.inl h) (fun q h => Or.inl h) (fun q _ h => Or.inl h) (fun E9 ce q9 H locs hp hz9 hk9 hS hce hcv hcl => ?_) (fun r H locs hp hz9 hk9 hS => ?_)
  · rcases hp with ⟨rfl, ht⟩ | ⟨rfl, ht⟩
    · have hO := vP_fr hO hk9 (oL_n hoU)
      refine vx_catch hown [] (⟨0, 10, 13, 24⟩ : ExceptionTableEntry) [(⟨0, 10, 17, 55⟩ : ExceptionTableEntry)] hte (fun z hz => absurd hz List.not_mem_nil) (by decide +kernel) (by decide) (hts _ (List.mem_cons_of_mem _ gm_11_8)) (wOk_use rfl (hE.1 _ cast_IOB rfl)) hce hcv hcl ?_
      refine lv_astore (lv' := [(4, .ref (q9)), (0, .ref (U 0)), (1, .int (v)), (2, .int (b2i (b))), (3, .ref (o))]) hx hb dL_wouldBe_13 hl (by decide) rfl (fun ls hl => ?_)
      refine lv_iconst (v := nI 1) hx hb dL_wouldBe_15 gc_1 ?_
      exact g_iretW (v := nI 1) hx hb hr hlk hS dL_wouldBe_16 ⟨1, 0, _, rfl, by decide, fun q => absurd q (by decide), hO, (Or.inr (Or.inl ⟨rfl, ht⟩))⟩
    · have hO := vP_fr hO hk9 (oL_n hoU)
      refine vx_catch hown [(⟨0, 10, 13, 24⟩ : ExceptionTableEntry)] (⟨0, 10, 17, 55⟩ : ExceptionTableEntry) [] hte (fun z hz => by rw [List.mem_singleton] at hz; subst hz; exact Or.inr ⟨by decide, xIOB, (hts _ (List.mem_cons_of_mem _ gm_11_8)), hN (xNSE, xIOB) (by decide +kernel)⟩) (by decide +kernel) (by decide) (hts _ (List.mem_cons_of_mem _ gm_28_17)) (wOk_use rfl (hE.1 _ cast_NSE rfl)) hce hcv hcl ?_
      refine lv_astore (lv' := [(4, .ref (q9)), (0, .ref (U 0)), (1, .int (v)), (2, .int (b2i (b))), (3, .ref (o))]) hx hb dL_wouldBe_17 hl (by decide) rfl (fun ls hl => ?_)
      refine lv_iconst (v := nI 2) hx hb dL_wouldBe_19 gc_2 ?_
      exact g_iretW (v := nI 2) hx hb hr hlk hS dL_wouldBe_20 ⟨2, 0, _, rfl, by decide, fun q => absurd q (by decide), hO, (Or.inr (Or.inr ⟨rfl, ht⟩))⟩
  · obtain ⟨q_9, h1, h2, h3, h4, hP⟩ := hp
    have hO := vP_fr hO hk9 (oL_n hoU)
    refine lv_i2l (v := r.toInt64) hx hb dL_wouldBe_8 rfl ?_
    refine g_last hx hb hK hO hS (Or.inr rfl) dL_wouldBe_9 (fun H1 locs1 hO1 hsz hoq hS => ?_)
    have hP := vP_fr (A := fun q => q = o) hP (fun q _ h => hoq q h) (uw_n (A := fun q => q = o) hA (fun q h e9 => hoU (e9 ▸ h)))
    refine lv_goto (tgt := 21) hx hb dL_wouldBe_10 (by decide) ?_
    refine lv_iconst (v := nI 0) hx hb dL_wouldBe_21 gc_0 ?_
    exact g_iretW (v := nI 0) hx hb hr hlk hS dL_wouldBe_22 ⟨0, r, _, rfl, by decide, fun _ => upL0, hO1, Or.inl ⟨rfl, q_9, h1, h2, h3, h4, hP⟩⟩

set_option maxHeartbeats 1000000 in
set_option maxRecDepth 100000 in
theorem c_L_load (l : Launch) (hlt : l.stackTraces = false) (D : va_G) (cA : Nat → ClassId) (AE : Nat → Prop) (adK adV sa : Nat → Nat) (U : Nat → Nat) (rg : Nat → Option Nat) (c z : CS) (rz : Nat → CS) (hd ct : Nat) (rs dt : Int32) (mf : Nat → Nat → Int32) (mn : Nat) (tc : Nat → Nat) (tl to : Nat) (kd fi se : Int32) (ta : Nat) (nu : Int32) (lc : Nat → Int32) (ln : Nat) (sv : Bool) (er : Int32) (v : Int32) (b : Bool) (o : Nat) (g : Nat → Int64) (hA : aInj 189 U) (hFA : ∀ q, aS 189 U q → AE q) (hoU : ¬ aS 189 U o) (hFO : ∀ q, uO U o q → AE q) (hz : zOk c)  : Met l yL_load (gwL yL_load cL_load 5 (some .int) [(0, 10, 13, 24)]) ({ frames := 7, cells := 1, slots := 6, locals := 104 } : Room) (gPy [.ref (U 0), .int (v), .int (b2i (b)), .ref (o)] (fun H => va_P D vwCl (uw cA U rg c z rz hd ct rs dt mf mn tc tl to kd fi se ta nu lc ln sv er) H ∧ va_P D vwCl (oL cA o g) H) D cA AE adK adV sa) (wrI (fun r H => ∃ (k9 : Nat) (rr : Int32) (g9 : Nat → Int64), r = nI k9 ∧ k9 ≤ 2 ∧ (k9 = 0 → g9 0 = rr.toInt64) ∧ va_P D vwCl (oL cA o g9) H ∧ ((k9 = 0 ∧ ∃ j : Nat, j < zjn c ∧ v = nI j ∧ rr = (if b = true then lrF (zK c) (zcn c) j else nI (ldF (zK c) (zcn c) j)) ∧ va_P D vwCl (uw cA U rg c z rz hd ct rs dt mf mn tc tl to kd fi se ta nu lc ln sv er) H) ∨ (k9 = 1 ∧ isIx v (zjn c) = false ∧ va_P D vwCl (uw cA U rg c z rz hd ct rs dt mf mn tc tl to kd fi se ta nu lc ln sv er) H))) (uO U o)) 1 6 (uO U o) := by
  refine gOfh (by decide) (Nat.le_of_ble_eq_true rfl) ?_
  intro p e s m below meth c9 ls hx hb hml hr hlk hown hts hte hB hK hE hN hl
  obtain ⟨hP, hO⟩ := hB
  have hl : lv_has ls 5 [(0, .ref (U 0)), (1, .int (v)), (2, .int (b2i (b))), (3, .ref (o))] := hl
  have hS : va_S (uO U o) s.heap s.heap [] := va_S.rf
  refine lv_aload_n hx hb dL_load_0 rfl (lv_at hl 3 rfl) ?_
  refine lv_iconst (v := nI 0) hx hb dL_load_1 gc_0 ?_
  refine lv_aload_n hx hb dL_load_2 rfl (lv_at hl 0 rfl) ?_
  refine lv_iload_n hx hb dL_load_3 rfl (lv_at hl 1 rfl) ?_
  refine lv_iload_n hx hb dL_load_4 rfl (lv_at hl 2 rfl) ?_
  refine gx_calli (vx_runV (As := [.int (v), .int (b2i (b))]) (rest := [.int (nI 0), .ref o]) ⟨hx, hb, hml, hown, hts⟩ (c_X7_load l hlt D cA AE adK adV sa U rg c z rz hd ct rs dt mf mn tc tl to kd fi se ta nu lc ln sv er v b hA hFA hz ) (cwV 2 hts (gWVL gm_28_1 gm_28_2 gm_28_3 gm_1_2 gm_28_4) rfl rfl rfl (by decide +kernel) ⟨Nat.le_of_ble_eq_true rfl, Nat.le_of_ble_eq_true rfl⟩) (gPreVx hK hE hS hFO (g_rf hK hP (ci := 9) (q0 := 0) rfl rfl) hP) rfl rfl hl.1 rfl (lv_room (Nat.le_of_ble_eq_true rfl)) dL_load_5 ⟨Nat.le_of_ble_eq_true rfl, Nat.le_of_ble_eq_true rfl⟩) hS (fun q _ h => Or.inl h) (fun q h => Or.inl h) (fun q _ h => Or.inl h) (fun E9 ce q9 H locs hp hz9 hk9 hS hce hcv hcl => ?_) (fun r H locs hp hz9 hk9 hS => ?_)
  · obtain ⟨rfl, ht⟩ := hp
    have hO := vP_fr hO hk9 (oL_n hoU)
    refine vx_catch hown [] (⟨0, 10, 13, 24⟩ : ExceptionTableEntry) [] hte (fun z hz => absurd hz List.not_mem_nil) (by decide +kernel) (by decide) (hts _ (List.mem_cons_of_mem _ gm_11_8)) (wOk_use rfl (hE.1 _ cast_IOB rfl)) hce hcv hcl ?_
    refine lv_astore (lv' := [(4, .ref (q9)), (0, .ref (U 0)), (1, .int (v)), (2, .int (b2i (b))), (3, .ref (o))]) hx hb dL_load_13 hl (by decide) rfl (fun ls hl => ?_)
    refine lv_iconst (v := nI 1) hx hb dL_load_15 gc_1 ?_
    exact g_iretW (v := nI 1) hx hb hr hlk hS dL_load_16 ⟨1, 0, _, rfl, by decide, fun q => absurd q (by decide), hO, (Or.inr ⟨rfl, ht⟩)⟩
  · obtain ⟨j_9, h1, h2, h3, hP⟩ := hp
    have hO := vP_fr hO hk9 (oL_n hoU)
    refine lv_i2l (v := r.toInt64) hx hb dL_load_8 rfl ?_
    refine g_last hx hb hK hO hS (Or.inr rfl) dL_load_9 (fun H1 locs1 hO1 hsz hoq hS => ?_)
    have hP := vP_fr (A := fun q => q = o) hP (fun q _ h => hoq q h) (uw_n (A := fun q => q = o) hA (fun q h e9 => hoU (e9 ▸ h)))
    refine lv_goto (tgt := 17) hx hb dL_load_10 (by decide) ?_
    refine lv_iconst (v := nI 0) hx hb dL_load_17 gc_0 ?_
    exact g_iretW (v := nI 0) hx hb hr hlk hS dL_load_18 ⟨0, r, _, rfl, by decide, fun _ => upL0, hO1, Or.inl ⟨rfl, j_9, h1, h2, h3, hP⟩⟩

set_option maxHeartbeats 1000000 in
set_option maxRecDepth 100000 in
theorem c_L_callable (l : Launch) (hlt : l.stackTraces = false) (D : va_G) (cA : Nat → ClassId) (AE : Nat → Prop) (adK adV sa : Nat → Nat) (U : Nat → Nat) (rg : Nat → Option Nat) (c z : CS) (rz : Nat → CS) (hd ct : Nat) (rs dt : Int32) (mf : Nat → Nat → Int32) (mn : Nat) (tc : Nat → Nat) (tl to : Nat) (kd fi se : Int32) (ta : Nat) (nu : Int32) (lc : Nat → Int32) (ln : Nat) (sv : Bool) (er : Int32) (v : Int32) (o : Nat) (g : Nat → Int64) (hA : aInj 189 U) (hFA : ∀ q, aS 189 U q → AE q) (hoU : ¬ aS 189 U o) (hFO : ∀ q, uO U o q → AE q) (hz : zOk c)  : Met l yL_callable (gwL yL_callable cL_callable 4 (some .int) [(0, 9, 12, 55)]) ({ frames := 7, cells := 1, slots := 6, locals := 116 } : Room) (gPy [.ref (U 0), .int (v), .ref (o)] (fun H => va_P D vwCl (uw cA U rg c z rz hd ct rs dt mf mn tc tl to kd fi se ta nu lc ln sv er) H ∧ va_P D vwCl (oL cA o g) H) D cA AE adK adV sa) (wrI (fun r H => ∃ (k9 : Nat) (rr : Int32) (g9 : Nat → Int64), r = nI k9 ∧ k9 ≤ 2 ∧ (k9 = 0 → g9 0 = rr.toInt64) ∧ va_P D vwCl (oL cA o g9) H ∧ ((k9 = 0 ∧ ¬ nthV (fcF (zJ c 1) (zK c) (zjn c) (zcn c)) (zjn c) v = none ∧ rr = oI (nthV (fcF (zJ c 1) (zK c) (zjn c) (zcn c)) (zjn c) v) ∧ va_P D vwCl (uw cA U rg c z rz hd ct rs dt mf mn tc tl to kd fi se ta nu lc ln sv er) H) ∨ (k9 = 1 ∧ nthV (fcF (zJ c 1) (zK c) (zjn c) (zcn c)) (zjn c) v = none ∧ va_P D vwCl (uw cA U rg c z rz hd ct rs dt mf mn tc tl to kd fi se ta nu lc ln sv er) H))) (uO U o)) 1 6 (uO U o) := by
  refine gOfh (by decide) (Nat.le_of_ble_eq_true rfl) ?_
  intro p e s m below meth c9 ls hx hb hml hr hlk hown hts hte hB hK hE hN hl
  obtain ⟨hP, hO⟩ := hB
  have hl : lv_has ls 4 [(0, .ref (U 0)), (1, .int (v)), (2, .ref (o))] := hl
  have hS : va_S (uO U o) s.heap s.heap [] := va_S.rf
  refine lv_aload_n hx hb dL_callable_0 rfl (lv_at hl 2 rfl) ?_
  refine lv_iconst (v := nI 0) hx hb dL_callable_1 gc_0 ?_
  refine lv_aload_n hx hb dL_callable_2 rfl (lv_at hl 0 rfl) ?_
  refine lv_iload_n hx hb dL_callable_3 rfl (lv_at hl 1 rfl) ?_
  refine gx_calli (vx_runV (As := [.int (v)]) (rest := [.int (nI 0), .ref o]) ⟨hx, hb, hml, hown, hts⟩ (c_X7_callable l hlt D cA AE adK adV sa U rg c z rz hd ct rs dt mf mn tc tl to kd fi se ta nu lc ln sv er v hA hFA hz ) (cwV 1 hts (gWVL gm_28_18 gm_28_19 gm_28_20 gm_1_2 gm_28_21) rfl rfl rfl (by decide +kernel) ⟨Nat.le_of_ble_eq_true rfl, Nat.le_of_ble_eq_true rfl⟩) (gPreVx hK hE hS hFO (g_rf hK hP (ci := 9) (q0 := 0) rfl rfl) hP) rfl rfl hl.1 rfl (lv_room (Nat.le_of_ble_eq_true rfl)) dL_callable_4 ⟨Nat.le_of_ble_eq_true rfl, Nat.le_of_ble_eq_true rfl⟩) hS (fun q _ h => Or.inl h) (fun q h => Or.inl h) (fun q _ h => Or.inl h) (fun E9 ce q9 H locs hp hz9 hk9 hS hce hcv hcl => ?_) (fun r H locs hp hz9 hk9 hS => ?_)
  · obtain ⟨rfl, ht⟩ := hp
    have hO := vP_fr hO hk9 (oL_n hoU)
    refine vx_catch hown [] (⟨0, 9, 12, 55⟩ : ExceptionTableEntry) [] hte (fun z hz => absurd hz List.not_mem_nil) (by decide +kernel) (by decide) (hts _ (List.mem_cons_of_mem _ gm_28_17)) (wOk_use rfl (hE.1 _ cast_NSE rfl)) hce hcv hcl ?_
    refine lv_astore_n (lv' := [(3, .ref (q9)), (0, .ref (U 0)), (1, .int (v)), (2, .ref (o))]) hx hb dL_callable_12 rfl hl (by decide) rfl (fun ls hl => ?_)
    refine lv_iconst (v := nI 1) hx hb dL_callable_13 gc_1 ?_
    exact g_iretW (v := nI 1) hx hb hr hlk hS dL_callable_14 ⟨1, 0, _, rfl, by decide, fun q => absurd q (by decide), hO, (Or.inr ⟨rfl, ht⟩)⟩
  · obtain ⟨h1, h2, hP⟩ := hp
    have hO := vP_fr hO hk9 (oL_n hoU)
    refine lv_i2l (v := r.toInt64) hx hb dL_callable_7 rfl ?_
    refine g_last hx hb hK hO hS (Or.inr rfl) dL_callable_8 (fun H1 locs1 hO1 hsz hoq hS => ?_)
    have hP := vP_fr (A := fun q => q = o) hP (fun q _ h => hoq q h) (uw_n (A := fun q => q = o) hA (fun q h e9 => hoU (e9 ▸ h)))
    refine lv_goto (tgt := 15) hx hb dL_callable_9 (by decide) ?_
    refine lv_iconst (v := nI 0) hx hb dL_callable_15 gc_0 ?_
    exact g_iretW (v := nI 0) hx hb hr hlk hS dL_callable_16 ⟨0, r, _, rfl, by decide, fun _ => upL0, hO1, Or.inl ⟨rfl, h1, h2, hP⟩⟩

set_option maxHeartbeats 1000000 in
set_option maxRecDepth 100000 in
theorem c_L_thoughts (l : Launch) (hlt : l.stackTraces = false) (D : va_G) (cA : Nat → ClassId) (AE : Nat → Prop) (adK adV sa : Nat → Nat) (U : Nat → Nat) (rg : Nat → Option Nat) (c z : CS) (rz : Nat → CS) (hd ct : Nat) (rs dt : Int32) (mf : Nat → Nat → Int32) (mn : Nat) (tc : Nat → Nat) (tl to : Nat) (kd fi se : Int32) (ta : Nat) (nu : Int32) (lc : Nat → Int32) (ln : Nat) (sv : Bool) (er : Int32) (v : Int32) (o : Nat) (g : Nat → Int64) (hA : aInj 189 U) (hFA : ∀ q, aS 189 U q → AE q) (hoU : ¬ aS 189 U o) (hFO : ∀ q, uO U o q → AE q) (hz : zOk c)  : Met l yL_thoughts (gwL yL_thoughts cL_thoughts 4 (some .int) [(0, 9, 12, 24), (0, 9, 15, 55)]) ({ frames := 7, cells := 1, slots := 6, locals := 103 } : Room) (gPy [.ref (U 0), .int (v), .ref (o)] (fun H => va_P D vwCl (uw cA U rg c z rz hd ct rs dt mf mn tc tl to kd fi se ta nu lc ln sv er) H ∧ va_P D vwCl (oL cA o g) H) D cA AE adK adV sa) (wrI (fun r H => ∃ (k9 : Nat) (rr : Int32) (g9 : Nat → Int64), r = nI k9 ∧ k9 ≤ 2 ∧ (k9 = 0 → g9 0 = rr.toInt64) ∧ va_P D vwCl (oL cA o g9) H ∧ ((k9 = 0 ∧ ∃ q : Nat, q < zcn c ∧ v = nI q ∧ hpF (zK c) q = true ∧ rr = nI (ttF (zjn c) (zK c 2 q) (zK c 0 q) (zJ c 0, (zJ c 1, (zJ c 2, zJ c 3)))) ∧ ∃ (mf9 : Nat → Nat → Int32) (mn9 : Nat), va_P D vwCl (uw cA U rg c z rz hd ct rs dt mf9 mn9 tc tl to kd fi se ta nu lc ln sv er) H) ∨ (k9 = 1 ∧ isIx v (zcn c) = false ∧ va_P D vwCl (uw cA U rg c z rz hd ct rs dt mf mn tc tl to kd fi se ta nu lc ln sv er) H) ∨ (k9 = 2 ∧ ∃ q : Nat, q < zcn c ∧ v = nI q ∧ hpF (zK c) q = false ∧ va_P D vwCl (uw cA U rg c z rz hd ct rs dt mf mn tc tl to kd fi se ta nu lc ln sv er) H))) (uO U o)) 1 6 (uO U o) := by
  refine gOfh (by decide) (Nat.le_of_ble_eq_true rfl) ?_
  intro p e s m below meth c9 ls hx hb hml hr hlk hown hts hte hB hK hE hN hl
  obtain ⟨hP, hO⟩ := hB
  have hl : lv_has ls 4 [(0, .ref (U 0)), (1, .int (v)), (2, .ref (o))] := hl
  have hS : va_S (uO U o) s.heap s.heap [] := va_S.rf
  refine lv_aload_n hx hb dL_thoughts_0 rfl (lv_at hl 2 rfl) ?_
  refine lv_iconst (v := nI 0) hx hb dL_thoughts_1 gc_0 ?_
  refine lv_aload_n hx hb dL_thoughts_2 rfl (lv_at hl 0 rfl) ?_
  refine lv_iload_n hx hb dL_thoughts_3 rfl (lv_at hl 1 rfl) ?_
  refine gx_calli (vx_runV (As := [.int (v)]) (rest := [.int (nI 0), .ref o]) ⟨hx, hb, hml, hown, hts⟩ (c_X7_thoughts l hlt D cA AE adK adV sa U rg c z rz hd ct rs dt mf mn tc tl to kd fi se ta nu lc ln sv er v hA hFA hz ) (cwV 1 hts (gWVL gm_29_10 gm_29_11 gm_29_12 gm_1_2 gm_29_13) rfl rfl rfl (by decide +kernel) ⟨Nat.le_of_ble_eq_true rfl, Nat.le_of_ble_eq_true rfl⟩) (gPreVx hK hE hS hFO (g_rf hK hP (ci := 9) (q0 := 0) rfl rfl) hP) rfl rfl hl.1 rfl (lv_room (Nat.le_of_ble_eq_true rfl)) dL_thoughts_4 ⟨Nat.le_of_ble_eq_true rfl, Nat.le_of_ble_eq_true rfl⟩) hS (fun q _ h => Or.inl h) (fun q h => Or.inl h) (fun q _ h => Or.inl h) (fun E9 ce q9 H locs hp hz9 hk9 hS hce hcv hcl => ?_) (fun r H locs hp hz9 hk9 hS => ?_)
  · rcases hp with ⟨rfl, ht⟩ | ⟨rfl, ht⟩
    · have hO := vP_fr hO hk9 (oL_n hoU)
      refine vx_catch hown [] (⟨0, 9, 12, 24⟩ : ExceptionTableEntry) [(⟨0, 9, 15, 55⟩ : ExceptionTableEntry)] hte (fun z hz => absurd hz List.not_mem_nil) (by decide +kernel) (by decide) (hts _ (List.mem_cons_of_mem _ gm_11_8)) (wOk_use rfl (hE.1 _ cast_IOB rfl)) hce hcv hcl ?_
      refine lv_astore_n (lv' := [(3, .ref (q9)), (0, .ref (U 0)), (1, .int (v)), (2, .ref (o))]) hx hb dL_thoughts_12 rfl hl (by decide) rfl (fun ls hl => ?_)
      refine lv_iconst (v := nI 1) hx hb dL_thoughts_13 gc_1 ?_
      exact g_iretW (v := nI 1) hx hb hr hlk hS dL_thoughts_14 ⟨1, 0, _, rfl, by decide, fun q => absurd q (by decide), hO, (Or.inr (Or.inl ⟨rfl, ht⟩))⟩
    · have hO := vP_fr hO hk9 (oL_n hoU)
      refine vx_catch hown [(⟨0, 9, 12, 24⟩ : ExceptionTableEntry)] (⟨0, 9, 15, 55⟩ : ExceptionTableEntry) [] hte (fun z hz => by rw [List.mem_singleton] at hz; subst hz; exact Or.inr ⟨by decide, xIOB, (hts _ (List.mem_cons_of_mem _ gm_11_8)), hN (xNSE, xIOB) (by decide +kernel)⟩) (by decide +kernel) (by decide) (hts _ (List.mem_cons_of_mem _ gm_28_17)) (wOk_use rfl (hE.1 _ cast_NSE rfl)) hce hcv hcl ?_
      refine lv_astore_n (lv' := [(3, .ref (q9)), (0, .ref (U 0)), (1, .int (v)), (2, .ref (o))]) hx hb dL_thoughts_15 rfl hl (by decide) rfl (fun ls hl => ?_)
      refine lv_iconst (v := nI 2) hx hb dL_thoughts_16 gc_2 ?_
      exact g_iretW (v := nI 2) hx hb hr hlk hS dL_thoughts_17 ⟨2, 0, _, rfl, by decide, fun q => absurd q (by decide), hO, (Or.inr (Or.inr ⟨rfl, ht⟩))⟩
  · obtain ⟨q_9, h1, h2, h3, h4, mf9_9, mn9_9, hP⟩ := hp
    have hO := vP_fr hO hk9 (oL_n hoU)
    refine lv_i2l (v := r.toInt64) hx hb dL_thoughts_7 rfl ?_
    refine g_last hx hb hK hO hS (Or.inr rfl) dL_thoughts_8 (fun H1 locs1 hO1 hsz hoq hS => ?_)
    have hP := vP_fr (A := fun q => q = o) hP (fun q _ h => hoq q h) (uw_n (A := fun q => q = o) hA (fun q h e9 => hoU (e9 ▸ h)))
    refine lv_goto (tgt := 18) hx hb dL_thoughts_9 (by decide) ?_
    refine lv_iconst (v := nI 0) hx hb dL_thoughts_18 gc_0 ?_
    exact g_iretW (v := nI 0) hx hb hr hlk hS dL_thoughts_19 ⟨0, r, _, rfl, by decide, fun _ => upL0, hO1, Or.inl ⟨rfl, q_9, h1, h2, h3, h4, mf9_9, mn9_9, hP⟩⟩

set_option maxHeartbeats 1000000 in
set_option maxRecDepth 100000 in
theorem c_L_isOn (l : Launch) (hlt : l.stackTraces = false) (D : va_G) (cA : Nat → ClassId) (AE : Nat → Prop) (adK adV sa : Nat → Nat) (U : Nat → Nat) (rg : Nat → Option Nat) (c z : CS) (rz : Nat → CS) (hd ct : Nat) (rs dt : Int32) (mf : Nat → Nat → Int32) (mn : Nat) (tc : Nat → Nat) (tl to : Nat) (kd fi se : Int32) (ta : Nat) (nu : Int32) (lc : Nat → Int32) (ln : Nat) (sv : Bool) (er : Int32) (v t : Int32) (o : Nat) (g : Nat → Int64) (hA : aInj 189 U) (hFA : ∀ q, aS 189 U q → AE q) (hoU : ¬ aS 189 U o) (hFO : ∀ q, uO U o q → AE q) (hz : zOk c)  : Met l yL_isOn (gwL yL_isOn cL_isOn 5 (some .int) [(0, 17, 20, 24)]) ({ frames := 7, cells := 1, slots := 6, locals := 104 } : Room) (gPy [.ref (U 0), .int (v), .int (t), .ref (o)] (fun H => va_P D vwCl (uw cA U rg c z rz hd ct rs dt mf mn tc tl to kd fi se ta nu lc ln sv er) H ∧ va_P D vwCl (oL cA o g) H) D cA AE adK adV sa) (wrI (fun r H => ∃ (k9 : Nat) (rr : Int32) (g9 : Nat → Int64), r = nI k9 ∧ k9 ≤ 2 ∧ (k9 = 0 → g9 0 = rr.toInt64) ∧ va_P D vwCl (oL cA o g9) H ∧ ((k9 = 0 ∧ ∃ j q : Nat, j < zjn c ∧ q < zcn c ∧ v = nI j ∧ t = nI q ∧ rr = b2i (hs (zK c 2 q) j) ∧ va_P D vwCl (uw cA U rg c z rz hd ct rs dt mf mn tc tl to kd fi se ta nu lc ln sv er) H) ∨ (k9 = 1 ∧ (isIx v (zjn c) = false ∨ isIx t (zcn c) = false) ∧ va_P D vwCl (uw cA U rg c z rz hd ct rs dt mf mn tc tl to kd fi se ta nu lc ln sv er) H))) (uO U o)) 1 6 (uO U o) := by
  refine gOfh (by decide) (Nat.le_of_ble_eq_true rfl) ?_
  intro p e s m below meth c9 ls hx hb hml hr hlk hown hts hte hB hK hE hN hl
  obtain ⟨hP, hO⟩ := hB
  have hl : lv_has ls 5 [(0, .ref (U 0)), (1, .int (v)), (2, .int (t)), (3, .ref (o))] := hl
  have hS : va_S (uO U o) s.heap s.heap [] := va_S.rf
  refine lv_aload_n hx hb dL_isOn_0 rfl (lv_at hl 3 rfl) ?_
  refine lv_iconst (v := nI 0) hx hb dL_isOn_1 gc_0 ?_
  refine lv_aload_n hx hb dL_isOn_2 rfl (lv_at hl 0 rfl) ?_
  refine lv_iload_n hx hb dL_isOn_3 rfl (lv_at hl 1 rfl) ?_
  refine lv_iload_n hx hb dL_isOn_4 rfl (lv_at hl 2 rfl) ?_
  refine gx_calli (vx_runV (As := [.int (v), .int (t)]) (rest := [.int (nI 0), .ref o]) ⟨hx, hb, hml, hown, hts⟩ (c_X7_isOn l hlt D cA AE adK adV sa U rg c z rz hd ct rs dt mf mn tc tl to kd fi se ta nu lc ln sv er v t hA hFA hz ) (cwV 2 hts (gWVL gm_30_5 gm_30_6 gm_30_7 gm_1_2 gm_30_8) rfl rfl rfl (by decide +kernel) ⟨Nat.le_of_ble_eq_true rfl, Nat.le_of_ble_eq_true rfl⟩) (gPreVx hK hE hS hFO (g_rf hK hP (ci := 9) (q0 := 0) rfl rfl) hP) rfl rfl hl.1 rfl (lv_room (Nat.le_of_ble_eq_true rfl)) dL_isOn_5 ⟨Nat.le_of_ble_eq_true rfl, Nat.le_of_ble_eq_true rfl⟩) hS (fun q _ h => Or.inl h) (fun q h => Or.inl h) (fun q _ h => Or.inl h) (fun E9 ce q9 H locs hp hz9 hk9 hS hce hcv hcl => ?_) (fun r H locs hp hz9 hk9 hS => ?_)
  · obtain ⟨rfl, ht⟩ := hp
    have hO := vP_fr hO hk9 (oL_n hoU)
    refine vx_catch hown [] (⟨0, 17, 20, 24⟩ : ExceptionTableEntry) [] hte (fun z hz => absurd hz List.not_mem_nil) (by decide +kernel) (by decide) (hts _ (List.mem_cons_of_mem _ gm_11_8)) (wOk_use rfl (hE.1 _ cast_IOB rfl)) hce hcv hcl ?_
    refine lv_astore (lv' := [(4, .ref (q9)), (0, .ref (U 0)), (1, .int (v)), (2, .int (t)), (3, .ref (o))]) hx hb dL_isOn_20 hl (by decide) rfl (fun ls hl => ?_)
    refine lv_iconst (v := nI 1) hx hb dL_isOn_22 gc_1 ?_
    exact g_iretW (v := nI 1) hx hb hr hlk hS dL_isOn_23 ⟨1, 0, _, rfl, by decide, fun q => absurd q (by decide), hO, (Or.inr ⟨rfl, ht⟩)⟩
  · obtain ⟨j_9, q_9, h1, h2, h3, h4, h5, hP⟩ := hp
    have hO := vP_fr hO hk9 (oL_n hoU)
    have h99 : r = nI 0 ∨ r = nI 1 := by rw [h5]; unfold b2i; split; exact Or.inr rfl; exact Or.inl rfl
    refine g_if_eq (P := r = 0) (tgt := 15) hx hb dL_isOn_8 (by decide) Iff.rfl (fun c1 => ?_) (fun c1 => ?_)
    · refine lv_lconst (v := 0) hx hb dL_isOn_15 rfl ?_
      refine g_last hx hb hK hO hS (Or.inr rfl) dL_isOn_16 (fun H1 locs1 hO1 hsz hoq hS => ?_)
      have hP := vP_fr (A := fun q => q = o) hP (fun q _ h => hoq q h) (uw_n (A := fun q => q = o) hA (fun q h e9 => hoU (e9 ▸ h)))
      refine lv_goto (tgt := 24) hx hb dL_isOn_17 (by decide) ?_
      refine lv_iconst (v := nI 0) hx hb dL_isOn_24 gc_0 ?_
      exact g_iretW (v := nI 0) hx hb hr hlk hS dL_isOn_25 ⟨0, r, _, rfl, by decide, fun _ => (upL0.trans (by rw [c1]; rfl)), hO1, Or.inl ⟨rfl, j_9, q_9, h1, h2, h3, h4, h5, hP⟩⟩
    · refine lv_lconst (v := 1) hx hb dL_isOn_11 rfl ?_
      refine lv_goto (tgt := 16) hx hb dL_isOn_12 (by decide) ?_
      refine g_last hx hb hK hO hS (Or.inr rfl) dL_isOn_16 (fun H1 locs1 hO1 hsz hoq hS => ?_)
      have hP := vP_fr (A := fun q => q = o) hP (fun q _ h => hoq q h) (uw_n (A := fun q => q = o) hA (fun q h e9 => hoU (e9 ▸ h)))
      refine lv_goto (tgt := 24) hx hb dL_isOn_17 (by decide) ?_
      refine lv_iconst (v := nI 0) hx hb dL_isOn_24 gc_0 ?_
      exact g_iretW (v := nI 0) hx hb hr hlk hS dL_isOn_25 ⟨0, r, _, rfl, by decide, fun _ => (upL0.trans (by rcases h99 with q | q; exact absurd (q.trans nI_0) c1; rw [q]; decide +kernel)), hO1, Or.inl ⟨rfl, j_9, q_9, h1, h2, h3, h4, h5, hP⟩⟩

set_option maxHeartbeats 1000000 in
set_option maxRecDepth 100000 in
theorem c_L_roll (l : Launch) (hlt : l.stackTraces = false) (D : va_G) (cA : Nat → ClassId) (AE : Nat → Prop) (adK adV sa : Nat → Nat) (U : Nat → Nat) (rg : Nat → Option Nat) (c z : CS) (rz : Nat → CS) (hd ct : Nat) (rs dt : Int32) (mf : Nat → Nat → Int32) (mn : Nat) (tc : Nat → Nat) (tl to : Nat) (kd fi se : Int32) (ta : Nat) (nu : Int32) (lc : Nat → Int32) (ln : Nat) (sv : Bool) (er : Int32) (v : Int32) (b : Bool) (o : Nat) (g : Nat → Int64) (hA : aInj 189 U) (hFA : ∀ q, aS 189 U q → AE q) (hoU : ¬ aS 189 U o) (hFO : ∀ q, uO U o q → AE q) (hz : zOk c)  : Met l yL_roll (gwL yL_roll cL_roll 5 (some .int) [(0, 10, 13, 55)]) ({ frames := 7, cells := 1, slots := 6, locals := 112 } : Room) (gPy [.ref (U 0), .int (v), .int (b2i (b)), .ref (o)] (fun H => va_P D vwCl (uw cA U rg c z rz hd ct rs dt mf mn tc tl to kd fi se ta nu lc ln sv er) H ∧ va_P D vwCl (oL cA o g) H) D cA AE adK adV sa) (wrI (fun r H => ∃ (k9 : Nat) (rr : Int32) (g9 : Nat → Int64), r = nI k9 ∧ k9 ≤ 2 ∧ (k9 = 0 → g9 0 = rr.toInt64) ∧ va_P D vwCl (oL cA o g9) H ∧ ((k9 = 0 ∧ ¬ (if b = true then nthV (fhF (zK c) (zcn c)) (zcn c) v else (if isIx v (zrl c) = true then some (zrw c (v).toNatClampNeg) else none)) = none ∧ rr = oI (if b = true then nthV (fhF (zK c) (zcn c)) (zcn c) v else (if isIx v (zrl c) = true then some (zrw c (v).toNatClampNeg) else none)) ∧ va_P D vwCl (uw cA U rg c z rz hd ct rs dt mf mn tc tl to kd fi se ta nu lc ln sv er) H) ∨ (k9 = 1 ∧ (if b = true then nthV (fhF (zK c) (zcn c)) (zcn c) v else (if isIx v (zrl c) = true then some (zrw c (v).toNatClampNeg) else none)) = none ∧ va_P D vwCl (uw cA U rg c z rz hd ct rs dt mf mn tc tl to kd fi se ta nu lc ln sv er) H))) (uO U o)) 1 6 (uO U o) := by
  refine gOfh (by decide) (Nat.le_of_ble_eq_true rfl) ?_
  intro p e s m below meth c9 ls hx hb hml hr hlk hown hts hte hB hK hE hN hl
  obtain ⟨hP, hO⟩ := hB
  have hl : lv_has ls 5 [(0, .ref (U 0)), (1, .int (v)), (2, .int (b2i (b))), (3, .ref (o))] := hl
  have hS : va_S (uO U o) s.heap s.heap [] := va_S.rf
  refine lv_aload_n hx hb dL_roll_0 rfl (lv_at hl 3 rfl) ?_
  refine lv_iconst (v := nI 0) hx hb dL_roll_1 gc_0 ?_
  refine lv_aload_n hx hb dL_roll_2 rfl (lv_at hl 0 rfl) ?_
  refine lv_iload_n hx hb dL_roll_3 rfl (lv_at hl 1 rfl) ?_
  refine lv_iload_n hx hb dL_roll_4 rfl (lv_at hl 2 rfl) ?_
  refine gx_calli (vx_runV (As := [.int (v), .int (b2i (b))]) (rest := [.int (nI 0), .ref o]) ⟨hx, hb, hml, hown, hts⟩ (c_X7_roll l hlt D cA AE adK adV sa U rg c z rz hd ct rs dt mf mn tc tl to kd fi se ta nu lc ln sv er v b hA hFA hz ) (cwV 2 hts (gWVL gm_30_17 gm_30_18 gm_30_19 gm_1_2 gm_30_20) rfl rfl rfl (by decide +kernel) ⟨Nat.le_of_ble_eq_true rfl, Nat.le_of_ble_eq_true rfl⟩) (gPreVx hK hE hS hFO (g_rf hK hP (ci := 9) (q0 := 0) rfl rfl) hP) rfl rfl hl.1 rfl (lv_room (Nat.le_of_ble_eq_true rfl)) dL_roll_5 ⟨Nat.le_of_ble_eq_true rfl, Nat.le_of_ble_eq_true rfl⟩) hS (fun q _ h => Or.inl h) (fun q h => Or.inl h) (fun q _ h => Or.inl h) (fun E9 ce q9 H locs hp hz9 hk9 hS hce hcv hcl => ?_) (fun r H locs hp hz9 hk9 hS => ?_)
  · obtain ⟨rfl, ht⟩ := hp
    have hO := vP_fr hO hk9 (oL_n hoU)
    refine vx_catch hown [] (⟨0, 10, 13, 55⟩ : ExceptionTableEntry) [] hte (fun z hz => absurd hz List.not_mem_nil) (by decide +kernel) (by decide) (hts _ (List.mem_cons_of_mem _ gm_28_17)) (wOk_use rfl (hE.1 _ cast_NSE rfl)) hce hcv hcl ?_
    refine lv_astore (lv' := [(4, .ref (q9)), (0, .ref (U 0)), (1, .int (v)), (2, .int (b2i (b))), (3, .ref (o))]) hx hb dL_roll_13 hl (by decide) rfl (fun ls hl => ?_)
    refine lv_iconst (v := nI 1) hx hb dL_roll_15 gc_1 ?_
    exact g_iretW (v := nI 1) hx hb hr hlk hS dL_roll_16 ⟨1, 0, _, rfl, by decide, fun q => absurd q (by decide), hO, (Or.inr ⟨rfl, ht⟩)⟩
  · obtain ⟨h1, h2, hP⟩ := hp
    have hO := vP_fr hO hk9 (oL_n hoU)
    refine lv_i2l (v := r.toInt64) hx hb dL_roll_8 rfl ?_
    refine g_last hx hb hK hO hS (Or.inr rfl) dL_roll_9 (fun H1 locs1 hO1 hsz hoq hS => ?_)
    have hP := vP_fr (A := fun q => q = o) hP (fun q _ h => hoq q h) (uw_n (A := fun q => q = o) hA (fun q h e9 => hoU (e9 ▸ h)))
    refine lv_goto (tgt := 17) hx hb dL_roll_10 (by decide) ?_
    refine lv_iconst (v := nI 0) hx hb dL_roll_17 gc_0 ?_
    exact g_iretW (v := nI 0) hx hb hr hlk hS dL_roll_18 ⟨0, r, _, rfl, by decide, fun _ => upL0, hO1, Or.inl ⟨rfl, h1, h2, hP⟩⟩

set_option maxHeartbeats 1000000 in
set_option maxRecDepth 100000 in
theorem c_L_wouldTake (l : Launch) (hlt : l.stackTraces = false) (D : va_G) (cA : Nat → ClassId) (AE : Nat → Prop) (adK adV sa : Nat → Nat) (U : Nat → Nat) (rg : Nat → Option Nat) (c z : CS) (rz : Nat → CS) (hd ct : Nat) (rs dt : Int32) (mf : Nat → Nat → Int32) (mn : Nat) (tc : Nat → Nat) (tl to : Nat) (kd fi se : Int32) (ta : Nat) (nu : Int32) (lc : Nat → Int32) (ln : Nat) (sv : Bool) (er : Int32) (v : Int32) (o : Nat) (g : Nat → Int64) (hA : aInj 189 U) (hFA : ∀ q, aS 189 U q → AE q) (hoU : ¬ aS 189 U o) (hFO : ∀ q, uO U o q → AE q) (hz : zOk c)  : Met l yL_wouldTake (gwL yL_wouldTake cL_wouldTake 4 (some .int) [(0, 9, 12, 24), (0, 9, 15, 55)]) ({ frames := 7, cells := 1, slots := 6, locals := 104 } : Room) (gPy [.ref (U 0), .int (v), .ref (o)] (fun H => va_P D vwCl (uw cA U rg c z rz hd ct rs dt mf mn tc tl to kd fi se ta nu lc ln sv er) H ∧ va_P D vwCl (oL cA o g) H) D cA AE adK adV sa) (wrI (fun r H => ∃ (k9 : Nat) (rr : Int32) (g9 : Nat → Int64), r = nI k9 ∧ k9 ≤ 2 ∧ (k9 = 0 → g9 0 = rr.toInt64) ∧ va_P D vwCl (oL cA o g9) H ∧ ((k9 = 0 ∧ ∃ q : Nat, q < zcn c ∧ v = nI q ∧ ¬ tkN (zK c) (zrw c) (zrl c) (zck c) (ztn c) q = -1 ∧ rr = tkN (zK c) (zrw c) (zrl c) (zck c) (ztn c) q ∧ va_P D vwCl (uw cA U rg c z rz hd ct rs dt mf mn tc tl to kd fi se ta nu lc ln sv er) H) ∨ (k9 = 1 ∧ isIx v (zcn c) = false ∧ va_P D vwCl (uw cA U rg c z rz hd ct rs dt mf mn tc tl to kd fi se ta nu lc ln sv er) H) ∨ (k9 = 2 ∧ ∃ q : Nat, q < zcn c ∧ v = nI q ∧ tkN (zK c) (zrw c) (zrl c) (zck c) (ztn c) q = -1 ∧ va_P D vwCl (uw cA U rg c z rz hd ct rs dt mf mn tc tl to kd fi se ta nu lc ln sv er) H))) (uO U o)) 1 6 (uO U o) := by
  refine gOfh (by decide) (Nat.le_of_ble_eq_true rfl) ?_
  intro p e s m below meth c9 ls hx hb hml hr hlk hown hts hte hB hK hE hN hl
  obtain ⟨hP, hO⟩ := hB
  have hl : lv_has ls 4 [(0, .ref (U 0)), (1, .int (v)), (2, .ref (o))] := hl
  have hS : va_S (uO U o) s.heap s.heap [] := va_S.rf
  refine lv_aload_n hx hb dL_wouldTake_0 rfl (lv_at hl 2 rfl) ?_
  refine lv_iconst (v := nI 0) hx hb dL_wouldTake_1 gc_0 ?_
  refine lv_aload_n hx hb dL_wouldTake_2 rfl (lv_at hl 0 rfl) ?_
  refine lv_iload_n hx hb dL_wouldTake_3 rfl (lv_at hl 1 rfl) ?_
  refine gx_calli (vx_runV (As := [.int (v)]) (rest := [.int (nI 0), .ref o]) ⟨hx, hb, hml, hown, hts⟩ (c_X7_wouldTake l hlt D cA AE adK adV sa U rg c z rz hd ct rs dt mf mn tc tl to kd fi se ta nu lc ln sv er v hA hFA hz ) (cwV 1 hts (gWVL gm_32_7 gm_32_8 gm_32_9 gm_1_2 gm_32_10) rfl rfl rfl (by decide +kernel) ⟨Nat.le_of_ble_eq_true rfl, Nat.le_of_ble_eq_true rfl⟩) (gPreVx hK hE hS hFO (g_rf hK hP (ci := 9) (q0 := 0) rfl rfl) hP) rfl rfl hl.1 rfl (lv_room (Nat.le_of_ble_eq_true rfl)) dL_wouldTake_4 ⟨Nat.le_of_ble_eq_true rfl, Nat.le_of_ble_eq_true rfl⟩) hS (fun q _ h => Or.inl h) (fun q h => Or.inl h) (fun q _ h => Or.inl h) (fun E9 ce q9 H locs hp hz9 hk9 hS hce hcv hcl => ?_) (fun r H locs hp hz9 hk9 hS => ?_)
  · rcases hp with ⟨rfl, ht⟩ | ⟨rfl, ht⟩
    · have hO := vP_fr hO hk9 (oL_n hoU)
      refine vx_catch hown [] (⟨0, 9, 12, 24⟩ : ExceptionTableEntry) [(⟨0, 9, 15, 55⟩ : ExceptionTableEntry)] hte (fun z hz => absurd hz List.not_mem_nil) (by decide +kernel) (by decide) (hts _ (List.mem_cons_of_mem _ gm_11_8)) (wOk_use rfl (hE.1 _ cast_IOB rfl)) hce hcv hcl ?_
      refine lv_astore_n (lv' := [(3, .ref (q9)), (0, .ref (U 0)), (1, .int (v)), (2, .ref (o))]) hx hb dL_wouldTake_12 rfl hl (by decide) rfl (fun ls hl => ?_)
      refine lv_iconst (v := nI 1) hx hb dL_wouldTake_13 gc_1 ?_
      exact g_iretW (v := nI 1) hx hb hr hlk hS dL_wouldTake_14 ⟨1, 0, _, rfl, by decide, fun q => absurd q (by decide), hO, (Or.inr (Or.inl ⟨rfl, ht⟩))⟩
    · have hO := vP_fr hO hk9 (oL_n hoU)
      refine vx_catch hown [(⟨0, 9, 12, 24⟩ : ExceptionTableEntry)] (⟨0, 9, 15, 55⟩ : ExceptionTableEntry) [] hte (fun z hz => by rw [List.mem_singleton] at hz; subst hz; exact Or.inr ⟨by decide, xIOB, (hts _ (List.mem_cons_of_mem _ gm_11_8)), hN (xNSE, xIOB) (by decide +kernel)⟩) (by decide +kernel) (by decide) (hts _ (List.mem_cons_of_mem _ gm_28_17)) (wOk_use rfl (hE.1 _ cast_NSE rfl)) hce hcv hcl ?_
      refine lv_astore_n (lv' := [(3, .ref (q9)), (0, .ref (U 0)), (1, .int (v)), (2, .ref (o))]) hx hb dL_wouldTake_15 rfl hl (by decide) rfl (fun ls hl => ?_)
      refine lv_iconst (v := nI 2) hx hb dL_wouldTake_16 gc_2 ?_
      exact g_iretW (v := nI 2) hx hb hr hlk hS dL_wouldTake_17 ⟨2, 0, _, rfl, by decide, fun q => absurd q (by decide), hO, (Or.inr (Or.inr ⟨rfl, ht⟩))⟩
  · obtain ⟨q_9, h1, h2, h3, h4, hP⟩ := hp
    have hO := vP_fr hO hk9 (oL_n hoU)
    refine lv_i2l (v := r.toInt64) hx hb dL_wouldTake_7 rfl ?_
    refine g_last hx hb hK hO hS (Or.inr rfl) dL_wouldTake_8 (fun H1 locs1 hO1 hsz hoq hS => ?_)
    have hP := vP_fr (A := fun q => q = o) hP (fun q _ h => hoq q h) (uw_n (A := fun q => q = o) hA (fun q h e9 => hoU (e9 ▸ h)))
    refine lv_goto (tgt := 18) hx hb dL_wouldTake_9 (by decide) ?_
    refine lv_iconst (v := nI 0) hx hb dL_wouldTake_18 gc_0 ?_
    exact g_iretW (v := nI 0) hx hb hr hlk hS dL_wouldTake_19 ⟨0, r, _, rfl, by decide, fun _ => upL0, hO1, Or.inl ⟨rfl, q_9, h1, h2, h3, h4, hP⟩⟩

set_option maxHeartbeats 1000000 in
set_option maxRecDepth 100000 in
theorem c_L_termFrom (l : Launch) (hlt : l.stackTraces = false) (D : va_G) (cA : Nat → ClassId) (AE : Nat → Prop) (adK adV sa : Nat → Nat) (U : Nat → Nat) (rg : Nat → Option Nat) (c z : CS) (rz : Nat → CS) (hd ct : Nat) (rs dt : Int32) (mf : Nat → Nat → Int32) (mn : Nat) (tc : Nat → Nat) (tl to : Nat) (kd fi se : Int32) (ta : Nat) (nu : Int32) (lc : Nat → Int32) (ln : Nat) (sv : Bool) (er : Int32) (v : Int32) (o : Nat) (g : Nat → Int64) (hA : aInj 189 U) (hFA : ∀ q, aS 189 U q → AE q) (hoU : ¬ aS 189 U o) (hFO : ∀ q, uO U o q → AE q) (hz : zOk c)  : Met l yL_termFrom (gwL yL_termFrom cL_termFrom 4 (some .int) [(0, 9, 12, 13), (0, 9, 15, 55)]) ({ frames := 7, cells := 1, slots := 6, locals := 104 } : Room) (gPy [.ref (U 0), .int (v), .ref (o)] (fun H => va_P D vwCl (uw cA U rg c z rz hd ct rs dt mf mn tc tl to kd fi se ta nu lc ln sv er) H ∧ va_P D vwCl (oL cA o g) H) D cA AE adK adV sa) (wrI (fun r H => ∃ (k9 : Nat) (rr : Int32) (g9 : Nat → Int64), r = nI k9 ∧ k9 ≤ 2 ∧ (k9 = 0 → g9 0 = rr.toInt64) ∧ va_P D vwCl (oL cA o g9) H ∧ ((k9 = 0 ∧ inB v (nI 0) (nI 99) = true ∧ ¬ rtF (zK c) (zrw c) (zrl c) v = -1 ∧ rr = rtF (zK c) (zrw c) (zrl c) v ∧ va_P D vwCl (uw cA U rg c z rz hd ct rs dt mf mn tc tl to kd fi se ta nu lc ln sv er) H) ∨ (k9 = 1 ∧ inB v (nI 0) (nI 99) = false ∧ va_P D vwCl (uw cA U rg c z rz hd ct rs dt mf mn tc tl to kd fi se ta nu lc ln sv er) H) ∨ (k9 = 2 ∧ inB v (nI 0) (nI 99) = true ∧ rtF (zK c) (zrw c) (zrl c) v = -1 ∧ va_P D vwCl (uw cA U rg c z rz hd ct rs dt mf mn tc tl to kd fi se ta nu lc ln sv er) H))) (uO U o)) 1 6 (uO U o) := by
  refine gOfh (by decide) (Nat.le_of_ble_eq_true rfl) ?_
  intro p e s m below meth c9 ls hx hb hml hr hlk hown hts hte hB hK hE hN hl
  obtain ⟨hP, hO⟩ := hB
  have hl : lv_has ls 4 [(0, .ref (U 0)), (1, .int (v)), (2, .ref (o))] := hl
  have hS : va_S (uO U o) s.heap s.heap [] := va_S.rf
  refine lv_aload_n hx hb dL_termFrom_0 rfl (lv_at hl 2 rfl) ?_
  refine lv_iconst (v := nI 0) hx hb dL_termFrom_1 gc_0 ?_
  refine lv_aload_n hx hb dL_termFrom_2 rfl (lv_at hl 0 rfl) ?_
  refine lv_iload_n hx hb dL_termFrom_3 rfl (lv_at hl 1 rfl) ?_
  refine gx_calli (vx_runV (As := [.int (v)]) (rest := [.int (nI 0), .ref o]) ⟨hx, hb, hml, hown, hts⟩ (c_X7_termFrom l hlt D cA AE adK adV sa U rg c z rz hd ct rs dt mf mn tc tl to kd fi se ta nu lc ln sv er v hA hFA hz ) (cwV 1 hts (gWVL gm_33_12 gm_33_13 gm_33_14 gm_1_2 gm_33_15) rfl rfl rfl (by decide +kernel) ⟨Nat.le_of_ble_eq_true rfl, Nat.le_of_ble_eq_true rfl⟩) (gPreVx hK hE hS hFO (g_rf hK hP (ci := 9) (q0 := 0) rfl rfl) hP) rfl rfl hl.1 rfl (lv_room (Nat.le_of_ble_eq_true rfl)) dL_termFrom_4 ⟨Nat.le_of_ble_eq_true rfl, Nat.le_of_ble_eq_true rfl⟩) hS (fun q _ h => Or.inl h) (fun q h => Or.inl h) (fun q _ h => Or.inl h) (fun E9 ce q9 H locs hp hz9 hk9 hS hce hcv hcl => ?_) (fun r H locs hp hz9 hk9 hS => ?_)
  · rcases hp with ⟨rfl, ht⟩ | ⟨rfl, ht⟩
    · have hO := vP_fr hO hk9 (oL_n hoU)
      refine vx_catch hown [] (⟨0, 9, 12, 13⟩ : ExceptionTableEntry) [(⟨0, 9, 15, 55⟩ : ExceptionTableEntry)] hte (fun z hz => absurd hz List.not_mem_nil) (by decide +kernel) (by decide) (hts _ (List.mem_cons_of_mem _ gm_6_4)) (wOk_use rfl (hE.1 _ cast_IAE rfl)) hce hcv hcl ?_
      refine lv_astore_n (lv' := [(3, .ref (q9)), (0, .ref (U 0)), (1, .int (v)), (2, .ref (o))]) hx hb dL_termFrom_12 rfl hl (by decide) rfl (fun ls hl => ?_)
      refine lv_iconst (v := nI 1) hx hb dL_termFrom_13 gc_1 ?_
      exact g_iretW (v := nI 1) hx hb hr hlk hS dL_termFrom_14 ⟨1, 0, _, rfl, by decide, fun q => absurd q (by decide), hO, (Or.inr (Or.inl ⟨rfl, ht⟩))⟩
    · have hO := vP_fr hO hk9 (oL_n hoU)
      refine vx_catch hown [(⟨0, 9, 12, 13⟩ : ExceptionTableEntry)] (⟨0, 9, 15, 55⟩ : ExceptionTableEntry) [] hte (fun z hz => by rw [List.mem_singleton] at hz; subst hz; exact Or.inr ⟨by decide, xIAE, (hts _ (List.mem_cons_of_mem _ gm_6_4)), hN (xNSE, xIAE) (by decide +kernel)⟩) (by decide +kernel) (by decide) (hts _ (List.mem_cons_of_mem _ gm_28_17)) (wOk_use rfl (hE.1 _ cast_NSE rfl)) hce hcv hcl ?_
      refine lv_astore_n (lv' := [(3, .ref (q9)), (0, .ref (U 0)), (1, .int (v)), (2, .ref (o))]) hx hb dL_termFrom_15 rfl hl (by decide) rfl (fun ls hl => ?_)
      refine lv_iconst (v := nI 2) hx hb dL_termFrom_16 gc_2 ?_
      exact g_iretW (v := nI 2) hx hb hr hlk hS dL_termFrom_17 ⟨2, 0, _, rfl, by decide, fun q => absurd q (by decide), hO, (Or.inr (Or.inr ⟨rfl, ht⟩))⟩
  · obtain ⟨h1, h2, h3, hP⟩ := hp
    have hO := vP_fr hO hk9 (oL_n hoU)
    refine lv_i2l (v := r.toInt64) hx hb dL_termFrom_7 rfl ?_
    refine g_last hx hb hK hO hS (Or.inr rfl) dL_termFrom_8 (fun H1 locs1 hO1 hsz hoq hS => ?_)
    have hP := vP_fr (A := fun q => q = o) hP (fun q _ h => hoq q h) (uw_n (A := fun q => q = o) hA (fun q h e9 => hoU (e9 ▸ h)))
    refine lv_goto (tgt := 18) hx hb dL_termFrom_9 (by decide) ?_
    refine lv_iconst (v := nI 0) hx hb dL_termFrom_18 gc_0 ?_
    exact g_iretW (v := nI 0) hx hb hr hlk hS dL_termFrom_19 ⟨0, r, _, rfl, by decide, fun _ => upL0, hO1, Or.inl ⟨rfl, h1, h2, h3, hP⟩⟩

set_option maxHeartbeats 1000000 in
set_option maxRecDepth 100000 in
theorem c_L_finalIn (l : Launch) (hlt : l.stackTraces = false) (D : va_G) (cA : Nat → ClassId) (AE : Nat → Prop) (adK adV sa : Nat → Nat) (U : Nat → Nat) (rg : Nat → Option Nat) (c z : CS) (rz : Nat → CS) (hd ct : Nat) (rs dt : Int32) (mf : Nat → Nat → Int32) (mn : Nat) (tc : Nat → Nat) (tl to : Nat) (kd fi se : Int32) (ta : Nat) (nu : Int32) (lc : Nat → Int32) (ln : Nat) (sv : Bool) (er : Int32) (v : Int32) (o : Nat) (g : Nat → Int64) (hA : aInj 189 U) (hFA : ∀ q, aS 189 U q → AE q) (hoU : ¬ aS 189 U o) (hFO : ∀ q, uO U o q → AE q) (hz : zOk c)  : Met l yL_finalIn (gwL yL_finalIn cL_finalIn 4 (some .int) [(0, 9, 12, 24), (0, 9, 15, 55)]) ({ frames := 7, cells := 1, slots := 6, locals := 104 } : Room) (gPy [.ref (U 0), .int (v), .ref (o)] (fun H => va_P D vwCl (uw cA U rg c z rz hd ct rs dt mf mn tc tl to kd fi se ta nu lc ln sv er) H ∧ va_P D vwCl (oL cA o g) H) D cA AE adK adV sa) (wrI (fun r H => ∃ (k9 : Nat) (rr : Int32) (g9 : Nat → Int64), r = nI k9 ∧ k9 ≤ 2 ∧ (k9 = 0 → g9 0 = rr.toInt64) ∧ va_P D vwCl (oL cA o g9) H ∧ ((k9 = 0 ∧ ∃ q : Nat, q < zcn c ∧ v = nI q ∧ hvF (zK c) q = true ∧ rr = (if clF (zK c) q = true then zK c 5 q else zK c 4 q + nI 4) ∧ va_P D vwCl (uw cA U rg c z rz hd ct rs dt mf mn tc tl to kd fi se ta nu lc ln sv er) H) ∨ (k9 = 1 ∧ isIx v (zcn c) = false ∧ va_P D vwCl (uw cA U rg c z rz hd ct rs dt mf mn tc tl to kd fi se ta nu lc ln sv er) H) ∨ (k9 = 2 ∧ ∃ q : Nat, q < zcn c ∧ v = nI q ∧ hvF (zK c) q = false ∧ va_P D vwCl (uw cA U rg c z rz hd ct rs dt mf mn tc tl to kd fi se ta nu lc ln sv er) H))) (uO U o)) 1 6 (uO U o) := by
  refine gOfh (by decide) (Nat.le_of_ble_eq_true rfl) ?_
  intro p e s m below meth c9 ls hx hb hml hr hlk hown hts hte hB hK hE hN hl
  obtain ⟨hP, hO⟩ := hB
  have hl : lv_has ls 4 [(0, .ref (U 0)), (1, .int (v)), (2, .ref (o))] := hl
  have hS : va_S (uO U o) s.heap s.heap [] := va_S.rf
  refine lv_aload_n hx hb dL_finalIn_0 rfl (lv_at hl 2 rfl) ?_
  refine lv_iconst (v := nI 0) hx hb dL_finalIn_1 gc_0 ?_
  refine lv_aload_n hx hb dL_finalIn_2 rfl (lv_at hl 0 rfl) ?_
  refine lv_iload_n hx hb dL_finalIn_3 rfl (lv_at hl 1 rfl) ?_
  refine gx_calli (vx_runV (As := [.int (v)]) (rest := [.int (nI 0), .ref o]) ⟨hx, hb, hml, hown, hts⟩ (c_X7_finalIn l hlt D cA AE adK adV sa U rg c z rz hd ct rs dt mf mn tc tl to kd fi se ta nu lc ln sv er v hA hFA hz ) (cwV 1 hts (gWVL gm_34_3 gm_34_4 gm_34_5 gm_1_2 gm_34_6) rfl rfl rfl (by decide +kernel) ⟨Nat.le_of_ble_eq_true rfl, Nat.le_of_ble_eq_true rfl⟩) (gPreVx hK hE hS hFO (g_rf hK hP (ci := 9) (q0 := 0) rfl rfl) hP) rfl rfl hl.1 rfl (lv_room (Nat.le_of_ble_eq_true rfl)) dL_finalIn_4 ⟨Nat.le_of_ble_eq_true rfl, Nat.le_of_ble_eq_true rfl⟩) hS (fun q _ h => Or.inl h) (fun q h => Or.inl h) (fun q _ h => Or.inl h) (fun E9 ce q9 H locs hp hz9 hk9 hS hce hcv hcl => ?_) (fun r H locs hp hz9 hk9 hS => ?_)
  · rcases hp with ⟨rfl, ht⟩ | ⟨rfl, ht⟩
    · have hO := vP_fr hO hk9 (oL_n hoU)
      refine vx_catch hown [] (⟨0, 9, 12, 24⟩ : ExceptionTableEntry) [(⟨0, 9, 15, 55⟩ : ExceptionTableEntry)] hte (fun z hz => absurd hz List.not_mem_nil) (by decide +kernel) (by decide) (hts _ (List.mem_cons_of_mem _ gm_11_8)) (wOk_use rfl (hE.1 _ cast_IOB rfl)) hce hcv hcl ?_
      refine lv_astore_n (lv' := [(3, .ref (q9)), (0, .ref (U 0)), (1, .int (v)), (2, .ref (o))]) hx hb dL_finalIn_12 rfl hl (by decide) rfl (fun ls hl => ?_)
      refine lv_iconst (v := nI 1) hx hb dL_finalIn_13 gc_1 ?_
      exact g_iretW (v := nI 1) hx hb hr hlk hS dL_finalIn_14 ⟨1, 0, _, rfl, by decide, fun q => absurd q (by decide), hO, (Or.inr (Or.inl ⟨rfl, ht⟩))⟩
    · have hO := vP_fr hO hk9 (oL_n hoU)
      refine vx_catch hown [(⟨0, 9, 12, 24⟩ : ExceptionTableEntry)] (⟨0, 9, 15, 55⟩ : ExceptionTableEntry) [] hte (fun z hz => by rw [List.mem_singleton] at hz; subst hz; exact Or.inr ⟨by decide, xIOB, (hts _ (List.mem_cons_of_mem _ gm_11_8)), hN (xNSE, xIOB) (by decide +kernel)⟩) (by decide +kernel) (by decide) (hts _ (List.mem_cons_of_mem _ gm_28_17)) (wOk_use rfl (hE.1 _ cast_NSE rfl)) hce hcv hcl ?_
      refine lv_astore_n (lv' := [(3, .ref (q9)), (0, .ref (U 0)), (1, .int (v)), (2, .ref (o))]) hx hb dL_finalIn_15 rfl hl (by decide) rfl (fun ls hl => ?_)
      refine lv_iconst (v := nI 2) hx hb dL_finalIn_16 gc_2 ?_
      exact g_iretW (v := nI 2) hx hb hr hlk hS dL_finalIn_17 ⟨2, 0, _, rfl, by decide, fun q => absurd q (by decide), hO, (Or.inr (Or.inr ⟨rfl, ht⟩))⟩
  · obtain ⟨q_9, h1, h2, h3, h4, hP⟩ := hp
    have hO := vP_fr hO hk9 (oL_n hoU)
    refine lv_i2l (v := r.toInt64) hx hb dL_finalIn_7 rfl ?_
    refine g_last hx hb hK hO hS (Or.inr rfl) dL_finalIn_8 (fun H1 locs1 hO1 hsz hoq hS => ?_)
    have hP := vP_fr (A := fun q => q = o) hP (fun q _ h => hoq q h) (uw_n (A := fun q => q = o) hA (fun q h e9 => hoU (e9 ▸ h)))
    refine lv_goto (tgt := 18) hx hb dL_finalIn_9 (by decide) ?_
    refine lv_iconst (v := nI 0) hx hb dL_finalIn_18 gc_0 ?_
    exact g_iretW (v := nI 0) hx hb hr hlk hS dL_finalIn_19 ⟨0, r, _, rfl, by decide, fun _ => upL0, hO1, Or.inl ⟨rfl, q_9, h1, h2, h3, h4, hP⟩⟩

set_option maxHeartbeats 1000000 in
set_option maxRecDepth 100000 in
theorem c_L_doubtful (l : Launch) (hlt : l.stackTraces = false) (D : va_G) (cA : Nat → ClassId) (AE : Nat → Prop) (adK adV sa : Nat → Nat) (U : Nat → Nat) (rg : Nat → Option Nat) (c z : CS) (rz : Nat → CS) (hd ct : Nat) (rs dt : Int32) (mf : Nat → Nat → Int32) (mn : Nat) (tc : Nat → Nat) (tl to : Nat) (kd fi se : Int32) (ta : Nat) (nu : Int32) (lc : Nat → Int32) (ln : Nat) (sv : Bool) (er : Int32) (v : Int32) (o : Nat) (g : Nat → Int64) (hA : aInj 189 U) (hFA : ∀ q, aS 189 U q → AE q) (hoU : ¬ aS 189 U o) (hFO : ∀ q, uO U o q → AE q) (hz : zOk c)  : Met l yL_doubtful (gwL yL_doubtful cL_doubtful 4 (some .int) [(0, 9, 12, 55)]) ({ frames := 7, cells := 1, slots := 6, locals := 104 } : Room) (gPy [.ref (U 0), .int (v), .ref (o)] (fun H => va_P D vwCl (uw cA U rg c z rz hd ct rs dt mf mn tc tl to kd fi se ta nu lc ln sv er) H ∧ va_P D vwCl (oL cA o g) H) D cA AE adK adV sa) (wrI (fun r H => ∃ (k9 : Nat) (rr : Int32) (g9 : Nat → Int64), r = nI k9 ∧ k9 ≤ 2 ∧ (k9 = 0 → g9 0 = rr.toInt64) ∧ va_P D vwCl (oL cA o g9) H ∧ ((k9 = 0 ∧ ¬ nthV (fdF (zJ c 0) (zJ c 1) (zjn c)) (zjn c) v = none ∧ rr = oI (nthV (fdF (zJ c 0) (zJ c 1) (zjn c)) (zjn c) v) ∧ va_P D vwCl (uw cA U rg c z rz hd ct rs dt mf mn tc tl to kd fi se ta nu lc ln sv er) H) ∨ (k9 = 1 ∧ nthV (fdF (zJ c 0) (zJ c 1) (zjn c)) (zjn c) v = none ∧ va_P D vwCl (uw cA U rg c z rz hd ct rs dt mf mn tc tl to kd fi se ta nu lc ln sv er) H))) (uO U o)) 1 6 (uO U o) := by
  refine gOfh (by decide) (Nat.le_of_ble_eq_true rfl) ?_
  intro p e s m below meth c9 ls hx hb hml hr hlk hown hts hte hB hK hE hN hl
  obtain ⟨hP, hO⟩ := hB
  have hl : lv_has ls 4 [(0, .ref (U 0)), (1, .int (v)), (2, .ref (o))] := hl
  have hS : va_S (uO U o) s.heap s.heap [] := va_S.rf
  refine lv_aload_n hx hb dL_doubtful_0 rfl (lv_at hl 2 rfl) ?_
  refine lv_iconst (v := nI 0) hx hb dL_doubtful_1 gc_0 ?_
  refine lv_aload_n hx hb dL_doubtful_2 rfl (lv_at hl 0 rfl) ?_
  refine lv_iload_n hx hb dL_doubtful_3 rfl (lv_at hl 1 rfl) ?_
  refine gx_calli (vx_runV (As := [.int (v)]) (rest := [.int (nI 0), .ref o]) ⟨hx, hb, hml, hown, hts⟩ (c_X7_doubtful l hlt D cA AE adK adV sa U rg c z rz hd ct rs dt mf mn tc tl to kd fi se ta nu lc ln sv er v hA hFA hz ) (cwV 1 hts (gWVL gm_34_16 gm_34_17 gm_34_18 gm_1_2 gm_34_19) rfl rfl rfl (by decide +kernel) ⟨Nat.le_of_ble_eq_true rfl, Nat.le_of_ble_eq_true rfl⟩) (gPreVx hK hE hS hFO (g_rf hK hP (ci := 9) (q0 := 0) rfl rfl) hP) rfl rfl hl.1 rfl (lv_room (Nat.le_of_ble_eq_true rfl)) dL_doubtful_4 ⟨Nat.le_of_ble_eq_true rfl, Nat.le_of_ble_eq_true rfl⟩) hS (fun q _ h => Or.inl h) (fun q h => Or.inl h) (fun q _ h => Or.inl h) (fun E9 ce q9 H locs hp hz9 hk9 hS hce hcv hcl => ?_) (fun r H locs hp hz9 hk9 hS => ?_)
  · obtain ⟨rfl, ht⟩ := hp
    have hO := vP_fr hO hk9 (oL_n hoU)
    refine vx_catch hown [] (⟨0, 9, 12, 55⟩ : ExceptionTableEntry) [] hte (fun z hz => absurd hz List.not_mem_nil) (by decide +kernel) (by decide) (hts _ (List.mem_cons_of_mem _ gm_28_17)) (wOk_use rfl (hE.1 _ cast_NSE rfl)) hce hcv hcl ?_
    refine lv_astore_n (lv' := [(3, .ref (q9)), (0, .ref (U 0)), (1, .int (v)), (2, .ref (o))]) hx hb dL_doubtful_12 rfl hl (by decide) rfl (fun ls hl => ?_)
    refine lv_iconst (v := nI 1) hx hb dL_doubtful_13 gc_1 ?_
    exact g_iretW (v := nI 1) hx hb hr hlk hS dL_doubtful_14 ⟨1, 0, _, rfl, by decide, fun q => absurd q (by decide), hO, (Or.inr ⟨rfl, ht⟩)⟩
  · obtain ⟨h1, h2, hP⟩ := hp
    have hO := vP_fr hO hk9 (oL_n hoU)
    refine lv_i2l (v := r.toInt64) hx hb dL_doubtful_7 rfl ?_
    refine g_last hx hb hK hO hS (Or.inr rfl) dL_doubtful_8 (fun H1 locs1 hO1 hsz hoq hS => ?_)
    have hP := vP_fr (A := fun q => q = o) hP (fun q _ h => hoq q h) (uw_n (A := fun q => q = o) hA (fun q h e9 => hoU (e9 ▸ h)))
    refine lv_goto (tgt := 15) hx hb dL_doubtful_9 (by decide) ?_
    refine lv_iconst (v := nI 0) hx hb dL_doubtful_15 gc_0 ?_
    exact g_iretW (v := nI 0) hx hb hr hlk hS dL_doubtful_16 ⟨0, r, _, rfl, by decide, fun _ => upL0, hO1, Or.inl ⟨rfl, h1, h2, hP⟩⟩

set_option maxHeartbeats 1000000 in
set_option maxRecDepth 100000 in
theorem c_L_line (l : Launch) (hlt : l.stackTraces = false) (D : va_G) (cA : Nat → ClassId) (AE : Nat → Prop) (adK adV sa : Nat → Nat) (U : Nat → Nat) (rg : Nat → Option Nat) (c z : CS) (rz : Nat → CS) (hd ct : Nat) (rs dt : Int32) (mf : Nat → Nat → Int32) (mn : Nat) (tc : Nat → Nat) (tl to : Nat) (kd fi se : Int32) (ta : Nat) (nu : Int32) (lc : Nat → Int32) (ln : Nat) (sv : Bool) (er : Int32) (v : Int32) (o : Nat) (g : Nat → Int64) (hA : aInj 189 U) (hFA : ∀ q, aS 189 U q → AE q) (hoU : ¬ aS 189 U o) (hFO : ∀ q, uO U o q → AE q) (hz : zOk c) (hml8 : ∀ q, q < zcn c → ∃ mer ter : Nat, mer ≤ 100 ∧ ter ≤ 99 ∧ zK c 0 q = nI mer ∧ zK c 1 q = nI ter ∧ (zK c 3 q ≤ 0 → zK c 3 q = 0)) : Met l yL_line (gwL yL_line cL_line 4 (some .int) [(0, 9, 12, 24)]) ({ frames := 7, cells := 1, slots := 6, locals := 108 } : Room) (gPy [.ref (U 0), .int (v), .ref (o)] (fun H => va_P D vwCl (uw cA U rg c z rz hd ct rs dt mf mn tc tl to kd fi se ta nu lc ln sv er) H ∧ va_P D vwCl (oL cA o g) H) D cA AE adK adV sa) (wrI (fun r H => ∃ (k9 : Nat) (rr : Int32) (g9 : Nat → Int64), r = nI k9 ∧ k9 ≤ 2 ∧ (k9 = 0 → g9 0 = rr.toInt64) ∧ va_P D vwCl (oL cA o g9) H ∧ ((k9 = 0 ∧ ∃ q mer ter : Nat, q < zcn c ∧ v = nI q ∧ zK c 0 q = nI mer ∧ zK c 1 q = nI ter ∧ mer ≤ 100 ∧ ter ≤ 99 ∧ rr = nI (lnC (zK c) lc q mer ter).2 ∧ va_P D vwCl (uw cA U rg c z rz hd ct rs dt mf mn tc tl to kd fi se ta nu ((lnC (zK c) lc q mer ter).1) ((lnC (zK c) lc q mer ter).2) sv er) H) ∨ (k9 = 1 ∧ isIx v (zcn c) = false ∧ va_P D vwCl (uw cA U rg c z rz hd ct rs dt mf mn tc tl to kd fi se ta nu lc ln sv er) H))) (uO U o)) 1 6 (uO U o) := by
  refine gOfh (by decide) (Nat.le_of_ble_eq_true rfl) ?_
  intro p e s m below meth c9 ls hx hb hml hr hlk hown hts hte hB hK hE hN hl
  obtain ⟨hP, hO⟩ := hB
  have hl : lv_has ls 4 [(0, .ref (U 0)), (1, .int (v)), (2, .ref (o))] := hl
  have hS : va_S (uO U o) s.heap s.heap [] := va_S.rf
  refine lv_aload_n hx hb dL_line_0 rfl (lv_at hl 2 rfl) ?_
  refine lv_iconst (v := nI 0) hx hb dL_line_1 gc_0 ?_
  refine lv_aload_n hx hb dL_line_2 rfl (lv_at hl 0 rfl) ?_
  refine lv_iload_n hx hb dL_line_3 rfl (lv_at hl 1 rfl) ?_
  refine gx_calli (vx_runV (As := [.int (v)]) (rest := [.int (nI 0), .ref o]) ⟨hx, hb, hml, hown, hts⟩ (c_X7_line l hlt D cA AE adK adV sa U rg c z rz hd ct rs dt mf mn tc tl to kd fi se ta nu lc ln sv er v hA hFA hz hml8) (cwV 1 hts (gWVL gm_35_20 gm_35_21 gm_35_22 gm_1_2 gm_35_23) rfl rfl rfl (by decide +kernel) ⟨Nat.le_of_ble_eq_true rfl, Nat.le_of_ble_eq_true rfl⟩) (gPreVx hK hE hS hFO (g_rf hK hP (ci := 9) (q0 := 0) rfl rfl) hP) rfl rfl hl.1 rfl (lv_room (Nat.le_of_ble_eq_true rfl)) dL_line_4 ⟨Nat.le_of_ble_eq_true rfl, Nat.le_of_ble_eq_true rfl⟩) hS (fun q _ h => Or.inl h) (fun q h => Or.inl h) (fun q _ h => Or.inl h) (fun E9 ce q9 H locs hp hz9 hk9 hS hce hcv hcl => ?_) (fun r H locs hp hz9 hk9 hS => ?_)
  · obtain ⟨rfl, ht⟩ := hp
    have hO := vP_fr hO hk9 (oL_n hoU)
    refine vx_catch hown [] (⟨0, 9, 12, 24⟩ : ExceptionTableEntry) [] hte (fun z hz => absurd hz List.not_mem_nil) (by decide +kernel) (by decide) (hts _ (List.mem_cons_of_mem _ gm_11_8)) (wOk_use rfl (hE.1 _ cast_IOB rfl)) hce hcv hcl ?_
    refine lv_astore_n (lv' := [(3, .ref (q9)), (0, .ref (U 0)), (1, .int (v)), (2, .ref (o))]) hx hb dL_line_12 rfl hl (by decide) rfl (fun ls hl => ?_)
    refine lv_iconst (v := nI 1) hx hb dL_line_13 gc_1 ?_
    exact g_iretW (v := nI 1) hx hb hr hlk hS dL_line_14 ⟨1, 0, _, rfl, by decide, fun q => absurd q (by decide), hO, (Or.inr ⟨rfl, ht⟩)⟩
  · obtain ⟨q_9, mer_9, ter_9, h1, h2, h3, h4, h5, h6, h7, hP⟩ := hp
    have hO := vP_fr hO hk9 (oL_n hoU)
    refine lv_i2l (v := r.toInt64) hx hb dL_line_7 rfl ?_
    refine g_last hx hb hK hO hS (Or.inr rfl) dL_line_8 (fun H1 locs1 hO1 hsz hoq hS => ?_)
    have hP := vP_fr (A := fun q => q = o) hP (fun q _ h => hoq q h) (uw_n (A := fun q => q = o) hA (fun q h e9 => hoU (e9 ▸ h)))
    refine lv_goto (tgt := 15) hx hb dL_line_9 (by decide) ?_
    refine lv_iconst (v := nI 0) hx hb dL_line_15 gc_0 ?_
    exact g_iretW (v := nI 0) hx hb hr hlk hS dL_line_16 ⟨0, r, _, rfl, by decide, fun _ => upL0, hO1, Or.inl ⟨rfl, q_9, mer_9, ter_9, h1, h2, h3, h4, h5, h6, h7, hP⟩⟩

set_option maxHeartbeats 1000000 in
set_option maxRecDepth 100000 in
theorem c_L_character (l : Launch) (hlt : l.stackTraces = false) (D : va_G) (cA : Nat → ClassId) (AE : Nat → Prop) (adK adV sa : Nat → Nat) (U : Nat → Nat) (rg : Nat → Option Nat) (c z : CS) (rz : Nat → CS) (hd ct : Nat) (rs dt : Int32) (mf : Nat → Nat → Int32) (mn : Nat) (tc : Nat → Nat) (tl to : Nat) (kd fi se : Int32) (ta : Nat) (nu : Int32) (lc : Nat → Int32) (ln : Nat) (sv : Bool) (er : Int32) (v : Int32) (o : Nat) (g : Nat → Int64) (hA : aInj 189 U) (hFA : ∀ q, aS 189 U q → AE q) (hoU : ¬ aS 189 U o) (hFO : ∀ q, uO U o q → AE q) (hz : zOk c) (hln : ln ≤ 32) (hlc : ∀ k, k < ln → (lc k).toNatClampNeg < 65536 ∧ lc k = nI (lc k).toNatClampNeg) : Met l yL_character (gwL yL_character cL_character 4 (some .int) [(0, 9, 12, 24)]) ({ frames := 7, cells := 1, slots := 6, locals := 103 } : Room) (gPy [.ref (U 0), .int (v), .ref (o)] (fun H => va_P D vwCl (uw cA U rg c z rz hd ct rs dt mf mn tc tl to kd fi se ta nu lc ln sv er) H ∧ va_P D vwCl (oL cA o g) H) D cA AE adK adV sa) (wrI (fun r H => ∃ (k9 : Nat) (rr : Int32) (g9 : Nat → Int64), r = nI k9 ∧ k9 ≤ 2 ∧ (k9 = 0 → g9 0 = rr.toInt64) ∧ va_P D vwCl (oL cA o g9) H ∧ ((k9 = 0 ∧ ∃ j : Nat, j < ln ∧ v = nI j ∧ rr = nI (lc j).toNatClampNeg ∧ va_P D vwCl (uw cA U rg c z rz hd ct rs dt mf mn tc tl to kd fi se ta nu lc ln sv er) H) ∨ (k9 = 1 ∧ isIx v ln = false ∧ va_P D vwCl (uw cA U rg c z rz hd ct rs dt mf mn tc tl to kd fi se ta nu lc ln sv er) H))) (uO U o)) 1 6 (uO U o) := by
  refine gOfh (by decide) (Nat.le_of_ble_eq_true rfl) ?_
  intro p e s m below meth c9 ls hx hb hml hr hlk hown hts hte hB hK hE hN hl
  obtain ⟨hP, hO⟩ := hB
  have hl : lv_has ls 4 [(0, .ref (U 0)), (1, .int (v)), (2, .ref (o))] := hl
  have hS : va_S (uO U o) s.heap s.heap [] := va_S.rf
  refine lv_aload_n hx hb dL_character_0 rfl (lv_at hl 2 rfl) ?_
  refine lv_iconst (v := nI 0) hx hb dL_character_1 gc_0 ?_
  refine lv_aload_n hx hb dL_character_2 rfl (lv_at hl 0 rfl) ?_
  refine lv_iload_n hx hb dL_character_3 rfl (lv_at hl 1 rfl) ?_
  refine gx_calli (vx_runV (As := [.int (v)]) (rest := [.int (nI 0), .ref o]) ⟨hx, hb, hml, hown, hts⟩ (c_X7_character l hlt D cA AE adK adV sa U rg c z rz hd ct rs dt mf mn tc tl to kd fi se ta nu lc ln sv er v hA hFA hz hln hlc) (cwV 1 hts (gWVL gm_38_6 gm_38_7 gm_38_8 gm_1_2 gm_38_9) rfl rfl rfl (by decide +kernel) ⟨Nat.le_of_ble_eq_true rfl, Nat.le_of_ble_eq_true rfl⟩) (gPreVx hK hE hS hFO (g_rf hK hP (ci := 9) (q0 := 0) rfl rfl) hP) rfl rfl hl.1 rfl (lv_room (Nat.le_of_ble_eq_true rfl)) dL_character_4 ⟨Nat.le_of_ble_eq_true rfl, Nat.le_of_ble_eq_true rfl⟩) hS (fun q _ h => Or.inl h) (fun q h => Or.inl h) (fun q _ h => Or.inl h) (fun E9 ce q9 H locs hp hz9 hk9 hS hce hcv hcl => ?_) (fun r H locs hp hz9 hk9 hS => ?_)
  · obtain ⟨rfl, ht⟩ := hp
    have hO := vP_fr hO hk9 (oL_n hoU)
    refine vx_catch hown [] (⟨0, 9, 12, 24⟩ : ExceptionTableEntry) [] hte (fun z hz => absurd hz List.not_mem_nil) (by decide +kernel) (by decide) (hts _ (List.mem_cons_of_mem _ gm_11_8)) (wOk_use rfl (hE.1 _ cast_IOB rfl)) hce hcv hcl ?_
    refine lv_astore_n (lv' := [(3, .ref (q9)), (0, .ref (U 0)), (1, .int (v)), (2, .ref (o))]) hx hb dL_character_12 rfl hl (by decide) rfl (fun ls hl => ?_)
    refine lv_iconst (v := nI 1) hx hb dL_character_13 gc_1 ?_
    exact g_iretW (v := nI 1) hx hb hr hlk hS dL_character_14 ⟨1, 0, _, rfl, by decide, fun q => absurd q (by decide), hO, (Or.inr ⟨rfl, ht⟩)⟩
  · obtain ⟨j_9, h1, h2, h3, hP⟩ := hp
    have hO := vP_fr hO hk9 (oL_n hoU)
    refine lv_i2l (v := r.toInt64) hx hb dL_character_7 rfl ?_
    refine g_last hx hb hK hO hS (Or.inr rfl) dL_character_8 (fun H1 locs1 hO1 hsz hoq hS => ?_)
    have hP := vP_fr (A := fun q => q = o) hP (fun q _ h => hoq q h) (uw_n (A := fun q => q = o) hA (fun q h e9 => hoU (e9 ▸ h)))
    refine lv_goto (tgt := 15) hx hb dL_character_9 (by decide) ?_
    refine lv_iconst (v := nI 0) hx hb dL_character_15 gc_0 ?_
    exact g_iretW (v := nI 0) hx hb hr hlk hS dL_character_16 ⟨0, r, _, rfl, by decide, fun _ => upL0, hO1, Or.inl ⟨rfl, j_9, h1, h2, h3, hP⟩⟩

set_option maxHeartbeats 1000000 in
set_option maxRecDepth 100000 in
theorem c_L_append (l : Launch) (hlt : l.stackTraces = false) (D : va_G) (cA : Nat → ClassId) (AE : Nat → Prop) (adK adV sa : Nat → Nat) (U : Nat → Nat) (rg : Nat → Option Nat) (c z : CS) (rz : Nat → CS) (hd ct : Nat) (rs dt : Int32) (mf : Nat → Nat → Int32) (mn : Nat) (tc : Nat → Nat) (tl to : Nat) (kd fi se : Int32) (ta : Nat) (nu : Int32) (lc : Nat → Int32) (ln : Nat) (sv : Bool) (er : Int32) (w : Nat) (o : Nat) (g : Nat → Int64) (hA : aInj 189 U) (hFA : ∀ q, aS 189 U q → AE q) (hoU : ¬ aS 189 U o) (hFO : ∀ q, uO U o q → AE q) (hz : zOk c) (htl6 : tl ≤ 60) (hw6 : w < 65536) : Met l yL_append (gwL yL_append cL_append 4 (some .int) [(0, 9, 12, 96)]) ({ frames := 7, cells := 1, slots := 6, locals := 103 } : Room) (gPy [.ref (U 0), .int (nI (w)), .ref (o)] (fun H => va_P D vwCl (uw cA U rg c z rz hd ct rs dt mf mn tc tl to kd fi se ta nu lc ln sv er) H ∧ va_P D vwCl (oL cA o g) H) D cA AE adK adV sa) (wrI (fun r H => ∃ (k9 : Nat) (rr : Int32) (g9 : Nat → Int64), r = nI k9 ∧ k9 ≤ 2 ∧ (k9 = 0 → g9 0 = rr.toInt64) ∧ va_P D vwCl (oL cA o g9) H ∧ ((k9 = 0 ∧ tl < 60 ∧ rr = nI (tl + 1) ∧ va_P D vwCl (uw cA U rg c z rz hd ct rs dt mf mn (updN tc tl w) (tl + 1) to kd fi se ta nu lc ln sv er) H) ∨ (k9 = 1 ∧ 60 ≤ tl ∧ va_P D vwCl (uw cA U rg c z rz hd ct rs dt mf mn tc tl to kd fi se ta nu lc ln sv er) H))) (uO U o)) 1 6 (uO U o) := by
  refine gOfh (by decide) (Nat.le_of_ble_eq_true rfl) ?_
  intro p e s m below meth c9 ls hx hb hml hr hlk hown hts hte hB hK hE hN hl
  obtain ⟨hP, hO⟩ := hB
  have hl : lv_has ls 4 [(0, .ref (U 0)), (1, .int (nI (w))), (2, .ref (o))] := hl
  have hS : va_S (uO U o) s.heap s.heap [] := va_S.rf
  refine lv_aload_n hx hb dL_append_0 rfl (lv_at hl 2 rfl) ?_
  refine lv_iconst (v := nI 0) hx hb dL_append_1 gc_0 ?_
  refine lv_aload_n hx hb dL_append_2 rfl (lv_at hl 0 rfl) ?_
  refine lv_iload_n hx hb dL_append_3 rfl (lv_at hl 1 rfl) ?_
  refine gx_calli (vx_runV (As := [.int (nI (w))]) (rest := [.int (nI 0), .ref o]) ⟨hx, hb, hml, hown, hts⟩ (c_X7_append l hlt D cA AE adK adV sa U rg c z rz hd ct rs dt mf mn tc tl to kd fi se ta nu lc ln sv er w hA hFA hz htl6 hw6) (cwV 1 hts (gWVL gm_38_19 gm_38_20 gm_38_21 gm_1_2 gm_38_22) rfl rfl rfl (by decide +kernel) ⟨Nat.le_of_ble_eq_true rfl, Nat.le_of_ble_eq_true rfl⟩) (gPreVx hK hE hS hFO (g_rf hK hP (ci := 9) (q0 := 0) rfl rfl) hP) rfl rfl hl.1 rfl (lv_room (Nat.le_of_ble_eq_true rfl)) dL_append_4 ⟨Nat.le_of_ble_eq_true rfl, Nat.le_of_ble_eq_true rfl⟩) hS (fun q _ h => Or.inl h) (fun q h => Or.inl h) (fun q _ h => Or.inl h) (fun E9 ce q9 H locs hp hz9 hk9 hS hce hcv hcl => ?_) (fun r H locs hp hz9 hk9 hS => ?_)
  · obtain ⟨rfl, ht⟩ := hp
    have hO := vP_fr hO hk9 (oL_n hoU)
    refine vx_catch hown [] (⟨0, 9, 12, 96⟩ : ExceptionTableEntry) [] hte (fun z hz => absurd hz List.not_mem_nil) (by decide +kernel) (by decide) (hts _ (List.mem_cons_of_mem _ gm_38_18)) (wOk_use rfl (hE.1 _ cast_ISE rfl)) hce hcv hcl ?_
    refine lv_astore_n (lv' := [(3, .ref (q9)), (0, .ref (U 0)), (1, .int (nI (w))), (2, .ref (o))]) hx hb dL_append_12 rfl hl (by decide) rfl (fun ls hl => ?_)
    refine lv_iconst (v := nI 1) hx hb dL_append_13 gc_1 ?_
    exact g_iretW (v := nI 1) hx hb hr hlk hS dL_append_14 ⟨1, 0, _, rfl, by decide, fun q => absurd q (by decide), hO, (Or.inr ⟨rfl, ht⟩)⟩
  · obtain ⟨h1, h2, hP⟩ := hp
    have hO := vP_fr hO hk9 (oL_n hoU)
    refine lv_i2l (v := r.toInt64) hx hb dL_append_7 rfl ?_
    refine g_last hx hb hK hO hS (Or.inr rfl) dL_append_8 (fun H1 locs1 hO1 hsz hoq hS => ?_)
    have hP := vP_fr (A := fun q => q = o) hP (fun q _ h => hoq q h) (uw_n (A := fun q => q = o) hA (fun q h e9 => hoU (e9 ▸ h)))
    refine lv_goto (tgt := 15) hx hb dL_append_9 (by decide) ?_
    refine lv_iconst (v := nI 0) hx hb dL_append_15 gc_0 ?_
    exact g_iretW (v := nI 0) hx hb hr hlk hS dL_append_16 ⟨0, r, _, rfl, by decide, fun _ => upL0, hO1, Or.inl ⟨rfl, h1, h2, hP⟩⟩

set_option maxHeartbeats 1000000 in
set_option maxRecDepth 100000 in
theorem c_L_run (l : Launch) (hlt : l.stackTraces = false) (D : va_G) (cA : Nat → ClassId) (AE : Nat → Prop) (adK adV sa : Nat → Nat) (U : Nat → Nat) (rg : Nat → Option Nat) (c z : CS) (rz : Nat → CS) (hd ct : Nat) (rs dt : Int32) (mf : Nat → Nat → Int32) (mn : Nat) (tc : Nat → Nat) (tl to : Nat) (kd fi se : Int32) (ta : Nat) (nu : Int32) (lc : Nat → Int32) (ln : Nat) (sv : Bool) (er : Int32) (Pw : CS → Prop) (o : Nat) (g : Nat → Int64) (hA : aInj 189 U) (hFA : ∀ q, aS 189 U q → AE q) (hoU : ¬ aS 189 U o) (hFO : ∀ q, uO U o q → AE q) (hz : zOk c) (hrg : uRg U rg) (hh8 : hd ≤ 8) (hc8 : ct ≤ 8) (htc : ∀ k, k < tl → tc k < 65536) (htl : tl ≤ 60) (hok : cyOk Pw) (hPc : Pw c) (hpar : (feR tc tl kd fi se nu).1 = -1 → ∀ k, k < (feR tc tl kd fi se nu).2.1 → ∃ w : Nat, w ≤ 7 ∧ (feS tc tl (feR tc tl kd fi se nu).2.2.2.1 (feR tc tl kd fi se nu).2.2.2.2.1 (feR tc tl kd fi se nu).2.2.2.2.2.1 (feR tc tl kd fi se nu).2.2.2.2.2.2 (k + 1)).2.1 = nI w) : Met l yL_run (gwL yL_run cL_run 3 (some .int) [(0, 8, 11, 13), (0, 8, 14, 15)]) ({ frames := 9, cells := 1, slots := 6, locals := 230 } : Room) (gPy [.ref (U 0), .ref (o)] (fun H => va_P D vwCl (uw cA U rg c z rz hd ct rs dt mf mn tc tl to kd fi se ta nu lc ln sv er) H ∧ va_P D vwCl (oL cA o g) H) D cA AE adK adV sa) (wrI (fun r H => ∃ (k9 : Nat) (rr : Int32) (g9 : Nat → Int64), r = nI k9 ∧ k9 ≤ 2 ∧ (k9 = 0 → g9 0 = rr.toInt64) ∧ va_P D vwCl (oL cA o g9) H ∧ ((k9 = 0 ∧ (feR tc tl kd fi se nu).1 = -1 ∧ (cyS tc tl (feR tc tl kd fi se nu).2.2.2.1 (feR tc tl kd fi se nu).2.2.2.2.1 (feR tc tl kd fi se nu).2.2.2.2.2.1 (feR tc tl kd fi se nu).2.2.2.2.2.2 c rs dt (feR tc tl kd fi se nu).2.1).1 = 0 ∧ rr = nI (feR tc tl kd fi se nu).2.1 ∧ ∃ (to9 ta9 : Nat) (kd9 fi9 se9 nu9 : Int32) (rz9 : Nat → CS), (∀ j, j ≠ hd → rz9 j = rz j) ∧ rz9 hd = c ∧ va_P D vwCl (uw cA U rg ((cyS tc tl (feR tc tl kd fi se nu).2.2.2.1 (feR tc tl kd fi se nu).2.2.2.2.1 (feR tc tl kd fi se nu).2.2.2.2.2.1 (feR tc tl kd fi se nu).2.2.2.2.2.2 c rs dt (feR tc tl kd fi se nu).2.1).2.1) z rz9 ((hUp hd)) ((hCt ct)) ((cyS tc tl (feR tc tl kd fi se nu).2.2.2.1 (feR tc tl kd fi se nu).2.2.2.2.1 (feR tc tl kd fi se nu).2.2.2.2.2.1 (feR tc tl kd fi se nu).2.2.2.2.2.2 c rs dt (feR tc tl kd fi se nu).2.1).2.2.1) ((cyS tc tl (feR tc tl kd fi se nu).2.2.2.1 (feR tc tl kd fi se nu).2.2.2.2.1 (feR tc tl kd fi se nu).2.2.2.2.2.1 (feR tc tl kd fi se nu).2.2.2.2.2.2 c rs dt (feR tc tl kd fi se nu).2.1).2.2.2) mf mn tc 0 to9 kd9 fi9 se9 ta9 nu9 lc ln sv ((-1))) H) ∨ (k9 = 1 ∧ ((¬ (feR tc tl kd fi se nu).1 = -1 ∧ ∃ (to9 ta9 : Nat) (kd9 fi9 se9 nu9 : Int32), va_P D vwCl (uw cA U rg c z rz hd ct rs dt mf mn tc 0 to9 kd9 fi9 se9 ta9 nu9 lc ln sv ((feR tc tl kd fi se nu).1)) H) ∨ ((feR tc tl kd fi se nu).1 = -1 ∧ (cyS tc tl (feR tc tl kd fi se nu).2.2.2.1 (feR tc tl kd fi se nu).2.2.2.2.1 (feR tc tl kd fi se nu).2.2.2.2.2.1 (feR tc tl kd fi se nu).2.2.2.2.2.2 c rs dt (feR tc tl kd fi se nu).2.1).1 = 1 ∧ ∃ (to9 ta9 : Nat) (kd9 fi9 se9 nu9 : Int32) (rz9 : Nat → CS), (∀ j, j ≠ hd → rz9 j = rz j) ∧ va_P D vwCl (uw cA U rg c z rz9 hd ct ((cyS tc tl (feR tc tl kd fi se nu).2.2.2.1 (feR tc tl kd fi se nu).2.2.2.2.1 (feR tc tl kd fi se nu).2.2.2.2.2.1 (feR tc tl kd fi se nu).2.2.2.2.2.2 c rs dt (feR tc tl kd fi se nu).2.1).2.2.1) ((cyS tc tl (feR tc tl kd fi se nu).2.2.2.1 (feR tc tl kd fi se nu).2.2.2.2.1 (feR tc tl kd fi se nu).2.2.2.2.2.1 (feR tc tl kd fi se nu).2.2.2.2.2.2 c rs dt (feR tc tl kd fi se nu).2.1).2.2.2) mf mn tc 0 to9 kd9 fi9 se9 ta9 nu9 lc ln sv ((-1))) H))) ∨ (k9 = 2 ∧ (feR tc tl kd fi se nu).1 = -1 ∧ (cyS tc tl (feR tc tl kd fi se nu).2.2.2.1 (feR tc tl kd fi se nu).2.2.2.2.1 (feR tc tl kd fi se nu).2.2.2.2.2.1 (feR tc tl kd fi se nu).2.2.2.2.2.2 c rs dt (feR tc tl kd fi se nu).2.1).1 = 2 ∧ ∃ (to9 ta9 : Nat) (kd9 fi9 se9 nu9 : Int32) (rz9 : Nat → CS), (∀ j, j ≠ hd → rz9 j = rz j) ∧ va_P D vwCl (uw cA U rg c z rz9 hd ct ((cyS tc tl (feR tc tl kd fi se nu).2.2.2.1 (feR tc tl kd fi se nu).2.2.2.2.1 (feR tc tl kd fi se nu).2.2.2.2.2.1 (feR tc tl kd fi se nu).2.2.2.2.2.2 c rs dt (feR tc tl kd fi se nu).2.1).2.2.1) ((cyS tc tl (feR tc tl kd fi se nu).2.2.2.1 (feR tc tl kd fi se nu).2.2.2.2.1 (feR tc tl kd fi se nu).2.2.2.2.2.1 (feR tc tl kd fi se nu).2.2.2.2.2.2 c rs dt (feR tc tl kd fi se nu).2.1).2.2.2) mf mn tc 0 to9 kd9 fi9 se9 ta9 nu9 lc ln sv ((-1))) H))) (uO U o)) 1 6 (uO U o) := by
  refine gOfh (by decide) (Nat.le_of_ble_eq_true rfl) ?_
  intro p e s m below meth c9 ls hx hb hml hr hlk hown hts hte hB hK hE hN hl
  obtain ⟨hP, hO⟩ := hB
  have hl : lv_has ls 3 [(0, .ref (U 0)), (1, .ref (o))] := hl
  have hS : va_S (uO U o) s.heap s.heap [] := va_S.rf
  refine lv_aload_n hx hb dL_run_0 rfl (lv_at hl 1 rfl) ?_
  refine lv_iconst (v := nI 0) hx hb dL_run_1 gc_0 ?_
  refine lv_aload_n hx hb dL_run_2 rfl (lv_at hl 0 rfl) ?_
  refine gx_calli (vx_runV (As := []) (rest := [.int (nI 0), .ref o]) ⟨hx, hb, hml, hown, hts⟩ (c_X7_run l hlt D cA AE adK adV sa U rg c z rz hd ct rs dt mf mn tc tl to kd fi se ta nu lc ln sv er Pw hA hFA hz hrg hh8 hc8 htc htl hok hPc hpar) (cwV 0 hts (gWVL gm_39_14 gm_39_15 gm_39_16 gm_1_2 gm_39_17) rfl rfl rfl (by decide +kernel) ⟨Nat.le_of_ble_eq_true rfl, Nat.le_of_ble_eq_true rfl⟩) (gPreVx hK hE hS hFO (g_rf hK hP (ci := 9) (q0 := 0) rfl rfl) hP) rfl rfl hl.1 rfl (lv_room (Nat.le_of_ble_eq_true rfl)) dL_run_3 ⟨Nat.le_of_ble_eq_true rfl, Nat.le_of_ble_eq_true rfl⟩) hS (fun q _ h => Or.inl h) (fun q h => Or.inl h) (fun q _ h => Or.inl h) (fun E9 ce q9 H locs hp hz9 hk9 hS hce hcv hcl => ?_) (fun r H locs hp hz9 hk9 hS => ?_)
  · rcases hp with ⟨rfl, ht⟩ | ⟨rfl, ht⟩
    · have hO := vP_fr hO hk9 (oL_n hoU)
      refine vx_catch hown [] (⟨0, 8, 11, 13⟩ : ExceptionTableEntry) [(⟨0, 8, 14, 15⟩ : ExceptionTableEntry)] hte (fun z hz => absurd hz List.not_mem_nil) (by decide +kernel) (by decide) (hts _ (List.mem_cons_of_mem _ gm_6_4)) (wOk_use rfl (hE.1 _ cast_IAE rfl)) hce hcv hcl ?_
      refine lv_astore_n (lv' := [(2, .ref (q9)), (0, .ref (U 0)), (1, .ref (o))]) hx hb dL_run_11 rfl hl (by decide) rfl (fun ls hl => ?_)
      refine lv_iconst (v := nI 1) hx hb dL_run_12 gc_1 ?_
      exact g_iretW (v := nI 1) hx hb hr hlk hS dL_run_13 ⟨1, 0, _, rfl, by decide, fun q => absurd q (by decide), hO, (Or.inr (Or.inl ⟨rfl, ht⟩))⟩
    · have hO := vP_fr hO hk9 (oL_n hoU)
      refine vx_catch hown [(⟨0, 8, 11, 13⟩ : ExceptionTableEntry)] (⟨0, 8, 14, 15⟩ : ExceptionTableEntry) [] hte (fun z hz => by rw [List.mem_singleton] at hz; subst hz; exact Or.inr ⟨by decide, xIAE, (hts _ (List.mem_cons_of_mem _ gm_6_4)), hN (xUOE, xIAE) (by decide +kernel)⟩) (by decide +kernel) (by decide) (hts _ (List.mem_cons_of_mem _ gm_21_15)) (wOk_use rfl (hE.1 _ cast_UOE rfl)) hce hcv hcl ?_
      refine lv_astore_n (lv' := [(2, .ref (q9)), (0, .ref (U 0)), (1, .ref (o))]) hx hb dL_run_14 rfl hl (by decide) rfl (fun ls hl => ?_)
      refine lv_iconst (v := nI 2) hx hb dL_run_15 gc_2 ?_
      exact g_iretW (v := nI 2) hx hb hr hlk hS dL_run_16 ⟨2, 0, _, rfl, by decide, fun q => absurd q (by decide), hO, (Or.inr (Or.inr ⟨rfl, ht⟩))⟩
  · obtain ⟨h1, h2, h3, to9_9, ta9_9, kd9_9, fi9_9, se9_9, nu9_9, rz9_9, h4, h5, hP⟩ := hp
    have hO := vP_fr hO hk9 (oL_n hoU)
    refine lv_i2l (v := r.toInt64) hx hb dL_run_6 rfl ?_
    refine g_last hx hb hK hO hS (Or.inr rfl) dL_run_7 (fun H1 locs1 hO1 hsz hoq hS => ?_)
    have hP := vP_fr (A := fun q => q = o) hP (fun q _ h => hoq q h) (uw_n (A := fun q => q = o) hA (fun q h e9 => hoU (e9 ▸ h)))
    refine lv_goto (tgt := 17) hx hb dL_run_8 (by decide) ?_
    refine lv_iconst (v := nI 0) hx hb dL_run_17 gc_0 ?_
    exact g_iretW (v := nI 0) hx hb hr hlk hS dL_run_18 ⟨0, r, _, rfl, by decide, fun _ => upL0, hO1, Or.inl ⟨rfl, h1, h2, h3, to9_9, ta9_9, kd9_9, fi9_9, se9_9, nu9_9, rz9_9, h4, h5, hP⟩⟩

set_option maxHeartbeats 1000000 in
set_option maxRecDepth 100000 in
theorem c_L_refusal (l : Launch) (hlt : l.stackTraces = false) (D : va_G) (cA : Nat → ClassId) (AE : Nat → Prop) (adK adV sa : Nat → Nat) (U : Nat → Nat) (rg : Nat → Option Nat) (c z : CS) (rz : Nat → CS) (hd ct : Nat) (rs dt : Int32) (mf : Nat → Nat → Int32) (mn : Nat) (tc : Nat → Nat) (tl to : Nat) (kd fi se : Int32) (ta : Nat) (nu : Int32) (lc : Nat → Int32) (ln : Nat) (sv : Bool) (er : Int32) (b : Bool) (o : Nat) (g : Nat → Int64) (hA : aInj 189 U) (hFA : ∀ q, aS 189 U q → AE q) (hoU : ¬ aS 189 U o) (hFO : ∀ q, uO U o q → AE q) (hz : zOk c)  : Met l yL_refusal (gwL yL_refusal cL_refusal 4 (some .int) [(0, 9, 12, 55)]) ({ frames := 7, cells := 1, slots := 6, locals := 103 } : Room) (gPy [.ref (U 0), .int (b2i (b)), .ref (o)] (fun H => va_P D vwCl (uw cA U rg c z rz hd ct rs dt mf mn tc tl to kd fi se ta nu lc ln sv er) H ∧ va_P D vwCl (oL cA o g) H) D cA AE adK adV sa) (wrI (fun r H => ∃ (k9 : Nat) (rr : Int32) (g9 : Nat → Int64), r = nI k9 ∧ k9 ≤ 2 ∧ (k9 = 0 → g9 0 = rr.toInt64) ∧ va_P D vwCl (oL cA o g9) H ∧ ((k9 = 0 ∧ ¬ rs = 0 ∧ rr = (if b = true then dt else rs) ∧ va_P D vwCl (uw cA U rg c z rz hd ct rs dt mf mn tc tl to kd fi se ta nu lc ln sv er) H) ∨ (k9 = 1 ∧ rs = 0 ∧ va_P D vwCl (uw cA U rg c z rz hd ct rs dt mf mn tc tl to kd fi se ta nu lc ln sv er) H))) (uO U o)) 1 6 (uO U o) := by
  refine gOfh (by decide) (Nat.le_of_ble_eq_true rfl) ?_
  intro p e s m below meth c9 ls hx hb hml hr hlk hown hts hte hB hK hE hN hl
  obtain ⟨hP, hO⟩ := hB
  have hl : lv_has ls 4 [(0, .ref (U 0)), (1, .int (b2i (b))), (2, .ref (o))] := hl
  have hS : va_S (uO U o) s.heap s.heap [] := va_S.rf
  refine lv_aload_n hx hb dL_refusal_0 rfl (lv_at hl 2 rfl) ?_
  refine lv_iconst (v := nI 0) hx hb dL_refusal_1 gc_0 ?_
  refine lv_aload_n hx hb dL_refusal_2 rfl (lv_at hl 0 rfl) ?_
  refine lv_iload_n hx hb dL_refusal_3 rfl (lv_at hl 1 rfl) ?_
  refine gx_calli (vx_runV (As := [.int (b2i (b))]) (rest := [.int (nI 0), .ref o]) ⟨hx, hb, hml, hown, hts⟩ (c_X7_refusal l hlt D cA AE adK adV sa U rg c z rz hd ct rs dt mf mn tc tl to kd fi se ta nu lc ln sv er b hA hFA hz ) (cwV 1 hts (gWVL gm_48_4 gm_48_5 gm_48_6 gm_1_2 gm_48_7) rfl rfl rfl (by decide +kernel) ⟨Nat.le_of_ble_eq_true rfl, Nat.le_of_ble_eq_true rfl⟩) (gPreVx hK hE hS hFO (g_rf hK hP (ci := 9) (q0 := 0) rfl rfl) hP) rfl rfl hl.1 rfl (lv_room (Nat.le_of_ble_eq_true rfl)) dL_refusal_4 ⟨Nat.le_of_ble_eq_true rfl, Nat.le_of_ble_eq_true rfl⟩) hS (fun q _ h => Or.inl h) (fun q h => Or.inl h) (fun q _ h => Or.inl h) (fun E9 ce q9 H locs hp hz9 hk9 hS hce hcv hcl => ?_) (fun r H locs hp hz9 hk9 hS => ?_)
  · obtain ⟨rfl, ht⟩ := hp
    have hO := vP_fr hO hk9 (oL_n hoU)
    refine vx_catch hown [] (⟨0, 9, 12, 55⟩ : ExceptionTableEntry) [] hte (fun z hz => absurd hz List.not_mem_nil) (by decide +kernel) (by decide) (hts _ (List.mem_cons_of_mem _ gm_28_17)) (wOk_use rfl (hE.1 _ cast_NSE rfl)) hce hcv hcl ?_
    refine lv_astore_n (lv' := [(3, .ref (q9)), (0, .ref (U 0)), (1, .int (b2i (b))), (2, .ref (o))]) hx hb dL_refusal_12 rfl hl (by decide) rfl (fun ls hl => ?_)
    refine lv_iconst (v := nI 1) hx hb dL_refusal_13 gc_1 ?_
    exact g_iretW (v := nI 1) hx hb hr hlk hS dL_refusal_14 ⟨1, 0, _, rfl, by decide, fun q => absurd q (by decide), hO, (Or.inr ⟨rfl, ht⟩)⟩
  · obtain ⟨h1, h2, hP⟩ := hp
    have hO := vP_fr hO hk9 (oL_n hoU)
    refine lv_i2l (v := r.toInt64) hx hb dL_refusal_7 rfl ?_
    refine g_last hx hb hK hO hS (Or.inr rfl) dL_refusal_8 (fun H1 locs1 hO1 hsz hoq hS => ?_)
    have hP := vP_fr (A := fun q => q = o) hP (fun q _ h => hoq q h) (uw_n (A := fun q => q = o) hA (fun q h e9 => hoU (e9 ▸ h)))
    refine lv_goto (tgt := 15) hx hb dL_refusal_9 (by decide) ?_
    refine lv_iconst (v := nI 0) hx hb dL_refusal_15 gc_0 ?_
    exact g_iretW (v := nI 0) hx hb hr hlk hS dL_refusal_16 ⟨0, r, _, rfl, by decide, fun _ => upL0, hO1, Or.inl ⟨rfl, h1, h2, hP⟩⟩

set_option maxHeartbeats 1000000 in
set_option maxRecDepth 100000 in
theorem c_L_account (l : Launch) (hlt : l.stackTraces = false) (D : va_G) (cA : Nat → ClassId) (AE : Nat → Prop) (adK adV sa : Nat → Nat) (U : Nat → Nat) (rg : Nat → Option Nat) (c z : CS) (rz : Nat → CS) (hd ct : Nat) (rs dt : Int32) (mf : Nat → Nat → Int32) (mn : Nat) (tc : Nat → Nat) (tl to : Nat) (kd fi se : Int32) (ta : Nat) (nu : Int32) (lc : Nat → Int32) (ln : Nat) (sv : Bool) (er : Int32) (t : Int32) (o : Nat) (g : Nat → Int64) (hA : aInj 189 U) (hFA : ∀ q, aS 189 U q → AE q) (hoU : ¬ aS 189 U o) (hFO : ∀ q, uO U o q → AE q) (hz : zOk c) (htl6 : tl ≤ 60) (hc8 : ct ≤ 8) : Met l yL_account (gwL yL_account cL_account 4 (some .int) [(0, 9, 12, 13)]) ({ frames := 7, cells := 1, slots := 6, locals := 103 } : Room) (gPy [.ref (U 0), .int (t), .ref (o)] (fun H => va_P D vwCl (uw cA U rg c z rz hd ct rs dt mf mn tc tl to kd fi se ta nu lc ln sv er) H ∧ va_P D vwCl (oL cA o g) H) D cA AE adK adV sa) (wrI (fun r H => ∃ (k9 : Nat) (rr : Int32) (g9 : Nat → Int64), r = nI k9 ∧ k9 ≤ 2 ∧ (k9 = 0 → g9 0 = rr.toInt64) ∧ va_P D vwCl (oL cA o g9) H ∧ ((k9 = 0 ∧ ∃ k : Nat, k ≤ 11 ∧ t = nI k ∧ rr = acF c tl ct k ∧ va_P D vwCl (uw cA U rg c z rz hd ct rs dt mf mn tc tl to kd fi se ta nu lc ln sv er) H) ∨ (k9 = 1 ∧ inB t (nI 0) (nI 11) = false ∧ va_P D vwCl (uw cA U rg c z rz hd ct rs dt mf mn tc tl to kd fi se ta nu lc ln sv er) H))) (uO U o)) 1 6 (uO U o) := by
  refine gOfh (by decide) (Nat.le_of_ble_eq_true rfl) ?_
  intro p e s m below meth c9 ls hx hb hml hr hlk hown hts hte hB hK hE hN hl
  obtain ⟨hP, hO⟩ := hB
  have hl : lv_has ls 4 [(0, .ref (U 0)), (1, .int (t)), (2, .ref (o))] := hl
  have hS : va_S (uO U o) s.heap s.heap [] := va_S.rf
  refine lv_aload_n hx hb dL_account_0 rfl (lv_at hl 2 rfl) ?_
  refine lv_iconst (v := nI 0) hx hb dL_account_1 gc_0 ?_
  refine lv_aload_n hx hb dL_account_2 rfl (lv_at hl 0 rfl) ?_
  refine lv_iload_n hx hb dL_account_3 rfl (lv_at hl 1 rfl) ?_
  refine gx_calli (vx_runV (As := [.int (t)]) (rest := [.int (nI 0), .ref o]) ⟨hx, hb, hml, hown, hts⟩ (c_X7_account l hlt D cA AE adK adV sa U rg c z rz hd ct rs dt mf mn tc tl to kd fi se ta nu lc ln sv er t hA hFA hz htl6 hc8) (cwV 1 hts (gWVL gm_48_17 gm_48_18 gm_48_19 gm_1_2 gm_48_20) rfl rfl rfl (by decide +kernel) ⟨Nat.le_of_ble_eq_true rfl, Nat.le_of_ble_eq_true rfl⟩) (gPreVx hK hE hS hFO (g_rf hK hP (ci := 9) (q0 := 0) rfl rfl) hP) rfl rfl hl.1 rfl (lv_room (Nat.le_of_ble_eq_true rfl)) dL_account_4 ⟨Nat.le_of_ble_eq_true rfl, Nat.le_of_ble_eq_true rfl⟩) hS (fun q _ h => Or.inl h) (fun q h => Or.inl h) (fun q _ h => Or.inl h) (fun E9 ce q9 H locs hp hz9 hk9 hS hce hcv hcl => ?_) (fun r H locs hp hz9 hk9 hS => ?_)
  · obtain ⟨rfl, ht⟩ := hp
    have hO := vP_fr hO hk9 (oL_n hoU)
    refine vx_catch hown [] (⟨0, 9, 12, 13⟩ : ExceptionTableEntry) [] hte (fun z hz => absurd hz List.not_mem_nil) (by decide +kernel) (by decide) (hts _ (List.mem_cons_of_mem _ gm_6_4)) (wOk_use rfl (hE.1 _ cast_IAE rfl)) hce hcv hcl ?_
    refine lv_astore_n (lv' := [(3, .ref (q9)), (0, .ref (U 0)), (1, .int (t)), (2, .ref (o))]) hx hb dL_account_12 rfl hl (by decide) rfl (fun ls hl => ?_)
    refine lv_iconst (v := nI 1) hx hb dL_account_13 gc_1 ?_
    exact g_iretW (v := nI 1) hx hb hr hlk hS dL_account_14 ⟨1, 0, _, rfl, by decide, fun q => absurd q (by decide), hO, (Or.inr ⟨rfl, ht⟩)⟩
  · obtain ⟨k_9, h1, h2, h3, hP⟩ := hp
    have hO := vP_fr hO hk9 (oL_n hoU)
    refine lv_i2l (v := r.toInt64) hx hb dL_account_7 rfl ?_
    refine g_last hx hb hK hO hS (Or.inr rfl) dL_account_8 (fun H1 locs1 hO1 hsz hoq hS => ?_)
    have hP := vP_fr (A := fun q => q = o) hP (fun q _ h => hoq q h) (uw_n (A := fun q => q = o) hA (fun q h e9 => hoU (e9 ▸ h)))
    refine lv_goto (tgt := 15) hx hb dL_account_9 (by decide) ?_
    refine lv_iconst (v := nI 0) hx hb dL_account_15 gc_0 ?_
    exact g_iretW (v := nI 0) hx hb hr hlk hS dL_account_16 ⟨0, r, _, rfl, by decide, fun _ => upL0, hO1, Or.inl ⟨rfl, k_9, h1, h2, h3, hP⟩⟩

set_option maxHeartbeats 1000000 in
set_option maxRecDepth 100000 in
theorem c_L_undo (l : Launch) (hlt : l.stackTraces = false) (D : va_G) (cA : Nat → ClassId) (AE : Nat → Prop) (adK adV sa : Nat → Nat) (U : Nat → Nat) (rg : Nat → Option Nat) (c z : CS) (rz : Nat → CS) (hd ct : Nat) (rs dt : Int32) (mf : Nat → Nat → Int32) (mn : Nat) (tc : Nat → Nat) (tl to : Nat) (kd fi se : Int32) (ta : Nat) (nu : Int32) (lc : Nat → Int32) (ln : Nat) (sv : Bool) (er : Int32) (o : Nat) (g : Nat → Int64) (hA : aInj 189 U) (hFA : ∀ q, aS 189 U q → AE q) (hoU : ¬ aS 189 U o) (hFO : ∀ q, uO U o q → AE q) (hz : zOk c) (hrg : uRg U rg) (hh8 : hd ≤ 8) (hc8 : ct ≤ 8) : Met l yL_undo (gwL yL_undo cL_undo 3 (some .int) [(0, 8, 11, 96)]) ({ frames := 7, cells := 1, slots := 6, locals := 164 } : Room) (gPy [.ref (U 0), .ref (o)] (fun H => va_P D vwCl (uw cA U rg c z rz hd ct rs dt mf mn tc tl to kd fi se ta nu lc ln sv er) H ∧ va_P D vwCl (oL cA o g) H) D cA AE adK adV sa) (wrI (fun r H => ∃ (k9 : Nat) (rr : Int32) (g9 : Nat → Int64), r = nI k9 ∧ k9 ≤ 2 ∧ (k9 = 0 → g9 0 = rr.toInt64) ∧ va_P D vwCl (oL cA o g9) H ∧ ((k9 = 0 ∧ 0 < ct ∧ rr = nI (ct - 1) ∧ va_P D vwCl (uw cA U rg (rz (hDn hd)) z (va_up rz (hDn hd) (rz (hDn hd))) (hDn hd) (ct - 1) rs dt mf mn tc tl to kd fi se ta nu lc ln sv er) H) ∨ (k9 = 1 ∧ ct = 0 ∧ va_P D vwCl (uw cA U rg c z rz hd ct rs dt mf mn tc tl to kd fi se ta nu lc ln sv er) H))) (uO U o)) 1 6 (uO U o) := by
  refine gOfh (by decide) (Nat.le_of_ble_eq_true rfl) ?_
  intro p e s m below meth c9 ls hx hb hml hr hlk hown hts hte hB hK hE hN hl
  obtain ⟨hP, hO⟩ := hB
  have hl : lv_has ls 3 [(0, .ref (U 0)), (1, .ref (o))] := hl
  have hS : va_S (uO U o) s.heap s.heap [] := va_S.rf
  refine lv_aload_n hx hb dL_undo_0 rfl (lv_at hl 1 rfl) ?_
  refine lv_iconst (v := nI 0) hx hb dL_undo_1 gc_0 ?_
  refine lv_aload_n hx hb dL_undo_2 rfl (lv_at hl 0 rfl) ?_
  refine gx_calli (vx_runV (As := []) (rest := [.int (nI 0), .ref o]) ⟨hx, hb, hml, hown, hts⟩ (c_X7_undo l hlt D cA AE adK adV sa U rg c z rz hd ct rs dt mf mn tc tl to kd fi se ta nu lc ln sv er  hA hFA hz hrg hh8 hc8) (cwV 0 hts (gWVL gm_52_15 gm_52_16 gm_52_17 gm_1_2 gm_52_18) rfl rfl rfl (by decide +kernel) ⟨Nat.le_of_ble_eq_true rfl, Nat.le_of_ble_eq_true rfl⟩) (gPreVx hK hE hS hFO (g_rf hK hP (ci := 9) (q0 := 0) rfl rfl) hP) rfl rfl hl.1 rfl (lv_room (Nat.le_of_ble_eq_true rfl)) dL_undo_3 ⟨Nat.le_of_ble_eq_true rfl, Nat.le_of_ble_eq_true rfl⟩) hS (fun q _ h => Or.inl h) (fun q h => Or.inl h) (fun q _ h => Or.inl h) (fun E9 ce q9 H locs hp hz9 hk9 hS hce hcv hcl => ?_) (fun r H locs hp hz9 hk9 hS => ?_)
  · obtain ⟨rfl, ht⟩ := hp
    have hO := vP_fr hO hk9 (oL_n hoU)
    refine vx_catch hown [] (⟨0, 8, 11, 96⟩ : ExceptionTableEntry) [] hte (fun z hz => absurd hz List.not_mem_nil) (by decide +kernel) (by decide) (hts _ (List.mem_cons_of_mem _ gm_38_18)) (wOk_use rfl (hE.1 _ cast_ISE rfl)) hce hcv hcl ?_
    refine lv_astore_n (lv' := [(2, .ref (q9)), (0, .ref (U 0)), (1, .ref (o))]) hx hb dL_undo_11 rfl hl (by decide) rfl (fun ls hl => ?_)
    refine lv_iconst (v := nI 1) hx hb dL_undo_12 gc_1 ?_
    exact g_iretW (v := nI 1) hx hb hr hlk hS dL_undo_13 ⟨1, 0, _, rfl, by decide, fun q => absurd q (by decide), hO, (Or.inr ⟨rfl, ht⟩)⟩
  · obtain ⟨h1, h2, hP⟩ := hp
    have hO := vP_fr hO hk9 (oL_n hoU)
    refine lv_i2l (v := r.toInt64) hx hb dL_undo_6 rfl ?_
    refine g_last hx hb hK hO hS (Or.inr rfl) dL_undo_7 (fun H1 locs1 hO1 hsz hoq hS => ?_)
    have hP := vP_fr (A := fun q => q = o) hP (fun q _ h => hoq q h) (uw_n (A := fun q => q = o) hA (fun q h e9 => hoU (e9 ▸ h)))
    refine lv_goto (tgt := 14) hx hb dL_undo_8 (by decide) ?_
    refine lv_iconst (v := nI 0) hx hb dL_undo_14 gc_0 ?_
    exact g_iretW (v := nI 0) hx hb hr hlk hS dL_undo_15 ⟨0, r, _, rfl, by decide, fun _ => upL0, hO1, Or.inl ⟨rfl, h1, h2, hP⟩⟩

set_option maxHeartbeats 1000000 in
set_option maxRecDepth 100000 in
theorem c_L_restore (l : Launch) (hlt : l.stackTraces = false) (D : va_G) (cA : Nat → ClassId) (AE : Nat → Prop) (adK adV sa : Nat → Nat) (U : Nat → Nat) (rg : Nat → Option Nat) (c z : CS) (rz : Nat → CS) (hd ct : Nat) (rs dt : Int32) (mf : Nat → Nat → Int32) (mn : Nat) (tc : Nat → Nat) (tl to : Nat) (kd fi se : Int32) (ta : Nat) (nu : Int32) (lc : Nat → Int32) (ln : Nat) (sv : Bool) (er : Int32) (o : Nat) (g : Nat → Int64) (hA : aInj 189 U) (hFA : ∀ q, aS 189 U q → AE q) (hoU : ¬ aS 189 U o) (hFO : ∀ q, uO U o q → AE q) (hz : zOk c)  : Met l yL_restore (gwL yL_restore cL_restore 3 (some .int) [(0, 8, 11, 96)]) ({ frames := 7, cells := 1, slots := 6, locals := 122 } : Room) (gPy [.ref (U 0), .ref (o)] (fun H => va_P D vwCl (uw cA U rg c z rz hd ct rs dt mf mn tc tl to kd fi se ta nu lc ln sv er) H ∧ va_P D vwCl (oL cA o g) H) D cA AE adK adV sa) (wrI (fun r H => ∃ (k9 : Nat) (rr : Int32) (g9 : Nat → Int64), r = nI k9 ∧ k9 ≤ 2 ∧ (k9 = 0 → g9 0 = rr.toInt64) ∧ va_P D vwCl (oL cA o g9) H ∧ ((k9 = 0 ∧ sv = true ∧ rr = nI (zcn z) ∧ va_P D vwCl (uw cA U rg z z rz hd 0 rs dt mf mn tc tl to kd fi se ta nu lc ln sv er) H) ∨ (k9 = 1 ∧ sv = false ∧ va_P D vwCl (uw cA U rg c z rz hd ct rs dt mf mn tc tl to kd fi se ta nu lc ln sv er) H))) (uO U o)) 1 6 (uO U o) := by
  refine gOfh (by decide) (Nat.le_of_ble_eq_true rfl) ?_
  intro p e s m below meth c9 ls hx hb hml hr hlk hown hts hte hB hK hE hN hl
  obtain ⟨hP, hO⟩ := hB
  have hl : lv_has ls 3 [(0, .ref (U 0)), (1, .ref (o))] := hl
  have hS : va_S (uO U o) s.heap s.heap [] := va_S.rf
  refine lv_aload_n hx hb dL_restore_0 rfl (lv_at hl 1 rfl) ?_
  refine lv_iconst (v := nI 0) hx hb dL_restore_1 gc_0 ?_
  refine lv_aload_n hx hb dL_restore_2 rfl (lv_at hl 0 rfl) ?_
  refine gx_calli (vx_runV (As := []) (rest := [.int (nI 0), .ref o]) ⟨hx, hb, hml, hown, hts⟩ (c_X7_restore l hlt D cA AE adK adV sa U rg c z rz hd ct rs dt mf mn tc tl to kd fi se ta nu lc ln sv er  hA hFA hz ) (cwV 0 hts (gWVL gm_53_17 gm_53_18 gm_53_19 gm_1_2 gm_53_20) rfl rfl rfl (by decide +kernel) ⟨Nat.le_of_ble_eq_true rfl, Nat.le_of_ble_eq_true rfl⟩) (gPreVx hK hE hS hFO (g_rf hK hP (ci := 9) (q0 := 0) rfl rfl) hP) rfl rfl hl.1 rfl (lv_room (Nat.le_of_ble_eq_true rfl)) dL_restore_3 ⟨Nat.le_of_ble_eq_true rfl, Nat.le_of_ble_eq_true rfl⟩) hS (fun q _ h => Or.inl h) (fun q h => Or.inl h) (fun q _ h => Or.inl h) (fun E9 ce q9 H locs hp hz9 hk9 hS hce hcv hcl => ?_) (fun r H locs hp hz9 hk9 hS => ?_)
  · obtain ⟨rfl, ht⟩ := hp
    have hO := vP_fr hO hk9 (oL_n hoU)
    refine vx_catch hown [] (⟨0, 8, 11, 96⟩ : ExceptionTableEntry) [] hte (fun z hz => absurd hz List.not_mem_nil) (by decide +kernel) (by decide) (hts _ (List.mem_cons_of_mem _ gm_38_18)) (wOk_use rfl (hE.1 _ cast_ISE rfl)) hce hcv hcl ?_
    refine lv_astore_n (lv' := [(2, .ref (q9)), (0, .ref (U 0)), (1, .ref (o))]) hx hb dL_restore_11 rfl hl (by decide) rfl (fun ls hl => ?_)
    refine lv_iconst (v := nI 1) hx hb dL_restore_12 gc_1 ?_
    exact g_iretW (v := nI 1) hx hb hr hlk hS dL_restore_13 ⟨1, 0, _, rfl, by decide, fun q => absurd q (by decide), hO, (Or.inr ⟨rfl, ht⟩)⟩
  · obtain ⟨h1, h2, hP⟩ := hp
    have hO := vP_fr hO hk9 (oL_n hoU)
    refine lv_i2l (v := r.toInt64) hx hb dL_restore_6 rfl ?_
    refine g_last hx hb hK hO hS (Or.inr rfl) dL_restore_7 (fun H1 locs1 hO1 hsz hoq hS => ?_)
    have hP := vP_fr (A := fun q => q = o) hP (fun q _ h => hoq q h) (uw_n (A := fun q => q = o) hA (fun q h e9 => hoU (e9 ▸ h)))
    refine lv_goto (tgt := 14) hx hb dL_restore_8 (by decide) ?_
    refine lv_iconst (v := nI 0) hx hb dL_restore_14 gc_0 ?_
    exact g_iretW (v := nI 0) hx hb hr hlk hS dL_restore_15 ⟨0, r, _, rfl, by decide, fun _ => upL0, hO1, Or.inl ⟨rfl, h1, h2, hP⟩⟩

set_option maxHeartbeats 1000000 in
set_option maxRecDepth 100000 in
theorem c_L_meanLeaning (l : Launch) (hlt : l.stackTraces = false) (D : va_G) (cA : Nat → ClassId) (AE : Nat → Prop) (adK adV sa : Nat → Nat) (U : Nat → Nat) (rg : Nat → Option Nat) (c z : CS) (rz : Nat → CS) (hd ct : Nat) (rs dt : Int32) (mf : Nat → Nat → Int32) (mn : Nat) (tc : Nat → Nat) (tl to : Nat) (kd fi se : Int32) (ta : Nat) (nu : Int32) (lc : Nat → Int32) (ln : Nat) (sv : Bool) (er : Int32) (o : Nat) (g : Nat → UInt64) (hA : aInj 189 U) (hFA : ∀ q, aS 189 U q → AE q) (hoU : ¬ aS 189 U o) (hFO : ∀ q, uO U o q → AE q) (hz : zOk c)  : Met l yL_meanLeaning (gwL yL_meanLeaning cL_meanLeaning 3 (some .int) [(0, 7, 10, 112)]) ({ frames := 7, cells := 1, slots := 6, locals := 103 } : Room) (gPy [.ref (U 0), .ref (o)] (fun H => va_P D vwCl (uw cA U rg c z rz hd ct rs dt mf mn tc tl to kd fi se ta nu lc ln sv er) H ∧ va_P D vwCl (oD cA o g) H) D cA AE adK adV sa) (wrI (fun r H => ∃ (k9 : Nat) (rr : UInt64) (g9 : Nat → UInt64), r = nI k9 ∧ k9 ≤ 2 ∧ (k9 = 0 → g9 0 = rr) ∧ va_P D vwCl (oD cA o g9) H ∧ ((k9 = 0 ∧ ¬ zjn c = 0 ∧ rr = FP.ddiv (FP.i2d (isum (zJ c 0) (zjn c))) (FP.i2d (nI (zjn c))) ∧ va_P D vwCl (uw cA U rg c z rz hd ct rs dt mf mn tc tl to kd fi se ta nu lc ln sv er) H) ∨ (k9 = 1 ∧ zjn c = 0 ∧ va_P D vwCl (uw cA U rg c z rz hd ct rs dt mf mn tc tl to kd fi se ta nu lc ln sv er) H))) (uO U o)) 1 6 (uO U o) := by
  refine gOfh (by decide) (Nat.le_of_ble_eq_true rfl) ?_
  intro p e s m below meth c9 ls hx hb hml hr hlk hown hts hte hB hK hE hN hl
  obtain ⟨hP, hO⟩ := hB
  have hl : lv_has ls 3 [(0, .ref (U 0)), (1, .ref (o))] := hl
  have hS : va_S (uO U o) s.heap s.heap [] := va_S.rf
  refine lv_aload_n hx hb dL_meanLeaning_0 rfl (lv_at hl 1 rfl) ?_
  refine lv_iconst (v := nI 0) hx hb dL_meanLeaning_1 gc_0 ?_
  refine lv_aload_n hx hb dL_meanLeaning_2 rfl (lv_at hl 0 rfl) ?_
  refine gx_calld (vx_runV (As := []) (rest := [.int (nI 0), .ref o]) ⟨hx, hb, hml, hown, hts⟩ (c_X7_meanLeaning l hlt D cA AE adK adV sa U rg c z rz hd ct rs dt mf mn tc tl to kd fi se ta nu lc ln sv er  hA hFA hz ) (cwV 0 hts (gWVL gm_51_15 gm_51_16 gm_51_17 gm_1_2 gm_51_18) rfl rfl rfl (by decide +kernel) ⟨Nat.le_of_ble_eq_true rfl, Nat.le_of_ble_eq_true rfl⟩) (gPreVx hK hE hS hFO (g_rf hK hP (ci := 9) (q0 := 0) rfl rfl) hP) rfl rfl hl.1 rfl (lv_room (Nat.le_of_ble_eq_true rfl)) dL_meanLeaning_3 ⟨Nat.le_of_ble_eq_true rfl, Nat.le_of_ble_eq_true rfl⟩) hS (fun q _ h => Or.inl h) (fun q h => Or.inl h) (fun q _ h => Or.inl h) (fun E9 ce q9 H locs hp hz9 hk9 hS hce hcv hcl => ?_) (fun r H locs hp hz9 hk9 hS => ?_)
  · obtain ⟨rfl, ht⟩ := hp
    have hO := vP_fr hO hk9 (oD_n hoU)
    refine vx_catch hown [] (⟨0, 7, 10, 112⟩ : ExceptionTableEntry) [] hte (fun z hz => absurd hz List.not_mem_nil) (by decide +kernel) (by decide) (hts _ (List.mem_cons_of_mem _ gm_51_14)) (wOk_use rfl (hE.1 _ cast_ARE rfl)) hce hcv hcl ?_
    refine lv_astore_n (lv' := [(2, .ref (q9)), (0, .ref (U 0)), (1, .ref (o))]) hx hb dL_meanLeaning_10 rfl hl (by decide) rfl (fun ls hl => ?_)
    refine lv_iconst (v := nI 1) hx hb dL_meanLeaning_11 gc_1 ?_
    exact g_iretW (v := nI 1) hx hb hr hlk hS dL_meanLeaning_12 ⟨1, 0, _, rfl, by decide, fun q => absurd q (by decide), hO, (Or.inr ⟨rfl, ht⟩)⟩
  · obtain ⟨h1, h2, hP⟩ := hp
    have hO := vP_fr hO hk9 (oD_n hoU)
    refine g_dast hx hb hK hO hS (Or.inr rfl) dL_meanLeaning_6 (fun H1 locs1 hO1 hsz hoq hS => ?_)
    have hP := vP_fr (A := fun q => q = o) hP (fun q _ h => hoq q h) (uw_n (A := fun q => q = o) hA (fun q h e9 => hoU (e9 ▸ h)))
    refine lv_goto (tgt := 13) hx hb dL_meanLeaning_7 (by decide) ?_
    refine lv_iconst (v := nI 0) hx hb dL_meanLeaning_13 gc_0 ?_
    exact g_iretW (v := nI 0) hx hb hr hlk hS dL_meanLeaning_14 ⟨0, r, _, rfl, by decide, fun _ => upD0, hO1, Or.inl ⟨rfl, h1, h2, hP⟩⟩

theorem f2d_no {r : UInt32} {a b : Int32} (h : ¬ b = 0) (e : r = FP.fdiv (FP.i2f a) (FP.i2f b)) : vf_n64 (FP.f2d r) := by
  rw [e]
  exact n64_of ((FP.f2d_nan _).trans (fdiv_no h))
set_option maxHeartbeats 1000000 in
set_option maxRecDepth 100000 in
theorem c_L_unsaidShare (l : Launch) (hlt : l.stackTraces = false) (D : va_G) (cA : Nat → ClassId) (AE : Nat → Prop) (adK adV sa : Nat → Nat) (U : Nat → Nat) (rg : Nat → Option Nat) (c z : CS) (rz : Nat → CS) (hd ct : Nat) (rs dt : Int32) (mf : Nat → Nat → Int32) (mn : Nat) (tc : Nat → Nat) (tl to : Nat) (kd fi se : Int32) (ta : Nat) (nu : Int32) (lc : Nat → Int32) (ln : Nat) (sv : Bool) (er : Int32) (o : Nat) (g : Nat → UInt64) (hA : aInj 189 U) (hFA : ∀ q, aS 189 U q → AE q) (hoU : ¬ aS 189 U o) (hFO : ∀ q, uO U o q → AE q) (hz : zOk c)  : Met l yL_unsaidShare (gwL yL_unsaidShare cL_unsaidShare 3 (some .int) [(0, 8, 11, 112)]) ({ frames := 7, cells := 1, slots := 6, locals := 102 } : Room) (gPy [.ref (U 0), .ref (o)] (fun H => va_P D vwCl (uw cA U rg c z rz hd ct rs dt mf mn tc tl to kd fi se ta nu lc ln sv er) H ∧ va_P D vwCl (oD cA o g) H) D cA AE adK adV sa) (wrI (fun r H => ∃ (k9 : Nat) (rr : UInt32) (g9 : Nat → UInt64), r = nI k9 ∧ k9 ≤ 2 ∧ (k9 = 0 → g9 0 = FP.f2d rr) ∧ va_P D vwCl (oD cA o g9) H ∧ ((k9 = 0 ∧ ¬ zsd c = 0 ∧ rr = FP.fdiv (FP.i2f (isum (zK c 6) (zcn c))) (FP.i2f (zsd c)) ∧ va_P D vwCl (uw cA U rg c z rz hd ct rs dt mf mn tc tl to kd fi se ta nu lc ln sv er) H) ∨ (k9 = 1 ∧ zsd c = 0 ∧ va_P D vwCl (uw cA U rg c z rz hd ct rs dt mf mn tc tl to kd fi se ta nu lc ln sv er) H))) (uO U o)) 1 6 (uO U o) := by
  refine gOfh (by decide) (Nat.le_of_ble_eq_true rfl) ?_
  intro p e s m below meth c9 ls hx hb hml hr hlk hown hts hte hB hK hE hN hl
  obtain ⟨hP, hO⟩ := hB
  have hl : lv_has ls 3 [(0, .ref (U 0)), (1, .ref (o))] := hl
  have hS : va_S (uO U o) s.heap s.heap [] := va_S.rf
  refine lv_aload_n hx hb dL_unsaidShare_0 rfl (lv_at hl 1 rfl) ?_
  refine lv_iconst (v := nI 0) hx hb dL_unsaidShare_1 gc_0 ?_
  refine lv_aload_n hx hb dL_unsaidShare_2 rfl (lv_at hl 0 rfl) ?_
  refine gx_callf (vx_runV (As := []) (rest := [.int (nI 0), .ref o]) ⟨hx, hb, hml, hown, hts⟩ (c_X7_unsaidShare l hlt D cA AE adK adV sa U rg c z rz hd ct rs dt mf mn tc tl to kd fi se ta nu lc ln sv er  hA hFA hz ) (cwV 0 hts (gWVL gm_52_4 gm_52_5 gm_52_6 gm_1_2 gm_52_7) rfl rfl rfl (by decide +kernel) ⟨Nat.le_of_ble_eq_true rfl, Nat.le_of_ble_eq_true rfl⟩) (gPreVx hK hE hS hFO (g_rf hK hP (ci := 9) (q0 := 0) rfl rfl) hP) rfl rfl hl.1 rfl (lv_room (Nat.le_of_ble_eq_true rfl)) dL_unsaidShare_3 ⟨Nat.le_of_ble_eq_true rfl, Nat.le_of_ble_eq_true rfl⟩) hS (fun q _ h => Or.inl h) (fun q h => Or.inl h) (fun q _ h => Or.inl h) (fun E9 ce q9 H locs hp hz9 hk9 hS hce hcv hcl => ?_) (fun r H locs hp hz9 hk9 hS => ?_)
  · obtain ⟨rfl, ht⟩ := hp
    have hO := vP_fr hO hk9 (oD_n hoU)
    refine vx_catch hown [] (⟨0, 8, 11, 112⟩ : ExceptionTableEntry) [] hte (fun z hz => absurd hz List.not_mem_nil) (by decide +kernel) (by decide) (hts _ (List.mem_cons_of_mem _ gm_51_14)) (wOk_use rfl (hE.1 _ cast_ARE rfl)) hce hcv hcl ?_
    refine lv_astore_n (lv' := [(2, .ref (q9)), (0, .ref (U 0)), (1, .ref (o))]) hx hb dL_unsaidShare_11 rfl hl (by decide) rfl (fun ls hl => ?_)
    refine lv_iconst (v := nI 1) hx hb dL_unsaidShare_12 gc_1 ?_
    exact g_iretW (v := nI 1) hx hb hr hlk hS dL_unsaidShare_13 ⟨1, 0, _, rfl, by decide, fun q => absurd q (by decide), hO, (Or.inr ⟨rfl, ht⟩)⟩
  · obtain ⟨h1, h2, hP⟩ := hp
    have hO := vP_fr hO hk9 (oD_n hoU)
    refine lv_f2d hx hb dL_unsaidShare_6 (f2d_no h1 h2) ?_
    refine g_dast hx hb hK hO hS (Or.inr rfl) dL_unsaidShare_7 (fun H1 locs1 hO1 hsz hoq hS => ?_)
    have hP := vP_fr (A := fun q => q = o) hP (fun q _ h => hoq q h) (uw_n (A := fun q => q = o) hA (fun q h e9 => hoU (e9 ▸ h)))
    refine lv_goto (tgt := 14) hx hb dL_unsaidShare_8 (by decide) ?_
    refine lv_iconst (v := nI 0) hx hb dL_unsaidShare_14 gc_0 ?_
    exact g_iretW (v := nI 0) hx hb hr hlk hS dL_unsaidShare_15 ⟨0, r, _, rfl, by decide, fun _ => upD0, hO1, Or.inl ⟨rfl, h1, h2, hP⟩⟩

