theorem inB_out {v : Int32} {lo hi : Nat} (h : ¬ inB v (nI lo) (nI hi) = true) (h1 : lo < 2 ^ 31) (h2 : hi < 2 ^ 31) : v.toInt < (lo : Int) ∨ (hi : Int) < v.toInt := by
  have e1 : (nI lo).toInt = (lo : Int) := nI_toInt h1
  have e2 : (nI hi).toInt = (hi : Int) := nI_toInt h2
  simp only [inB, Int32.lt_iff_toInt_lt, e1, e2, decide_eq_true_eq] at h
  omega
def acV (x : Nat → Int32) (g : Nat → Int32) (jn cn : Nat) (k : Nat) : Int32 := match k with
  | 4 => nI (fb_ct (fun k => if false = true then clM g k else decide (gof g k 2 = 0)) cn)
  | 5 => nI (fb_ct (fun k => if true = true then clM g k else decide (gof g k 2 = 0)) cn)
  | 6 => g 4
  | 7 => g 5
  | 8 => g 6
  | 9 => isum (fun j => gby g j 1) jn
  | 10 => x 7
  | 11 => x 1
  | k => g k
def acM (x : Nat → Int32) (g : Nat → Int32) (jn cn : Nat) (v : Int32) : Int32 × (Nat → Int32) := if inB v (nI 0) (nI 11) = true then (acV x g jn cn v.toNatClampNeg, failX x 0) else (nI 0, failX x 1)

set_option maxHeartbeats 1000000 in
set_option maxRecDepth 100000 in
theorem c_X8_account (l : Launch) (D : va_G) (cA : Nat → ClassId) (A : Nat → Nat) (x : Nat → Int32) (f : Nat → Nat → Int32) (v : Int32) (jn cn : Nat) (hA : mInj A) (hj : f 0 0 = nI jn) (hjn : jn ≤ 9) (hc : f 0 1 = nI cn) (hcn : cn ≤ 10) : Met l yX8_account (gw yX8_account cX8_account 2 (some .int)) ({ frames := 3, cells := 0, slots := 0, locals := 66 } : Room) (gPc [.ref (A 0), .int (v)] (fun H => va_P D vwCl (mw cA A x f) H) D cA) (wrI (fun r H => r = (acM x (f 0) jn cn v).1 ∧ va_P D vwCl (mw cA A (acM x (f 0) jn cn v).2 f) H) (MA A)) 0 0 (MA A) := by
  refine gOf (by decide) (Nat.le_of_ble_eq_true rfl) ?_
  intro p e s m below meth c ls hx hb hml hr hlk hown hts hnm hP hK hl
  have hl : lv_has ls 2 [(0, .ref (A 0)), (1, .int (v))] := hl
  have hD : va_D (MA A) (mw cA A x f) := mD hA
  have hS : va_S (MA A) s.heap s.heap [] := va_S.rf
  refine lv_aload_n hx hb dX8_account_0 rfl (lv_at hl 0 rfl) ?_
  refine lv_iload_n hx hb dX8_account_1 rfl (lv_at hl 1 rfl) ?_
  refine lv_iconst (v := nI (0)) hx hb dX8_account_2 gc_0 ?_
  refine lv_bipush (v := nI (11)) hx hb dX8_account_3 gb_11 ?_
  refine rd_calle (va_runS (As := [.int (v), .int (nI (0)), .int (nI (11))]) (rest := [.ref (A 0)]) ⟨hx, hb, hml, hown, hts⟩ (c_X8_in l D cA (v) (nI (0)) (nI (11))) (cwS 3 hts (gWS gm_8_20 gm_8_21 gm_1_5 gm_8_22) rfl rfl rfl (by decide +kernel) ⟨Nat.le_of_ble_eq_true rfl, Nat.le_of_ble_eq_true rfl⟩) (gPreS hK trivial) rfl rfl hl.1 rfl (lv_room (Nat.le_of_ble_eq_true rfl)) dX8_account_5 ⟨by omega, by omega⟩) ?_
  refine g_if_eq (P := inB (v) (nI (0)) (nI (11)) = false) (tgt := 15) hx hb dX8_account_8 (by decide) b2i_0 (fun c_1 => ?_) (fun c_1 => ?_)
  · refine lv_iconst (v := nI (1)) hx hb dX8_account_15 gc_1 ?_
    refine wr_calli (va_runV (As := [.int (nI (1))]) (rest := []) ⟨hx, hb, hml, hown, hts⟩ (c_X8_fails l D cA A (x) (f) (1)  hA (by decide)) (cwV 1 hts (gWV gm_8_23 gm_9_0 gm_9_1 gm_1_5 gm_9_2) rfl rfl rfl (by decide +kernel) ⟨Nat.le_of_ble_eq_true rfl, Nat.le_of_ble_eq_true rfl⟩) (gPreV hK (g_rf hK hP (ci := 10) (q0 := 0) rfl rfl) hP) rfl rfl hl.1 rfl (lv_room (Nat.le_of_ble_eq_true rfl)) dX8_account_16 ⟨by omega, by omega⟩) hS (fun q _ h => h) (fun q h => h) (fun r H locs hw9 hz9 hk9 hS => ?_)
    obtain ⟨rfl, hP⟩ := hw9
    have hP : va_P D vwCl (mw cA A (upd (upd (x) 3 (nI (0))) 4 (nI (1))) (f)) H := hP
    have hD : va_D (MA A) (mw cA A (upd (upd (x) 3 (nI (0))) 4 (nI (1))) (f)) := mD hA
    refine g_if_eq (P := true = false) (tgt := 24) hx hb dX8_account_19 (by decide) b2i_0 (fun c_2 => ?_) (fun c_2 => ?_)
    · exact absurd c_2 (by decide)
    · have c_2 : true = true := eq_true_of_ne_false c_2
      refine lv_iconst (v := nI (0)) hx hb dX8_account_22 gc_0 ?_
      exact g_iretW (v := nI (0)) hx hb hr hlk hS dX8_account_23 (by rw [acM, if_neg (bnt c_1)]; exact ⟨rfl, hP⟩)
  · have c_1 : inB (v) (nI (0)) (nI (11)) = true := eq_true_of_ne_false c_1
    obtain ⟨k_3, hk_5, ek_4⟩ := inB_n c_1 (by decide)
    rw [ek_4] at hl
    have hl : lv_has ls 2 [(0, .ref (A 0)), (1, .int (nI (k_3)))] := hl
    refine lv_iconst (v := nI (0)) hx hb dX8_account_11 gc_0 ?_
    refine lv_goto (tgt := 16) hx hb dX8_account_12 (by decide) ?_
    refine wr_calli (va_runV (As := [.int (nI (0))]) (rest := []) ⟨hx, hb, hml, hown, hts⟩ (c_X8_fails l D cA A (x) (f) (0)  hA (by decide)) (cwV 1 hts (gWV gm_8_23 gm_9_0 gm_9_1 gm_1_5 gm_9_2) rfl rfl rfl (by decide +kernel) ⟨Nat.le_of_ble_eq_true rfl, Nat.le_of_ble_eq_true rfl⟩) (gPreV hK (g_rf hK hP (ci := 10) (q0 := 0) rfl rfl) hP) rfl rfl hl.1 rfl (lv_room (Nat.le_of_ble_eq_true rfl)) dX8_account_16 ⟨by omega, by omega⟩) hS (fun q _ h => h) (fun q h => h) (fun r H locs hw9 hz9 hk9 hS => ?_)
    obtain ⟨rfl, hP⟩ := hw9
    have hP : va_P D vwCl (mw cA A (upd (upd (x) 3 (nI (0))) 4 (nI (0))) (f)) H := hP
    have hD : va_D (MA A) (mw cA A (upd (upd (x) 3 (nI (0))) 4 (nI (0))) (f)) := mD hA
    refine g_if_eq (P := false = false) (tgt := 24) hx hb dX8_account_19 (by decide) b2i_0 (fun c_6 => ?_) (fun c_6 => ?_)
    · refine lv_iload_n hx hb dX8_account_24 rfl (lv_at hl 1 rfl) ?_
      have hsw_7 : k_3 = 0 ∨ k_3 = 1 ∨ k_3 = 2 ∨ k_3 = 3 ∨ k_3 = 4 ∨ k_3 = 5 ∨ k_3 = 6 ∨ k_3 = 7 ∨ k_3 = 8 ∨ k_3 = 9 ∨ k_3 = 10 ∨ k_3 = 11 := by omega
      rcases hsw_7 with rfl | rfl | rfl | rfl | rfl | rfl | rfl | rfl | rfl | rfl | rfl | rfl
      · refine lv_tableOut (tgt := 122) hx hb dX8_account_25 (by decide +kernel) (by decide) ?_
        refine lv_aload_n hx hb dX8_account_122 rfl (lv_at hl 0 rfl) ?_
        refine g_get (v := .ref (A 1)) hx hb hts hown hK hP 0 rfl rfl gu_wsX80 0 (by decide) gm_5_14 rfl dX8_account_123 ?_
        refine lv_iload_n hx hb dX8_account_126 rfl (lv_at hl 1 rfl) ?_
        refine g_iald (x := f 0 ((0))) hx hb hK hP 1 rfl (by omega) (by decide) rfl dX8_account_127 ?_
        exact g_iretW (v := f 0 ((0))) hx hb hr hlk hS dX8_account_128 (by have hq9 : v.toNatClampNeg = 0 := (by rw [ek_4]; decide +kernel); rw [acM, if_pos c_1, hq9]; exact ⟨rfl, hP⟩)
      · refine lv_tableOut (tgt := 122) hx hb dX8_account_25 (by decide +kernel) (by decide) ?_
        refine lv_aload_n hx hb dX8_account_122 rfl (lv_at hl 0 rfl) ?_
        refine g_get (v := .ref (A 1)) hx hb hts hown hK hP 0 rfl rfl gu_wsX80 0 (by decide) gm_5_14 rfl dX8_account_123 ?_
        refine lv_iload_n hx hb dX8_account_126 rfl (lv_at hl 1 rfl) ?_
        refine g_iald (x := f 0 ((1))) hx hb hK hP 1 rfl (by omega) (by decide) rfl dX8_account_127 ?_
        exact g_iretW (v := f 0 ((1))) hx hb hr hlk hS dX8_account_128 (by have hq9 : v.toNatClampNeg = 1 := (by rw [ek_4]; decide +kernel); rw [acM, if_pos c_1, hq9]; exact ⟨rfl, hP⟩)
      · refine lv_tableOut (tgt := 122) hx hb dX8_account_25 (by decide +kernel) (by decide) ?_
        refine lv_aload_n hx hb dX8_account_122 rfl (lv_at hl 0 rfl) ?_
        refine g_get (v := .ref (A 1)) hx hb hts hown hK hP 0 rfl rfl gu_wsX80 0 (by decide) gm_5_14 rfl dX8_account_123 ?_
        refine lv_iload_n hx hb dX8_account_126 rfl (lv_at hl 1 rfl) ?_
        refine g_iald (x := f 0 ((2))) hx hb hK hP 1 rfl (by omega) (by decide) rfl dX8_account_127 ?_
        exact g_iretW (v := f 0 ((2))) hx hb hr hlk hS dX8_account_128 (by have hq9 : v.toNatClampNeg = 2 := (by rw [ek_4]; decide +kernel); rw [acM, if_pos c_1, hq9]; exact ⟨rfl, hP⟩)
      · refine lv_tableOut (tgt := 122) hx hb dX8_account_25 (by decide +kernel) (by decide) ?_
        refine lv_aload_n hx hb dX8_account_122 rfl (lv_at hl 0 rfl) ?_
        refine g_get (v := .ref (A 1)) hx hb hts hown hK hP 0 rfl rfl gu_wsX80 0 (by decide) gm_5_14 rfl dX8_account_123 ?_
        refine lv_iload_n hx hb dX8_account_126 rfl (lv_at hl 1 rfl) ?_
        refine g_iald (x := f 0 ((3))) hx hb hK hP 1 rfl (by omega) (by decide) rfl dX8_account_127 ?_
        exact g_iretW (v := f 0 ((3))) hx hb hr hlk hS dX8_account_128 (by have hq9 : v.toNatClampNeg = 3 := (by rw [ek_4]; decide +kernel); rw [acM, if_pos c_1, hq9]; exact ⟨rfl, hP⟩)
      · refine lv_tableIn (off := 47) (tgt := 72) hx hb dX8_account_25 (by decide +kernel) (by decide +kernel) (by decide +kernel) (by decide) ?_
        refine lv_aload_n hx hb dX8_account_72 rfl (lv_at hl 0 rfl) ?_
        refine lv_iconst (v := nI (0)) hx hb dX8_account_73 gc_0 ?_
        refine rd_calle (va_runV (As := [.int (nI (0))]) (rest := []) ⟨hx, hb, hml, hown, hts⟩ (c_X8_cases l D cA A (upd (upd (x) 3 (nI (0))) 4 (nI (0))) (f) false cn hc hcn) (cwV 1 hts (gWV gm_49_22 gm_49_23 gm_50_0 gm_1_5 gm_50_1) rfl rfl rfl (by decide +kernel) ⟨Nat.le_of_ble_eq_true rfl, Nat.le_of_ble_eq_true rfl⟩) (gPreV hK (g_rf hK hP (ci := 10) (q0 := 0) rfl rfl) hP) rfl rfl hl.1 rfl (lv_room (Nat.le_of_ble_eq_true rfl)) dX8_account_74 ⟨by omega, by omega⟩) ?_
        exact g_iretW (v := nI (fb_ct (fun k => if false = true then clM (f 0) k else decide (gof (f 0) k 2 = 0)) cn)) hx hb hr hlk hS dX8_account_77 (by have hq9 : v.toNatClampNeg = 4 := (by rw [ek_4]; decide +kernel); rw [acM, if_pos c_1, hq9]; exact ⟨rfl, hP⟩)
      · refine lv_tableIn (off := 53) (tgt := 78) hx hb dX8_account_25 (by decide +kernel) (by decide +kernel) (by decide +kernel) (by decide) ?_
        refine lv_aload_n hx hb dX8_account_78 rfl (lv_at hl 0 rfl) ?_
        refine lv_iconst (v := nI (1)) hx hb dX8_account_79 gc_1 ?_
        refine rd_calle (va_runV (As := [.int (nI (1))]) (rest := []) ⟨hx, hb, hml, hown, hts⟩ (c_X8_cases l D cA A (upd (upd (x) 3 (nI (0))) 4 (nI (0))) (f) true cn hc hcn) (cwV 1 hts (gWV gm_49_22 gm_49_23 gm_50_0 gm_1_5 gm_50_1) rfl rfl rfl (by decide +kernel) ⟨Nat.le_of_ble_eq_true rfl, Nat.le_of_ble_eq_true rfl⟩) (gPreV hK (g_rf hK hP (ci := 10) (q0 := 0) rfl rfl) hP) rfl rfl hl.1 rfl (lv_room (Nat.le_of_ble_eq_true rfl)) dX8_account_80 ⟨by omega, by omega⟩) ?_
        exact g_iretW (v := nI (fb_ct (fun k => if true = true then clM (f 0) k else decide (gof (f 0) k 2 = 0)) cn)) hx hb hr hlk hS dX8_account_83 (by have hq9 : v.toNatClampNeg = 5 := (by rw [ek_4]; decide +kernel); rw [acM, if_pos c_1, hq9]; exact ⟨rfl, hP⟩)
      · refine lv_tableIn (off := 59) (tgt := 84) hx hb dX8_account_25 (by decide +kernel) (by decide +kernel) (by decide +kernel) (by decide) ?_
        refine lv_aload_n hx hb dX8_account_84 rfl (lv_at hl 0 rfl) ?_
        refine g_get (v := .ref (A 1)) hx hb hts hown hK hP 0 rfl rfl gu_wsX80 0 (by decide) gm_5_14 rfl dX8_account_85 ?_
        refine lv_iconst (v := nI (4)) hx hb dX8_account_88 gc_4 ?_
        refine g_iald (x := f 0 (4)) hx hb hK hP 1 rfl (by omega) (by decide) rfl dX8_account_89 ?_
        exact g_iretW (v := f 0 (4)) hx hb hr hlk hS dX8_account_90 (by have hq9 : v.toNatClampNeg = 6 := (by rw [ek_4]; decide +kernel); rw [acM, if_pos c_1, hq9]; exact ⟨rfl, hP⟩)
      · refine lv_tableIn (off := 66) (tgt := 91) hx hb dX8_account_25 (by decide +kernel) (by decide +kernel) (by decide +kernel) (by decide) ?_
        refine lv_aload_n hx hb dX8_account_91 rfl (lv_at hl 0 rfl) ?_
        refine g_get (v := .ref (A 1)) hx hb hts hown hK hP 0 rfl rfl gu_wsX80 0 (by decide) gm_5_14 rfl dX8_account_92 ?_
        refine lv_iconst (v := nI (5)) hx hb dX8_account_95 gc_5 ?_
        refine g_iald (x := f 0 (5)) hx hb hK hP 1 rfl (by omega) (by decide) rfl dX8_account_96 ?_
        exact g_iretW (v := f 0 (5)) hx hb hr hlk hS dX8_account_97 (by have hq9 : v.toNatClampNeg = 7 := (by rw [ek_4]; decide +kernel); rw [acM, if_pos c_1, hq9]; exact ⟨rfl, hP⟩)
      · refine lv_tableIn (off := 73) (tgt := 98) hx hb dX8_account_25 (by decide +kernel) (by decide +kernel) (by decide +kernel) (by decide) ?_
        refine lv_aload_n hx hb dX8_account_98 rfl (lv_at hl 0 rfl) ?_
        refine g_get (v := .ref (A 1)) hx hb hts hown hK hP 0 rfl rfl gu_wsX80 0 (by decide) gm_5_14 rfl dX8_account_99 ?_
        refine lv_bipush (v := nI (6)) hx hb dX8_account_102 gb_6 ?_
        refine g_iald (x := f 0 (6)) hx hb hK hP 1 rfl (by omega) (by decide) rfl dX8_account_104 ?_
        exact g_iretW (v := f 0 (6)) hx hb hr hlk hS dX8_account_105 (by have hq9 : v.toNatClampNeg = 8 := (by rw [ek_4]; decide +kernel); rw [acM, if_pos c_1, hq9]; exact ⟨rfl, hP⟩)
      · refine lv_tableIn (off := 81) (tgt := 106) hx hb dX8_account_25 (by decide +kernel) (by decide +kernel) (by decide +kernel) (by decide) ?_
        refine lv_aload_n hx hb dX8_account_106 rfl (lv_at hl 0 rfl) ?_
        refine lv_iconst (v := nI (1)) hx hb dX8_account_107 gc_1 ?_
        refine rd_calle (va_runV (As := [.int (nI (1))]) (rest := []) ⟨hx, hb, hml, hown, hts⟩ (c_X8_summed l D cA A (upd (upd (x) 3 (nI (0))) 4 (nI (0))) (f) (1) jn hj hjn (by omega)) (cwV 1 hts (gWV gm_50_2 gm_50_3 gm_50_4 gm_1_5 gm_50_5) rfl rfl rfl (by decide +kernel) ⟨Nat.le_of_ble_eq_true rfl, Nat.le_of_ble_eq_true rfl⟩) (gPreV hK (g_rf hK hP (ci := 10) (q0 := 0) rfl rfl) hP) rfl rfl hl.1 rfl (lv_room (Nat.le_of_ble_eq_true rfl)) dX8_account_108 ⟨by omega, by omega⟩) ?_
        exact g_iretW (v := isum (fun j => gby (f 0) j (1)) jn) hx hb hr hlk hS dX8_account_111 (by have hq9 : v.toNatClampNeg = 9 := (by rw [ek_4]; decide +kernel); rw [acM, if_pos c_1, hq9]; exact ⟨rfl, hP⟩)
      · refine lv_tableIn (off := 87) (tgt := 112) hx hb dX8_account_25 (by decide +kernel) (by decide +kernel) (by decide +kernel) (by decide) ?_
        refine lv_aload_n hx hb dX8_account_112 rfl (lv_at hl 0 rfl) ?_
        refine g_get (v := .int (x 7)) hx hb hts hown hK hP 0 rfl rfl gu_wsX80 12 (by decide) gm_39_10 rfl dX8_account_113 ?_
        exact g_iretW (v := x 7) hx hb hr hlk hS dX8_account_116 (by have hq9 : v.toNatClampNeg = 10 := (by rw [ek_4]; decide +kernel); rw [acM, if_pos c_1, hq9]; exact ⟨rfl, hP⟩)
      · refine lv_tableIn (off := 92) (tgt := 117) hx hb dX8_account_25 (by decide +kernel) (by decide +kernel) (by decide +kernel) (by decide) ?_
        refine lv_aload_n hx hb dX8_account_117 rfl (lv_at hl 0 rfl) ?_
        refine g_get (v := .int (x 1)) hx hb hts hown hK hP 0 rfl rfl gu_wsX80 5 (by decide) gm_9_16 rfl dX8_account_118 ?_
        exact g_iretW (v := x 1) hx hb hr hlk hS dX8_account_121 (by have hq9 : v.toNatClampNeg = 11 := (by rw [ek_4]; decide +kernel); rw [acM, if_pos c_1, hq9]; exact ⟨rfl, hP⟩)
    · exact absurd c_6 (by decide)

def crM (x : Nat → Int32) (f : Nat → Nat → Int32) (jn cn clk ton : Nat) (w : Bool) (ch : Nat) (p k : Nat) : Int32 × MX := match k with
  | 0 => jrM x f jn w ch (f 8 (p + 1)) (f 8 (p + 2))
  | 1 => brM x f cn w ch (f 8 (p + 1)) (f 8 (p + 2))
  | 2 => caM x f jn cn w ch (f 8 (p + 1))
  | 3 => voM x f jn cn w ch (f 8 (p + 1))
  | 4 => usM x f jn cn w ch (f 8 (p + 1))
  | 5 => apM x f jn cn w ch (f 8 (p + 1))
  | 6 => ckM x f clk w ch
  | _ => ngM x f jn cn clk ton w ch

set_option maxHeartbeats 1000000 in
set_option maxRecDepth 100000 in
theorem c_X8_carries (l : Launch) (D : va_G) (cA : Nat → ClassId) (A : Nat → Nat) (x : Nat → Int32) (f : Nat → Nat → Int32) (jn cn clk ton : Nat) (w : Bool) (ch p9 k9 : Nat) (hA : mInj A) (hj : f 0 0 = nI jn) (hjn : jn ≤ 9) (hc : f 0 1 = nI cn) (hcn : cn ≤ 10) (hclk : f 0 2 = nI clk) (hc4 : clk ≤ 4) (hton : f 0 3 = nI ton) (ht99 : ton ≤ 99) (hw : x 2 = b2i w) (hch : x 1 = nI ch) (hc8 : ch ≤ 8) (hlow : ∀ q, q < cn → ¬ gof (f 0) q 2 = 0 → ∃ j, fnd (hs (gof (f 0) q 2)) 9 = some j) (hp9 : p9 + 2 < 93) (hk9 : f 8 p9 = nI k9) (hk7 : k9 ≤ 7) : Met l yX8_carries (gw yX8_carries cX8_carries 3 (some .int)) ({ frames := 6, cells := 0, slots := 0, locals := 138 } : Room) (gPc [.ref (A 0), .int (nI (p9))] (fun H => va_P D vwCl (mw cA A x f) H) D cA) (wrI (fun r H => r = (crM x f jn cn clk ton w ch p9 k9).1 ∧ va_P D vwCl (mw cA A (crM x f jn cn clk ton w ch p9 k9).2.1 (crM x f jn cn clk ton w ch p9 k9).2.2) H) (MA A)) 0 0 (MA A) := by
  refine gOf (by decide) (Nat.le_of_ble_eq_true rfl) ?_
  intro p e s m below meth c ls hx hb hml hr hlk hown hts hnm hP hK hl
  have hl : lv_has ls 3 [(0, .ref (A 0)), (1, .int (nI (p9)))] := hl
  have hD : va_D (MA A) (mw cA A x f) := mD hA
  have hS : va_S (MA A) s.heap s.heap [] := va_S.rf
  refine lv_aload_n hx hb dX8_carries_0 rfl (lv_at hl 0 rfl) ?_
  refine g_get (v := .ref (A 9)) hx hb hts hown hK hP 0 rfl rfl gu_wsX80 19 (by decide) gm_5_23 rfl dX8_carries_1 ?_
  refine lv_iload_n hx hb dX8_carries_4 rfl (lv_at hl 1 rfl) ?_
  refine lv_iconst (v := nI (1)) hx hb dX8_carries_5 gc_1 ?_
  refine g_iadd hx hb dX8_carries_6 ?_
  refine g_iald (x := f 8 (p9 + 1)) hx hb hK hP 9 rfl (by omega) (by decide) rfl dX8_carries_7 ?_
  refine lv_istore_n (lv' := [(2, .int (f 8 (p9 + 1))), (0, .ref (A 0)), (1, .int (nI (p9)))]) hx hb dX8_carries_8 rfl hl (by decide) rfl (fun ls hl => ?_)
  refine lv_aload_n hx hb dX8_carries_9 rfl (lv_at hl 1 rfl) ?_
  refine g_get (v := .ref (A 9)) hx hb hts hown hK hP 0 rfl rfl gu_wsX80 19 (by decide) gm_5_23 rfl dX8_carries_10 ?_
  refine lv_iload_n hx hb dX8_carries_13 rfl (lv_at hl 2 rfl) ?_
  refine g_iald (x := nI (k9)) hx hb hK hP 9 rfl (by omega) (by decide) hk9 dX8_carries_14 ?_
  have hsw_1 : k9 = 0 ∨ k9 = 1 ∨ k9 = 2 ∨ k9 = 3 ∨ k9 = 4 ∨ k9 = 5 ∨ k9 = 6 ∨ k9 = 7 := by omega
  rcases hsw_1 with rfl | rfl | rfl | rfl | rfl | rfl | rfl | rfl
  · refine lv_tableIn (off := 41) (tgt := 56) hx hb dX8_carries_15 (by decide +kernel) (by decide +kernel) (by decide +kernel) (by decide) ?_
    refine lv_aload_n hx hb dX8_carries_56 rfl (lv_at hl 1 rfl) ?_
    refine lv_iload_n hx hb dX8_carries_57 rfl (lv_at hl 0 rfl) ?_
    refine lv_aload_n hx hb dX8_carries_58 rfl (lv_at hl 1 rfl) ?_
    refine g_get (v := .ref (A 9)) hx hb hts hown hK hP 0 rfl rfl gu_wsX80 19 (by decide) gm_5_23 rfl dX8_carries_59 ?_
    refine lv_iload_n hx hb dX8_carries_62 rfl (lv_at hl 2 rfl) ?_
    refine lv_iconst (v := nI (2)) hx hb dX8_carries_63 gc_2 ?_
    refine g_iadd hx hb dX8_carries_64 ?_
    refine g_iald (x := f 8 (p9 + 2)) hx hb hK hP 9 rfl (by omega) (by decide) rfl dX8_carries_65 ?_
    refine wr_calli (va_runV (As := [.int (f 8 (p9 + 1)), .int (f 8 (p9 + 2))]) (rest := []) ⟨hx, hb, hml, hown, hts⟩ (c_X8_juror l D cA A (x) (f) (f 8 (p9 + 1)) (f 8 (p9 + 2)) jn w ch hA hj hjn hw hch hc8) (cwV 2 hts (gWV gm_47_9 gm_8_17 gm_8_18 gm_1_5 gm_8_19) rfl rfl rfl (by decide +kernel) ⟨Nat.le_of_ble_eq_true rfl, Nat.le_of_ble_eq_true rfl⟩) (gPreV hK (g_rf hK hP (ci := 10) (q0 := 0) rfl rfl) hP) rfl rfl hl.1 rfl (lv_room (Nat.le_of_ble_eq_true rfl)) dX8_carries_66 ⟨by omega, by omega⟩) hS (fun q _ h => h) (fun q h => h) (fun r H locs hw9 hz9 hk9 hS => ?_)
    obtain ⟨rfl, hP⟩ := hw9
    exact g_iretW (v := (jrM (x) (f) jn w ch (f 8 (p9 + 1)) (f 8 (p9 + 2))).1) hx hb hr hlk hS dX8_carries_69 (⟨rfl, hP⟩)
  · refine lv_tableIn (off := 55) (tgt := 70) hx hb dX8_carries_15 (by decide +kernel) (by decide +kernel) (by decide +kernel) (by decide) ?_
    refine lv_aload_n hx hb dX8_carries_70 rfl (lv_at hl 1 rfl) ?_
    refine lv_iload_n hx hb dX8_carries_71 rfl (lv_at hl 0 rfl) ?_
    refine lv_aload_n hx hb dX8_carries_72 rfl (lv_at hl 1 rfl) ?_
    refine g_get (v := .ref (A 9)) hx hb hts hown hK hP 0 rfl rfl gu_wsX80 19 (by decide) gm_5_23 rfl dX8_carries_73 ?_
    refine lv_iload_n hx hb dX8_carries_76 rfl (lv_at hl 2 rfl) ?_
    refine lv_iconst (v := nI (2)) hx hb dX8_carries_77 gc_2 ?_
    refine g_iadd hx hb dX8_carries_78 ?_
    refine g_iald (x := f 8 (p9 + 2)) hx hb hK hP 9 rfl (by omega) (by decide) rfl dX8_carries_79 ?_
    refine wr_calli (va_runV (As := [.int (f 8 (p9 + 1)), .int (f 8 (p9 + 2))]) (rest := []) ⟨hx, hb, hml, hown, hts⟩ (c_X8_bring l D cA A (x) (f) (f 8 (p9 + 1)) (f 8 (p9 + 2)) cn w ch hA hc hcn hw hch hc8) (cwV 2 hts (gWV gm_47_10 gm_10_22 gm_10_23 gm_1_5 gm_11_0) rfl rfl rfl (by decide +kernel) ⟨Nat.le_of_ble_eq_true rfl, Nat.le_of_ble_eq_true rfl⟩) (gPreV hK (g_rf hK hP (ci := 10) (q0 := 0) rfl rfl) hP) rfl rfl hl.1 rfl (lv_room (Nat.le_of_ble_eq_true rfl)) dX8_carries_80 ⟨by omega, by omega⟩) hS (fun q _ h => h) (fun q h => h) (fun r H locs hw9 hz9 hk9 hS => ?_)
    obtain ⟨rfl, hP⟩ := hw9
    exact g_iretW (v := (brM (x) (f) cn w ch (f 8 (p9 + 1)) (f 8 (p9 + 2))).1) hx hb hr hlk hS dX8_carries_83 (⟨rfl, hP⟩)
  · refine lv_tableIn (off := 69) (tgt := 84) hx hb dX8_carries_15 (by decide +kernel) (by decide +kernel) (by decide +kernel) (by decide) ?_
    refine lv_aload_n hx hb dX8_carries_84 rfl (lv_at hl 1 rfl) ?_
    refine lv_iload_n hx hb dX8_carries_85 rfl (lv_at hl 0 rfl) ?_
    refine wr_calli (va_runV (As := [.int (f 8 (p9 + 1))]) (rest := []) ⟨hx, hb, hml, hown, hts⟩ (c_X8_call l D cA A (x) (f) (f 8 (p9 + 1)) jn cn w ch hA hj hjn hc hcn hw hch hc8 hlow) (cwV 1 hts (gWV gm_47_11 gm_13_20 gm_13_21 gm_1_5 gm_13_22) rfl rfl rfl (by decide +kernel) ⟨Nat.le_of_ble_eq_true rfl, Nat.le_of_ble_eq_true rfl⟩) (gPreV hK (g_rf hK hP (ci := 10) (q0 := 0) rfl rfl) hP) rfl rfl hl.1 rfl (lv_room (Nat.le_of_ble_eq_true rfl)) dX8_carries_86 ⟨by omega, by omega⟩) hS (fun q _ h => h) (fun q h => h) (fun r H locs hw9 hz9 hk9 hS => ?_)
    obtain ⟨rfl, hP⟩ := hw9
    exact g_iretW (v := (caM (x) (f) jn cn w ch (f 8 (p9 + 1))).1) hx hb hr hlk hS dX8_carries_89 (⟨rfl, hP⟩)
  · refine lv_tableIn (off := 75) (tgt := 90) hx hb dX8_carries_15 (by decide +kernel) (by decide +kernel) (by decide +kernel) (by decide) ?_
    refine lv_aload_n hx hb dX8_carries_90 rfl (lv_at hl 1 rfl) ?_
    refine lv_iload_n hx hb dX8_carries_91 rfl (lv_at hl 0 rfl) ?_
    refine wr_calli (va_runV (As := [.int (f 8 (p9 + 1))]) (rest := []) ⟨hx, hb, hml, hown, hts⟩ (c_X8_vote l D cA A (x) (f) (f 8 (p9 + 1)) jn cn w ch hA hj hjn hc hcn hw hch hc8) (cwV 1 hts (gWV gm_47_12 gm_17_16 gm_17_17 gm_1_5 gm_17_18) rfl rfl rfl (by decide +kernel) ⟨Nat.le_of_ble_eq_true rfl, Nat.le_of_ble_eq_true rfl⟩) (gPreV hK (g_rf hK hP (ci := 10) (q0 := 0) rfl rfl) hP) rfl rfl hl.1 rfl (lv_room (Nat.le_of_ble_eq_true rfl)) dX8_carries_92 ⟨by omega, by omega⟩) hS (fun q _ h => h) (fun q h => h) (fun r H locs hw9 hz9 hk9 hS => ?_)
    obtain ⟨rfl, hP⟩ := hw9
    exact g_iretW (v := (voM (x) (f) jn cn w ch (f 8 (p9 + 1))).1) hx hb hr hlk hS dX8_carries_95 (⟨rfl, hP⟩)
  · refine lv_tableIn (off := 81) (tgt := 96) hx hb dX8_carries_15 (by decide +kernel) (by decide +kernel) (by decide +kernel) (by decide) ?_
    refine lv_aload_n hx hb dX8_carries_96 rfl (lv_at hl 1 rfl) ?_
    refine lv_iload_n hx hb dX8_carries_97 rfl (lv_at hl 0 rfl) ?_
    refine wr_calli (va_runV (As := [.int (f 8 (p9 + 1))]) (rest := []) ⟨hx, hb, hml, hown, hts⟩ (c_X8_unsay l D cA A (x) (f) (f 8 (p9 + 1)) jn cn w ch hA hj hjn hc hcn hw hch hc8) (cwV 1 hts (gWV gm_47_13 gm_19_20 gm_19_21 gm_1_5 gm_19_22) rfl rfl rfl (by decide +kernel) ⟨Nat.le_of_ble_eq_true rfl, Nat.le_of_ble_eq_true rfl⟩) (gPreV hK (g_rf hK hP (ci := 10) (q0 := 0) rfl rfl) hP) rfl rfl hl.1 rfl (lv_room (Nat.le_of_ble_eq_true rfl)) dX8_carries_98 ⟨by omega, by omega⟩) hS (fun q _ h => h) (fun q h => h) (fun r H locs hw9 hz9 hk9 hS => ?_)
    obtain ⟨rfl, hP⟩ := hw9
    exact g_iretW (v := (usM (x) (f) jn cn w ch (f 8 (p9 + 1))).1) hx hb hr hlk hS dX8_carries_101 (⟨rfl, hP⟩)
  · refine lv_tableIn (off := 87) (tgt := 102) hx hb dX8_carries_15 (by decide +kernel) (by decide +kernel) (by decide +kernel) (by decide) ?_
    refine lv_aload_n hx hb dX8_carries_102 rfl (lv_at hl 1 rfl) ?_
    refine lv_iload_n hx hb dX8_carries_103 rfl (lv_at hl 0 rfl) ?_
    refine wr_calli (va_runV (As := [.int (f 8 (p9 + 1))]) (rest := []) ⟨hx, hb, hml, hown, hts⟩ (c_X8_appeal l D cA A (x) (f) (f 8 (p9 + 1)) jn cn w ch hA hj hjn hc hcn hw hch hc8) (cwV 1 hts (gWV gm_47_14 gm_21_5 gm_21_6 gm_1_5 gm_21_7) rfl rfl rfl (by decide +kernel) ⟨Nat.le_of_ble_eq_true rfl, Nat.le_of_ble_eq_true rfl⟩) (gPreV hK (g_rf hK hP (ci := 10) (q0 := 0) rfl rfl) hP) rfl rfl hl.1 rfl (lv_room (Nat.le_of_ble_eq_true rfl)) dX8_carries_104 ⟨by omega, by omega⟩) hS (fun q _ h => h) (fun q h => h) (fun r H locs hw9 hz9 hk9 hS => ?_)
    obtain ⟨rfl, hP⟩ := hw9
    exact g_iretW (v := (apM (x) (f) jn cn w ch (f 8 (p9 + 1))).1) hx hb hr hlk hS dX8_carries_107 (⟨rfl, hP⟩)
  · refine lv_tableIn (off := 93) (tgt := 108) hx hb dX8_carries_15 (by decide +kernel) (by decide +kernel) (by decide +kernel) (by decide) ?_
    refine lv_aload_n hx hb dX8_carries_108 rfl (lv_at hl 1 rfl) ?_
    refine wr_calli (va_runV (As := []) (rest := []) ⟨hx, hb, hml, hown, hts⟩ (c_X8_clerk l D cA A (x) (f)  clk w ch hA hclk hc4 hw hch hc8) (cwV 0 hts (gWV gm_47_15 gm_22_6 gm_22_7 gm_1_5 gm_22_8) rfl rfl rfl (by decide +kernel) ⟨Nat.le_of_ble_eq_true rfl, Nat.le_of_ble_eq_true rfl⟩) (gPreV hK (g_rf hK hP (ci := 10) (q0 := 0) rfl rfl) hP) rfl rfl hl.1 rfl (lv_room (Nat.le_of_ble_eq_true rfl)) dX8_carries_109 ⟨by omega, by omega⟩) hS (fun q _ h => h) (fun q h => h) (fun r H locs hw9 hz9 hk9 hS => ?_)
    obtain ⟨rfl, hP⟩ := hw9
    exact g_iretW (v := (ckM (x) (f) clk w ch).1) hx hb hr hlk hS dX8_carries_112 (⟨rfl, hP⟩)
  · refine lv_tableOut (tgt := 113) hx hb dX8_carries_15 (by decide +kernel) (by decide) ?_
    refine lv_aload_n hx hb dX8_carries_113 rfl (lv_at hl 1 rfl) ?_
    refine wr_calli (va_runV (As := []) (rest := []) ⟨hx, hb, hml, hown, hts⟩ (c_X8_night l D cA A (x) (f)  jn cn clk ton w ch hA hj hjn hc hcn hclk hc4 hton ht99 hw hch hc8) (cwV 0 hts (gWV gm_47_16 gm_23_15 gm_23_16 gm_1_5 gm_23_17) rfl rfl rfl (by decide +kernel) ⟨Nat.le_of_ble_eq_true rfl, Nat.le_of_ble_eq_true rfl⟩) (gPreV hK (g_rf hK hP (ci := 10) (q0 := 0) rfl rfl) hP) rfl rfl hl.1 rfl (lv_room (Nat.le_of_ble_eq_true rfl)) dX8_carries_114 ⟨by omega, by omega⟩) hS (fun q _ h => h) (fun q h => h) (fun r H locs hw9 hz9 hk9 hS => ?_)
    obtain ⟨rfl, hP⟩ := hw9
    exact g_iretW (v := (ngM (x) (f) jn cn clk ton w ch).1) hx hb hr hlk hS dX8_carries_117 (⟨rfl, hP⟩)

