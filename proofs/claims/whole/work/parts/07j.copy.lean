theorem pSetI {D : va_G} {ws : va_W} {q a n : Nat} {cA : ClassId} {g g' : Nat → Int32} {H : Heap} (h : va_P D vwCl (ws.set q (a, .inl (cA, n, .inl g))) H) (e : ∀ j, j < n → g j = g' j) : va_P D vwCl (ws.set q (a, .inl (cA, n, .inl g'))) H := by
  intro k x hx
  rw [List.getElem?_set] at hx
  by_cases hk : q = k
  · rw [if_pos hk] at hx
    by_cases hl : q < ws.length
    · rw [if_pos hl] at hx
      cases hx
      exact va_at_i (h q (a, .inl (cA, n, .inl g)) (by rw [List.getElem?_set, if_pos rfl, if_pos hl])) e
    · rw [if_neg hl] at hx; cases hx
  · rw [if_neg hk] at hx
    exact h k x (by rw [List.getElem?_set, if_neg hk]; exact hx)
theorem g_copy {p : Program} {l : Launch} {e : Env} {R : Room} {s : State} {m : MethodId} {args : Array Value} {below : List Frame} {meth : Method} {c : Code} {H : Heap} {locs : List Loc} {cells slots : Nat} {Q : State → Prop} {cc : ByteArray} {pc : Nat} {ls : Array Slot} {rest : List Value} {H0 : Heap} {own : String} {index : Nat} {y : MethodName} {b : ByteArray} {n9 : Nat} {r9 : Option FieldType} {D : va_G} {cA : Nat → ClassId} {ws ws' : va_W} {a0 a len : Nat} {f g : Nat → Int32} {A : Nat → Prop} (hx : p.tables.exec = Jvm.exec) (hb : c.code = cc) (hml : c.maxLocals = ls.size) (hts : ∀ w ∈ gw y b n9 r9, w.before args s = true) (hown : s.vm.findClass own = some m.cls) (hlink : Cond.methodLink own index arraycopyName ∈ gG) (hK : gK D cA s) (hP : va_P D vwCl ws H) (hD : va_D A ws) (hS : va_S A H0 H locs) (q0 q1 : Nat) (ha0 : ws[q0]? = some (a0, .inl (cA 0, len, .inl f))) (ha1 : ws[q1]? = some (a, .inl (cA 0, len, .inl g))) (hlen : len < 2 ^ 31) (hw : ws.set q1 (a, .inl (cA 0, len, .inl f)) = ws') (hfr : 1 ≤ R.frames) (hlo : (rest.map fun v => v.category).sum + (nativeFrameWords "java/lang/System" "arraycopy" 5 + 11) ≤ R.locals) (hdg : decode cc pc = .ok (.invokestatic index, 3))
    (kk : ∀ (H1 : Heap) (locs1 : List Loc), va_P D vwCl ws' H1 → va_D A ws' → va_S A H0 H1 locs1 → W p l e R s m args below meth c H1 locs1 cells slots Q (F0 m (pc + 3) ls rest)) : W p l e R s m args below meth c H locs cells slots Q (F0 m pc ls (.int (nI len) :: .int (nI 0) :: .ref a :: .int (nI 0) :: .ref a0 :: rest)) := by
  have e0 : (nI 0).toNatClampNeg = 0 := nI_clamp (by decide)
  have el : (nI len).toNatClampNeg = len := nI_clamp hlen
  have h0 : ¬ nI 0 < 0 := by decide
  subst hw
  refine va_copyi hx hb hml hown (hts _ (List.mem_cons_of_mem _ hlink)) (hts _ (List.mem_cons_of_mem _ gm_7_20)) (hts _ (List.mem_cons_of_mem _ gm_7_21)) (hts _ (List.mem_cons_of_mem _ gm_7_22)) hK.1 hP hD hS q0 q1 0 0 ha0 ha1 rfl rfl rfl h0 h0 (nI_pos hlen) (by rw [e0, el]; omega) (by rw [e0, el]; omega) (fun _ _ => rfl) hfr hlo hdg (fun H1 locs1 hP1 hD1 hS1 => ?_)
  rw [e0, el] at hP1
  exact kk H1 locs1 (pSetI hP1 (fun j hj => by show (if 0 ≤ j ∧ j < 0 + len then f (0 + (j - 0)) else g j) = f j; rw [if_pos (by omega)]; congr 1; omega)) (hD.set ha1) hS1
theorem aInj_m {n m : Nat} {A : Nat → Nat} (h : aInj n A) (σ : Nat → Nat) (h1 : ∀ i, i < m → σ i < n) (h2 : ∀ i j, i < m → j < m → σ i = σ j → i = j) : aInj m (fun k => A (σ k)) := fun i j hi hj e => h2 i j hi hj (h (σ i) (σ j) (h1 i hi) (h1 j hj) e)
theorem aS_m {n m : Nat} {A : Nat → Nat} {σ : Nat → Nat} (h1 : ∀ i, i < m → σ i < n) {q : Nat} (h : aS m (fun k => A (σ k)) q) : aS n A q := by
  obtain ⟨k, hk, e⟩ := h
  exact ⟨σ k, h1 k hk, e⟩
theorem aS_mno {n m i : Nat} {A : Nat → Nat} {σ : Nat → Nat} (h : aInj n A) (h1 : ∀ i, i < m → σ i < n) (hi : i < n) (hx : ∀ k, k < m → σ k ≠ i) : ¬ aS m (fun k => A (σ k)) (A i) := by
  intro ⟨k, hk, e⟩
  exact hx k hk (h i (σ k) hi (h1 k hk) e).symm
def jjw (cA : Nat → ClassId) (B : Nat → Nat) (jf : Nat → Nat → Int32) (jn : Nat) (jg : Nat → Nat → Int32) (jm : Nat) : va_W := jw cA B jf jn ++ jw cA (fun k => B (k + 5)) jg jm
def kkw (cA : Nat → ClassId) (B : Nat → Nat) (kf : Nat → Nat → Int32) (rw : Nat → Nat) (cn rl : Nat) (kg : Nat → Nat → Int32) (rx : Nat → Nat) (cm rm : Nat) : va_W := kw cA B kf rw cn rl ++ kw cA (fun k => B (k + 10)) kg rx cm rm
def ccw (cA : Nat → ClassId) (B : Nat → Nat) (z y : CS) : va_W := cz cA B z ++ cz cA (fun k => B (k + 16)) y
theorem jjwD {cA : Nat → ClassId} {B : Nat → Nat} {jf : Nat → Nat → Int32} {jn : Nat} {jg : Nat → Nat → Int32} {jm : Nat} (h : aInj 10 B) : va_D (aS 10 B) (jjw cA B jf jn jg jm) := wD h rfl
theorem kkwD {cA : Nat → ClassId} {B : Nat → Nat} {kf : Nat → Nat → Int32} {rw : Nat → Nat} {cn rl : Nat} {kg : Nat → Nat → Int32} {rx : Nat → Nat} {cm rm : Nat} (h : aInj 20 B) : va_D (aS 20 B) (kkw cA B kf rw cn rl kg rx cm rm) := wD h rfl
theorem ccwD {cA : Nat → ClassId} {B : Nat → Nat} {z y : CS} (h : aInj 32 B) : va_D (aS 32 B) (ccw cA B z y) := wD h rfl

set_option maxHeartbeats 1000000 in
set_option maxRecDepth 100000 in
theorem c_X3_copyFrom (l : Launch) (D : va_G) (cA : Nat → ClassId) (B : Nat → Nat) (jf : Nat → Nat → Int32) (jn : Nat) (jg : Nat → Nat → Int32) (jm : Nat) (hA : aInj 10 B)  : Met l yX3_copyFrom (gw yX3_copyFrom cX3_copyFrom 2 none) ({ frames := 1, cells := 0, slots := 0, locals := 60 } : Room) (gPc [.ref (B 0), .ref (B 5)] (fun H => va_P D vwCl (jjw cA B (jf) (jn) jg jm) H) D cA) (wrV (fun H => va_P D vwCl (jjw cA B jg jm jg jm) H) (aS 10 B)) 0 0 (aS 10 B) := by
  refine gOf (by decide) (Nat.le_of_ble_eq_true rfl) ?_
  intro p e s m below meth c ls hx hb hml hr hlk hown hts hnm hP hK hl
  have hl : lv_has ls 2 [(0, .ref (B 0)), (1, .ref (B 5))] := hl
  have hD : va_D (aS 10 B) (jjw cA B (jf) (jn) jg jm) := jjwD hA
  have hS : va_S (aS 10 B) s.heap s.heap [] := va_S.rf
  refine lv_aload_n hx hb dX3_copyFrom_0 rfl (lv_at hl 1 rfl) ?_
  refine g_get (v := .ref (B 6)) hx hb hts hown hK hP 5 rfl rfl gu_wsX30 0 (by decide) gm_3_9 rfl dX3_copyFrom_1 ?_
  refine lv_iconst (v := nI (0)) hx hb dX3_copyFrom_4 gc_0 ?_
  refine lv_aload_n hx hb dX3_copyFrom_5 rfl (lv_at hl 0 rfl) ?_
  refine g_get (v := .ref (B 1)) hx hb hts hown hK hP 0 rfl rfl gu_wsX30 0 (by decide) gm_3_9 rfl dX3_copyFrom_6 ?_
  refine lv_iconst (v := nI (0)) hx hb dX3_copyFrom_9 gc_0 ?_
  refine lv_bipush (v := nI (9)) hx hb dX3_copyFrom_10 gb_9 ?_
  refine g_copy (ws' := jjw cA B (va_up (jf) 0 (jg 0)) (jn) jg jm) hx hb (hml.trans hl.1.symm) hts hown gm_7_19 hK hP hD hS 6 1 rfl rfl (by decide) rfl (Nat.le_of_ble_eq_true rfl) (Nat.le_of_ble_eq_true rfl) dX3_copyFrom_12 (fun H locs hP hD hS => ?_)
  refine lv_aload_n hx hb dX3_copyFrom_15 rfl (lv_at hl 1 rfl) ?_
  refine g_get (v := .ref (B 7)) hx hb hts hown hK hP 5 rfl rfl gu_wsX30 1 (by decide) gm_3_10 rfl dX3_copyFrom_16 ?_
  refine lv_iconst (v := nI (0)) hx hb dX3_copyFrom_19 gc_0 ?_
  refine lv_aload_n hx hb dX3_copyFrom_20 rfl (lv_at hl 0 rfl) ?_
  refine g_get (v := .ref (B 2)) hx hb hts hown hK hP 0 rfl rfl gu_wsX30 1 (by decide) gm_3_10 rfl dX3_copyFrom_21 ?_
  refine lv_iconst (v := nI (0)) hx hb dX3_copyFrom_24 gc_0 ?_
  refine lv_bipush (v := nI (9)) hx hb dX3_copyFrom_25 gb_9 ?_
  refine g_copy (ws' := jjw cA B (va_up (va_up (jf) 0 (jg 0)) 1 (jg 1)) (jn) jg jm) hx hb (hml.trans hl.1.symm) hts hown gm_7_19 hK hP hD hS 7 2 rfl rfl (by decide) rfl (Nat.le_of_ble_eq_true rfl) (Nat.le_of_ble_eq_true rfl) dX3_copyFrom_27 (fun H locs hP hD hS => ?_)
  refine lv_aload_n hx hb dX3_copyFrom_30 rfl (lv_at hl 1 rfl) ?_
  refine g_get (v := .ref (B 8)) hx hb hts hown hK hP 5 rfl rfl gu_wsX30 2 (by decide) gm_3_11 rfl dX3_copyFrom_31 ?_
  refine lv_iconst (v := nI (0)) hx hb dX3_copyFrom_34 gc_0 ?_
  refine lv_aload_n hx hb dX3_copyFrom_35 rfl (lv_at hl 0 rfl) ?_
  refine g_get (v := .ref (B 3)) hx hb hts hown hK hP 0 rfl rfl gu_wsX30 2 (by decide) gm_3_11 rfl dX3_copyFrom_36 ?_
  refine lv_iconst (v := nI (0)) hx hb dX3_copyFrom_39 gc_0 ?_
  refine lv_bipush (v := nI (9)) hx hb dX3_copyFrom_40 gb_9 ?_
  refine g_copy (ws' := jjw cA B (va_up (va_up (va_up (jf) 0 (jg 0)) 1 (jg 1)) 2 (jg 2)) (jn) jg jm) hx hb (hml.trans hl.1.symm) hts hown gm_7_19 hK hP hD hS 8 3 rfl rfl (by decide) rfl (Nat.le_of_ble_eq_true rfl) (Nat.le_of_ble_eq_true rfl) dX3_copyFrom_42 (fun H locs hP hD hS => ?_)
  refine lv_aload_n hx hb dX3_copyFrom_45 rfl (lv_at hl 1 rfl) ?_
  refine g_get (v := .ref (B 9)) hx hb hts hown hK hP 5 rfl rfl gu_wsX30 3 (by decide) gm_3_12 rfl dX3_copyFrom_46 ?_
  refine lv_iconst (v := nI (0)) hx hb dX3_copyFrom_49 gc_0 ?_
  refine lv_aload_n hx hb dX3_copyFrom_50 rfl (lv_at hl 0 rfl) ?_
  refine g_get (v := .ref (B 4)) hx hb hts hown hK hP 0 rfl rfl gu_wsX30 3 (by decide) gm_3_12 rfl dX3_copyFrom_51 ?_
  refine lv_iconst (v := nI (0)) hx hb dX3_copyFrom_54 gc_0 ?_
  refine lv_bipush (v := nI (9)) hx hb dX3_copyFrom_55 gb_9 ?_
  refine g_copy (ws' := jjw cA B (va_up (va_up (va_up (va_up (jf) 0 (jg 0)) 1 (jg 1)) 2 (jg 2)) 3 (jg 3)) (jn) jg jm) hx hb (hml.trans hl.1.symm) hts hown gm_7_19 hK hP hD hS 9 4 rfl rfl (by decide) rfl (Nat.le_of_ble_eq_true rfl) (Nat.le_of_ble_eq_true rfl) dX3_copyFrom_57 (fun H locs hP hD hS => ?_)
  refine lv_aload_n hx hb dX3_copyFrom_60 rfl (lv_at hl 0 rfl) ?_
  refine lv_aload_n hx hb dX3_copyFrom_61 rfl (lv_at hl 1 rfl) ?_
  refine g_get (v := .int (nI (jm))) hx hb hts hown hK hP 5 rfl rfl gu_wsX30 4 (by decide) gm_3_13 rfl dX3_copyFrom_62 ?_
  refine g_put (ws' := jjw cA B (va_up (va_up (va_up (va_up (jf) 0 (jg 0)) 1 (jg 1)) 2 (jg 2)) 3 (jg 3)) (jm) jg jm) hx hb hts hown hK hP hD hS 0 rfl rfl gu_wsX30 tyX3_ok nmX3 4 (by decide) gm_3_13 rfl rfl rfl (Nat.le_of_ble_eq_true rfl) (by first | rfl | (rw [updN_nI]; rfl)) dX3_copyFrom_65 (fun H locs hP hD hS => ?_)
  exact g_vretW hx hb hr hlk hS dX3_copyFrom_68 (hP)

set_option maxHeartbeats 1000000 in
set_option maxRecDepth 100000 in
theorem c_X0_copyFrom (l : Launch) (D : va_G) (cA : Nat → ClassId) (B : Nat → Nat) (kf : Nat → Nat → Int32) (rw : Nat → Nat) (cn rl : Nat) (kg : Nat → Nat → Int32) (rx : Nat → Nat) (cm rm : Nat) (hA : aInj 20 B)  : Met l yX0_copyFrom (gw yX0_copyFrom cX0_copyFrom 2 none) ({ frames := 1, cells := 0, slots := 0, locals := 60 } : Room) (gPc [.ref (B 0), .ref (B 10)] (fun H => va_P D vwCl (kkw cA B (kf) (rw) (cn) (rl) kg rx cm rm) H) D cA) (wrV (fun H => va_P D vwCl (kkw cA B kg rx cm rm kg rx cm rm) H) (aS 20 B)) 0 0 (aS 20 B) := by
  refine gOf (by decide) (Nat.le_of_ble_eq_true rfl) ?_
  intro p e s m below meth c ls hx hb hml hr hlk hown hts hnm hP hK hl
  have hl : lv_has ls 2 [(0, .ref (B 0)), (1, .ref (B 10))] := hl
  have hD : va_D (aS 20 B) (kkw cA B (kf) (rw) (cn) (rl) kg rx cm rm) := kkwD hA
  have hS : va_S (aS 20 B) s.heap s.heap [] := va_S.rf
  refine lv_aload_n hx hb dX0_copyFrom_0 rfl (lv_at hl 1 rfl) ?_
  refine g_get (v := .ref (B 11)) hx hb hts hown hK hP 10 rfl rfl gu_wsX00 0 (by decide) gm_3_17 rfl dX0_copyFrom_1 ?_
  refine lv_iconst (v := nI (0)) hx hb dX0_copyFrom_4 gc_0 ?_
  refine lv_aload_n hx hb dX0_copyFrom_5 rfl (lv_at hl 0 rfl) ?_
  refine g_get (v := .ref (B 1)) hx hb hts hown hK hP 0 rfl rfl gu_wsX00 0 (by decide) gm_3_17 rfl dX0_copyFrom_6 ?_
  refine lv_iconst (v := nI (0)) hx hb dX0_copyFrom_9 gc_0 ?_
  refine lv_bipush (v := nI (10)) hx hb dX0_copyFrom_10 gb_10 ?_
  refine g_copy (ws' := kkw cA B (va_up (kf) 0 (kg 0)) (rw) (cn) (rl) kg rx cm rm) hx hb (hml.trans hl.1.symm) hts hown gm_8_3 hK hP hD hS 11 1 rfl rfl (by decide) rfl (Nat.le_of_ble_eq_true rfl) (Nat.le_of_ble_eq_true rfl) dX0_copyFrom_12 (fun H locs hP hD hS => ?_)
  refine lv_aload_n hx hb dX0_copyFrom_15 rfl (lv_at hl 1 rfl) ?_
  refine g_get (v := .ref (B 12)) hx hb hts hown hK hP 10 rfl rfl gu_wsX00 1 (by decide) gm_3_18 rfl dX0_copyFrom_16 ?_
  refine lv_iconst (v := nI (0)) hx hb dX0_copyFrom_19 gc_0 ?_
  refine lv_aload_n hx hb dX0_copyFrom_20 rfl (lv_at hl 0 rfl) ?_
  refine g_get (v := .ref (B 2)) hx hb hts hown hK hP 0 rfl rfl gu_wsX00 1 (by decide) gm_3_18 rfl dX0_copyFrom_21 ?_
  refine lv_iconst (v := nI (0)) hx hb dX0_copyFrom_24 gc_0 ?_
  refine lv_bipush (v := nI (10)) hx hb dX0_copyFrom_25 gb_10 ?_
  refine g_copy (ws' := kkw cA B (va_up (va_up (kf) 0 (kg 0)) 1 (kg 1)) (rw) (cn) (rl) kg rx cm rm) hx hb (hml.trans hl.1.symm) hts hown gm_8_3 hK hP hD hS 12 2 rfl rfl (by decide) rfl (Nat.le_of_ble_eq_true rfl) (Nat.le_of_ble_eq_true rfl) dX0_copyFrom_27 (fun H locs hP hD hS => ?_)
  refine lv_aload_n hx hb dX0_copyFrom_30 rfl (lv_at hl 1 rfl) ?_
  refine g_get (v := .ref (B 13)) hx hb hts hown hK hP 10 rfl rfl gu_wsX00 2 (by decide) gm_3_19 rfl dX0_copyFrom_31 ?_
  refine lv_iconst (v := nI (0)) hx hb dX0_copyFrom_34 gc_0 ?_
  refine lv_aload_n hx hb dX0_copyFrom_35 rfl (lv_at hl 0 rfl) ?_
  refine g_get (v := .ref (B 3)) hx hb hts hown hK hP 0 rfl rfl gu_wsX00 2 (by decide) gm_3_19 rfl dX0_copyFrom_36 ?_
  refine lv_iconst (v := nI (0)) hx hb dX0_copyFrom_39 gc_0 ?_
  refine lv_bipush (v := nI (10)) hx hb dX0_copyFrom_40 gb_10 ?_
  refine g_copy (ws' := kkw cA B (va_up (va_up (va_up (kf) 0 (kg 0)) 1 (kg 1)) 2 (kg 2)) (rw) (cn) (rl) kg rx cm rm) hx hb (hml.trans hl.1.symm) hts hown gm_8_3 hK hP hD hS 13 3 rfl rfl (by decide) rfl (Nat.le_of_ble_eq_true rfl) (Nat.le_of_ble_eq_true rfl) dX0_copyFrom_42 (fun H locs hP hD hS => ?_)
  refine lv_aload_n hx hb dX0_copyFrom_45 rfl (lv_at hl 1 rfl) ?_
  refine g_get (v := .ref (B 14)) hx hb hts hown hK hP 10 rfl rfl gu_wsX00 3 (by decide) gm_3_20 rfl dX0_copyFrom_46 ?_
  refine lv_iconst (v := nI (0)) hx hb dX0_copyFrom_49 gc_0 ?_
  refine lv_aload_n hx hb dX0_copyFrom_50 rfl (lv_at hl 0 rfl) ?_
  refine g_get (v := .ref (B 4)) hx hb hts hown hK hP 0 rfl rfl gu_wsX00 3 (by decide) gm_3_20 rfl dX0_copyFrom_51 ?_
  refine lv_iconst (v := nI (0)) hx hb dX0_copyFrom_54 gc_0 ?_
  refine lv_bipush (v := nI (10)) hx hb dX0_copyFrom_55 gb_10 ?_
  refine g_copy (ws' := kkw cA B (va_up (va_up (va_up (va_up (kf) 0 (kg 0)) 1 (kg 1)) 2 (kg 2)) 3 (kg 3)) (rw) (cn) (rl) kg rx cm rm) hx hb (hml.trans hl.1.symm) hts hown gm_8_3 hK hP hD hS 14 4 rfl rfl (by decide) rfl (Nat.le_of_ble_eq_true rfl) (Nat.le_of_ble_eq_true rfl) dX0_copyFrom_57 (fun H locs hP hD hS => ?_)
  refine lv_aload_n hx hb dX0_copyFrom_60 rfl (lv_at hl 1 rfl) ?_
  refine g_get (v := .ref (B 15)) hx hb hts hown hK hP 10 rfl rfl gu_wsX00 4 (by decide) gm_3_21 rfl dX0_copyFrom_61 ?_
  refine lv_iconst (v := nI (0)) hx hb dX0_copyFrom_64 gc_0 ?_
  refine lv_aload_n hx hb dX0_copyFrom_65 rfl (lv_at hl 0 rfl) ?_
  refine g_get (v := .ref (B 5)) hx hb hts hown hK hP 0 rfl rfl gu_wsX00 4 (by decide) gm_3_21 rfl dX0_copyFrom_66 ?_
  refine lv_iconst (v := nI (0)) hx hb dX0_copyFrom_69 gc_0 ?_
  refine lv_bipush (v := nI (10)) hx hb dX0_copyFrom_70 gb_10 ?_
  refine g_copy (ws' := kkw cA B (va_up (va_up (va_up (va_up (va_up (kf) 0 (kg 0)) 1 (kg 1)) 2 (kg 2)) 3 (kg 3)) 4 (kg 4)) (rw) (cn) (rl) kg rx cm rm) hx hb (hml.trans hl.1.symm) hts hown gm_8_3 hK hP hD hS 15 5 rfl rfl (by decide) rfl (Nat.le_of_ble_eq_true rfl) (Nat.le_of_ble_eq_true rfl) dX0_copyFrom_72 (fun H locs hP hD hS => ?_)
  refine lv_aload_n hx hb dX0_copyFrom_75 rfl (lv_at hl 1 rfl) ?_
  refine g_get (v := .ref (B 16)) hx hb hts hown hK hP 10 rfl rfl gu_wsX00 5 (by decide) gm_3_22 rfl dX0_copyFrom_76 ?_
  refine lv_iconst (v := nI (0)) hx hb dX0_copyFrom_79 gc_0 ?_
  refine lv_aload_n hx hb dX0_copyFrom_80 rfl (lv_at hl 0 rfl) ?_
  refine g_get (v := .ref (B 6)) hx hb hts hown hK hP 0 rfl rfl gu_wsX00 5 (by decide) gm_3_22 rfl dX0_copyFrom_81 ?_
  refine lv_iconst (v := nI (0)) hx hb dX0_copyFrom_84 gc_0 ?_
  refine lv_bipush (v := nI (10)) hx hb dX0_copyFrom_85 gb_10 ?_
  refine g_copy (ws' := kkw cA B (va_up (va_up (va_up (va_up (va_up (va_up (kf) 0 (kg 0)) 1 (kg 1)) 2 (kg 2)) 3 (kg 3)) 4 (kg 4)) 5 (kg 5)) (rw) (cn) (rl) kg rx cm rm) hx hb (hml.trans hl.1.symm) hts hown gm_8_3 hK hP hD hS 16 6 rfl rfl (by decide) rfl (Nat.le_of_ble_eq_true rfl) (Nat.le_of_ble_eq_true rfl) dX0_copyFrom_87 (fun H locs hP hD hS => ?_)
  refine lv_aload_n hx hb dX0_copyFrom_90 rfl (lv_at hl 1 rfl) ?_
  refine g_get (v := .ref (B 17)) hx hb hts hown hK hP 10 rfl rfl gu_wsX00 6 (by decide) gm_3_23 rfl dX0_copyFrom_91 ?_
  refine lv_iconst (v := nI (0)) hx hb dX0_copyFrom_94 gc_0 ?_
  refine lv_aload_n hx hb dX0_copyFrom_95 rfl (lv_at hl 0 rfl) ?_
  refine g_get (v := .ref (B 7)) hx hb hts hown hK hP 0 rfl rfl gu_wsX00 6 (by decide) gm_3_23 rfl dX0_copyFrom_96 ?_
  refine lv_iconst (v := nI (0)) hx hb dX0_copyFrom_99 gc_0 ?_
  refine lv_bipush (v := nI (10)) hx hb dX0_copyFrom_100 gb_10 ?_
  refine g_copy (ws' := kkw cA B (va_up (va_up (va_up (va_up (va_up (va_up (va_up (kf) 0 (kg 0)) 1 (kg 1)) 2 (kg 2)) 3 (kg 3)) 4 (kg 4)) 5 (kg 5)) 6 (kg 6)) (rw) (cn) (rl) kg rx cm rm) hx hb (hml.trans hl.1.symm) hts hown gm_8_3 hK hP hD hS 17 7 rfl rfl (by decide) rfl (Nat.le_of_ble_eq_true rfl) (Nat.le_of_ble_eq_true rfl) dX0_copyFrom_102 (fun H locs hP hD hS => ?_)
  refine lv_aload_n hx hb dX0_copyFrom_105 rfl (lv_at hl 1 rfl) ?_
  refine g_get (v := .ref (B 18)) hx hb hts hown hK hP 10 rfl rfl gu_wsX00 7 (by decide) gm_4_0 rfl dX0_copyFrom_106 ?_
  refine lv_iconst (v := nI (0)) hx hb dX0_copyFrom_109 gc_0 ?_
  refine lv_aload_n hx hb dX0_copyFrom_110 rfl (lv_at hl 0 rfl) ?_
  refine g_get (v := .ref (B 8)) hx hb hts hown hK hP 0 rfl rfl gu_wsX00 7 (by decide) gm_4_0 rfl dX0_copyFrom_111 ?_
  refine lv_iconst (v := nI (0)) hx hb dX0_copyFrom_114 gc_0 ?_
  refine lv_bipush (v := nI (10)) hx hb dX0_copyFrom_115 gb_10 ?_
  refine g_copy (ws' := kkw cA B (va_up (va_up (va_up (va_up (va_up (va_up (va_up (va_up (kf) 0 (kg 0)) 1 (kg 1)) 2 (kg 2)) 3 (kg 3)) 4 (kg 4)) 5 (kg 5)) 6 (kg 6)) 7 (kg 7)) (rw) (cn) (rl) kg rx cm rm) hx hb (hml.trans hl.1.symm) hts hown gm_8_3 hK hP hD hS 18 8 rfl rfl (by decide) rfl (Nat.le_of_ble_eq_true rfl) (Nat.le_of_ble_eq_true rfl) dX0_copyFrom_117 (fun H locs hP hD hS => ?_)
  refine lv_aload_n hx hb dX0_copyFrom_120 rfl (lv_at hl 1 rfl) ?_
  refine g_get (v := .ref (B 19)) hx hb hts hown hK hP 10 rfl rfl gu_wsX00 8 (by decide) gm_4_1 rfl dX0_copyFrom_121 ?_
  refine lv_iconst (v := nI (0)) hx hb dX0_copyFrom_124 gc_0 ?_
  refine lv_aload_n hx hb dX0_copyFrom_125 rfl (lv_at hl 0 rfl) ?_
  refine g_get (v := .ref (B 9)) hx hb hts hown hK hP 0 rfl rfl gu_wsX00 8 (by decide) gm_4_1 rfl dX0_copyFrom_126 ?_
  refine lv_iconst (v := nI (0)) hx hb dX0_copyFrom_129 gc_0 ?_
  refine lv_bipush (v := nI (10)) hx hb dX0_copyFrom_130 gb_10 ?_
  refine g_copy (ws' := kkw cA B (va_up (va_up (va_up (va_up (va_up (va_up (va_up (va_up (kf) 0 (kg 0)) 1 (kg 1)) 2 (kg 2)) 3 (kg 3)) 4 (kg 4)) 5 (kg 5)) 6 (kg 6)) 7 (kg 7)) (rx) (cn) (rl) kg rx cm rm) hx hb (hml.trans hl.1.symm) hts hown gm_8_3 hK hP hD hS 19 9 rfl rfl (by decide) rfl (Nat.le_of_ble_eq_true rfl) (Nat.le_of_ble_eq_true rfl) dX0_copyFrom_132 (fun H locs hP hD hS => ?_)
  refine lv_aload_n hx hb dX0_copyFrom_135 rfl (lv_at hl 0 rfl) ?_
  refine lv_aload_n hx hb dX0_copyFrom_136 rfl (lv_at hl 1 rfl) ?_
  refine g_get (v := .int (nI (cm))) hx hb hts hown hK hP 10 rfl rfl gu_wsX00 9 (by decide) gm_4_2 rfl dX0_copyFrom_137 ?_
  refine g_put (ws' := kkw cA B (va_up (va_up (va_up (va_up (va_up (va_up (va_up (va_up (kf) 0 (kg 0)) 1 (kg 1)) 2 (kg 2)) 3 (kg 3)) 4 (kg 4)) 5 (kg 5)) 6 (kg 6)) 7 (kg 7)) (rx) (cm) (rl) kg rx cm rm) hx hb hts hown hK hP hD hS 0 rfl rfl gu_wsX00 tyX0_ok nmX0 9 (by decide) gm_4_2 rfl rfl rfl (Nat.le_of_ble_eq_true rfl) (by first | rfl | (rw [updN_nI]; rfl)) dX0_copyFrom_140 (fun H locs hP hD hS => ?_)
  refine lv_aload_n hx hb dX0_copyFrom_143 rfl (lv_at hl 0 rfl) ?_
  refine lv_aload_n hx hb dX0_copyFrom_144 rfl (lv_at hl 1 rfl) ?_
  refine g_get (v := .int (nI (rm))) hx hb hts hown hK hP 10 rfl rfl gu_wsX00 10 (by decide) gm_4_3 rfl dX0_copyFrom_145 ?_
  refine g_put (ws' := kkw cA B (va_up (va_up (va_up (va_up (va_up (va_up (va_up (va_up (kf) 0 (kg 0)) 1 (kg 1)) 2 (kg 2)) 3 (kg 3)) 4 (kg 4)) 5 (kg 5)) 6 (kg 6)) 7 (kg 7)) (rx) (cm) (rm) kg rx cm rm) hx hb hts hown hK hP hD hS 0 rfl rfl gu_wsX00 tyX0_ok nmX0 10 (by decide) gm_4_3 rfl rfl rfl (Nat.le_of_ble_eq_true rfl) (by first | rfl | (rw [updN_nI]; rfl)) dX0_copyFrom_148 (fun H locs hP hD hS => ?_)
  exact g_vretW hx hb hr hlk hS dX0_copyFrom_151 (hP)

