/-! readers and small writers on both sides -/
theorem inB_t {k n : Nat} (h : k ≤ n) (hn : n < 2 ^ 30) : inB (nI k) (nI 0) (nI n) = true := by
  unfold inB
  exact decide_eq_true ⟨fun x => by have := (nI_ltI (by omega) (by decide)).mp x; omega, fun x => by have := (nI_ltI (by omega) (by omega)).mp x; omega⟩
theorem OPC_mk {D : va_G} {cA : Nat → ClassId} {U : Nat → Nat} {rg : Nat → Option Nat} {H : Heap} {k : Nat} {rr r : Int32} {x' : Nat → Int32} {f' : Nat → Nat → Int32} (h4 : x' 4 = nI k) (hr : k = 0 → r = rr) (hL : LST D cA U rg x' f' H) : OPC D cA U rg k rr (r, (x', f')) H := ⟨h4, hr, hL⟩
section OPD
variable {D : va_G} {cA : Nat → ClassId} {U : Nat → Nat} {rg : Nat → Option Nat} {c z : CS} {rz : Nat → CS} {hd ct : Nat} {rs dt : Int32} {mf : Nat → Nat → Int32} {mn : Nat} {tc : Nat → Nat} {tl to : Nat} {kd fi se : Int32} {ta : Nat} {nu : Int32} {lc : Nat → Int32} {ln : Nat} {sv : Bool} {er : Int32} {x : Nat → Int32} {f : Nat → Nat → Int32} {H : Heap} {rr : Int32}
theorem OPC_R {m : Int32 × (Nat → Int32)} (e : m = (rr, failX x 0)) (hP : va_P D vwCl (uw cA U rg c z rz hd ct rs dt mf mn tc tl to kd fi se ta nu lc ln sv er) H) (R : RR c z rz hd ct rs dt tc tl lc ln sv er x f) : OPC D cA U rg 0 rr (m.1, (m.2, f)) H := OPC_0 (M := (m.1, (m.2, f))) (by rw [e]) (by rw [e]) hP R
theorem OPC_F {m : Int32 × (Nat → Int32)} {n : Nat} {v : Int32} (hn : n ≠ 0) (e : m = (v, failX x n)) (hP : va_P D vwCl (uw cA U rg c z rz hd ct rs dt mf mn tc tl to kd fi se ta nu lc ln sv er) H) (R : RR c z rz hd ct rs dt tc tl lc ln sv er x f) : OPC D cA U rg n rr (m.1, (m.2, f)) H := OPC_f (M := (m.1, (m.2, f))) hn (by rw [e]) hP R
theorem OPC_67 {l9 d9 : Nat → Int32} {M : Int32 × MX} (e : M = (rr, (failX x 0, va_up (va_up f 6 l9) 7 d9))) (hP : va_P D vwCl (uw cA U rg c z rz hd ct rs dt mf mn tc tl to kd fi se ta nu lc ln sv er) H) (R : RR c z rz hd ct rs dt tc tl lc ln sv er x f) : OPC D cA U rg 0 rr M H := by
  subst e
  exact OPC_mk fX_4 (fun _ => rfl) (LST_of hP (R.fail 0).m67)
end OPD
theorem LST.m67 {D : va_G} {cA : Nat → ClassId} {U : Nat → Nat} {rg : Nat → Option Nat} {x : Nat → Int32} {f : Nat → Nat → Int32} {H : Heap} {l9 d9 : Nat → Int32} (h : LST D cA U rg x f H) : LST D cA U rg x (va_up (va_up f 6 l9) 7 d9) H := by
  obtain ⟨_, _, _, _, _, _, _, _, _, _, _, _, _, _, _, _, _, _, _, _, _, R, hP⟩ := h
  exact LST_of hP R.m67
theorem op_jurorOf {D : va_G} {cA : Nat → ClassId} {U : Nat → Nat} {rg : Nat → Option Nat} {c z : CS} {rz : Nat → CS} {hd ct : Nat} {rs dt : Int32} {mf : Nat → Nat → Int32} {mn : Nat} {tc : Nat → Nat} {tl to : Nat} {kd fi se : Int32} {ta : Nat} {nu : Int32} {lc : Nat → Int32} {ln : Nat} {sv : Bool} {er : Int32} {x : Nat → Int32} {f : Nat → Nat → Int32} {H : Heap} {rr : Int32} {k : Nat} {v t : Int32} (R : RR c z rz hd ct rs dt tc tl lc ln sv er x f) (C : (k = 0 ∧ ∃ j k : Nat, j < zjn c ∧ k ≤ 4 ∧ v = nI j ∧ t = nI k ∧ rr = joF c j k ∧ va_P D vwCl (uw cA U rg c z rz hd ct rs dt mf mn tc tl to kd fi se ta nu lc ln sv er) H) ∨ (k = 1 ∧ isIx v (zjn c) = false ∧ va_P D vwCl (uw cA U rg c z rz hd ct rs dt mf mn tc tl to kd fi se ta nu lc ln sv er) H) ∨ (k = 2 ∧ ∃ j : Nat, j < zjn c ∧ v = nI j ∧ inB t (nI 0) (nI 4) = false ∧ va_P D vwCl (uw cA U rg c z rz hd ct rs dt mf mn tc tl to kd fi se ta nu lc ln sv er) H)) : OPC D cA U rg k rr (((joM x (f 0) (zjn c) (zcn c) v t).1, ((joM x (f 0) (zjn c) (zcn c) v t).2, f))) H := by
  have hjn := R.I.jn
  have hcn := R.I.cn
  have I := R.I
  have G := R.G
  rcases C with ⟨rfl, j, q, hj, hq, ev, et, h3, hP⟩ | ⟨rfl, h1, hP⟩ | ⟨rfl, j, hj, ev, h2, hP⟩
  · refine OPC_R ?_ hP R
    subst ev et h3
    rw [joM, if_pos (isIx_t hj (by omega)), if_pos (inB_t hq (by decide)), nI_clamp (show j < 2 ^ 31 by omega)]
    have hq5 : q = 0 ∨ q = 1 ∨ q = 2 ∨ q = 3 ∨ q = 4 := by omega
    rcases hq5 with rfl | rfl | rfl | rfl | rfl
    · rw [if_neg (show ¬ nI 0 = nI 2 by decide +kernel), if_neg (show ¬ nI 2 ≤ nI 0 by decide +kernel), nI_clamp (by decide), G.by hj (by decide)]; rfl
    · rw [if_neg (show ¬ nI 1 = nI 2 by decide +kernel), if_neg (show ¬ nI 2 ≤ nI 1 by decide +kernel), nI_clamp (by decide), G.by hj (by decide)]; rfl
    · rw [if_pos rfl, G.ld I]; rfl
    · rw [if_neg (show ¬ nI 3 = nI 2 by decide +kernel), if_pos (show nI 2 ≤ nI 3 by decide +kernel), nI_clamp (by decide), G.by hj (by decide)]; rfl
    · rw [if_neg (show ¬ nI 4 = nI 2 by decide +kernel), if_pos (show nI 2 ≤ nI 4 by decide +kernel), nI_clamp (by decide), G.by hj (by decide)]; rfl
  · exact OPC_F (by decide) (by rw [joM, if_neg (bnt h1)]) hP R
  · exact OPC_F (by decide) (by rw [joM, ev, if_pos (isIx_t hj (by omega)), if_neg (bnt h2)]) hP R
theorem op_caseOf {D : va_G} {cA : Nat → ClassId} {U : Nat → Nat} {rg : Nat → Option Nat} {c z : CS} {rz : Nat → CS} {hd ct : Nat} {rs dt : Int32} {mf : Nat → Nat → Int32} {mn : Nat} {tc : Nat → Nat} {tl to : Nat} {kd fi se : Int32} {ta : Nat} {nu : Int32} {lc : Nat → Int32} {ln : Nat} {sv : Bool} {er : Int32} {x : Nat → Int32} {f : Nat → Nat → Int32} {H : Heap} {rr : Int32} {k : Nat} {v t : Int32} (R : RR c z rz hd ct rs dt tc tl lc ln sv er x f) (C : (k = 0 ∧ ∃ j k : Nat, j < zcn c ∧ k ≤ 7 ∧ v = nI j ∧ t = nI k ∧ rr = coF c j k ∧ va_P D vwCl (uw cA U rg c z rz hd ct rs dt mf mn tc tl to kd fi se ta nu lc ln sv er) H) ∨ (k = 1 ∧ isIx v (zcn c) = false ∧ va_P D vwCl (uw cA U rg c z rz hd ct rs dt mf mn tc tl to kd fi se ta nu lc ln sv er) H) ∨ (k = 2 ∧ ∃ j : Nat, j < zcn c ∧ v = nI j ∧ inB t (nI 0) (nI 7) = false ∧ va_P D vwCl (uw cA U rg c z rz hd ct rs dt mf mn tc tl to kd fi se ta nu lc ln sv er) H)) : OPC D cA U rg k rr (((coM x (f 0) (zcn c) v t).1, ((coM x (f 0) (zcn c) v t).2, f))) H := by
  have hjn := R.I.jn
  have hcn := R.I.cn
  have I := R.I
  have G := R.G
  rcases C with ⟨rfl, j, q, hj, hq, ev, et, h3, hP⟩ | ⟨rfl, h1, hP⟩ | ⟨rfl, j, hj, ev, h2, hP⟩
  · refine OPC_R ?_ hP R
    subst ev et h3
    rw [coM, if_pos (isIx_t hj (by omega)), if_pos (inB_t hq (by decide)), nI_clamp (show j < 2 ^ 31 by omega), nI_clamp (show q < 2 ^ 31 by omega)]
    have hq8 : q = 0 ∨ q = 1 ∨ q = 2 ∨ q = 3 ∨ q = 4 ∨ q = 5 ∨ q = 6 ∨ q = 7 := by omega
    rcases hq8 with rfl | rfl | rfl | rfl | rfl | rfl | rfl | rfl
    · rw [if_neg (show ¬ nI 0 = nI 5 by decide +kernel), G.of hj (by decide)]; rfl
    · rw [if_neg (show ¬ nI 1 = nI 5 by decide +kernel), G.of hj (by decide)]; rfl
    · rw [if_neg (show ¬ nI 2 = nI 5 by decide +kernel), G.of hj (by decide)]; rfl
    · rw [if_neg (show ¬ nI 3 = nI 5 by decide +kernel), G.of hj (by decide)]; rfl
    · rw [if_neg (show ¬ nI 4 = nI 5 by decide +kernel), G.of hj (by decide)]; rfl
    · rw [if_pos rfl, G.cl I hj]
      show _ = ((if clF (zK c) j = true then nI 1 else nI 0), failX x 0)
      by_cases y : clF (zK c) j = true
      · rw [if_pos y, if_pos y]
      · rw [if_neg y, if_neg y]
    · rw [if_neg (show ¬ nI 6 = nI 5 by decide +kernel), G.of hj (by decide)]; rfl
    · rw [if_neg (show ¬ nI 7 = nI 5 by decide +kernel), G.of hj (by decide)]; rfl
  · exact OPC_F (by decide) (by rw [coM, if_neg (bnt h1)]) hP R
  · exact OPC_F (by decide) (by rw [coM, ev, if_pos (isIx_t hj (by omega)), if_neg (bnt h2)]) hP R
theorem op_voteOf {D : va_G} {cA : Nat → ClassId} {U : Nat → Nat} {rg : Nat → Option Nat} {c z : CS} {rz : Nat → CS} {hd ct : Nat} {rs dt : Int32} {mf : Nat → Nat → Int32} {mn : Nat} {tc : Nat → Nat} {tl to : Nat} {kd fi se : Int32} {ta : Nat} {nu : Int32} {lc : Nat → Int32} {ln : Nat} {sv : Bool} {er : Int32} {x : Nat → Int32} {f : Nat → Nat → Int32} {H : Heap} {rr : Int32} {k : Nat} {v t : Int32} (R : RR c z rz hd ct rs dt tc tl lc ln sv er x f) (C : (k = 0 ∧ ∃ j q : Nat, j < zjn c ∧ q < zcn c ∧ v = nI j ∧ t = nI q ∧ rr = nI (opC (forB (zK c 0 q) (zJ c 0 j) (zJ c 1 j))) ∧ va_P D vwCl (uw cA U rg c z rz hd ct rs dt mf mn tc tl to kd fi se ta nu lc ln sv er) H) ∨ (k = 1 ∧ (isIx v (zjn c) = false ∨ isIx t (zcn c) = false) ∧ va_P D vwCl (uw cA U rg c z rz hd ct rs dt mf mn tc tl to kd fi se ta nu lc ln sv er) H)) : OPC D cA U rg k rr (vtM x f (zjn c) (zcn c) v t) H := by
  have hjn := R.I.jn
  have hcn := R.I.cn
  have I := R.I
  have G := R.G
  rcases C with ⟨rfl, j, q, hj, hq, ev, et, h3, hP⟩ | ⟨rfl, h1, hP⟩
  · refine OPC_67 (l9 := (lmS (f 0) (f 6) (f 7) (zjn c)).1) (d9 := (lmS (f 0) (f 6) (f 7) (zjn c)).2) ?_ hP R
    subst ev et h3
    rw [vtM, if_pos (isIx_t hj (by omega)), if_pos (isIx_t hq (by omega)), nI_clamp (show j < 2 ^ 31 by omega), nI_clamp (show q < 2 ^ 31 by omega), lm_1 hj, lm_2 hj, G.by hj (by decide), G.by hj (by decide), G.of hq (by decide)]
    unfold opC
    by_cases y : forB (zK c 0 q) (zJ c 0 j) (zJ c 1 j) = true
    · rw [if_pos y, if_pos y]
    · rw [if_neg y, if_neg y]
  · rcases h1 with y | y
    · exact OPC_f (by decide) (by rw [vtM, if_neg (bnt y)]) hP R
    · refine OPC_f (by decide) ?_ hP R
      rw [vtM]
      by_cases u : isIx v (zjn c) = true
      · rw [if_pos u, if_neg (bnt y)]
      · rw [if_neg u]
theorem np_0 {c : CS} {g : Nat → Int32} (G : RG c g) (I : RI c) {q : Nat} (hq : q < zcn c) (hp : hpF (zK c) q = true) : npC g (zcn c) (nI q) = 0 := by
  have hcn := I.cn
  rw [npC, if_pos (isIx_t hq (by omega)), nI_clamp (by omega), G.of hq (by decide), if_neg (fun e => by unfold hpF at hp; rw [e] at hp; cases hp)]
theorem np_1 {c : CS} {g : Nat → Int32} {v : Int32} (h : isIx v (zcn c) = false) : npC g (zcn c) v = 1 := by rw [npC, if_neg (bnt h)]
theorem np_2 {c : CS} {g : Nat → Int32} (G : RG c g) (I : RI c) {q : Nat} (hq : q < zcn c) (hp : hpF (zK c) q = false) : npC g (zcn c) (nI q) = 2 := by
  have hcn := I.cn
  rw [npC, if_pos (isIx_t hq (by omega)), nI_clamp (by omega), G.of hq (by decide), if_pos (hpF_0.mp hp)]
theorem pan_PN {c : CS} (I : RI c) {q : Nat} (hq : q < zcn c) (hp : hpF (zK c) q = true) : PN (zjn c) (zK c 2 q) := by
  rcases (I.c hq).2.2.1 with e | e
  · unfold hpF at hp; rw [e] at hp; cases hp
  · exact e
theorem op_wouldBe {D : va_G} {cA : Nat → ClassId} {U : Nat → Nat} {rg : Nat → Option Nat} {c z : CS} {rz : Nat → CS} {hd ct : Nat} {rs dt : Int32} {mf : Nat → Nat → Int32} {mn : Nat} {tc : Nat → Nat} {tl to : Nat} {kd fi se : Int32} {ta : Nat} {nu : Int32} {lc : Nat → Int32} {ln : Nat} {sv : Bool} {er : Int32} {x : Nat → Int32} {f : Nat → Nat → Int32} {H : Heap} {rr : Int32} {k : Nat} {v : Int32} {b : Bool} (R : RR c z rz hd ct rs dt tc tl lc ln sv er x f) (C : (k = 0 ∧ ∃ q : Nat, q < zcn c ∧ v = nI q ∧ hpF (zK c) q = true ∧ rr = nI (if b = true then vmF (zJ c 0) (zJ c 1) (zjn c) (zK c 2 q) (zK c 0 q) else vdF (zJ c 0) (zJ c 1) (zjn c) (zK c 2 q) (zK c 0 q)) ∧ va_P D vwCl (uw cA U rg c z rz hd ct rs dt mf mn tc tl to kd fi se ta nu lc ln sv er) H) ∨ (k = 1 ∧ isIx v (zcn c) = false ∧ va_P D vwCl (uw cA U rg c z rz hd ct rs dt mf mn tc tl to kd fi se ta nu lc ln sv er) H) ∨ (k = 2 ∧ ∃ q : Nat, q < zcn c ∧ v = nI q ∧ hpF (zK c) q = false ∧ va_P D vwCl (uw cA U rg c z rz hd ct rs dt mf mn tc tl to kd fi se ta nu lc ln sv er) H)) : OPC D cA U rg k rr (wbM x f (zjn c) (zcn c) v) H := by
  have hjn := R.I.jn
  have hcn := R.I.cn
  have I := R.I
  have G := R.G
  rcases C with ⟨rfl, q, hq, ev, hp, h3, hP⟩ | ⟨rfl, h1, hP⟩ | ⟨rfl, q, hq, ev, hp, hP⟩
  · refine OPC_67 (l9 := (lmS (f 0) (f 6) (f 7) (zjn c)).1) (d9 := (lmS (f 0) (f 6) (f 7) (zjn c)).2) ?_ hP R
    subst ev h3
    rw [wbM, np_0 G I hq hp, if_neg (by decide), nI_clamp (show q < 2 ^ 31 by omega), G.of hq (by decide), G.of hq (by decide)]
    rw [md_vd (l2 := zJ c 0) (d2 := zJ c 1) (fun j hj => ⟨by rw [lm_1 hj]; exact G.by hj (by decide), by rw [lm_2 hj]; exact G.by hj (by decide)⟩)]
    rw [vm_is (I.me hq) (fun j hj => (I.j hj).1) (fun j hj => (I.j hj).2.1) (pan_PN I hq hp).1]
    cases b <;> rfl
  · exact OPC_f (by decide) (by rw [wbM, np_1 h1, if_pos (by decide)]) hP R
  · subst ev
    exact OPC_f (by decide) (by rw [wbM, np_2 G I hq hp, if_pos (by decide)]) hP R
theorem op_load {D : va_G} {cA : Nat → ClassId} {U : Nat → Nat} {rg : Nat → Option Nat} {c z : CS} {rz : Nat → CS} {hd ct : Nat} {rs dt : Int32} {mf : Nat → Nat → Int32} {mn : Nat} {tc : Nat → Nat} {tl to : Nat} {kd fi se : Int32} {ta : Nat} {nu : Int32} {lc : Nat → Int32} {ln : Nat} {sv : Bool} {er : Int32} {x : Nat → Int32} {f : Nat → Nat → Int32} {H : Heap} {rr : Int32} {k : Nat} {v : Int32} {b : Bool} (R : RR c z rz hd ct rs dt tc tl lc ln sv er x f) (C : (k = 0 ∧ ∃ j : Nat, j < zjn c ∧ v = nI j ∧ rr = (if b = true then lrF (zK c) (zcn c) j else nI (ldF (zK c) (zcn c) j)) ∧ va_P D vwCl (uw cA U rg c z rz hd ct rs dt mf mn tc tl to kd fi se ta nu lc ln sv er) H) ∨ (k = 1 ∧ isIx v (zjn c) = false ∧ va_P D vwCl (uw cA U rg c z rz hd ct rs dt mf mn tc tl to kd fi se ta nu lc ln sv er) H)) : OPC D cA U rg k rr (((liM x (f 0) (zjn c) (zcn c) v).1, ((liM x (f 0) (zjn c) (zcn c) v).2, f))) H := by
  have hjn := R.I.jn
  have hcn := R.I.cn
  have I := R.I
  have G := R.G
  rcases C with ⟨rfl, j, hj, ev, h3, hP⟩ | ⟨rfl, h1, hP⟩
  · refine OPC_R ?_ hP R
    subst ev h3
    rw [liM, if_pos (isIx_t hj (by omega)), nI_clamp (show j < 2 ^ 31 by omega), G.ld I, lr_is (zK c) I.cn (by omega)]
    cases b <;> rfl
  · exact OPC_F (by decide) (by rw [liM, if_neg (bnt h1)]) hP R
theorem op_callable {D : va_G} {cA : Nat → ClassId} {U : Nat → Nat} {rg : Nat → Option Nat} {c z : CS} {rz : Nat → CS} {hd ct : Nat} {rs dt : Int32} {mf : Nat → Nat → Int32} {mn : Nat} {tc : Nat → Nat} {tl to : Nat} {kd fi se : Int32} {ta : Nat} {nu : Int32} {lc : Nat → Int32} {ln : Nat} {sv : Bool} {er : Int32} {x : Nat → Int32} {f : Nat → Nat → Int32} {H : Heap} {rr : Int32} {k : Nat} {v : Int32} (R : RR c z rz hd ct rs dt tc tl lc ln sv er x f) (C : (k = 0 ∧ ¬ nthV (fcF (zJ c 1) (zK c) (zjn c) (zcn c)) (zjn c) v = none ∧ rr = oI (nthV (fcF (zJ c 1) (zK c) (zjn c) (zcn c)) (zjn c) v) ∧ va_P D vwCl (uw cA U rg c z rz hd ct rs dt mf mn tc tl to kd fi se ta nu lc ln sv er) H) ∨ (k = 1 ∧ nthV (fcF (zJ c 1) (zK c) (zjn c) (zcn c)) (zjn c) v = none ∧ va_P D vwCl (uw cA U rg c z rz hd ct rs dt mf mn tc tl to kd fi se ta nu lc ln sv er) H)) : OPC D cA U rg k rr (((cbO x (f 0) (zjn c) (zcn c) v).1, ((cbO x (f 0) (zjn c) (zcn c) v).2, f))) H := by
  have hjn := R.I.jn
  have hcn := R.I.cn
  have I := R.I
  have G := R.G
  rcases C with ⟨rfl, h1, h3, hP⟩ | ⟨rfl, h1, hP⟩
  · refine OPC_R ?_ hP R
    rw [cbO, call_is I G, if_neg h1, h3]
  · exact OPC_F (by decide) (by rw [cbO, call_is I G, if_pos h1]) hP R
theorem op_thoughts {D : va_G} {cA : Nat → ClassId} {U : Nat → Nat} {rg : Nat → Option Nat} {c z : CS} {rz : Nat → CS} {hd ct : Nat} {rs dt : Int32} {mf : Nat → Nat → Int32} {mn : Nat} {tc : Nat → Nat} {tl to : Nat} {kd fi se : Int32} {ta : Nat} {nu : Int32} {lc : Nat → Int32} {ln : Nat} {sv : Bool} {er : Int32} {x : Nat → Int32} {f : Nat → Nat → Int32} {H : Heap} {rr : Int32} {k : Nat} {v : Int32} (R : RR c z rz hd ct rs dt tc tl lc ln sv er x f) (C : (k = 0 ∧ ∃ q : Nat, q < zcn c ∧ v = nI q ∧ hpF (zK c) q = true ∧ rr = nI (ttF (zjn c) (zK c 2 q) (zK c 0 q) (zJ c 0, (zJ c 1, (zJ c 2, zJ c 3)))) ∧ ∃ (mf9 : Nat → Nat → Int32) (mn9 : Nat), va_P D vwCl (uw cA U rg c z rz hd ct rs dt mf9 mn9 tc tl to kd fi se ta nu lc ln sv er) H) ∨ (k = 1 ∧ isIx v (zcn c) = false ∧ va_P D vwCl (uw cA U rg c z rz hd ct rs dt mf mn tc tl to kd fi se ta nu lc ln sv er) H) ∨ (k = 2 ∧ ∃ q : Nat, q < zcn c ∧ v = nI q ∧ hpF (zK c) q = false ∧ va_P D vwCl (uw cA U rg c z rz hd ct rs dt mf mn tc tl to kd fi se ta nu lc ln sv er) H)) : OPC D cA U rg k rr (thM x f (zjn c) (zcn c) v) H := by
  have hjn := R.I.jn
  have hcn := R.I.cn
  have I := R.I
  have G := R.G
  rcases C with ⟨rfl, q, hq, ev, hp, h3, mf9, mn9, hP⟩ | ⟨rfl, h1, hP⟩ | ⟨rfl, q, hq, ev, hp, hP⟩
  · refine OPC_0 ?_ ?_ hP R
    · subst ev h3
      rw [thM, np_0 G I hq hp, if_neg (by decide), nI_clamp (show q < 2 ^ 31 by omega), G.of hq (by decide), G.of hq (by decide), th_F I G]
    · subst ev
      rw [thM, np_0 G I hq hp, if_neg (by decide)]
  · exact OPC_f (by decide) (by rw [thM, np_1 h1, if_pos (by decide)]) hP R
  · subst ev
    exact OPC_f (by decide) (by rw [thM, np_2 G I hq hp, if_pos (by decide)]) hP R
theorem op_isOn {D : va_G} {cA : Nat → ClassId} {U : Nat → Nat} {rg : Nat → Option Nat} {c z : CS} {rz : Nat → CS} {hd ct : Nat} {rs dt : Int32} {mf : Nat → Nat → Int32} {mn : Nat} {tc : Nat → Nat} {tl to : Nat} {kd fi se : Int32} {ta : Nat} {nu : Int32} {lc : Nat → Int32} {ln : Nat} {sv : Bool} {er : Int32} {x : Nat → Int32} {f : Nat → Nat → Int32} {H : Heap} {rr : Int32} {k : Nat} {v t : Int32} (R : RR c z rz hd ct rs dt tc tl lc ln sv er x f) (C : (k = 0 ∧ ∃ j q : Nat, j < zjn c ∧ q < zcn c ∧ v = nI j ∧ t = nI q ∧ rr = b2i (hs (zK c 2 q) j) ∧ va_P D vwCl (uw cA U rg c z rz hd ct rs dt mf mn tc tl to kd fi se ta nu lc ln sv er) H) ∨ (k = 1 ∧ (isIx v (zjn c) = false ∨ isIx t (zcn c) = false) ∧ va_P D vwCl (uw cA U rg c z rz hd ct rs dt mf mn tc tl to kd fi se ta nu lc ln sv er) H)) : OPC D cA U rg k rr (((onM x (f 0) (zjn c) (zcn c) v t).1, ((onM x (f 0) (zjn c) (zcn c) v t).2, f))) H := by
  have hjn := R.I.jn
  have hcn := R.I.cn
  have I := R.I
  have G := R.G
  rcases C with ⟨rfl, j, q, hj, hq, ev, et, h3, hP⟩ | ⟨rfl, h1, hP⟩
  · refine OPC_R ?_ hP R
    subst ev et h3
    rw [onM, if_pos (isIx_t hj (by omega)), if_pos (isIx_t hq (by omega)), nI_clamp (show j < 2 ^ 31 by omega), nI_clamp (show q < 2 ^ 31 by omega), G.of hq (by decide)]
    unfold b2i
    by_cases y : hs (zK c 2 q) j = true
    · rw [if_pos y, if_pos y]
    · rw [if_neg y, if_neg y]
  · rcases h1 with y | y
    · exact OPC_F (by decide) (by rw [onM, if_neg (bnt y)]) hP R
    · refine OPC_F (v := nI 0) (by decide) ?_ hP R
      rw [onM]
      by_cases u : isIx v (zjn c) = true
      · rw [if_pos u, if_neg (bnt y)]
      · rw [if_neg u]
theorem op_roll {D : va_G} {cA : Nat → ClassId} {U : Nat → Nat} {rg : Nat → Option Nat} {c z : CS} {rz : Nat → CS} {hd ct : Nat} {rs dt : Int32} {mf : Nat → Nat → Int32} {mn : Nat} {tc : Nat → Nat} {tl to : Nat} {kd fi se : Int32} {ta : Nat} {nu : Int32} {lc : Nat → Int32} {ln : Nat} {sv : Bool} {er : Int32} {x : Nat → Int32} {f : Nat → Nat → Int32} {H : Heap} {rr : Int32} {k : Nat} {v : Int32} {b : Bool} (R : RR c z rz hd ct rs dt tc tl lc ln sv er x f) (C : (k = 0 ∧ ¬ (if b = true then nthV (fhF (zK c) (zcn c)) (zcn c) v else (if isIx v (zrl c) = true then some (zrw c (v).toNatClampNeg) else none)) = none ∧ rr = oI (if b = true then nthV (fhF (zK c) (zcn c)) (zcn c) v else (if isIx v (zrl c) = true then some (zrw c (v).toNatClampNeg) else none)) ∧ va_P D vwCl (uw cA U rg c z rz hd ct rs dt mf mn tc tl to kd fi se ta nu lc ln sv er) H) ∨ (k = 1 ∧ (if b = true then nthV (fhF (zK c) (zcn c)) (zcn c) v else (if isIx v (zrl c) = true then some (zrw c (v).toNatClampNeg) else none)) = none ∧ va_P D vwCl (uw cA U rg c z rz hd ct rs dt mf mn tc tl to kd fi se ta nu lc ln sv er) H)) : OPC D cA U rg k rr (((roM x (f 0) (zcn c) v).1, ((roM x (f 0) (zcn c) v).2, f))) H := by
  have hjn := R.I.jn
  have hcn := R.I.cn
  have I := R.I
  have G := R.G
  have eb : (if b = true then nthV (fhF (zK c) (zcn c)) (zcn c) v else if isIx v (zrl c) = true then some (zrw c (v).toNatClampNeg) else none) = raM (f 0) (zcn c) v := by
    rw [fh_nth I, G.ra I]
    cases b <;> rfl
  rw [eb] at C
  rcases C with ⟨rfl, h1, h3, hP⟩ | ⟨rfl, h1, hP⟩
  · refine OPC_R ?_ hP R
    rw [roM, if_neg h1, h3]
  · exact OPC_F (by decide) (by rw [roM, if_pos h1]) hP R
theorem op_wouldTake {D : va_G} {cA : Nat → ClassId} {U : Nat → Nat} {rg : Nat → Option Nat} {c z : CS} {rz : Nat → CS} {hd ct : Nat} {rs dt : Int32} {mf : Nat → Nat → Int32} {mn : Nat} {tc : Nat → Nat} {tl to : Nat} {kd fi se : Int32} {ta : Nat} {nu : Int32} {lc : Nat → Int32} {ln : Nat} {sv : Bool} {er : Int32} {x : Nat → Int32} {f : Nat → Nat → Int32} {H : Heap} {rr : Int32} {k : Nat} {v : Int32} (R : RR c z rz hd ct rs dt tc tl lc ln sv er x f) (C : (k = 0 ∧ ∃ q : Nat, q < zcn c ∧ v = nI q ∧ ¬ tkN (zK c) (zrw c) (zrl c) (zck c) (ztn c) q = -1 ∧ rr = tkN (zK c) (zrw c) (zrl c) (zck c) (ztn c) q ∧ va_P D vwCl (uw cA U rg c z rz hd ct rs dt mf mn tc tl to kd fi se ta nu lc ln sv er) H) ∨ (k = 1 ∧ isIx v (zcn c) = false ∧ va_P D vwCl (uw cA U rg c z rz hd ct rs dt mf mn tc tl to kd fi se ta nu lc ln sv er) H) ∨ (k = 2 ∧ ∃ q : Nat, q < zcn c ∧ v = nI q ∧ tkN (zK c) (zrw c) (zrl c) (zck c) (ztn c) q = -1 ∧ va_P D vwCl (uw cA U rg c z rz hd ct rs dt mf mn tc tl to kd fi se ta nu lc ln sv er) H)) : OPC D cA U rg k rr (((wtM x (f 0) (zcn c) (zck c) (ztn c) v).1, ((wtM x (f 0) (zcn c) (zck c) (ztn c) v).2, f))) H := by
  have hjn := R.I.jn
  have hcn := R.I.cn
  have I := R.I
  have G := R.G
  have htn := I.tn
  have hck := I.ck
  rcases C with ⟨rfl, q, hq, ev, h2, h3, hP⟩ | ⟨rfl, h1, hP⟩ | ⟨rfl, q, hq, ev, h2, hP⟩
  · refine OPC_R ?_ hP R
    subst ev h3
    rw [wtM, if_pos (isIx_t hq (by omega)), nI_clamp (show q < 2 ^ 31 by omega), G.hd hq]
    by_cases y : hdF (zK c) q = true
    · have e := wt_is I G hq y
      rw [e] at h2 ⊢
      rw [if_pos y]
      by_cases u : 99 < ztn c + 1 + poM (f 0) (zcn c) q / zck c
      · rw [if_pos u] at h2; exact absurd rfl h2
      · rw [if_pos (by omega), if_neg u]
    · exact absurd (wt_no I (eq_false_of_ne_true y)) h2
  · exact OPC_F (by decide) (by rw [wtM, if_neg (bnt h1)]) hP R
  · refine OPC_F (v := nI 0) (by decide) ?_ hP R
    subst ev
    rw [wtM, if_pos (isIx_t hq (by omega)), nI_clamp (show q < 2 ^ 31 by omega), G.hd hq]
    by_cases y : hdF (zK c) q = true
    · have e := wt_is I G hq y
      rw [e] at h2
      rw [if_pos y]
      by_cases u : 99 < ztn c + 1 + poM (f 0) (zcn c) q / zck c
      · rw [if_neg (by omega)]
      · rw [if_neg u] at h2
        exact absurd h2.symm (nI_nm1 (by omega))
    · rw [if_neg y]
theorem op_termFrom {D : va_G} {cA : Nat → ClassId} {U : Nat → Nat} {rg : Nat → Option Nat} {c z : CS} {rz : Nat → CS} {hd ct : Nat} {rs dt : Int32} {mf : Nat → Nat → Int32} {mn : Nat} {tc : Nat → Nat} {tl to : Nat} {kd fi se : Int32} {ta : Nat} {nu : Int32} {lc : Nat → Int32} {ln : Nat} {sv : Bool} {er : Int32} {x : Nat → Int32} {f : Nat → Nat → Int32} {H : Heap} {rr : Int32} {k : Nat} {v : Int32} (R : RR c z rz hd ct rs dt tc tl lc ln sv er x f) (C : (k = 0 ∧ inB v (nI 0) (nI 99) = true ∧ ¬ rtF (zK c) (zrw c) (zrl c) v = -1 ∧ rr = rtF (zK c) (zrw c) (zrl c) v ∧ va_P D vwCl (uw cA U rg c z rz hd ct rs dt mf mn tc tl to kd fi se ta nu lc ln sv er) H) ∨ (k = 1 ∧ inB v (nI 0) (nI 99) = false ∧ va_P D vwCl (uw cA U rg c z rz hd ct rs dt mf mn tc tl to kd fi se ta nu lc ln sv er) H) ∨ (k = 2 ∧ inB v (nI 0) (nI 99) = true ∧ rtF (zK c) (zrw c) (zrl c) v = -1 ∧ va_P D vwCl (uw cA U rg c z rz hd ct rs dt mf mn tc tl to kd fi se ta nu lc ln sv er) H)) : OPC D cA U rg k rr (((tmO x (f 0) (zcn c) v).1, ((tmO x (f 0) (zcn c) v).2, f))) H := by
  have hjn := R.I.jn
  have hcn := R.I.cn
  have I := R.I
  have G := R.G
  have k0 : ¬ rtF (zK c) (zrw c) (zrl c) v = -1 → 0 ≤ rtF (zK c) (zrw c) (zrl c) v := by
    intro h
    unfold rtF at h ⊢
    cases e : fnd (fun j => decide (v ≤ zK c 1 (zrw c j))) (zrl c) with
    | none => rw [e] at h; exact absurd rfl h
    | some j =>
      have hw := I.row.1 j (fnd_lt e)
      have := (I.te hw.1).1
      show 0 ≤ zK c 1 (zrw c j)
      rw [Int32.le_iff_toInt_le, i_0]; exact this
  rcases C with ⟨rfl, h1, h2, h3, hP⟩ | ⟨rfl, h1, hP⟩ | ⟨rfl, h1, h2, hP⟩
  · refine OPC_R ?_ hP R
    rw [tmO, if_pos h1, tf_eq I G, if_pos (k0 h2), h3]
  · exact OPC_F (by decide) (by rw [tmO, if_neg (bnt h1)]) hP R
  · exact OPC_F (by decide) (by rw [tmO, if_pos h1, tf_eq I G, h2, if_neg (by decide)]) hP R
theorem op_finalIn {D : va_G} {cA : Nat → ClassId} {U : Nat → Nat} {rg : Nat → Option Nat} {c z : CS} {rz : Nat → CS} {hd ct : Nat} {rs dt : Int32} {mf : Nat → Nat → Int32} {mn : Nat} {tc : Nat → Nat} {tl to : Nat} {kd fi se : Int32} {ta : Nat} {nu : Int32} {lc : Nat → Int32} {ln : Nat} {sv : Bool} {er : Int32} {x : Nat → Int32} {f : Nat → Nat → Int32} {H : Heap} {rr : Int32} {k : Nat} {v : Int32} (R : RR c z rz hd ct rs dt tc tl lc ln sv er x f) (C : (k = 0 ∧ ∃ q : Nat, q < zcn c ∧ v = nI q ∧ hvF (zK c) q = true ∧ rr = (if clF (zK c) q = true then zK c 5 q else zK c 4 q + nI 4) ∧ va_P D vwCl (uw cA U rg c z rz hd ct rs dt mf mn tc tl to kd fi se ta nu lc ln sv er) H) ∨ (k = 1 ∧ isIx v (zcn c) = false ∧ va_P D vwCl (uw cA U rg c z rz hd ct rs dt mf mn tc tl to kd fi se ta nu lc ln sv er) H) ∨ (k = 2 ∧ ∃ q : Nat, q < zcn c ∧ v = nI q ∧ hvF (zK c) q = false ∧ va_P D vwCl (uw cA U rg c z rz hd ct rs dt mf mn tc tl to kd fi se ta nu lc ln sv er) H)) : OPC D cA U rg k rr (((fiM x (f 0) (zcn c) v).1, ((fiM x (f 0) (zcn c) v).2, f))) H := by
  have hjn := R.I.jn
  have hcn := R.I.cn
  have I := R.I
  have G := R.G
  rcases C with ⟨rfl, q, hq, ev, h2, h3, hP⟩ | ⟨rfl, h1, hP⟩ | ⟨rfl, q, hq, ev, h2, hP⟩
  · refine OPC_R ?_ hP R
    subst ev h3
    rw [fiM, if_pos (isIx_t hq (by omega)), nI_clamp (show q < 2 ^ 31 by omega), G.of hq (w := 3) (by decide), if_neg (fun e => by rw [hvF_0.mpr e] at h2; cases h2), G.cl I hq, G.of hq (by decide), G.of hq (by decide)]
    by_cases y : clF (zK c) q = true
    · rw [if_pos y, if_pos y]
    · rw [if_neg y, if_neg y]
  · exact OPC_F (by decide) (by rw [fiM, if_neg (bnt h1)]) hP R
  · subst ev
    exact OPC_F (by decide) (by rw [fiM, if_pos (isIx_t hq (by omega)), nI_clamp (show q < 2 ^ 31 by omega), G.of hq (w := 3) (by decide), if_pos (hvF_0.mp h2)]) hP R
theorem op_doubtful {D : va_G} {cA : Nat → ClassId} {U : Nat → Nat} {rg : Nat → Option Nat} {c z : CS} {rz : Nat → CS} {hd ct : Nat} {rs dt : Int32} {mf : Nat → Nat → Int32} {mn : Nat} {tc : Nat → Nat} {tl to : Nat} {kd fi se : Int32} {ta : Nat} {nu : Int32} {lc : Nat → Int32} {ln : Nat} {sv : Bool} {er : Int32} {x : Nat → Int32} {f : Nat → Nat → Int32} {H : Heap} {rr : Int32} {k : Nat} {v : Int32} (R : RR c z rz hd ct rs dt tc tl lc ln sv er x f) (C : (k = 0 ∧ ¬ nthV (fdF (zJ c 0) (zJ c 1) (zjn c)) (zjn c) v = none ∧ rr = oI (nthV (fdF (zJ c 0) (zJ c 1) (zjn c)) (zjn c) v) ∧ va_P D vwCl (uw cA U rg c z rz hd ct rs dt mf mn tc tl to kd fi se ta nu lc ln sv er) H) ∨ (k = 1 ∧ nthV (fdF (zJ c 0) (zJ c 1) (zjn c)) (zjn c) v = none ∧ va_P D vwCl (uw cA U rg c z rz hd ct rs dt mf mn tc tl to kd fi se ta nu lc ln sv er) H)) : OPC D cA U rg k rr (((dfM x (f 0) (zjn c) v).1, ((dfM x (f 0) (zjn c) v).2, f))) H := by
  have hjn := R.I.jn
  have hcn := R.I.cn
  have I := R.I
  have G := R.G
  have e := df_is I G v
  rcases C with ⟨rfl, h1, h3, hP⟩ | ⟨rfl, h1, hP⟩
  · obtain ⟨b9, e9⟩ := o_some h1
    rw [e9] at e h3
    have em : dfM x (f 0) (zjn c) v = (nI b9, upd x 4 (nI 0)) := by rw [dfM, e]
    rw [em]
    show OPC D cA U rg 0 rr (nI b9, (upd x 4 (nI 0), f)) H
    exact OPC_mk pk_us (fun _ => h3.symm) (LST_of hP (R.up4 _))
  · rw [h1] at e
    have em : dfM x (f 0) (zjn c) v = (nI 0, upd x 4 (nI 1)) := by rw [dfM, e]
    rw [em]
    show OPC D cA U rg 1 rr (nI 0, (upd x 4 (nI 1), f)) H
    exact OPC_mk pk_us (fun q => absurd q (by decide)) (LST_of hP (R.up4 _))
theorem op_refusal {D : va_G} {cA : Nat → ClassId} {U : Nat → Nat} {rg : Nat → Option Nat} {c z : CS} {rz : Nat → CS} {hd ct : Nat} {rs dt : Int32} {mf : Nat → Nat → Int32} {mn : Nat} {tc : Nat → Nat} {tl to : Nat} {kd fi se : Int32} {ta : Nat} {nu : Int32} {lc : Nat → Int32} {ln : Nat} {sv : Bool} {er : Int32} {x : Nat → Int32} {f : Nat → Nat → Int32} {H : Heap} {rr : Int32} {k : Nat} {b : Bool} (R : RR c z rz hd ct rs dt tc tl lc ln sv er x f) (C : (k = 0 ∧ ¬ rs = 0 ∧ rr = (if b = true then dt else rs) ∧ va_P D vwCl (uw cA U rg c z rz hd ct rs dt mf mn tc tl to kd fi se ta nu lc ln sv er) H) ∨ (k = 1 ∧ rs = 0 ∧ va_P D vwCl (uw cA U rg c z rz hd ct rs dt mf mn tc tl to kd fi se ta nu lc ln sv er) H)) : OPC D cA U rg k rr (((rfM x b).1, ((rfM x b).2, f))) H := by
  have hjn := R.I.jn
  have hcn := R.I.cn
  have I := R.I
  have G := R.G
  rcases C with ⟨rfl, h1, h3, hP⟩ | ⟨rfl, h1, hP⟩
  · refine OPC_R ?_ hP R
    rw [rfM, R.x5, R.x6, if_neg h1, h3]
    cases b <;> rfl
  · exact OPC_F (by decide) (by rw [rfM, R.x5, if_pos h1]) hP R
theorem op_account {D : va_G} {cA : Nat → ClassId} {U : Nat → Nat} {rg : Nat → Option Nat} {c z : CS} {rz : Nat → CS} {hd ct : Nat} {rs dt : Int32} {mf : Nat → Nat → Int32} {mn : Nat} {tc : Nat → Nat} {tl to : Nat} {kd fi se : Int32} {ta : Nat} {nu : Int32} {lc : Nat → Int32} {ln : Nat} {sv : Bool} {er : Int32} {x : Nat → Int32} {f : Nat → Nat → Int32} {H : Heap} {rr : Int32} {k : Nat} {t : Int32} (R : RR c z rz hd ct rs dt tc tl lc ln sv er x f) (C : (k = 0 ∧ ∃ k : Nat, k ≤ 11 ∧ t = nI k ∧ rr = acF c tl ct k ∧ va_P D vwCl (uw cA U rg c z rz hd ct rs dt mf mn tc tl to kd fi se ta nu lc ln sv er) H) ∨ (k = 1 ∧ inB t (nI 0) (nI 11) = false ∧ va_P D vwCl (uw cA U rg c z rz hd ct rs dt mf mn tc tl to kd fi se ta nu lc ln sv er) H)) : OPC D cA U rg k rr (((acM x (f 0) (zjn c) (zcn c) t).1, ((acM x (f 0) (zjn c) (zcn c) t).2, f))) H := by
  have hjn := R.I.jn
  have hcn := R.I.cn
  have I := R.I
  have G := R.G
  rcases C with ⟨rfl, q, hq, et, h3, hP⟩ | ⟨rfl, h1, hP⟩
  · refine OPC_R ?_ hP R
    subst et h3
    rw [acM, if_pos (inB_t hq (by decide)), nI_clamp (show q < 2 ^ 31 by omega)]
    refine congrArg (fun v => (v, failX x 0)) ?_
    have hq12 : q = 0 ∨ q = 1 ∨ q = 2 ∨ q = 3 ∨ q = 4 ∨ q = 5 ∨ q = 6 ∨ q = 7 ∨ q = 8 ∨ q = 9 ∨ q = 10 ∨ q = 11 := by omega
    rcases hq12 with rfl | rfl | rfl | rfl | rfl | rfl | rfl | rfl | rfl | rfl | rfl | rfl
    · exact G.g0
    · exact G.g1
    · exact G.g2
    · exact G.g3
    · exact congrArg nI (np_ct G)
    · exact congrArg nI (cl_ct I G)
    · exact G.g4
    · exact G.g5
    · exact G.g6
    · exact by_sum G (by decide)
    · exact R.x7
    · exact R.x1
  · exact OPC_F (by decide) (by rw [acM, if_neg (bnt h1)]) hP R
theorem op_character {D : va_G} {cA : Nat → ClassId} {U : Nat → Nat} {rg : Nat → Option Nat} {c z : CS} {rz : Nat → CS} {hd ct : Nat} {rs dt : Int32} {mf : Nat → Nat → Int32} {mn : Nat} {tc : Nat → Nat} {tl to : Nat} {kd fi se : Int32} {ta : Nat} {nu : Int32} {lc : Nat → Int32} {ln : Nat} {sv : Bool} {er : Int32} {x : Nat → Int32} {f : Nat → Nat → Int32} {H : Heap} {rr : Int32} {k : Nat} {v : Int32} (R : RR c z rz hd ct rs dt tc tl lc ln sv er x f) (C : (k = 0 ∧ ∃ j : Nat, j < ln ∧ v = nI j ∧ rr = nI (lc j).toNatClampNeg ∧ va_P D vwCl (uw cA U rg c z rz hd ct rs dt mf mn tc tl to kd fi se ta nu lc ln sv er) H) ∨ (k = 1 ∧ isIx v ln = false ∧ va_P D vwCl (uw cA U rg c z rz hd ct rs dt mf mn tc tl to kd fi se ta nu lc ln sv er) H)) : OPC D cA U rg k rr (((chO x (f 5) ln v).1, ((chO x (f 5) ln v).2, f))) H := by
  have hjn := R.I.jn
  have hcn := R.I.cn
  have I := R.I
  have G := R.G
  obtain ⟨l32, _, hl⟩ := R.L
  rcases C with ⟨rfl, j, hj, ev, h3, hP⟩ | ⟨rfl, h1, hP⟩
  · refine OPC_R ?_ hP R
    obtain ⟨e1, w, hw, e2⟩ := hl j hj
    subst ev h3
    rw [chO, if_pos (isIx_t hj (by omega)), nI_clamp (show j < 2 ^ 31 by omega), ← e1, e2, nI_clamp (by omega)]
  · exact OPC_F (by decide) (by rw [chO, if_neg (bnt h1)]) hP R
