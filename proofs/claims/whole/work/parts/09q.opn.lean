/-! an order's outcome on both sides; what both keep of the past -/
def OK3 (res : Int32) (c' : CS) (x : Nat → Int32) (f : Nat → Nat → Int32) (w : Bool) (ch : Nat) (M : Int32 × MX) : Prop := M.1 = res ∧ RI c' ∧ RG c' (M.2.2 0) ∧ M.2.1 1 = nI (kpC w ch) ∧ M.2.1 4 = nI 0 ∧ (∀ j, j ≠ 1 → j ≠ 3 → j ≠ 4 → M.2.1 j = x j) ∧ M.2.2 1 = kpK w (f 0) (f 1) ch ∧ ∀ j, j ≠ 0 → j ≠ 1 → j ≠ 6 → j ≠ 7 → M.2.2 j = f j
def OUT (io : Bool) (rf : Option RS) (n : Nat) (res : Int32) (c' : CS) (x : Nat → Int32) (f : Nat → Nat → Int32) (w : Bool) (ch : Nat) (M : Int32 × MX) : Prop :=
  (io = false → M.2 = (failX x 1, f)) ∧ (io = true → ∀ e : RS, rf = some e → M.2 = (refX x n e.1 e.2, f)) ∧ (io = true → rf = none → OK3 res c' x f w ch M)
theorem kpX_f (x : Nat → Int32) (w : Bool) (ch : Nat) : kpX x w ch 1 = nI (kpC w ch) ∧ kpX x w ch 4 = nI 0 ∧ ∀ j, j ≠ 1 → j ≠ 3 → j ≠ 4 → kpX x w ch j = x j := by
  unfold kpX
  exact ⟨by rw [pk_un (by omega), pk_un (by omega), pk_us], pk_us, fun j h1 h3 h4 => by rw [pk_un h4, pk_un h3, pk_un h1]⟩
theorem kpX2_f (x : Nat → Int32) (w : Bool) (ch : Nat) : kpX2 x w ch 1 = nI (kpC w ch) ∧ kpX2 x w ch 4 = nI 0 ∧ ∀ j, j ≠ 1 → j ≠ 3 → j ≠ 4 → kpX2 x w ch j = x j := by
  unfold kpX2
  exact ⟨by rw [pk_un (by omega), pk_us], pk_us, fun j h1 h3 h4 => by rw [pk_un h4, pk_un h1]⟩
theorem jrr_b (a b : Int32) : jrr a b = (inB a (-9) (nI 9) && inB b (nI 0) (nI 9)) := by
  unfold jrr inB
  rw [← Bool.decide_and, ← Bool.decide_and, ← Bool.decide_and, ← Bool.decide_and, nI_0]
  exact decide_eq_decide.mpr (by rw [Int32.not_lt, Int32.not_lt, Int32.not_lt, Int32.not_lt, and_assoc, and_assoc])
theorem csr_b (a b : Int32) : csr a b = (inB a (nI 0) (nI 100) && inB b (nI 0) (nI 99)) := by
  unfold csr inB
  rw [← Bool.decide_and, ← Bool.decide_and, ← Bool.decide_and, ← Bool.decide_and, nI_0]
  exact decide_eq_decide.mpr (by rw [Int32.not_lt, Int32.not_lt, Int32.not_lt, Int32.not_lt, and_assoc, and_assoc])
theorem fnd_ge {p : Nat → Bool} {n : Nat} : ∀ m, n ≤ m → (∀ k, n ≤ k → k < m → p k = false) → fnd p m = fnd p n
  | 0, h, _ => by rw [show n = 0 by omega]
  | m + 1, h, hp => by
    rcases Nat.lt_or_ge m n with y | y
    · rw [show n = m + 1 by omega]
    · have ih := fnd_ge m y (fun k h1 h2 => hp k h1 (by omega))
      rw [fnd, ih, hp m y (by omega)]
      cases fnd p n <;> rfl
section OPN
variable {c : CS} {x : Nat → Int32} {f : Nat → Nat → Int32} {w : Bool} {ch : Nat}
theorem vu0 {f : Nat → Nat → Int32} {v : Nat → Int32} {k : Nat} : va_up f k v k = v := va_up_self _ _ _
theorem vun {f : Nat → Nat → Int32} {v : Nat → Int32} {k j : Nat} (h : j ≠ k) : va_up f k v j = f j := va_up_ne _ _ h
theorem vu2 {f : Nat → Nat → Int32} {a b : Nat → Int32} : va_up (va_up f 0 a) 1 b 0 = a := by rw [vun (by decide), vu0]
theorem vu2o {f : Nat → Nat → Int32} {a b : Nat → Int32} {j : Nat} (h0 : j ≠ 0) (h1 : j ≠ 1) : va_up (va_up f 0 a) 1 b j = f j := by rw [vun h1, vun h0]
theorem vu4 {f : Nat → Nat → Int32} {a b d e : Nat → Int32} : va_up (va_up (va_up (va_up f 0 a) 1 b) 6 d) 7 e 0 = a := by rw [vun (by decide), vun (by decide), vun (by decide), vu0]
theorem vu41 {f : Nat → Nat → Int32} {a b d e : Nat → Int32} : va_up (va_up (va_up (va_up f 0 a) 1 b) 6 d) 7 e 1 = b := by rw [vun (by decide), vun (by decide), vu0]
theorem vu4o {f : Nat → Nat → Int32} {a b d e : Nat → Int32} {j : Nat} (h0 : j ≠ 0) (h1 : j ≠ 1) (h6 : j ≠ 6) (h7 : j ≠ 7) : va_up (va_up (va_up (va_up f 0 a) 1 b) 6 d) 7 e j = f j := by rw [vun h7, vun h6, vun h1, vun h0]
theorem ok2 {res r : Int32} {c' : CS} {x' : Nat → Int32} {a : Nat → Int32} (h1 : r = res) (h2 : RI c') (h3 : RG c' a) (h4 : x' 1 = nI (kpC w ch) ∧ x' 4 = nI 0 ∧ ∀ j, j ≠ 1 → j ≠ 3 → j ≠ 4 → x' j = x j) : OK3 res c' x f w ch (r, (x', va_up (va_up f 0 a) 1 (kpK w (f 0) (f 1) ch))) :=
  ⟨h1, h2, by show RG c' (va_up (va_up f 0 a) 1 (kpK w (f 0) (f 1) ch) 0); rw [vu2]; exact h3, h4.1, h4.2.1, h4.2.2, (by show va_up (va_up f 0 a) 1 (kpK w (f 0) (f 1) ch) 1 = _; rw [va_up_self]), fun j h0 h1 _ _ => vu2o h0 h1⟩
theorem ok4 {res r : Int32} {c' : CS} {x' : Nat → Int32} {a d e : Nat → Int32} (h1 : r = res) (h2 : RI c') (h3 : RG c' a) (h4 : x' 1 = nI (kpC w ch) ∧ x' 4 = nI 0 ∧ ∀ j, j ≠ 1 → j ≠ 3 → j ≠ 4 → x' j = x j) : OK3 res c' x f w ch (r, (x', va_up (va_up (va_up (va_up f 0 a) 1 (kpK w (f 0) (f 1) ch)) 6 d) 7 e)) :=
  ⟨h1, h2, by show RG c' (va_up (va_up (va_up (va_up f 0 a) 1 (kpK w (f 0) (f 1) ch)) 6 d) 7 e 0); rw [vu4]; exact h3, h4.1, h4.2.1, h4.2.2, by show va_up (va_up (va_up (va_up f 0 a) 1 (kpK w (f 0) (f 1) ch)) 6 d) 7 e 1 = _; rw [vu41], fun j h0 h1 h6 h7 => vu4o h0 h1 h6 h7⟩
theorem low_is (hI : RI c) {q : Nat} (hq : q < zcn c) (hp : hpF (zK c) q = true) : lowM (zK c 2 q) = (fnd (hs (zK c 2 q)) (zjn c)).getD 0 ∧ ∃ j, fnd (hs (zK c 2 q)) (zjn c) = some j := by
  have hjn := hI.jn
  have P : PN (zjn c) (zK c 2 q) := by
    rcases (hI.c hq).2.2.1 with e | e
    · unfold hpF at hp; rw [e] at hp; cases hp
    · exact e
  refine ⟨by rw [lowM, fnd_ge 9 hjn (fun k h1 h2 => P.2 k h1 h2)], ?_⟩
  cases e : fnd (hs (zK c 2 q)) (zjn c) with
  | some j => exact ⟨j, rfl⟩
  | none =>
    have := P.1
    rw [fb_ct_zero.mpr (fnd_all e)] at this
    cases this
theorem hpF_0 {q : Nat} : hpF (zK c) q = false ↔ zK c 2 q = 0 := by
  unfold hpF
  constructor
  · intro h; simpa using h
  · intro h; rw [h]; rfl
theorem o_juror (hI : RI c) (hG : RG c (f 0)) (a b : Int32) : OUT (jrr a b) (rfJ (zjn c)) 2 (nI (zjn c)) (zAddJ c a b) x f w ch (jrM x f (zjn c) w ch a b) := by
  have hjn := hI.jn
  have K := kpX_f x w ch
  unfold jrM
  refine ⟨fun h => ?_, fun h e he => ?_, fun h he => ?_⟩
  · rw [jrr_b, Bool.and_eq_false_iff] at h
    by_cases y : inB a (-9) (nI 9) = true
    · rcases h with z | z
      · rw [y] at z; cases z
      · rw [if_pos y, if_neg (bnt z)]
    · rw [if_neg y]
  · rw [jrr_b] at h
    have h := Bool.and_eq_true_iff.mp h
    rw [if_pos h.1, if_pos h.2]
    unfold rfJ at he
    by_cases y : zjn c < 9
    · rw [if_pos y] at he; cases he
    · rw [if_neg y] at he
      rw [if_pos (by omega)]
      cases he; rfl
  · have hj := lt9_of he
    have h0 := h
    rw [jrr_b] at h
    have h := Bool.and_eq_true_iff.mp h
    have E := eq_juror hI hG h0 hj
    rw [if_pos h.1, if_pos h.2, if_neg (by omega)]
    exact ok2 rfl E.1 E.2 K
theorem o_bring (hI : RI c) (hG : RG c (f 0)) (a b : Int32) : OUT (csr a b) (rfK (zcn c)) 2 (nI (zcn c)) (zAddK c a b) x f w ch (brM x f (zcn c) w ch a b) := by
  have hcn := hI.cn
  have K := kpX_f x w ch
  unfold brM
  refine ⟨fun h => ?_, fun h e he => ?_, fun h he => ?_⟩
  · rw [csr_b, Bool.and_eq_false_iff] at h
    by_cases y : inB a (nI 0) (nI 100) = true
    · rcases h with z | z
      · rw [y] at z; cases z
      · rw [if_pos y, if_neg (bnt z)]
    · rw [if_neg y]
  · rw [csr_b] at h
    have h := Bool.and_eq_true_iff.mp h
    rw [if_pos h.1, if_pos h.2]
    unfold rfK at he
    by_cases y : zcn c < 10
    · rw [if_pos y] at he; cases he
    · rw [if_neg y] at he
      rw [if_pos (by omega)]
      cases he; rfl
  · have hj := lt10_of he
    have h0 := h
    rw [csr_b] at h
    have h := Bool.and_eq_true_iff.mp h
    have E := eq_bring hI hG h0 hj
    rw [if_pos h.1, if_pos h.2, if_neg (by omega)]
    exact ok2 rfl E.1 E.2 K
theorem o_call (hI : RI c) (hG : RG c (f 0)) (v : Int32) : OUT (isIx v (zcn c)) (rfCall (zK c) (zjn c) (zcn c) v.toNatClampNeg) 2 (zPan c) (zCall c v.toNatClampNeg) x f w ch (caM x f (zjn c) (zcn c) w ch v) := by
  have hcn := hI.cn
  have K := kpX_f x w ch
  unfold caM
  refine ⟨fun h => by rw [if_neg (bnt h)], fun h e he => ?_, fun h he => ?_⟩
  · obtain ⟨q, hq, eq⟩ := isIx_n h (by omega)
    rw [if_pos h]
    rw [eq, nI_clamp (by omega)] at he ⊢
    rw [hG.of hq (by decide), hG.cb hI]
    unfold rfCall at he
    by_cases y : hpF (zK c) q = true
    · rw [if_pos y] at he
      have L := low_is hI hq y
      rw [if_neg (fun z => by rw [hpF_0.mpr z] at y; cases y), L.1, hG.ld hI]
      cases he; rfl
    · rw [if_neg y] at he
      rw [if_pos (hpF_0.mp (eq_false_of_ne_true y))]
      by_cases z : cwF (zK c) (zcn c) (zjn c) (nI 0) < 3
      · rw [if_pos z] at he
        rw [if_neg (by omega)]
        cases he; rfl
      · rw [if_neg z] at he; cases he
  · obtain ⟨q, hq, eq⟩ := isIx_n h (by omega)
    rw [if_pos h]
    rw [eq, nI_clamp (by omega)] at he ⊢
    rw [hG.of hq (by decide), hG.cb hI]
    unfold rfCall at he
    by_cases y : hpF (zK c) q = true
    · rw [if_pos y] at he; cases he
    · rw [if_neg y] at he
      have y0 := hpF_0.mp (eq_false_of_ne_true y)
      rw [if_pos y0]
      by_cases z : cwF (zK c) (zcn c) (zjn c) (nI 0) < 3
      · rw [if_pos z] at he; cases he
      · have h3 : 3 ≤ cwF (zK c) (zcn c) (zjn c) (nI 0) := by omega
        have E := eq_call hI hG hq y0 h3
        rw [if_pos h3]
        exact ok2 (clP_is hI hG h3) E.1 E.2 K
theorem o_vote (hI : RI c) (hG : RG c (f 0)) (v : Int32) : OUT (isIx v (zcn c)) (rfVote (zK c) v.toNatClampNeg) 2 (nI (zVd c v.toNatClampNeg)) (zSay c v.toNatClampNeg) x f w ch (voM x f (zjn c) (zcn c) w ch v) := by
  have hcn := hI.cn
  have K := kpX_f x w ch
  unfold voM
  refine ⟨fun h => by rw [if_neg (bnt h)], fun h e he => ?_, fun h he => ?_⟩
  · obtain ⟨q, hq, eq⟩ := isIx_n h (by omega)
    rw [if_pos h]
    rw [eq, nI_clamp (by omega)] at he ⊢
    rw [hG.of hq (by decide), hG.of hq (by decide), hG.of hq (by decide), hG.of hq (by decide), hG.cl hI hq]
    unfold rfVote at he
    by_cases y : hpF (zK c) q = false
    · rw [if_pos y] at he
      rw [if_pos (hpF_0.mp y)]
      cases he; rfl
    · rw [if_neg y] at he
      rw [if_neg (fun z => y (hpF_0.mpr z))]
      by_cases z : clF (zK c) q = true
      · rw [if_pos z] at he
        rw [if_pos z]
        cases he; rfl
      · rw [if_neg z] at he
        rw [if_neg z]
        by_cases u : hvF (zK c) q = true
        · rw [if_pos u] at he
          rw [if_neg (fun t => by rw [(hI.k3 hq).mp t] at u; cases u)]
          cases he; rfl
        · rw [if_neg u] at he; cases he
  · obtain ⟨q, hq, eq⟩ := isIx_n h (by omega)
    rw [if_pos h]
    rw [eq, nI_clamp (by omega)] at he ⊢
    rw [hG.of hq (by decide), hG.of hq (by decide), hG.of hq (by decide), hG.of hq (by decide), hG.cl hI hq]
    unfold rfVote at he
    by_cases y : hpF (zK c) q = false
    · rw [if_pos y] at he; cases he
    · rw [if_neg y] at he
      have y0 : ¬ zK c 2 q = 0 := fun z => y (hpF_0.mpr z)
      rw [if_neg y0]
      by_cases z : clF (zK c) q = true
      · rw [if_pos z] at he; cases he
      · rw [if_neg z] at he
        rw [if_neg z]
        by_cases u : hvF (zK c) q = true
        · rw [if_pos u] at he; cases he
        · have E := eq_vote (l := f 6) (d := f 7) hI hG hq y0 (eq_false_of_ne_true z)
          rw [if_pos ((hI.k3 hq).mpr (eq_false_of_ne_true u))]
          exact ok4 (by rw [E.2.2]) E.1 E.2.1 K
theorem uns_e {q : Nat} {e : RS} (he : rfUns (zK c) q = some e) : (hvF (zK c) q = false ∧ e = (nI 5, zK c 6 q)) ∨ (hvF (zK c) q = true ∧ clF (zK c) q = true ∧ e = (nI 6, zK c 5 q)) := by
  unfold rfUns at he
  by_cases y : hvF (zK c) q = false
  · rw [if_pos y] at he; exact Or.inl ⟨y, (Option.some.inj he).symm⟩
  · rw [if_neg y] at he
    by_cases z : clF (zK c) q = true
    · rw [if_pos z] at he; exact Or.inr ⟨by simpa using y, z, (Option.some.inj he).symm⟩
    · rw [if_neg z] at he; cases he
theorem uns_n {q : Nat} (he : rfUns (zK c) q = none) : hvF (zK c) q = true ∧ clF (zK c) q = false := by
  unfold rfUns at he
  by_cases y : hvF (zK c) q = false
  · rw [if_pos y] at he; cases he
  · rw [if_neg y] at he
    by_cases z : clF (zK c) q = true
    · rw [if_pos z] at he; cases he
    · exact ⟨by simpa using y, eq_false_of_ne_true z⟩
theorem hvF_0 {q : Nat} : hvF (zK c) q = false ↔ zK c 3 q = 0 := by
  unfold hvF
  constructor
  · intro h; simpa using h
  · intro h; rw [h]; rfl
theorem o_unsay (hI : RI c) (hG : RG c (f 0)) (v : Int32) : OUT (isIx v (zcn c)) (rfUns (zK c) v.toNatClampNeg) 2 (nI (zTo c v.toNatClampNeg).1) (zUns c v.toNatClampNeg) x f w ch (usM x f (zjn c) (zcn c) w ch v) := by
  have hcn := hI.cn
  have K := kpX_f x w ch
  unfold usM
  refine ⟨fun h => by rw [if_neg (bnt h)], fun h e he => ?_, fun h he => ?_⟩
  · obtain ⟨q, hq, eq⟩ := isIx_n h (by omega)
    rw [if_pos h]
    rw [eq, nI_clamp (by omega)] at he ⊢
    rw [hG.of hq (w := 3) (by decide), hG.of hq (w := 6) (by decide), hG.of hq (w := 5) (by decide), hG.cl hI hq]
    rcases uns_e he with ⟨y, rfl⟩ | ⟨y, z, rfl⟩
    · rw [if_pos (hvF_0.mp y)]
    · rw [if_neg (fun t => by rw [hvF_0.mpr t] at y; cases y), if_pos z]
  · obtain ⟨q, hq, eq⟩ := isIx_n h (by omega)
    rw [if_pos h]
    rw [eq, nI_clamp (by omega)] at he ⊢
    obtain ⟨y, z⟩ := uns_n he
    have E := eq_unsay (l := f 6) (d := f 7) hI hG hq y z
    rw [if_neg (show ¬ gof (f 0) q 3 = 0 from fun t => by rw [hG.of hq (by decide)] at t; rw [hvF_0.mpr t] at y; cases y), hG.cl hI hq, if_neg (bnt z)]
    exact ok4 E.2.2 E.1 E.2.1 K
theorem k7_lt (hI : RI c) {q : Nat} (hq : q < zcn c) : zK c 7 q < nI 2 ↔ ¬ zK c 7 q = nI 2 := by
  obtain ⟨a, ha, e⟩ := (hI.c hq).2.2.2.2.1
  rw [e, nI_ltI (by omega) (by decide), nI_eq (by omega) (by decide)]
  omega
theorem o_appeal (hI : RI c) (hG : RG c (f 0)) (v : Int32) : OUT (isIx v (zcn c)) (rfApp (zK c) (zjn c) (zcn c) v.toNatClampNeg) 2 (nI (zVd (zAp c v.toNatClampNeg) v.toNatClampNeg)) (zSay (zAp c v.toNatClampNeg) v.toNatClampNeg) x f w ch (apM x f (zjn c) (zcn c) w ch v) := by
  have hcn := hI.cn
  have K := kpX_f x w ch
  unfold apM
  refine ⟨fun h => by rw [if_neg (bnt h)], fun h e he => ?_, fun h he => ?_⟩
  · obtain ⟨q, hq, eq⟩ := isIx_n h (by omega)
    rw [if_pos h]
    rw [eq, nI_clamp (by omega)] at he ⊢
    rw [hG.of hq (w := 3) (by decide), hG.of hq (w := 6) (by decide), hG.of hq (w := 5) (by decide), hG.of hq (w := 7) (by decide), hG.of hq (w := 2) (by decide), hG.cl hI hq, hG.cb hI]
    unfold rfApp at he
    cases r : rfUns (zK c) q with
    | some e2 =>
      rw [r] at he
      have he : some e2 = some e := he
      cases he
      rcases uns_e r with ⟨y, rfl⟩ | ⟨y, z, rfl⟩
      · rw [if_pos (hvF_0.mp y)]
      · rw [if_neg (fun t => by rw [hvF_0.mpr t] at y; cases y), if_pos z]
    | none =>
      rw [r] at he
      obtain ⟨y, z⟩ := uns_n r
      rw [if_neg (fun t => by rw [hvF_0.mpr t] at y; cases y), if_neg (bnt z)]
      have he : (if zK c 7 q < nI 2 then (if cwF (zK c) (zcn c) (zjn c) (zK c 2 q) < 1 then some (nI 3, nI (cwF (zK c) (zcn c) (zjn c) (zK c 2 q))) else none) else some (nI 7, zK c 3 q)) = some e := he
      by_cases u : zK c 7 q < nI 2
      · rw [if_pos u] at he
        rw [if_neg ((k7_lt hI hq).mp u)]
        by_cases t : cwF (zK c) (zcn c) (zjn c) (zK c 2 q) < 1
        · rw [if_pos t] at he
          rw [if_neg (by omega)]
          rw [show cwF (zK c) (zcn c) (zjn c) (zK c 2 q) = 0 by omega] at he
          cases he; rfl
        · rw [if_neg t] at he; cases he
      · rw [if_neg u] at he
        rw [if_pos (Classical.byContradiction (fun t => u ((k7_lt hI hq).mpr t)))]
        cases he; rfl
  · obtain ⟨q, hq, eq⟩ := isIx_n h (by omega)
    rw [if_pos h]
    rw [eq, nI_clamp (by omega)] at he ⊢
    unfold rfApp at he
    cases r : rfUns (zK c) q with
    | some e2 =>
      rw [r] at he
      have he : some e2 = none := he
      cases he
    | none =>
      rw [r] at he
      obtain ⟨y, z⟩ := uns_n r
      have he : (if zK c 7 q < nI 2 then (if cwF (zK c) (zcn c) (zjn c) (zK c 2 q) < 1 then some (nI 3, nI (cwF (zK c) (zcn c) (zjn c) (zK c 2 q))) else none) else some (nI 7, zK c 3 q)) = none := he
      by_cases u : zK c 7 q < nI 2
      · rw [if_pos u] at he
        by_cases t : cwF (zK c) (zcn c) (zjn c) (zK c 2 q) < 1
        · rw [if_pos t] at he; cases he
        · have h1 : 1 ≤ cwF (zK c) (zcn c) (zjn c) (zK c 2 q) := by omega
          have E := eq_appeal (l := f 6) (d := f 7) hI hG hq y z ((k7_lt hI hq).mp u) h1
          rw [if_neg (show ¬ gof (f 0) q 3 = 0 from fun t => by rw [hG.of hq (by decide)] at t; rw [hvF_0.mpr t] at y; cases y), hG.cl hI hq, if_neg (bnt z), if_neg (show ¬ gof (f 0) q 7 = nI 2 by rw [hG.of hq (by decide)]; exact (k7_lt hI hq).mp u), hG.cb hI, if_pos (show 1 ≤ cwF (zK c) (zcn c) (zjn c) (gof (f 0) q 2) by rw [hG.of hq (by decide)]; exact h1)]
          exact ok4 (by rw [E.2.2.2]) E.2.1 E.2.2.1 K
      · rw [if_neg u] at he; cases he
theorem o_clerk (hI : RI c) (hG : RG c (f 0)) : OUT true (rfClk (zck c)) 1 (nI (zck c + 1)) (mkz (zJ c) (zjn c) (zK c) (zrw c) (zcn c) (zrl c) (zck c + 1) (ztn c) (zsd c)) x f w ch (ckM x f (zck c) w ch) := by
  have hck := hI.ck
  have K := kpX2_f x w ch
  unfold ckM
  refine ⟨fun h => (by cases h), fun _ e he => ?_, fun _ he => ?_⟩
  · unfold rfClk at he
    by_cases y : zck c < 4
    · rw [if_pos y] at he; cases he
    · rw [if_neg y] at he
      rw [if_pos (by omega)]
      cases he; rfl
  · unfold rfClk at he
    by_cases y : zck c < 4
    · have E := eq_clerk hI hG y
      rw [if_neg (by omega)]
      exact ok2 rfl E.1 E.2 K
    · rw [if_neg y] at he; cases he
theorem o_night (hI : RI c) (hG : RG c (f 0)) : OUT true (rfNt (ztn c) (zrl c)) 1 (nI (zTk c)) (zNs c (zTk c)) x f w ch (ngM x f (zjn c) (zcn c) (zck c) (ztn c) w ch) := by
  have htn := hI.tn
  have K := kpX2_f x w ch
  unfold ngM
  refine ⟨fun h => (by cases h), fun _ e he => ?_, fun _ he => ?_⟩
  · unfold rfNt at he
    by_cases y : ztn c < 99
    · rw [if_pos y] at he; cases he
    · rw [if_neg y] at he
      rw [if_pos (by omega), hG.hc]
      · cases he; rfl
      · exact hI
  · have hj := lt99_of he
    have E := eq_night (l := f 6) (d := f 7) hI hG hj
    rw [if_neg (by omega)]
    exact ok4 (by unfold ngZ; rw [E.2.2]) E.1 E.2.1 K
end OPN
