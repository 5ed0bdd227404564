/-! a court of the class and the model's row of numbers: what both keep, and that they say the same -/
theorem i_eq {x y : Int32} : x = y ↔ x.toInt = y.toInt := Int32.toInt_inj.symm
theorem i_0 : (0 : Int32).toInt = 0 := by decide +kernel
abbrev bd (x : Int32) : Prop := -2000 ≤ x.toInt ∧ x.toInt ≤ 2000
theorem sbI {x y : Int32} (hx : bd x) (hy : bd y) : (x - y).toInt = x.toInt - y.toInt := fb_subI (by omega) (by omega)
theorem adI {x y : Int32} (hx : bd x) (hy : bd y) : (x + y).toInt = x.toInt + y.toInt := fb_addI (by omega) (by omega)
theorem sb_e {x y : Int32} (hx : bd x) (hy : bd y) : x - y = 0 ↔ x.toInt = y.toInt := by rw [i_eq, sbI hx hy, i_0]; omega
theorem sb_l {x y : Int32} (hx : bd x) (hy : bd y) : x - y < 0 ↔ x.toInt < y.toInt := by rw [Int32.lt_iff_toInt_lt, sbI hx hy, i_0]; omega
theorem sb_g {x y : Int32} (hx : bd x) (hy : bd y) : 0 < x - y ↔ y.toInt < x.toInt := by rw [Int32.lt_iff_toInt_lt, sbI hx hy, i_0]; omega
theorem sb_ge {x y : Int32} (hx : bd x) (hy : bd y) : 0 ≤ x - y ↔ y.toInt ≤ x.toInt := by rw [Int32.le_iff_toInt_le, sbI hx hy, i_0]; omega
theorem sb_le {x y : Int32} (hx : bd x) (hy : bd y) : x - y ≤ 0 ↔ x.toInt ≤ y.toInt := by rw [Int32.le_iff_toInt_le, sbI hx hy, i_0]; omega
theorem bd_n {n : Nat} (h : n ≤ 2000) : bd (nI n) := by have := nI_toInt (n := n) (by omega); constructor <;> omega
theorem nIt {n : Nat} (h : n ≤ 2000) : (nI n).toInt = (n : Int) := nI_toInt (by omega)
theorem m1I : (-1 : Int32).toInt = -1 := by decide +kernel
theorem fb_ct_3 {p : Nat → Bool} {n : Nat} (h : fb_ct p n = 3) : n ≠ 0 := fun e => by rw [e] at h; cases h
-- ---- keys
def kJ (kf : Nat → Nat → Int32) (cn : Nat) (d : Nat → Int32) (j : Nat) : Int := (ldF kf cn j : Int) * 160 + (d j).toInt * 16 + j
def kK (kf : Nat → Nat → Int32) (c : Nat) : Int := (kf 1 c).toInt * 2048 + (kf 0 c).toInt * 16 + c
def kD (l d : Nat → Int32) (j : Nat) : Int := -((d j).toInt * 512 + (l j).toInt * 16) + j
def PN (jn : Nat) (p : Int32) : Prop := fb_ct (hs p) jn = 3 ∧ ∀ k, jn ≤ k → k < 9 → hs p k = false
def CI (z : CS) (c : Nat) : Prop := (∃ m : Nat, m ≤ 100 ∧ zK z 0 c = nI m) ∧ (∃ t : Nat, t ≤ 99 ∧ zK z 1 c = nI t) ∧ (zK z 2 c = 0 ∨ PN (zjn z) (zK z 2 c)) ∧ ((zK z 3 c = nI 0 ∧ zK z 4 c = -1 ∧ zK z 5 c = -1) ∨ (¬ zK z 2 c = 0 ∧ (zK z 3 c = nI 1 ∨ zK z 3 c = nI 2) ∧ (∃ s : Nat, s ≤ ztn z ∧ zK z 4 c = nI s) ∧ (zK z 5 c = -1 ∨ ∃ s : Nat, s ≤ ztn z ∧ zK z 5 c = nI s))) ∧ (∃ a : Nat, a ≤ 2 ∧ zK z 7 c = nI a) ∧ rpF (zK z) c (nI (ztn z)) = false
def JI (z : CS) (j : Nat) : Prop := (-9 ≤ (zJ z 0 j).toInt ∧ (zJ z 0 j).toInt ≤ 9) ∧ (0 ≤ (zJ z 1 j).toInt ∧ (zJ z 1 j).toInt ≤ 9) ∧ ldF (zK z) (zcn z) j ≤ 3
def RI (z : CS) : Prop := zjn z ≤ 9 ∧ zcn z ≤ 10 ∧ (1 ≤ zck z ∧ zck z ≤ 4) ∧ ztn z ≤ 99 ∧ (∀ j, j < zjn z → JI z j) ∧ (∀ c, c < zcn z → CI z c) ∧ RowS (kK (zK z)) (hdF (zK z)) (zcn z) (zrw z) (zrl z)
def RG (z : CS) (g : Nat → Int32) : Prop := g 0 = nI (zjn z) ∧ g 1 = nI (zcn z) ∧ g 2 = nI (zck z) ∧ g 3 = nI (ztn z) ∧ g 4 = zsd z ∧ g 5 = isum (zK z 6) (zcn z) ∧ g 6 = isum (zK z 7) (zcn z) ∧ (∀ j, j < zjn z → ∀ w, w < 4 → gby g j w = zJ z w j) ∧ ∀ c, c < zcn z → ∀ w, w < 8 → gof g c w = zK z w c
section RIs
variable {z : CS} {g : Nat → Int32}
theorem RI.jn (h : RI z) : zjn z ≤ 9 := h.1
theorem RI.cn (h : RI z) : zcn z ≤ 10 := h.2.1
theorem RI.ck (h : RI z) : 1 ≤ zck z ∧ zck z ≤ 4 := h.2.2.1
theorem RI.tn (h : RI z) : ztn z ≤ 99 := h.2.2.2.1
theorem RI.j (h : RI z) {j : Nat} (hj : j < zjn z) : JI z j := h.2.2.2.2.1 j hj
theorem RI.c (h : RI z) {c : Nat} (hc : c < zcn z) : CI z c := h.2.2.2.2.2.1 c hc
theorem RI.row (h : RI z) : RowS (kK (zK z)) (hdF (zK z)) (zcn z) (zrw z) (zrl z) := h.2.2.2.2.2.2
theorem RI.ok (h : RI z) : zOk z := ⟨h.jn, h.cn, Nat.le_trans (row_le h.row) h.cn, fun k hk => Nat.lt_of_lt_of_le (h.row.1 k hk).1 h.cn, h.ck.2, h.tn⟩
theorem RG.g0 (h : RG z g) : g 0 = nI (zjn z) := h.1
theorem RG.g1 (h : RG z g) : g 1 = nI (zcn z) := h.2.1
theorem RG.g2 (h : RG z g) : g 2 = nI (zck z) := h.2.2.1
theorem RG.g3 (h : RG z g) : g 3 = nI (ztn z) := h.2.2.2.1
theorem RG.g4 (h : RG z g) : g 4 = zsd z := h.2.2.2.2.1
theorem RG.g5 (h : RG z g) : g 5 = isum (zK z 6) (zcn z) := h.2.2.2.2.2.1
theorem RG.g6 (h : RG z g) : g 6 = isum (zK z 7) (zcn z) := h.2.2.2.2.2.2.1
theorem RG.by (h : RG z g) {j w : Nat} (hj : j < zjn z) (hw : w < 4) : gby g j w = zJ z w j := h.2.2.2.2.2.2.2.1 j hj w hw
theorem RG.of (h : RG z g) {c w : Nat} (hc : c < zcn z) (hw : w < 8) : gof g c w = zK z w c := h.2.2.2.2.2.2.2.2 c hc w hw
theorem RG.cong {g2 : Nat → Int32} (hI : RI z) (h : RG z g) (e : ∀ k, k < 124 → g2 k = g k) : RG z g2 := by
  have h1 := hI.jn
  have h2 := hI.cn
  refine ⟨by rw [e 0 (by decide)]; exact h.g0, by rw [e 1 (by decide)]; exact h.g1, by rw [e 2 (by decide)]; exact h.g2, by rw [e 3 (by decide)]; exact h.g3, by rw [e 4 (by decide)]; exact h.g4, by rw [e 5 (by decide)]; exact h.g5, by rw [e 6 (by decide)]; exact h.g6, fun j hj w hw => ?_, fun c hc w hw => ?_⟩
  · rw [← h.by hj hw]; exact e _ (by omega)
  · rw [← h.of hc hw]; exact e _ (by omega)
theorem cl_of {x : Int32} (h : x = -1 ∨ ∃ s : Nat, s ≤ 99 ∧ x = nI s) : (!decide (x = -1)) = decide (0 ≤ x) := by
  rcases h with e | ⟨s, hs, e⟩
  · rw [e]; decide +kernel
  · rw [e, decide_eq_true (nI_pos' (by omega)), decide_eq_false (fun q => nI_nm1 (c := s) (by omega) q.symm)]; rfl
theorem RI.k5 (h : RI z) {c : Nat} (hc : c < zcn z) : zK z 5 c = -1 ∨ ∃ s : Nat, s ≤ 99 ∧ zK z 5 c = nI s := by
  have ht := h.tn
  rcases (h.c hc).2.2.2.1 with q | q
  · exact Or.inl q.2.2
  · rcases q.2.2.2 with y | ⟨s, hs, e⟩
    · exact Or.inl y
    · exact Or.inr ⟨s, by omega, e⟩
theorem RG.cl (hI : RI z) (hG : RG z g) {c : Nat} (hc : c < zcn z) : clM g c = clF (zK z) c := by
  unfold clM clF
  rw [hG.of hc (by decide)]
  exact (cl_of (hI.k5 hc)).symm
theorem RG.ld (hI : RI z) (hG : RG z g) (j : Nat) : ldM g (zcn z) j = ldF (zK z) (zcn z) j := fb_ct_cong (fun k hk => by
  show (!clM g k && hs (gof g k 2) j) = (!clF (zK z) k && hs (zK z 2 k) j)
  rw [hG.cl hI hk, hG.of hk (by decide)])
theorem RG.cd (hI : RI z) (hG : RG z g) (but : Int32) (k : Nat) : cdM g (zcn z) but k = cdF (zK z) (zcn z) but k := by
  unfold cdM cdF; rw [hG.ld hI]
theorem RG.cb (hI : RI z) (hG : RG z g) (but : Int32) : cbM g (zjn z) (zcn z) but = cwF (zK z) (zcn z) (zjn z) but := fb_ct_cong (fun k _ => hG.cd hI but k)
theorem ld_le (kf : Nat → Nat → Int32) (cn j : Nat) : ldF kf cn j ≤ cn := fb_ct_le _ _
theorem RI.db (h : RI z) {j : Nat} (hj : j < zjn z) : bd (zJ z 1 j) := by have := (h.j hj).2.1; constructor <;> omega
theorem RI.ln (h : RI z) {j : Nat} (hj : j < zjn z) : bd (zJ z 0 j) := by have := (h.j hj).1; constructor <;> omega
theorem RG.er (hI : RI z) (hG : RG z g) {a b : Nat} (ha : a < zjn z) (hb : b < zjn z) : erM g (zcn z) a b = lk (kJ (zK z) (zcn z) (zJ z 1)) a b := by
  have hjn := hI.jn
  have hcn := hI.cn
  unfold erM lk
  rw [hG.ld hI, hG.ld hI, hG.by ha (by decide), hG.by hb (by decide)]
  have la := ld_le (zK z) (zcn z) a
  have lb := ld_le (zK z) (zcn z) b
  have ea := nIt (n := ldF (zK z) (zcn z) a) (by omega)
  have eb := nIt (n := ldF (zK z) (zcn z) b) (by omega)
  have ba := bd_n (n := ldF (zK z) (zcn z) a) (by omega)
  have bb := bd_n (n := ldF (zK z) (zcn z) b) (by omega)
  have da := (hI.j ha).2.1
  have db := (hI.j hb).2.1
  have ca := hI.db ha
  have cb := hI.db hb
  have kk : kJ (zK z) (zcn z) (zJ z 1) a < kJ (zK z) (zcn z) (zJ z 1) b ↔ (ldF (zK z) (zcn z) a : Int) * 160 + (zJ z 1 a).toInt * 16 + a < (ldF (zK z) (zcn z) b : Int) * 160 + (zJ z 1 b).toInt * 16 + b := Iff.rfl
  by_cases h1 : ldF (zK z) (zcn z) a = ldF (zK z) (zcn z) b
  · rw [if_pos ((sb_e ba bb).mpr (by rw [ea, eb, h1]))]
    by_cases h2 : (zJ z 1 a).toInt < (zJ z 1 b).toInt
    · rw [if_pos ((sb_l ca cb).mpr h2), decide_eq_true (kk.mpr (by omega))]
    · rw [if_neg (fun q => h2 ((sb_l ca cb).mp q))]
      by_cases h3 : (zJ z 1 a).toInt = (zJ z 1 b).toInt
      · rw [if_pos ((sb_e ca cb).mpr h3)]
        exact decide_eq_decide.mpr (by rw [kk]; omega)
      · rw [if_neg (fun q => h3 ((sb_e ca cb).mp q)), decide_eq_false (fun q => by rw [kk] at q; omega)]
  · rw [if_neg (fun q => h1 (by have := (sb_e ba bb).mp q; omega))]
    exact decide_eq_decide.mpr (by rw [sb_ge ba bb, ea, eb, kk]; omega)
theorem kJ_inj (hI : RI z) : kinj (kJ (zK z) (zcn z) (zJ z 1)) (zjn z) := fun a b ha hb e => by
  have hjn := hI.jn
  have da := (hI.j ha).2.1
  have db := (hI.j hb).2.1
  have e : (ldF (zK z) (zcn z) a : Int) * 160 + (zJ z 1 a).toInt * 16 + a = (ldF (zK z) (zcn z) b : Int) * 160 + (zJ z 1 b).toInt * 16 + b := e
  omega
theorem fcS_is {d : Nat → Int32} {kf : Nat → Nat → Int32} {cn : Nat} {but : Int32} : ∀ n, (∀ j, j < n → 0 ≤ (d j).toInt ∧ (d j).toInt ≤ 9) → n ≤ 9 → (fcS d kf cn but n).1 = bst (cdF kf cn but) (lk (kJ kf cn d)) n ∧ (fcS d kf cn but n).2 = ((bst (cdF kf cn but) (lk (kJ kf cn d)) n).map (ldF kf cn)).getD 3
  | 0, _, _ => ⟨rfl, rfl⟩
  | n + 1, hd, hn => by
    obtain ⟨h1, h2⟩ := fcS_is (d := d) (kf := kf) (cn := cn) (but := but) n (fun j hj => hd j (by omega)) (by omega)
    have h3 : ∀ b, bst (cdF kf cn but) (lk (kJ kf cn d)) n = some b → ldF kf cn b < 3 := fun b e => of_decide_eq_true (Bool.and_eq_true_iff.mp (bst_p e)).2
    cases hc : cdF kf cn but n with
    | false =>
      have h4 : 3 ≤ fcl kf cn but n := by
        unfold fcl
        split
        · exact Nat.le_refl _
        · rename_i q
          rw [cdF, eq_false_of_ne_true q] at hc
          have := of_decide_eq_false (show decide (ldF kf cn n < 3) = false from hc)
          omega
      have e : fcS d kf cn but (n + 1) = fcS d kf cn but n := by
        cases e2 : bst (cdF kf cn but) (lk (kJ kf cn d)) n with
        | none =>
          rw [e2] at h1 h2
          have h2 : (fcS d kf cn but n).2 = 3 := h2
          rw [fcS, if_neg (by omega)]
          split
          · rw [h1]
          · rfl
        | some b =>
          rw [e2] at h2
          have h2 : (fcS d kf cn but n).2 = ldF kf cn b := h2
          have := h3 b e2
          rw [fcS, if_neg (by omega), if_neg (by omega)]
      rw [e, bst_no hc]
      exact ⟨h1, h2⟩
    | true =>
      have hc2 := Bool.and_eq_true_iff.mp hc
      have h5 := of_decide_eq_true hc2.2
      have h4 : fcl kf cn but n = ldF kf cn n := by
        unfold fcl
        rw [if_neg (by have := hc2.1; simp at this; rw [this]; decide)]
      cases e2 : bst (cdF kf cn but) (lk (kJ kf cn d)) n with
      | none =>
        rw [e2] at h2
        have h2 : (fcS d kf cn but n).2 = 3 := h2
        rw [fcS, if_pos (by omega), bst_new hc e2, h4]
        exact ⟨rfl, rfl⟩
      | some b =>
        rw [e2] at h1 h2
        have h2 : (fcS d kf cn but n).2 = ldF kf cn b := h2
        have hb := bst_lt e2
        have dn := hd n (by omega)
        have db := hd b (by omega)
        have kk : kJ kf cn d n < kJ kf cn d b ↔ (ldF kf cn n : Int) * 160 + (d n).toInt * 16 + n < (ldF kf cn b : Int) * 160 + (d b).toInt * 16 + b := Iff.rfl
        by_cases x1 : ldF kf cn n < ldF kf cn b
        · rw [fcS, if_pos (by omega), bst_win hc e2 (lk_t.mpr (by rw [kk]; omega)), h4]
          exact ⟨rfl, rfl⟩
        · by_cases x2 : ldF kf cn n = ldF kf cn b
          · rw [fcS, if_neg (by omega), if_pos (by omega), h1]
            by_cases x3 : d b ≤ d n
            · have x4 := Int32.le_iff_toInt_le.mp x3
              have e3 := bst_lose hc e2 (show lk (kJ kf cn d) n b = false from decide_eq_false (by rw [kk]; omega))
              rw [e3]
              show (if d b ≤ d n then fcS d kf cn but n else _).1 = _ ∧ (if d b ≤ d n then fcS d kf cn but n else _).2 = _
              rw [if_pos x3]
              exact ⟨h1, h2⟩
            · have x4 : ¬ (d b).toInt ≤ (d n).toInt := fun q => x3 (Int32.le_iff_toInt_le.mpr q)
              rw [bst_win hc e2 (lk_t.mpr (by rw [kk]; omega))]
              show (if d b ≤ d n then _ else (some n, fcl kf cn but n)).1 = _ ∧ (if d b ≤ d n then _ else (some n, fcl kf cn but n)).2 = _
              rw [if_neg x3, h4]
              exact ⟨rfl, rfl⟩
          · rw [fcS, if_neg (by omega), if_neg (by omega), bst_lose hc e2 (show lk (kJ kf cn d) n b = false from decide_eq_false (by rw [kk]; omega))]
            exact ⟨h1, h2⟩
theorem fcF_is (hI : RI z) (but : Int32) : fcF (zJ z 1) (zK z) (zjn z) (zcn z) but = bst (cdF (zK z) (zcn z) but) (lk (kJ (zK z) (zcn z) (zJ z 1))) (zjn z) := (fcS_is (zjn z) (fun j hj => (hI.j hj).2.1) hI.jn).1
/-- who may be called, whatever the mask -/
def cP (z : CS) (j : Nat) : Bool := decide (ldF (zK z) (zcn z) j < 3)
theorem fcF_b (hI : RI z) (but : Int32) : fcF (zJ z 1) (zK z) (zjn z) (zcn z) but = bst (fun i => cP z i && !hs but i) (lk (kJ (zK z) (zcn z) (zJ z 1))) (zjn z) := by
  rw [fcF_is hI]
  exact bst_cong (fun k _ => Bool.and_comm _ _) (fun _ _ _ _ _ _ => rfl)
theorem cld_is (hI : RI z) (hG : RG z g) (v : Int32) : cldM g (zjn z) (zcn z) (nI 0) v = if isIx v (zjn z) = true then nthO (kJ (zK z) (zcn z) (zJ z 1)) (cP z) (zjn z) v.toNatClampNeg else none := by
  have hjn := hI.jn
  rw [← fnd_place (p := cP z) (by omega)]
  have hp : ∀ k, cdM g (zcn z) (nI 0) k = cP z k := fun k => by rw [hG.cd hI, cdF, hs_n0]; rfl
  refine fnd_ext (fun k hk => ?_)
  have hr : rkM g (zjn z) (zcn z) (nI 0) k = rk (kJ (zK z) (zcn z) (zJ z 1)) (cP z) (zjn z) k := fb_ct_cong (fun o ho => by
    show (cdM g (zcn z) (nI 0) o && erM g (zcn z) o k) = _
    rw [hp, hG.er hI ho hk])
  rw [hp, hr]
theorem nth_call (hI : RI z) (r : Nat) : (∀ i, i < 32 → hs (nthS (fcF (zJ z 1) (zK z) (zjn z) (zcn z)) r).1 i = (decide (i < zjn z) && (cP z i && decide (rk (kJ (zK z) (zcn z) (zJ z 1)) (cP z) (zjn z) i < r)))) ∧ (nthS (fcF (zJ z 1) (zK z) (zjn z) (zcn z)) r).2 = nthO (kJ (zK z) (zcn z) (zJ z 1)) (cP z) (zjn z) r := by
  have hjn := hI.jn
  exact nth_is (kJ_inj hI) (by omega) (fcF_b hI) r
theorem cpS_is (d : Nat → Int32) (kf : Nat → Nat → Int32) (jn cn : Nat) : ∀ k, cpS d kf jn cn k = (nthS (fcF d kf jn cn) k).1
  | 0 => rfl
  | k + 1 => by
    have ih := cpS_is d kf jn cn k
    have h2 := nth_snd (first := fcF d kf jn cn) k
    cases e : (nthS (fcF d kf jn cn) k).2 with
    | none =>
      have e1 : nthS (fcF d kf jn cn) (k + 1) = nthS (fcF d kf jn cn) k := by rw [nthS, e]
      rw [e] at h2
      rw [cpS, ih, ← h2, e1]
      exact or_n0 _
    | some b =>
      have e1 : nthS (fcF d kf jn cn) (k + 1) = ((nthS (fcF d kf jn cn) k).1 ||| (nI 1 <<< (nI b &&& 31)), fcF d kf jn cn ((nthS (fcF d kf jn cn) k).1 ||| (nI 1 <<< (nI b &&& 31)))) := by rw [nthS, e]
      rw [e] at h2
      rw [cpS, ih, ← h2, e1]
end RIs
