/-! thoughts, places, terms; all is well -/
section OPI
variable {z : CS} {g l d : Nat → Int32}
/-- the minds of both, alike and in their ranges -/
def MD (jn : Nat) (l1 d1 l2 d2 : Nat → Int32) : Prop := ∀ j, j < jn → l1 j = l2 j ∧ d1 j = d2 j ∧ (-9 ≤ (l2 j).toInt ∧ (l2 j).toInt ≤ 9) ∧ 0 ≤ (d2 j).toInt ∧ (d2 j).toInt ≤ 9
theorem md_vd {jn : Nat} {l1 d1 l2 d2 : Nat → Int32} {p m : Int32} (h : ∀ j, j < jn → l1 j = l2 j ∧ d1 j = d2 j) : vdM g l1 d1 jn p m = vdF l2 d2 jn p m := by
  unfold vdM vdF
  rw [fb_ct_cong (fun k hk => by show _ = (hs p k && forB m (l2 k) (d2 k)); rw [(h k hk).1, (h k hk).2])]
theorem md_l {jn : Nat} {l1 d1 l2 d2 : Nat → Int32} {p m : Int32} (h : MD jn l1 d1 l2 d2) : MD jn (tkS p m d1 l1 jn).2 d1 (toS p m d2 l2 jn).2 d2 := by
  have T := to_is (panel := p) (merit := m) (d1 := d1) (d2 := d2) (l1 := l1) (l2 := l2) (jn := jn) (fun j hj => (h j hj).2.1) (fun j hj => (h j hj).1) (fun j hj => (h j hj).2.2.1) jn (Nat.le_refl _)
  exact fun j hj => ⟨T.2.1 j hj, (h j hj).2.1, T.2.2.1 j hj, (h j hj).2.2.2⟩
theorem md_d {jn : Nat} {l1 d1 l2 d2 x2 x3 : Nat → Int32} {p m : Int32} {vd : Nat} (hjn : jn ≤ 9) (hv : vd = 1 ∨ vd = 2) (h : MD jn l1 d1 l2 d2) : MD jn l1 (dbS p (dbO p m (nI vd) l1 d1 jn) d1 jn) l2 (tvS p m vd l2 (d2, (x2, x3)) jn).1 := by
  intro j hj
  obtain ⟨h1, h2, h3, h4⟩ := h j hj
  have e := (tv_is (panel := p) (merit := m) (vd := vd) (l := l2) (z0 := (d2, (x2, x3))) jn j).1
  have e2 := dbS_is (panel := p) (others := dbO p m (nI vd) l1 d1 jn) (d0 := d1) jn j
  have e3 := dbO_hs (panel := p) (merit := m) (verdict := nI vd) (l := l1) (d := d1) jn (by omega) j (by omega)
  rw [e, e2]
  refine ⟨h1, ?_, h3, ?_⟩
  · by_cases y : j < jn ∧ hs p j = true
    · rw [if_pos y, if_pos y, e3, y.2, decide_eq_true hj, Bool.true_and, Bool.true_and, h1, h2]
      show _ = nwD (tvO m (l2 j) (d2 j) vd) (d2 j)
      rw [(nwD_is h4 _).1, tvO_is hv]
    · rw [if_neg y, if_neg y]; exact h2
  · by_cases y : j < jn ∧ hs p j = true
    · rw [if_pos y]; exact (nwD_is h4 _).2
    · rw [if_neg y]; exact h4
theorem th_is {jn : Nat} {p m : Int32} {z0 : (Nat → Int32) × (Nat → Int32)} {q0 : Q4} (hjn : jn ≤ 9) (h : MD jn z0.1 z0.2 q0.1 q0.2.1) : ∀ k, MD jn (thS g jn p m z0 k).1 (thS g jn p m z0 k).2 (ttS jn p m q0 k).1 (ttS jn p m q0 k).2.1
  | 0 => h
  | 1 => h
  | k + 2 => by
    have ih := th_is (p := p) (m := m) hjn h (k + 1)
    have a := md_l (p := p) (m := m) ih
    have v : vdM g (tkS p m (thS g jn p m z0 (k + 1)).2 (thS g jn p m z0 (k + 1)).1 jn).2 (thS g jn p m z0 (k + 1)).2 jn p m = ttV jn p m (ttS jn p m q0 (k + 1)) := md_vd (fun j hj => ⟨(a j hj).1, (a j hj).2.1⟩)
    have b := md_d (p := p) (m := m) (vd := ttV jn p m (ttS jn p m q0 (k + 1))) (x2 := (ttS jn p m q0 (k + 1)).2.2.1) (x3 := (ttS jn p m q0 (k + 1)).2.2.2) hjn vd_12 a
    rw [← v] at b
    rw [thS, ttS, ← v]
    exact b
theorem th_V {jn : Nat} {p m : Int32} {z0 : (Nat → Int32) × (Nat → Int32)} {q0 : Q4} (hjn : jn ≤ 9) (h : MD jn z0.1 z0.2 q0.1 q0.2.1) (k : Nat) : thV g jn p m z0 k = ttV jn p m (ttS jn p m q0 k) := by
  have a := md_l (p := p) (m := m) (th_is (g := g) (p := p) (m := m) hjn h k)
  exact md_vd (fun j hj => ⟨(a j hj).1, (a j hj).2.1⟩)
theorem th_F (hI : RI z) (hG : RG z g) (p m : Int32) : (thF g l d (zjn z) p m).getD 0 = ttF (zjn z) p m (zJ z 0, (zJ z 1, (zJ z 2, zJ z 3))) := by
  have h : MD (zjn z) (lmS g l d (zjn z)).1 (lmS g l d (zjn z)).2 (zJ z 0) (zJ z 1) := fun j hj => ⟨by rw [lm_1 hj]; exact hG.by hj (by decide), by rw [lm_2 hj]; exact hG.by hj (by decide), (hI.j hj).1, (hI.j hj).2.1⟩
  unfold thF ttF
  congr 1
  refine fnd_ext (fun k _ => ?_)
  unfold thQ ttQ
  rw [th_V (q0 := (zJ z 0, (zJ z 1, (zJ z 2, zJ z 3)))) hI.jn h k, md_vd (g := g) (fun j hj => ⟨(h j hj).1, (h j hj).2.1⟩)]
-- ---- when it would be taken
theorem wt_is (hI : RI z) (hG : RG z g) {q : Nat} (hq : q < zcn z) (h : hdF (zK z) q = true) : tkN (zK z) (zrw z) (zrl z) (zck z) (ztn z) q = (if 99 < ztn z + 1 + poM g (zcn z) q / zck z then -1 else nI (ztn z + 1 + poM g (zcn z) q / zck z)) := by
  have hck := hI.ck
  unfold tkN
  rw [(row_at hI.row hq h).1, hG.po hI hq]
  show (if zck z < 1 then (-1 : Int32) else _) = _
  rw [if_neg (by omega)]
theorem wt_no (hI : RI z) {q : Nat} (h : hdF (zK z) q = false) : tkN (zK z) (zrw z) (zrl z) (zck z) (ztn z) q = -1 := by
  unfold tkN
  rw [row_no hI.row h]
-- ---- how many are overdue
theorem od_is (hI : RI z) (hG : RG z g) : odM g (zcn z) = fb_ct (fun k => decide (zK z 1 (zrw z k) < nI (ztn z))) (zrl z) := by
  rw [← row_ct hI.row (fun c => decide (zK z 1 c < nI (ztn z)))]
  refine fb_ct_cong (fun c hc => ?_)
  show (rlM g c && decide (¬ g 3 ≤ gof g c 1)) = (hdF (zK z) c && decide (zK z 1 c < nI (ztn z)))
  rw [hG.hd hc, hG.g3, hG.of hc (by decide)]
  congr 1
  exact decide_eq_decide.mpr Int32.not_le
-- ---- the first term from a night on
theorem tf_is (hI : RI z) (hG : RG z g) {t : Int32} : ∀ k, k ≤ zcn z → (tfM g t k = -1 ∧ ∀ c, c < k → hdF (zK z) c = true → ¬ t ≤ zK z 1 c) ∨ ∃ c, c < k ∧ hdF (zK z) c = true ∧ t ≤ zK z 1 c ∧ tfM g t k = zK z 1 c ∧ ∀ c2, c2 < k → hdF (zK z) c2 = true → t ≤ zK z 1 c2 → zK z 1 c ≤ zK z 1 c2
  | 0, _ => Or.inl ⟨rfl, fun _ h => absurd h (Nat.not_lt_zero _)⟩
  | k + 1, hk => by
    have ih := tf_is hI hG (t := t) k (by omega)
    have hc : k < zcn z := by omega
    have e : tfM g t (k + 1) = if hdF (zK z) k = true then (if zK z 1 k < t then tfM g t k else if tfM g t k < 0 then zK z 1 k else if tfM g t k ≤ zK z 1 k then tfM g t k else zK z 1 k) else tfM g t k := by rw [tfM, hG.hd hc, hG.of hc (by decide)]
    have keep : (hdF (zK z) k = true → ¬ t ≤ zK z 1 k) → tfM g t (k + 1) = tfM g t k → (tfM g t (k + 1) = -1 ∧ ∀ c, c < k + 1 → hdF (zK z) c = true → ¬ t ≤ zK z 1 c) ∨ ∃ c, c < k + 1 ∧ hdF (zK z) c = true ∧ t ≤ zK z 1 c ∧ tfM g t (k + 1) = zK z 1 c ∧ ∀ c2, c2 < k + 1 → hdF (zK z) c2 = true → t ≤ zK z 1 c2 → zK z 1 c ≤ zK z 1 c2 := by
      intro h1 h2
      rw [h2]
      rcases ih with ⟨a, b⟩ | ⟨c, c1, c2, c3, c4, c5⟩
      · refine Or.inl ⟨a, fun x hx hh => ?_⟩
        rcases Nat.lt_or_ge x k with y | y
        · exact b x y hh
        · obtain rfl : x = k := by omega
          exact h1 hh
      · refine Or.inr ⟨c, by omega, c2, c3, c4, fun x hx hh ht => ?_⟩
        rcases Nat.lt_or_ge x k with y | y
        · exact c5 x y hh ht
        · obtain rfl : x = k := by omega
          exact absurd ht (h1 hh)
    by_cases x1 : hdF (zK z) k = true
    · rw [if_pos x1] at e
      by_cases x2 : zK z 1 k < t
      · rw [if_pos x2] at e
        exact keep (fun _ q => Int32.not_lt.mpr q x2) e
      · have x3 : t ≤ zK z 1 k := Int32.not_lt.mp x2
        rw [if_neg x2] at e
        rcases ih with ⟨a, b⟩ | ⟨c, c1, c2, c3, c4, c5⟩
        · rw [a, if_pos (by decide)] at e
          refine Or.inr ⟨k, Nat.lt_succ_self k, x1, x3, e, fun x hx hh ht => ?_⟩
          rcases Nat.lt_or_ge x k with y | y
          · exact absurd ht (b x y hh)
          · obtain rfl : x = k := by omega
            exact Int32.le_refl _
        · have p0 := (hI.te (show c < zcn z by omega)).1
          rw [c4, if_neg (fun q => by rw [Int32.lt_iff_toInt_lt, i_0] at q; omega)] at e
          by_cases x4 : zK z 1 c ≤ zK z 1 k
          · rw [if_pos x4] at e
            refine Or.inr ⟨c, by omega, c2, c3, e, fun x hx hh ht => ?_⟩
            rcases Nat.lt_or_ge x k with y | y
            · exact c5 x y hh ht
            · obtain rfl : x = k := by omega
              exact x4
          · rw [if_neg x4] at e
            refine Or.inr ⟨k, Nat.lt_succ_self k, x1, x3, e, fun x hx hh ht => ?_⟩
            rcases Nat.lt_or_ge x k with y | y
            · have y5 := Int32.le_iff_toInt_le.mp (c5 x y hh ht)
              have y6 : ¬ (zK z 1 c).toInt ≤ (zK z 1 k).toInt := fun q => x4 (Int32.le_iff_toInt_le.mpr q)
              exact Int32.le_iff_toInt_le.mpr (by omega)
            · obtain rfl : x = k := by omega
              exact Int32.le_refl _
    · rw [if_neg x1] at e
      exact keep (fun h => absurd h x1) e
theorem key_te (hI : RI z) {a b : Nat} (ha : a < zcn z) (hb : b < zcn z) (h : kK (zK z) a ≤ kK (zK z) b) : zK z 1 a ≤ zK z 1 b := by
  have hcn := hI.cn
  have ma := hI.me ha
  have mb := hI.me hb
  have h2 : (zK z 1 a).toInt * 2048 + (zK z 0 a).toInt * 16 + a ≤ (zK z 1 b).toInt * 2048 + (zK z 0 b).toInt * 16 + b := h
  exact Int32.le_iff_toInt_le.mpr (by omega)
theorem tf_eq (hI : RI z) (hG : RG z g) (t : Int32) : tfM g t (zcn z) = rtF (zK z) (zrw z) (zrl z) t := by
  have hr := hI.row
  unfold rtF
  cases e : fnd (fun j => decide (t ≤ zK z 1 (zrw z j))) (zrl z) with
  | none =>
    rcases tf_is hI hG (t := t) (zcn z) (Nat.le_refl _) with ⟨a, _⟩ | ⟨c, c1, c2, c3, _, _⟩
    · exact a
    · obtain ⟨k, hk, q⟩ := hr.2.2 c c1 c2
      have := of_decide_eq_false (fnd_all e k hk)
      rw [q] at this
      exact absurd c3 this
  | some j =>
    have hj := fnd_lt e
    have h1 := of_decide_eq_true (fnd_some e).1
    have hw := hr.1 j hj
    show _ = zK z 1 (zrw z j)
    rcases tf_is hI hG (t := t) (zcn z) (Nat.le_refl _) with ⟨_, b⟩ | ⟨c, c1, c2, c3, c4, c5⟩
    · exact absurd h1 (b _ hw.1 hw.2)
    · rw [c4]
      obtain ⟨k, hk, q⟩ := hr.2.2 c c1 c2
      have hjk : j ≤ k := by
        rcases Nat.lt_or_ge k j with y | y
        · have := of_decide_eq_false ((fnd_some e).2 k y)
          rw [q] at this
          exact absurd c3 this
        · exact y
      have h2 : kK (zK z) (zrw z j) ≤ kK (zK z) c := by
        rw [← q]
        rcases Nat.lt_or_ge j k with y | y
        · have := hr.2.1 j k y hk; omega
        · rw [show k = j by omega]; exact Int.le_refl _
      have a1 := Int32.le_iff_toInt_le.mp (c5 _ hw.1 hw.2 h1)
      have a2 := Int32.le_iff_toInt_le.mp (key_te hI hw.1 c1 h2)
      exact i_eq.mpr (by omega)
-- ---- the doubtful, one after the other
theorem kD_inj (hI : RI z) : kinj (kD (zJ z 0) (zJ z 1)) (zjn z) := fun a b ha hb e => by
  have hjn := hI.jn
  have e : -((zJ z 1 a).toInt * 512 + (zJ z 0 a).toInt * 16) + (a : Int) = -((zJ z 1 b).toInt * 512 + (zJ z 0 b).toInt * 16) + (b : Int) := e
  omega
theorem kD_lt {l d : Nat → Int32} {a b : Nat} : lk (kD l d) a b = decide (-((d a).toInt * 512 + (l a).toInt * 16) + (a : Int) < -((d b).toInt * 512 + (l b).toInt * 16) + (b : Int)) := rfl
theorem mdM_is (hI : RI z) (hG : RG z g) {a b : Nat} (ha : a < zjn z) (hb : b < zjn z) : mdM g a b = lk (kD (zJ z 0) (zJ z 1)) a b := by
  have hjn := hI.jn
  have la := (hI.j ha).1
  have lb := (hI.j hb).1
  have da := (hI.j ha).2.1
  have db := (hI.j hb).2.1
  have xa := hI.db ha
  have xb := hI.db hb
  have ya := hI.ln ha
  have yb := hI.ln hb
  rw [kD_lt]
  unfold mdM
  rw [hG.by ha (by decide), hG.by hb (by decide), hG.by ha (by decide), hG.by hb (by decide)]
  by_cases h1 : (zJ z 1 a).toInt = (zJ z 1 b).toInt
  · rw [if_pos ((sb_e xa xb).mpr h1)]
    by_cases h2 : (zJ z 0 b).toInt < (zJ z 0 a).toInt
    · rw [if_pos ((sb_g ya yb).mpr h2), decide_eq_true (by omega)]
    · rw [if_neg (fun q => h2 ((sb_g ya yb).mp q))]
      by_cases h3 : (zJ z 0 a).toInt = (zJ z 0 b).toInt
      · rw [if_pos ((sb_e ya yb).mpr h3)]
        exact decide_eq_decide.mpr (by omega)
      · rw [if_neg (fun q => h3 ((sb_e ya yb).mp q)), decide_eq_false (by omega)]
  · rw [if_neg (fun q => h1 ((sb_e xa xb).mp q))]
    exact decide_eq_decide.mpr (by rw [sb_le xa xb]; omega)
theorem mdF_is (hI : RI z) {a b : Nat} (hba : b < a) (ha : a < zjn z) : mdF (zJ z 0) (zJ z 1) a b = lk (kD (zJ z 0) (zJ z 1)) a b := by
  have hjn := hI.jn
  have la := (hI.j ha).1
  have lb := (hI.j (show b < zjn z by omega)).1
  rw [kD_lt]
  unfold mdF
  by_cases h1 : zJ z 1 a = zJ z 1 b
  · rw [if_pos h1, h1]
    exact decide_eq_decide.mpr (by rw [Int32.le_iff_toInt_le]; omega)
  · rw [if_neg h1]
    have h3 : (zJ z 1 a).toInt ≠ (zJ z 1 b).toInt := fun q => h1 (i_eq.mpr q)
    exact decide_eq_decide.mpr (by rw [Int32.le_iff_toInt_le]; omega)
theorem df_is (hI : RI z) (hG : RG z g) (v : Int32) : fnd (fun k => decide (nI (fb_ct (fun o => mdM g o k) (zjn z)) = v)) (zjn z) = nthV (fdF (zJ z 0) (zJ z 1) (zjn z)) (zjn z) v := by
  have hjn := hI.jn
  have N := nth_is (kD_inj hI) (p := fun _ => true) (first := fdF (zJ z 0) (zJ z 1) (zjn z)) (by omega) (fun out => bst_cong (fun _ _ => (Bool.true_and _).symm) (fun a b hb ha _ _ => mdF_is hI hb ha)) v.toNatClampNeg
  have P := fnd_place (key := kD (zJ z 0) (zJ z 1)) (p := fun _ => true) (n := zjn z) (v := v) (by omega)
  unfold nthV
  rw [N.2, ← P]
  refine fnd_ext (fun k hk => ?_)
  show _ = (true && decide (nI (rk (kD (zJ z 0) (zJ z 1)) (fun _ => true) (zjn z) k) = v))
  have e : fb_ct (fun o => mdM g o k) (zjn z) = rk (kD (zJ z 0) (zJ z 1)) (fun _ => true) (zjn z) k := fb_ct_cong (fun o ho => by
    show mdM g o k = (true && lk (kD (zJ z 0) (zJ z 1)) o k)
    rw [mdM_is hI hG ho hk, Bool.true_and])
  rw [e, Bool.true_and]
theorem call_is (hI : RI z) (hG : RG z g) (v : Int32) : cldM g (zjn z) (zcn z) (nI 0) v = nthV (fcF (zJ z 1) (zK z) (zjn z) (zcn z)) (zjn z) v := by
  unfold nthV
  rw [cld_is hI hG, (nth_call hI _).2]
-- ---- all is well
theorem isN {p : Nat → Bool} {n : Nat} (h : ∀ k, k < n → p k = false) : (fnd p n).isNone = true := by rw [fnd_none h]; rfl
theorem wl_is (hI : RI z) : wlF z = true := by
  have hjn := hI.jn
  have hcn := hI.cn
  unfold wlF
  rw [isN (fun j hj => by rw [lr_is (zK z) hI.cn (by omega), decide_eq_true rfl, decide_eq_false (by have := (hI.j hj).2.2; omega)]; rfl), isN (fun k _ => by rw [fh_nth hI, decide_eq_true rfl]; rfl), isN (fun c hc => ?_), isN (fun c hc => (hI.c hc).2.2.2.2.2)]
  · rfl
  · rcases (hI.c hc).2.2.1 with e | e
    · rw [decide_eq_true e]; rfl
    · rw [vm_is (hI.me hc) (fun j hj => (hI.j hj).1) (fun j hj => (hI.j hj).2.1) e.1, decide_eq_true rfl]; exact Bool.and_false _
theorem iw_is (hI : RI z) (hG : RG z g) : iwM g (zjn z) (zcn z) = nI 1 := by
  unfold iwM
  rw [fnd_none (fun k hk => decide_eq_false (by rw [hG.ld hI]; have := (hI.j hk).2.2; omega))]
-- ---- all accounts
theorem by_sum (hG : RG z g) {w : Nat} (hw : w < 4) : isum (fun j => gby g j w) (zjn z) = isum (zJ z w) (zjn z) := isum_cong (fun j hj => hG.by hj hw)
theorem np_ct (hG : RG z g) : fb_ct (fun k => if false = true then clM g k else decide (gof g k 2 = 0)) (zcn z) = fb_ct (fun q => !hpF (zK z) q) (zcn z) := fb_ct_cong (fun c hc => by
  show (if false = true then clM g c else decide (gof g c 2 = 0)) = !(!decide (zK z 2 c = 0))
  rw [if_neg (by decide), hG.of hc (by decide), Bool.not_not])
theorem cl_ct (hI : RI z) (hG : RG z g) : fb_ct (fun k => if true = true then clM g k else decide (gof g k 2 = 0)) (zcn z) = fb_ct (fun q => clF (zK z) q) (zcn z) := fb_ct_cong (fun c hc => by
  show (if true = true then clM g c else decide (gof g c 2 = 0)) = clF (zK z) c
  rw [if_pos rfl, hG.cl hI hc])
end OPI
