/-! a verdict is said -/
theorem lm_is {g l d : Nat → Int32} : ∀ k j, (lmS g l d k).1 j = (if j < k then gby g j 0 else l j) ∧ (lmS g l d k).2 j = (if j < k then gby g j 1 else d j)
  | 0, j => ⟨by rw [if_neg (Nat.not_lt_zero _)]; rfl, by rw [if_neg (Nat.not_lt_zero _)]; rfl⟩
  | k + 1, j => by
    have ih := lm_is (g := g) (l := l) (d := d) k j
    rw [lmS]
    show upd (lmS g l d k).1 k (gby g k 0) j = _ ∧ upd (lmS g l d k).2 k (gby g k 1) j = _
    by_cases e : j = k
    · subst e; rw [pk_us, pk_us, if_pos (by omega), if_pos (by omega)]; exact ⟨rfl, rfl⟩
    · rw [pk_un e, pk_un e, ih.1, ih.2]
      by_cases y : j < k
      · rw [if_pos y, if_pos (by omega), if_pos y, if_pos (by omega)]; exact ⟨rfl, rfl⟩
      · rw [if_neg y, if_neg (by omega), if_neg y, if_neg (by omega)]; exact ⟨rfl, rfl⟩
theorem lm_1 {g l d : Nat → Int32} {k j : Nat} (h : j < k) : (lmS g l d k).1 j = gby g j 0 := by rw [(lm_is k j).1, if_pos h]
theorem lm_2 {g l d : Nat → Int32} {k j : Nat} (h : j < k) : (lmS g l d k).2 j = gby g j 1 := by rw [(lm_is k j).2, if_pos h]
theorem tm_0 {l d g0 : Nat → Int32} {j : Nat} : ∀ k, j < k → tmS l d g0 k (8 + 4 * j + 0) = l j
  | 0, h => absurd h (Nat.not_lt_zero _)
  | k + 1, h => by
    rw [tmS, pk_un (by omega)]
    by_cases e : j = k
    · subst e; rw [pk_us]
    · rw [pk_un (by omega)]; exact tm_0 k (by omega)
theorem tm_1 {l d g0 : Nat → Int32} {j : Nat} : ∀ k, j < k → tmS l d g0 k (8 + 4 * j + 1) = d j
  | 0, h => absurd h (Nat.not_lt_zero _)
  | k + 1, h => by
    rw [tmS]
    by_cases e : j = k
    · subst e; rw [pk_us]
    · rw [pk_un (by omega), pk_un (by omega)]; exact tm_1 k (by omega)
theorem tm_o {l d g0 : Nat → Int32} {i : Nat} : ∀ k, (∀ j, j < k → i ≠ 8 + 4 * j + 0 ∧ i ≠ 8 + 4 * j + 1) → tmS l d g0 k i = g0 i
  | 0, _ => rfl
  | k + 1, h => by
    have hk := h k (by omega)
    rw [tmS, pk_un hk.2, pk_un hk.1]
    exact tm_o k (fun j hj => h j (by omega))
theorem sa_o {q : Nat} {others : Int32} {g0 : Nat → Int32} {i : Nat} : ∀ k, (∀ j, j < k → i ≠ 8 + 4 * j + 2 ∧ i ≠ 8 + 4 * j + 3) → saS q others g0 k i = g0 i
  | 0, _ => rfl
  | k + 1, h => by
    have hk := h k (by omega)
    rw [saS, pk_un hk.2, pk_un hk.1]
    exact sa_o k (fun j hj => h j (by omega))
theorem sa_g {q : Nat} {others : Int32} {g0 : Nat → Int32} {k : Nat} (hk : k ≤ 9) : gof (saS q others g0 k) q 2 = gof g0 q 2 := sa_o k (fun j hj => ⟨by omega, by omega⟩)
theorem sa_2 {q : Nat} {others : Int32} {g0 : Nat → Int32} {j : Nat} : ∀ k, k ≤ 9 → j < k → saS q others g0 k (8 + 4 * j + 2) = g0 (8 + 4 * j + 2) + (if hs (gof g0 q 2) j = true then nI 1 else nI 0)
  | 0, _, h => absurd h (Nat.not_lt_zero _)
  | k + 1, h9, h => by
    rw [saS, pk_un (by omega)]
    by_cases e : j = k
    · subst e
      rw [pk_us, sa_g (by omega), sa_o j (fun i hi => ⟨by omega, by omega⟩)]
    · rw [pk_un (by omega)]; exact sa_2 k (by omega) (by omega)
theorem sa_3 {q : Nat} {others : Int32} {g0 : Nat → Int32} {j : Nat} : ∀ k, k ≤ 9 → j < k → saS q others g0 k (8 + 4 * j + 3) = g0 (8 + 4 * j + 3) + (if hs others j = true then nI 1 else nI 0)
  | 0, _, h => absurd h (Nat.not_lt_zero _)
  | k + 1, h9, h => by
    rw [saS]
    by_cases e : j = k
    · subst e
      rw [pk_us, pk_un (by omega), sa_o j (fun i hi => ⟨by omega, by omega⟩)]
    · rw [pk_un (by omega), pk_un (by omega)]; exact sa_3 k (by omega) (by omega)
theorem dbO_hs {panel merit verdict : Int32} {l d : Nat → Int32} : ∀ k, k ≤ 31 → ∀ i, i < 32 → hs (dbO panel merit verdict l d k) i = (decide (i < k) && (hs panel i && (forB merit (l i) (d i) != decide (verdict = nI 1))))
  | 0, _, i, _ => by rw [decide_eq_false (Nat.not_lt_zero _)]; exact hs_n0 i
  | k + 1, hk, i, hi => by
    have ih := dbO_hs (panel := panel) (merit := merit) (verdict := verdict) (l := l) (d := d) k (by omega) i hi
    unfold dbO
    by_cases c : (hs panel k && (forB merit (l k) (d k) != decide (verdict = nI 1))) = true
    · rw [if_pos c, hs_or _ (by omega) hi, ih]
      by_cases e : i = k
      · subst e; rw [c, decide_eq_true rfl, decide_eq_true (Nat.lt_succ_self i), Bool.or_true]; rfl
      · rw [decide_eq_false e, Bool.or_false]
        congr 1
        exact decide_eq_decide.mpr (by omega)
    · rw [if_neg c, ih]
      by_cases e : i = k
      · subst e; rw [eq_false_of_ne_true c, Bool.and_false, Bool.and_false]
      · congr 1
        exact decide_eq_decide.mpr (by omega)
theorem dbS_is {panel others : Int32} {d0 : Nat → Int32} : ∀ k j, dbS panel others d0 k j = if j < k ∧ hs panel j = true then wi (d0 j + (if hs others j = true then nI 1 else -1)) (nI 0) (nI 9) else d0 j
  | 0, j => by rw [if_neg (fun h => Nat.not_lt_zero _ h.1)]; rfl
  | k + 1, j => by
    have ih := dbS_is (panel := panel) (others := others) (d0 := d0) k
    rw [dbS]
    by_cases c : hs panel k = true
    · rw [if_pos c]
      by_cases e : j = k
      · subst e
        have h0 : ¬ (j < j ∧ hs panel j = true) := fun h => Nat.lt_irrefl _ h.1
        have h1 : j < j + 1 ∧ hs panel j = true := ⟨Nat.lt_succ_self j, c⟩
        rw [pk_us, ih, if_neg h0, if_pos h1]
      · rw [pk_un e, ih]
        by_cases y : j < k ∧ hs panel j = true
        · have y2 : j < k + 1 ∧ hs panel j = true := ⟨by omega, y.2⟩
          rw [if_pos y, if_pos y2]
        · have y2 : ¬ (j < k + 1 ∧ hs panel j = true) := fun h => y ⟨by omega, h.2⟩
          rw [if_neg y, if_neg y2]
    · rw [if_neg c, ih]
      by_cases y : j < k ∧ hs panel j = true
      · have y2 : j < k + 1 ∧ hs panel j = true := ⟨by omega, y.2⟩
        rw [if_pos y, if_pos y2]
      · have y2 : ¬ (j < k + 1 ∧ hs panel j = true) := fun h => y ⟨by
          rcases Nat.lt_or_ge j k with u | u
          · exact u
          · exact absurd (show hs panel k = true by rw [show k = j by omega]; exact h.2) c, h.2⟩
        rw [if_neg y, if_neg y2]
/-- the doubt after one vote -/
def nwD (out : Bool) (d : Int32) : Int32 := if out = true then (if nI 9 < d + nI 1 then nI 9 else d + nI 1) else (if d - nI 1 < nI 0 then nI 0 else d - nI 1)
theorem nwD_is {d : Int32} (h : 0 ≤ d.toInt ∧ d.toInt ≤ 9) (out : Bool) : nwD out d = wi (d + (if out = true then nI 1 else -1)) (nI 0) (nI 9) ∧ 0 ≤ (nwD out d).toInt ∧ (nwD out d).toInt ≤ 9 := by
  have bdd : bd d := by constructor <;> omega
  have n9 := nIt (n := 9) (by decide)
  have n1 := nIt (n := 1) (by decide)
  have n0 := nIt (n := 0) (by decide)
  have a1 : (d + nI 1).toInt = d.toInt + 1 := by have e := adI (x := d) (y := nI 1) bdd (bd_n (by decide)); omega
  have a2 : (d + -1).toInt = d.toInt + -1 := by rw [adI bdd (by constructor <;> rw [m1I] <;> decide), m1I]
  have a3 : (d - nI 1).toInt = d.toInt - 1 := by have e := sbI (x := d) (y := nI 1) bdd (bd_n (by decide)); omega
  have e3 : d - nI 1 = d + -1 := by rw [i_eq, a3, a2]; omega
  unfold nwD wi
  cases out with
  | true =>
    rw [if_pos rfl, if_pos rfl]
    by_cases c : nI 9 < d + nI 1
    · have c2 := Int32.lt_iff_toInt_lt.mp c
      rw [if_pos c, if_pos (Int32.le_iff_toInt_le.mpr (by omega)), if_neg (fun q => by have := Int32.le_iff_toInt_le.mp q; omega)]
      exact ⟨rfl, by omega, by omega⟩
    · have c2 : ¬ (nI 9).toInt < (d + nI 1).toInt := fun q => c (Int32.lt_iff_toInt_lt.mpr q)
      rw [if_neg c, if_pos (Int32.le_iff_toInt_le.mpr (by omega)), if_pos (Int32.le_iff_toInt_le.mpr (by omega))]
      exact ⟨rfl, by omega, by omega⟩
  | false =>
    rw [if_neg (show ¬ (false = true) by decide), if_neg (show ¬ (false = true) by decide), e3]
    by_cases c : d + -1 < nI 0
    · have c2 := Int32.lt_iff_toInt_lt.mp c
      rw [if_pos c, if_neg (fun q => by have := Int32.le_iff_toInt_le.mp q; omega)]
      exact ⟨rfl, by omega, by omega⟩
    · have c2 : ¬ (d + -1).toInt < (nI 0).toInt := fun q => c (Int32.lt_iff_toInt_lt.mpr q)
      rw [if_neg c, if_pos (Int32.le_iff_toInt_le.mpr (by omega)), if_pos (Int32.le_iff_toInt_le.mpr (by omega))]
      exact ⟨rfl, by omega, by omega⟩
def tvO (merit l d : Int32) (vd : Nat) : Bool := !decide (opC (forB merit l d) = vd)
theorem tv_is {panel merit : Int32} {vd : Nat} {l : Nat → Int32} {z0 : T3} : ∀ k j, (tvS panel merit vd l z0 k).1 j = (if j < k ∧ hs panel j = true then nwD (tvO merit (l j) (z0.1 j) vd) (z0.1 j) else z0.1 j) ∧ (tvS panel merit vd l z0 k).2.1 j = (if j < k ∧ hs panel j = true then z0.2.1 j + nI 1 else z0.2.1 j) ∧ (tvS panel merit vd l z0 k).2.2 j = (if j < k ∧ hs panel j = true then z0.2.2 j + (if tvO merit (l j) (z0.1 j) vd = true then nI 1 else nI 0) else z0.2.2 j)
  | 0, j => by
    have h : ¬ (j < 0 ∧ hs panel j = true) := fun h => Nat.not_lt_zero _ h.1
    rw [if_neg h, if_neg h, if_neg h]; exact ⟨rfl, rfl, rfl⟩
  | k + 1, j => by
    have ih := tv_is (panel := panel) (merit := merit) (vd := vd) (l := l) (z0 := z0) k
    rw [tvS]
    by_cases c : hs panel k = true
    · rw [if_pos c]
      show upd (tvS panel merit vd l z0 k).1 k (nwD (tvO merit (l k) ((tvS panel merit vd l z0 k).1 k) vd) ((tvS panel merit vd l z0 k).1 k)) j = _ ∧ upd (tvS panel merit vd l z0 k).2.1 k ((tvS panel merit vd l z0 k).2.1 k + nI 1) j = _ ∧ upd (tvS panel merit vd l z0 k).2.2 k ((tvS panel merit vd l z0 k).2.2 k + (if tvO merit (l k) ((tvS panel merit vd l z0 k).1 k) vd = true then nI 1 else nI 0)) j = _
      by_cases e : j = k
      · subst e
        have h0 : ¬ (j < j ∧ hs panel j = true) := fun h => Nat.lt_irrefl _ h.1
        have h1 : j < j + 1 ∧ hs panel j = true := ⟨Nat.lt_succ_self j, c⟩
        rw [pk_us, pk_us, pk_us, (ih j).1, (ih j).2.1, (ih j).2.2, if_neg h0, if_neg h0, if_neg h0, if_pos h1, if_pos h1, if_pos h1]
        exact ⟨rfl, rfl, rfl⟩
      · rw [pk_un e, pk_un e, pk_un e, (ih j).1, (ih j).2.1, (ih j).2.2]
        by_cases y : j < k ∧ hs panel j = true
        · have y2 : j < k + 1 ∧ hs panel j = true := ⟨by omega, y.2⟩
          rw [if_pos y, if_pos y, if_pos y, if_pos y2, if_pos y2, if_pos y2]; exact ⟨rfl, rfl, rfl⟩
        · have y2 : ¬ (j < k + 1 ∧ hs panel j = true) := fun h => y ⟨by omega, h.2⟩
          rw [if_neg y, if_neg y, if_neg y, if_neg y2, if_neg y2, if_neg y2]; exact ⟨rfl, rfl, rfl⟩
    · rw [if_neg c, (ih j).1, (ih j).2.1, (ih j).2.2]
      by_cases y : j < k ∧ hs panel j = true
      · have y2 : j < k + 1 ∧ hs panel j = true := ⟨by omega, y.2⟩
        rw [if_pos y, if_pos y, if_pos y, if_pos y2, if_pos y2, if_pos y2]; exact ⟨rfl, rfl, rfl⟩
      · have y2 : ¬ (j < k + 1 ∧ hs panel j = true) := fun h => y ⟨by
          rcases Nat.lt_or_ge j k with u | u
          · exact u
          · exact absurd (show hs panel k = true by rw [show k = j by omega]; exact h.2) c, h.2⟩
        rw [if_neg y, if_neg y, if_neg y, if_neg y2, if_neg y2, if_neg y2]; exact ⟨rfl, rfl, rfl⟩
theorem vd_12 {l d : Nat → Int32} {jn : Nat} {panel merit : Int32} : vdF l d jn panel merit = 1 ∨ vdF l d jn panel merit = 2 := by unfold vdF; split <;> simp
theorem tvO_is {merit l d : Int32} {vd : Nat} (h : vd = 1 ∨ vd = 2) : tvO merit l d vd = (forB merit l d != decide (nI vd = nI 1)) := by
  unfold tvO opC
  rcases h with rfl | rfl <;> cases forB merit l d <;> decide +kernel
section OPC
variable {z : CS} {g l d : Nat → Int32} {q : Nat}
/-- what a row must say for a verdict on q to be the court's -/
def SG (z : CS) (g : Nat → Int32) (q : Nat) : Prop := (∀ j, j < zjn z → ∀ w, w < 4 → gby g j w = zJ z w j) ∧ gof g q 0 = zK z 0 q ∧ gof g q 2 = zK z 2 q
theorem say_V (h : SG z g q) : syV g l d (zjn z) q = zVd z q := by
  unfold syV vdM zVd vdF
  rw [h.2.1, h.2.2]
  rw [fb_ct_cong (fun k hk => by
    show _ = (hs (zK z 2 q) k && forB (zK z 0 q) (zJ z 0 k) (zJ z 1 k))
    rw [lm_1 hk, lm_2 hk, h.1 k hk 0 (by decide), h.1 k hk 1 (by decide)])]
theorem say_O (hjn : zjn z ≤ 9) (h : SG z g q) {j : Nat} (hj : j < zjn z) : hs (syO g l d (zjn z) q) j = (hs (zK z 2 q) j && tvO (zK z 0 q) (zJ z 0 j) (zJ z 1 j) (zVd z q)) := by
  unfold syO
  rw [dbO_hs _ (by omega) j (by omega), decide_eq_true hj, Bool.true_and, say_V h, h.2.2, h.2.1, lm_1 hj, lm_2 hj, h.1 j hj 0 (by decide), h.1 j hj 1 (by decide), tvO_is (vd := zVd z q) vd_12]
theorem say_D (hjn : zjn z ≤ 9) (hd : ∀ j, j < zjn z → 0 ≤ (zJ z 1 j).toInt ∧ (zJ z 1 j).toInt ≤ 9) (h : SG z g q) {j : Nat} (hj : j < zjn z) : syD g l d (zjn z) q j = (zTv z q).1 j := by
  unfold syD zTv
  rw [dbS_is, (tv_is _ _).1, say_O hjn h hj, h.2.2, lm_2 hj, h.1 j hj 1 (by decide)]
  by_cases y : j < zjn z ∧ hs (zK z 2 q) j = true
  · rw [if_pos y, if_pos y, y.2, Bool.true_and]
    exact (nwD_is (hd j hj) _).1.symm
  · rw [if_neg y, if_neg y]
theorem sy2_o (hjn : zjn z ≤ 9) {i : Nat} (hi : i < 8 ∨ 44 ≤ i) : sy2 g l d (zjn z) q i = g i := by
  unfold sy2
  rw [sa_o _ (fun j hj => ⟨by omega, by omega⟩), tm_o _ (fun j hj => ⟨by omega, by omega⟩)]
theorem sy5_4 (hjn : zjn z ≤ 9) : sy5 g l d (zjn z) q 4 = g 4 + nI 1 := by
  unfold sy5 sy4 sy3
  rw [pk_us, pk_un (by omega), pk_un (by omega), sy2_o hjn (Or.inl (by decide))]
theorem sy5_of (hjn : zjn z ≤ 9) {c w : Nat} (hw : w < 8) (hn : ¬ (c = q ∧ (w = 3 ∨ w = 4))) : gof (sy5 g l d (zjn z) q) c w = gof g c w := by
  unfold gof sy5 sy4 sy3
  rw [pk_un (by omega), pk_un (by omega), pk_un (by omega), sy2_o hjn (Or.inr (by omega))]
theorem sy5_3 (hjn : zjn z ≤ 9) (h : SG z g q) : gof (sy5 g l d (zjn z) q) q 3 = nI (zVd z q) := by
  unfold gof sy5 sy4 sy3
  rw [pk_un (by omega), pk_un (by omega), pk_us, say_V h]
theorem sy5_s (hjn : zjn z ≤ 9) : gof (sy5 g l d (zjn z) q) q 4 = g 3 := by
  unfold gof sy5 sy4 sy3
  rw [pk_un (by omega), pk_us, pk_un (by omega), sy2_o hjn (Or.inl (by decide))]
theorem sy5_by (hjn : zjn z ≤ 9) (hd : ∀ j, j < zjn z → 0 ≤ (zJ z 1 j).toInt ∧ (zJ z 1 j).toInt ≤ 9) (h : SG z g q) {j w : Nat} (hj : j < zjn z) (hw : w < 4) : gby (sy5 g l d (zjn z) q) j w = zJ (zSay z q) w j := by
  have hw4 : w = 0 ∨ w = 1 ∨ w = 2 ∨ w = 3 := by omega
  unfold gby sy5 sy4 sy3 sy2
  rw [pk_un (by omega), pk_un (by omega), pk_un (by omega)]
  rcases hw4 with rfl | rfl | rfl | rfl
  · rw [sa_o _ (fun j hj => ⟨by omega, by omega⟩), tm_0 _ hj, lm_1 hj]
    exact h.1 j hj 0 (by decide)
  · rw [sa_o _ (fun j hj => ⟨by omega, by omega⟩), tm_1 _ hj, say_D hjn hd h hj]
    rfl
  · rw [sa_2 _ hjn hj, tm_o _ (fun j hj => ⟨by omega, by omega⟩)]
    have e : gof (tmS (lmS g l d (zjn z)).1 (syD g l d (zjn z) q) g (zjn z)) q 2 = zK z 2 q := by
      rw [← h.2.2]; exact tm_o _ (fun j hj => ⟨by omega, by omega⟩)
    rw [e]
    show gby g j 2 + _ = (zTv z q).2.1 j
    rw [h.1 j hj 2 (by decide), zTv, (tv_is _ _).2.1]
    by_cases y : hs (zK z 2 q) j = true
    · rw [if_pos y, if_pos ⟨hj, y⟩]
    · rw [if_neg y, if_neg (fun x => y x.2), add_n0]
  · rw [sa_3 _ hjn hj, tm_o _ (fun j hj => ⟨by omega, by omega⟩), say_O hjn h hj]
    show gby g j 3 + _ = (zTv z q).2.2 j
    rw [h.1 j hj 3 (by decide), zTv, (tv_is _ _).2.2]
    by_cases y : hs (zK z 2 q) j = true
    · have hh : j < zjn z ∧ hs (zK z 2 q) j = true := ⟨hj, y⟩
      rw [if_pos hh, y, Bool.true_and]
    · have hh : ¬ (j < zjn z ∧ hs (zK z 2 q) j = true) := fun x => y x.2
      rw [if_neg hh, eq_false_of_ne_true y, Bool.false_and, if_neg (show ¬ (false = true) by decide), add_n0]
theorem not_cl {c : Nat} (h : clF (zK z) c = false) : zK z 5 c = -1 := by
  unfold clF at h
  simpa using h
theorem say_RI (hI : RI z) (hq : q < zcn z) (hp : ¬ zK z 2 q = 0) (hc : clF (zK z) q = false) : RI (zSay z q) := by
  have hjn := hI.jn
  have htn := hI.tn
  have hn3 : ∀ c, c ≠ q → zK (zSay z q) 3 c = zK z 3 c := fun c h => pk_un (f := zK z 3) h
  have hn4 : ∀ c, c ≠ q → zK (zSay z q) 4 c = zK z 4 c := fun c h => pk_un (f := zK z 4) h
  have h3 : zK (zSay z q) 3 q = nI (zVd z q) := pk_us (f := zK z 3)
  have h4 : zK (zSay z q) 4 q = nI (ztn z) := pk_us (f := zK z 4)
  have hv0 : ¬ nI (zVd z q) = 0 := by
    rcases vd_12 (l := zJ z 0) (d := zJ z 1) (jn := zjn z) (panel := zK z 2 q) (merit := zK z 0 q) with e | e <;> (unfold zVd; rw [e]; decide +kernel)
  have hhd : ∀ c, c < zcn z → hdF (zK (zSay z q)) c = (hdF (zK z) c && !decide (c = q)) := by
    intro c _
    unfold hdF hpF hvF
    by_cases y : c = q
    · subst y; rw [h3, decide_eq_false hv0, decide_eq_true rfl, Bool.not_true, Bool.and_false]; exact Bool.and_false _
    · rw [hn3 c y, decide_eq_false y, Bool.not_false, Bool.and_true]; rfl
  refine ⟨hI.jn, hI.cn, hI.ck, hI.tn, fun j hj => ?_, fun c hc2 => ?_, ?_⟩
  · have hj : j < zjn z := hj
    have y := hI.j hj
    refine ⟨y.1, ?_, y.2.2⟩
    show 0 ≤ ((zTv z q).1 j).toInt ∧ ((zTv z q).1 j).toInt ≤ 9
    rw [zTv, (tv_is _ _).1]
    by_cases x : j < zjn z ∧ hs (zK z 2 q) j = true
    · rw [if_pos x]; exact (nwD_is y.2.1 _).2
    · rw [if_neg x]; exact y.2.1
  · have hc2 : c < zcn z := hc2
    have y := hI.c hc2
    by_cases e : c = q
    · subst e
      refine ⟨y.1, y.2.1, y.2.2.1, Or.inr ⟨hp, ?_, ⟨ztn z, Nat.le_refl _, h4⟩, Or.inl (not_cl hc)⟩, y.2.2.2.2.1, ?_⟩
      · rw [h3]
        rcases vd_12 (l := zJ z 0) (d := zJ z 1) (jn := zjn z) (panel := zK z 2 c) (merit := zK z 0 c) with e | e
        · exact Or.inl (by unfold zVd; rw [e])
        · exact Or.inr (by unfold zVd; rw [e])
      · unfold rpF
        rw [h4]
        show (_ && decide (¬ nI (ztn z) - nI 4 < nI (ztn z))) = false
        rw [decide_eq_false (fun x => x (Int32.lt_iff_toInt_lt.mpr (by rw [sbI (bd_n (by omega)) (bd_n (by decide)), nIt (by omega), nIt (by decide)]; omega))), Bool.and_false]
    · unfold CI rpF hvF clF at y ⊢
      rw [hn3 c e, hn4 c e]
      exact y
  · exact (row_leave hI.row hq hhd).1
theorem eq_vote (hI : RI z) (hG : RG z g) (hq : q < zcn z) (hp : ¬ zK z 2 q = 0) (hc : clF (zK z) q = false) : RI (zSay z q) ∧ RG (zSay z q) (sy5 g l d (zjn z) q) ∧ syV g l d (zjn z) q = zVd z q := by
  have hjn := hI.jn
  have hcn := hI.cn
  have hS : SG z g q := ⟨fun j hj w hw => hG.by hj hw, hG.of hq (by decide), hG.of hq (by decide)⟩
  have hd : ∀ j, j < zjn z → 0 ≤ (zJ z 1 j).toInt ∧ (zJ z 1 j).toInt ≤ 9 := fun j hj => (hI.j hj).2.1
  refine ⟨say_RI hI hq hp hc, ⟨by rw [sy5_lo (by decide) (by decide)]; exact hG.g0, by rw [sy5_lo (by decide) (by decide)]; exact hG.g1, by rw [sy5_lo (by decide) (by decide)]; exact hG.g2, by rw [sy5_lo (by decide) (by decide)]; exact hG.g3, ?_, by rw [sy5_lo (by decide) (by decide)]; exact hG.g5, by rw [sy5_lo (by decide) (by decide)]; exact hG.g6, fun j hj w hw => sy5_by hjn hd hS hj hw, fun c hc2 w hw => ?_⟩, say_V hS⟩
  · rw [sy5_4 hjn, hG.g4]; rfl
  · have hc2 : c < zcn z := hc2
    by_cases e3 : c = q ∧ w = 3
    · obtain ⟨rfl, rfl⟩ := e3
      rw [sy5_3 hjn hS]; exact (pk_us (f := zK z 3)).symm
    · by_cases e4 : c = q ∧ w = 4
      · obtain ⟨rfl, rfl⟩ := e4
        rw [sy5_s hjn, hG.g3]; exact (pk_us (f := zK z 4)).symm
      · rw [sy5_of hjn hw (fun x => by rcases x.2 with y | y; exact e3 ⟨x.1, y⟩; exact e4 ⟨x.1, y⟩), hG.of hc2 hw]
        by_cases y : w = 3
        · subst y; exact (pk_un (f := zK z 3) (fun x => e3 ⟨x, rfl⟩)).symm
        · by_cases y4 : w = 4
          · subst y4; exact (pk_un (f := zK z 4) (fun x => e4 ⟨x, rfl⟩)).symm
          · have hw8 : w = 0 ∨ w = 1 ∨ w = 2 ∨ w = 5 ∨ w = 6 ∨ w = 7 := by omega
            rcases hw8 with rfl | rfl | rfl | rfl | rfl | rfl <;> rfl
end OPC
