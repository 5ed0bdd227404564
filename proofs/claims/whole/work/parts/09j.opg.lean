/-! readers that both count in ways of their own -/
theorem RI.fv {z : CS} (hI : RI z) {j : Nat} (hj : j < zjn z) : (nI 5 * zJ z 0 j - zJ z 1 j).toInt = 5 * (zJ z 0 j).toInt - (zJ z 1 j).toInt := by
  have a := (hI.j hj).1
  have b := (hI.j hj).2.1
  have n5 := nIt (n := 5) (by decide)
  have m : (nI 5 * zJ z 0 j).toInt = 5 * (zJ z 0 j).toInt := by rw [fb_mulI (by rw [n5]; omega) (by rw [n5]; omega), n5]; rfl
  rw [fb_subI (by omega) (by omega), m]
theorem vm_step {p : Int32} {l d : Nat → Int32} {k : Nat} (h : hs p k = true) : vmS l d p (k + 1) = ((vmS l d p k).1 + (nI 5 * l k - d k), ((if nI 5 * l k - d k < (vmS l d p k).2.1 then nI 5 * l k - d k else (vmS l d p k).2.1), (if (vmS l d p k).2.2 < nI 5 * l k - d k then nI 5 * l k - d k else (vmS l d p k).2.2))) := by rw [vmS, if_pos h]
section OPG
variable {l d : Nat → Int32} {jn : Nat} {p merit : Int32}
abbrev vt (l d : Nat → Int32) (k : Nat) : Int32 := nI 5 * l k - d k
theorem vt_is {k : Nat} (hl : -9 ≤ (l k).toInt ∧ (l k).toInt ≤ 9) (hd : 0 ≤ (d k).toInt ∧ (d k).toInt ≤ 9) : (vt l d k).toInt = 5 * (l k).toInt - (d k).toInt := by
  have n5 := nIt (n := 5) (by decide)
  have m : (nI 5 * l k).toInt = 5 * (l k).toInt := by rw [fb_mulI (by rw [n5]; omega) (by rw [n5]; omega), n5]; rfl
  rw [fb_subI (by omega) (by omega), m]
theorem for_is {l9 d9 : Int32} (hm : 0 ≤ merit.toInt ∧ merit.toInt ≤ 100) (hl : -9 ≤ l9.toInt ∧ l9.toInt ≤ 9) (hd : 0 ≤ d9.toInt ∧ d9.toInt ≤ 9) : forB merit l9 d9 = decide (50 ≤ merit.toInt + (5 * l9.toInt - d9.toInt)) := by
  have n5 := nIt (n := 5) (by decide)
  have n50 := nIt (n := 50) (by decide)
  have m : (nI 5 * l9).toInt = 5 * l9.toInt := by rw [fb_mulI (by rw [n5]; omega) (by rw [n5]; omega), n5]; rfl
  have a : (merit + nI 5 * l9).toInt = merit.toInt + 5 * l9.toInt := by rw [fb_addI (by omega) (by omega), m]
  unfold forB
  refine decide_eq_decide.mpr ?_
  rw [Int32.le_iff_toInt_le, fb_subI (by omega) (by omega), a, n50]
  omega
/-- the sum, the least and the greatest of at most three votes, and how many of them are for -/
def V3 (T : Int) (n c : Nat) (s mn mx : Int) : Prop := (n = 0 ∧ c = 0 ∧ s = 0 ∧ mn = 2147483647 ∧ mx = -2147483648) ∨ (n = 1 ∧ ∃ x : Int, -60 ≤ x ∧ x ≤ 60 ∧ s = x ∧ mn = x ∧ mx = x ∧ (c = if T ≤ x then 1 else 0)) ∨ (n = 2 ∧ ∃ x y : Int, -60 ≤ x ∧ x ≤ 60 ∧ -60 ≤ y ∧ y ≤ 60 ∧ x ≤ y ∧ s = x + y ∧ mn = x ∧ mx = y ∧ (c = (if T ≤ x then 1 else 0) + if T ≤ y then 1 else 0)) ∨ (n = 3 ∧ ∃ x w y : Int, -60 ≤ x ∧ x ≤ 60 ∧ -60 ≤ w ∧ w ≤ 60 ∧ -60 ≤ y ∧ y ≤ 60 ∧ x ≤ w ∧ w ≤ y ∧ s = x + w + y ∧ mn = x ∧ mx = y ∧ (c = (if T ≤ x then 1 else 0) + (if T ≤ w then 1 else 0) + if T ≤ y then 1 else 0)) ∨ 3 < n
theorem V3_up {T : Int} {n c : Nat} {s mn mx v : Int} (h : V3 T n c s mn mx) (h1 : -60 ≤ v) (h2 : v ≤ 60) : V3 T (n + 1) (c + if T ≤ v then 1 else 0) (s + v) (if v < mn then v else mn) (if mx < v then v else mx) := by
  rcases h with ⟨rfl, rfl, rfl, rfl, rfl⟩ | ⟨rfl, x, x1, x2, rfl, rfl, rfl, rfl⟩ | ⟨rfl, x, y, x1, x2, y1, y2, xy, rfl, rfl, rfl, rfl⟩ | ⟨rfl, _⟩ | h
  · refine Or.inr (Or.inl ⟨rfl, v, h1, h2, by omega, by rw [if_pos (by omega)], by rw [if_pos (by omega)], by omega⟩)
  · refine Or.inr (Or.inr (Or.inl ⟨rfl, ?_⟩))
    by_cases c1 : v < mx
    · exact ⟨v, mx, h1, h2, x1, x2, by omega, by omega, by rw [if_pos c1], by rw [if_neg (by omega)], by omega⟩
    · refine ⟨mx, v, x1, x2, h1, h2, by omega, rfl, by rw [if_neg c1], ?_, rfl⟩
      by_cases c2 : mx < v
      · rw [if_pos c2]
      · rw [if_neg c2]; omega
  · refine Or.inr (Or.inr (Or.inr (Or.inl ⟨rfl, ?_⟩)))
    by_cases c1 : v < mn
    · exact ⟨v, mn, mx, h1, h2, x1, x2, y1, y2, by omega, xy, by omega, by rw [if_pos c1], by rw [if_neg (by omega)], by omega⟩
    · by_cases c2 : mx < v
      · exact ⟨mn, mx, v, x1, x2, y1, y2, h1, h2, xy, by omega, by omega, by rw [if_neg c1], by rw [if_pos c2], by omega⟩
      · exact ⟨mn, v, mx, x1, x2, h1, h2, y1, y2, by omega, by omega, by omega, by rw [if_neg c1], by rw [if_neg c2], by omega⟩
  · exact Or.inr (Or.inr (Or.inr (Or.inr (by omega))))
  · exact Or.inr (Or.inr (Or.inr (Or.inr (by omega))))
theorem V3_s {T : Int} {n c : Nat} {s mn mx : Int} (h : V3 T n c s mn mx) (hn : n ≤ 3) : -180 ≤ s ∧ s ≤ 180 := by
  rcases h with ⟨rfl, rfl, rfl, rfl, rfl⟩ | ⟨rfl, x, x1, x2, rfl, rfl, rfl, rfl⟩ | ⟨rfl, x, y, x1, x2, y1, y2, xy, rfl, rfl, rfl, rfl⟩ | ⟨rfl, x, w, y, x1, x2, w1, w2, y1, y2, xw, wy, rfl, rfl, rfl, rfl⟩ | h <;> omega
theorem maxI : (2147483647 : Int32).toInt = 2147483647 := by decide +kernel
theorem minI : (-2147483648 : Int32).toInt = -2147483648 := by decide +kernel
theorem vm_inv (hm : 0 ≤ merit.toInt ∧ merit.toInt ≤ 100) (hl : ∀ j, j < jn → -9 ≤ (l j).toInt ∧ (l j).toInt ≤ 9) (hd : ∀ j, j < jn → 0 ≤ (d j).toInt ∧ (d j).toInt ≤ 9) : ∀ k, k ≤ jn → fb_ct (hs p) k ≤ 3 → V3 (50 - merit.toInt) (fb_ct (hs p) k) (fb_ct (fun k => hs p k && forB merit (l k) (d k)) k) (vmS l d p k).1.toInt (vmS l d p k).2.1.toInt (vmS l d p k).2.2.toInt
  | 0, _, _ => Or.inl ⟨rfl, rfl, nIt (by decide), maxI, minI⟩
  | k + 1, hk, h3 => by
    have hk0 : fb_ct (hs p) k ≤ 3 := Nat.le_trans (fb_ct_mono _ (Nat.le_succ k)) h3
    have ih := vm_inv hm hl hd k (by omega) hk0
    have a := hl k (by omega)
    have b := hd k (by omega)
    by_cases c : hs p k = true
    · have e := vt_is (l := l) (d := d) a b
      have f := for_is hm a b
      have s9 := V3_s ih hk0
      have u := V3_up (v := (vt l d k).toInt) ih (by omega) (by omega)
      rw [vm_step c, fb_ct_succ, fb_ct_succ, c, if_pos rfl, Bool.true_and, f]
      have e1 : ((vmS l d p k).1 + vt l d k).toInt = (vmS l d p k).1.toInt + (vt l d k).toInt := fb_addI (by omega) (by omega)
      have e2 : (if vt l d k < (vmS l d p k).2.1 then vt l d k else (vmS l d p k).2.1).toInt = if (vt l d k).toInt < (vmS l d p k).2.1.toInt then (vt l d k).toInt else (vmS l d p k).2.1.toInt := by
        by_cases q : vt l d k < (vmS l d p k).2.1
        · rw [if_pos q, if_pos (Int32.lt_iff_toInt_lt.mp q)]
        · rw [if_neg q, if_neg (fun x => q (Int32.lt_iff_toInt_lt.mpr x))]
      have e3 : (if (vmS l d p k).2.2 < vt l d k then vt l d k else (vmS l d p k).2.2).toInt = if (vmS l d p k).2.2.toInt < (vt l d k).toInt then (vt l d k).toInt else (vmS l d p k).2.2.toInt := by
        by_cases q : (vmS l d p k).2.2 < vt l d k
        · rw [if_pos q, if_pos (Int32.lt_iff_toInt_lt.mp q)]
        · rw [if_neg q, if_neg (fun x => q (Int32.lt_iff_toInt_lt.mpr x))]
      show V3 _ _ _ ((vmS l d p k).1 + vt l d k).toInt (if vt l d k < (vmS l d p k).2.1 then vt l d k else (vmS l d p k).2.1).toInt (if (vmS l d p k).2.2 < vt l d k then vt l d k else (vmS l d p k).2.2).toInt
      rw [e1, e2, e3]
      by_cases q : 50 ≤ merit.toInt + (5 * (l k).toInt - (d k).toInt)
      · rw [decide_eq_true q, if_pos rfl]
        rw [if_pos (show 50 - merit.toInt ≤ (vt l d k).toInt by omega)] at u
        exact u
      · rw [decide_eq_false q, if_neg (by decide)]
        rw [if_neg (show ¬ 50 - merit.toInt ≤ (vt l d k).toInt by omega)] at u
        exact u
    · rw [vmS, if_neg c, fb_ct_succ, fb_ct_succ, eq_false_of_ne_true c, Bool.false_and, if_neg (by decide), Nat.add_zero, Nat.add_zero]
      exact ih
theorem vm_is (hm : 0 ≤ merit.toInt ∧ merit.toInt ≤ 100) (hl : ∀ j, j < jn → -9 ≤ (l j).toInt ∧ (l j).toInt ≤ 9) (hd : ∀ j, j < jn → 0 ≤ (d j).toInt ∧ (d j).toInt ≤ 9) (hp : fb_ct (hs p) jn = 3) : vmF l d jn p merit = vdF l d jn p merit := by
  have V := vm_inv (p := p) hm hl hd jn (Nat.le_refl _) (by omega)
  rw [hp] at V
  unfold vmF vdF
  rcases V with ⟨h, _⟩ | ⟨h, _⟩ | ⟨h, _⟩ | ⟨_, x, w, y, x1, x2, w1, w2, y1, y2, xw, wy, hs9, hmn, hmx, hc⟩ | h
  · cases h
  · cases h
  · cases h
  · have n50 := nIt (n := 50) (by decide)
    have e : (merit + ((vmS l d p jn).1 - (vmS l d p jn).2.1 - (vmS l d p jn).2.2)).toInt = merit.toInt + w := by
      have a1 : ((vmS l d p jn).1 - (vmS l d p jn).2.1).toInt = w + y := by rw [fb_subI (by omega) (by omega)]; omega
      have a2 : ((vmS l d p jn).1 - (vmS l d p jn).2.1 - (vmS l d p jn).2.2).toInt = w := by rw [fb_subI (by omega) (by omega)]; omega
      rw [fb_addI (by omega) (by omega), a2]
    by_cases q : merit.toInt + w < 50
    · rw [if_pos (Int32.lt_iff_toInt_lt.mpr (by omega)), if_neg]
      rw [hc, if_neg (show ¬ 50 - merit.toInt ≤ x by omega), if_neg (show ¬ 50 - merit.toInt ≤ w by omega)]
      by_cases r : 50 - merit.toInt ≤ y
      · rw [if_pos r]; omega
      · rw [if_neg r]; omega
    · rw [if_neg (fun r => q (by have := Int32.lt_iff_toInt_lt.mp r; omega)), if_pos]
      rw [hc, if_pos (show 50 - merit.toInt ≤ w by omega), if_pos (show 50 - merit.toInt ≤ y by omega)]
      omega
  · exact absurd h (by decide)
end OPG
