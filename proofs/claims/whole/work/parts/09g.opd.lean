/-! a verdict is unsaid; a verdict is appealed -/
theorem m9I : (-9 : Int32).toInt = -9 := by decide +kernel
theorem tkT_is {merit l d : Int32} (h : -9 ≤ l.toInt ∧ l.toInt ≤ 9) : (mvF merit l d < -9 → tkT merit l d = l) ∧ (nI 9 < mvF merit l d → tkT merit l d = l) ∧ (¬ mvF merit l d < -9 → ¬ nI 9 < mvF merit l d → tkT merit l d = mvF merit l d ∧ ¬ mvF merit l d = l ∧ -9 ≤ (mvF merit l d).toInt ∧ (mvF merit l d).toInt ≤ 9) := by
  have bdl : bd l := by constructor <;> omega
  have n9 := nIt (n := 9) (by decide)
  have n1 := nIt (n := 1) (by decide)
  have m9 := m9I
  have a1 : (l + nI 1).toInt = l.toInt + 1 := by have e := adI (x := l) (y := nI 1) bdl (bd_n (by decide)); omega
  have a2 : (l + -1).toInt = l.toInt + -1 := by rw [adI bdl (by constructor <;> rw [m1I] <;> decide), m1I]
  have a3 : (l - nI 1).toInt = l.toInt - 1 := by have e := sbI (x := l) (y := nI 1) bdl (bd_n (by decide)); omega
  have e3 : l - nI 1 = l + -1 := by rw [i_eq, a3, a2]; omega
  have key : ∃ m : Int32, mvF merit l d = m ∧ tkT merit l d = wi m (-9) (nI 9) ∧ (m.toInt = l.toInt + 1 ∨ m.toInt = l.toInt - 1) := by
    unfold mvF tkT
    by_cases c : forB merit l d = true
    · rw [if_pos c, if_pos c]
      exact ⟨l - nI 1, rfl, by rw [e3], Or.inr a3⟩
    · rw [if_neg c, if_neg c]
      exact ⟨l + nI 1, rfl, rfl, Or.inl a1⟩
  obtain ⟨m, e1, e2, hm⟩ := key
  rw [e1, e2]
  refine ⟨fun c => ?_, fun c => ?_, fun c1 c2 => ?_⟩
  · have c2 := Int32.lt_iff_toInt_lt.mp c
    rw [wi, if_neg (fun q => by have := Int32.le_iff_toInt_le.mp q; omega)]
    rw [i_eq]; omega
  · have c2 := Int32.lt_iff_toInt_lt.mp c
    rw [wi, if_pos (Int32.le_iff_toInt_le.mpr (by omega)), if_neg (fun q => by have := Int32.le_iff_toInt_le.mp q; omega)]
    rw [i_eq]; omega
  · have d1 : ¬ m.toInt < (-9 : Int32).toInt := fun q => c1 (Int32.lt_iff_toInt_lt.mpr q)
    have d2 : ¬ (nI 9).toInt < m.toInt := fun q => c2 (Int32.lt_iff_toInt_lt.mpr q)
    rw [wi, if_pos (Int32.le_iff_toInt_le.mpr (by omega)), if_pos (Int32.le_iff_toInt_le.mpr (by omega))]
    refine ⟨rfl, fun q => ?_, by omega, by omega⟩
    have := i_eq.mp q
    omega
theorem to_is {panel merit : Int32} {d1 d2 l1 l2 : Nat → Int32} {jn : Nat} (hd : ∀ j, j < jn → d1 j = d2 j) (hl : ∀ j, j < jn → l1 j = l2 j) (hr : ∀ j, j < jn → -9 ≤ (l2 j).toInt ∧ (l2 j).toInt ≤ 9) : ∀ k, k ≤ jn → (tkS panel merit d1 l1 k).1 = nI (toS panel merit d2 l2 k).1 ∧ (∀ j, j < jn → (tkS panel merit d1 l1 k).2 j = (toS panel merit d2 l2 k).2 j) ∧ (∀ j, j < jn → -9 ≤ ((toS panel merit d2 l2 k).2 j).toInt ∧ ((toS panel merit d2 l2 k).2 j).toInt ≤ 9) ∧ (toS panel merit d2 l2 k).1 ≤ k
  | 0, _ => ⟨rfl, hl, hr, Nat.le_refl _⟩
  | k + 1, hk => by
    obtain ⟨h1, h2, h3, h4⟩ := to_is (panel := panel) (merit := merit) hd hl hr k (by omega)
    by_cases c : hs panel k = true
    · have t := tkT_is (merit := merit) (l := (toS panel merit d2 l2 k).2 k) (d := d2 k) (h3 k (by omega))
      have e : tkS panel merit d1 l1 (k + 1) = ((tkS panel merit d1 l1 k).1 + (if tkT merit ((toS panel merit d2 l2 k).2 k) (d2 k) = (toS panel merit d2 l2 k).2 k then nI 0 else nI 1), upd (tkS panel merit d1 l1 k).2 k (tkT merit ((toS panel merit d2 l2 k).2 k) (d2 k))) := by rw [tkS, if_pos c, h2 k (by omega), hd k (by omega)]
      have stay : tkT merit ((toS panel merit d2 l2 k).2 k) (d2 k) = (toS panel merit d2 l2 k).2 k → toS panel merit d2 l2 (k + 1) = toS panel merit d2 l2 k → (tkS panel merit d1 l1 (k + 1)).1 = nI (toS panel merit d2 l2 (k + 1)).1 ∧ (∀ j, j < jn → (tkS panel merit d1 l1 (k + 1)).2 j = (toS panel merit d2 l2 (k + 1)).2 j) ∧ (∀ j, j < jn → -9 ≤ ((toS panel merit d2 l2 (k + 1)).2 j).toInt ∧ ((toS panel merit d2 l2 (k + 1)).2 j).toInt ≤ 9) ∧ (toS panel merit d2 l2 (k + 1)).1 ≤ k + 1 := by
        intro x y
        rw [e, y, if_pos x, x]
        refine ⟨by show (tkS panel merit d1 l1 k).1 + nI 0 = _; rw [add_n0]; exact h1, fun j hj => ?_, h3, by omega⟩
        show upd (tkS panel merit d1 l1 k).2 k _ j = _
        by_cases z : j = k
        · subst z; rw [pk_us]
        · rw [pk_un z]; exact h2 j hj
      by_cases x1 : mvF merit ((toS panel merit d2 l2 k).2 k) (d2 k) < -9
      · exact stay (t.1 x1) (by rw [toS, if_pos c, if_pos x1])
      · by_cases x2 : nI 9 < mvF merit ((toS panel merit d2 l2 k).2 k) (d2 k)
        · exact stay (t.2.1 x2) (by rw [toS, if_pos c, if_neg x1, if_pos x2])
        · have t2 := t.2.2 x1 x2
          have e5 : toS panel merit d2 l2 (k + 1) = ((toS panel merit d2 l2 k).1 + 1, upd (toS panel merit d2 l2 k).2 k (mvF merit ((toS panel merit d2 l2 k).2 k) (d2 k))) := by rw [toS, if_pos c, if_neg x1, if_neg x2]
          rw [e, e5, t2.1, if_neg t2.2.1]
          refine ⟨by show (tkS panel merit d1 l1 k).1 + nI 1 = nI ((toS panel merit d2 l2 k).1 + 1); rw [h1, nI_add], fun j hj => ?_, fun j hj => ?_, by show (toS panel merit d2 l2 k).1 + 1 ≤ k + 1; omega⟩
          · show upd (tkS panel merit d1 l1 k).2 k _ j = upd (toS panel merit d2 l2 k).2 k _ j
            by_cases z : j = k
            · subst z; rw [pk_us, pk_us]
            · rw [pk_un z, pk_un z]; exact h2 j hj
          · show -9 ≤ (upd (toS panel merit d2 l2 k).2 k _ j).toInt ∧ (upd (toS panel merit d2 l2 k).2 k _ j).toInt ≤ 9
            by_cases z : j = k
            · subst z; rw [pk_us]; exact t2.2.2
            · rw [pk_un z]; exact h3 j hj
    · rw [tkS, if_neg c, toS, if_neg c]
      exact ⟨h1, h2, h3, by omega⟩
theorem isum_upd {f : Nat → Int32} {q : Nat} {x : Int32} : ∀ {n : Nat}, q < n → isum (upd f q (f q + x)) n = isum f n + x
  | 0, h => absurd h (Nat.not_lt_zero _)
  | n + 1, h => by
    rw [isum, isum]
    by_cases e : q = n
    · subst e
      rw [pk_us, isum_cong (fun k hk => pk_un (f := f) (show k ≠ q by omega)), Int32.add_assoc]
    · rw [isum_upd (show q < n by omega), pk_un (fun y => e y.symm), Int32.add_assoc, Int32.add_assoc, Int32.add_comm x]
section OPD
variable {z : CS} {g l d : Nat → Int32} {q : Nat}
theorem hd_not {c : Nat} (h : hvF (zK z) c = true) : hdF (zK z) c = false := by unfold hdF; rw [h, Bool.not_true, Bool.and_false]
theorem eq_unsay (hI : RI z) (hG : RG z g) (hq : q < zcn z) (hv : hvF (zK z) q = true) (hc : clF (zK z) q = false) : RI (zUns z q) ∧ RG (zUns z q) (usG5 g l d (zjn z) q) ∧ (tkS (gof g q 2) (gof g q 0) (lmS g l d (zjn z)).2 (lmS g l d (zjn z)).1 (zjn z)).1 = nI (zTo z q).1 := by
  have hjn := hI.jn
  have hcn := hI.cn
  have hCI := hI.c hq
  have hp : ¬ zK z 2 q = 0 := by
    rcases hCI.2.2.2.1 with y | y
    · unfold hvF at hv
      rw [y.1, nI_0] at hv
      cases hv
    · exact y.1
  have T := to_is (panel := zK z 2 q) (merit := zK z 0 q) (d1 := (lmS g l d (zjn z)).2) (d2 := zJ z 1) (l1 := (lmS g l d (zjn z)).1) (l2 := zJ z 0) (jn := zjn z) (fun j hj => by rw [lm_2 hj]; exact hG.by hj (by decide)) (fun j hj => by rw [lm_1 hj]; exact hG.by hj (by decide)) (fun j hj => (hI.j hj).1) (zjn z) (Nat.le_refl _)
  rw [show toS (zK z 2 q) (zK z 0 q) (zJ z 1) (zJ z 0) (zjn z) = zTo z q from rfl] at T
  have g2 : gof g q 2 = zK z 2 q := hG.of hq (by decide)
  have g0 : gof g q 0 = zK z 0 q := hG.of hq (by decide)
  have k3 : zK (zUns z q) 3 q = nI 0 := pk_us (f := zK z 3)
  have k4 : zK (zUns z q) 4 q = -1 := pk_us (f := zK z 4)
  have k6 : zK (zUns z q) 6 q = zK z 6 q + nI 1 := pk_us (f := zK z 6)
  have n3 : ∀ c, c ≠ q → zK (zUns z q) 3 c = zK z 3 c := fun c h => pk_un (f := zK z 3) h
  have n4 : ∀ c, c ≠ q → zK (zUns z q) 4 c = zK z 4 c := fun c h => pk_un (f := zK z 4) h
  have n6 : ∀ c, c ≠ q → zK (zUns z q) 6 c = zK z 6 c := fun c h => pk_un (f := zK z 6) h
  have hhd : ∀ c, c < zcn z → hdF (zK (zUns z q)) c = (hdF (zK z) c || decide (c = q)) := by
    intro c _
    by_cases y : c = q
    · subst y
      rw [hd_not hv, decide_eq_true rfl, Bool.or_true]
      unfold hdF hpF hvF
      rw [k3, nI_0, show zK (zUns z c) 2 = zK z 2 from rfl, decide_eq_false hp]; rfl
    · unfold hdF hpF hvF
      rw [n3 c y, decide_eq_false y, Bool.or_false]; rfl
  refine ⟨⟨hI.jn, hI.cn, hI.ck, hI.tn, fun j hj => ?_, fun c hc2 => ?_, ?_⟩, ?_, by rw [g2, g0]; exact T.1⟩
  · have y := hI.j (show j < zjn z from hj)
    exact ⟨T.2.2.1 j hj, y.2.1, y.2.2⟩
  · have y := hI.c (show c < zcn z from hc2)
    by_cases e : c = q
    · subst e
      exact ⟨y.1, y.2.1, y.2.2.1, Or.inl ⟨k3, k4, not_cl hc⟩, y.2.2.2.2.1, by unfold rpF hvF; rw [k3, nI_0]; rfl⟩
    · unfold CI rpF hvF clF at y ⊢
      rw [n3 c e, n4 c e]
      exact y
  · show RowS (kK (zK z)) (hdF (zK (zUns z q))) (zcn z) (enO (zUnK z q) (zrw z) (zrl z) q) (zrl z + 1)
    exact row_enter hI.row (kK_inj hI) hq (hd_not hv) hhd (fun k hk => hI.cb hq (hI.row.1 k hk).1)
  · have low : ∀ i, i < 8 → i ≠ 5 → usG5 g l d (zjn z) q i = g i := by
      intro i hi h5
      unfold usG5 usG3 usG
      rw [pk_un (by omega), pk_un (by omega), pk_un (by omega), pk_un (by omega), tm_o _ (fun j hj => ⟨by omega, by omega⟩)]
    have ofx : ∀ c w, c < zcn z → w < 8 → ¬ (c = q ∧ (w = 3 ∨ w = 4 ∨ w = 6)) → gof (usG5 g l d (zjn z) q) c w = gof g c w := by
      intro c w hc2 hw hn
      unfold gof usG5 usG3 usG
      rw [pk_un (by omega), pk_un (by omega), pk_un (by omega), pk_un (by omega), tm_o _ (fun j hj => ⟨by omega, by omega⟩)]
    refine ⟨by rw [low 0 (by decide) (by decide)]; exact hG.g0, by rw [low 1 (by decide) (by decide)]; exact hG.g1, by rw [low 2 (by decide) (by decide)]; exact hG.g2, by rw [low 3 (by decide) (by decide)]; exact hG.g3, by rw [low 4 (by decide) (by decide)]; exact hG.g4, ?_, by rw [low 6 (by decide) (by decide)]; exact hG.g6, fun j hj w hw => ?_, fun c hc2 w hw => ?_⟩
    · unfold usG5 usG3 usG
      rw [pk_us, pk_un (by omega), pk_un (by omega), pk_un (by omega), tm_o _ (fun j hj => ⟨by omega, by omega⟩), hG.g5]
      exact (isum_upd (f := zK z 6) (x := nI 1) hq).symm
    · have hj : j < zjn z := hj
      have hw4 : w = 0 ∨ w = 1 ∨ w = 2 ∨ w = 3 := by omega
      unfold gby usG5 usG3 usG
      rw [pk_un (by omega), pk_un (by omega), pk_un (by omega), pk_un (by omega)]
      rcases hw4 with rfl | rfl | rfl | rfl
      · rw [tm_0 _ hj, g2, g0]; exact T.2.1 j hj
      · rw [tm_1 _ hj, lm_2 hj]; exact hG.by hj (by decide)
      · rw [tm_o _ (fun j hj => ⟨by omega, by omega⟩)]; exact hG.by hj (by decide)
      · rw [tm_o _ (fun j hj => ⟨by omega, by omega⟩)]; exact hG.by hj (by decide)
    · have hc2 : c < zcn z := hc2
      by_cases e3 : c = q ∧ w = 3
      · obtain ⟨rfl, rfl⟩ := e3
        unfold gof usG5 usG3
        rw [pk_un (by omega), pk_un (by omega), pk_un (by omega), pk_us]; exact k3.symm
      · by_cases e4 : c = q ∧ w = 4
        · obtain ⟨rfl, rfl⟩ := e4
          unfold gof usG5 usG3
          rw [pk_un (by omega), pk_un (by omega), pk_us]; exact k4.symm
        · by_cases e6 : c = q ∧ w = 6
          · obtain ⟨rfl, rfl⟩ := e6
            unfold gof usG5
            rw [pk_un (by omega), pk_us]
            unfold gof usG3 usG
            rw [pk_un (by omega), pk_un (by omega), tm_o _ (fun j hj => ⟨by omega, by omega⟩)]
            have h6 := hG.of hc2 (w := 6) (by decide)
            rw [gof] at h6
            rw [h6]; exact k6.symm
          · rw [ofx c w hc2 hw (fun x => by rcases x.2 with y | y | y; exact e3 ⟨x.1, y⟩; exact e4 ⟨x.1, y⟩; exact e6 ⟨x.1, y⟩), hG.of hc2 hw]
            by_cases y3 : w = 3
            · subst y3; exact (n3 c (fun x => e3 ⟨x, rfl⟩)).symm
            · by_cases y4 : w = 4
              · subst y4; exact (n4 c (fun x => e4 ⟨x, rfl⟩)).symm
              · by_cases y6 : w = 6
                · subst y6; exact (n6 c (fun x => e6 ⟨x, rfl⟩)).symm
                · have hw8 : w = 0 ∨ w = 1 ∨ w = 2 ∨ w = 5 ∨ w = 7 := by omega
                  rcases hw8 with rfl | rfl | rfl | rfl | rfl <;> rfl
end OPD
