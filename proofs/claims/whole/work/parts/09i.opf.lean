/-! a night -/
theorem cr_is {kf : Nat → Nat → Int32} {t : Int32} : ∀ k c, crS kf t k c = if c < k ∧ rpF kf c t = true then t else kf 5 c
  | 0, c => by rw [if_neg (fun h => Nat.not_lt_zero _ h.1)]; rfl
  | k + 1, c => by
    have ih := cr_is (kf := kf) (t := t) k
    have e : rpF (va_up kf 5 (crS kf t k)) k t = rpF kf k t := by
      unfold rpF clF
      show (hvF kf k && !(!decide (crS kf t k k = -1)) && _) = (hvF kf k && !(!decide (kf 5 k = -1)) && _)
      rw [ih k, if_neg (fun h => Nat.lt_irrefl _ h.1)]; rfl
    rw [crS, e]
    by_cases r : rpF kf k t = true
    · rw [if_pos r]
      by_cases y : c = k
      · subst y
        have h1 : c < c + 1 ∧ rpF kf c t = true := ⟨Nat.lt_succ_self c, r⟩
        rw [pk_us, if_pos h1]
      · rw [pk_un y, ih]
        by_cases x : c < k ∧ rpF kf c t = true
        · have x2 : c < k + 1 ∧ rpF kf c t = true := ⟨by omega, x.2⟩
          rw [if_pos x, if_pos x2]
        · have x2 : ¬ (c < k + 1 ∧ rpF kf c t = true) := fun h => x ⟨by omega, h.2⟩
          rw [if_neg x, if_neg x2]
    · rw [if_neg r, ih]
      by_cases x : c < k ∧ rpF kf c t = true
      · have x2 : c < k + 1 ∧ rpF kf c t = true := ⟨by omega, x.2⟩
        rw [if_pos x, if_pos x2]
      · have x2 : ¬ (c < k + 1 ∧ rpF kf c t = true) := fun h => x ⟨by
          rcases Nat.lt_or_ge c k with u | u
          · exact u
          · exact absurd (show rpF kf k t = true by rw [show k = c by omega]; exact h.2) r, h.2⟩
        rw [if_neg x, if_neg x2]
section OPF
variable {z : CS} {g l d : Nat → Int32}
theorem RI.k3 (hI : RI z) {c : Nat} (hc : c < zcn z) : zK z 3 c ≤ 0 ↔ hvF (zK z) c = false := by
  unfold hvF
  rcases (hI.c hc).2.2.2.1 with y | y
  · rw [y.1, nI_0]; exact ⟨fun _ => rfl, fun _ => Int32.le_refl _⟩
  · rcases y.2.1 with e | e <;> (rw [e]; decide +kernel)
theorem RI.k4 (hI : RI z) {c : Nat} (hc : c < zcn z) (hv : hvF (zK z) c = true) : ∃ s : Nat, s ≤ ztn z ∧ zK z 4 c = nI s := by
  rcases (hI.c hc).2.2.2.1 with y | y
  · unfold hvF at hv
    rw [y.1, nI_0] at hv
    cases hv
  · exact y.2.2.1
theorem n1_is (hI : RI z) (ht : ztn z < 99) {g0 : Nat → Int32} (h0 : ∀ c, c < zcn z → ∀ w, w < 8 → gof g0 c w = zK z w c) : ∀ k, k ≤ zcn z → (∀ c, c < zcn z → ∀ w, w < 8 → gof (n1S (nI (ztn z + 1)) g0 k) c w = va_up (zK z) 5 (crS (zK z) (nI (ztn z + 1)) k) w c) ∧ ∀ i, i < 44 → n1S (nI (ztn z + 1)) g0 k i = g0 i
  | 0, _ => ⟨fun c hc w hw => by
    rw [n1S]
    by_cases e : w = 5
    · subst e; rw [va_up_self]; exact h0 c hc 5 hw
    · rw [va_up_ne _ _ e]; exact h0 c hc w hw, fun _ _ => rfl⟩
  | k + 1, hk => by
    obtain ⟨h1, h2⟩ := n1_is hI ht h0 k (by omega)
    have hc : k < zcn z := by omega
    have e3 : gof (n1S (nI (ztn z + 1)) g0 k) k 3 = zK z 3 k := by rw [h1 k hc 3 (by decide)]; rfl
    have e4 : gof (n1S (nI (ztn z + 1)) g0 k) k 4 = zK z 4 k := by rw [h1 k hc 4 (by decide)]; rfl
    have e5 : clM (n1S (nI (ztn z + 1)) g0 k) k = clF (zK z) k := by
      unfold clM
      rw [h1 k hc 5 (by decide), va_up_self, cr_is, if_neg (fun h => Nat.lt_irrefl _ h.1)]
      exact (cl_of (hI.k5 hc)).symm
    have er : rpF (va_up (zK z) 5 (crS (zK z) (nI (ztn z + 1)) k)) k (nI (ztn z + 1)) = rpF (zK z) k (nI (ztn z + 1)) := by
      unfold rpF clF
      show (hvF (zK z) k && !(!decide (crS (zK z) (nI (ztn z + 1)) k k = -1)) && _) = (hvF (zK z) k && !(!decide (zK z 5 k = -1)) && _)
      rw [cr_is, if_neg (fun h => Nat.lt_irrefl _ h.1)]; rfl
    have stay : rpF (zK z) k (nI (ztn z + 1)) = false → n1S (nI (ztn z + 1)) g0 (k + 1) = n1S (nI (ztn z + 1)) g0 k → (∀ c, c < zcn z → ∀ w, w < 8 → gof (n1S (nI (ztn z + 1)) g0 (k + 1)) c w = va_up (zK z) 5 (crS (zK z) (nI (ztn z + 1)) (k + 1)) w c) ∧ ∀ i, i < 44 → n1S (nI (ztn z + 1)) g0 (k + 1) i = g0 i := by
      intro r e
      have e9 : crS (zK z) (nI (ztn z + 1)) (k + 1) = crS (zK z) (nI (ztn z + 1)) k := by rw [crS, er, r, if_neg (by decide)]
      rw [e, e9]; exact ⟨h1, h2⟩
    by_cases x3 : zK z 3 k ≤ 0
    · exact stay (by unfold rpF; rw [(hI.k3 hc).mp x3]; rfl) (by rw [n1S, e3, if_pos x3])
    · have hv : hvF (zK z) k = true := by
        cases y : hvF (zK z) k with
        | true => rfl
        | false => exact absurd ((hI.k3 hc).mpr y) x3
      by_cases x5 : clF (zK z) k = true
      · exact stay (by unfold rpF; rw [x5, Bool.not_true, Bool.and_false]; rfl) (by rw [n1S, e3, if_neg x3, e5, if_pos x5])
      · obtain ⟨s, hs9, e⟩ := hI.k4 hc hv
        have y1 : (nI (ztn z + 1) - nI s).toInt = (ztn z : Int) + 1 - s := by rw [sbI (bd_n (by omega)) (bd_n (by omega)), nIt (by omega), nIt (by omega)]; rfl
        have y2 : (nI (ztn z + 1) - nI 4).toInt = (ztn z : Int) + 1 - 4 := by rw [sbI (bd_n (by omega)) (bd_n (by decide)), nIt (by omega), nIt (by decide)]; rfl
        have y3 := nIt (n := s) (by omega)
        have y4 := nIt (n := 4) (by decide)
        by_cases x4 : nI (ztn z + 1) - zK z 4 k < nI 4
        · refine stay ?_ (by rw [n1S, e3, if_neg x3, e5, if_neg x5, e4, if_pos x4])
          rw [e, Int32.lt_iff_toInt_lt, y1, y4] at x4
          unfold rpF
          rw [e, decide_eq_false (fun q => q (Int32.lt_iff_toInt_lt.mpr (by omega))), Bool.and_false]
        · have r : rpF (zK z) k (nI (ztn z + 1)) = true := by
            rw [e, Int32.lt_iff_toInt_lt, y1, y4] at x4
            unfold rpF
            rw [hv, eq_false_of_ne_true x5, e, decide_eq_true (show ¬ nI (ztn z + 1) - nI 4 < nI s from fun q => by rw [Int32.lt_iff_toInt_lt] at q; omega)]; rfl
          have e9 : crS (zK z) (nI (ztn z + 1)) (k + 1) = upd (crS (zK z) (nI (ztn z + 1)) k) k (nI (ztn z + 1)) := by rw [crS, er, if_pos r]
          have e8 : n1S (nI (ztn z + 1)) g0 (k + 1) = upd (n1S (nI (ztn z + 1)) g0 k) (44 + 8 * k + 5) (nI (ztn z + 1)) := by rw [n1S, e3, if_neg x3, e5, if_neg x5, e4, if_neg x4]
          rw [e8, e9]
          refine ⟨fun c hc2 w hw => ?_, fun i hi => by rw [pk_un (by omega)]; exact h2 i hi⟩
          by_cases u : c = k ∧ w = 5
          · obtain ⟨rfl, rfl⟩ := u
            rw [gof, pk_us, va_up_self, pk_us]
          · rw [gof, pk_un (by omega)]
            refine (h1 c hc2 w hw).trans ?_
            by_cases v : w = 5
            · subst v
              rw [va_up_self, va_up_self, pk_un (fun q => u ⟨q, rfl⟩)]
            · rw [va_up_ne _ _ v, va_up_ne _ _ v]
theorem eq_close (hI : RI z) (hG : RG z g) (ht : ztn z < 99) : RI (zNi z) ∧ RG (zNi z) (n1S (nI (ztn z + 1)) (upd g 3 (nI (ztn z + 1))) (zcn z)) := by
  have hjn := hI.jn
  have hcn := hI.cn
  have k5 : ∀ c, c < zcn z → zK (zNi z) 5 c = if rpF (zK z) c (nI (ztn z + 1)) = true then nI (ztn z + 1) else zK z 5 c := by
    intro c hc
    show crS (zK z) (nI (ztn z + 1)) (zcn z) c = _
    rw [cr_is]
    by_cases x : rpF (zK z) c (nI (ztn z + 1)) = true
    · have x2 : c < zcn z ∧ rpF (zK z) c (nI (ztn z + 1)) = true := ⟨hc, x⟩
      rw [if_pos x, if_pos x2]
    · have x2 : ¬ (c < zcn z ∧ rpF (zK z) c (nI (ztn z + 1)) = true) := fun h => x h.2
      rw [if_neg x, if_neg x2]
  have kc : ∀ c, c < zcn z → clF (zK z) c = true → clF (zK (zNi z)) c = true := by
    intro c hc h
    unfold clF at h ⊢
    rw [k5 c hc]
    by_cases x : rpF (zK z) c (nI (ztn z + 1)) = true
    · rw [if_pos x, decide_eq_false (fun q => nI_nm1 (c := ztn z + 1) (by omega) q.symm)]; rfl
    · rw [if_neg x]; exact h
  refine ⟨⟨hI.jn, hI.cn, hI.ck, by show ztn z + 1 ≤ 99; omega, fun j hj => ?_, fun c hc => ?_, hI.row⟩, ?_⟩
  · have y := hI.j (show j < zjn z from hj)
    refine ⟨y.1, y.2.1, Nat.le_trans (fb_ct_sub (fun c hc h => ?_)) y.2.2⟩
    have h3 := Bool.and_eq_true_iff.mp h
    refine Bool.and_eq_true_iff.mpr ⟨?_, h3.2⟩
    cases e : clF (zK z) c with
    | false => rfl
    | true => have := h3.1; rw [kc c hc e] at this; cases this
  · have hc : c < zcn z := hc
    have y := hI.c hc
    refine ⟨y.1, y.2.1, y.2.2.1, ?_, y.2.2.2.2.1, ?_⟩
    · rcases y.2.2.2.1 with q | q
      · refine Or.inl ⟨q.1, q.2.1, ?_⟩
        rw [k5 c hc, if_neg (fun h => by
          unfold rpF hvF at h
          rw [q.1, nI_0] at h
          cases h)]
        exact q.2.2
      · refine Or.inr ⟨q.1, q.2.1, ?_, ?_⟩
        · obtain ⟨s, h9, e⟩ := q.2.2.1
          exact ⟨s, by show s ≤ ztn z + 1; omega, e⟩
        · rw [k5 c hc]
          by_cases x : rpF (zK z) c (nI (ztn z + 1)) = true
          · rw [if_pos x]; exact Or.inr ⟨ztn z + 1, Nat.le_refl _, rfl⟩
          · rw [if_neg x]
            rcases q.2.2.2 with u | ⟨s, h9, e⟩
            · exact Or.inl u
            · exact Or.inr ⟨s, by show s ≤ ztn z + 1; omega, e⟩
    · show rpF (zK (zNi z)) c (nI (ztn z + 1)) = false
      by_cases x : rpF (zK z) c (nI (ztn z + 1)) = true
      · unfold rpF clF
        rw [k5 c hc, if_pos x, decide_eq_false (fun q => nI_nm1 (c := ztn z + 1) (by omega) q.symm), Bool.not_false, Bool.not_true, Bool.and_false]; rfl
      · have x2 := eq_false_of_ne_true x
        unfold rpF clF
        rw [k5 c hc, if_neg x]
        exact x2
  · have h0 : ∀ c, c < zcn z → ∀ w, w < 8 → gof (upd g 3 (nI (ztn z + 1))) c w = zK z w c := fun c hc w hw => by rw [gof, pk_un (by omega)]; exact hG.of hc hw
    obtain ⟨h1, h2⟩ := n1_is hI ht h0 (zcn z) (Nat.le_refl _)
    refine ⟨by rw [h2 0 (by decide), pk_un (by omega)]; exact hG.g0, by rw [h2 1 (by decide), pk_un (by omega)]; exact hG.g1, by rw [h2 2 (by decide), pk_un (by omega)]; exact hG.g2, by rw [h2 3 (by decide), pk_us]; rfl, by rw [h2 4 (by decide), pk_un (by omega)]; exact hG.g4, by rw [h2 5 (by decide), pk_un (by omega)]; exact hG.g5, by rw [h2 6 (by decide), pk_un (by omega)]; exact hG.g6, fun j hj w hw => ?_, fun c hc w hw => h1 c hc w hw⟩
    have hj : j < zjn z := hj
    rw [gby, h2 _ (by omega), pk_un (by omega)]; exact hG.by hj hw
theorem zNs_jc : ∀ k, zjn (zNs z k) = zjn z ∧ zcn (zNs z k) = zcn z ∧ zck (zNs z k) = zck z
  | 0 => ⟨rfl, rfl, rfl⟩
  | k + 1 => zNs_jc k
theorem RI.hear (hI : RI z) {q : Nat} (hq : q < zcn z) (h : hdF (zK z) q = true) : ¬ zK z 2 q = 0 ∧ clF (zK z) q = false ∧ hvF (zK z) q = false := by
  have h1 := Bool.and_eq_true_iff.mp h
  have h2 : hvF (zK z) q = false := by have := h1.2; simpa using this
  refine ⟨fun e => (by have h9 := h1.1; unfold hpF at h9; rw [e] at h9; cases h9), ?_, h2⟩
  rcases (hI.c hq).2.2.2.1 with y | y
  · unfold clF; rw [y.2.2]; rfl
  · unfold hvF at h2
    rcases y.2.1 with e | e <;> (rw [e] at h2; exact absurd h2 (by decide +kernel))
theorem night_k (hI : RI (zNi z)) (hG : RG (zNi z) g) : ∀ k, k ≤ zrl z → RI (zNs z k) ∧ RG (zNs z k) (n2S (zjn z) (zcn z) (g, (l, d)) k).1 ∧ zrl (zNs z k) = zrl z - k ∧ n2N (zjn z) (zcn z) (g, (l, d)) k = k
  | 0, _ => ⟨hI, hG, rfl, rfl⟩
  | k + 1, hk => by
    obtain ⟨h1, h2, h3, h4⟩ := night_k hI hG k (by omega)
    have hcn := h1.cn
    have hjc := zNs_jc (z := z) k
    have hrl : 0 < zrl (zNs z k) := by omega
    have hl := row_le h1.row
    have er : raM (n2S (zjn z) (zcn z) (g, (l, d)) k).1 (zcn z) (nI 0) = some (zrw (zNs z k) 0) := by
      have e := h2.ra h1 (nI 0)
      rw [hjc.2.1] at e
      rw [e, if_pos (isIx_t hrl (by omega)), nI_clamp (by decide)]
    have hr := h1.row.1 0 hrl
    have hh := h1.hear hr.1 hr.2
    have V := eq_vote (l := (n2S (zjn z) (zcn z) (g, (l, d)) k).2.1) (d := (n2S (zjn z) (zcn z) (g, (l, d)) k).2.2) h1 h2 hr.1 hh.1 hh.2.1
    rw [hjc.1] at V
    have e2 : n2S (zjn z) (zcn z) (g, (l, d)) (k + 1) = (sy5 (n2S (zjn z) (zcn z) (g, (l, d)) k).1 (n2S (zjn z) (zcn z) (g, (l, d)) k).2.1 (n2S (zjn z) (zcn z) (g, (l, d)) k).2.2 (zjn z) (zrw (zNs z k) 0), ((lmS (n2S (zjn z) (zcn z) (g, (l, d)) k).1 (n2S (zjn z) (zcn z) (g, (l, d)) k).2.1 (n2S (zjn z) (zcn z) (g, (l, d)) k).2.2 (zjn z)).1, syD (n2S (zjn z) (zcn z) (g, (l, d)) k).1 (n2S (zjn z) (zcn z) (g, (l, d)) k).2.1 (n2S (zjn z) (zcn z) (g, (l, d)) k).2.2 (zjn z) (zrw (zNs z k) 0))) := by rw [n2S, er]
    have e3 : n2N (zjn z) (zcn z) (g, (l, d)) (k + 1) = n2N (zjn z) (zcn z) (g, (l, d)) k + 1 := by rw [n2N, er]
    refine ⟨V.1, by rw [e2]; exact V.2.1, ?_, by rw [e3, h4]⟩
    show (stO (zrw (zNs z k)) (zrl (zNs z k)) (zrw (zNs z k) 0)).2 = zrl z - (k + 1)
    rw [stO, fnd_0 hrl]
    show zrl (zNs z k) - 1 = _
    omega
theorem eq_night (hI : RI z) (hG : RG z g) (ht : ztn z < 99) : RI (zNs z (zTk z)) ∧ RG (zNs z (zTk z)) (n2S (zjn z) (zcn z) (n1S (nI (ztn z + 1)) (upd g 3 (nI (ztn z + 1))) (zcn z), (l, d)) (zck z)).1 ∧ n2N (zjn z) (zcn z) (n1S (nI (ztn z + 1)) (upd g 3 (nI (ztn z + 1))) (zcn z), (l, d)) (zck z) = zTk z := by
  obtain ⟨hI1, hG1⟩ := eq_close hI hG ht
  have K := night_k (l := l) (d := d) hI1 hG1
  by_cases c : zrl z < zck z
  · have e : zTk z = zrl z := if_pos c
    obtain ⟨h1, h2, h3, h4⟩ := K (zrl z) (Nat.le_refl _)
    have hcn := h1.cn
    have hjc := zNs_jc (z := z) (zrl z)
    have er : raM (n2S (zjn z) (zcn z) (n1S (nI (ztn z + 1)) (upd g 3 (nI (ztn z + 1))) (zcn z), (l, d)) (zrl z)).1 (zcn z) (nI 0) = none := by
      have e := h2.ra h1 (nI 0)
      rw [hjc.2.1, h3, Nat.sub_self] at e
      rw [e, if_neg (fun q => by obtain ⟨j, hj, _⟩ := isIx_n q (by decide); omega)]
    have stop : ∀ m, zrl z ≤ m → n2S (zjn z) (zcn z) (n1S (nI (ztn z + 1)) (upd g 3 (nI (ztn z + 1))) (zcn z), (l, d)) m = n2S (zjn z) (zcn z) (n1S (nI (ztn z + 1)) (upd g 3 (nI (ztn z + 1))) (zcn z), (l, d)) (zrl z) ∧ n2N (zjn z) (zcn z) (n1S (nI (ztn z + 1)) (upd g 3 (nI (ztn z + 1))) (zcn z), (l, d)) m = zrl z := by
      intro m
      induction m with
      | zero => intro h; rw [show zrl z = 0 by omega]; exact ⟨rfl, rfl⟩
      | succ m ih =>
        intro h
        rcases Nat.lt_or_ge m (zrl z) with y | y
        · rw [show m + 1 = zrl z by omega]; exact ⟨rfl, h4⟩
        · obtain ⟨i1, i2⟩ := ih y
          rw [n2S, n2N, i1, er]
          exact ⟨rfl, i2⟩
    obtain ⟨s1, s2⟩ := stop (zck z) (by omega)
    rw [e, s1, s2]
    exact ⟨h1, h2, rfl⟩
  · have e : zTk z = zck z := if_neg c
    obtain ⟨h1, h2, h3, h4⟩ := K (zck z) (by omega)
    rw [e]
    exact ⟨h1, h2, h4⟩
end OPF
