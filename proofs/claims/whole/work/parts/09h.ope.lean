/-! a verdict is appealed -/
section OPE
variable {z : CS} {g l d : Nat → Int32} {q : Nat}
theorem ap_out (hG : RG z g) : dbM g (zjn z) (zK z 2 q) = zOut z q := by
  unfold dbM zOut dbF
  exact bst_cong (fun _ _ => rfl) (fun a b hb ha _ _ => by rw [hG.by (show a < zjn z by omega) (by decide), hG.by (show b < zjn z by omega) (by decide)])
theorem kJ_inj0 (hI : RI z) : kinj (kJ (zK z) (zcn z) (zJ z 1)) (zjn z) := kJ_inj hI
theorem ap_in (hI : RI z) (hG : RG z g) : cldM g (zjn z) (zcn z) (zK z 2 q) (nI 0) = zIn z q := by
  have hjn := hI.jn
  unfold zIn
  rw [fcF_is hI]
  have e1 : cldM g (zjn z) (zcn z) (zK z 2 q) (nI 0) = nthO (kJ (zK z) (zcn z) (zJ z 1)) (cdF (zK z) (zcn z) (zK z 2 q)) (zjn z) 0 := fnd_ext (fun k hk => by
    have hr : rkM g (zjn z) (zcn z) (zK z 2 q) k = rk (kJ (zK z) (zcn z) (zJ z 1)) (cdF (zK z) (zcn z) (zK z 2 q)) (zjn z) k := fb_ct_cong (fun o ho => by
      show (cdM g (zcn z) (zK z 2 q) o && erM g (zcn z) o k) = _
      rw [hG.cd hI, hG.er hI ho hk])
    have := rk_n (key := kJ (zK z) (zcn z) (zJ z 1)) (p := cdF (zK z) (zcn z) (zK z 2 q)) hk
    rw [hG.cd hI, hr]
    congr 1
    exact decide_eq_decide.mpr (nI_eq (by omega) (by decide)))
  rw [e1, ← nthO_bst (kJ_inj hI)]
  exact bst_cong (fun k _ => by rw [decide_eq_true (Nat.zero_le _), Bool.and_true]) (fun _ _ _ _ _ _ => rfl)
theorem RI.pan (hI : RI z) (hq : q < zcn z) (hv : hvF (zK z) q = true) : PN (zjn z) (zK z 2 q) := by
  have hCI := hI.c hq
  rcases hCI.2.2.2.1 with y | y
  · unfold hvF at hv
    rw [y.1, nI_0] at hv
    cases hv
  · rcases hCI.2.2.1 with x | x
    · exact absurd x y.1
    · exact x
theorem ap_some (hI : RI z) (hq : q < zcn z) (hv : hvF (zK z) q = true) (h1 : 1 ≤ cwF (zK z) (zcn z) (zjn z) (zK z 2 q)) : ∃ a b : Nat, zOut z q = some a ∧ zIn z q = some b ∧ a < zjn z ∧ b < zjn z ∧ hs (zK z 2 q) a = true ∧ hs (zK z 2 q) b = false ∧ ldF (zK z) (zcn z) b < 3 := by
  have hP := hI.pan hq hv
  have e1 : ∃ a, zOut z q = some a := by
    cases e : zOut z q with
    | some a => exact ⟨a, rfl⟩
    | none =>
      have h0 : fb_ct (hs (zK z 2 q)) (zjn z) = 0 := fb_ct_zero.mpr (bst_none e)
      have := hP.1
      omega
  have e2 : ∃ b, zIn z q = some b := by
    cases e : zIn z q with
    | some a => exact ⟨a, rfl⟩
    | none =>
      unfold zIn at e
      rw [fcF_is hI] at e
      have h0 : cwF (zK z) (zcn z) (zjn z) (zK z 2 q) = 0 := fb_ct_zero.mpr (bst_none e)
      omega
  obtain ⟨a, ea⟩ := e1
  obtain ⟨b, eb⟩ := e2
  have hb := eb
  unfold zIn at hb
  rw [fcF_is hI] at hb
  have pb := Bool.and_eq_true_iff.mp (bst_p hb)
  exact ⟨a, b, ea, eb, bst_lt ea, bst_lt hb, bst_p ea, by have := pb.1; simpa using this, of_decide_eq_true pb.2⟩
theorem ap_hs (hI : RI z) {a b i : Nat} (ha : a < zjn z) (hb : b < zjn z) (ea : zOut z q = some a) (eb : zIn z q = some b) (hi : i < 32) : hs (zApP z q) i = ((hs (zK z 2 q) i && !decide (i = a)) || decide (i = b)) := by
  have hjn := hI.jn
  unfold zApP
  rw [ea, eb]
  show hs ((zK z 2 q &&& ((nI 1 <<< (nI a &&& 31)) ^^^ -1)) ||| (nI 1 <<< (nI b &&& 31))) i = _
  rw [hs_or _ (by omega) hi, hs_andn _ (by omega) hi]
theorem ap_P (hI : RI z) (hG : RG z g) (hq : q < zcn z) (hv : hvF (zK z) q = true) (h1 : 1 ≤ cwF (zK z) (zcn z) (zjn z) (zK z 2 q)) : apP g (zjn z) (zcn z) (gof g q 2) = zApP z q := by
  have hjn := hI.jn
  obtain ⟨a, b, ea, eb, ha, hb, pa, pb, lb⟩ := ap_some hI hq hv h1
  apply hs_ext
  intro i hi
  rw [ap_hs hI ha hb ea eb hi, hG.of hq (by decide)]
  unfold apP
  rw [ap_out hG, ap_in hI hG, ea, eb]
  show hs ((zK z 2 q ^^^ (nI 1 <<< (nI a &&& 31))) ^^^ (nI 1 <<< (nI b &&& 31))) i = _
  rw [hs_xor _ (by omega) hi, hs_xor _ (by omega) hi]
  by_cases e : i = a
  · subst e
    rw [pa, decide_eq_true rfl]; simp
  · by_cases e2 : i = b
    · subst e2
      rw [pb, decide_eq_true rfl, decide_eq_false e]; rfl
    · rw [decide_eq_false e, decide_eq_false e2]; simp
theorem ap_PN (hI : RI z) (hq : q < zcn z) (hv : hvF (zK z) q = true) (h1 : 1 ≤ cwF (zK z) (zcn z) (zjn z) (zK z 2 q)) : PN (zjn z) (zApP z q) := by
  have hjn := hI.jn
  have hP := hI.pan hq hv
  obtain ⟨a, b, ea, eb, ha, hb, pa, pb, lb⟩ := ap_some hI hq hv h1
  have c1 : fb_ct (hs (zK z 2 q)) (zjn z) = fb_ct (fun i => hs (zK z 2 q) i && !decide (i = a)) (zjn z) + 1 := fb_ct_ins (i := a) ha (by rw [decide_eq_true rfl]; exact Bool.and_false _) (fun k _ => by
    show hs (zK z 2 q) k = ((hs (zK z 2 q) k && !decide (k = a)) || decide (k = a))
    by_cases e : k = a
    · subst e; rw [pa, decide_eq_true rfl]; rfl
    · rw [decide_eq_false e, Bool.not_false, Bool.and_true, Bool.or_false])
  have c2 : fb_ct (hs (zApP z q)) (zjn z) = fb_ct (fun i => hs (zK z 2 q) i && !decide (i = a)) (zjn z) + 1 := fb_ct_ins (i := b) hb (by rw [pb]; rfl) (fun k hk => ap_hs hI ha hb ea eb (by omega))
  refine ⟨by rw [c2, ← c1]; exact hP.1, fun k hk h9 => ?_⟩
  rw [ap_hs hI ha hb ea eb (by omega), hP.2 k hk h9, decide_eq_false (show ¬ k = b by omega)]; rfl
theorem te3 {t : Int32} (h : ∃ n : Nat, n ≤ 99 ∧ t = nI n) : wi (t + nI 3) (nI 0) (nI 99) = (if nI 99 < t + nI 3 then nI 99 else t + nI 3) ∧ ∃ n : Nat, n ≤ 99 ∧ (if nI 99 < t + nI 3 then nI 99 else t + nI 3) = nI n := by
  obtain ⟨n, hn, e⟩ := h
  rw [e, nI_add]
  unfold wi
  rw [if_pos (nI_le (Nat.zero_le _) (by omega))]
  by_cases c : n + 3 ≤ 99
  · rw [if_pos (nI_le c (by decide)), if_neg (fun y => by have := (nI_ltI (by decide) (by omega)).mp y; omega)]
    exact ⟨rfl, n + 3, c, rfl⟩
  · rw [if_neg (fun y => by have := (nI_leI (by omega) (by decide)).mp y; omega), if_pos (nI_lt (by omega) (by omega))]
    exact ⟨rfl, 99, Nat.le_refl _, rfl⟩
theorem ap_RI (hI : RI z) (hq : q < zcn z) (hv : hvF (zK z) q = true) (h2 : ¬ zK z 7 q = nI 2) (h1 : 1 ≤ cwF (zK z) (zcn z) (zjn z) (zK z 2 q)) : RI (zAp z q) := by
  have hjn := hI.jn
  have hCI := hI.c hq
  have hPN := ap_PN hI hq hv h1
  obtain ⟨a, b, ea, eb, ha, hb, pa, pb, lb⟩ := ap_some hI hq hv h1
  have k2 : zK (zAp z q) 2 q = zApP z q := pk_us (f := zK z 2)
  have k1 : zK (zAp z q) 1 q = (if nI 99 < zK z 1 q + nI 3 then nI 99 else zK z 1 q + nI 3) := pk_us (f := zK z 1)
  have k7 : zK (zAp z q) 7 q = zK z 7 q + nI 1 := pk_us (f := zK z 7)
  have n2 : ∀ c, c ≠ q → zK (zAp z q) 2 c = zK z 2 c := fun c h => pk_un (f := zK z 2) h
  have n1 : ∀ c, c ≠ q → zK (zAp z q) 1 c = zK z 1 c := fun c h => pk_un (f := zK z 1) h
  have n7 : ∀ c, c ≠ q → zK (zAp z q) 7 c = zK z 7 c := fun c h => pk_un (f := zK z 7) h
  refine ⟨hI.jn, hI.cn, hI.ck, hI.tn, fun j hj => ?_, fun c hc => ?_, ?_⟩
  · have hj : j < zjn z := hj
    have y := hI.j hj
    refine ⟨y.1, y.2.1, ?_⟩
    show ldF (zK (zAp z q)) (zcn z) j ≤ 3
    by_cases e : j = b
    · subst e
      have s : ldF (zK (zAp z q)) (zcn z) j ≤ ldF (zK z) (zcn z) j + 1 := by
        by_cases cq : clF (zK z) q = true
        · refine Nat.le_succ_of_le (fb_ct_sub (fun c hc h => ?_))
          by_cases x : c = q
          · subst x
            have := (Bool.and_eq_true_iff.mp h).1
            rw [show clF (zK (zAp z c)) c = clF (zK z) c from rfl, cq] at this
            cases this
          · rw [n2 c x] at h; exact h
        · refine Nat.le_of_eq (fb_ct_ins (i := q) hq (by rw [pb, Bool.and_false]) (fun c hc => ?_))
          show (!clF (zK z) c && hs (zK (zAp z q) 2 c) j) = ((!clF (zK z) c && hs (zK z 2 c) j) || decide (c = q))
          by_cases x : c = q
          · subst x
            rw [k2, eq_false_of_ne_true cq, ap_hs hI ha hb ea eb (by omega), decide_eq_true rfl, decide_eq_true rfl, Bool.or_true, Bool.or_true]; rfl
          · rw [n2 c x, decide_eq_false x, Bool.or_false]
      omega
    · refine Nat.le_trans (fb_ct_sub (fun c hc h => ?_)) y.2.2
      by_cases x : c = q
      · subst x
        have h3 := Bool.and_eq_true_iff.mp h
        rw [k2, ap_hs hI ha hb ea eb (by omega), decide_eq_false e, Bool.or_false] at h3
        exact Bool.and_eq_true_iff.mpr ⟨h3.1, (Bool.and_eq_true_iff.mp h3.2).1⟩
      · rw [n2 c x] at h; exact h
  · have hc : c < zcn z := hc
    have y := hI.c hc
    by_cases e : c = q
    · subst e
      rcases y.2.2.2.1 with h3 | h3
      · exfalso
        unfold hvF at hv
        rw [h3.1, nI_0] at hv
        cases hv
      refine ⟨y.1, by rw [k1]; exact (te3 y.2.1).2, Or.inr (by rw [k2]; exact hPN), Or.inr ⟨by rw [k2]; exact PN_0 hPN, h3.2⟩, ?_, y.2.2.2.2.2⟩
      obtain ⟨n, hn, en⟩ := y.2.2.2.2.1
      rw [k7, en, nI_add]
      exact ⟨n + 1, by
        rw [en] at h2
        rcases Nat.lt_or_ge n 2 with x | x
        · omega
        · exact absurd (by rw [show n = 2 by omega]) h2, rfl⟩
    · unfold CI rpF hvF clF at y ⊢
      rw [n1 c e, n2 c e, n7 c e]
      exact y
  · show RowS (kK (zK (zAp z q))) (hdF (zK (zAp z q))) (zcn z) (zrw z) (zrl z)
    have hq0 : hdF (zK z) q = false := hd_not hv
    refine row_same hI.row (fun c _ => ?_) (fun c _ hh => ?_)
    · by_cases x : c = q
      · subst x
        rw [hq0]
        exact hd_not (z := zAp z c) hv
      · unfold hdF hpF hvF
        rw [n2 c x]; rfl
    · have x : c ≠ q := fun x => by rw [x, hq0] at hh; cases hh
      unfold kK
      rw [n1 c x]; rfl
theorem eq_appeal (hI : RI z) (hG : RG z g) (hq : q < zcn z) (hv : hvF (zK z) q = true) (hc : clF (zK z) q = false) (h2 : ¬ zK z 7 q = nI 2) (h1 : 1 ≤ cwF (zK z) (zcn z) (zjn z) (zK z 2 q)) : RI (zAp z q) ∧ RI (zSay (zAp z q) q) ∧ RG (zSay (zAp z q) q) (apG5 g l d (zjn z) (zcn z) q) ∧ syV (apG1 g (zjn z) (zcn z) q) l d (zjn z) q = zVd (zAp z q) q := by
  have hjn := hI.jn
  have hcn := hI.cn
  have hA := ap_RI hI hq hv h2 h1
  have hPN := ap_PN hI hq hv h1
  have k2 : zK (zAp z q) 2 q = zApP z q := pk_us (f := zK z 2)
  have k1 : zK (zAp z q) 1 q = (if nI 99 < zK z 1 q + nI 3 then nI 99 else zK z 1 q + nI 3) := pk_us (f := zK z 1)
  have k7 : zK (zAp z q) 7 q = zK z 7 q + nI 1 := pk_us (f := zK z 7)
  have n2 : ∀ c, c ≠ q → zK (zAp z q) 2 c = zK z 2 c := fun c h => pk_un (f := zK z 2) h
  have n1 : ∀ c, c ≠ q → zK (zAp z q) 1 c = zK z 1 c := fun c h => pk_un (f := zK z 1) h
  have n7 : ∀ c, c ≠ q → zK (zAp z q) 7 c = zK z 7 c := fun c h => pk_un (f := zK z 7) h
  have a2 : gof (apG1 g (zjn z) (zcn z) q) q 2 = zApP z q := by unfold gof apG1; rw [pk_us]; exact ap_P hI hG hq hv h1
  have ao : ∀ i, i ≠ 44 + 8 * q + 2 → apG1 g (zjn z) (zcn z) q i = g i := fun i h => by unfold apG1; rw [pk_un h]
  have hS : SG (zAp z q) (apG1 g (zjn z) (zcn z) q) q := ⟨fun j hj w hw => by
    have hj : j < zjn z := hj
    rw [gby, ao _ (by omega)]; exact hG.by hj hw, by rw [gof, ao _ (by omega)]; exact hG.of hq (by decide), by rw [a2]; exact k2.symm⟩
  have hd : ∀ j, j < zjn (zAp z q) → 0 ≤ (zJ (zAp z q) 1 j).toInt ∧ (zJ (zAp z q) 1 j).toInt ≤ 9 := fun j hj => (hA.j hj).2.1
  refine ⟨hA, say_RI hA hq (by rw [k2]; exact PN_0 hPN) hc, ?_, say_V hS⟩
  have h9 : zjn (zAp z q) ≤ 9 := hjn
  have s54 : sy5 (apG1 g (zjn z) (zcn z) q) l d (zjn z) q 4 = apG1 g (zjn z) (zcn z) q 4 + nI 1 := sy5_4 (z := zAp z q) h9
  have so : ∀ c w, w < 8 → ¬ (c = q ∧ (w = 3 ∨ w = 4)) → gof (sy5 (apG1 g (zjn z) (zcn z) q) l d (zjn z) q) c w = gof (apG1 g (zjn z) (zcn z) q) c w := fun c w hw hn => sy5_of (z := zAp z q) h9 hw hn
  have s5 : ∀ i, i ≠ 44 + 8 * q + 1 → i ≠ 44 + 8 * q + 7 → i ≠ 6 → apG5 g l d (zjn z) (zcn z) q i = sy5 (apG1 g (zjn z) (zcn z) q) l d (zjn z) q i := by
    intro i x1 x7 x6
    unfold apG5 apG4 apG3 apG2
    rw [pk_un x6, pk_un x7, pk_un x1]
  have low : ∀ i, i < 8 → i ≠ 4 → i ≠ 6 → apG5 g l d (zjn z) (zcn z) q i = g i := by
    intro i hi x4 x6
    rw [s5 i (by omega) (by omega) x6, sy5_lo hi x4, ao _ (by omega)]
  refine ⟨by rw [low 0 (by decide) (by decide) (by decide)]; exact hG.g0, by rw [low 1 (by decide) (by decide) (by decide)]; exact hG.g1, by rw [low 2 (by decide) (by decide) (by decide)]; exact hG.g2, by rw [low 3 (by decide) (by decide) (by decide)]; exact hG.g3, ?_, by rw [low 5 (by decide) (by decide) (by decide)]; exact hG.g5, ?_, fun j hj w hw => ?_, fun c hc2 w hw => ?_⟩
  · rw [s5 4 (by omega) (by omega) (by decide), s54, ao 4 (by omega), hG.g4]; rfl
  · have e : apG4 g l d (zjn z) (zcn z) q 6 = g 6 := by
      unfold apG4 apG3 apG2
      rw [pk_un (by omega), pk_un (by omega), sy5_lo (by decide) (by decide), ao 6 (by omega)]
    unfold apG5
    rw [pk_us, e, hG.g6]
    exact (isum_upd (f := zK z 7) (x := nI 1) hq).symm
  · have hj : j < zjn z := hj
    rw [gby, s5 _ (by omega) (by omega) (by omega)]
    exact sy5_by (z := zAp z q) h9 hd hS hj hw
  · have hc2 : c < zcn z := hc2
    by_cases e1 : c = q ∧ w = 1
    · obtain ⟨rfl, rfl⟩ := e1
      have e : gof (apG2 g l d (zjn z) (zcn z) c) c 1 = zK z 1 c := by
        unfold apG2
        rw [so c 1 (by decide) (by omega), gof, ao _ (by omega)]
        exact hG.of hc2 (by decide)
      unfold gof apG5 apG4 apG3
      rw [pk_un (by omega), pk_un (by omega), pk_us, e, (te3 (hI.c hc2).2.1).1]
      exact k1.symm
    · by_cases e7 : c = q ∧ w = 7
      · obtain ⟨rfl, rfl⟩ := e7
        have e : gof (apG3 g l d (zjn z) (zcn z) c) c 7 = zK z 7 c := by
          unfold gof apG3 apG2
          rw [pk_un (by omega)]
          have e8 := so c 7 (by decide) (by omega)
          rw [gof, gof, ao _ (by omega)] at e8
          exact e8.trans (hG.of hc2 (by decide))
        unfold gof apG5 apG4
        rw [pk_un (by omega), pk_us, e]
        exact k7.symm
      · rw [gof, s5 _ (by omega) (by omega) (by omega)]
        show gof (sy5 (apG1 g (zjn z) (zcn z) q) l d (zjn z) q) c w = _
        by_cases e3 : c = q ∧ w = 3
        · obtain ⟨rfl, rfl⟩ := e3
          exact (sy5_3 (z := zAp z c) h9 hS).trans (pk_us (f := zK z 3)).symm
        · by_cases e4 : c = q ∧ w = 4
          · obtain ⟨rfl, rfl⟩ := e4
            refine (sy5_s (z := zAp z c) h9).trans ?_
            rw [ao 3 (by omega), hG.g3]
            exact (pk_us (f := zK z 4)).symm
          · rw [so c w hw (fun x => by rcases x.2 with y | y; exact e3 ⟨x.1, y⟩; exact e4 ⟨x.1, y⟩)]
            by_cases e2 : c = q ∧ w = 2
            · obtain ⟨rfl, rfl⟩ := e2
              exact a2.trans k2.symm
            · rw [gof, ao _ (by omega)]
              refine (hG.of hc2 hw).trans ?_
              have hw8 : w = 0 ∨ w = 1 ∨ w = 2 ∨ w = 3 ∨ w = 4 ∨ w = 5 ∨ w = 6 ∨ w = 7 := by omega
              rcases hw8 with rfl | rfl | rfl | rfl | rfl | rfl | rfl | rfl
              · rfl
              · exact (n1 c (fun x => e1 ⟨x, rfl⟩)).symm
              · exact (n2 c (fun x => e2 ⟨x, rfl⟩)).symm
              · exact (pk_un (f := zK z 3) (fun x => e3 ⟨x, rfl⟩)).symm
              · exact (pk_un (f := zK z 4) (fun x => e4 ⟨x, rfl⟩)).symm
              · rfl
              · rfl
              · exact (n7 c (fun x => e7 ⟨x, rfl⟩)).symm
end OPE
