/-! a panel is called -/
theorem nthO_ex {key : Nat → Int} {p : Nat → Bool} {n r : Nat} (hj : kinj key n) (h : r < fb_ct p n) : ∃ m, nthO key p n r = some m := by
  cases e : nthO key p n r with
  | some m => exact ⟨m, rfl⟩
  | none =>
    have hu := nthO_up hj e
    have h1 := rk_few (p := p) hj r
    have e2 : fb_ct (fun o => p o && decide (rk key p n o < r)) n = fb_ct p n := fb_ct_cong (fun k hk => by
      show (p k && decide (rk key p n k < r)) = p k
      cases pk : p k with
      | false => rfl
      | true => rw [decide_eq_true (hu k hk pk)]; rfl)
    omega
theorem rk_full {key : Nat → Int} {p : Nat → Bool} {n : Nat} (hj : kinj key n) : ∀ r, r ≤ fb_ct p n → fb_ct (fun o => p o && decide (rk key p n o < r)) n = r
  | 0, _ => fb_ct_zero.mpr (fun k _ => by rw [decide_eq_false (Nat.not_lt_zero _), Bool.and_false])
  | r + 1, h => by
    have ih := rk_full (p := p) hj r (by omega)
    obtain ⟨m, e⟩ := nthO_ex (p := p) (r := r) hj (by omega)
    have hm := nthO_some e
    rw [fb_ct_ins (p := fun o => p o && decide (rk key p n o < r)) (i := m) hm.1 (by rw [hm.2.2, decide_eq_false (Nat.lt_irrefl _), Bool.and_false]) (fun k hk => ?_), ih]
    show (p k && decide (rk key p n k < r + 1)) = ((p k && decide (rk key p n k < r)) || decide (k = m))
    by_cases y : k = m
    · subst y
      rw [hm.2.1, hm.2.2, decide_eq_true (Nat.lt_succ_self r), decide_eq_true rfl, Bool.or_true]; rfl
    · rw [decide_eq_false y, Bool.or_false]
      cases pk : p k with
      | false => rfl
      | true =>
        rw [Bool.true_and, Bool.true_and]
        refine decide_eq_decide.mpr ⟨fun x => ?_, fun x => by omega⟩
        rcases Nat.lt_or_ge (rk key p n k) r with u | u
        · exact u
        · exact absurd (rk_inj hj hk hm.1 pk hm.2.1 (by rw [hm.2.2]; omega)) y
theorem n0_or (x : Int32) : nI 0 ||| x = x := by
  apply b_ext; intro i hi; rw [b_or, show nI 0 = 0 from nI_0, b_0, Bool.false_or]
theorem nthS_s {first : Int32 → Option Nat} {k b : Nat} (h : (nthS first k).2 = some b) : (nthS first (k + 1)).1 = (nthS first k).1 ||| (nI 1 <<< (nI b &&& 31)) := by rw [nthS, h]
section OPB
variable {z : CS} {g : Nat → Int32}
theorem cP_is (z : CS) (j : Nat) : cdF (zK z) (zcn z) (nI 0) j = cP z j := by rw [cdF, hs_n0]; rfl
theorem cw_is (z : CS) : cwF (zK z) (zcn z) (zjn z) (nI 0) = fb_ct (cP z) (zjn z) := fb_ct_cong (fun k _ => cP_is z k)
theorem zPan_hs (hI : RI z) {i : Nat} (hi : i < 32) : hs (zPan z) i = (decide (i < zjn z) && (cP z i && decide (rk (kJ (zK z) (zcn z) (zJ z 1)) (cP z) (zjn z) i < 3))) := by
  rw [zPan, cpS_is]; exact (nth_call hI 3).1 i hi
theorem zPan_PN (hI : RI z) (h3 : 3 ≤ cwF (zK z) (zcn z) (zjn z) (nI 0)) : PN (zjn z) (zPan z) := by
  have hjn := hI.jn
  rw [cw_is] at h3
  refine ⟨?_, fun k h1 h9 => by rw [zPan_hs hI (by omega), decide_eq_false (show ¬ k < zjn z by omega)]; rfl⟩
  rw [← rk_full (kJ_inj hI) 3 h3]
  exact fb_ct_cong (fun k hk => by rw [zPan_hs hI (by omega), decide_eq_true hk]; rfl)
theorem clP_is (hI : RI z) (hG : RG z g) (h3 : 3 ≤ cwF (zK z) (zcn z) (zjn z) (nI 0)) : clP g (zjn z) (zcn z) = zPan z := by
  have hjn := hI.jn
  rw [cw_is] at h3
  have h9 := fb_ct_le (cP z) (zjn z)
  obtain ⟨b0, e0⟩ := nthO_ex (r := 0) (kJ_inj hI) (show 0 < fb_ct (cP z) (zjn z) by omega)
  obtain ⟨b1, e1⟩ := nthO_ex (r := 1) (kJ_inj hI) (show 1 < fb_ct (cP z) (zjn z) by omega)
  obtain ⟨b2, e2⟩ := nthO_ex (r := 2) (kJ_inj hI) (show 2 < fb_ct (cP z) (zjn z) by omega)
  have c : ∀ r : Nat, r < 3 → cldM g (zjn z) (zcn z) (nI 0) (nI r) = nthO (kJ (zK z) (zcn z) (zJ z 1)) (cP z) (zjn z) r := fun r hr => by
    rw [cld_is hI hG, if_pos (isIx_t (by omega) (by omega)), nI_clamp (by omega)]
  rw [clP, c 0 (by decide), c 1 (by decide), c 2 (by decide), e0, e1, e2, zPan, cpS_is]
  have s0 := (nth_call hI 0).2
  have s1 := (nth_call hI 1).2
  have s2 := (nth_call hI 2).2
  rw [e0] at s0
  rw [e1] at s1
  rw [e2] at s2
  rw [nthS_s s2, nthS_s s1, nthS_s s0]
  show _ = ((nI 0 ||| _) ||| _) ||| _
  rw [n0_or]
  rfl
theorem PN_0 {jn : Nat} {p : Int32} (h : PN jn p) : ¬ p = 0 := fun e => by
  have h1 := h.1
  rw [e, fb_ct_zero.mpr (fun k _ => hs_0 k)] at h1
  cases h1
theorem CI.none {c : Nat} (h : CI z c) (hp : zK z 2 c = 0) : zK z 3 c = nI 0 ∧ zK z 4 c = -1 ∧ zK z 5 c = -1 := by
  rcases h.2.2.2.1 with q | q
  · exact q
  · exact absurd hp q.1
theorem eq_call {q : Nat} (hI : RI z) (hG : RG z g) (hq : q < zcn z) (hp : zK z 2 q = 0) (h3 : 3 ≤ cwF (zK z) (zcn z) (zjn z) (nI 0)) : RI (zCall z q) ∧ RG (zCall z q) (upd g (44 + 8 * q + 2) (clP g (zjn z) (zcn z))) := by
  have hjn := hI.jn
  have hcn := hI.cn
  have hPN := zPan_PN hI h3
  have hv := (hI.c hq).none hp
  have same : ∀ w, w < 8 → w ≠ 2 → ∀ c, zK (zCall z q) w c = zK z w c := by
    intro w hw h2 c
    have hw8 : w = 0 ∨ w = 1 ∨ w = 3 ∨ w = 4 ∨ w = 5 ∨ w = 6 ∨ w = 7 := by omega
    rcases hw8 with rfl | rfl | rfl | rfl | rfl | rfl | rfl <;> rfl
  have p2 : ∀ c, c ≠ q → zK (zCall z q) 2 c = zK z 2 c := fun c h => pk_un (f := zK z 2) h
  have pq : zK (zCall z q) 2 q = zPan z := pk_us (f := zK z 2)
  have hcl : ∀ c, clF (zK (zCall z q)) c = clF (zK z) c := fun c => rfl
  have hclq : clF (zK z) q = false := by unfold clF; rw [hv.2.2]; rfl
  have hld : ∀ j, j < zjn z → ldF (zK (zCall z q)) (zcn z) j = ldF (zK z) (zcn z) j + (if hs (zPan z) j = true then 1 else 0) := by
    intro j hj
    by_cases e : hs (zPan z) j = true
    · rw [if_pos e]
      refine fb_ct_ins (i := q) hq (by rw [hp, hs_0, Bool.and_false]) (fun c hc => ?_)
      show (!clF (zK (zCall z q)) c && hs (zK (zCall z q) 2 c) j) = ((!clF (zK z) c && hs (zK z 2 c) j) || decide (c = q))
      rw [hcl]
      by_cases y : c = q
      · subst y; rw [pq, e, hclq, decide_eq_true rfl, Bool.or_true]; rfl
      · rw [p2 c y, decide_eq_false y, Bool.or_false]
    · rw [if_neg e]
      refine fb_ct_cong (fun c hc => ?_)
      show (!clF (zK (zCall z q)) c && hs (zK (zCall z q) 2 c) j) = (!clF (zK z) c && hs (zK z 2 c) j)
      rw [hcl]
      by_cases y : c = q
      · subst y; rw [pq, eq_false_of_ne_true e, hp, hs_0]
      · rw [p2 c y]
  have hhd : ∀ c, c < zcn z → hdF (zK (zCall z q)) c = (hdF (zK z) c || decide (c = q)) := by
    intro c hc
    unfold hdF hpF hvF
    rw [same 3 (by decide) (by decide) c]
    by_cases y : c = q
    · subst y
      rw [pq, hv.1, decide_eq_false (PN_0 hPN), decide_eq_true rfl, Bool.or_true, nI_0]; rfl
    · rw [p2 c y, decide_eq_false y, Bool.or_false]
  refine ⟨⟨hI.jn, hI.cn, hI.ck, hI.tn, fun j hj => ?_, fun c hc => ?_, ?_⟩, ?_⟩
  · have hj : j < zjn z := hj
    have y := hI.j hj
    refine ⟨y.1, y.2.1, ?_⟩
    show ldF (zK (zCall z q)) (zcn z) j ≤ 3
    rw [hld j hj]
    by_cases e : hs (zPan z) j = true
    · rw [if_pos e]
      rw [zPan_hs hI (by omega), decide_eq_true hj, Bool.true_and] at e
      have := of_decide_eq_true (Bool.and_eq_true_iff.mp e).1
      omega
    · rw [if_neg e]; exact y.2.2
  · have hc : c < zcn z := hc
    have y := hI.c hc
    by_cases e : c = q
    · subst e
      exact ⟨y.1, y.2.1, Or.inr (by rw [pq]; exact hPN), Or.inl hv, y.2.2.2.2.1, by unfold rpF hvF; rw [same 3 (by decide) (by decide), hv.1, nI_0]; rfl⟩
    · unfold CI rpF hvF clF at y ⊢
      rw [same 0 (by decide) (by decide) c, same 1 (by decide) (by decide) c, p2 c e, same 3 (by decide) (by decide) c, same 4 (by decide) (by decide) c, same 5 (by decide) (by decide) c, same 7 (by decide) (by decide) c]
      exact y
  · show RowS (kK (zK z)) (hdF (zK (zCall z q))) (zcn z) (enO (zK (zCall z q)) (zrw z) (zrl z) q) (zrl z + 1)
    refine row_enter hI.row (kK_inj hI) hq (by unfold hdF hpF; rw [hp]; rfl) hhd (fun k hk => ?_)
    exact hI.cb hq (hI.row.1 k hk).1
  · rw [clP_is hI hG h3]
    refine ⟨by rw [pk_un (by omega)]; exact hG.g0, by rw [pk_un (by omega)]; exact hG.g1, by rw [pk_un (by omega)]; exact hG.g2, by rw [pk_un (by omega)]; exact hG.g3, by rw [pk_un (by omega)]; exact hG.g4, by rw [pk_un (by omega)]; exact hG.g5, by rw [pk_un (by omega)]; exact hG.g6, fun j hj w hw => ?_, fun c hc w hw => ?_⟩
    · have hj : j < zjn z := hj
      rw [gby, pk_un (by omega)]; exact hG.by hj hw
    · have hc : c < zcn z := hc
      by_cases e : c = q ∧ w = 2
      · obtain ⟨rfl, rfl⟩ := e
        rw [gof, pk_us]; exact pq.symm
      · rw [gof, pk_un (by omega)]
        have h1 := hG.of hc hw
        rw [gof] at h1
        rw [h1]
        by_cases y : w = 2
        · subst y; exact (p2 c (fun x => e ⟨x, rfl⟩)).symm
        · exact (same w hw y c).symm
end OPB
