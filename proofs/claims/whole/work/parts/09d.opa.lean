/-! the hearing order; a juror, a case, a clerk more -/
section OPA
variable {z : CS} {g : Nat → Int32}
theorem RI.me (h : RI z) {c : Nat} (hc : c < zcn z) : 0 ≤ (zK z 0 c).toInt ∧ (zK z 0 c).toInt ≤ 100 := by
  obtain ⟨m, hm, e⟩ := (h.c hc).1
  rw [e, nIt (by omega)]; omega
theorem RI.te (h : RI z) {c : Nat} (hc : c < zcn z) : 0 ≤ (zK z 1 c).toInt ∧ (zK z 1 c).toInt ≤ 99 := by
  obtain ⟨m, hm, e⟩ := (h.c hc).2.1
  rw [e, nIt (by omega)]; omega
theorem RI.bm (h : RI z) {c : Nat} (hc : c < zcn z) : bd (zK z 0 c) := by have := h.me hc; constructor <;> omega
theorem RI.bt (h : RI z) {c : Nat} (hc : c < zcn z) : bd (zK z 1 c) := by have := h.te hc; constructor <;> omega
theorem kK_inj (hI : RI z) : kinj (kK (zK z)) (zcn z) := fun a b ha hb e => by
  have hcn := hI.cn
  have ma := hI.me ha
  have mb := hI.me hb
  have e : (zK z 1 a).toInt * 2048 + (zK z 0 a).toInt * 16 + a = (zK z 1 b).toInt * 2048 + (zK z 0 b).toInt * 16 + b := e
  omega
theorem RG.hd (hG : RG z g) {c : Nat} (hc : c < zcn z) : rlM g c = hdF (zK z) c := by
  unfold rlM hdF hpF hvF
  rw [hG.of hc (by decide), hG.of hc (by decide), Bool.not_not]
theorem kK_lt {kf : Nat → Nat → Int32} {a b : Nat} : lk (kK kf) a b = decide ((kf 1 a).toInt * 2048 + (kf 0 a).toInt * 16 + a < (kf 1 b).toInt * 2048 + (kf 0 b).toInt * 16 + b) := rfl
theorem cbF_is {kf : Nat → Nat → Int32} {a b : Nat} (ha : 0 ≤ (kf 0 a).toInt ∧ (kf 0 a).toInt ≤ 100) (hb : 0 ≤ (kf 0 b).toInt ∧ (kf 0 b).toInt ≤ 100) (ha2 : a < 10) (hb2 : b < 10) : cbF kf a b = lk (kK kf) a b := by
  rw [kK_lt]
  unfold cbF
  by_cases h1 : kf 1 a = kf 1 b
  · rw [if_pos h1]
    by_cases h2 : kf 0 a = kf 0 b
    · rw [if_pos h2, h1, h2]
      exact decide_eq_decide.mpr (by omega)
    · rw [if_neg h2, h1]
      have h3 : (kf 0 a).toInt ≠ (kf 0 b).toInt := fun q => h2 (i_eq.mpr q)
      exact decide_eq_decide.mpr (by rw [Int32.lt_iff_toInt_lt]; omega)
  · rw [if_neg h1]
    have h3 : (kf 1 a).toInt ≠ (kf 1 b).toInt := fun q => h1 (i_eq.mpr q)
    exact decide_eq_decide.mpr (by rw [Int32.lt_iff_toInt_lt]; omega)
theorem RI.cb (hI : RI z) {a b : Nat} (ha : a < zcn z) (hb : b < zcn z) : cbF (zK z) a b = lk (kK (zK z)) a b := by
  have hcn := hI.cn
  exact cbF_is (hI.me ha) (hI.me hb) (by omega) (by omega)
theorem RG.ah (hI : RI z) (hG : RG z g) {a b : Nat} (ha : a < zcn z) (hb : b < zcn z) : ahM g a b = lk (kK (zK z)) a b := by
  have hcn := hI.cn
  have ma := hI.me ha
  have mb := hI.me hb
  have ta := hI.bt ha
  have tb := hI.bt hb
  have na := hI.bm ha
  have nb := hI.bm hb
  rw [kK_lt]
  unfold ahM
  rw [hG.of ha (by decide), hG.of hb (by decide), hG.of ha (by decide), hG.of hb (by decide)]
  by_cases h1 : (zK z 1 a).toInt = (zK z 1 b).toInt
  · rw [if_pos ((sb_e ta tb).mpr h1)]
    by_cases h2 : (zK z 0 a).toInt < (zK z 0 b).toInt
    · rw [if_pos ((sb_l na nb).mpr h2), decide_eq_true (by omega)]
    · rw [if_neg (fun q => h2 ((sb_l na nb).mp q))]
      by_cases h3 : (zK z 0 a).toInt = (zK z 0 b).toInt
      · rw [if_pos ((sb_e na nb).mpr h3)]
        exact decide_eq_decide.mpr (by omega)
      · rw [if_neg (fun q => h3 ((sb_e na nb).mp q)), decide_eq_false (by omega)]
  · rw [if_neg (fun q => h1 ((sb_e ta tb).mp q))]
    exact decide_eq_decide.mpr (by rw [sb_ge ta tb]; omega)
theorem RG.po (hI : RI z) (hG : RG z g) {k : Nat} (hk : k < zcn z) : poM g (zcn z) k = rk (kK (zK z)) (hdF (zK z)) (zcn z) k := fb_ct_cong (fun o ho => by
  show (rlM g o && ahM g o k) = _
  rw [hG.hd ho, hG.ah hI ho hk])
theorem isIx_mo {v : Int32} {a b : Nat} (h : isIx v a = true) (hab : a ≤ b) (hb : b < 2 ^ 31) : isIx v b = true := by
  obtain ⟨j, hj, e⟩ := isIx_n h (by omega)
  rw [e]; exact isIx_t (by omega) hb
theorem RG.ra0 (hI : RI z) (hG : RG z g) (v : Int32) : raM g (zcn z) v = if isIx v (zcn z) = true then nthO (kK (zK z)) (hdF (zK z)) (zcn z) v.toNatClampNeg else none := by
  have hcn := hI.cn
  rw [← fnd_place (p := hdF (zK z)) (by omega)]
  exact fnd_ext (fun k hk => by rw [hG.hd hk, hG.po hI hk])
theorem RI.nth (hI : RI z) (v : Int32) : (if isIx v (zcn z) = true then nthO (kK (zK z)) (hdF (zK z)) (zcn z) v.toNatClampNeg else none) = if isIx v (zrl z) = true then some (zrw z v.toNatClampNeg) else none := by
  have hcn := hI.cn
  have hrl := row_le hI.row
  cases h : isIx v (zcn z) with
  | true =>
    rw [if_pos rfl, row_nth hI.row (kK_inj hI)]
    obtain ⟨j, hj, e⟩ := isIx_n h (by omega)
    rw [e, nI_clamp (by omega)]
    by_cases q : j < zrl z
    · rw [if_pos q, if_pos (isIx_t q (by omega))]
    · rw [if_neg q, if_neg (fun y => ?_)]
      obtain ⟨i, hi, e2⟩ := isIx_n y (by omega)
      have := (nI_eq (by omega) (by omega)).mp e2
      omega
  | false =>
    rw [if_neg (by decide), if_neg (fun y => by rw [isIx_mo y hrl (by omega)] at h; cases h)]
theorem RG.ra (hI : RI z) (hG : RG z g) (v : Int32) : raM g (zcn z) v = if isIx v (zrl z) = true then some (zrw z v.toNatClampNeg) else none := by rw [hG.ra0 hI, hI.nth]
theorem fh_nth (hI : RI z) (v : Int32) : nthV (fhF (zK z) (zcn z)) (zcn z) v = if isIx v (zrl z) = true then some (zrw z v.toNatClampNeg) else none := by
  have hcn := hI.cn
  rw [← hI.nth, nthV]
  rw [(nth_is (kK_inj hI) (p := hdF (zK z)) (first := fhF (zK z) (zcn z)) (by omega) (fun out => bst_cong (fun _ _ => rfl) (fun a b hb ha _ _ => hI.cb ha (by omega))) _).2]
theorem RG.hc (hI : RI z) (hG : RG z g) : fb_ct (rlM g) (zcn z) = zrl z := by
  rw [← row_len hI.row]
  exact fb_ct_cong (fun c hc => hG.hd hc)
-- ---- a clerk more
theorem eq_clerk (hI : RI z) (hG : RG z g) (h : zck z < 4) : RI (mkz (zJ z) (zjn z) (zK z) (zrw z) (zcn z) (zrl z) (zck z + 1) (ztn z) (zsd z)) ∧ RG (mkz (zJ z) (zjn z) (zK z) (zrw z) (zcn z) (zrl z) (zck z + 1) (ztn z) (zsd z)) (upd g 2 (nI (zck z + 1))) := by
  have hjn := hI.jn
  have hcn := hI.cn
  refine ⟨⟨hI.jn, hI.cn, ⟨by show 1 ≤ zck z + 1; omega, by show zck z + 1 ≤ 4; omega⟩, hI.tn, fun j hj => hI.j hj, fun c hc => hI.c hc, hI.row⟩, ?_⟩
  refine ⟨hG.g0, hG.g1, rfl, hG.g3, hG.g4, hG.g5, hG.g6, fun j hj w hw => ?_, fun c hc w hw => ?_⟩
  · rw [gby, pk_un (by omega)]; exact hG.by hj hw
  · rw [gof, pk_un (by omega)]; exact hG.of hc hw
-- ---- a juror more
theorem PN_up {jn : Nat} {p : Int32} (h : PN jn p) (hj : jn < 9) : PN (jn + 1) p := ⟨by rw [fb_ct_succ, h.1, h.2 jn (Nat.le_refl _) hj]; rfl, fun k hk h9 => h.2 k (by omega) h9⟩
theorem CI.out {c : Nat} (h : CI z c) (hj : zjn z < 9) : hs (zK z 2 c) (zjn z) = false := by
  rcases h.2.2.1 with e | e
  · rw [e, hs_0]
  · exact e.2 _ (Nat.le_refl _) hj
theorem jrr_n {a b : Int32} (h : jrr a b = true) : (-9 ≤ a.toInt ∧ a.toInt ≤ 9) ∧ 0 ≤ b.toInt ∧ b.toInt ≤ 9 := by
  simp only [jrr, Bool.and_eq_true, decide_eq_true_eq, Int32.lt_iff_toInt_lt, Int32.le_iff_toInt_le, i_0] at h
  have h9 : (-9 : Int32).toInt = -9 := by decide +kernel
  have h8 := nIt (n := 9) (by decide)
  omega
theorem eq_juror (hI : RI z) (hG : RG z g) {a b : Int32} (h : jrr a b = true) (hj : zjn z < 9) : RI (zAddJ z a b) ∧ RG (zAddJ z a b) (jrG g (zjn z) a b) := by
  have hcn := hI.cn
  have hab := jrr_n h
  have l0 : ∀ j, j < zjn z → upd (zJ z 0) (zjn z) a j = zJ z 0 j := fun j q => pk_un (by omega)
  have l1 : ∀ j, j < zjn z → upd (zJ z 1) (zjn z) b j = zJ z 1 j := fun j q => pk_un (by omega)
  refine ⟨⟨by show zjn z + 1 ≤ 9; omega, hI.cn, hI.ck, hI.tn, fun j hj2 => ?_, fun c hc => ?_, hI.row⟩, ?_⟩
  · have hj2 : j < zjn z + 1 := hj2
    show (-9 ≤ (upd (zJ z 0) (zjn z) a j).toInt ∧ (upd (zJ z 0) (zjn z) a j).toInt ≤ 9) ∧ (0 ≤ (upd (zJ z 1) (zjn z) b j).toInt ∧ (upd (zJ z 1) (zjn z) b j).toInt ≤ 9) ∧ ldF (zK z) (zcn z) j ≤ 3
    rcases Nat.lt_or_ge j (zjn z) with q | q
    · rw [l0 j q, l1 j q]; exact hI.j q
    · obtain rfl : j = zjn z := by omega
      rw [pk_us, pk_us]
      refine ⟨hab.1, hab.2, ?_⟩
      rw [show ldF (zK z) (zcn z) (zjn z) = 0 from fb_ct_zero.mpr (fun c hc => by rw [(hI.c hc).out hj, Bool.and_false])]
      exact Nat.zero_le _
  · have q := hI.c hc
    refine ⟨q.1, q.2.1, ?_, q.2.2.2⟩
    rcases q.2.2.1 with y | y
    · exact Or.inl y
    · exact Or.inr (PN_up y hj)
  · unfold jrG
    refine ⟨by rw [pk_us]; rfl, by rw [pk_un (by omega), pk_un (by omega), pk_un (by omega), pk_un (by omega), pk_un (by omega)]; exact hG.g1, by rw [pk_un (by omega), pk_un (by omega), pk_un (by omega), pk_un (by omega), pk_un (by omega)]; exact hG.g2, by rw [pk_un (by omega), pk_un (by omega), pk_un (by omega), pk_un (by omega), pk_un (by omega)]; exact hG.g3, by rw [pk_un (by omega), pk_un (by omega), pk_un (by omega), pk_un (by omega), pk_un (by omega)]; exact hG.g4, by rw [pk_un (by omega), pk_un (by omega), pk_un (by omega), pk_un (by omega), pk_un (by omega)]; exact hG.g5, by rw [pk_un (by omega), pk_un (by omega), pk_un (by omega), pk_un (by omega), pk_un (by omega)]; exact hG.g6, fun j hj2 w hw => ?_, fun c hc w hw => ?_⟩
    · have hj2 : j < zjn z + 1 := hj2
      rw [gby]
      rcases Nat.lt_or_ge j (zjn z) with q | q
      · rw [pk_un (by omega), pk_un (by omega), pk_un (by omega), pk_un (by omega), pk_un (by omega)]
        have e := hG.by q hw
        rw [gby] at e
        rw [e]
        have hw4 : w = 0 ∨ w = 1 ∨ w = 2 ∨ w = 3 := by omega
        rcases hw4 with rfl | rfl | rfl | rfl
        · exact (l0 j q).symm
        · exact (l1 j q).symm
        · exact (pk_un (f := zJ z 2) (x := nI 0) (show j ≠ zjn z by omega)).symm
        · exact (pk_un (f := zJ z 3) (x := nI 0) (show j ≠ zjn z by omega)).symm
      · obtain rfl : j = zjn z := by omega
        have hw4 : w = 0 ∨ w = 1 ∨ w = 2 ∨ w = 3 := by omega
        rcases hw4 with rfl | rfl | rfl | rfl
        · rw [pk_un (by omega), pk_un (by omega), pk_un (by omega), pk_un (by omega), pk_us]; exact (pk_us (f := zJ z 0)).symm
        · rw [pk_un (by omega), pk_un (by omega), pk_un (by omega), pk_us]; exact (pk_us (f := zJ z 1)).symm
        · rw [pk_un (by omega), pk_un (by omega), pk_us]; exact (pk_us (f := zJ z 2)).symm
        · rw [pk_un (by omega), pk_us]; exact (pk_us (f := zJ z 3)).symm
    · rw [gof, pk_un (by omega), pk_un (by omega), pk_un (by omega), pk_un (by omega), pk_un (by omega)]; exact hG.of hc hw
-- ---- a case more
theorem brS_is {q : Nat} {g0 : Nat → Int32} : ∀ k i, brS q g0 k i = if 44 + 8 * q ≤ i ∧ i < 44 + 8 * q + k then nI 0 else g0 i
  | 0, i => by rw [brS, if_neg (by omega)]
  | k + 1, i => by
    have ih := brS_is (q := q) (g0 := g0) k
    rw [brS]
    by_cases e : i = 44 + 8 * q + k
    · rw [e, pk_us, if_pos (by omega)]
    · rw [pk_un e, ih]
      by_cases y : 44 + 8 * q ≤ i ∧ i < 44 + 8 * q + k
      · rw [if_pos y, if_pos (by omega)]
      · rw [if_neg y, if_neg (by omega)]
theorem csr_n {a b : Int32} (h : csr a b = true) : (∃ m : Nat, m ≤ 100 ∧ a = nI m) ∧ ∃ t : Nat, t ≤ 99 ∧ b = nI t := by
  simp only [csr, Bool.and_eq_true, decide_eq_true_eq, Int32.le_iff_toInt_le, i_0] at h
  have h8 := nIt (n := 100) (by decide)
  have h9 := nIt (n := 99) (by decide)
  have e1 := i_eq (x := a) (y := nI a.toInt.toNat)
  have e2 := i_eq (x := b) (y := nI b.toInt.toNat)
  refine ⟨⟨a.toInt.toNat, by omega, e1.mpr (by rw [nIt (by omega)]; omega)⟩, ⟨b.toInt.toNat, by omega, e2.mpr (by rw [nIt (by omega)]; omega)⟩⟩
theorem isum_cong {f h : Nat → Int32} : ∀ {n : Nat}, (∀ k, k < n → f k = h k) → isum f n = isum h n
  | 0, _ => rfl
  | n + 1, e => by rw [isum, isum, isum_cong (fun k hk => e k (by omega)), e n (by omega)]
theorem add_n0 (x : Int32) : x + nI 0 = x := by rw [nI_0]; exact Int32.add_zero x
theorem eq_bring (hI : RI z) (hG : RG z g) {a b : Int32} (h : csr a b = true) (hc : zcn z < 10) : RI (zAddK z a b) ∧ RG (zAddK z a b) (brG g (zcn z) a b) := by
  have hjn := hI.jn
  have hab := csr_n h
  have lo : ∀ (w : Nat) (x : Int32) (c : Nat), c < zcn z → upd (zK z w) (zcn z) x c = zK z w c := fun w x c q => pk_un (by omega)
  have hcl : clF (zK (zAddK z a b)) (zcn z) = false := by show (!decide (upd (zK z 5) (zcn z) (-1) (zcn z) = -1)) = false; rw [pk_us]; rfl
  have hp0 : zK (zAddK z a b) 2 (zcn z) = 0 := by show upd (zK z 2) (zcn z) (nI 0) (zcn z) = 0; rw [pk_us]; exact nI_0
  have hv0 : zK (zAddK z a b) 3 (zcn z) = nI 0 := by show upd (zK z 3) (zcn z) (nI 0) (zcn z) = nI 0; rw [pk_us]
  have same : ∀ (w : Nat), w < 8 → ∀ c, c < zcn z → zK (zAddK z a b) w c = zK z w c := by
    intro w hw c q
    have hw8 : w = 0 ∨ w = 1 ∨ w = 2 ∨ w = 3 ∨ w = 4 ∨ w = 5 ∨ w = 6 ∨ w = 7 := by omega
    rcases hw8 with rfl | rfl | rfl | rfl | rfl | rfl | rfl | rfl <;> exact lo _ _ c q
  have hld : ∀ j, ldF (zK (zAddK z a b)) (zcn z + 1) j = ldF (zK z) (zcn z) j := by
    intro j
    rw [ldF, fb_ct_succ, hcl, hp0, hs_0]
    show fb_ct _ (zcn z) + 0 = _
    exact fb_ct_cong (fun c q => by
      show (!clF (zK (zAddK z a b)) c && hs (zK (zAddK z a b) 2 c) j) = (!clF (zK z) c && hs (zK z 2 c) j)
      unfold clF
      rw [same 5 (by decide) c q, same 2 (by decide) c q])
  have hhd : ∀ c, c < zcn z → hdF (zK (zAddK z a b)) c = hdF (zK z) c := by
    intro c q
    unfold hdF hpF hvF
    rw [same 2 (by decide) c q, same 3 (by decide) c q]
  refine ⟨⟨hI.jn, by show zcn z + 1 ≤ 10; omega, hI.ck, hI.tn, fun j hj => ?_, fun c hc2 => ?_, ?_⟩, ?_⟩
  · have q := hI.j hj
    exact ⟨q.1, q.2.1, by show ldF (zK (zAddK z a b)) (zcn z + 1) j ≤ 3; rw [hld]; exact q.2.2⟩
  · have hc2 : c < zcn z + 1 := hc2
    rcases Nat.lt_or_ge c (zcn z) with q | q
    · have y := hI.c q
      unfold CI rpF hvF clF at y ⊢
      rw [same 0 (by decide) c q, same 1 (by decide) c q, same 2 (by decide) c q, same 3 (by decide) c q, same 4 (by decide) c q, same 5 (by decide) c q, same 7 (by decide) c q]
      exact y
    · obtain rfl : c = zcn z := by omega
      refine ⟨?_, ?_, Or.inl hp0, Or.inl ⟨hv0, pk_us, pk_us⟩, ⟨0, by decide, pk_us⟩, ?_⟩
      · obtain ⟨m, hm, e⟩ := hab.1
        exact ⟨m, hm, by show upd (zK z 0) (zcn z) a (zcn z) = nI m; rw [pk_us]; exact e⟩
      · obtain ⟨m, hm, e⟩ := hab.2
        exact ⟨m, hm, by show upd (zK z 1) (zcn z) b (zcn z) = nI m; rw [pk_us]; exact e⟩
      · unfold rpF hvF
        rw [hv0, nI_0]; rfl
  · show RowS (kK (zK (zAddK z a b))) (hdF (zK (zAddK z a b))) (zcn z + 1) (zrw z) (zrl z)
    refine row_big (row_same hI.row hhd (fun c q _ => ?_)) (Nat.le_succ _) (fun c h1 h2 => ?_)
    · unfold kK
      rw [same 0 (by decide) c q, same 1 (by decide) c q]
    · obtain rfl : c = zcn z := by omega
      unfold hdF hpF
      rw [hp0]; rfl
  · unfold brG
    have low : ∀ i, i < 44 + 8 * zcn z → i ≠ 1 → upd (upd (upd (upd (brS (zcn z) (upd g 1 (nI (zcn z + 1))) 8) (44 + 8 * zcn z + 0) a) (44 + 8 * zcn z + 1) b) (44 + 8 * zcn z + 4) (-1)) (44 + 8 * zcn z + 5) (-1) i = g i := by
      intro i hi h1
      rw [pk_un (by omega), pk_un (by omega), pk_un (by omega), pk_un (by omega), brS_is, if_neg (by omega), pk_un h1]
    refine ⟨by rw [low 0 (by omega) (by decide)]; exact hG.g0, by rw [pk_un (by omega), pk_un (by omega), pk_un (by omega), pk_un (by omega), brS_is, if_neg (by omega), pk_us]; rfl, by rw [low 2 (by omega) (by decide)]; exact hG.g2, by rw [low 3 (by omega) (by decide)]; exact hG.g3, by rw [low 4 (by omega) (by decide)]; exact hG.g4, ?_, ?_, fun j hj w hw => ?_, fun c hc2 w hw => ?_⟩
    · rw [low 5 (by omega) (by decide), hG.g5]
      show _ = isum (zK (zAddK z a b) 6) (zcn z + 1)
      rw [isum, isum_cong (same 6 (by decide)), show zK (zAddK z a b) 6 (zcn z) = nI 0 from pk_us, add_n0]
    · rw [low 6 (by omega) (by decide), hG.g6]
      show _ = isum (zK (zAddK z a b) 7) (zcn z + 1)
      rw [isum, isum_cong (same 7 (by decide)), show zK (zAddK z a b) 7 (zcn z) = nI 0 from pk_us, add_n0]
    · have hj : j < zjn z := hj
      rw [gby, low _ (by omega) (by omega)]
      exact hG.by hj hw
    · have hc2 : c < zcn z + 1 := hc2
      rcases Nat.lt_or_ge c (zcn z) with q | q
      · rw [gof, low _ (by omega) (by omega), same w hw c q]
        exact hG.of q hw
      · obtain rfl : c = zcn z := by omega
        rw [gof]
        have hw8 : w = 0 ∨ w = 1 ∨ w = 2 ∨ w = 3 ∨ w = 4 ∨ w = 5 ∨ w = 6 ∨ w = 7 := by omega
        rcases hw8 with rfl | rfl | rfl | rfl | rfl | rfl | rfl | rfl
        · rw [pk_un (by omega), pk_un (by omega), pk_un (by omega), pk_us]; exact (pk_us (f := zK z 0)).symm
        · rw [pk_un (by omega), pk_un (by omega), pk_us]; exact (pk_us (f := zK z 1)).symm
        · rw [pk_un (by omega), pk_un (by omega), pk_un (by omega), pk_un (by omega), brS_is, if_pos (by omega)]; exact (pk_us (f := zK z 2)).symm
        · rw [pk_un (by omega), pk_un (by omega), pk_un (by omega), pk_un (by omega), brS_is, if_pos (by omega)]; exact (pk_us (f := zK z 3)).symm
        · rw [pk_un (by omega), pk_us]; exact (pk_us (f := zK z 4)).symm
        · rw [pk_us]; exact (pk_us (f := zK z 5)).symm
        · rw [pk_un (by omega), pk_un (by omega), pk_un (by omega), pk_un (by omega), brS_is, if_pos (by omega)]; exact (pk_us (f := zK z 6)).symm
        · rw [pk_un (by omega), pk_un (by omega), pk_un (by omega), pk_un (by omega), brS_is, if_pos (by omega)]; exact (pk_us (f := zK z 7)).symm
end OPA
