/-! what both keep of the past; a text carried out on both sides -/
theorem sh_is {k0 : Nat → Int32} : ∀ n k, shS k0 n k = if k < n then k0 (k + 124) else k0 k
  | 0, k => by rw [if_neg (Nat.not_lt_zero _)]; rfl
  | n + 1, k => by
    have ih := sh_is (k0 := k0) n
    rw [shS]
    by_cases e : k = n
    · subst e
      rw [pk_us, ih, if_neg (by omega), if_pos (by omega)]
    · rw [pk_un e, ih]
      by_cases y : k < n
      · rw [if_pos y, if_pos (by omega)]
      · rw [if_neg y, if_neg (by omega)]
def HI (rz : Nat → CS) (hd ct : Nat) (kept : Nat → Int32) : Prop := hd ≤ 8 ∧ ct ≤ 8 ∧ ∀ i, i < ct → RI (rz ((hd + 8 - i) % 9)) ∧ RG (rz ((hd + 8 - i) % 9)) (fun k => kept (124 * (ct - 1 - i) + k))
theorem hUp_is {hd : Nat} (h : hd ≤ 8) : hUp hd = (hd + 1) % 9 := by
  unfold hUp
  split
  · rename_i e; rw [e]
  · omega
theorem hDn_is {hd : Nat} (h : hd ≤ 8) : hDn hd = (hd + 8) % 9 := by
  unfold hDn
  split
  · rename_i e; rw [e]
  · omega
theorem hCt_is {ct : Nat} (h : ct ≤ 8) : kpC false ct = hCt ct := by
  unfold kpC hCt
  rw [if_neg (by decide)]
  by_cases e : ct = 8
  · rw [if_pos e, if_pos (by omega)]
  · rw [if_neg e, if_neg (by omega)]
theorem HI_cong {rz rz2 : Nat → CS} {hd ct : Nat} {kept : Nat → Int32} (h : HI rz hd ct kept) (e : ∀ j, j ≠ hd → rz2 j = rz j) : HI rz2 hd ct kept := by
  have h8 := h.1
  have c8 := h.2.1
  refine ⟨h8, c8, fun i hi => ?_⟩
  rw [e _ (by omega)]
  exact h.2.2 i hi
theorem HI_keep {rz : Nat → CS} {hd ct : Nat} {kept row : Nat → Int32} {c : CS} (h : HI rz hd ct kept) (hI : RI c) (hG : RG c row) : HI (va_up rz hd c) (hUp hd) (hCt ct) (kpK false row kept ct) := by
  have h8 := h.1
  have c8 := h.2.1
  have eu := hUp_is h8
  have ec : hCt ct = if ct = 8 then 8 else ct + 1 := by rw [← hCt_is c8, kpC, if_neg (by decide)]
  refine ⟨by rw [eu]; omega, by rw [ec]; split <;> omega, fun i hi => ?_⟩
  have sl : ∀ j, j < 124 → kpK false row kept ct (124 * (hCt ct - 1) + j) = row j := by
    intro j hj
    rw [kpK, if_neg (by decide), ec]
    by_cases e : ct = 8
    · rw [if_pos e, if_pos e, fb_put_in (by omega) (by omega)]
      show row (0 + (124 * (8 - 1) + j - 124 * 7)) = row j
      rw [show 0 + (124 * (8 - 1) + j - 124 * 7) = j by omega]
    · rw [if_neg e, if_neg e, fb_put_in (by omega) (by omega)]
      show row (0 + (124 * (ct + 1 - 1) + j - 124 * ct)) = row j
      rw [show 0 + (124 * (ct + 1 - 1) + j - 124 * ct) = j by omega]
  by_cases e0 : i = 0
  · subst e0
    have ei : (hUp hd + 8 - 0) % 9 = hd := by rw [eu]; omega
    rw [ei, va_up_self]
    exact ⟨hI, hG.cong hI (fun k hk => by
      show kpK false row kept ct (124 * (hCt ct - 1 - 0) + k) = row k
      rw [Nat.sub_zero]; exact sl k hk)⟩
  · have i8 : i < 8 := by rw [ec] at hi; split at hi <;> omega
    have ei : (hUp hd + 8 - i) % 9 = (hd + 8 - (i - 1)) % 9 := by rw [eu]; omega
    have ne : (hd + 8 - (i - 1)) % 9 ≠ hd := by rw [ec] at hi; split at hi <;> omega
    rw [ei, va_up_ne _ _ ne]
    have H := h.2.2 (i - 1) (by rw [ec] at hi; split at hi <;> omega)
    refine ⟨H.1, H.2.cong H.1 (fun k hk => ?_)⟩
    show kpK false row kept ct (124 * (hCt ct - 1 - i) + k) = kept (124 * (ct - 1 - (i - 1)) + k)
    rw [kpK, if_neg (by decide), ec]
    rw [ec] at hi
    by_cases e : ct = 8
    · rw [if_pos e] at hi
      rw [if_pos e, if_pos e, fb_put_out (by omega), sh_is, if_pos (by omega)]
      congr 1
      omega
    · rw [if_neg e] at hi
      rw [if_neg e, if_neg e, fb_put_out (by omega)]
      congr 1
      omega
theorem HI_undo {rz : Nat → CS} {hd ct : Nat} {kept : Nat → Int32} (h : HI rz hd ct kept) (h0 : 0 < ct) : RI (rz (hDn hd)) ∧ RG (rz (hDn hd)) (fun k => kept (124 * (ct - 1) + k)) ∧ HI (va_up rz (hDn hd) (rz (hDn hd))) (hDn hd) (ct - 1) kept := by
  have h8 := h.1
  have c8 := h.2.1
  have ed := hDn_is h8
  have H := h.2.2 0 h0
  rw [show (hd + 8 - 0) % 9 = hDn hd by rw [ed, Nat.sub_zero], Nat.sub_zero] at H
  refine ⟨H.1, H.2, by rw [ed]; omega, by omega, fun i hi => ?_⟩
  have e : va_up rz (hDn hd) (rz (hDn hd)) = rz := by
    funext j
    by_cases q : j = hDn hd
    · rw [q, va_up_self]
    · rw [va_up_ne _ _ q]
  rw [e, show (hDn hd + 8 - i) % 9 = (hd + 8 - (i + 1)) % 9 by rw [ed]; omega, show ct - 1 - 1 - i = ct - 1 - (i + 1) by omega]
  exact h.2.2 (i + 1) (by omega)
theorem fX_4 {x : Nat → Int32} {n : Nat} : failX x n 4 = nI n := by unfold failX; rw [pk_us]
theorem fX_3 {x : Nat → Int32} {n : Nat} : failX x n 3 = nI 0 := by unfold failX; rw [pk_un (by decide), pk_us]
theorem fX_o {x : Nat → Int32} {n j : Nat} (h3 : j ≠ 3) (h4 : j ≠ 4) : failX x n j = x j := by unfold failX; rw [pk_un h4, pk_un h3]
theorem rX_4 {x : Nat → Int32} {n : Nat} {a b : Int32} : refX x n a b 4 = nI n := by unfold refX; rw [pk_un (by decide), pk_un (by decide), pk_us]
theorem rX_3 {x : Nat → Int32} {n : Nat} {a b : Int32} : refX x n a b 3 = nI 1 := by unfold refX; rw [pk_un (by decide), pk_un (by decide), pk_un (by decide), pk_us]
theorem rX_5 {x : Nat → Int32} {n : Nat} {a b : Int32} : refX x n a b 5 = a := by unfold refX; rw [pk_un (by decide), pk_us]
theorem rX_6 {x : Nat → Int32} {n : Nat} {a b : Int32} : refX x n a b 6 = b := by unfold refX; rw [pk_us]
theorem rX_o {x : Nat → Int32} {n j : Nat} {a b : Int32} (h3 : j ≠ 3) (h4 : j ≠ 4) (h5 : j ≠ 5) (h6 : j ≠ 6) : refX x n a b j = x j := by unfold refX; rw [pk_un h6, pk_un h5, pk_un h4, pk_un h3]
-- ---- all orders together
def nO (k : Nat) : Nat := if k ≤ 5 then 2 else 1
def zRes (c : CS) (k : Nat) (a : Int32) : Int32 := match k with
  | 0 => nI (zjn c)
  | 1 => nI (zcn c)
  | 2 => zPan c
  | 3 => nI (zVd c a.toNatClampNeg)
  | 4 => nI (zTo c a.toNatClampNeg).1
  | 5 => nI (zVd (zAp c a.toNatClampNeg) a.toNatClampNeg)
  | 6 => nI (zck c + 1)
  | _ => nI (zTk c)
section OPO
variable {c : CS} {x : Nat → Int32} {f : Nat → Nat → Int32} {w : Bool} {ch : Nat}
theorem o_all (hI : RI c) (hG : RG c (f 0)) {k p : Nat} (hk : k ≤ 7) : OUT (ioF (zcn c) k (f 8 (p + 1)) (f 8 (p + 2))) (rfOrd (zK c) (zjn c) (zcn c) (zrl c) (zck c) (ztn c) k (f 8 (p + 1))) (nO k) (zRes c k (f 8 (p + 1))) (zObey c k (f 8 (p + 1)) (f 8 (p + 2))) x f w ch (crM x f (zjn c) (zcn c) (zck c) (ztn c) w ch p k) := by
  have hk8 : k = 0 ∨ k = 1 ∨ k = 2 ∨ k = 3 ∨ k = 4 ∨ k = 5 ∨ k = 6 ∨ k = 7 := by omega
  rcases hk8 with rfl | rfl | rfl | rfl | rfl | rfl | rfl | rfl
  · exact o_juror hI hG _ _
  · exact o_bring hI hG _ _
  · exact o_call hI hG _
  · exact o_vote hI hG _
  · exact o_unsay hI hG _
  · exact o_appeal hI hG _
  · exact o_clerk hI hG
  · exact o_night hI hG
theorem rl_9 (hI : RI c) {q : Nat} (hq : q < zcn c) (h : hdF (zK c) q = false) : zrl c ≤ 9 := by
  have hcn := hI.cn
  have e := row_len hI.row
  have l : fb_ct (hdF (zK c)) (zcn c) < fb_ct (fun _ => true) (zcn c) := fb_ct_lt (i := q) h rfl hq (fun _ _ _ => rfl)
  have := fb_ct_le (fun _ => true) (zcn c)
  omega
theorem call_ok (hI : RI c) {q : Nat} (hq : q < zcn c) (h : rfCall (zK c) (zjn c) (zcn c) q = none) : zrl c ≤ 9 := by
  unfold rfCall at h
  by_cases y : hpF (zK c) q = true
  · rw [if_pos y] at h; cases h
  · exact rl_9 hI hq (by unfold hdF; rw [eq_false_of_ne_true y]; rfl)
theorem uns_ok (hI : RI c) {q : Nat} (hq : q < zcn c) (h : rfUns (zK c) q = none) : zrl c ≤ 9 := rl_9 hI hq (hd_not (uns_n h).1)
theorem app_n {q : Nat} (hI : RI c) (hq : q < zcn c) (h : rfApp (zK c) (zjn c) (zcn c) q = none) : hvF (zK c) q = true ∧ clF (zK c) q = false ∧ ¬ zK c 7 q = nI 2 ∧ 1 ≤ cwF (zK c) (zcn c) (zjn c) (zK c 2 q) := by
  unfold rfApp at h
  cases r : rfUns (zK c) q with
  | some e2 =>
    rw [r] at h
    have h : some e2 = none := h
    cases h
  | none =>
    rw [r] at h
    have u := uns_n r
    have h : (if zK c 7 q < nI 2 then (if cwF (zK c) (zcn c) (zjn c) (zK c 2 q) < 1 then some (nI 3, nI (cwF (zK c) (zcn c) (zjn c) (zK c 2 q))) else none) else some (nI 7, zK c 3 q)) = none := h
    by_cases y : zK c 7 q < nI 2
    · rw [if_pos y] at h
      by_cases t : cwF (zK c) (zcn c) (zjn c) (zK c 2 q) < 1
      · rw [if_pos t] at h; cases h
      · exact ⟨u.1, u.2, (k7_lt hI hq).mp y, by omega⟩
    · rw [if_neg y] at h; cases h
theorem app_ok (hI : RI c) {q : Nat} (hq : q < zcn c) (h : rfApp (zK c) (zjn c) (zcn c) q = none) : ¬ zOut c q = none ∧ ¬ zIn c q = none := by
  have a := app_n hI hq h
  obtain ⟨p, b, e1, e2, _⟩ := ap_some hI hq a.1 a.2.2.2
  exact ⟨by rw [e1]; exact fun x => (by cases x), by rw [e2]; exact fun x => (by cases x)⟩
theorem may_ok (hI : RI c) {k : Nat} {a b : Int32} (hk : k ≤ 7) (hio : ioF (zcn c) k a b = true) (hrf : rfOrd (zK c) (zjn c) (zcn c) (zrl c) (zck c) (ztn c) k a = none) : zMay c k a := by
  have hcn := hI.cn
  have hk8 : k = 0 ∨ k = 1 ∨ k = 2 ∨ k = 3 ∨ k = 4 ∨ k = 5 ∨ k = 6 ∨ k = 7 := by omega
  rcases hk8 with rfl | rfl | rfl | rfl | rfl | rfl | rfl | rfl
  · exact lt9_of hrf
  · exact lt10_of hrf
  · have hio : isIx a (zcn c) = true := hio
    obtain ⟨q, hq, e⟩ := isIx_n hio (by omega)
    subst e
    have hrf : rfCall (zK c) (zjn c) (zcn c) (nI q).toNatClampNeg = none := hrf
    rw [nI_clamp (by omega)] at hrf
    exact ⟨hio, call_ok hI hq hrf⟩
  · exact hio
  · have hio : isIx a (zcn c) = true := hio
    obtain ⟨q, hq, e⟩ := isIx_n hio (by omega)
    subst e
    have hrf : rfUns (zK c) (nI q).toNatClampNeg = none := hrf
    rw [nI_clamp (by omega)] at hrf
    exact ⟨hio, uns_ok hI hq hrf⟩
  · have hio : isIx a (zcn c) = true := hio
    obtain ⟨q, hq, e⟩ := isIx_n hio (by omega)
    subst e
    have hrf : rfApp (zK c) (zjn c) (zcn c) (nI q).toNatClampNeg = none := hrf
    have g := app_ok hI hq (by rw [nI_clamp (by omega)] at hrf; exact hrf)
    refine ⟨hio, ?_⟩
    rw [nI_clamp (by omega)]
    exact g
  · exact trivial
  · exact lt99_of hrf
/-- the courts that both sides may come to -/
def PW (z : CS) : Prop := RI z ∧ ∃ g, RG z g
theorem pan_ok (hI : RI c) {q : Nat} (hq : q < zcn c) (hp : hpF (zK c) q = true) : fnd (hs (zK c 2 q)) (zjn c) ≠ none := by
  obtain ⟨j, e⟩ := (low_is hI hq hp).2
  rw [e]; exact fun x => (by cases x)
theorem PW_ok : cyOk PW := by
  refine ⟨fun z h => h.1.ok, fun z q h hq hp => pan_ok h.1 hq hp, fun z k a b h hk hio hrf => ⟨may_ok h.1 hk hio hrf, ?_⟩⟩
  obtain ⟨hI, g, hG⟩ := h
  have O := o_all (x := fun _ => 0) (f := va_up (fun _ => g) 8 (upd (upd g 1 a) 2 b)) (w := true) (ch := 0) (k := k) (p := 0) hI (by rw [va_up_ne _ _ (by decide)]; exact hG) hk
  have e1 : va_up (fun _ => g) 8 (upd (upd g 1 a) 2 b) 8 (0 + 1) = a := by rw [va_up_self, pk_un (by decide), pk_us]
  have e2 : va_up (fun _ => g) 8 (upd (upd g 1 a) 2 b) 8 (0 + 2) = b := by rw [va_up_self, pk_us]
  rw [e1, e2] at O
  have K := O.2.2 hio hrf
  exact ⟨K.2.1, _, K.2.2.1⟩
theorem ord_c {k : Nat} {a a2 b b2 : Int32} (hk : k ≤ 7) (ha : k ≤ 5 → a = a2) (hb : k ≤ 1 → b = b2) : ioF (zcn c) k a b = ioF (zcn c) k a2 b2 ∧ rfOrd (zK c) (zjn c) (zcn c) (zrl c) (zck c) (ztn c) k a = rfOrd (zK c) (zjn c) (zcn c) (zrl c) (zck c) (ztn c) k a2 ∧ zObey c k a b = zObey c k a2 b2 := by
  by_cases h1 : k ≤ 1
  · rw [ha (by omega), hb h1]; exact ⟨rfl, rfl, rfl⟩
  · by_cases h5 : k ≤ 5
    · rw [ha h5]
      have hk4 : k = 2 ∨ k = 3 ∨ k = 4 ∨ k = 5 := by omega
      refine ⟨?_, rfl, ?_⟩
      · rcases hk4 with rfl | rfl | rfl | rfl <;> simp only [ioF]
      · rcases hk4 with rfl | rfl | rfl | rfl <;> simp only [zObey]
    · have hk2 : k = 6 ∨ k = 7 := by omega
      refine ⟨?_, ?_, ?_⟩
      · rcases hk2 with rfl | rfl <;> simp only [ioF]
      · rcases hk2 with rfl | rfl <;> simp only [rfOrd]
      · rcases hk2 with rfl | rfl <;> simp only [zObey]
end OPO
section RUN
variable {tc : Nat → Nat} {tl : Nat} {kd fi se nu : Int32} {c : CS} {rs dt : Int32} {s0 : MX} {ct tm : Nat}
/-- both on their way through a text -/
def CR (rs dt : Int32) (s0 : MX) (Y : CY) (M : Int32 × MX) : Prop := (Y.1 = 0 → M.2.1 4 = nI 0 ∧ RI Y.2.1 ∧ RG Y.2.1 (M.2.2 0) ∧ Y.2.2 = (rs, dt)) ∧ (Y.1 = 1 → M.2.1 4 = nI 1 ∧ M.2.1 3 = nI 0 ∧ Y.2.2 = (rs, dt)) ∧ (Y.1 = 2 → (M.2.1 4 = nI 1 ∨ M.2.1 4 = nI 2) ∧ M.2.1 3 = nI 1) ∧ Y.1 ≤ 2 ∧ M.2.1 5 = Y.2.2.1 ∧ M.2.1 6 = Y.2.2.2 ∧ (∀ j, j ≠ 3 → j ≠ 4 → j ≠ 5 → j ≠ 6 → M.2.1 j = s0.1 j) ∧ ∀ j, j ≠ 0 → j ≠ 6 → j ≠ 7 → M.2.2 j = s0.2 j
/-- the text's orders, as both have them -/
def ORDS (tc : Nat → Nat) (tl : Nat) (kd fi se nu : Int32) (td : Nat → Int32) (tm : Nat) : Prop := ∀ k, k < tm → ∃ w : Nat, w ≤ 7 ∧ (feS tc tl kd fi se nu (k + 1)).2.1 = nI w ∧ td (3 * k) = nI w ∧ (w ≤ 5 → (feS tc tl kd fi se nu (k + 1)).2.2.1 = td (3 * k + 1)) ∧ (w ≤ 1 → (feS tc tl kd fi se nu (k + 1)).2.2.2.1 = td (3 * k + 2))
theorem cr_code {Y : CY} {M : Int32 × MX} (h : CR rs dt s0 Y M) : M.2.1 4 = 0 ↔ Y.1 = 0 := by
  have h4 := h.2.2.2.1
  constructor
  · intro e
    rcases (show Y.1 = 0 ∨ Y.1 = 1 ∨ Y.1 = 2 by omega) with y | y | y
    · exact y
    · rw [(h.2.1 y).1] at e; exact absurd e (by decide +kernel)
    · rcases (h.2.2.1 y).1 with z | z <;> (rw [z] at e; exact absurd e (by decide +kernel))
  · intro y; rw [(h.1 y).1]; exact nI_0
theorem cr_mk {Y : CY} {M : Int32 × MX} (h : CR rs dt s0 Y M) (hct : s0.1 1 = nI ct) (hc8 : ct ≤ 8) (hw : s0.1 2 = b2i true) (h0 : Y.1 = 0) : mj M.2 = zjn Y.2.1 ∧ mc9 M.2 = zcn Y.2.1 ∧ mk9 M.2 = zck Y.2.1 ∧ mt9 M.2 = ztn Y.2.1 ∧ mh9 M.2 = ct ∧ mOk M.2 := by
  obtain ⟨_, hI, hG, _⟩ := h.1 h0
  have hjn := hI.jn
  have hcn := hI.cn
  have hck := hI.ck
  have htn := hI.tn
  have e0 : mj M.2 = zjn Y.2.1 := by show (M.2.2 0 0).toNatClampNeg = _; rw [hG.g0, nI_clamp (by omega)]
  have e1 : mc9 M.2 = zcn Y.2.1 := by show (M.2.2 0 1).toNatClampNeg = _; rw [hG.g1, nI_clamp (by omega)]
  have e2 : mk9 M.2 = zck Y.2.1 := by show (M.2.2 0 2).toNatClampNeg = _; rw [hG.g2, nI_clamp (by omega)]
  have e3 : mt9 M.2 = ztn Y.2.1 := by show (M.2.2 0 3).toNatClampNeg = _; rw [hG.g3, nI_clamp (by omega)]
  have x1 : M.2.1 1 = nI ct := by rw [h.2.2.2.2.2.2.1 1 (by decide) (by decide) (by decide) (by decide)]; exact hct
  have x2 : M.2.1 2 = b2i true := by rw [h.2.2.2.2.2.2.1 2 (by decide) (by decide) (by decide) (by decide)]; exact hw
  have e4 : mh9 M.2 = ct := by show (M.2.1 1).toNatClampNeg = _; rw [x1, nI_clamp (by omega)]
  refine ⟨e0, e1, e2, e3, e4, ?_⟩
  unfold mOk
  rw [e0, e1, e2, e3, e4]
  refine ⟨hG.g0, hjn, hG.g1, hcn, hG.g2, hck.2, hG.g3, htn, x2, x1, hc8, fun q hq hp => ?_⟩
  rw [hG.of hq (by decide)] at hp ⊢
  rcases (hI.c hq).2.2.1 with y | y
  · exact absurd y hp
  · cases e : fnd (hs (zK Y.2.1 2 q)) 9 with
    | some j => exact ⟨j, rfl⟩
    | none =>
      have := y.1
      rw [fb_ct_zero.mpr (fun k hk => fnd_all e k (by omega))] at this
      cases this
theorem cr_all (hI : RI c) (hG : RG c (s0.2 0)) (hct : s0.1 1 = nI ct) (hc8 : ct ≤ 8) (hw : s0.1 2 = b2i true) (h4 : s0.1 4 = nI 0) (h5 : s0.1 5 = rs) (h6 : s0.1 6 = dt) (hO : ORDS tc tl kd fi se nu (s0.2 8) tm) : ∀ k, k ≤ tm → CR rs dt s0 (cyS tc tl kd fi se nu c rs dt k) (crY s0 k)
  | 0, _ => by
    rw [cyS_0, crY_0]
    exact ⟨fun _ => ⟨h4, hI, hG, rfl⟩, fun x => (by cases x), fun x => (by cases x), Nat.zero_le _, h5, h6, fun _ _ _ _ _ => rfl, fun _ _ _ _ => rfl⟩
  | k + 1, hk => by
    have ih := cr_all hI hG hct hc8 hw h4 h5 h6 hO k (by omega)
    by_cases e : (cyS tc tl kd fi se nu c rs dt k).1 = 0
    · obtain ⟨a4, aI, aG, ar⟩ := ih.1 e
      obtain ⟨m0, m1, m2, m3, m4, _⟩ := cr_mk ih hct hc8 hw e
      obtain ⟨w, w7, t1, t2, t3, t4⟩ := hO k (by omega)
      have f8 : (crY s0 k).2.2 8 = s0.2 8 := ih.2.2.2.2.2.2.2 8 (by decide) (by decide) (by decide)
      have f1 : (crY s0 k).2.2 1 = s0.2 1 := ih.2.2.2.2.2.2.2 1 (by decide) (by decide) (by decide)
      have eY := crY_1 (s0 := s0) (k := k) (w := w) ((cr_code ih).mpr e) (by rw [f8]; exact t2) w7
      have O := o_all (x := (crY s0 k).2.1) (f := (crY s0 k).2.2) (w := true) (ch := ct) (p := 3 * k) aI aG w7
      have eM : crC (3 * k) w (crY s0 k).2 = crM (crY s0 k).2.1 (crY s0 k).2.2 (zjn (cyS tc tl kd fi se nu c rs dt k).2.1) (zcn (cyS tc tl kd fi se nu c rs dt k).2.1) (zck (cyS tc tl kd fi se nu c rs dt k).2.1) (ztn (cyS tc tl kd fi se nu c rs dt k).2.1) true ct (3 * k) w := by unfold crC; rw [m0, m1, m2, m3, m4]
      rw [← eM, ← eY] at O
      have C := ord_c (c := (cyS tc tl kd fi se nu c rs dt k).2.1) (k := w) (a := (feS tc tl kd fi se nu (k + 1)).2.2.1) (a2 := (crY s0 k).2.2 8 (3 * k + 1)) (b := (feS tc tl kd fi se nu (k + 1)).2.2.2.1) (b2 := (crY s0 k).2.2 8 (3 * k + 2)) w7 (fun y => by rw [f8]; exact t3 y) (fun y => by rw [f8]; exact t4 y)
      rw [← C.1, ← C.2.1, ← C.2.2] at O
      have wn : (feS tc tl kd fi se nu (k + 1)).2.1.toNatClampNeg = w := by rw [t1]; exact nI_clamp (by omega)
      have x1 : (crY s0 k).2.1 1 = nI ct := by rw [ih.2.2.2.2.2.2.1 1 (by decide) (by decide) (by decide) (by decide)]; exact hct
      rw [cyS_1 e]
      cases hio : ioF (zcn (cyS tc tl kd fi se nu c rs dt k).2.1) w (feS tc tl kd fi se nu (k + 1)).2.2.1 (feS tc tl kd fi se nu (k + 1)).2.2.2.1 with
      | false =>
        have eC := cy1_w (x := feS tc tl kd fi se nu (k + 1)) (y := cyS tc tl kd fi se nu c rs dt k) (by rw [wn]; exact hio)
        have eO := O.1 hio
        have eO1 : (crY s0 (k + 1)).2.1 = failX (crY s0 k).2.1 1 := by rw [eO]
        have eO2 : (crY s0 (k + 1)).2.2 = (crY s0 k).2.2 := by rw [eO]
        rw [eC]
        refine ⟨fun x => (by cases x), fun _ => ⟨by rw [eO1]; exact fX_4, by rw [eO1]; exact fX_3, ar⟩, fun x => (by cases x), (show 1 ≤ 2 by decide), ?_, ?_, fun j j3 j4 j5 j6 => ?_, fun j j0 j6 j7 => ?_⟩
        · rw [eO1]; exact (fX_o (by decide) (by decide)).trans ih.2.2.2.2.1
        · rw [eO1]; exact (fX_o (by decide) (by decide)).trans ih.2.2.2.2.2.1
        · rw [eO1]; exact (fX_o j3 j4).trans (ih.2.2.2.2.2.2.1 j j3 j4 j5 j6)
        · rw [eO2]; exact ih.2.2.2.2.2.2.2 j j0 j6 j7
      | true =>
        cases hrf : rfOrd (zK (cyS tc tl kd fi se nu c rs dt k).2.1) (zjn (cyS tc tl kd fi se nu c rs dt k).2.1) (zcn (cyS tc tl kd fi se nu c rs dt k).2.1) (zrl (cyS tc tl kd fi se nu c rs dt k).2.1) (zck (cyS tc tl kd fi se nu c rs dt k).2.1) (ztn (cyS tc tl kd fi se nu c rs dt k).2.1) w (feS tc tl kd fi se nu (k + 1)).2.2.1 with
        | some r =>
          have eC := cy1_r (x := feS tc tl kd fi se nu (k + 1)) (y := cyS tc tl kd fi se nu c rs dt k) (e := r) (by rw [wn]; exact hio) (by rw [wn]; exact hrf)
          have eO := O.2.1 hio r hrf
          have eO1 : (crY s0 (k + 1)).2.1 = refX (crY s0 k).2.1 (nO w) r.1 r.2 := by rw [eO]
          have eO2 : (crY s0 (k + 1)).2.2 = (crY s0 k).2.2 := by rw [eO]
          rw [eC]
          refine ⟨fun x => (by cases x), fun x => (by cases x), fun _ => ⟨?_, by rw [eO1]; exact rX_3⟩, (show 2 ≤ 2 by decide), by rw [eO1]; exact rX_5, by rw [eO1]; exact rX_6, fun j j3 j4 j5 j6 => ?_, fun j j0 j6 j7 => ?_⟩
          · rw [eO1]
            have e4 : (refX (crY s0 k).2.1 (nO w) r.1 r.2) 4 = nI (nO w) := rX_4
            unfold nO at e4 ⊢
            by_cases u : w ≤ 5
            · rw [if_pos u] at e4 ⊢; exact Or.inr e4
            · rw [if_neg u] at e4 ⊢; exact Or.inl e4
          · rw [eO1]; exact (rX_o j3 j4 j5 j6).trans (ih.2.2.2.2.2.2.1 j j3 j4 j5 j6)
          · rw [eO2]; exact ih.2.2.2.2.2.2.2 j j0 j6 j7
        | none =>
          have eC := cy1_o (x := feS tc tl kd fi se nu (k + 1)) (y := cyS tc tl kd fi se nu c rs dt k) (by rw [wn]; exact hio) (by rw [wn]; exact hrf)
          obtain ⟨k1, k2, k3, k4, k5, k6, k7, k8⟩ := O.2.2 hio hrf
          rw [eC, wn]
          refine ⟨fun _ => ⟨k5, k2, k3, ar⟩, fun x => (by cases x), fun x => (by cases x), Nat.zero_le _, ?_, ?_, fun j j3 j4 j5 j6 => ?_, fun j j0 j6 j7 => ?_⟩
          · rw [k6 5 (by decide) (by decide) (by decide)]; exact ih.2.2.2.2.1
          · rw [k6 6 (by decide) (by decide) (by decide)]; exact ih.2.2.2.2.2.1
          · by_cases j1 : j = 1
            · subst j1
              rw [k4, ← ih.2.2.2.2.2.2.1 1 j3 j4 j5 j6, x1]; rfl
            · rw [k6 j j1 j3 j4]; exact ih.2.2.2.2.2.2.1 j j3 j4 j5 j6
          · by_cases j1 : j = 1
            · subst j1
              rw [k7, show kpK true ((crY s0 k).2.2 0) ((crY s0 k).2.2 1) ct = (crY s0 k).2.2 1 from rfl]
              exact f1
            · rw [k8 j j0 j1 j6 j7]; exact ih.2.2.2.2.2.2.2 j j0 j6 j7
    · have en : ¬ (crY s0 k).2.1 4 = 0 := fun x => e ((cr_code ih).mp x)
      rw [cyS_2 e, crY_2 en]
      exact ih
end RUN
