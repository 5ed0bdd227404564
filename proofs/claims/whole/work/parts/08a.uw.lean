/-! the class as a whole: its pieces, and what a call on one of them keeps -/
def uOb (U : Nat → Nat) (sv : Bool) (er : Int32) : va_W := [(U 0, .inr (9, [.ref (U 1), .ref (U 17), .ref (U 33), .ref (U 35), .ref (U 36), .ref (U 41), .ref (U 43), .int (b2i sv), .int er]))]
def uRe (U : Nat → Nat) (rs dt : Int32) : va_W := [(U 35, .inr (7, [.int rs, .int dt]))]
def uLi (cA : Nat → ClassId) (U : Nat → Nat) (lc : Nat → Int32) (ln : Nat) : va_W := [(U 43, .inr (6, [.ref (U 44), .int (nI ln)])), (U 44, .inl (cA 1, 32, .inl lc))]
def uRf (k : Nat) : Nat := if k = 0 then 35 else k
def uHf (j k : Nat) : Nat := if k < 2 then k + 33 else if k < 18 then 45 + 16 * (8 - j) + (k - 2) else k - 17
def uHg (j k : Nat) : Nat := if k < 2 then k + 33 else if k < 18 then k - 1 else 45 + 16 * (8 - j) + (k - 18)
def uLf (k : Nat) : Nat := if k < 2 then k + 43 else k + 5
def uMf (k : Nat) : Nat := if k < 5 then k + 36 else k - 3
def uSf (k : Nat) : Nat := if k < 16 then k + 17 else k - 15
theorem uRf_lt (i : Nat) (h : i < 17) : uRf i < 189 := by unfold uRf; split <;> omega
theorem uRf_in (i j : Nat) (hi : i < 17) (hj : j < 17) (h : uRf i = uRf j) : i = j := by unfold uRf at h; split at h <;> split at h <;> omega
theorem uHf_lt {a : Nat} (ha : a ≤ 8) (i : Nat) (h : i < 34) : uHf a i < 189 := by unfold uHf; (repeat' split); all_goals omega
theorem uHf_in {a : Nat} (ha : a ≤ 8) (i j : Nat) (hi : i < 34) (hj : j < 34) (h : uHf a i = uHf a j) : i = j := by unfold uHf at h; (repeat' split at h); all_goals omega
theorem uHg_lt {a : Nat} (ha : a ≤ 8) (i : Nat) (h : i < 34) : uHg a i < 189 := by unfold uHg; (repeat' split); all_goals omega
theorem uHg_in {a : Nat} (ha : a ≤ 8) (i j : Nat) (hi : i < 34) (hj : j < 34) (h : uHg a i = uHg a j) : i = j := by unfold uHg at h; (repeat' split at h); all_goals omega
theorem uLf_lt (i : Nat) (h : i < 12) : uLf i < 189 := by unfold uLf; split <;> omega
theorem uLf_in (i j : Nat) (hi : i < 12) (hj : j < 12) (h : uLf i = uLf j) : i = j := by unfold uLf at h; split at h <;> split at h <;> omega
theorem uMf_lt (i : Nat) (h : i < 10) : uMf i < 189 := by unfold uMf; split <;> omega
theorem uMf_in (i j : Nat) (hi : i < 10) (hj : j < 10) (h : uMf i = uMf j) : i = j := by unfold uMf at h; split at h <;> split at h <;> omega
theorem uSf_lt (i : Nat) (h : i < 32) : uSf i < 189 := by unfold uSf; split <;> omega
theorem uSf_in (i j : Nat) (hi : i < 32) (hj : j < 32) (h : uSf i = uSf j) : i = j := by unfold uSf at h; split at h <;> split at h <;> omega
section UW
variable {D : va_G} {cA : Nat → ClassId} {U : Nat → Nat} {rg : Nat → Option Nat} {c z : CS} {rz : Nat → CS} {hd ct : Nat} {rs dt : Int32} {mf : Nat → Nat → Int32} {mn : Nat} {tc : Nat → Nat} {tl to : Nat} {kd fi se : Int32} {ta : Nat} {nu : Int32} {lc : Nat → Int32} {ln : Nat} {sv : Bool} {er : Int32} {H H1 : Heap}
theorem uKeep {ws : va_W} {σ : Nat → Nat} (a n m : Nat) (hA : aInj 189 U) (hP : va_P D vwCl ws H) (he : ws.map (fun q => q.1) = (List.range n).map (fun k => U (k + a))) (ha : a + n ≤ 189) (h1 : ∀ i, i < m → σ i < 189) (hx : ∀ k i, k < n → i < m → σ i ≠ k + a) (hk : ∀ q : Nat, q < H.size → ¬ aS m (fun k => U (σ k)) q → H1[q]? = H[q]?) : va_P D vwCl ws H1 :=
  wKeep hP (fun k q e => by
    have w := wAd (n := n) (A := fun k => U (k + a)) he e
    rw [w.2]
    exact aS_mno hA h1 (by omega) (fun i hi => hx k i w.1 hi)) hk
theorem uR_map {y : CS} (j : Nat) : (cz cA (uR U j) y).map (fun q => q.1) = (List.range 16).map (fun k => U (k + (45 + 16 * (8 - j)))) := by
  have e : uR U j = fun k => U (k + (45 + 16 * (8 - j))) := funext fun k => by rw [uR, Nat.add_comm (45 + 16 * (8 - j)) k]
  rw [e]
  rfl
theorem rgW_at {R : Nat → Nat → Nat} : ∀ n, va_P D vwCl (rgW cA R rz n) H → ∀ j, j < n → va_P D vwCl (cz cA (R j) (rz j)) H
  | 0, _, j, h => absurd h (Nat.not_lt_zero j)
  | n + 1, hP, j, h => by
    rw [rgW] at hP
    rcases Nat.lt_or_ge j n with q | q
    · exact rgW_at n (vP_r hP) j q
    · rw [show j = n by omega]; exact vP_l hP
theorem uKeepR {σ : Nat → Nat} (m : Nat) (hA : aInj 189 U) (h1 : ∀ i, i < m → σ i < 45) (hk : ∀ q : Nat, q < H.size → ¬ aS m (fun k => U (σ k)) q → H1[q]? = H[q]?) : ∀ n, n ≤ 9 → va_P D vwCl (rgW cA (uR U) rz n) H → va_P D vwCl (rgW cA (uR U) rz n) H1
  | 0, _, _ => fun k q h => by rw [rgW] at h; cases h
  | n + 1, hn, hP => by
    rw [rgW] at hP ⊢
    exact (uKeep (45 + 16 * (8 - n)) 16 m hA (vP_l hP) (uR_map n) (by omega) (fun i hi => by have := h1 i hi; omega) (fun k i _ hi => by have := h1 i hi; omega) hk).app (uKeepR m hA h1 hk n (by omega) (vP_r hP))
theorem uSetR {σ : Nat → Nat} (m j9 : Nat) {y' : CS} (hA : aInj 189 U) (h9 : ∀ i, i < m → σ i < 189) (h1 : ∀ i, i < m → σ i < 45 ∨ (45 + 16 * (8 - j9) ≤ σ i ∧ σ i < 45 + 16 * (8 - j9) + 16)) (hj : j9 ≤ 8) (hN : va_P D vwCl (cz cA (uR U j9) y') H1) (hk : ∀ q : Nat, q < H.size → ¬ aS m (fun k => U (σ k)) q → H1[q]? = H[q]?) : ∀ n, n ≤ 9 → va_P D vwCl (rgW cA (uR U) rz n) H → va_P D vwCl (rgW cA (uR U) (va_up rz j9 y') n) H1
  | 0, _, _ => fun k q h => by rw [rgW] at h; cases h
  | n + 1, hn, hP => by
    rw [rgW] at hP ⊢
    refine va_P.app ?_ (uSetR m j9 hA h9 h1 hj hN hk n (by omega) (vP_r hP))
    by_cases e : n = j9
    · subst e; rw [va_up_self]; exact hN
    · rw [va_up_ne _ _ e]
      exact uKeep (45 + 16 * (8 - n)) 16 m hA (vP_l hP) (uR_map n) (by omega) h9 (fun k i _ hi => by have := h1 i hi; omega) hk
theorem uw_split (h : va_P D vwCl (uw cA U rg c z rz hd ct rs dt mf mn tc tl to kd fi se ta nu lc ln sv er) H) : va_P D vwCl (uOb U sv er) H ∧ va_P D vwCl (cz cA (fun k => U (k + 1)) c) H ∧ va_P D vwCl (cz cA (fun k => U (k + 17)) z) H ∧ va_P D vwCl (hobj cA (fun k => U (k + 33)) rg hd ct) H ∧ va_P D vwCl (uRe U rs dt) H ∧ va_P D vwCl (jw cA (fun k => U (k + 36)) mf mn) H ∧ va_P D vwCl (twd cA (fun k => U (k + 41)) tc (nI tl) (nI to) kd fi se (nI ta) nu) H ∧ va_P D vwCl (uLi cA U lc ln) H ∧ va_P D vwCl (rgW cA (uR U) rz 9) H := by
  have h0 : va_P D vwCl ((uOb U sv er ++ (cz cA (fun k => U (k + 1)) c ++ (cz cA (fun k => U (k + 17)) z ++ (hobj cA (fun k => U (k + 33)) rg hd ct ++ (uRe U rs dt ++ (jw cA (fun k => U (k + 36)) mf mn ++ (twd cA (fun k => U (k + 41)) tc (nI tl) (nI to) kd fi se (nI ta) nu ++ uLi cA U lc ln))))))) ++ rgW cA (uR U) rz 9) H := h
  have h1 := vP_l h0
  have h2 := vP_r h1
  have h3 := vP_r h2
  have h4 := vP_r h3
  have h5 := vP_r h4
  have h6 := vP_r h5
  have h7 := vP_r h6
  exact ⟨vP_l h1, vP_l h2, vP_l h3, vP_l h4, vP_l h5, vP_l h6, vP_l h7, vP_r h7, vP_r h0⟩
theorem uw_join (p0 : va_P D vwCl (uOb U sv er) H) (pc : va_P D vwCl (cz cA (fun k => U (k + 1)) c) H) (pz : va_P D vwCl (cz cA (fun k => U (k + 17)) z) H) (ph : va_P D vwCl (hobj cA (fun k => U (k + 33)) rg hd ct) H) (pr : va_P D vwCl (uRe U rs dt) H) (pm : va_P D vwCl (jw cA (fun k => U (k + 36)) mf mn) H) (pt : va_P D vwCl (twd cA (fun k => U (k + 41)) tc (nI tl) (nI to) kd fi se (nI ta) nu) H) (pl : va_P D vwCl (uLi cA U lc ln) H) (pg : va_P D vwCl (rgW cA (uR U) rz 9) H) : va_P D vwCl (uw cA U rg c z rz hd ct rs dt mf mn tc tl to kd fi se ta nu lc ln sv er) H :=
  (p0.app (pc.app (pz.app (ph.app (pr.app (pm.app (pt.app pl))))))).app pg
theorem uw_C {c' : CS} (hA : aInj 189 U) (hP : va_P D vwCl (uw cA U rg c z rz hd ct rs dt mf mn tc tl to kd fi se ta nu lc ln sv er) H) (hN : va_P D vwCl (cz cA (fun k => U (k + 1)) c') H1) (hk : ∀ q : Nat, q < H.size → ¬ aS 16 (fun k => U (k + 1)) q → H1[q]? = H[q]?) : va_P D vwCl (uw cA U rg c' z rz hd ct rs dt mf mn tc tl to kd fi se ta nu lc ln sv er) H1 := by
  obtain ⟨p0, pc, pz, ph, pr, pm, pt, pl, pg⟩ := uw_split hP
  have pc := hN
  have p0 := uKeep (σ := fun k => k + 1) 0 1 16 hA p0 rfl (by decide) (fun i h => by show i + 1 < 189; omega) (fun k i hk hi => by show i + 1 ≠ k + _; omega) hk
  have pz := uKeep (σ := fun k => k + 1) 17 16 16 hA pz rfl (by decide) (fun i h => by show i + 1 < 189; omega) (fun k i hk hi => by show i + 1 ≠ k + _; omega) hk
  have ph := uKeep (σ := fun k => k + 1) 33 2 16 hA ph rfl (by decide) (fun i h => by show i + 1 < 189; omega) (fun k i hk hi => by show i + 1 ≠ k + _; omega) hk
  have pr := uKeep (σ := fun k => k + 1) 35 1 16 hA pr rfl (by decide) (fun i h => by show i + 1 < 189; omega) (fun k i hk hi => by show i + 1 ≠ k + _; omega) hk
  have pm := uKeep (σ := fun k => k + 1) 36 5 16 hA pm rfl (by decide) (fun i h => by show i + 1 < 189; omega) (fun k i hk hi => by show i + 1 ≠ k + _; omega) hk
  have pt := uKeep (σ := fun k => k + 1) 41 2 16 hA pt rfl (by decide) (fun i h => by show i + 1 < 189; omega) (fun k i hk hi => by show i + 1 ≠ k + _; omega) hk
  have pl := uKeep (σ := fun k => k + 1) 43 2 16 hA pl rfl (by decide) (fun i h => by show i + 1 < 189; omega) (fun k i hk hi => by show i + 1 ≠ k + _; omega) hk
  have pg := uKeepR (σ := fun k => k + 1) 16 hA (fun i hi => by show i + 1 < 45; omega) hk 9 (by decide) pg
  exact uw_join p0 pc pz ph pr pm pt pl pg
theorem uw_R {rs' dt' : Int32} (hA : aInj 189 U) (hP : va_P D vwCl (uw cA U rg c z rz hd ct rs dt mf mn tc tl to kd fi se ta nu lc ln sv er) H) (hN : va_P D vwCl (rwd cA (fun k => U (uRf k)) rs' dt' (zJ c) (zjn c) (zK c) (zrw c) (zcn c) (zrl c) (zck c) (ztn c) (zsd c)) H1) (hk : ∀ q : Nat, q < H.size → ¬ aS 17 (fun k => U (uRf k)) q → H1[q]? = H[q]?) : va_P D vwCl (uw cA U rg c z rz hd ct rs' dt' mf mn tc tl to kd fi se ta nu lc ln sv er) H1 := by
  obtain ⟨p0, pc, pz, ph, pr, pm, pt, pl, pg⟩ := uw_split hP
  have hN : va_P D vwCl (uRe U rs' dt' ++ cz cA (fun k => U (k + 1)) c) H1 := hN
  have pr := vP_l hN
  have pc := vP_r hN
  have p0 := uKeep (σ := uRf) 0 1 17 hA p0 rfl (by decide) uRf_lt (fun k i hk hi => by unfold uRf; (repeat' split); all_goals omega) hk
  have pz := uKeep (σ := uRf) 17 16 17 hA pz rfl (by decide) uRf_lt (fun k i hk hi => by unfold uRf; (repeat' split); all_goals omega) hk
  have ph := uKeep (σ := uRf) 33 2 17 hA ph rfl (by decide) uRf_lt (fun k i hk hi => by unfold uRf; (repeat' split); all_goals omega) hk
  have pm := uKeep (σ := uRf) 36 5 17 hA pm rfl (by decide) uRf_lt (fun k i hk hi => by unfold uRf; (repeat' split); all_goals omega) hk
  have pt := uKeep (σ := uRf) 41 2 17 hA pt rfl (by decide) uRf_lt (fun k i hk hi => by unfold uRf; (repeat' split); all_goals omega) hk
  have pl := uKeep (σ := uRf) 43 2 17 hA pl rfl (by decide) uRf_lt (fun k i hk hi => by unfold uRf; (repeat' split); all_goals omega) hk
  have pg := uKeepR (σ := uRf) 17 hA (fun i hi => by unfold uRf; (repeat' split); all_goals omega) hk 9 (by decide) pg
  exact uw_join p0 pc pz ph pr pm pt pl pg
theorem uw_H {hd' ct' : Nat} {y' z' : CS} (hA : aInj 189 U) (h8 : hd ≤ 8) (hP : va_P D vwCl (uw cA U rg c z rz hd ct rs dt mf mn tc tl to kd fi se ta nu lc ln sv er) H) (hN : va_P D vwCl (hnw cA (fun k => U (uHf hd k)) rg hd' ct' y' z') H1) (hk : ∀ q : Nat, q < H.size → ¬ aS 34 (fun k => U (uHf hd k)) q → H1[q]? = H[q]?) : va_P D vwCl (uw cA U rg z' z (va_up rz hd y') hd' ct' rs dt mf mn tc tl to kd fi se ta nu lc ln sv er) H1 := by
  obtain ⟨p0, pc, pz, ph, pr, pm, pt, pl, pg⟩ := uw_split hP
  have hN : va_P D vwCl (hobj cA (fun k => U (k + 33)) rg hd' ct' ++ (cz cA (uR U hd) y' ++ cz cA (fun k => U (k + 1)) z')) H1 := hN
  have ph := vP_l hN
  have pc := vP_r (vP_r hN)
  have pg := uSetR (σ := uHf hd) 34 hd hA (uHf_lt h8) (fun i hi => by unfold uHf; (repeat' split); all_goals omega) h8 (vP_l (vP_r hN)) hk 9 (by decide) pg
  have p0 := uKeep (σ := uHf hd) 0 1 34 hA p0 rfl (by decide) (uHf_lt h8) (fun k i hk hi => by unfold uHf; (repeat' split); all_goals omega) hk
  have pz := uKeep (σ := uHf hd) 17 16 34 hA pz rfl (by decide) (uHf_lt h8) (fun k i hk hi => by unfold uHf; (repeat' split); all_goals omega) hk
  have pr := uKeep (σ := uHf hd) 35 1 34 hA pr rfl (by decide) (uHf_lt h8) (fun k i hk hi => by unfold uHf; (repeat' split); all_goals omega) hk
  have pm := uKeep (σ := uHf hd) 36 5 34 hA pm rfl (by decide) (uHf_lt h8) (fun k i hk hi => by unfold uHf; (repeat' split); all_goals omega) hk
  have pt := uKeep (σ := uHf hd) 41 2 34 hA pt rfl (by decide) (uHf_lt h8) (fun k i hk hi => by unfold uHf; (repeat' split); all_goals omega) hk
  have pl := uKeep (σ := uHf hd) 43 2 34 hA pl rfl (by decide) (uHf_lt h8) (fun k i hk hi => by unfold uHf; (repeat' split); all_goals omega) hk
  exact uw_join p0 pc pz ph pr pm pt pl pg
theorem uw_G {hd' ct' j9 : Nat} {y' z' : CS} (hA : aInj 189 U) (h8 : j9 ≤ 8) (hP : va_P D vwCl (uw cA U rg c z rz hd ct rs dt mf mn tc tl to kd fi se ta nu lc ln sv er) H) (hN : va_P D vwCl (hnw cA (fun k => U (uHg j9 k)) rg hd' ct' y' z') H1) (hk : ∀ q : Nat, q < H.size → ¬ aS 34 (fun k => U (uHg j9 k)) q → H1[q]? = H[q]?) : va_P D vwCl (uw cA U rg y' z (va_up rz j9 z') hd' ct' rs dt mf mn tc tl to kd fi se ta nu lc ln sv er) H1 := by
  obtain ⟨p0, pc, pz, ph, pr, pm, pt, pl, pg⟩ := uw_split hP
  have hN : va_P D vwCl (hobj cA (fun k => U (k + 33)) rg hd' ct' ++ (cz cA (fun k => U (k + 1)) y' ++ cz cA (uR U j9) z')) H1 := hN
  have ph := vP_l hN
  have pc := vP_l (vP_r hN)
  have pg := uSetR (σ := uHg j9) 34 j9 hA (uHg_lt h8) (fun i hi => by unfold uHg; (repeat' split); all_goals omega) h8 (vP_r (vP_r hN)) hk 9 (by decide) pg
  have p0 := uKeep (σ := uHg j9) 0 1 34 hA p0 rfl (by decide) (uHg_lt h8) (fun k i hk hi => by unfold uHg; (repeat' split); all_goals omega) hk
  have pz := uKeep (σ := uHg j9) 17 16 34 hA pz rfl (by decide) (uHg_lt h8) (fun k i hk hi => by unfold uHg; (repeat' split); all_goals omega) hk
  have pr := uKeep (σ := uHg j9) 35 1 34 hA pr rfl (by decide) (uHg_lt h8) (fun k i hk hi => by unfold uHg; (repeat' split); all_goals omega) hk
  have pm := uKeep (σ := uHg j9) 36 5 34 hA pm rfl (by decide) (uHg_lt h8) (fun k i hk hi => by unfold uHg; (repeat' split); all_goals omega) hk
  have pt := uKeep (σ := uHg j9) 41 2 34 hA pt rfl (by decide) (uHg_lt h8) (fun k i hk hi => by unfold uHg; (repeat' split); all_goals omega) hk
  have pl := uKeep (σ := uHg j9) 43 2 34 hA pl rfl (by decide) (uHg_lt h8) (fun k i hk hi => by unfold uHg; (repeat' split); all_goals omega) hk
  exact uw_join p0 pc pz ph pr pm pt pl pg
theorem uw_L {lc' : Nat → Int32} {ln' : Nat} (hA : aInj 189 U) (hP : va_P D vwCl (uw cA U rg c z rz hd ct rs dt mf mn tc tl to kd fi se ta nu lc ln sv er) H) (hN : va_P D vwCl (lwd cA (fun k => U (uLf k)) lc' (nI ln') (zK c) (zrw c) (zcn c) (zrl c)) H1) (hk : ∀ q : Nat, q < H.size → ¬ aS 12 (fun k => U (uLf k)) q → H1[q]? = H[q]?) : va_P D vwCl (uw cA U rg c z rz hd ct rs dt mf mn tc tl to kd fi se ta nu lc' ln' sv er) H1 := by
  obtain ⟨p0, pc, pz, ph, pr, pm, pt, pl, pg⟩ := uw_split hP
  have hN : va_P D vwCl (uLi cA U lc' ln' ++ kw cA (fun k => U (k + 7)) (zK c) (zrw c) (zcn c) (zrl c)) H1 := hN
  have pl := vP_l hN
  have pc0 : va_P D vwCl [(U 1, .inr (3, [.ref (U 2), .ref (U 7), .int (nI (zck c)), .int (nI (ztn c)), .int (zsd c)]))] H := pc.sub [0] rfl
  have pcj : va_P D vwCl (jw cA (fun k => U (k + 2)) (zJ c) (zjn c)) H := pc.sub [1, 2, 3, 4, 5] rfl
  have pc0 := uKeep (σ := uLf) 1 1 12 hA pc0 rfl (by decide) uLf_lt (fun k i hk hi => by unfold uLf; (repeat' split); all_goals omega) hk
  have pcj := uKeep (σ := uLf) 2 5 12 hA pcj rfl (by decide) uLf_lt (fun k i hk hi => by unfold uLf; (repeat' split); all_goals omega) hk
  have pc : va_P D vwCl (cz cA (fun k => U (k + 1)) c) H1 := (pc0.app pcj).app (vP_r hN)
  have p0 := uKeep (σ := uLf) 0 1 12 hA p0 rfl (by decide) uLf_lt (fun k i hk hi => by unfold uLf; (repeat' split); all_goals omega) hk
  have pz := uKeep (σ := uLf) 17 16 12 hA pz rfl (by decide) uLf_lt (fun k i hk hi => by unfold uLf; (repeat' split); all_goals omega) hk
  have ph := uKeep (σ := uLf) 33 2 12 hA ph rfl (by decide) uLf_lt (fun k i hk hi => by unfold uLf; (repeat' split); all_goals omega) hk
  have pr := uKeep (σ := uLf) 35 1 12 hA pr rfl (by decide) uLf_lt (fun k i hk hi => by unfold uLf; (repeat' split); all_goals omega) hk
  have pm := uKeep (σ := uLf) 36 5 12 hA pm rfl (by decide) uLf_lt (fun k i hk hi => by unfold uLf; (repeat' split); all_goals omega) hk
  have pt := uKeep (σ := uLf) 41 2 12 hA pt rfl (by decide) uLf_lt (fun k i hk hi => by unfold uLf; (repeat' split); all_goals omega) hk
  have pg := uKeepR (σ := uLf) 12 hA (fun i hi => by unfold uLf; (repeat' split); all_goals omega) hk 9 (by decide) pg
  exact uw_join p0 pc pz ph pr pm pt pl pg
theorem uw_M {mf' : Nat → Nat → Int32} {mn' : Nat} (hA : aInj 189 U) (hP : va_P D vwCl (uw cA U rg c z rz hd ct rs dt mf mn tc tl to kd fi se ta nu lc ln sv er) H) (hN : va_P D vwCl (jw cA (fun k => U (k + 36)) mf' mn') H1) (hk : ∀ q : Nat, q < H.size → ¬ aS 5 (fun k => U (k + 36)) q → H1[q]? = H[q]?) : va_P D vwCl (uw cA U rg c z rz hd ct rs dt mf' mn' tc tl to kd fi se ta nu lc ln sv er) H1 := by
  obtain ⟨p0, pc, pz, ph, pr, pm, pt, pl, pg⟩ := uw_split hP
  have pm := hN
  have p0 := uKeep (σ := fun k => k + 36) 0 1 5 hA p0 rfl (by decide) (fun i h => by show i + 36 < 189; omega) (fun k i hk hi => by show i + 36 ≠ k + _; omega) hk
  have pc := uKeep (σ := fun k => k + 36) 1 16 5 hA pc rfl (by decide) (fun i h => by show i + 36 < 189; omega) (fun k i hk hi => by show i + 36 ≠ k + _; omega) hk
  have pz := uKeep (σ := fun k => k + 36) 17 16 5 hA pz rfl (by decide) (fun i h => by show i + 36 < 189; omega) (fun k i hk hi => by show i + 36 ≠ k + _; omega) hk
  have ph := uKeep (σ := fun k => k + 36) 33 2 5 hA ph rfl (by decide) (fun i h => by show i + 36 < 189; omega) (fun k i hk hi => by show i + 36 ≠ k + _; omega) hk
  have pr := uKeep (σ := fun k => k + 36) 35 1 5 hA pr rfl (by decide) (fun i h => by show i + 36 < 189; omega) (fun k i hk hi => by show i + 36 ≠ k + _; omega) hk
  have pt := uKeep (σ := fun k => k + 36) 41 2 5 hA pt rfl (by decide) (fun i h => by show i + 36 < 189; omega) (fun k i hk hi => by show i + 36 ≠ k + _; omega) hk
  have pl := uKeep (σ := fun k => k + 36) 43 2 5 hA pl rfl (by decide) (fun i h => by show i + 36 < 189; omega) (fun k i hk hi => by show i + 36 ≠ k + _; omega) hk
  have pg := uKeepR (σ := fun k => k + 36) 5 hA (fun i hi => by show i + 36 < 45; omega) hk 9 (by decide) pg
  exact uw_join p0 pc pz ph pr pm pt pl pg
theorem uw_M2 {mf' : Nat → Nat → Int32} {mn' : Nat} (hA : aInj 189 U) (hP : va_P D vwCl (uw cA U rg c z rz hd ct rs dt mf mn tc tl to kd fi se ta nu lc ln sv er) H) (hN : va_P D vwCl (jjw cA (fun k => U (uMf k)) mf' mn' (zJ c) (zjn c)) H1) (hk : ∀ q : Nat, q < H.size → ¬ aS 10 (fun k => U (uMf k)) q → H1[q]? = H[q]?) : va_P D vwCl (uw cA U rg c z rz hd ct rs dt mf' mn' tc tl to kd fi se ta nu lc ln sv er) H1 := by
  obtain ⟨p0, pc, pz, ph, pr, pm, pt, pl, pg⟩ := uw_split hP
  have hN : va_P D vwCl (jw cA (fun k => U (k + 36)) mf' mn' ++ jw cA (fun k => U (k + 2)) (zJ c) (zjn c)) H1 := hN
  have pm := vP_l hN
  have pc0 : va_P D vwCl [(U 1, .inr (3, [.ref (U 2), .ref (U 7), .int (nI (zck c)), .int (nI (ztn c)), .int (zsd c)]))] H := pc.sub [0] rfl
  have pck : va_P D vwCl (kw cA (fun k => U (k + 7)) (zK c) (zrw c) (zcn c) (zrl c)) H := pc.sub [6, 7, 8, 9, 10, 11, 12, 13, 14, 15] rfl
  have pc0 := uKeep (σ := uMf) 1 1 10 hA pc0 rfl (by decide) uMf_lt (fun k i hk hi => by unfold uMf; (repeat' split); all_goals omega) hk
  have pck := uKeep (σ := uMf) 7 10 10 hA pck rfl (by decide) uMf_lt (fun k i hk hi => by unfold uMf; (repeat' split); all_goals omega) hk
  have pc : va_P D vwCl (cz cA (fun k => U (k + 1)) c) H1 := (pc0.app (vP_r hN)).app pck
  have p0 := uKeep (σ := uMf) 0 1 10 hA p0 rfl (by decide) uMf_lt (fun k i hk hi => by unfold uMf; (repeat' split); all_goals omega) hk
  have pz := uKeep (σ := uMf) 17 16 10 hA pz rfl (by decide) uMf_lt (fun k i hk hi => by unfold uMf; (repeat' split); all_goals omega) hk
  have ph := uKeep (σ := uMf) 33 2 10 hA ph rfl (by decide) uMf_lt (fun k i hk hi => by unfold uMf; (repeat' split); all_goals omega) hk
  have pr := uKeep (σ := uMf) 35 1 10 hA pr rfl (by decide) uMf_lt (fun k i hk hi => by unfold uMf; (repeat' split); all_goals omega) hk
  have pt := uKeep (σ := uMf) 41 2 10 hA pt rfl (by decide) uMf_lt (fun k i hk hi => by unfold uMf; (repeat' split); all_goals omega) hk
  have pl := uKeep (σ := uMf) 43 2 10 hA pl rfl (by decide) uMf_lt (fun k i hk hi => by unfold uMf; (repeat' split); all_goals omega) hk
  have pg := uKeepR (σ := uMf) 10 hA (fun i hi => by unfold uMf; (repeat' split); all_goals omega) hk 9 (by decide) pg
  exact uw_join p0 pc pz ph pr pm pt pl pg
theorem uw_S {c' z' : CS} (hA : aInj 189 U) (hP : va_P D vwCl (uw cA U rg c z rz hd ct rs dt mf mn tc tl to kd fi se ta nu lc ln sv er) H) (hN : va_P D vwCl (ccw cA (fun k => U (uSf k)) z' c') H1) (hk : ∀ q : Nat, q < H.size → ¬ aS 32 (fun k => U (uSf k)) q → H1[q]? = H[q]?) : va_P D vwCl (uw cA U rg c' z' rz hd ct rs dt mf mn tc tl to kd fi se ta nu lc ln sv er) H1 := by
  obtain ⟨p0, pc, pz, ph, pr, pm, pt, pl, pg⟩ := uw_split hP
  have hN : va_P D vwCl (cz cA (fun k => U (k + 17)) z' ++ cz cA (fun k => U (k + 1)) c') H1 := hN
  have pz := vP_l hN
  have pc := vP_r hN
  have p0 := uKeep (σ := uSf) 0 1 32 hA p0 rfl (by decide) uSf_lt (fun k i hk hi => by unfold uSf; (repeat' split); all_goals omega) hk
  have ph := uKeep (σ := uSf) 33 2 32 hA ph rfl (by decide) uSf_lt (fun k i hk hi => by unfold uSf; (repeat' split); all_goals omega) hk
  have pr := uKeep (σ := uSf) 35 1 32 hA pr rfl (by decide) uSf_lt (fun k i hk hi => by unfold uSf; (repeat' split); all_goals omega) hk
  have pm := uKeep (σ := uSf) 36 5 32 hA pm rfl (by decide) uSf_lt (fun k i hk hi => by unfold uSf; (repeat' split); all_goals omega) hk
  have pt := uKeep (σ := uSf) 41 2 32 hA pt rfl (by decide) uSf_lt (fun k i hk hi => by unfold uSf; (repeat' split); all_goals omega) hk
  have pl := uKeep (σ := uSf) 43 2 32 hA pl rfl (by decide) uSf_lt (fun k i hk hi => by unfold uSf; (repeat' split); all_goals omega) hk
  have pg := uKeepR (σ := uSf) 32 hA (fun i hi => by unfold uSf; (repeat' split); all_goals omega) hk 9 (by decide) pg
  exact uw_join p0 pc pz ph pr pm pt pl pg
theorem uw_S2 {c' z' : CS} (hA : aInj 189 U) (hP : va_P D vwCl (uw cA U rg c z rz hd ct rs dt mf mn tc tl to kd fi se ta nu lc ln sv er) H) (hN : va_P D vwCl (ccw cA (fun k => U (k + 1)) c' z') H1) (hk : ∀ q : Nat, q < H.size → ¬ aS 32 (fun k => U (k + 1)) q → H1[q]? = H[q]?) : va_P D vwCl (uw cA U rg c' z' rz hd ct rs dt mf mn tc tl to kd fi se ta nu lc ln sv er) H1 := by
  obtain ⟨p0, pc, pz, ph, pr, pm, pt, pl, pg⟩ := uw_split hP
  have hN : va_P D vwCl (cz cA (fun k => U (k + 1)) c' ++ cz cA (fun k => U (k + 17)) z') H1 := hN
  have pc := vP_l hN
  have pz := vP_r hN
  have p0 := uKeep (σ := fun k => k + 1) 0 1 32 hA p0 rfl (by decide) (fun i h => by show i + 1 < 189; omega) (fun k i hk hi => by show i + 1 ≠ k + _; omega) hk
  have ph := uKeep (σ := fun k => k + 1) 33 2 32 hA ph rfl (by decide) (fun i h => by show i + 1 < 189; omega) (fun k i hk hi => by show i + 1 ≠ k + _; omega) hk
  have pr := uKeep (σ := fun k => k + 1) 35 1 32 hA pr rfl (by decide) (fun i h => by show i + 1 < 189; omega) (fun k i hk hi => by show i + 1 ≠ k + _; omega) hk
  have pm := uKeep (σ := fun k => k + 1) 36 5 32 hA pm rfl (by decide) (fun i h => by show i + 1 < 189; omega) (fun k i hk hi => by show i + 1 ≠ k + _; omega) hk
  have pt := uKeep (σ := fun k => k + 1) 41 2 32 hA pt rfl (by decide) (fun i h => by show i + 1 < 189; omega) (fun k i hk hi => by show i + 1 ≠ k + _; omega) hk
  have pl := uKeep (σ := fun k => k + 1) 43 2 32 hA pl rfl (by decide) (fun i h => by show i + 1 < 189; omega) (fun k i hk hi => by show i + 1 ≠ k + _; omega) hk
  have pg := uKeepR (σ := fun k => k + 1) 32 hA (fun i hi => by show i + 1 < 45; omega) hk 9 (by decide) pg
  exact uw_join p0 pc pz ph pr pm pt pl pg
theorem uw_J {jf' : Nat → Nat → Int32} {jn' : Nat} (hA : aInj 189 U) (hP : va_P D vwCl (uw cA U rg c z rz hd ct rs dt mf mn tc tl to kd fi se ta nu lc ln sv er) H) (hN : va_P D vwCl (jw cA (fun k => U (k + 2)) jf' jn') H1) (hk : ∀ q : Nat, q < H.size → ¬ aS 5 (fun k => U (k + 2)) q → H1[q]? = H[q]?) : va_P D vwCl (uw cA U rg (mkz jf' jn' (zK c) (zrw c) (zcn c) (zrl c) (zck c) (ztn c) (zsd c)) z rz hd ct rs dt mf mn tc tl to kd fi se ta nu lc ln sv er) H1 := by
  obtain ⟨p0, pc, pz, ph, pr, pm, pt, pl, pg⟩ := uw_split hP
  have pc0 : va_P D vwCl [(U 1, .inr (3, [.ref (U 2), .ref (U 7), .int (nI (zck c)), .int (nI (ztn c)), .int (zsd c)]))] H := pc.sub [0] rfl
  have pck : va_P D vwCl (kw cA (fun k => U (k + 7)) (zK c) (zrw c) (zcn c) (zrl c)) H := pc.sub [6, 7, 8, 9, 10, 11, 12, 13, 14, 15] rfl
  have pc0 := uKeep (σ := fun k => k + 2) 1 1 5 hA pc0 rfl (by decide) (fun i h => by show i + 2 < 189; omega) (fun k i hk hi => by show i + 2 ≠ k + _; omega) hk
  have pck := uKeep (σ := fun k => k + 2) 7 10 5 hA pck rfl (by decide) (fun i h => by show i + 2 < 189; omega) (fun k i hk hi => by show i + 2 ≠ k + _; omega) hk
  have pc : va_P D vwCl (cz cA (fun k => U (k + 1)) (mkz jf' jn' (zK c) (zrw c) (zcn c) (zrl c) (zck c) (ztn c) (zsd c))) H1 := (pc0.app hN).app pck
  have p0 := uKeep (σ := fun k => k + 2) 0 1 5 hA p0 rfl (by decide) (fun i h => by show i + 2 < 189; omega) (fun k i hk hi => by show i + 2 ≠ k + _; omega) hk
  have pz := uKeep (σ := fun k => k + 2) 17 16 5 hA pz rfl (by decide) (fun i h => by show i + 2 < 189; omega) (fun k i hk hi => by show i + 2 ≠ k + _; omega) hk
  have ph := uKeep (σ := fun k => k + 2) 33 2 5 hA ph rfl (by decide) (fun i h => by show i + 2 < 189; omega) (fun k i hk hi => by show i + 2 ≠ k + _; omega) hk
  have pr := uKeep (σ := fun k => k + 2) 35 1 5 hA pr rfl (by decide) (fun i h => by show i + 2 < 189; omega) (fun k i hk hi => by show i + 2 ≠ k + _; omega) hk
  have pm := uKeep (σ := fun k => k + 2) 36 5 5 hA pm rfl (by decide) (fun i h => by show i + 2 < 189; omega) (fun k i hk hi => by show i + 2 ≠ k + _; omega) hk
  have pt := uKeep (σ := fun k => k + 2) 41 2 5 hA pt rfl (by decide) (fun i h => by show i + 2 < 189; omega) (fun k i hk hi => by show i + 2 ≠ k + _; omega) hk
  have pl := uKeep (σ := fun k => k + 2) 43 2 5 hA pl rfl (by decide) (fun i h => by show i + 2 < 189; omega) (fun k i hk hi => by show i + 2 ≠ k + _; omega) hk
  have pg := uKeepR (σ := fun k => k + 2) 5 hA (fun i hi => by show i + 2 < 45; omega) hk 9 (by decide) pg
  exact uw_join p0 pc pz ph pr pm pt pl pg
theorem uw_K {kf' : Nat → Nat → Int32} {rw' : Nat → Nat} {cn' rl' : Nat} (hA : aInj 189 U) (hP : va_P D vwCl (uw cA U rg c z rz hd ct rs dt mf mn tc tl to kd fi se ta nu lc ln sv er) H) (hN : va_P D vwCl (kw cA (fun k => U (k + 7)) kf' rw' cn' rl') H1) (hk : ∀ q : Nat, q < H.size → ¬ aS 10 (fun k => U (k + 7)) q → H1[q]? = H[q]?) : va_P D vwCl (uw cA U rg (mkz (zJ c) (zjn c) kf' rw' cn' rl' (zck c) (ztn c) (zsd c)) z rz hd ct rs dt mf mn tc tl to kd fi se ta nu lc ln sv er) H1 := by
  obtain ⟨p0, pc, pz, ph, pr, pm, pt, pl, pg⟩ := uw_split hP
  have pc0 : va_P D vwCl [(U 1, .inr (3, [.ref (U 2), .ref (U 7), .int (nI (zck c)), .int (nI (ztn c)), .int (zsd c)]))] H := pc.sub [0] rfl
  have pcj : va_P D vwCl (jw cA (fun k => U (k + 2)) (zJ c) (zjn c)) H := pc.sub [1, 2, 3, 4, 5] rfl
  have pc0 := uKeep (σ := fun k => k + 7) 1 1 10 hA pc0 rfl (by decide) (fun i h => by show i + 7 < 189; omega) (fun k i hk hi => by show i + 7 ≠ k + _; omega) hk
  have pcj := uKeep (σ := fun k => k + 7) 2 5 10 hA pcj rfl (by decide) (fun i h => by show i + 7 < 189; omega) (fun k i hk hi => by show i + 7 ≠ k + _; omega) hk
  have pc : va_P D vwCl (cz cA (fun k => U (k + 1)) (mkz (zJ c) (zjn c) kf' rw' cn' rl' (zck c) (ztn c) (zsd c))) H1 := (pc0.app pcj).app hN
  have p0 := uKeep (σ := fun k => k + 7) 0 1 10 hA p0 rfl (by decide) (fun i h => by show i + 7 < 189; omega) (fun k i hk hi => by show i + 7 ≠ k + _; omega) hk
  have pz := uKeep (σ := fun k => k + 7) 17 16 10 hA pz rfl (by decide) (fun i h => by show i + 7 < 189; omega) (fun k i hk hi => by show i + 7 ≠ k + _; omega) hk
  have ph := uKeep (σ := fun k => k + 7) 33 2 10 hA ph rfl (by decide) (fun i h => by show i + 7 < 189; omega) (fun k i hk hi => by show i + 7 ≠ k + _; omega) hk
  have pr := uKeep (σ := fun k => k + 7) 35 1 10 hA pr rfl (by decide) (fun i h => by show i + 7 < 189; omega) (fun k i hk hi => by show i + 7 ≠ k + _; omega) hk
  have pm := uKeep (σ := fun k => k + 7) 36 5 10 hA pm rfl (by decide) (fun i h => by show i + 7 < 189; omega) (fun k i hk hi => by show i + 7 ≠ k + _; omega) hk
  have pt := uKeep (σ := fun k => k + 7) 41 2 10 hA pt rfl (by decide) (fun i h => by show i + 7 < 189; omega) (fun k i hk hi => by show i + 7 ≠ k + _; omega) hk
  have pl := uKeep (σ := fun k => k + 7) 43 2 10 hA pl rfl (by decide) (fun i h => by show i + 7 < 189; omega) (fun k i hk hi => by show i + 7 ≠ k + _; omega) hk
  have pg := uKeepR (σ := fun k => k + 7) 10 hA (fun i hi => by show i + 7 < 45; omega) hk 9 (by decide) pg
  exact uw_join p0 pc pz ph pr pm pt pl pg
theorem uw_T {tc' : Nat → Nat} {tl' to' : Nat} {kd' fi' se' : Int32} {ta' : Nat} {nu' : Int32} (hA : aInj 189 U) (hP : va_P D vwCl (uw cA U rg c z rz hd ct rs dt mf mn tc tl to kd fi se ta nu lc ln sv er) H) (hN : va_P D vwCl (twd cA (fun k => U (k + 41)) tc' (nI tl') (nI to') kd' fi' se' (nI ta') nu') H1) (hk : ∀ q : Nat, q < H.size → ¬ aS 2 (fun k => U (k + 41)) q → H1[q]? = H[q]?) : va_P D vwCl (uw cA U rg c z rz hd ct rs dt mf mn tc' tl' to' kd' fi' se' ta' nu' lc ln sv er) H1 := by
  obtain ⟨p0, pc, pz, ph, pr, pm, pt, pl, pg⟩ := uw_split hP
  have pt := hN
  have p0 := uKeep (σ := fun k => k + 41) 0 1 2 hA p0 rfl (by decide) (fun i h => by show i + 41 < 189; omega) (fun k i hk hi => by show i + 41 ≠ k + _; omega) hk
  have pc := uKeep (σ := fun k => k + 41) 1 16 2 hA pc rfl (by decide) (fun i h => by show i + 41 < 189; omega) (fun k i hk hi => by show i + 41 ≠ k + _; omega) hk
  have pz := uKeep (σ := fun k => k + 41) 17 16 2 hA pz rfl (by decide) (fun i h => by show i + 41 < 189; omega) (fun k i hk hi => by show i + 41 ≠ k + _; omega) hk
  have ph := uKeep (σ := fun k => k + 41) 33 2 2 hA ph rfl (by decide) (fun i h => by show i + 41 < 189; omega) (fun k i hk hi => by show i + 41 ≠ k + _; omega) hk
  have pr := uKeep (σ := fun k => k + 41) 35 1 2 hA pr rfl (by decide) (fun i h => by show i + 41 < 189; omega) (fun k i hk hi => by show i + 41 ≠ k + _; omega) hk
  have pm := uKeep (σ := fun k => k + 41) 36 5 2 hA pm rfl (by decide) (fun i h => by show i + 41 < 189; omega) (fun k i hk hi => by show i + 41 ≠ k + _; omega) hk
  have pl := uKeep (σ := fun k => k + 41) 43 2 2 hA pl rfl (by decide) (fun i h => by show i + 41 < 189; omega) (fun k i hk hi => by show i + 41 ≠ k + _; omega) hk
  have pg := uKeepR (σ := fun k => k + 41) 2 hA (fun i hi => by show i + 41 < 45; omega) hk 9 (by decide) pg
  exact uw_join p0 pc pz ph pr pm pt pl pg
theorem uw_O {hd' ct' : Nat} (hA : aInj 189 U) (hP : va_P D vwCl (uw cA U rg c z rz hd ct rs dt mf mn tc tl to kd fi se ta nu lc ln sv er) H) (hN : va_P D vwCl (hobj cA (fun k => U (k + 33)) rg hd' ct') H1) (hk : ∀ q : Nat, q < H.size → ¬ aS 2 (fun k => U (k + 33)) q → H1[q]? = H[q]?) : va_P D vwCl (uw cA U rg c z rz hd' ct' rs dt mf mn tc tl to kd fi se ta nu lc ln sv er) H1 := by
  obtain ⟨p0, pc, pz, ph, pr, pm, pt, pl, pg⟩ := uw_split hP
  have ph := hN
  have p0 := uKeep (σ := fun k => k + 33) 0 1 2 hA p0 rfl (by decide) (fun i h => by show i + 33 < 189; omega) (fun k i hk hi => by show i + 33 ≠ k + _; omega) hk
  have pc := uKeep (σ := fun k => k + 33) 1 16 2 hA pc rfl (by decide) (fun i h => by show i + 33 < 189; omega) (fun k i hk hi => by show i + 33 ≠ k + _; omega) hk
  have pz := uKeep (σ := fun k => k + 33) 17 16 2 hA pz rfl (by decide) (fun i h => by show i + 33 < 189; omega) (fun k i hk hi => by show i + 33 ≠ k + _; omega) hk
  have pr := uKeep (σ := fun k => k + 33) 35 1 2 hA pr rfl (by decide) (fun i h => by show i + 33 < 189; omega) (fun k i hk hi => by show i + 33 ≠ k + _; omega) hk
  have pm := uKeep (σ := fun k => k + 33) 36 5 2 hA pm rfl (by decide) (fun i h => by show i + 33 < 189; omega) (fun k i hk hi => by show i + 33 ≠ k + _; omega) hk
  have pt := uKeep (σ := fun k => k + 33) 41 2 2 hA pt rfl (by decide) (fun i h => by show i + 33 < 189; omega) (fun k i hk hi => by show i + 33 ≠ k + _; omega) hk
  have pl := uKeep (σ := fun k => k + 33) 43 2 2 hA pl rfl (by decide) (fun i h => by show i + 33 < 189; omega) (fun k i hk hi => by show i + 33 ≠ k + _; omega) hk
  have pg := uKeepR (σ := fun k => k + 33) 2 hA (fun i hi => by show i + 33 < 45; omega) hk 9 (by decide) pg
  exact uw_join p0 pc pz ph pr pm pt pl pg
theorem uwD (h : aInj 189 U) : va_D (aS 189 U) (uw cA U rg c z rz hd ct rs dt mf mn tc tl to kd fi se ta nu lc ln sv er) := wD h uw_ad
end UW
