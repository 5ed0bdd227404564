/-! the lines that both write -/
def AG (t1 t2 : TS) : Prop := t1.2 = t2.2 ∧ ∀ k, k < t1.2 → t1.1 k = t2.1 k ∧ ∃ c : Nat, c < 65536 ∧ t1.1 k = nI c
theorem AG_0 (s1 s2 : Nat → Int32) : AG (s1, 0) (s2, 0) := ⟨rfl, fun _ h => absurd h (Nat.not_lt_zero _)⟩
theorem AG_w {c : Nat} {t1 t2 : TS} (hc : c < 65536) (h : AG t1 t2) : AG (tw c t1) (tw c t2) := by
  refine ⟨by show t1.2 + 1 = t2.2 + 1; rw [h.1], fun k hk => ?_⟩
  have hk : k < t1.2 + 1 := hk
  show upd t1.1 t1.2 (nI c) k = upd t2.1 t2.2 (nI c) k ∧ ∃ c2 : Nat, c2 < 65536 ∧ upd t1.1 t1.2 (nI c) k = nI c2
  rw [← h.1]
  by_cases e : k = t1.2
  · rw [e, pk_us, pk_us]; exact ⟨rfl, c, hc, rfl⟩
  · rw [pk_un e, pk_un e]; exact h.2 k (by omega)
theorem AG_n : ∀ (n : Nat) {t1 t2 : TS}, AG t1 t2 → AG (tn n t1) (tn n t2) := by
  intro n
  induction n using Nat.strongRecOn with
  | _ n ih =>
    intro t1 t2 h
    rcases Nat.lt_or_ge 9 n with y | y
    · rw [tn_hi y, tn_hi y]
      exact AG_w (by omega) (ih (n / 10) (by omega) h)
    · rw [tn_lo y, tn_lo y]
      exact AG_w (by omega) h
theorem AG_lp {p : Int32} {t1 t2 : TS} (h : AG t1 t2) : ∀ k, AG (lpS p t1 k) (lpS p t2 k)
  | 0 => h
  | k + 1 => by
    have ih := AG_lp (p := p) h k
    rw [lpS, lpS]
    by_cases c : hs p k = true
    · rw [if_pos c, if_pos c]
      exact AG_n k (AG_w (by split <;> decide) ih)
    · rw [if_neg c, if_neg c]; exact ih
theorem AG_A {s1 s2 : Nat → Int32} {q mer ter : Nat} : AG (liA s1 q mer ter) (liA s2 q mer ter) := AG_n ter (AG_w (by decide) (AG_n mer (AG_w (by decide) (AG_n q (AG_0 s1 s2)))))
theorem lp_more {p : Int32} {t : TS} {jn : Nat} (h : ∀ k, jn ≤ k → k < 9 → hs p k = false) : ∀ m, jn + m ≤ 9 → lpS p t (jn + m) = lpS p t jn
  | 0, _ => rfl
  | m + 1, hm => by
    show lpS p t (jn + m + 1) = _
    rw [lpS, h (jn + m) (by omega) (by omega), if_neg (by decide)]
    exact lp_more h m (by omega)
section OPJ
variable {z : CS} {g : Nat → Int32}
theorem lp_9 (hI : RI z) {q : Nat} (hq : q < zcn z) (t : TS) : lpS (zK z 2 q) t 9 = lpS (zK z 2 q) t (zjn z) := by
  have hjn := hI.jn
  have h : ∀ k, zjn z ≤ k → k < 9 → hs (zK z 2 q) k = false := by
    intro k h1 h2
    rcases (hI.c hq).2.2.1 with e | e
    · rw [e, hs_0]
    · exact e.2 k h1 h2
  have := lp_more (t := t) h (9 - zjn z) (by omega)
  rw [show zjn z + (9 - zjn z) = 9 by omega] at this
  exact this
theorem ln_eq (hI : RI z) (hG : RG z g) {q mer ter : Nat} (hq : q < zcn z) (s1 s2 : Nat → Int32) : AG (lnC (zK z) s1 q mer ter) (lineT g s2 (zjn z) q mer ter) := by
  have hB : AG (liB (zK z 2 q) s1 q mer ter 9) (liB (zK z 2 q) s2 q mer ter (zjn z)) := by
    unfold liB
    by_cases c : zK z 2 q = 0
    · rw [if_pos c, if_pos c, lp_9 hI hq]; exact AG_lp AG_A _
    · rw [if_neg c, if_neg c, lp_9 hI hq]; exact AG_w (by decide) (AG_lp AG_A _)
  have hC : AG (liC (zK z 3 q) (liB (zK z 2 q) s1 q mer ter 9)) (liC (zK z 3 q) (liB (zK z 2 q) s2 q mer ter (zjn z))) := by
    unfold liC
    by_cases c : zK z 3 q ≤ 0
    · rw [if_pos c, if_pos c]; exact hB
    · rw [if_neg c, if_neg c]
      by_cases c2 : zK z 3 q = nI 1
      · rw [if_pos c2, if_pos c2]; exact AG_w (by decide) hB
      · rw [if_neg c2, if_neg c2]; exact AG_w (by decide) hB
  unfold lnC lineT
  rw [hG.cl hI hq, hG.of hq (by decide), hG.of hq (by decide)]
  unfold liD
  by_cases c : clF (zK z) q = true
  · rw [if_pos c, if_pos c]; exact AG_w (by decide) hC
  · rw [if_neg c, if_neg c]; exact hC
theorem rl_eq (hI : RI z) (hG : RG z g) (s1 s2 : Nat → Int32) : ∀ k, k ≤ zrl z → AG (rlC (zrw z) s1 k) (rlS g (zcn z) s2 k)
  | 0, _ => AG_0 s1 s2
  | k + 1, hk => by
    have hcn := hI.cn
    have hl := row_le hI.row
    have ih := rl_eq hI hG s1 s2 k (by omega)
    have e : (raM g (zcn z) (nI k)).getD 0 = zrw z k := by rw [hG.ra hI, if_pos (isIx_t (by omega) (by omega)), nI_clamp (by omega)]; rfl
    rw [rlC, rlS, e]
    refine AG_n _ ?_
    by_cases c : k = 0
    · rw [if_pos c, if_pos c]; exact ih
    · rw [if_neg c, if_neg c]; exact AG_w (by decide) ih
end OPJ
