/-! a text of orders is read alike on both sides -/
section OPM
variable {tc : Nat → Nat} {tl : Nat} {inp : Nat → Int32}
abbrev feO (tc : Nat → Nat) (tl : Nat) (kd fi se nu : Int32) (k : Nat) : Bool × TX := roO tc tl (feS tc tl kd fi se nu k).1 (feS tc tl kd fi se nu k).2.1 (feS tc tl kd fi se nu k).2.2.1 (feS tc tl kd fi se nu k).2.2.2.1 (feS tc tl kd fi se nu k).2.2.2.2
theorem feS_n {kd fi se nu : Int32} {k : Nat} : feS tc tl kd fi se nu (k + 1) = (feO tc tl kd fi se nu k).2 := feS_1
theorem it_go {td0 : Nat → Int32} {k : Nat} (h : TXT tc tl inp) (hq : itQ inp tl td0 k = false) : (itH inp tl td0 k).1 = true ∧ pkN tc tl (itH inp tl td0 k).2.1 = 59 := by
  unfold itQ at hq
  have h1 : ((itH inp tl td0 k).1 && (skO inp tl (itH inp tl td0 k).2.1 59).1) = true := by simpa using hq
  have h2 := Bool.and_eq_true_iff.mp h1
  exact ⟨h2.1, (sk_c h (by decide) (by decide)).mp h2.2⟩
theorem it_bd {td0 : Nat → Int32} (h : TXT tc tl inp) : ∀ k, (∀ i, i < k → itQ inp tl td0 i = false) → 5 * k ≤ (itS inp tl td0 k).1 ∧ (itS inp tl td0 k).1 ≤ tl
  | 0, _ => by rw [itS_0]; exact ⟨Nat.le_refl _, Nat.zero_le _⟩
  | k + 1, hk => by
    have ih := it_bd h k (fun i hi => hk i (by omega))
    have g := it_go h (hk k (by omega))
    have h4 := ohM_4 (show (ohM inp tl (itS inp tl td0 k).1 (itS inp tl td0 k).2 (3 * k)).1 = true from g.1)
    have h4 : (itS inp tl td0 k).1 + 4 ≤ (itH inp tl td0 k).2.1 := h4
    have hp : (itH inp tl td0 k).2.1 < tl := pkN_po (by rw [g.2]; decide)
    rw [itS_1]
    show 5 * (k + 1) ≤ (itH inp tl td0 k).2.1 + 1 ∧ (itH inp tl td0 k).2.1 + 1 ≤ tl
    omega
theorem it_K {td0 : Nat → Int32} (h : TXT tc tl inp) : ∃ K, K < 16 ∧ itQ inp tl td0 K = true ∧ (∀ i, i < K → itQ inp tl td0 i = false) ∧ itR inp tl td0 = itX inp tl td0 K := by
  cases e : fnd (itQ inp tl td0) 16 with
  | none =>
    have b := it_bd h 16 (fnd_all e)
    have := h.1
    omega
  | some K =>
    refine ⟨K, fnd_lt e, (fnd_some e).1, (fnd_some e).2, ?_⟩
    unfold itR
    rw [e]; rfl
theorem fe_pos {td0 : Nat → Int32} {kd fi se nu : Int32} (h : TXT tc tl inp) : ∀ k, (∀ i, i < k → itQ inp tl td0 i = false) → (k = 0 → (feS tc tl kd fi se nu k).1 = 0 ∧ (itS inp tl td0 k).1 = 0) ∧ (0 < k → 0 < (feS tc tl kd fi se nu k).1 ∧ (itS inp tl td0 k).1 = (feS tc tl kd fi se nu k).1 + 1 ∧ pkN tc tl (feS tc tl kd fi se nu k).1 = 59) ∧ ∃ fi9 se9 nu9 : Int32, feO tc tl kd fi se nu k = roK tc tl (itS inp tl td0 k).1 fi9 se9 nu9
  | 0, _ => by
    refine ⟨fun _ => ⟨by rw [feS_0], by rw [itS_0]⟩, fun x => absurd x (Nat.lt_irrefl _), fi, se, nu, ?_⟩
    show roO _ _ _ _ _ _ _ = _
    rw [feS_0, itS_0]
    show roO tc tl 0 kd fi se nu = _
    rw [roO, if_pos rfl]
  | k + 1, hk => by
    obtain ⟨_, _, fi9, se9, nu9, e⟩ := fe_pos (kd := kd) (fi := fi) (se := se) (nu := nu) h k (fun i hi => hk i (by omega))
    have g := it_go h (hk k (by omega))
    have O := ord_is h (q := (itS inp tl td0 k).1) (p := 3 * k) (td := (itS inp tl td0 k).2) (fi := fi9) (se := se9) (nu := nu9)
    have h4 : (itS inp tl td0 k).1 + 4 ≤ (itH inp tl td0 k).2.1 := ohM_4 (show (ohM inp tl (itS inp tl td0 k).1 (itS inp tl td0 k).2 (3 * k)).1 = true from g.1)
    have ep : (feS tc tl kd fi se nu (k + 1)).1 = (itH inp tl td0 k).2.1 := by rw [feS_n, e]; exact O.2.1
    have es : (itS inp tl td0 (k + 1)).1 = (itH inp tl td0 k).2.1 + 1 := by rw [itS_1]
    refine ⟨fun x => by omega, fun _ => ⟨by omega, by omega, by rw [ep]; exact g.2⟩, (feS tc tl kd fi se nu (k + 1)).2.2.1, (feS tc tl kd fi se nu (k + 1)).2.2.2.1, (feS tc tl kd fi se nu (k + 1)).2.2.2.2, ?_⟩
    show roO _ _ _ _ _ _ _ = _
    rw [roO, if_neg (by omega), if_pos (tk_c.mpr (by rw [ep]; exact g.2)), es, ep]
theorem fe_ord {td0 : Nat → Int32} {kd fi se nu : Int32} (h : TXT tc tl inp) {k : Nat} (hk : ∀ i, i < k → itQ inp tl td0 i = false) : OE (feO tc tl kd fi se nu k) (itH inp tl td0 k) (3 * k) (itS inp tl td0 k).2 := by
  obtain ⟨_, _, fi9, se9, nu9, e⟩ := fe_pos (kd := kd) (fi := fi) (se := se) (nu := nu) h k hk
  rw [e]
  exact ord_is h
theorem it_fr {td0 : Nat → Int32} (h : TXT tc tl inp) {k : Nat} : ∀ m, ∀ i, i < 3 * (k + 1) → (itS inp tl td0 (k + 1 + m)).2 i = (itH inp tl td0 k).2.2 i
  | 0, i, _ => by rw [Nat.add_zero, itS_1]
  | m + 1, i, hi => by
    have O := ord_is h (q := (itS inp tl td0 (k + 1 + m)).1) (p := 3 * (k + 1 + m)) (td := (itS inp tl td0 (k + 1 + m)).2) (fi := 0) (se := 0) (nu := 0)
    rw [show k + 1 + (m + 1) = (k + 1 + m) + 1 by omega, itS_1]
    show (itH inp tl td0 (k + 1 + m)).2.2 i = _
    rw [← it_fr h m i hi]
    exact O.2.2.2 i (by omega)
theorem it_fr2 {td0 : Nat → Int32} (h : TXT tc tl inp) {k K : Nat} (hk : k ≤ K) {i : Nat} (hi : i < 3 * (k + 1)) : (itH inp tl td0 K).2.2 i = (itH inp tl td0 k).2.2 i := by
  have e := it_fr (td0 := td0) h (k := k) (K - k) i hi
  rw [show k + 1 + (K - k) = K + 1 by omega, itS_1] at e
  exact e
/-- what the class reads is what the model reads -/
theorem parse {td0 : Nat → Int32} {kd fi se nu : Int32} (h : TXT tc tl inp) : ((itR inp tl td0).1 = true → (feR tc tl kd fi se nu).1 = -1 ∧ (feR tc tl kd fi se nu).2.1 = (itR inp tl td0).2.2.1 ∧ ∀ (kd2 fi2 se2 nu2 : Int32) (k : Nat), k < (itR inp tl td0).2.2.1 → ∃ w : Nat, w ≤ 7 ∧ (feS tc tl kd2 fi2 se2 nu2 (k + 1)).2.1 = nI w ∧ (itR inp tl td0).2.2.2 (3 * k) = nI w ∧ (w ≤ 5 → (feS tc tl kd2 fi2 se2 nu2 (k + 1)).2.2.1 = (itR inp tl td0).2.2.2 (3 * k + 1)) ∧ (w ≤ 1 → (feS tc tl kd2 fi2 se2 nu2 (k + 1)).2.2.2.1 = (itR inp tl td0).2.2.2 (3 * k + 2))) ∧ ((itR inp tl td0).1 = false → ¬ (feR tc tl kd fi se nu).1 = -1 ∧ (feR tc tl kd fi se nu).1 = nI (itR inp tl td0).2.1) := by
  obtain ⟨K, hK, hQ, hb, eR⟩ := it_K (td0 := td0) h
  have hl := h.1
  have OK := fun (kd2 fi2 se2 nu2 : Int32) (k : Nat) (hk : k ≤ K) => fe_ord (td0 := td0) (kd := kd2) (fi := fi2) (se := se2) (nu := nu2) h (k := k) (fun i hi => hb i (by omega))
  have bK := it_bd (td0 := td0) h K hb
  have hle : (itH inp tl td0 K).2.1 ≤ tl := ohM_le bK.2
  have fB : ∀ k, k ≤ K → feB tc tl kd fi se nu k = (itH inp tl td0 k).1 := fun k hk => (OK kd fi se nu k hk).1
  have fP : ∀ k, k ≤ K → (feS tc tl kd fi se nu (k + 1)).1 = (itH inp tl td0 k).2.1 := fun k hk => by rw [feS_n]; exact (OK kd fi se nu k hk).2.1
  have fQ : ∀ k, k < K → feQ tc tl kd fi se nu k = false := fun k hk => by
    have g := it_go h (hb k hk)
    have hp : (itH inp tl td0 k).2.1 < tl := pkN_po (by rw [g.2]; decide)
    unfold feQ
    rw [fB k (by omega), g.1, fP k (by omega), decide_eq_false (by omega)]; rfl
  cases e1 : (itH inp tl td0 K).1 with
  | false =>
    have q : feQ tc tl kd fi se nu K = true := by unfold feQ; rw [fB K (Nat.le_refl _), e1]; rfl
    have f : fnd (feQ tc tl kd fi se nu) 60 = some K := fnd_stop (fnd_none fQ) q 60 (by omega)
    have eF : feR tc tl kd fi se nu = (nI (itH inp tl td0 K).2.1, (K, feS tc tl kd fi se nu (K + 1))) := by
      rw [feR_s f, feX, fB K (Nat.le_refl _), e1, if_neg (by decide), fP K (Nat.le_refl _)]
    rw [eR, itX_f e1, eF]
    exact ⟨fun x => absurd x Bool.false_ne_true, fun _ => ⟨fun x => nI_nm1 (c := (itH inp tl td0 K).2.1) (by omega) x.symm, rfl⟩⟩
  | true =>
    have ns : ¬ pkN tc tl (itH inp tl td0 K).2.1 = 59 := fun x => by
      have y := (sk_c h (by decide) (by decide)).mpr x
      unfold itQ at hQ
      rw [e1, y] at hQ
      cases hQ
    rw [eR, itX_t e1]
    by_cases c : (itH inp tl td0 K).2.1 = tl
    · have q : feQ tc tl kd fi se nu K = true := by
        unfold feQ
        rw [fP K (Nat.le_refl _), decide_eq_true (by omega), Bool.or_true]
      have f : fnd (feQ tc tl kd fi se nu) 60 = some K := fnd_stop (fnd_none fQ) q 60 (by omega)
      have eF : feR tc tl kd fi se nu = (-1, (K + 1, feS tc tl kd fi se nu (K + 1))) := by
        rw [feR_s f, feX, fB K (Nat.le_refl _), e1, if_pos rfl]
      rw [eF, decide_eq_true c]
      refine ⟨fun _ => ⟨rfl, rfl, fun kd2 fi2 se2 nu2 k hk => ?_⟩, fun x => absurd x.symm Bool.false_ne_true⟩
      have hk : k < K + 1 := hk
      have O := OK kd2 fi2 se2 nu2 k (by omega)
      have ok : (itH inp tl td0 k).1 = true := by
        rcases Nat.lt_or_ge k K with y | y
        · exact (it_go h (hb k y)).1
        · rw [show k = K by omega]; exact e1
      obtain ⟨w, w7, x1, x2, x3, x4⟩ := O.2.2.1 ok
      have F : ∀ i, i < 3 * (k + 1) → (itH inp tl td0 K).2.2 i = (itH inp tl td0 k).2.2 i := fun i hi => it_fr2 h (by omega) hi
      refine ⟨w, w7, by rw [feS_n]; exact x1, ?_, fun y => ?_, fun y => ?_⟩
      · show (itH inp tl td0 K).2.2 (3 * k) = nI w
        rw [F _ (by omega)]; exact x2
      · show _ = (itH inp tl td0 K).2.2 (3 * k + 1)
        rw [F _ (by omega), feS_n]; exact x3 y
      · show _ = (itH inp tl td0 K).2.2 (3 * k + 2)
        rw [F _ (by omega), feS_n]; exact x4 y
    · have q0 : feQ tc tl kd fi se nu K = false := by
        unfold feQ
        rw [fB K (Nat.le_refl _), e1, fP K (Nat.le_refl _), decide_eq_false (by omega)]; rfl
      have h4 : (itS inp tl td0 K).1 + 4 ≤ (itH inp tl td0 K).2.1 := ohM_4 (show (ohM inp tl (itS inp tl td0 K).1 (itS inp tl td0 K).2 (3 * K)).1 = true from e1)
      have eO : feO tc tl kd fi se nu (K + 1) = (false, ((itH inp tl td0 K).2.1, ((feS tc tl kd fi se nu (K + 1)).2.1, ((feS tc tl kd fi se nu (K + 1)).2.2.1, ((feS tc tl kd fi se nu (K + 1)).2.2.2.1, (feS tc tl kd fi se nu (K + 1)).2.2.2.2))))) := by
        show roO _ _ _ _ _ _ _ = _
        rw [roO, fP K (Nat.le_refl _), if_neg (by omega), if_neg (fun x => ns (tk_c.mp x))]
      have b1 : feB tc tl kd fi se nu (K + 1) = false := by
        show (feO tc tl kd fi se nu (K + 1)).1 = false
        rw [eO]
      have p1 : (feS tc tl kd fi se nu (K + 1 + 1)).1 = (itH inp tl td0 K).2.1 := by rw [feS_n, eO]
      have q1 : feQ tc tl kd fi se nu (K + 1) = true := by unfold feQ; rw [b1]; rfl
      have f : fnd (feQ tc tl kd fi se nu) 60 = some (K + 1) := fnd_stop (fnd_none (fun k hk => by
        rcases Nat.lt_or_ge k K with y | y
        · exact fQ k y
        · rw [show k = K by omega]; exact q0)) q1 60 (by omega)
      have eF : feR tc tl kd fi se nu = (nI (itH inp tl td0 K).2.1, (K + 1, feS tc tl kd fi se nu (K + 1 + 1))) := by
        rw [feR_s f, feX, b1, if_neg (by decide), p1]
      rw [eF, decide_eq_false c]
      exact ⟨fun x => absurd x Bool.false_ne_true, fun _ => ⟨fun x => nI_nm1 (c := (itH inp tl td0 K).2.1) (by omega) x.symm, rfl⟩⟩
end OPM
