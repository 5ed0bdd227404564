/-! a row kept in the order of a key: what stands in it, where, and how one enters and leaves -/
def RowS (key : Nat → Int) (p : Nat → Bool) (n : Nat) (rw : Nat → Nat) (rl : Nat) : Prop := (∀ k, k < rl → rw k < n ∧ p (rw k) = true) ∧ (∀ i j, i < j → j < rl → key (rw i) < key (rw j)) ∧ ∀ c, c < n → p c = true → ∃ k, k < rl ∧ rw k = c
theorem fb_ct_below {k : Nat} : ∀ {n : Nat}, k ≤ n → fb_ct (fun i => decide (i < k)) n = k
  | 0, h => by rw [fb_ct]; omega
  | n + 1, h => by
    rw [fb_ct_succ]
    rcases Nat.lt_or_ge n k with z | z
    · have e : fb_ct (fun i => decide (i < k)) n = n := fb_ct_all.mpr (fun i hi => decide_eq_true (by omega))
      rw [e, decide_eq_true z, if_pos rfl]
      omega
    · rw [fb_ct_below z, decide_eq_false (show ¬ n < k by omega)]
      rfl
def inR (rw : Nat → Nat) (m c : Nat) : Bool := (fnd (fun i => decide (rw i = c)) m).isSome
theorem inR_0 (rw : Nat → Nat) (c : Nat) : inR rw 0 c = false := rfl
theorem inR_t {rw : Nat → Nat} {m c : Nat} : inR rw m c = true ↔ ∃ i, i < m ∧ rw i = c := by
  unfold inR
  constructor
  · intro h
    obtain ⟨i, e⟩ := Option.isSome_iff_exists.mp h
    exact ⟨i, fnd_lt e, of_decide_eq_true (fnd_some e).1⟩
  · rintro ⟨i, hi, e⟩
    cases q : fnd (fun i => decide (rw i = c)) m with
    | some k => rfl
    | none => have := fnd_all q i hi; rw [decide_eq_true e] at this; cases this
theorem inR_succ {rw : Nat → Nat} {m c : Nat} : inR rw (m + 1) c = (inR rw m c || decide (c = rw m)) := by
  cases e : inR rw m c with
  | true =>
    obtain ⟨i, hi, q⟩ := inR_t.mp e
    exact inR_t.mpr ⟨i, by omega, q⟩
  | false =>
    rw [Bool.false_or]
    by_cases z : c = rw m
    · rw [decide_eq_true z]; exact inR_t.mpr ⟨m, by omega, z.symm⟩
    · rw [decide_eq_false z]
      refine eq_false_of_ne_true (fun h => ?_)
      obtain ⟨i, hi, q⟩ := inR_t.mp h
      rcases Nat.lt_or_ge i m with y | y
      · rw [inR_t.mpr ⟨i, y, q⟩] at e; cases e
      · exact z (by rw [← q, show i = m by omega])
section Row
variable {key : Nat → Int} {p : Nat → Bool} {n : Nat} {rw : Nat → Nat} {rl : Nat}
theorem row_1 (h : RowS key p n rw rl) {i j : Nat} (hi : i < rl) (hj : j < rl) (e : rw i = rw j) : i = j := by
  rcases Nat.lt_trichotomy i j with z | z | z
  · have := h.2.1 i j z hj; rw [e] at this; omega
  · exact z
  · have := h.2.1 j i z hi; rw [e] at this; omega
theorem row_mo (h : RowS key p n rw rl) {i j : Nat} (hi : i < rl) (hj : j < rl) : key (rw i) < key (rw j) ↔ i < j := by
  constructor
  · intro q
    rcases Nat.lt_trichotomy i j with z | z | z
    · exact z
    · rw [z] at q; omega
    · have := h.2.1 j i z hi; omega
  · exact fun q => h.2.1 i j q hj
theorem row_cnt (h : RowS key p n rw rl) (s : Nat → Bool) : ∀ m, m ≤ rl → fb_ct (fun c => inR rw m c && s c) n = fb_ct (fun k => s (rw k)) m
  | 0, _ => fb_ct_zero.mpr (fun c _ => by rw [inR_0]; rfl)
  | m + 1, hm => by
    have ih := row_cnt h s m (by omega)
    have hr := h.1 m (by omega)
    have h0 : inR rw m (rw m) = false := eq_false_of_ne_true (fun q => by
      obtain ⟨i, hi, e⟩ := inR_t.mp q
      have := row_1 h (by omega) (by omega) e
      omega)
    rw [fb_ct_succ, ← ih]
    cases e : s (rw m) with
    | true =>
      rw [if_pos rfl]
      refine fb_ct_ins (i := rw m) hr.1 (by rw [h0]; rfl) (fun c _ => ?_)
      rw [inR_succ]
      by_cases z : c = rw m
      · subst z; rw [e, decide_eq_true rfl, Bool.or_true, Bool.or_true]; rfl
      · rw [decide_eq_false z, Bool.or_false, Bool.or_false]
    | false =>
      rw [if_neg (by decide), Nat.add_zero]
      refine fb_ct_cong (fun c _ => ?_)
      show (inR rw (m + 1) c && s c) = (inR rw m c && s c)
      rw [inR_succ]
      by_cases z : c = rw m
      · subst z; rw [e, Bool.and_false, Bool.and_false]
      · rw [decide_eq_false z, Bool.or_false]
theorem row_in (h : RowS key p n rw rl) {c : Nat} (hc : c < n) : p c = inR rw rl c := by
  cases e : p c with
  | true =>
    obtain ⟨k, hk, q⟩ := h.2.2 c hc e
    exact (inR_t.mpr ⟨k, hk, q⟩).symm
  | false =>
    refine (eq_false_of_ne_true (fun q => ?_)).symm
    obtain ⟨i, hi, q⟩ := inR_t.mp q
    rw [← q, (h.1 i hi).2] at e
    cases e
theorem row_ct (h : RowS key p n rw rl) (s : Nat → Bool) : fb_ct (fun c => p c && s c) n = fb_ct (fun k => s (rw k)) rl := by
  rw [← row_cnt h s rl (Nat.le_refl _)]
  exact fb_ct_cong (fun c hc => by show (p c && s c) = (inR rw rl c && s c); rw [row_in h hc])
theorem row_len (h : RowS key p n rw rl) : fb_ct p n = rl := by
  have e := row_ct h (fun _ => true)
  rw [fb_ct_all.mpr (fun _ _ => rfl)] at e
  rw [← e]
  exact fb_ct_cong (fun c _ => by show p c = (p c && true); rw [Bool.and_true])
theorem row_le (h : RowS key p n rw rl) : rl ≤ n := by rw [← row_len h]; exact fb_ct_le _ _
theorem row_rk (h : RowS key p n rw rl) {k : Nat} (hk : k < rl) : rk key p n (rw k) = k := by
  have e := row_ct h (fun c => lk key c (rw k))
  have e2 : fb_ct (fun i => lk key (rw i) (rw k)) rl = fb_ct (fun i => decide (i < k)) rl := fb_ct_cong (fun i hi => decide_eq_decide.mpr (row_mo h hi hk))
  rw [rk, e, e2, fb_ct_below (by omega)]
theorem row_nth (h : RowS key p n rw rl) (hj : kinj key n) (r : Nat) : nthO key p n r = if r < rl then some (rw r) else none := by
  by_cases z : r < rl
  · rw [if_pos z]
    have e := nthO_is (p := p) hj (h.1 r z).1 (h.1 r z).2
    rw [row_rk h z] at e
    exact e
  · rw [if_neg z]
    cases e : nthO key p n r with
    | none => rfl
    | some m =>
      have h1 := nthO_some e
      obtain ⟨k, hk, q⟩ := h.2.2 m h1.1 h1.2.1
      have h2 := row_rk h hk
      rw [q, h1.2.2] at h2
      omega
theorem row_at (h : RowS key p n rw rl) {q : Nat} (hq : q < n) (pq : p q = true) : fnd (fun j => decide (rw j = q)) rl = some (rk key p n q) ∧ rk key p n q < rl ∧ rw (rk key p n q) = q := by
  obtain ⟨k, hk, e⟩ := h.2.2 q hq pq
  have h1 := row_rk h hk
  rw [e] at h1
  rw [h1]
  exact ⟨fnd_uniq hk (decide_eq_true e) (fun i hi z => row_1 h hi hk ((of_decide_eq_true z).trans e.symm)), hk, e⟩
theorem row_no (h : RowS key p n rw rl) {q : Nat} (pq : p q = false) : fnd (fun j => decide (rw j = q)) rl = none :=
  fnd_none (fun k hk => decide_eq_false (fun e => by have := (h.1 k hk).2; rw [e, pq] at this; cases this))
theorem row_same {key2 : Nat → Int} {p2 : Nat → Bool} (h : RowS key p n rw rl) (hp : ∀ c, c < n → p2 c = p c) (hk : ∀ c, c < n → p c = true → key2 c = key c) : RowS key2 p2 n rw rl :=
  ⟨fun k q => ⟨(h.1 k q).1, by rw [hp _ (h.1 k q).1]; exact (h.1 k q).2⟩, fun i j hij hj => by
    have hi := h.1 i (by omega)
    have hj2 := h.1 j hj
    rw [hk _ hi.1 hi.2, hk _ hj2.1 hj2.2]
    exact h.2.1 i j hij hj, fun c hc pc => h.2.2 c hc (by rw [← hp c hc]; exact pc)⟩
theorem row_big {m : Nat} (h : RowS key p n rw rl) (hm : n ≤ m) (hp : ∀ c, n ≤ c → c < m → p c = false) : RowS key p m rw rl :=
  ⟨fun k q => ⟨by have := (h.1 k q).1; omega, (h.1 k q).2⟩, h.2.1, fun c hc pc => by
    rcases Nat.lt_or_ge c n with z | z
    · exact h.2.2 c z pc
    · rw [hp c z hc] at pc; cases pc⟩
theorem enS_is (rw : Nat → Nat) (rl : Nat) : ∀ t, t ≤ rl → ∀ k, enS rw rl t k = if rl - t < k ∧ k ≤ rl then rw (k - 1) else rw k
  | 0, _, k => by rw [enS, if_neg (by omega)]
  | t + 1, ht, k => by
    have ih := enS_is rw rl t (by omega)
    rw [enS, updN]
    by_cases e : k = rl - t
    · rw [if_pos e, ih, if_neg (by omega), if_pos (by omega), e]
    · rw [if_neg e, ih]
      by_cases z : rl - t < k ∧ k ≤ rl
      · rw [if_pos z, if_pos (by omega)]
      · rw [if_neg z, if_neg (by omega)]
theorem stS_is (rw : Nat → Nat) (a : Nat) : ∀ t k, stS rw a t k = if a ≤ k ∧ k < a + t then rw (k + 1) else rw k
  | 0, k => by rw [stS, if_neg (by omega)]
  | t + 1, k => by
    have ih := stS_is rw a t
    rw [stS, updN]
    by_cases e : k = a + t
    · rw [if_pos e, ih, if_neg (by omega), if_pos (by omega), e]
    · rw [if_neg e, ih]
      by_cases z : a ≤ k ∧ k < a + t
      · rw [if_pos z, if_pos (by omega)]
      · rw [if_neg z, if_neg (by omega)]
/-- one enters -/
theorem row_enter {p2 : Nat → Bool} {kf : Nat → Nat → Int32} {q : Nat} (h : RowS key p n rw rl) (hj : kinj key n) (hq : q < n) (pq : p q = false) (hp : ∀ c, c < n → p2 c = (p c || decide (c = q))) (hc : ∀ k, k < rl → cbF kf q (rw k) = decide (key q < key (rw k))) : RowS key p2 n (enO kf rw rl q) (rl + 1) := by
  have ht : enT kf rw rl q ≤ rl := by
    unfold enT
    cases e : fnd (fun t => !cbF kf q (rw (rl - t - 1))) rl with
    | none => exact Nat.le_refl _
    | some t => exact Nat.le_of_lt (fnd_lt e)
  have hb : ∀ k, rl - enT kf rw rl q ≤ k → k < rl → key q < key (rw k) := by
    intro k h1 h2
    have hh : (!cbF kf q (rw (rl - (rl - 1 - k) - 1))) = false := by
      unfold enT at h1
      cases e : fnd (fun t => !cbF kf q (rw (rl - t - 1))) rl with
      | none => exact fnd_all e (rl - 1 - k) (by omega)
      | some t =>
        rw [e] at h1
        exact (fnd_some e).2 (rl - 1 - k) (by have h1 : rl - t ≤ k := h1; have := fnd_lt e; omega)
    rw [show rl - (rl - 1 - k) - 1 = k by omega, hc k h2] at hh
    have h9 : decide (key q < key (rw k)) = true := by simpa using hh
    exact of_decide_eq_true h9
  have ha : ∀ k, k < rl - enT kf rw rl q → key (rw k) < key q := by
    intro k h1
    have hl : key (rw (rl - enT kf rw rl q - 1)) ≤ key q := by
      unfold enT at h1 ⊢
      cases e : fnd (fun t => !cbF kf q (rw (rl - t - 1))) rl with
      | none => rw [e] at h1; have h1 : k < rl - rl := h1; omega
      | some t =>
        have h2 := (fnd_some e).1
        have h3 := fnd_lt e
        show key (rw (rl - t - 1)) ≤ key q
        rw [hc (rl - t - 1) (by omega)] at h2
        have h4 : decide (key q < key (rw (rl - t - 1))) = false := by simpa using h2
        have := of_decide_eq_false h4
        omega
    have hne : ∀ i, i < rl → key (rw i) ≠ key q := fun i hi e => by
      have := hj _ _ (h.1 i hi).1 hq e
      have h2 := (h.1 i hi).2
      rw [this, pq] at h2
      cases h2
    rcases Nat.lt_or_ge k (rl - enT kf rw rl q - 1) with z | z
    · have := h.2.1 k (rl - enT kf rw rl q - 1) z (by omega); omega
    · rw [show rl - enT kf rw rl q - 1 = k by omega] at hl
      have := hne k (by omega)
      omega
  have he : ∀ k, k ≤ rl → enO kf rw rl q k = if k < rl - enT kf rw rl q then rw k else if k = rl - enT kf rw rl q then q else rw (k - 1) := by
    intro k hk
    rw [enO, updN]
    by_cases z : k = rl - enT kf rw rl q
    · rw [if_pos z, if_neg (by omega), if_pos z]
    · rw [if_neg z, enS_is rw rl _ ht]
      by_cases y : k < rl - enT kf rw rl q
      · rw [if_neg (by omega), if_pos y]
      · rw [if_pos (by omega), if_neg y, if_neg z]
  refine ⟨fun k hk => ?_, fun i j hij hjl => ?_, fun c hc2 pc => ?_⟩
  · rw [he k (by omega)]
    by_cases y : k < rl - enT kf rw rl q
    · rw [if_pos y]
      have h1 := h.1 k (by omega)
      exact ⟨h1.1, by rw [hp _ h1.1, h1.2]; rfl⟩
    · rw [if_neg y]
      by_cases z : k = rl - enT kf rw rl q
      · rw [if_pos z]; exact ⟨hq, by rw [hp _ hq, decide_eq_true rfl, Bool.or_true]⟩
      · rw [if_neg z]
        have h1 := h.1 (k - 1) (by omega)
        exact ⟨h1.1, by rw [hp _ h1.1, h1.2]; rfl⟩
  · rw [he i (by omega), he j (by omega)]
    by_cases y : i < rl - enT kf rw rl q
    · rw [if_pos y]
      by_cases z : j < rl - enT kf rw rl q
      · rw [if_pos z]; exact h.2.1 i j hij (by omega)
      · rw [if_neg z]
        by_cases x : j = rl - enT kf rw rl q
        · rw [if_pos x]; exact ha i y
        · rw [if_neg x]; exact h.2.1 i (j - 1) (by omega) (by omega)
    · rw [if_neg y]
      by_cases x : i = rl - enT kf rw rl q
      · rw [if_pos x, if_neg (by omega), if_neg (by omega)]
        exact hb (j - 1) (by omega) (by omega)
      · rw [if_neg x, if_neg (by omega), if_neg (by omega)]
        exact h.2.1 (i - 1) (j - 1) (by omega) (by omega)
  · rw [hp c hc2] at pc
    rcases Bool.or_eq_true_iff.mp pc with y | y
    · obtain ⟨k, hk, e⟩ := h.2.2 c hc2 y
      by_cases z : k < rl - enT kf rw rl q
      · exact ⟨k, by omega, by rw [he k (by omega), if_pos z]; exact e⟩
      · exact ⟨k + 1, by omega, by rw [he (k + 1) (by omega), if_neg (by omega), if_neg (by omega), Nat.add_sub_cancel]; exact e⟩
    · have y := of_decide_eq_true y
      exact ⟨rl - enT kf rw rl q, by omega, by rw [he _ (by omega), if_neg (by omega), if_pos rfl]; exact y.symm⟩
/-- one leaves -/
theorem row_leave {p2 : Nat → Bool} {q : Nat} (h : RowS key p n rw rl) (hq : q < n) (hp : ∀ c, c < n → p2 c = (p c && !decide (c = q))) : RowS key p2 n (stO rw rl q).1 (stO rw rl q).2 ∧ (stO rw rl q).2 = if p q = true then rl - 1 else rl := by
  cases pq : p q with
  | false =>
    have e : stO rw rl q = (rw, rl) := by rw [stO, row_no h pq]
    rw [e, if_neg (by decide)]
    exact ⟨row_same h (fun c hc => by
      rw [hp c hc]
      by_cases z : c = q
      · rw [z, pq]; rfl
      · rw [decide_eq_false z]; exact Bool.and_true _) (fun _ _ _ => rfl), rfl⟩
  | true =>
    obtain ⟨e1, e2, e3⟩ := row_at h hq pq
    generalize rk key p n q = a at e1 e2 e3
    have e : stO rw rl q = (stS rw a (rl - 1 - a), rl - 1) := by rw [stO, e1]
    have he : ∀ k, k < rl - 1 → stS rw a (rl - 1 - a) k = if a ≤ k then rw (k + 1) else rw k := by
      intro k hk
      rw [stS_is]
      by_cases z : a ≤ k
      · rw [if_pos (by omega), if_pos z]
      · rw [if_neg (by omega), if_neg z]
    have hin : ∀ i, i < rl → i ≠ a → p2 (rw i) = true := by
      intro i hi hne
      rw [hp _ (h.1 i hi).1, (h.1 i hi).2, decide_eq_false (fun z => hne (row_1 h hi e2 (z.trans e3.symm)))]
      rfl
    rw [e, if_pos rfl]
    refine ⟨⟨fun k hk => ?_, fun i j hij hjl => ?_, fun c hc pc => ?_⟩, rfl⟩
    · have hk : k < rl - 1 := hk
      show stS rw a (rl - 1 - a) k < n ∧ p2 (stS rw a (rl - 1 - a) k) = true
      rw [he k hk]
      by_cases z : a ≤ k
      · rw [if_pos z]; exact ⟨(h.1 (k + 1) (by omega)).1, hin (k + 1) (by omega) (by omega)⟩
      · rw [if_neg z]; exact ⟨(h.1 k (by omega)).1, hin k (by omega) (by omega)⟩
    · have hjl : j < rl - 1 := hjl
      show key (stS rw a (rl - 1 - a) i) < key (stS rw a (rl - 1 - a) j)
      rw [he i (by omega), he j hjl]
      by_cases z : a ≤ i
      · rw [if_pos z, if_pos (by omega)]; exact h.2.1 _ _ (by omega) (by omega)
      · rw [if_neg z]
        by_cases y : a ≤ j
        · rw [if_pos y]; exact h.2.1 _ _ (by omega) (by omega)
        · rw [if_neg y]; exact h.2.1 _ _ hij (by omega)
    · rw [hp c hc] at pc
      have pc := Bool.and_eq_true_iff.mp pc
      obtain ⟨k, hk, ek⟩ := h.2.2 c hc pc.1
      have hka : k ≠ a := fun z => by
        rw [← ek, z, e3, decide_eq_true rfl] at pc
        exact absurd pc.2 (by decide)
      rcases Nat.lt_or_ge k a with z | z
      · exact ⟨k, by show k < rl - 1; omega, by show stS rw a (rl - 1 - a) k = c; rw [he k (by omega), if_neg (by omega)]; exact ek⟩
      · exact ⟨k - 1, by show k - 1 < rl - 1; omega, by show stS rw a (rl - 1 - a) (k - 1) = c; rw [he (k - 1) (by omega), if_pos (by omega), show k - 1 + 1 = k by omega]; exact ek⟩
end Row
