/-! one order of a text, as both read it -/
def sN : List (List Nat) := [[106, 117, 114, 111, 114], [99, 97, 115, 101], [99, 97, 108, 108], [118, 111, 116, 101], [117, 110, 115, 97, 121], [97, 112, 112, 101, 97, 108], [99, 108, 101, 114, 107], [110, 105, 103, 104, 116], [117, 114, 111, 114, 32], [111, 116, 101, 32], [110, 115, 97, 121, 32], [112, 112, 101, 97, 108, 32], [105, 103, 104, 116], [101, 114, 107], [108, 32], [115, 101, 32]]
def mt (A : Nat → Nat) : List Nat → Nat
  | [] => 0
  | c :: s => if A 0 = c then 1 + mt (fun k => A (k + 1)) s else 0
theorem mt_le (A : Nat → Nat) : ∀ s, mt A s ≤ s.length := by
  intro s
  induction s generalizing A with
  | nil => exact Nat.le_refl _
  | cons c s ih =>
    have := ih (fun k => A (k + 1))
    rw [mt]
    split
    · rw [List.length_cons]; omega
    · exact Nat.zero_le _
theorem mt_snoc (A : Nat → Nat) (c : Nat) : ∀ s, mt A (s ++ [c]) = if mt A s = s.length then s.length + (if A s.length = c then 1 else 0) else mt A s := by
  intro s
  induction s generalizing A with
  | nil => simp [mt]
  | cons d s ih =>
    have h := ih (fun k => A (k + 1))
    rw [List.cons_append, mt, mt, h]
    by_cases e : A 0 = d
    · rw [if_pos e, if_pos e, List.length_cons]
      by_cases y : mt (fun k => A (k + 1)) s = s.length
      · rw [if_pos y, if_pos (show 1 + mt (fun k => A (k + 1)) s = s.length + 1 by omega)]; omega
      · rw [if_neg y, if_neg (show ¬ 1 + mt (fun k => A (k + 1)) s = s.length + 1 by omega)]
    · rw [if_neg e, if_neg e, List.length_cons, if_neg (show ¬ 0 = s.length + 1 by omega)]
theorem fnd_shift (p : Nat → Bool) : ∀ n, fnd p (n + 1) = if p 0 = true then some 0 else (fnd (fun k => p (k + 1)) n).map (· + 1)
  | 0 => rfl
  | n + 1 => by
    have ih := fnd_shift p n
    rw [fnd, ih]
    by_cases c : p 0 = true
    · rw [if_pos c, if_pos c]
    · rw [if_neg c, if_neg c]
      show _ = Option.map (· + 1) (match fnd (fun k => p (k + 1)) n with | some k => some k | none => if p (n + 1) = true then some n else none)
      cases fnd (fun k => p (k + 1)) n with
      | some k => rfl
      | none =>
        show (if p (n + 1) = true then some (n + 1) else none) = Option.map (· + 1) (if p (n + 1) = true then some n else none)
        by_cases y : p (n + 1) = true
        · rw [if_pos y, if_pos y]; rfl
        · rw [if_neg y, if_neg y]; rfl
theorem mt_fnd (A : Nat → Nat) : ∀ s : List Nat, (fnd (fun k => !decide (A k = s.getD k 0)) s.length).getD s.length = mt A s ∧ (fnd (fun k => !decide (A k = s.getD k 0)) s.length).isNone = decide (mt A s = s.length) := by
  intro s
  induction s generalizing A with
  | nil => exact ⟨rfl, rfl⟩
  | cons c s ih =>
    obtain ⟨h1, h2⟩ := ih (fun k => A (k + 1))
    rw [List.length_cons, fnd_shift, mt]
    by_cases e : A 0 = c
    · have e0 : ¬ (!decide (A 0 = (c :: s).getD 0 0)) = true := by
        rw [show (c :: s).getD 0 0 = c from rfl, decide_eq_true e]; decide
      rw [if_neg e0, if_pos e]
      have e1 : fnd (fun k => !decide (A (k + 1) = (c :: s).getD (k + 1) 0)) s.length = fnd (fun k => !decide ((fun k => A (k + 1)) k = s.getD k 0)) s.length := rfl
      rw [e1]
      cases q : fnd (fun k => !decide ((fun k => A (k + 1)) k = s.getD k 0)) s.length with
      | none =>
        rw [q] at h1 h2
        have h1 : s.length = mt (fun k => A (k + 1)) s := h1
        refine ⟨by show s.length + 1 = _; omega, ?_⟩
        show true = _
        rw [decide_eq_true (by omega)]
      | some k =>
        rw [q] at h1 h2
        have h1 : k = mt (fun k => A (k + 1)) s := h1
        have hk := fnd_lt q
        refine ⟨by show k + 1 = _; omega, ?_⟩
        show false = _
        rw [decide_eq_false (by omega)]
    · have e0 : (!decide (A 0 = (c :: s).getD 0 0)) = true := by
        rw [show (c :: s).getD 0 0 = c from rfl, decide_eq_false e]; rfl
      rw [if_pos e0, if_neg e]
      refine ⟨rfl, ?_⟩
      show false = _
      rw [decide_eq_false (by omega)]
theorem sN_ok : ∀ i, i < 16 → sLen.getD i 0 = (sN.getD i []).length ∧ ∀ k, k < sLen.getD i 0 → sCh i k = nI ((sN.getD i []).getD k 0) ∧ 0 < (sN.getD i []).getD k 0 ∧ (sN.getD i []).getD k 0 < 128 := by decide +kernel
section OPK
variable {tc : Nat → Nat} {tl : Nat} {inp : Nat → Int32}
/-- the same text on both sides -/
def TXT (tc : Nat → Nat) (tl : Nat) (inp : Nat → Int32) : Prop := tl ≤ 60 ∧ ∀ k, k < tl → tc k < 65536 ∧ inp k = nI (tc k)
theorem hr_is (h : TXT tc tl inp) {q c : Nat} (h0 : 0 < c) (hc : c < 65536) : hrM inp tl q = nI c ↔ pkN tc tl q = c := by
  unfold hrM pkN
  by_cases y : q < tl
  · rw [if_pos y, if_pos y, (h.2 q y).2, nI_eq (by have := (h.2 q y).1; omega) (by omega)]
  · rw [if_neg y, if_neg y]
    exact ⟨fun e => absurd e (nI_nm1 (by omega)), fun e => by omega⟩
theorem sk_is (h : TXT tc tl inp) {q c : Nat} (h0 : 0 < c) (hc : c < 65536) : skO inp tl q c = tkO tc tl q c := by
  unfold skO tkO
  by_cases y : pkN tc tl q = c
  · rw [if_pos ((hr_is h h0 hc).mpr y), if_pos y]
  · rw [if_neg (fun e => y ((hr_is h h0 hc).mp e)), if_neg y]
theorem dg_is (h : TXT tc tl inp) (q : Nat) : dgM inp tl q = dgB (pkN tc tl q) := by
  unfold dgM hrM pkN
  by_cases y : q < tl
  · have hq := (h.2 q y).1
    rw [if_pos y, if_pos y, (h.2 q y).2]
    unfold inB dgB
    rw [← Bool.decide_and]
    refine decide_eq_decide.mpr ?_
    rw [nI_ltI (by omega) (by decide), nI_ltI (by decide) (by omega)]
    omega
  · rw [if_neg y, if_neg y, m1_dg]; rfl
theorem la_is (h : TXT tc tl inp) {q w : Nat} (hw : w < 16) : laN tc tl q w = mt (fun k => pkN tc tl (q + k)) (sN.getD w []) := by
  have hs := sN_ok w hw
  rw [← (mt_fnd _ _).1, laN, hs.1]
  congr 1
  refine fnd_ext (fun k hk => ?_)
  have h2 := hs.2 k (by rw [hs.1]; exact hk)
  unfold laP pkN
  by_cases y : q + k < tl
  · rw [if_pos y, decide_eq_true y, Bool.true_and, h2.1]
    congr 1
    exact decide_eq_decide.mpr (nI_eq (by have := (h.2 _ y).1; omega) (by omega))
  · rw [if_neg y, decide_eq_false y, decide_eq_false (show ¬ 0 = (sN.getD w []).getD k 0 by omega)]; rfl
theorem wd_is (h : TXT tc tl inp) {q i : Nat} (hi : i < 16) : wdO inp tl q i = (decide (mt (fun k => pkN tc tl (q + k)) (sN.getD i []) = (sN.getD i []).length), q + mt (fun k => pkN tc tl (q + k)) (sN.getD i [])) := by
  have hs := sN_ok i hi
  have F := mt_fnd (fun k => pkN tc tl (q + k)) (sN.getD i [])
  have e : fnd (wdP inp tl q i) (sN.getD i []).length = fnd (fun k => !decide (pkN tc tl (q + k) = (sN.getD i []).getD k 0)) (sN.getD i []).length := fnd_ext (fun k hk => by
    have h2 := hs.2 k (by rw [hs.1]; exact hk)
    unfold wdP
    rw [h2.1]
    congr 1
    exact decide_eq_decide.mpr (hr_is h (by omega) (by omega)))
  rw [wdO, hs.1, e, F.1, F.2]
theorem fg_n (h : TXT tc tl inp) (q mo : Nat) : fgN inp tl q mo = dgN tc tl q mo := by
  unfold fgN dgN
  congr 1
  exact fnd_ext (fun k _ => by rw [dg_is h]; rfl)
theorem fg_v (h : TXT tc tl inp) {q : Nat} : ∀ k, (∀ i, i < k → q + i < tl) → fgV inp tl q k = dgV tc tl q k
  | 0, _ => rfl
  | k + 1, hk => by
    rw [fgV, dgV, fg_v h k (fun i hi => hk i (by omega))]
    have y := hk k (by omega)
    rw [show hrM inp tl (q + k) = nI (pkN tc tl (q + k)) by unfold hrM pkN; rw [if_pos y, if_pos y]; exact (h.2 _ y).2]
    rw [Int32.sub_eq_add_neg, Int32.sub_eq_add_neg, Int32.add_assoc]
theorem dg_lt {w : Nat} (h : dgB w = true) : 0 < w := by
  have := of_decide_eq_true (Bool.and_eq_true_iff.mp h).1
  omega
theorem pkN_po {q : Nat} (h : 0 < pkN tc tl q) : q < tl := by
  unfold pkN at h
  split at h
  · assumption
  · exact absurd h (Nat.lt_irrefl _)
theorem dgN_in {q mo : Nat} : ∀ i, i < dgN tc tl q mo → dgB (pkN tc tl (q + i)) = true := by
  intro i hi
  unfold dgN at hi
  have k : dgP tc tl q i = false := by
    cases e : fnd (dgP tc tl q) mo with
    | none => rw [e] at hi; exact fnd_all e i hi
    | some m => rw [e] at hi; exact (fnd_some e).2 i hi
  unfold dgP at k
  simpa using k
/-- a number: as the class reads it after a blank, and as the model reads it there -/
theorem num_is (h : TXT tc tl inp) {q mo pl : Nat} {td : Nat → Int32} (hmo : 0 < mo) : (fgO inp tl q td pl mo = if (rnA tc tl q mo false).1 = true then (true, ((rnA tc tl q mo false).2.1, upd td pl (rnA tc tl q mo false).2.2)) else (false, (q, td))) ∧ ((rnA tc tl q mo false).1 = false → (rnA tc tl q mo false).2.1 = q) := by
  have hv : fgV inp tl q (dgN tc tl q mo) = dgV tc tl q (dgN tc tl q mo) := fg_v h _ (fun i hi => pkN_po (dg_lt (dgN_in i hi)))
  have hd : (0 < dgN tc tl q mo) ↔ dgB (pkN tc tl q) = true := by
    constructor
    · intro y; exact dgN_in 0 y
    · intro y
      rcases Nat.eq_zero_or_pos (dgN tc tl q mo) with z | z
      · exfalso
        unfold dgN at z
        cases e : fnd (dgP tc tl q) mo with
        | none => rw [e] at z; have z : mo = 0 := z; omega
        | some m =>
          rw [e] at z
          have z : m = 0 := z
          have := (fnd_some e).1
          rw [z] at this
          unfold dgP at this
          rw [show q + 0 = q from rfl, y] at this
          cases this
      · exact z
  unfold fgO rnA
  rw [dg_is h, fg_n h, hv]
  by_cases y : dgB (pkN tc tl q) = true
  · rw [if_pos y]
    refine ⟨?_, fun x => ?_⟩
    · rw [if_pos (show decide (0 < dgN tc tl q mo) = true from decide_eq_true (hd.mpr y))]
      rw [if_neg (show ¬ (false = true) by decide)]
    · exact absurd (hd.mpr y) (of_decide_eq_false x)
  · rw [if_neg y]
    have z : dgN tc tl q mo = 0 := by
      rcases Nat.eq_zero_or_pos (dgN tc tl q mo) with u | u
      · exact u
      · exact absurd (hd.mp u) y
    refine ⟨?_, fun _ => by show q + dgN tc tl q mo = q; omega⟩
    rw [if_neg (show ¬ decide (0 < dgN tc tl q mo) = true by rw [decide_eq_false (by omega)]; decide)]
theorem fw_max {q : Nat} : ∀ k, (∀ w, w < k → laN tc tl q w ≤ fwN tc tl q k) ∧ (fwN tc tl q k = 0 ∨ ∃ w, w < k ∧ fwN tc tl q k = laN tc tl q w)
  | 0 => ⟨fun _ h => absurd h (Nat.not_lt_zero _), Or.inl fwN_0⟩
  | k + 1 => by
    obtain ⟨h1, h2⟩ := fw_max (q := q) k
    rw [fwN_1]
    by_cases c : fwN tc tl q k < laN tc tl q k
    · rw [if_pos c]
      refine ⟨fun w hw => ?_, Or.inr ⟨k, Nat.lt_succ_self k, rfl⟩⟩
      rcases Nat.lt_or_ge w k with y | y
      · have := h1 w y; omega
      · rw [show w = k by omega]; exact Nat.le_refl _
    · rw [if_neg c]
      refine ⟨fun w hw => ?_, ?_⟩
      · rcases Nat.lt_or_ge w k with y | y
        · exact h1 w y
        · rw [show w = k by omega]; omega
      · rcases h2 with e | ⟨w, hw, e⟩
        · exact Or.inl e
        · exact Or.inr ⟨w, by omega, e⟩
/-- which word stands there, and where reading stops -/
theorem wrd {q w : Nat} (hw : w < 8) (h : ∀ v, v < 8 → v ≠ w → laN tc tl q v < sLen.getD v 0 ∧ laN tc tl q v ≤ laN tc tl q w) : (laN tc tl q w = sLen.getD w 0 → rwK tc tl q = some w ∧ rwA tc tl q = q + sLen.getD w 0) ∧ (laN tc tl q w < sLen.getD w 0 → rwK tc tl q = none ∧ rwA tc tl q = q + laN tc tl q w) := by
  constructor
  · intro e
    have r : rwK tc tl q = some w := fnd_uniq hw (decide_eq_true e) (fun v hv x => by
      by_cases y : v = w
      · exact y
      · have := (h v hv y).1
        have := of_decide_eq_true x
        omega)
    exact ⟨r, by rw [rwA_s r, e]⟩
  · intro e
    have r : rwK tc tl q = none := fnd_none (fun v hv => decide_eq_false (fun x => by
      by_cases y : v = w
      · rw [y] at x; omega
      · have := (h v hv y).1; omega))
    refine ⟨r, ?_⟩
    rw [rwA_n r]
    congr 1
    obtain ⟨h1, h2⟩ := fw_max (tc := tc) (tl := tl) (q := q) 8
    have h3 := h1 w hw
    rcases h2 with y | ⟨v, hv, y⟩
    · omega
    · by_cases z : v = w
      · rw [z] at y; exact y
      · have := (h v hv z).2; omega
end OPK
