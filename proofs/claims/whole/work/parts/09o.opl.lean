/-! an order is read alike on both sides -/
section OPL
variable {tc : Nat → Nat} {tl : Nat} {inp : Nat → Int32}
def cnO (C : Bool × (Nat × Int32)) (td : Nat → Int32) (pl : Nat) : OH := if C.1 = true then (true, (C.2.1, upd td pl C.2.2)) else (false, (C.2.1, td))
theorem fg_is (h : TXT tc tl inp) {q mo pl : Nat} {td : Nat → Int32} (hmo : 0 < mo) : fgO inp tl q td pl mo = cnO (rnA tc tl q mo false) td pl := by
  have n := num_is (pl := pl) (td := td) h (q := q) hmo
  rw [n.1]
  unfold cnO
  cases e : (rnA tc tl q mo false).1 with
  | true => rfl
  | false => rw [if_neg (by decide), if_neg (by decide), n.2 e]
theorem tk_c {q c : Nat} : (tkO tc tl q c).1 = true ↔ pkN tc tl q = c := by
  unfold tkO
  by_cases y : pkN tc tl q = c
  · rw [if_pos y]; exact ⟨fun _ => y, fun _ => rfl⟩
  · rw [if_neg y]; exact ⟨fun x => absurd x Bool.false_ne_true, fun x => absurd x y⟩
theorem sk_c (h : TXT tc tl inp) {q c : Nat} (h0 : 0 < c) (hc : c < 65536) : (skO inp tl q c).1 = true ↔ pkN tc tl q = c := by rw [sk_is h h0 hc]; exact tk_c
theorem rn_no {t mo : Nat} {sg : Bool} (h : ¬ pkN tc tl t = 32) : rnO tc tl t mo sg = (false, (t, nI 0)) := by rw [rnO, if_neg (fun x => h (tk_c.mp x))]
theorem rn_pl {t mo : Nat} (h : pkN tc tl t = 32) : rnO tc tl t mo false = rnA tc tl (t + 1) mo false := by rw [rnO, if_pos (tk_c.mpr h), Bool.false_and, if_neg (by decide)]
/-- a blank and a number -/
theorem nb_is (h : TXT tc tl inp) {q mo pl : Nat} {td : Nat → Int32} (hmo : 0 < mo) : o2 (skT inp tl 32 q td) (fun q td => fgO inp tl q td pl mo) = cnO (rnO tc tl q mo false) td pl := by
  unfold skT
  by_cases y : pkN tc tl q = 32
  · rw [if_pos ((sk_c h (by decide) (by decide)).mpr y), rn_pl y]
    exact fg_is h hmo
  · rw [if_neg (fun x => y ((sk_c h (by decide) (by decide)).mp x)), rn_no y]; rfl
theorem rnA_n {a mo : Nat} {ng : Bool} : (rnA tc tl a mo ng).1 = (rnA tc tl a mo false).1 ∧ (rnA tc tl a mo ng).2.1 = (rnA tc tl a mo false).2.1 ∧ (rnA tc tl a mo true).2.2 = -(rnA tc tl a mo false).2.2 := ⟨rfl, rfl, rfl⟩
/-- a leaning after a blank -/
theorem lh_is (h : TXT tc tl inp) {t pl : Nat} {td : Nat → Int32} (ht : pkN tc tl t = 32) : lhO inp tl (t + 1) td pl = cnO (rnO tc tl t 1 true) td pl := by
  have hr : rnO tc tl t 1 true = if (tkO tc tl (t + 1) 45).1 = true then rnA tc tl (t + 1 + 1) 1 true else rnA tc tl (t + 1) 1 false := by rw [rnO, if_pos (tk_c.mpr ht), Bool.true_and]
  unfold lhO
  rw [sk_is h (by decide) (by decide), hr]
  by_cases y : pkN tc tl (t + 1) = 45
  · have e : tkO tc tl (t + 1) 45 = (true, t + 1 + 1) := by rw [tkO, if_pos y]
    rw [e, fg_is h (by decide)]
    show (if (cnO (rnA tc tl (t + 1 + 1) 1 false) td pl).1 = true then _ else _) = cnO (rnA tc tl (t + 1 + 1) 1 true) td pl
    unfold cnO
    rw [(rnA_n (ng := true)).1, (rnA_n (ng := true)).2.1, (rnA_n (ng := true)).2.2]
    cases z : (rnA tc tl (t + 1 + 1) 1 false).1 with
    | true =>
      show (true, ((rnA tc tl (t + 1 + 1) 1 false).2.1, upd (upd td pl (rnA tc tl (t + 1 + 1) 1 false).2.2) pl (-(upd td pl (rnA tc tl (t + 1 + 1) 1 false).2.2 pl)))) = (true, ((rnA tc tl (t + 1 + 1) 1 false).2.1, upd td pl (-(rnA tc tl (t + 1 + 1) 1 false).2.2)))
      rw [pk_us, upd2]
    | false => rfl
  · have e : tkO tc tl (t + 1) 45 = (false, t + 1) := by rw [tkO, if_neg y]
    rw [e, fg_is h (by decide)]
    show (if (cnO (rnA tc tl (t + 1) 1 false) td pl).1 = true then _ else _) = cnO (rnA tc tl (t + 1) 1 false) td pl
    unfold cnO
    cases z : (rnA tc tl (t + 1) 1 false).1 with
    | true =>
      show (true, ((rnA tc tl (t + 1) 1 false).2.1, upd (upd td pl (rnA tc tl (t + 1) 1 false).2.2) pl (upd td pl (rnA tc tl (t + 1) 1 false).2.2 pl))) = (true, ((rnA tc tl (t + 1) 1 false).2.1, upd td pl (rnA tc tl (t + 1) 1 false).2.2))
      rw [pk_us, upd2]
    | false => rfl
def OE (C : Bool × TX) (M : OH) (p : Nat) (td : Nat → Int32) : Prop := C.1 = M.1 ∧ C.2.1 = M.2.1 ∧ (M.1 = true → ∃ w : Nat, w ≤ 7 ∧ C.2.2.1 = nI w ∧ M.2.2 p = nI w ∧ (w ≤ 5 → C.2.2.2.1 = M.2.2 (p + 1)) ∧ (w ≤ 1 → C.2.2.2.2.1 = M.2.2 (p + 2))) ∧ ∀ i, i < p ∨ p + 2 < i → M.2.2 i = td i
theorem up_o {td : Nat → Int32} {p i k : Nat} {v : Int32} (h : i < p ∨ p + 2 < i) (hk : k ≤ 2) : upd td (p + k) v i = td i := pk_un (by omega)
theorem OE_f {pos p : Nat} {x : Int32 × (Int32 × (Int32 × Int32))} {td td2 : Nat → Int32} (h : ∀ i, i < p ∨ p + 2 < i → td2 i = td i) : OE (false, (pos, x)) (false, (pos, td2)) p td := ⟨rfl, rfl, fun y => absurd y Bool.false_ne_true, h⟩
/-- two numbers -/
theorem OE_2 {C : Bool × (Nat × Int32)} {p w mo : Nat} {td : Nat → Int32} {se nu1 : Int32} (hw : w ≤ 1) : OE (if C.1 = true then ((rnO tc tl C.2.1 mo false).1, ((rnO tc tl C.2.1 mo false).2.1, (nI w, (C.2.2, ((rnO tc tl C.2.1 mo false).2.2, (rnO tc tl C.2.1 mo false).2.2))))) else (false, (C.2.1, (nI w, (C.2.2, (se, nu1)))))) (o2 (cnO C (upd td p (nI w)) (p + 1)) (fun q td => cnO (rnO tc tl q mo false) td (p + 2))) p td := by
  have o : ∀ i, i < p ∨ p + 2 < i → upd td p (nI w) i = td i := fun i hi => pk_un (by omega)
  unfold cnO o2
  cases e : C.1 with
  | false => exact OE_f o
  | true =>
    show OE ((rnO tc tl C.2.1 mo false).1, ((rnO tc tl C.2.1 mo false).2.1, (nI w, (C.2.2, ((rnO tc tl C.2.1 mo false).2.2, (rnO tc tl C.2.1 mo false).2.2))))) (if (rnO tc tl C.2.1 mo false).1 = true then (true, ((rnO tc tl C.2.1 mo false).2.1, upd (upd (upd td p (nI w)) (p + 1) C.2.2) (p + 2) (rnO tc tl C.2.1 mo false).2.2)) else (false, ((rnO tc tl C.2.1 mo false).2.1, upd (upd td p (nI w)) (p + 1) C.2.2))) p td
    have o1 : ∀ i, i < p ∨ p + 2 < i → upd (upd td p (nI w)) (p + 1) C.2.2 i = td i := fun i hi => by rw [up_o hi (by decide)]; exact o i hi
    cases e2 : (rnO tc tl C.2.1 mo false).1 with
    | false => exact OE_f o1
    | true => exact ⟨rfl, rfl, fun _ => ⟨w, by omega, rfl, by show upd _ (p + 2) _ p = _; rw [pk_un (by omega), pk_un (by omega), pk_us], fun _ => by show _ = upd _ (p + 2) _ (p + 1); rw [pk_un (by omega), pk_us], fun _ => by show _ = upd _ (p + 2) _ (p + 2); rw [pk_us]⟩, fun i hi => by show upd _ (p + 2) _ i = _; rw [up_o hi (by decide)]; exact o1 i hi⟩
/-- one number -/
theorem OE_1 {C : Bool × (Nat × Int32)} {p w : Nat} {td : Nat → Int32} {se nu1 : Int32} (hw : 2 ≤ w ∧ w ≤ 5) : OE (C.1, (C.2.1, (nI w, (C.2.2, (se, nu1))))) (cnO C (upd td p (nI w)) (p + 1)) p td := by
  have o : ∀ i, i < p ∨ p + 2 < i → upd td p (nI w) i = td i := fun i hi => pk_un (by omega)
  unfold cnO
  cases e : C.1 with
  | false => exact OE_f o
  | true => exact ⟨rfl, rfl, fun _ => ⟨w, by omega, rfl, by show upd _ (p + 1) _ p = _; rw [pk_un (by omega), pk_us], fun _ => by show _ = upd _ (p + 1) _ (p + 1); rw [pk_us], fun x => by omega⟩, fun i hi => by show upd _ (p + 1) _ i = _; rw [up_o hi (by decide)]; exact o i hi⟩
/-- what the class finds of a word -/
def WR (tc : Nat → Nat) (tl q w q1 : Nat) (s : List Nat) : Prop := (mt (fun k => pkN tc tl (q1 + k)) s = s.length → rwK tc tl q = some w ∧ rwA tc tl q = q1 + s.length) ∧ (mt (fun k => pkN tc tl (q1 + k)) s < s.length → rwK tc tl q = none ∧ rwA tc tl q = q1 + mt (fun k => pkN tc tl (q1 + k)) s)
theorem roK_S {q w t : Nat} {fi se nu : Int32} (h : rwK tc tl q = some w ∧ rwA tc tl q = t) : roK tc tl q fi se nu = roT tc tl t w fi se nu := by rw [roK, h.1, h.2]; rfl
theorem roK_N {q t : Nat} {fi se nu : Int32} (h : rwK tc tl q = none ∧ rwA tc tl q = t) : roK tc tl q fi se nu = (false, (t, (-1, (fi, (se, nu))))) := by rw [roK, h.1, h.2]; rfl
theorem wd_b (h : TXT tc tl inp) {q1 i : Nat} {s : List Nat} (hi : i < 16) (hs : sN.getD i [] = s ++ [32]) : (mt (fun k => pkN tc tl (q1 + k)) s < s.length → wdO inp tl q1 i = (false, q1 + mt (fun k => pkN tc tl (q1 + k)) s)) ∧ (mt (fun k => pkN tc tl (q1 + k)) s = s.length → (pkN tc tl (q1 + s.length) = 32 → wdO inp tl q1 i = (true, q1 + s.length + 1)) ∧ (¬ pkN tc tl (q1 + s.length) = 32 → wdO inp tl q1 i = (false, q1 + s.length))) := by
  have e := wd_is h (q := q1) hi
  rw [hs, mt_snoc, List.length_append] at e
  refine ⟨fun x => ?_, fun x => ⟨fun y => ?_, fun y => ?_⟩⟩
  · rw [if_neg (by omega)] at e
    rw [e, decide_eq_false (by show ¬ _ = s.length + 1; omega)]
  · rw [if_pos x, if_pos y] at e
    rw [e, decide_eq_true (by show s.length + 1 = s.length + 1; rfl)]; rfl
  · rw [if_pos x, if_neg y] at e
    rw [e, decide_eq_false (by show ¬ s.length + 0 = s.length + 1; omega)]; rfl
theorem up0 {td : Nat → Int32} {p : Nat} {v : Int32} : ∀ i, i < p ∨ p + 2 < i → upd td p v i = td i := fun i hi => pk_un (by omega)
theorem od_N (h : TXT tc tl inp) {q q1 w i p : Nat} {s : List Nat} {td : Nat → Int32} {fi se nu : Int32} (hi : i < 16) (hs : sN.getD i [] = s ++ [32]) (hw : 2 ≤ w ∧ w ≤ 5) (hW : WR tc tl q w q1 s) : OE (roK tc tl q fi se nu) (ohN inp tl q1 td p w i) p td := by
  have B := wd_b h (q1 := q1) hi hs
  have ml := mt_le (fun k => pkN tc tl (q1 + k)) s
  have hT : ∀ t, roT tc tl t w fi se nu = ((rnO tc tl t 1 false).1, ((rnO tc tl t 1 false).2.1, (nI w, ((rnO tc tl t 1 false).2.2, (se, (rnO tc tl t 1 false).2.2))))) := by
    intro t
    have hw4 : w = 2 ∨ w = 3 ∨ w = 4 ∨ w = 5 := by omega
    rcases hw4 with rfl | rfl | rfl | rfl <;> rfl
  unfold ohN wdT
  rcases Nat.lt_or_ge (mt (fun k => pkN tc tl (q1 + k)) s) s.length with x | x
  · rw [roK_N (hW.2 x), B.1 x]; exact OE_f up0
  · have x : mt (fun k => pkN tc tl (q1 + k)) s = s.length := by omega
    rw [roK_S (hW.1 x), hT]
    by_cases y : pkN tc tl (q1 + s.length) = 32
    · rw [(B.2 x).1 y, rn_pl y]
      show OE _ (fgO inp tl (q1 + s.length + 1) (upd td p (nI w)) (p + 1) 1) p td
      rw [fg_is h (by decide)]
      exact OE_1 hw
    · rw [(B.2 x).2 y, rn_no y]; exact OE_f up0
theorem od_W (h : TXT tc tl inp) {q q1 w i p : Nat} {s : List Nat} {td : Nat → Int32} {fi se nu : Int32} (hi : i < 16) (hs : sN.getD i [] = s) (hw : w = 6 ∨ w = 7) (hW : WR tc tl q w q1 s) : OE (roK tc tl q fi se nu) (ohW inp tl q1 td p w i) p td := by
  have e := wd_is h (q := q1) hi
  rw [hs] at e
  have ml := mt_le (fun k => pkN tc tl (q1 + k)) s
  unfold ohW wdT
  rw [e]
  rcases Nat.lt_or_ge (mt (fun k => pkN tc tl (q1 + k)) s) s.length with x | x
  · rw [roK_N (hW.2 x), decide_eq_false (by omega)]; exact OE_f up0
  · have x : mt (fun k => pkN tc tl (q1 + k)) s = s.length := by omega
    rw [roK_S (hW.1 x), decide_eq_true x, x]
    rcases hw with rfl | rfl
    · exact ⟨rfl, rfl, fun _ => ⟨6, by decide, rfl, pk_us, fun x => by omega, fun x => by omega⟩, up0⟩
    · exact ⟨rfl, rfl, fun _ => ⟨7, by decide, rfl, pk_us, fun x => by omega, fun x => by omega⟩, up0⟩
theorem od_J (h : TXT tc tl inp) {q q1 p : Nat} {s : List Nat} {td : Nat → Int32} {fi se nu : Int32} (hs : sN.getD 8 [] = s ++ [32]) (hW : WR tc tl q 0 q1 s) : OE (roK tc tl q fi se nu) (ohJ inp tl q1 td p) p td := by
  have B := wd_b h (q1 := q1) (show 8 < 16 by decide) hs
  have ml := mt_le (fun k => pkN tc tl (q1 + k)) s
  unfold ohJ wdT
  rcases Nat.lt_or_ge (mt (fun k => pkN tc tl (q1 + k)) s) s.length with x | x
  · rw [roK_N (hW.2 x), B.1 x]; exact OE_f up0
  · have x : mt (fun k => pkN tc tl (q1 + k)) s = s.length := by omega
    rw [roK_S (hW.1 x)]
    by_cases y : pkN tc tl (q1 + s.length) = 32
    · rw [(B.2 x).1 y]
      show OE _ (o2 (lhO inp tl (q1 + s.length + 1) (upd td p (nI 0)) (p + 1)) (fun q td => o2 (skT inp tl 32 q td) (fun q td => fgO inp tl q td (p + 2) 1))) p td
      rw [lh_is h y]
      have en : (fun q td => o2 (skT inp tl 32 q td) (fun q td => fgO inp tl q td (p + 2) 1)) = (fun q td => cnO (rnO tc tl q 1 false) td (p + 2)) := funext fun q => funext fun td => nb_is h (by decide)
      rw [en]
      exact OE_2 (w := 0) (mo := 1) (by decide)
    · rw [(B.2 x).2 y]
      show OE (roT tc tl (q1 + s.length) 0 fi se nu) _ p td
      unfold roT
      rw [rn_no y]
      exact OE_f up0
theorem roT_1 {t : Nat} {fi se nu : Int32} : roT tc tl t 1 fi se nu = if (rnO tc tl t 3 false).1 = true then ((rnO tc tl (rnO tc tl t 3 false).2.1 2 false).1, ((rnO tc tl (rnO tc tl t 3 false).2.1 2 false).2.1, (nI 1, ((rnO tc tl t 3 false).2.2, ((rnO tc tl (rnO tc tl t 3 false).2.1 2 false).2.2, (rnO tc tl (rnO tc tl t 3 false).2.1 2 false).2.2))))) else (false, ((rnO tc tl t 3 false).2.1, (nI 1, ((rnO tc tl t 3 false).2.2, (se, (rnO tc tl t 3 false).2.2))))) := rfl
theorem od_C (h : TXT tc tl inp) {q q1 p : Nat} {s : List Nat} {td : Nat → Int32} {fi se nu : Int32} (hs : sN.getD 15 [] = s ++ [32]) (hW : WR tc tl q 1 q1 s) : OE (roK tc tl q fi se nu) (ohC inp tl q1 td p) p td := by
  have B := wd_b h (q1 := q1) (show 15 < 16 by decide) hs
  have ml := mt_le (fun k => pkN tc tl (q1 + k)) s
  unfold ohC wdT
  rcases Nat.lt_or_ge (mt (fun k => pkN tc tl (q1 + k)) s) s.length with x | x
  · rw [roK_N (hW.2 x), B.1 x]; exact OE_f up0
  · have x : mt (fun k => pkN tc tl (q1 + k)) s = s.length := by omega
    rw [roK_S (hW.1 x)]
    by_cases y : pkN tc tl (q1 + s.length) = 32
    · rw [(B.2 x).1 y]
      show OE _ (o2 (fgO inp tl (q1 + s.length + 1) (upd td p (nI 1)) (p + 1) 3) (fun q td => o2 (skT inp tl 32 q td) (fun q td => fgO inp tl q td (p + 2) 2))) p td
      rw [fg_is h (by decide), ← rn_pl y]
      have en : (fun q td => o2 (skT inp tl 32 q td) (fun q td => fgO inp tl q td (p + 2) 2)) = (fun q td => cnO (rnO tc tl q 2 false) td (p + 2)) := funext fun q => funext fun td => nb_is h (by decide)
      rw [en]
      exact OE_2 (w := 1) (mo := 2) (by decide)
    · rw [(B.2 x).2 y]
      rw [roT_1, rn_no y]
      exact OE_f up0
theorem laC {q c : Nat} {s : List Nat} : mt (fun k => pkN tc tl (q + k)) (c :: s) = if pkN tc tl q = c then 1 + mt (fun k => pkN tc tl (q + 1 + k)) s else 0 := by
  rw [mt]
  have e : (fun k => (fun k => pkN tc tl (q + k)) (k + 1)) = fun k => pkN tc tl (q + 1 + k) := funext fun k => by show pkN tc tl (q + (k + 1)) = _; rw [show q + (k + 1) = q + 1 + k by omega]
  rw [e]; rfl
theorem mt_nil {A : Nat → Nat} : mt A [] = 0 := rfl
theorem wj (h : TXT tc tl inp) {q p : Nat} {td : Nat → Int32} {fi se nu : Int32} (c0 : pkN tc tl q = 106) : OE (roK tc tl q fi se nu) (ohJ inp tl (q + 1) td p) p td := by
  have l0 : laN tc tl q 0 = 1 + (mt (fun k => pkN tc tl (q + 1 + k)) [117, 114, 111, 114]) := by rw [la_is h (by decide), show sN.getD 0 [] = [106, 117, 114, 111, 114] from rfl, laC, if_pos (by omega)]
  have l1 : laN tc tl q 1 = 0 := by rw [la_is h (by decide), show sN.getD 1 [] = [99, 97, 115, 101] from rfl, laC, if_neg (by omega)]
  have l2 : laN tc tl q 2 = 0 := by rw [la_is h (by decide), show sN.getD 2 [] = [99, 97, 108, 108] from rfl, laC, if_neg (by omega)]
  have l3 : laN tc tl q 3 = 0 := by rw [la_is h (by decide), show sN.getD 3 [] = [118, 111, 116, 101] from rfl, laC, if_neg (by omega)]
  have l4 : laN tc tl q 4 = 0 := by rw [la_is h (by decide), show sN.getD 4 [] = [117, 110, 115, 97, 121] from rfl, laC, if_neg (by omega)]
  have l5 : laN tc tl q 5 = 0 := by rw [la_is h (by decide), show sN.getD 5 [] = [97, 112, 112, 101, 97, 108] from rfl, laC, if_neg (by omega)]
  have l6 : laN tc tl q 6 = 0 := by rw [la_is h (by decide), show sN.getD 6 [] = [99, 108, 101, 114, 107] from rfl, laC, if_neg (by omega)]
  have l7 : laN tc tl q 7 = 0 := by rw [la_is h (by decide), show sN.getD 7 [] = [110, 105, 103, 104, 116] from rfl, laC, if_neg (by omega)]
  have W := wrd (tc := tc) (tl := tl) (q := q) (w := 0) (by decide) (fun v hv hne => by
    have hv8 : v = 0 ∨ v = 1 ∨ v = 2 ∨ v = 3 ∨ v = 4 ∨ v = 5 ∨ v = 6 ∨ v = 7 := by omega
    rcases hv8 with rfl | rfl | rfl | rfl | rfl | rfl | rfl | rfl
    · exact absurd rfl hne
    · rw [l1, l0]; exact ⟨by show _ < 4; omega, by omega⟩
    · rw [l2, l0]; exact ⟨by show _ < 4; omega, by omega⟩
    · rw [l3, l0]; exact ⟨by show _ < 4; omega, by omega⟩
    · rw [l4, l0]; exact ⟨by show _ < 5; omega, by omega⟩
    · rw [l5, l0]; exact ⟨by show _ < 6; omega, by omega⟩
    · rw [l6, l0]; exact ⟨by show _ < 5; omega, by omega⟩
    · rw [l7, l0]; exact ⟨by show _ < 5; omega, by omega⟩)
  rw [l0] at W
  have hW : WR tc tl q 0 (q + 1) [117, 114, 111, 114] := by
    have ml := mt_le (fun k => pkN tc tl (q + 1 + k)) [117, 114, 111, 114]
    refine ⟨fun x => ?_, fun x => ?_⟩
    · have x : mt (fun k => pkN tc tl (q + 1 + k)) [117, 114, 111, 114] = 4 := x
      have y := W.1 (by show _ = 5; omega)
      exact ⟨y.1, y.2.trans (by show q + 5 = q + 1 + 4; omega)⟩
    · have x : mt (fun k => pkN tc tl (q + 1 + k)) [117, 114, 111, 114] < 4 := x
      have y := W.2 (by show _ < 5; omega)
      exact ⟨y.1, y.2.trans (by omega)⟩
  exact od_J h (s := [117, 114, 111, 114]) rfl hW
theorem wv (h : TXT tc tl inp) {q p : Nat} {td : Nat → Int32} {fi se nu : Int32} (c0 : pkN tc tl q = 118) : OE (roK tc tl q fi se nu) (ohN inp tl (q + 1) td p 3 9) p td := by
  have l0 : laN tc tl q 0 = 0 := by rw [la_is h (by decide), show sN.getD 0 [] = [106, 117, 114, 111, 114] from rfl, laC, if_neg (by omega)]
  have l1 : laN tc tl q 1 = 0 := by rw [la_is h (by decide), show sN.getD 1 [] = [99, 97, 115, 101] from rfl, laC, if_neg (by omega)]
  have l2 : laN tc tl q 2 = 0 := by rw [la_is h (by decide), show sN.getD 2 [] = [99, 97, 108, 108] from rfl, laC, if_neg (by omega)]
  have l3 : laN tc tl q 3 = 1 + (mt (fun k => pkN tc tl (q + 1 + k)) [111, 116, 101]) := by rw [la_is h (by decide), show sN.getD 3 [] = [118, 111, 116, 101] from rfl, laC, if_pos (by omega)]
  have l4 : laN tc tl q 4 = 0 := by rw [la_is h (by decide), show sN.getD 4 [] = [117, 110, 115, 97, 121] from rfl, laC, if_neg (by omega)]
  have l5 : laN tc tl q 5 = 0 := by rw [la_is h (by decide), show sN.getD 5 [] = [97, 112, 112, 101, 97, 108] from rfl, laC, if_neg (by omega)]
  have l6 : laN tc tl q 6 = 0 := by rw [la_is h (by decide), show sN.getD 6 [] = [99, 108, 101, 114, 107] from rfl, laC, if_neg (by omega)]
  have l7 : laN tc tl q 7 = 0 := by rw [la_is h (by decide), show sN.getD 7 [] = [110, 105, 103, 104, 116] from rfl, laC, if_neg (by omega)]
  have W := wrd (tc := tc) (tl := tl) (q := q) (w := 3) (by decide) (fun v hv hne => by
    have hv8 : v = 0 ∨ v = 1 ∨ v = 2 ∨ v = 3 ∨ v = 4 ∨ v = 5 ∨ v = 6 ∨ v = 7 := by omega
    rcases hv8 with rfl | rfl | rfl | rfl | rfl | rfl | rfl | rfl
    · rw [l0, l3]; exact ⟨by show _ < 5; omega, by omega⟩
    · rw [l1, l3]; exact ⟨by show _ < 4; omega, by omega⟩
    · rw [l2, l3]; exact ⟨by show _ < 4; omega, by omega⟩
    · exact absurd rfl hne
    · rw [l4, l3]; exact ⟨by show _ < 5; omega, by omega⟩
    · rw [l5, l3]; exact ⟨by show _ < 6; omega, by omega⟩
    · rw [l6, l3]; exact ⟨by show _ < 5; omega, by omega⟩
    · rw [l7, l3]; exact ⟨by show _ < 5; omega, by omega⟩)
  rw [l3] at W
  have hW : WR tc tl q 3 (q + 1) [111, 116, 101] := by
    have ml := mt_le (fun k => pkN tc tl (q + 1 + k)) [111, 116, 101]
    refine ⟨fun x => ?_, fun x => ?_⟩
    · have x : mt (fun k => pkN tc tl (q + 1 + k)) [111, 116, 101] = 3 := x
      have y := W.1 (by show _ = 4; omega)
      exact ⟨y.1, y.2.trans (by show q + 4 = q + 1 + 3; omega)⟩
    · have x : mt (fun k => pkN tc tl (q + 1 + k)) [111, 116, 101] < 3 := x
      have y := W.2 (by show _ < 4; omega)
      exact ⟨y.1, y.2.trans (by omega)⟩
  exact od_N h (s := [111, 116, 101]) (by decide) rfl (by decide) hW
theorem wu (h : TXT tc tl inp) {q p : Nat} {td : Nat → Int32} {fi se nu : Int32} (c0 : pkN tc tl q = 117) : OE (roK tc tl q fi se nu) (ohN inp tl (q + 1) td p 4 10) p td := by
  have l0 : laN tc tl q 0 = 0 := by rw [la_is h (by decide), show sN.getD 0 [] = [106, 117, 114, 111, 114] from rfl, laC, if_neg (by omega)]
  have l1 : laN tc tl q 1 = 0 := by rw [la_is h (by decide), show sN.getD 1 [] = [99, 97, 115, 101] from rfl, laC, if_neg (by omega)]
  have l2 : laN tc tl q 2 = 0 := by rw [la_is h (by decide), show sN.getD 2 [] = [99, 97, 108, 108] from rfl, laC, if_neg (by omega)]
  have l3 : laN tc tl q 3 = 0 := by rw [la_is h (by decide), show sN.getD 3 [] = [118, 111, 116, 101] from rfl, laC, if_neg (by omega)]
  have l4 : laN tc tl q 4 = 1 + (mt (fun k => pkN tc tl (q + 1 + k)) [110, 115, 97, 121]) := by rw [la_is h (by decide), show sN.getD 4 [] = [117, 110, 115, 97, 121] from rfl, laC, if_pos (by omega)]
  have l5 : laN tc tl q 5 = 0 := by rw [la_is h (by decide), show sN.getD 5 [] = [97, 112, 112, 101, 97, 108] from rfl, laC, if_neg (by omega)]
  have l6 : laN tc tl q 6 = 0 := by rw [la_is h (by decide), show sN.getD 6 [] = [99, 108, 101, 114, 107] from rfl, laC, if_neg (by omega)]
  have l7 : laN tc tl q 7 = 0 := by rw [la_is h (by decide), show sN.getD 7 [] = [110, 105, 103, 104, 116] from rfl, laC, if_neg (by omega)]
  have W := wrd (tc := tc) (tl := tl) (q := q) (w := 4) (by decide) (fun v hv hne => by
    have hv8 : v = 0 ∨ v = 1 ∨ v = 2 ∨ v = 3 ∨ v = 4 ∨ v = 5 ∨ v = 6 ∨ v = 7 := by omega
    rcases hv8 with rfl | rfl | rfl | rfl | rfl | rfl | rfl | rfl
    · rw [l0, l4]; exact ⟨by show _ < 5; omega, by omega⟩
    · rw [l1, l4]; exact ⟨by show _ < 4; omega, by omega⟩
    · rw [l2, l4]; exact ⟨by show _ < 4; omega, by omega⟩
    · rw [l3, l4]; exact ⟨by show _ < 4; omega, by omega⟩
    · exact absurd rfl hne
    · rw [l5, l4]; exact ⟨by show _ < 6; omega, by omega⟩
    · rw [l6, l4]; exact ⟨by show _ < 5; omega, by omega⟩
    · rw [l7, l4]; exact ⟨by show _ < 5; omega, by omega⟩)
  rw [l4] at W
  have hW : WR tc tl q 4 (q + 1) [110, 115, 97, 121] := by
    have ml := mt_le (fun k => pkN tc tl (q + 1 + k)) [110, 115, 97, 121]
    refine ⟨fun x => ?_, fun x => ?_⟩
    · have x : mt (fun k => pkN tc tl (q + 1 + k)) [110, 115, 97, 121] = 4 := x
      have y := W.1 (by show _ = 5; omega)
      exact ⟨y.1, y.2.trans (by show q + 5 = q + 1 + 4; omega)⟩
    · have x : mt (fun k => pkN tc tl (q + 1 + k)) [110, 115, 97, 121] < 4 := x
      have y := W.2 (by show _ < 5; omega)
      exact ⟨y.1, y.2.trans (by omega)⟩
  exact od_N h (s := [110, 115, 97, 121]) (by decide) rfl (by decide) hW
theorem wa (h : TXT tc tl inp) {q p : Nat} {td : Nat → Int32} {fi se nu : Int32} (c0 : pkN tc tl q = 97) : OE (roK tc tl q fi se nu) (ohN inp tl (q + 1) td p 5 11) p td := by
  have l0 : laN tc tl q 0 = 0 := by rw [la_is h (by decide), show sN.getD 0 [] = [106, 117, 114, 111, 114] from rfl, laC, if_neg (by omega)]
  have l1 : laN tc tl q 1 = 0 := by rw [la_is h (by decide), show sN.getD 1 [] = [99, 97, 115, 101] from rfl, laC, if_neg (by omega)]
  have l2 : laN tc tl q 2 = 0 := by rw [la_is h (by decide), show sN.getD 2 [] = [99, 97, 108, 108] from rfl, laC, if_neg (by omega)]
  have l3 : laN tc tl q 3 = 0 := by rw [la_is h (by decide), show sN.getD 3 [] = [118, 111, 116, 101] from rfl, laC, if_neg (by omega)]
  have l4 : laN tc tl q 4 = 0 := by rw [la_is h (by decide), show sN.getD 4 [] = [117, 110, 115, 97, 121] from rfl, laC, if_neg (by omega)]
  have l5 : laN tc tl q 5 = 1 + (mt (fun k => pkN tc tl (q + 1 + k)) [112, 112, 101, 97, 108]) := by rw [la_is h (by decide), show sN.getD 5 [] = [97, 112, 112, 101, 97, 108] from rfl, laC, if_pos (by omega)]
  have l6 : laN tc tl q 6 = 0 := by rw [la_is h (by decide), show sN.getD 6 [] = [99, 108, 101, 114, 107] from rfl, laC, if_neg (by omega)]
  have l7 : laN tc tl q 7 = 0 := by rw [la_is h (by decide), show sN.getD 7 [] = [110, 105, 103, 104, 116] from rfl, laC, if_neg (by omega)]
  have W := wrd (tc := tc) (tl := tl) (q := q) (w := 5) (by decide) (fun v hv hne => by
    have hv8 : v = 0 ∨ v = 1 ∨ v = 2 ∨ v = 3 ∨ v = 4 ∨ v = 5 ∨ v = 6 ∨ v = 7 := by omega
    rcases hv8 with rfl | rfl | rfl | rfl | rfl | rfl | rfl | rfl
    · rw [l0, l5]; exact ⟨by show _ < 5; omega, by omega⟩
    · rw [l1, l5]; exact ⟨by show _ < 4; omega, by omega⟩
    · rw [l2, l5]; exact ⟨by show _ < 4; omega, by omega⟩
    · rw [l3, l5]; exact ⟨by show _ < 4; omega, by omega⟩
    · rw [l4, l5]; exact ⟨by show _ < 5; omega, by omega⟩
    · exact absurd rfl hne
    · rw [l6, l5]; exact ⟨by show _ < 5; omega, by omega⟩
    · rw [l7, l5]; exact ⟨by show _ < 5; omega, by omega⟩)
  rw [l5] at W
  have hW : WR tc tl q 5 (q + 1) [112, 112, 101, 97, 108] := by
    have ml := mt_le (fun k => pkN tc tl (q + 1 + k)) [112, 112, 101, 97, 108]
    refine ⟨fun x => ?_, fun x => ?_⟩
    · have x : mt (fun k => pkN tc tl (q + 1 + k)) [112, 112, 101, 97, 108] = 5 := x
      have y := W.1 (by show _ = 6; omega)
      exact ⟨y.1, y.2.trans (by show q + 6 = q + 1 + 5; omega)⟩
    · have x : mt (fun k => pkN tc tl (q + 1 + k)) [112, 112, 101, 97, 108] < 5 := x
      have y := W.2 (by show _ < 6; omega)
      exact ⟨y.1, y.2.trans (by omega)⟩
  exact od_N h (s := [112, 112, 101, 97, 108]) (by decide) rfl (by decide) hW
theorem wn (h : TXT tc tl inp) {q p : Nat} {td : Nat → Int32} {fi se nu : Int32} (c0 : pkN tc tl q = 110) : OE (roK tc tl q fi se nu) (ohW inp tl (q + 1) td p 7 12) p td := by
  have l0 : laN tc tl q 0 = 0 := by rw [la_is h (by decide), show sN.getD 0 [] = [106, 117, 114, 111, 114] from rfl, laC, if_neg (by omega)]
  have l1 : laN tc tl q 1 = 0 := by rw [la_is h (by decide), show sN.getD 1 [] = [99, 97, 115, 101] from rfl, laC, if_neg (by omega)]
  have l2 : laN tc tl q 2 = 0 := by rw [la_is h (by decide), show sN.getD 2 [] = [99, 97, 108, 108] from rfl, laC, if_neg (by omega)]
  have l3 : laN tc tl q 3 = 0 := by rw [la_is h (by decide), show sN.getD 3 [] = [118, 111, 116, 101] from rfl, laC, if_neg (by omega)]
  have l4 : laN tc tl q 4 = 0 := by rw [la_is h (by decide), show sN.getD 4 [] = [117, 110, 115, 97, 121] from rfl, laC, if_neg (by omega)]
  have l5 : laN tc tl q 5 = 0 := by rw [la_is h (by decide), show sN.getD 5 [] = [97, 112, 112, 101, 97, 108] from rfl, laC, if_neg (by omega)]
  have l6 : laN tc tl q 6 = 0 := by rw [la_is h (by decide), show sN.getD 6 [] = [99, 108, 101, 114, 107] from rfl, laC, if_neg (by omega)]
  have l7 : laN tc tl q 7 = 1 + (mt (fun k => pkN tc tl (q + 1 + k)) [105, 103, 104, 116]) := by rw [la_is h (by decide), show sN.getD 7 [] = [110, 105, 103, 104, 116] from rfl, laC, if_pos (by omega)]
  have W := wrd (tc := tc) (tl := tl) (q := q) (w := 7) (by decide) (fun v hv hne => by
    have hv8 : v = 0 ∨ v = 1 ∨ v = 2 ∨ v = 3 ∨ v = 4 ∨ v = 5 ∨ v = 6 ∨ v = 7 := by omega
    rcases hv8 with rfl | rfl | rfl | rfl | rfl | rfl | rfl | rfl
    · rw [l0, l7]; exact ⟨by show _ < 5; omega, by omega⟩
    · rw [l1, l7]; exact ⟨by show _ < 4; omega, by omega⟩
    · rw [l2, l7]; exact ⟨by show _ < 4; omega, by omega⟩
    · rw [l3, l7]; exact ⟨by show _ < 4; omega, by omega⟩
    · rw [l4, l7]; exact ⟨by show _ < 5; omega, by omega⟩
    · rw [l5, l7]; exact ⟨by show _ < 6; omega, by omega⟩
    · rw [l6, l7]; exact ⟨by show _ < 5; omega, by omega⟩
    · exact absurd rfl hne)
  rw [l7] at W
  have hW : WR tc tl q 7 (q + 1) [105, 103, 104, 116] := by
    have ml := mt_le (fun k => pkN tc tl (q + 1 + k)) [105, 103, 104, 116]
    refine ⟨fun x => ?_, fun x => ?_⟩
    · have x : mt (fun k => pkN tc tl (q + 1 + k)) [105, 103, 104, 116] = 4 := x
      have y := W.1 (by show _ = 5; omega)
      exact ⟨y.1, y.2.trans (by show q + 5 = q + 1 + 4; omega)⟩
    · have x : mt (fun k => pkN tc tl (q + 1 + k)) [105, 103, 104, 116] < 4 := x
      have y := W.2 (by show _ < 5; omega)
      exact ⟨y.1, y.2.trans (by omega)⟩
  exact od_W h (s := [105, 103, 104, 116]) (by decide) rfl (by decide) hW
theorem wcl (h : TXT tc tl inp) {q p : Nat} {td : Nat → Int32} {fi se nu : Int32} (c0 : pkN tc tl q = 99) (c1 : pkN tc tl (q + 1) = 108) : OE (roK tc tl q fi se nu) (ohW inp tl (q + 1 + 1) td p 6 13) p td := by
  have l0 : laN tc tl q 0 = 0 := by rw [la_is h (by decide), show sN.getD 0 [] = [106, 117, 114, 111, 114] from rfl, laC, if_neg (by omega)]
  have l1 : laN tc tl q 1 = 1 + 0 := by rw [la_is h (by decide), show sN.getD 1 [] = [99, 97, 115, 101] from rfl, laC, if_pos (by omega), laC, if_neg (by omega)]
  have l2 : laN tc tl q 2 = 1 + 0 := by rw [la_is h (by decide), show sN.getD 2 [] = [99, 97, 108, 108] from rfl, laC, if_pos (by omega), laC, if_neg (by omega)]
  have l3 : laN tc tl q 3 = 0 := by rw [la_is h (by decide), show sN.getD 3 [] = [118, 111, 116, 101] from rfl, laC, if_neg (by omega)]
  have l4 : laN tc tl q 4 = 0 := by rw [la_is h (by decide), show sN.getD 4 [] = [117, 110, 115, 97, 121] from rfl, laC, if_neg (by omega)]
  have l5 : laN tc tl q 5 = 0 := by rw [la_is h (by decide), show sN.getD 5 [] = [97, 112, 112, 101, 97, 108] from rfl, laC, if_neg (by omega)]
  have l6 : laN tc tl q 6 = 1 + (1 + (mt (fun k => pkN tc tl (q + 1 + 1 + k)) [101, 114, 107])) := by rw [la_is h (by decide), show sN.getD 6 [] = [99, 108, 101, 114, 107] from rfl, laC, if_pos (by omega), laC, if_pos (by omega)]
  have l7 : laN tc tl q 7 = 0 := by rw [la_is h (by decide), show sN.getD 7 [] = [110, 105, 103, 104, 116] from rfl, laC, if_neg (by omega)]
  have W := wrd (tc := tc) (tl := tl) (q := q) (w := 6) (by decide) (fun v hv hne => by
    have hv8 : v = 0 ∨ v = 1 ∨ v = 2 ∨ v = 3 ∨ v = 4 ∨ v = 5 ∨ v = 6 ∨ v = 7 := by omega
    rcases hv8 with rfl | rfl | rfl | rfl | rfl | rfl | rfl | rfl
    · rw [l0, l6]; exact ⟨by show _ < 5; omega, by omega⟩
    · rw [l1, l6]; exact ⟨by show _ < 4; omega, by omega⟩
    · rw [l2, l6]; exact ⟨by show _ < 4; omega, by omega⟩
    · rw [l3, l6]; exact ⟨by show _ < 4; omega, by omega⟩
    · rw [l4, l6]; exact ⟨by show _ < 5; omega, by omega⟩
    · rw [l5, l6]; exact ⟨by show _ < 6; omega, by omega⟩
    · exact absurd rfl hne
    · rw [l7, l6]; exact ⟨by show _ < 5; omega, by omega⟩)
  rw [l6] at W
  have hW : WR tc tl q 6 (q + 1 + 1) [101, 114, 107] := by
    have ml := mt_le (fun k => pkN tc tl (q + 1 + 1 + k)) [101, 114, 107]
    refine ⟨fun x => ?_, fun x => ?_⟩
    · have x : mt (fun k => pkN tc tl (q + 1 + 1 + k)) [101, 114, 107] = 3 := x
      have y := W.1 (by show _ = 5; omega)
      exact ⟨y.1, y.2.trans (by show q + 5 = q + 1 + 1 + 3; omega)⟩
    · have x : mt (fun k => pkN tc tl (q + 1 + 1 + k)) [101, 114, 107] < 3 := x
      have y := W.2 (by show _ < 5; omega)
      exact ⟨y.1, y.2.trans (by omega)⟩
  exact od_W h (s := [101, 114, 107]) (by decide) rfl (by decide) hW
theorem wcal (h : TXT tc tl inp) {q p : Nat} {td : Nat → Int32} {fi se nu : Int32} (c0 : pkN tc tl q = 99) (c1 : pkN tc tl (q + 1) = 97) (c2 : pkN tc tl (q + 1 + 1) = 108) : OE (roK tc tl q fi se nu) (ohN inp tl (q + 1 + 1 + 1) td p 2 14) p td := by
  have l0 : laN tc tl q 0 = 0 := by rw [la_is h (by decide), show sN.getD 0 [] = [106, 117, 114, 111, 114] from rfl, laC, if_neg (by omega)]
  have l1 : laN tc tl q 1 = 1 + (1 + 0) := by rw [la_is h (by decide), show sN.getD 1 [] = [99, 97, 115, 101] from rfl, laC, if_pos (by omega), laC, if_pos (by omega), laC, if_neg (by omega)]
  have l2 : laN tc tl q 2 = 1 + (1 + (1 + (mt (fun k => pkN tc tl (q + 1 + 1 + 1 + k)) [108]))) := by rw [la_is h (by decide), show sN.getD 2 [] = [99, 97, 108, 108] from rfl, laC, if_pos (by omega), laC, if_pos (by omega), laC, if_pos (by omega)]
  have l3 : laN tc tl q 3 = 0 := by rw [la_is h (by decide), show sN.getD 3 [] = [118, 111, 116, 101] from rfl, laC, if_neg (by omega)]
  have l4 : laN tc tl q 4 = 0 := by rw [la_is h (by decide), show sN.getD 4 [] = [117, 110, 115, 97, 121] from rfl, laC, if_neg (by omega)]
  have l5 : laN tc tl q 5 = 0 := by rw [la_is h (by decide), show sN.getD 5 [] = [97, 112, 112, 101, 97, 108] from rfl, laC, if_neg (by omega)]
  have l6 : laN tc tl q 6 = 1 + 0 := by rw [la_is h (by decide), show sN.getD 6 [] = [99, 108, 101, 114, 107] from rfl, laC, if_pos (by omega), laC, if_neg (by omega)]
  have l7 : laN tc tl q 7 = 0 := by rw [la_is h (by decide), show sN.getD 7 [] = [110, 105, 103, 104, 116] from rfl, laC, if_neg (by omega)]
  have W := wrd (tc := tc) (tl := tl) (q := q) (w := 2) (by decide) (fun v hv hne => by
    have hv8 : v = 0 ∨ v = 1 ∨ v = 2 ∨ v = 3 ∨ v = 4 ∨ v = 5 ∨ v = 6 ∨ v = 7 := by omega
    rcases hv8 with rfl | rfl | rfl | rfl | rfl | rfl | rfl | rfl
    · rw [l0, l2]; exact ⟨by show _ < 5; omega, by omega⟩
    · rw [l1, l2]; exact ⟨by show _ < 4; omega, by omega⟩
    · exact absurd rfl hne
    · rw [l3, l2]; exact ⟨by show _ < 4; omega, by omega⟩
    · rw [l4, l2]; exact ⟨by show _ < 5; omega, by omega⟩
    · rw [l5, l2]; exact ⟨by show _ < 6; omega, by omega⟩
    · rw [l6, l2]; exact ⟨by show _ < 5; omega, by omega⟩
    · rw [l7, l2]; exact ⟨by show _ < 5; omega, by omega⟩)
  rw [l2] at W
  have hW : WR tc tl q 2 (q + 1 + 1 + 1) [108] := by
    have ml := mt_le (fun k => pkN tc tl (q + 1 + 1 + 1 + k)) [108]
    refine ⟨fun x => ?_, fun x => ?_⟩
    · have x : mt (fun k => pkN tc tl (q + 1 + 1 + 1 + k)) [108] = 1 := x
      have y := W.1 (by show _ = 4; omega)
      exact ⟨y.1, y.2.trans (by show q + 4 = q + 1 + 1 + 1 + 1; omega)⟩
    · have x : mt (fun k => pkN tc tl (q + 1 + 1 + 1 + k)) [108] < 1 := x
      have y := W.2 (by show _ < 4; omega)
      exact ⟨y.1, y.2.trans (by omega)⟩
  exact od_N h (s := [108]) (by decide) rfl (by decide) hW
theorem wcas (h : TXT tc tl inp) {q p : Nat} {td : Nat → Int32} {fi se nu : Int32} (c0 : pkN tc tl q = 99) (c1 : pkN tc tl (q + 1) = 97) (c2 : ¬ pkN tc tl (q + 1 + 1) = 108) : OE (roK tc tl q fi se nu) (ohC inp tl (q + 1 + 1) td p) p td := by
  have l0 : laN tc tl q 0 = 0 := by rw [la_is h (by decide), show sN.getD 0 [] = [106, 117, 114, 111, 114] from rfl, laC, if_neg (by omega)]
  have l1 : laN tc tl q 1 = 1 + (1 + (mt (fun k => pkN tc tl (q + 1 + 1 + k)) [115, 101])) := by rw [la_is h (by decide), show sN.getD 1 [] = [99, 97, 115, 101] from rfl, laC, if_pos (by omega), laC, if_pos (by omega)]
  have l2 : laN tc tl q 2 = 1 + (1 + 0) := by rw [la_is h (by decide), show sN.getD 2 [] = [99, 97, 108, 108] from rfl, laC, if_pos (by omega), laC, if_pos (by omega), laC, if_neg (by omega)]
  have l3 : laN tc tl q 3 = 0 := by rw [la_is h (by decide), show sN.getD 3 [] = [118, 111, 116, 101] from rfl, laC, if_neg (by omega)]
  have l4 : laN tc tl q 4 = 0 := by rw [la_is h (by decide), show sN.getD 4 [] = [117, 110, 115, 97, 121] from rfl, laC, if_neg (by omega)]
  have l5 : laN tc tl q 5 = 0 := by rw [la_is h (by decide), show sN.getD 5 [] = [97, 112, 112, 101, 97, 108] from rfl, laC, if_neg (by omega)]
  have l6 : laN tc tl q 6 = 1 + 0 := by rw [la_is h (by decide), show sN.getD 6 [] = [99, 108, 101, 114, 107] from rfl, laC, if_pos (by omega), laC, if_neg (by omega)]
  have l7 : laN tc tl q 7 = 0 := by rw [la_is h (by decide), show sN.getD 7 [] = [110, 105, 103, 104, 116] from rfl, laC, if_neg (by omega)]
  have W := wrd (tc := tc) (tl := tl) (q := q) (w := 1) (by decide) (fun v hv hne => by
    have hv8 : v = 0 ∨ v = 1 ∨ v = 2 ∨ v = 3 ∨ v = 4 ∨ v = 5 ∨ v = 6 ∨ v = 7 := by omega
    rcases hv8 with rfl | rfl | rfl | rfl | rfl | rfl | rfl | rfl
    · rw [l0, l1]; exact ⟨by show _ < 5; omega, by omega⟩
    · exact absurd rfl hne
    · rw [l2, l1]; exact ⟨by show _ < 4; omega, by omega⟩
    · rw [l3, l1]; exact ⟨by show _ < 4; omega, by omega⟩
    · rw [l4, l1]; exact ⟨by show _ < 5; omega, by omega⟩
    · rw [l5, l1]; exact ⟨by show _ < 6; omega, by omega⟩
    · rw [l6, l1]; exact ⟨by show _ < 5; omega, by omega⟩
    · rw [l7, l1]; exact ⟨by show _ < 5; omega, by omega⟩)
  rw [l1] at W
  have hW : WR tc tl q 1 (q + 1 + 1) [115, 101] := by
    have ml := mt_le (fun k => pkN tc tl (q + 1 + 1 + k)) [115, 101]
    refine ⟨fun x => ?_, fun x => ?_⟩
    · have x : mt (fun k => pkN tc tl (q + 1 + 1 + k)) [115, 101] = 2 := x
      have y := W.1 (by show _ = 4; omega)
      exact ⟨y.1, y.2.trans (by show q + 4 = q + 1 + 1 + 2; omega)⟩
    · have x : mt (fun k => pkN tc tl (q + 1 + 1 + k)) [115, 101] < 2 := x
      have y := W.2 (by show _ < 4; omega)
      exact ⟨y.1, y.2.trans (by omega)⟩
  exact od_C h (s := [115, 101]) rfl hW
theorem wc (h : TXT tc tl inp) {q p : Nat} {td : Nat → Int32} {fi se nu : Int32} (c0 : pkN tc tl q = 99) (c1 : ¬ pkN tc tl (q + 1) = 108) (c2 : ¬ pkN tc tl (q + 1) = 97) : OE (roK tc tl q fi se nu) (false, (q + 1, td)) p td := by
  have l0 : laN tc tl q 0 = 0 := by rw [la_is h (by decide), show sN.getD 0 [] = [106, 117, 114, 111, 114] from rfl, laC, if_neg (by omega)]
  have l1 : laN tc tl q 1 = 1 + 0 := by rw [la_is h (by decide), show sN.getD 1 [] = [99, 97, 115, 101] from rfl, laC, if_pos (by omega), laC, if_neg (by omega)]
  have l2 : laN tc tl q 2 = 1 + 0 := by rw [la_is h (by decide), show sN.getD 2 [] = [99, 97, 108, 108] from rfl, laC, if_pos (by omega), laC, if_neg (by omega)]
  have l3 : laN tc tl q 3 = 0 := by rw [la_is h (by decide), show sN.getD 3 [] = [118, 111, 116, 101] from rfl, laC, if_neg (by omega)]
  have l4 : laN tc tl q 4 = 0 := by rw [la_is h (by decide), show sN.getD 4 [] = [117, 110, 115, 97, 121] from rfl, laC, if_neg (by omega)]
  have l5 : laN tc tl q 5 = 0 := by rw [la_is h (by decide), show sN.getD 5 [] = [97, 112, 112, 101, 97, 108] from rfl, laC, if_neg (by omega)]
  have l6 : laN tc tl q 6 = 1 + 0 := by rw [la_is h (by decide), show sN.getD 6 [] = [99, 108, 101, 114, 107] from rfl, laC, if_pos (by omega), laC, if_neg (by omega)]
  have l7 : laN tc tl q 7 = 0 := by rw [la_is h (by decide), show sN.getD 7 [] = [110, 105, 103, 104, 116] from rfl, laC, if_neg (by omega)]
  have W := wrd (tc := tc) (tl := tl) (q := q) (w := 1) (by decide) (fun v hv hne => by
    have hv8 : v = 0 ∨ v = 1 ∨ v = 2 ∨ v = 3 ∨ v = 4 ∨ v = 5 ∨ v = 6 ∨ v = 7 := by omega
    rcases hv8 with rfl | rfl | rfl | rfl | rfl | rfl | rfl | rfl
    · rw [l0, l1]; exact ⟨by show _ < 5; omega, by omega⟩
    · exact absurd rfl hne
    · rw [l2, l1]; exact ⟨by show _ < 4; omega, by omega⟩
    · rw [l3, l1]; exact ⟨by show _ < 4; omega, by omega⟩
    · rw [l4, l1]; exact ⟨by show _ < 5; omega, by omega⟩
    · rw [l5, l1]; exact ⟨by show _ < 6; omega, by omega⟩
    · rw [l6, l1]; exact ⟨by show _ < 5; omega, by omega⟩
    · rw [l7, l1]; exact ⟨by show _ < 5; omega, by omega⟩)
  rw [l1] at W
  rw [roK_N (W.2 (by show _ < 4; omega))]
  exact OE_f (fun _ _ => rfl)
theorem w0 (h : TXT tc tl inp) {q p : Nat} {td : Nat → Int32} {fi se nu : Int32} (c0 : ¬ pkN tc tl q = 106) (c1 : ¬ pkN tc tl q = 118) (c2 : ¬ pkN tc tl q = 117) (c3 : ¬ pkN tc tl q = 97) (c4 : ¬ pkN tc tl q = 110) (c5 : ¬ pkN tc tl q = 99) : OE (roK tc tl q fi se nu) (false, (q, td)) p td := by
  have l0 : laN tc tl q 0 = 0 := by rw [la_is h (by decide), show sN.getD 0 [] = [106, 117, 114, 111, 114] from rfl, laC, if_neg (by omega)]
  have l1 : laN tc tl q 1 = 0 := by rw [la_is h (by decide), show sN.getD 1 [] = [99, 97, 115, 101] from rfl, laC, if_neg (by omega)]
  have l2 : laN tc tl q 2 = 0 := by rw [la_is h (by decide), show sN.getD 2 [] = [99, 97, 108, 108] from rfl, laC, if_neg (by omega)]
  have l3 : laN tc tl q 3 = 0 := by rw [la_is h (by decide), show sN.getD 3 [] = [118, 111, 116, 101] from rfl, laC, if_neg (by omega)]
  have l4 : laN tc tl q 4 = 0 := by rw [la_is h (by decide), show sN.getD 4 [] = [117, 110, 115, 97, 121] from rfl, laC, if_neg (by omega)]
  have l5 : laN tc tl q 5 = 0 := by rw [la_is h (by decide), show sN.getD 5 [] = [97, 112, 112, 101, 97, 108] from rfl, laC, if_neg (by omega)]
  have l6 : laN tc tl q 6 = 0 := by rw [la_is h (by decide), show sN.getD 6 [] = [99, 108, 101, 114, 107] from rfl, laC, if_neg (by omega)]
  have l7 : laN tc tl q 7 = 0 := by rw [la_is h (by decide), show sN.getD 7 [] = [110, 105, 103, 104, 116] from rfl, laC, if_neg (by omega)]
  have W := wrd (tc := tc) (tl := tl) (q := q) (w := 0) (by decide) (fun v hv hne => by
    have hv8 : v = 0 ∨ v = 1 ∨ v = 2 ∨ v = 3 ∨ v = 4 ∨ v = 5 ∨ v = 6 ∨ v = 7 := by omega
    rcases hv8 with rfl | rfl | rfl | rfl | rfl | rfl | rfl | rfl
    · exact absurd rfl hne
    · rw [l1, l0]; exact ⟨by show _ < 4; omega, by omega⟩
    · rw [l2, l0]; exact ⟨by show _ < 4; omega, by omega⟩
    · rw [l3, l0]; exact ⟨by show _ < 4; omega, by omega⟩
    · rw [l4, l0]; exact ⟨by show _ < 5; omega, by omega⟩
    · rw [l5, l0]; exact ⟨by show _ < 6; omega, by omega⟩
    · rw [l6, l0]; exact ⟨by show _ < 5; omega, by omega⟩
    · rw [l7, l0]; exact ⟨by show _ < 5; omega, by omega⟩)
  rw [l0] at W
  rw [roK_N (W.2 (by show _ < 5; omega))]
  exact OE_f (fun _ _ => rfl)
/-- an order, whatever stands there -/
theorem ord_is (h : TXT tc tl inp) {q p : Nat} {td : Nat → Int32} {fi se nu : Int32} : OE (roK tc tl q fi se nu) (ohM inp tl q td p) p td := by
  have K : ∀ (a c : Nat), 0 < c → c < 65536 → ((skO inp tl a c).1 = true ↔ pkN tc tl a = c) := fun a c h0 hc => sk_c h h0 hc
  unfold ohM
  by_cases c0 : pkN tc tl q = 106
  · rw [if_pos ((K _ _ (by decide) (by decide)).mpr c0)]; exact wj h c0
  rw [if_neg (fun x => c0 ((K _ _ (by decide) (by decide)).mp x))]
  by_cases c1 : pkN tc tl q = 118
  · rw [if_pos ((K _ _ (by decide) (by decide)).mpr c1)]; exact wv h c1
  rw [if_neg (fun x => c1 ((K _ _ (by decide) (by decide)).mp x))]
  by_cases c2 : pkN tc tl q = 117
  · rw [if_pos ((K _ _ (by decide) (by decide)).mpr c2)]; exact wu h c2
  rw [if_neg (fun x => c2 ((K _ _ (by decide) (by decide)).mp x))]
  by_cases c3 : pkN tc tl q = 97
  · rw [if_pos ((K _ _ (by decide) (by decide)).mpr c3)]; exact wa h c3
  rw [if_neg (fun x => c3 ((K _ _ (by decide) (by decide)).mp x))]
  by_cases c4 : pkN tc tl q = 110
  · rw [if_pos ((K _ _ (by decide) (by decide)).mpr c4)]; exact wn h c4
  rw [if_neg (fun x => c4 ((K _ _ (by decide) (by decide)).mp x))]
  by_cases c5 : pkN tc tl q = 99
  · rw [if_pos ((K _ _ (by decide) (by decide)).mpr c5)]
    by_cases d1 : pkN tc tl (q + 1) = 108
    · rw [if_pos ((K _ _ (by decide) (by decide)).mpr d1)]; exact wcl h c5 d1
    rw [if_neg (fun x => d1 ((K _ _ (by decide) (by decide)).mp x))]
    by_cases d2 : pkN tc tl (q + 1) = 97
    · rw [if_pos ((K _ _ (by decide) (by decide)).mpr d2)]
      by_cases d3 : pkN tc tl (q + 1 + 1) = 108
      · rw [if_pos ((K _ _ (by decide) (by decide)).mpr d3)]; exact wcal h c5 d2 d3
      rw [if_neg (fun x => d3 ((K _ _ (by decide) (by decide)).mp x))]
      exact wcas h c5 d2 d3
    rw [if_neg (fun x => d2 ((K _ _ (by decide) (by decide)).mp x))]
    exact wc h c5 d1 d2
  rw [if_neg (fun x => c5 ((K _ _ (by decide) (by decide)).mp x))]
  exact w0 h c0 c1 c2 c3 c4 c5
end OPL
