/-! what the start gives: the environment (words, literals, statics) -/
theorem wk_w {w : Cond} {args : Array Value} {s : State} (hg : wOk w = true) (h : w.before args s = true) : va_Nw w s := by
  by_cases g : goodWord w = true
  · exact word_at (State.WarmedH.refl s) (good_of_word g) h
  · cases w <;> first | exact va_Nw.of rfl h | exact absurd (by simpa [wOk] using hg) g
def tmStr (i : Nat) : Term := .string ((sTx.getD i ("", 0, "")).1) ((sTx.getD i ("", 0, "")).2.1)
abbrev gvL : List Cond := flatC (Jvm.Cond.and given_1 narrow_1)
theorem gv_in {s : State} {args : Array Value} (hs : ∀ c ∈ gvL, c.before args s = true) {n : Nat} {F : Nat → Cond} (h : (List.range n).all (fun i => gvL.contains (F i)) = true) : ∀ i, i < n → (F i).before args s = true := fun i hi => hs _ (List.contains_iff_mem.mp (List.all_eq_true.mp h i (List.mem_range.mpr hi)))
set_option maxRecDepth 100000 in
theorem gv_1 : (List.range 16).all (fun i => gvL.contains (.exactly (tmStr i) "java/lang/String")) = true := by decide +kernel
set_option maxRecDepth 100000 in
theorem gv_2 : (List.range 16).all (fun i => gvL.contains (.eq (.field (tmStr i) "java/lang/String" "coder" "B") (.int 0))) = true := by decide +kernel
set_option maxRecDepth 100000 in
theorem gv_3 : (List.range 16).all (fun i => gvL.contains (.arrayOf (.field (tmStr i) "java/lang/String" "value" "[B") .byte)) = true := by decide +kernel
set_option maxRecDepth 100000 in
theorem gv_4 : (List.range 16).all (fun i => gvL.contains (.eq (.length (.field (tmStr i) "java/lang/String" "value" "[B")) (.int (Int32.ofNat (sLen.getD i 0))))) = true := by decide +kernel
theorem tk_in {l m : List Cond} {p n : Nat} (h : ((l.drop p).take n == m) = true) : ∀ c ∈ m, c ∈ l := fun c hc => by
  rw [← eq_of_beq h] at hc
  exact List.mem_of_mem_drop (List.mem_of_mem_take hc)
def elS (i j : Nat) : Cond := .eq (.elem (.field (tmStr i) "java/lang/String" "value" "[B") (.int (Int32.ofNat j))) (.int ((sByt.getD i []).getD j 0))
set_option maxRecDepth 100000 in
theorem gv5_0 : ((gvL.drop 780).take 5 == (List.range 5).map (elS 0)) = true := by decide +kernel
set_option maxRecDepth 100000 in
theorem gv5_1 : ((gvL.drop 789).take 4 == (List.range 4).map (elS 1)) = true := by decide +kernel
set_option maxRecDepth 100000 in
theorem gv5_2 : ((gvL.drop 797).take 4 == (List.range 4).map (elS 2)) = true := by decide +kernel
set_option maxRecDepth 100000 in
theorem gv5_3 : ((gvL.drop 805).take 4 == (List.range 4).map (elS 3)) = true := by decide +kernel
set_option maxRecDepth 100000 in
theorem gv5_4 : ((gvL.drop 813).take 5 == (List.range 5).map (elS 4)) = true := by decide +kernel
set_option maxRecDepth 100000 in
theorem gv5_5 : ((gvL.drop 822).take 6 == (List.range 6).map (elS 5)) = true := by decide +kernel
set_option maxRecDepth 100000 in
theorem gv5_6 : ((gvL.drop 832).take 5 == (List.range 5).map (elS 6)) = true := by decide +kernel
set_option maxRecDepth 100000 in
theorem gv5_7 : ((gvL.drop 841).take 5 == (List.range 5).map (elS 7)) = true := by decide +kernel
set_option maxRecDepth 100000 in
theorem gv5_8 : ((gvL.drop 1081).take 5 == (List.range 5).map (elS 8)) = true := by decide +kernel
set_option maxRecDepth 100000 in
theorem gv5_9 : ((gvL.drop 1090).take 4 == (List.range 4).map (elS 9)) = true := by decide +kernel
set_option maxRecDepth 100000 in
theorem gv5_10 : ((gvL.drop 1098).take 5 == (List.range 5).map (elS 10)) = true := by decide +kernel
set_option maxRecDepth 100000 in
theorem gv5_11 : ((gvL.drop 1107).take 6 == (List.range 6).map (elS 11)) = true := by decide +kernel
set_option maxRecDepth 100000 in
theorem gv5_12 : ((gvL.drop 1117).take 4 == (List.range 4).map (elS 12)) = true := by decide +kernel
set_option maxRecDepth 100000 in
theorem gv5_13 : ((gvL.drop 1125).take 3 == (List.range 3).map (elS 13)) = true := by decide +kernel
set_option maxRecDepth 100000 in
theorem gv5_14 : ((gvL.drop 1132).take 2 == (List.range 2).map (elS 14)) = true := by decide +kernel
set_option maxRecDepth 100000 in
theorem gv5_15 : ((gvL.drop 1138).take 3 == (List.range 3).map (elS 15)) = true := by decide +kernel
theorem gv_5 : ∀ i, i < 16 → ∀ c ∈ (List.range (sLen.getD i 0)).map (elS i), c ∈ gvL := fun i hi => by
  match i, hi with
  | 0, _ => exact tk_in gv5_0
  | 1, _ => exact tk_in gv5_1
  | 2, _ => exact tk_in gv5_2
  | 3, _ => exact tk_in gv5_3
  | 4, _ => exact tk_in gv5_4
  | 5, _ => exact tk_in gv5_5
  | 6, _ => exact tk_in gv5_6
  | 7, _ => exact tk_in gv5_7
  | 8, _ => exact tk_in gv5_8
  | 9, _ => exact tk_in gv5_9
  | 10, _ => exact tk_in gv5_10
  | 11, _ => exact tk_in gv5_11
  | 12, _ => exact tk_in gv5_12
  | 13, _ => exact tk_in gv5_13
  | 14, _ => exact tk_in gv5_14
  | 15, _ => exact tk_in gv5_15
  | i + 16, h => exact absurd h (by omega)
theorem gv_6 : (List.range 16).all (fun i => decide (sLen.getD i 0 < 2 ^ 31)) = true := by decide +kernel
theorem gv_7 : (List.range 16).all (fun i => (List.range 16).all (fun j => i == j || (sLen.getD i 0 != sLen.getD j 0) || (List.range (sLen.getD i 0)).any (fun k => (sByt.getD i []).getD k 0 != (sByt.getD j []).getD k 0))) = true := by decide +kernel
theorem wk_S {s : State} {args : Array Value} {A : Nat → Prop} (hs : ∀ c ∈ gvL, c.before args s = true) (hA : ∀ a : Nat, a < s.heap.size → ¬ A a) : ∃ adK adV : Nat → Nat, vk_S 16 sLen sByt adK adV A s s.heap ∧ ∀ i : Nat, i < 16 → (tmStr i).eval args s none [] s = some (.ref (adK i)) := by
  have hex := gv_in hs gv_1
  have hco := gv_in hs gv_2
  have har := gv_in hs gv_3
  have hle := gv_in hs gv_4
  have hel : ∀ i : Nat, i < 16 → ∀ j : Nat, j < sLen.getD i 0 → (Cond.eq (.elem (.field (tmStr i) "java/lang/String" "value" "[B") (.int (Int32.ofNat j))) (.int ((sByt.getD i []).getD j 0))).before args s = true := fun i hi j hj => hs _ (gv_5 i hi (elS i j) (List.mem_map.mpr ⟨j, List.mem_range.mpr hj, rfl⟩))
  have hN : ∀ i : Nat, i < 16 → sLen.getD i 0 < 2 ^ 31 := fun i hi => of_decide_eq_true (List.all_eq_true.mp gv_6 i (List.mem_range.mpr hi))
  have h0 : ∀ i : Nat, ∃ q : Nat × Nat, i < 16 → (tmStr i).eval args s none [] s = some (.ref q.1) ∧ va_O "java/lang/String" q.1 A s s.heap ∧ va_OF "java/lang/String" "coder" "B" (.int 0) q.1 A s s.heap ∧ va_OF "java/lang/String" "value" "[B" (.ref q.2) q.1 A s s.heap ∧ va_T .byte q.2 (sLen.getD i 0) (fun j => .int ((sByt.getD i []).getD j 0)) A s s.heap := by
    intro i
    by_cases hi : i < 16
    · obtain ⟨a, c, cA, kA, q1, q2, q3, q4, q5, q6, -⟩ := Cond.exactly_spec (args := args) (first := s) (o := none) (s := s) (idx := []) (t := tmStr i) (cls := "java/lang/String") (hex i hi)
      obtain ⟨t, ht, hT⟩ := va_Tof (f := fun j => .int ((sByt.getD i []).getD j 0)) (A := A) (hN i hi) (har i hi) (va_eqt (hle i hi)) (fun j hj => va_eqt (hel i hi j hj)) hA
      exact ⟨(a, t), fun _ => ⟨q1, ⟨cA, q3, q5, by rw [q6]; exact q2, hA a (Array.getElem?_eq_some_iff.mp q3).1⟩, vk_OFof q1 (va_eqt (hco i hi)) hA, vk_OFof q1 ht hA, hT⟩⟩
    · exact ⟨(0, 0), fun h => absurd h hi⟩
  obtain ⟨ad, had⟩ := Classical.axiomOfChoice h0
  refine ⟨fun i => (ad i).1, fun i => (ad i).2, ⟨fun i hi => (had i hi).2, fun i j hi hj e => ?_⟩, fun i hi => (had i hi).1⟩
  have e : (ad i).1 = (ad j).1 := e
  obtain ⟨-, -, -, vi, ti⟩ := had i hi
  obtain ⟨-, -, -, vj, tj⟩ := had j hj
  rw [← e] at vj
  have ev : (ad i).2 = (ad j).2 := by
    obtain ⟨cf, k, fi, f, cell, h1, -, h3, -, h5, -⟩ := vi
    obtain ⟨cf2, k2, fi2, f2, cell2, g1, -, g3, -, g5, -⟩ := vj
    have e1 := h1.symm.trans g1
    have e2 := h3.symm.trans g3
    cases e1
    cases e2
    have e3 := Option.some.inj (h5.symm.trans g5)
    injection e3
  rw [← ev] at tj
  obtain ⟨cell, h1, -, -, -, h4, h5, -⟩ := ti
  obtain ⟨cell2, g1, -, -, -, g4, g5, -⟩ := tj
  have e2 := h1.symm.trans g1
  cases e2
  have e4 : sLen.getD i 0 = sLen.getD j 0 := by
    have e9 := h4.symm.trans g4
    have a1 := nI_toInt (hN i hi)
    have a2 := nI_toInt (hN j hj)
    have e8 : nI (sLen.getD i 0) = nI (sLen.getD j 0) := e9
    rw [e8, a2] at a1
    omega
  have hc := List.all_eq_true.mp (List.all_eq_true.mp gv_7 i (List.mem_range.mpr hi)) j (List.mem_range.mpr hj)
  rw [Bool.or_eq_true, Bool.or_eq_true] at hc
  rcases hc with (hc | hc) | hc
  · exact eq_of_beq hc
  · exact absurd e4 (by simpa using hc)
  · obtain ⟨k, hk, hne⟩ := List.any_eq_true.mp hc
    have hk := List.mem_range.mp hk
    have e7 := (h5 k hk).symm.trans (g5 k (e4 ▸ hk))
    have e6 : (sByt.getD i []).getD k 0 = (sByt.getD j []).getD k 0 := by
      have e5 := Option.some.inj e7
      injection e5
    rw [e6] at hne
    simp at hne
set_option maxRecDepth 100000 in
theorem gt_1 : (List.range 16).all (fun i => lw_tbl.contains (.stringRef ((sTx.getD i ("", 0, "")).1) ((sTx.getD i ("", 0, "")).2.1) ((sTx.getD i ("", 0, "")).2.2))) = true := by decide +kernel
set_option maxRecDepth 100000 in
theorem gt_2 : gMs.all (fun q => lw_tbl.contains (.stringRef RX7 q.1 q.2)) = true := by decide +kernel
set_option maxRecDepth 100000 in
theorem gt_3 : gMs.all (fun q => gvL.contains (.exactly (.string RX7 q.1) "java/lang/String")) = true := by decide +kernel
set_option maxRecDepth 100000 in
theorem wk_E {s : State} {args : Array Value} (hts : ∀ w ∈ lw_tbl, w.before args s = true) (hgv : (Jvm.Cond.and given_1 narrow_1).before args s = true) : ∃ adK adV sa : Nat → Nat, gE (fun q => s.heap.size ≤ q) adK adV sa s s.heap := by
  have hs := flat_of_before _ hgv
  have hA : ∀ a : Nat, a < s.heap.size → ¬ (fun q => s.heap.size ≤ q) a := fun a h => Nat.not_le.mpr h
  obtain ⟨adK, adV, hS, hev⟩ := wk_S hs hA
  have hm : ∀ k : Nat, ∃ a : Nat, ∀ q ∈ gMs, q.1 = k → vk_R RX7 q.1 q.2 a s := by
    intro k
    by_cases h : ∃ q ∈ gMs, q.1 = k
    · obtain ⟨q, hq, rfl⟩ := h
      obtain ⟨a, c, cA, kA, q1, -⟩ := Cond.exactly_spec (args := args) (first := s) (o := none) (s := s) (idx := []) (t := .string RX7 q.1) (cls := "java/lang/String") (hs _ (List.contains_iff_mem.mp (List.all_eq_true.mp gt_3 q hq)))
      exact ⟨a, fun q2 hq2 e => vk_R.of (hts _ (List.contains_iff_mem.mp (List.all_eq_true.mp gt_2 q2 hq2))) (by rw [e]; exact q1)⟩
    · exact ⟨0, fun q hq e => absurd ⟨q, hq, e⟩ h⟩
  obtain ⟨sa, hsa⟩ := Classical.axiomOfChoice hm
  refine ⟨adK, adV, sa, fun w hw hg => wk_w hg (hts w hw), fun i q hq => ?_, fun q hq => hsa q.1 q hq rfl, hS, ?_, ?_, ?_, ?_⟩
  · have hi : i < 16 := (List.getElem?_eq_some_iff.mp hq).1
    have e : sTx.getD i ("", 0, "") = q := by rw [List.getD_eq_getElem?_getD, hq]; rfl
    exact vk_R.of (hts _ (by
      have h := List.all_eq_true.mp gt_1 i (List.mem_range.mpr hi)
      have h := List.contains_iff_mem.mp h
      rw [e] at h
      exact h)) (by
      have h := hev i hi
      unfold tmStr at h
      rw [e] at h
      exact h)
  · exact va_Zof (hts (.laysStatic "java/lang/String" "COMPACT_STRINGS" "Z") (by decide +kernel)) (hts (.initialized "java/lang/String") (by decide +kernel)) (va_eqt (hs (.eq (.static "java/lang/String" "COMPACT_STRINGS" "Z") (.int 1)) (by decide +kernel))) hA
  · exact va_Zqof (hts (.laysStatic "jdk/internal/util/Preconditions" "SIOOBE_FORMATTER" "Ljava/util/function/BiFunction;") (by decide +kernel)) (hts (.initialized "jdk/internal/util/Preconditions") (by decide +kernel)) (hs (.isRef (.static "jdk/internal/util/Preconditions" "SIOOBE_FORMATTER" "Ljava/util/function/BiFunction;")) (by decide +kernel)) hA
  · exact vx_Zqof (hts (.laysStatic Bundle.tN "UNASSIGNED_STACK" Bundle.steD) (by decide +kernel)) (hts (.initialized Bundle.tN) (by decide +kernel)) (hs (.isRef (.static Bundle.tN "UNASSIGNED_STACK" Bundle.steD)) (by decide +kernel)) hA
  · exact vx_Zqof (hts (.laysStatic Bundle.tN "SUPPRESSED_SENTINEL" Bundle.listD) (by decide +kernel)) (hts (.initialized Bundle.tN) (by decide +kernel)) (hs (.isRef (.static Bundle.tN "SUPPRESSED_SENTINEL" Bundle.listD)) (by decide +kernel)) hA
