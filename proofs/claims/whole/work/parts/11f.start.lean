/-! what the start gives: classes, arrays, nest words, pairs that aren't castable -/
theorem wk_G {s : State} {args : Array Value} (hts : ∀ w ∈ lw_tbl, w.before args s = true) : ∀ w ∈ gG, w.before args s = true := fun w h => hts w (gG_tbl w h).1
set_option maxRecDepth 100000 in
theorem wk_cls {s : State} {args : Array Value} (hts : ∀ w ∈ lw_tbl, w.before args s = true) : ∃ D : va_G, ∀ (c : Nat) (q : vw_C), vwCl[c]? = some q → u_Kn s q.1 q.2.1 q.2.2 (D.1 c) (D.2 c) := by
  have hG := wk_G hts
  obtain ⟨a0, b0, k0⟩ := u_known (C := RJ0) (T := TJ0) (N := 2) (n := 4) hts (fun w hw => List.contains_iff_mem.mp (List.all_eq_true.mp (show (u_ws RJ0 TJ0 2).all (fun w => lw_tbl.contains w) = true by decide +kernel) w hw)) (hts (.instantiable RJ0 4) (by decide +kernel))
  obtain ⟨a1, b1, k1⟩ := u_known (C := RJx00060) (T := TJx00060) (N := 6) (n := 6) hts (fun w hw => List.contains_iff_mem.mp (List.all_eq_true.mp (show (u_ws RJx00060 TJx00060 6).all (fun w => lw_tbl.contains w) = true by decide +kernel) w hw)) (hts (.instantiable RJx00060 6) (by decide +kernel))
  obtain ⟨a2, b2, k2⟩ := u_known (C := RX0) (T := TX0) (N := 11) (n := 11) hG gu_wsX00 (hG _ gm_2_23)
  obtain ⟨a3, b3, k3⟩ := u_known (C := RX1) (T := TX1) (N := 5) (n := 5) hG gu_wsX10 (hG _ gm_1_15)
  obtain ⟨a4, b4, k4⟩ := u_known (C := RX2) (T := TX2) (N := 3) (n := 3) hG gu_wsX20 (hG _ gm_1_20)
  obtain ⟨a5, b5, k5⟩ := u_known (C := RX3) (T := TX3) (N := 5) (n := 5) hG gu_wsX30 (hG _ gm_2_4)
  obtain ⟨a6, b6, k6⟩ := u_known (C := RX4) (T := TX4) (N := 2) (n := 2) hG gu_wsX40 (hG _ gm_2_12)
  obtain ⟨a7, b7, k7⟩ := u_known (C := RX5) (T := TX5) (N := 2) (n := 2) hG gu_wsX50 (hG _ gm_2_0)
  obtain ⟨a8, b8, k8⟩ := u_known (C := RX6) (T := TX6) (N := 8) (n := 8) hG gu_wsX60 (hG _ gm_2_8)
  obtain ⟨a9, b9, k9⟩ := u_known (C := RX7) (T := TX7) (N := 9) (n := 9) hG gu_wsX70 (hG _ gm_1_1)
  obtain ⟨a10, b10, k10⟩ := u_known (C := RX8) (T := TX8) (N := 21) (n := 21) hG gu_wsX80 (hG _ gm_1_4)
  have h0 : ∀ c : Nat, ∃ r : ClassId × (Nat → Nat), ∀ q : vw_C, vwCl[c]? = some q → u_Kn s q.1 q.2.1 q.2.2 r.1 r.2 := by
    intro c
    match c with
    | 0 => exact ⟨(a0, b0), fun q hq => by cases hq; exact k0⟩
    | 1 => exact ⟨(a1, b1), fun q hq => by cases hq; exact k1⟩
    | 2 => exact ⟨(a2, b2), fun q hq => by cases hq; exact k2⟩
    | 3 => exact ⟨(a3, b3), fun q hq => by cases hq; exact k3⟩
    | 4 => exact ⟨(a4, b4), fun q hq => by cases hq; exact k4⟩
    | 5 => exact ⟨(a5, b5), fun q hq => by cases hq; exact k5⟩
    | 6 => exact ⟨(a6, b6), fun q hq => by cases hq; exact k6⟩
    | 7 => exact ⟨(a7, b7), fun q hq => by cases hq; exact k7⟩
    | 8 => exact ⟨(a8, b8), fun q hq => by cases hq; exact k8⟩
    | 9 => exact ⟨(a9, b9), fun q hq => by cases hq; exact k9⟩
    | 10 => exact ⟨(a10, b10), fun q hq => by cases hq; exact k10⟩
    | c + 11 => exact ⟨(a0, b0), fun q hq => by
        have h := (List.getElem?_eq_some_iff.mp hq).1
        have h : c + 11 < 11 := h
        omega⟩
  obtain ⟨F, hF⟩ := Classical.axiomOfChoice h0
  exact ⟨(fun c => (F c).1, fun c => (F c).2), fun c q hq => hF c q hq⟩
theorem wk_p {s : State} {args : Array Value} {ty : FieldType} (hn : ∀ C, ty ≠ .object C) (h : (Cond.arrayClass ty).before args s = true) : ∃ cA : ClassId, ArrOfT s cA ty ∧ va_RA s cA ty := by
  obtain ⟨cA, kA, comp, h1, h2, h3⟩ := Cond.arrayClass_spec h
  refine ⟨cA, fun n z => ⟨fun k h => (by cases h), kA, h2, comp, h3⟩, ?_⟩
  cases ty with
  | object C => exact absurd rfl (hn C)
  | _ => exact h1
theorem wk_o {s : State} {args : Array Value} {C : String} (h : (Cond.arrayOver (.object C)).before args s = true) : ∃ cA : ClassId, ArrOfT s cA (.object C) ∧ va_RA s cA (.object C) := by
  obtain ⟨comp, cA, kA, h1, h2, h3, h4, h5⟩ := Cond.arrayOver_spec h
  exact ⟨cA, fun N z => ⟨fun k h => (by cases h), kA, h3, comp, h4⟩, kA, comp, h3, h4, h1, h5⟩
set_option maxRecDepth 100000 in
theorem wk_K {s : State} {args : Array Value} (hts : ∀ w ∈ lw_tbl, w.before args s = true) : ∃ (D : va_G) (cA : Nat → ClassId), gK D cA s := by
  obtain ⟨D, hD⟩ := wk_cls hts
  have hG := wk_G hts
  obtain ⟨a0, h0⟩ := wk_p (fun C h => by cases h) (hG _ gm_3_8)
  obtain ⟨a1, h1⟩ := wk_p (fun C h => by cases h) (hG _ gm_4_20)
  obtain ⟨a2, h2⟩ := wk_o (C := RX1) (hts (.arrayOver (.object RX1)) (by decide +kernel))
  obtain ⟨a3, h3⟩ := wk_p (fun C h => by cases h) (hG _ gm_1_6)
  obtain ⟨a4, h4⟩ := wk_p (fun C h => by cases h) (hG _ gm_1_7)
  refine ⟨D, fun k => match k with | 0 => a0 | 1 => a1 | 2 => a2 | 3 => a3 | _ => a4, ⟨hD, fun k q hq => ?_⟩, ?_⟩
  · match k with
    | 0 => cases hq; exact h0
    | 1 => cases hq; exact h1
    | 2 => cases hq; exact h2
    | 3 => cases hq; exact h3
    | 4 => cases hq; exact h4
    | k + 5 =>
      have h := (List.getElem?_eq_some_iff.mp hq).1
      have h : k + 5 < 5 := h
      omega
  · intro q hq
    have h : gN.all (fun q => lw_tbl.contains (.methodLinkNest q.1 q.2.1 q.2.2.1 q.2.2.2)) = true := by decide +kernel
    exact va_Nw.of rfl (hts _ (List.contains_iff_mem.mp (List.all_eq_true.mp h q hq)))
set_option maxRecDepth 100000 in
theorem wk_Nc {s : State} {args : Array Value} (hgv : (Jvm.Cond.and given_1 narrow_1).before args s = true) : gNc s := by
  have hs := flat_of_before _ hgv
  intro q hq
  have h : ncL.all (fun q => (flatC (Jvm.Cond.and given_1 narrow_1)).contains (.not (.castable q.1 q.2))) = true := by decide +kernel
  exact va_Nc.of (hs _ (List.contains_iff_mem.mp (List.all_eq_true.mp h q hq)))
