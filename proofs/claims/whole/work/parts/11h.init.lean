/-! the law from its start -/
theorem wk_RR : RR z0 z0 (fun _ => z0) 0 0 (nI 0) (nI 0) (fun _ => 0) 0 (fun _ => nI 0) 0 false (-1) m0x m0f := by
  refine ⟨⟨by decide, by decide, ⟨by decide, by decide⟩, by decide, fun j h => absurd h (Nat.not_lt_zero _), fun j h => absurd h (Nat.not_lt_zero _), ?_⟩, ⟨rfl, rfl, rfl, rfl, rfl, rfl, rfl, fun j h => absurd h (Nat.not_lt_zero _), fun j h => absurd h (Nat.not_lt_zero _)⟩, ⟨by decide, by decide, fun i h => absurd h (Nat.not_lt_zero _)⟩, rfl, rfl, rfl, ⟨by decide, fun i h => absurd h (Nat.not_lt_zero _)⟩, rfl, rfl, ⟨by decide, rfl, fun i h => absurd h (Nat.not_lt_zero _)⟩, rfl, (fun h => by cases h), rfl⟩
  exact ⟨fun k h => absurd h (Nat.not_lt_zero _), fun a b h h2 => absurd h2 (Nat.not_lt_zero _), fun k h => absurd h (Nat.not_lt_zero _)⟩
theorem wk_inj {ws : va_W} {n : Nat} {A : Nat → Nat} {F : Nat → Prop} (e : ws.map (fun q => q.1) = (List.range n).map A) (h : va_D F ws) : aInj n A ∧ ∀ q, aS n A q → F q := by
  have g : ∀ k, k < n → ∃ x : Nat × va_E, ws[k]? = some x ∧ x.1 = A k := fun k hk => by
    have h1 : (ws.map (fun q => q.1))[k]? = some (A k) := by rw [e, List.getElem?_map, List.getElem?_range hk]; rfl
    rw [List.getElem?_map] at h1
    cases hx : ws[k]? with
    | none => rw [hx] at h1; cases h1
    | some x => rw [hx] at h1; exact ⟨x, rfl, Option.some.inj h1⟩
  refine ⟨fun i j hi hj e2 => ?_, fun q hq => ?_⟩
  · obtain ⟨x, hx, ex⟩ := g i hi
    obtain ⟨y, hy, ey⟩ := g j hj
    exact h.1 i j x y hx hy (by rw [ex, ey, e2])
  · obtain ⟨k, hk, rfl⟩ := hq
    obtain ⟨x, hx, ex⟩ := g k hk
    rw [← ex]; exact h.2 k x hx
theorem gWN0 {w0 : Cond} {y : MethodName} {b : ByteArray} {n : Nat} {r : Option FieldType} (h5 : Cond.code y b n r ∈ gG) : GoodIn (w0 :: gG) (gw y b n r) := by
  intro w hw
  have k : ∀ {w : Cond}, w ∈ gG → w ∈ w0 :: gG ∧ ((w.onTables && w.keeps) = true ∨ ∃ ty, w = .arrayClass ty) := fun h => ⟨List.mem_cons_of_mem _ h, gw_good h⟩
  rcases List.mem_cons.mp hw with rfl | h
  · exact k h5
  · exact k h
theorem va_Dl {A : Nat → Prop} {a b : va_W} (h : va_D A (a ++ b)) : va_D A a := vDm.mpr ⟨by have := (vDm.mp h).1; rw [List.map_append] at this; exact (List.nodup_append.mp this).1, fun q hq => (vDm.mp h).2 q (List.mem_append_left _ hq)⟩
theorem va_Dr {A : Nat → Prop} {a b : va_W} (h : va_D A (a ++ b)) : va_D A b := vDm.mpr ⟨by have := (vDm.mp h).1; rw [List.map_append] at this; exact (List.nodup_append.mp this).2.1, fun q hq => (vDm.mp h).2 q (List.mem_append_right _ hq)⟩
