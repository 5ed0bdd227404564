/-! the law from its start -/
theorem wk_RR : RR z0 z0 (fun _ => z0) 0 0 (nI 0) (nI 0) (fun _ => 0) 0 (fun _ => nI 0) 0 false (-1) m0x m0f := by
  refine ⟨⟨by decide, by decide, ⟨by decide, by decide⟩, by decide, fun j h => absurd h (Nat.not_lt_zero _), fun j h => absurd h (Nat.not_lt_zero _), ?_⟩, ⟨rfl, rfl, rfl, rfl, rfl, rfl, rfl, fun j h => absurd h (Nat.not_lt_zero _), fun j h => absurd h (Nat.not_lt_zero _)⟩, ⟨by decide, by decide, fun i h => absurd h (Nat.not_lt_zero _)⟩, rfl, rfl, rfl, ⟨by decide, fun i h => absurd h (Nat.not_lt_zero _)⟩, rfl, rfl, ⟨by decide, rfl, fun i h => absurd h (Nat.not_lt_zero _)⟩, rfl, (fun h => by cases h), rfl⟩
  exact ⟨fun k h => absurd h (Nat.not_lt_zero _), fun a b h h2 => absurd h2 (Nat.not_lt_zero _), fun k h => absurd h (Nat.not_lt_zero _)⟩
theorem wk_inj {ws : va_W} {n : Nat} {A : Nat → Nat} {F : Nat → Prop} (e : ws.map (fun q => q.1) = (List.range n).map A) (h : va_D F ws) : aInj n A ∧ ∀ q, aS n A q → F q := by
  have g : ∀ k, k < n → ∃ x : Nat × va_E, ws[k]? = some x ∧ x.1 = A k := fun k hk => by
    have h1 : (ws.map (fun q => q.1))[k]? = some (A k) := by rw [e, List.getElem?_map, List.getElem?_range hk]; rfl
    rw [List.getElem?_map] at h1
    cases hx : ws[k]? with
    | none => rw [hx] at h1; cases h1
    | some x => rw [hx] at h1; exact ⟨x, rfl, Option.some.inj h1⟩
  refine ⟨fun i j hi hj e2 => ?_, fun q hq => ?_⟩
  · obtain ⟨x, hx, ex⟩ := g i hi
    obtain ⟨y, hy, ey⟩ := g j hj
    exact h.1 i j x y hx hy (by rw [ex, ey, e2])
  · obtain ⟨k, hk, rfl⟩ := hq
    obtain ⟨x, hx, ex⟩ := g k hk
    rw [← ex]; exact h.2 k x hx
theorem wk_at {ws : va_W} {n : Nat} {A : Nat → Nat} (e : ws.map (fun q => q.1) = (List.range n).map A) {k : Nat} (hk : k < n) : ∃ x : Nat × va_E, ws[k]? = some x ∧ x.1 = A k := by
  have h1 : (ws.map (fun q => q.1))[k]? = some (A k) := by rw [e, List.getElem?_map, List.getElem?_range hk]; rfl
  rw [List.getElem?_map] at h1
  cases hx : ws[k]? with
  | none => rw [hx] at h1; cases h1
  | some x => rw [hx] at h1; exact ⟨x, rfl, Option.some.inj h1⟩
theorem wk_sz {D : va_G} {ws : va_W} {n : Nat} {A : Nat → Nat} {F : Nat → Prop} {H : Heap} {q1 : Nat} {e1 : va_E} (e : ws.map (fun q => q.1) = (List.range n).map A) (hP : va_P D vwCl (ws ++ [(q1, e1)]) H) (hD : va_D F (ws ++ [(q1, e1)])) : ∀ q, aS n A q → q < H.size ∧ q ≠ q1 := fun q hq => by
  obtain ⟨k, hk, rfl⟩ := hq
  obtain ⟨x, hx, ex⟩ := wk_at e hk
  have hlt := (List.getElem?_eq_some_iff.mp hx).1
  have hx2 : (ws ++ [(q1, e1)])[k]? = some x := by rw [List.getElem?_append_left hlt]; exact hx
  refine ⟨by rw [← ex]; exact (hP k x hx2).lt, fun e9 => ?_⟩
  have h9 := hD.1 k ws.length x (q1, e1) hx2 (by simp) (ex.trans e9)
  omega
theorem wk_1 {a sz q : Nat} {e : va_E} (h : va_A [(a, e)] sz q) : q = a ∨ sz ≤ q := by
  rcases h with ⟨k, e2, hk⟩ | h
  · have hm := List.mem_of_getElem? hk
    rw [List.mem_singleton] at hm
    exact Or.inl (congrArg (fun z : Nat × va_E => z.1) hm)
  · exact Or.inr h
theorem wk_D2 {F : Nat → Prop} {a b : va_W} (ha : va_D F a) (hb : va_D F b) (h : ∀ x ∈ a, ∀ y ∈ b, x.1 ≠ y.1) : va_D F (a ++ b) := by
  refine vDm.mpr ⟨?_, fun q hq => ?_⟩
  · rw [List.map_append]
    refine List.nodup_append.mpr ⟨(vDm.mp ha).1, (vDm.mp hb).1, fun u hu v hv => ?_⟩
    obtain ⟨x, hx, rfl⟩ := List.mem_map.mp hu
    obtain ⟨y, hy, rfl⟩ := List.mem_map.mp hv
    exact h x hx y hy
  · rcases List.mem_append.mp hq with h1 | h1
    · exact (vDm.mp ha).2 q h1
    · exact (vDm.mp hb).2 q h1
theorem wk_ne {F : Nat → Prop} {a b : va_W} (h : va_D F (a ++ b)) {x y : Nat × va_E} (hx : x ∈ a) (hy : y ∈ b) : x.1 ≠ y.1 := by
  have h1 := (vDm.mp h).1
  rw [List.map_append] at h1
  exact (List.nodup_append.mp h1).2.2 x.1 (List.mem_map.mpr ⟨x, hx, rfl⟩) y.1 (List.mem_map.mpr ⟨y, hy, rfl⟩)
theorem gWN0 {w0 : Cond} {y : MethodName} {b : ByteArray} {n : Nat} {r : Option FieldType} (h5 : Cond.code y b n r ∈ gG) : GoodIn (w0 :: gG) (gw y b n r) := by
  intro w hw
  have k : ∀ {w : Cond}, w ∈ gG → w ∈ w0 :: gG ∧ ((w.onTables && w.keeps) = true ∨ ∃ ty, w = .arrayClass ty) := fun h => ⟨List.mem_cons_of_mem _ h, gw_good h⟩
  rcases List.mem_cons.mp hw with rfl | h
  · exact k h5
  · exact k h
theorem va_Dl {A : Nat → Prop} {a b : va_W} (h : va_D A (a ++ b)) : va_D A a := vDm.mpr ⟨by have := (vDm.mp h).1; rw [List.map_append] at this; exact (List.nodup_append.mp this).1, fun q hq => (vDm.mp h).2 q (List.mem_append_left _ hq)⟩
theorem va_Dr {A : Nat → Prop} {a b : va_W} (h : va_D A (a ++ b)) : va_D A b := vDm.mpr ⟨by have := (vDm.mp h).1; rw [List.map_append] at this; exact (List.nodup_append.mp this).2.1, fun q hq => (vDm.mp h).2 q (List.mem_append_right _ hq)⟩
