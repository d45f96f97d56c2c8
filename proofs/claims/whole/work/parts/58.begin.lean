theorem nwF_in : ∀ w ∈ nwF.map (fun q => Cond.fieldLinkNest q.1 q.2.1 q.2.2.1 q.2.2.2.1 q.2.2.2.2 "WovenRows"), w ∈ lw_tbl := idx_in [75, 76, 77, 78, 79, 81, 82, 83, 85, 104, 105, 107, 108, 110, 111, 112, 122, 124, 125, 127, 129, 131, 132, 133, 134, 136, 138, 139, 163, 164, 177, 179, 192, 194, 196, 198, 240, 242, 244, 265, 267, 281, 283] (by decide +kernel)
theorem nwM_in : ∀ w ∈ nwM.map (fun q => Cond.methodLinkNest q.1 q.2.1 q.2.2 "WovenRows"), w ∈ lw_tbl := idx_in [71, 120, 157, 172, 187, 213, 232, 260, 275, 361, 378, 400, 407, 412, 433, 446, 487, 496, 500, 530, 531, 615, 661, 669, 670, 679] (by decide +kernel)
theorem nest_known {args : Array Value} {s : State} (hts : ∀ w ∈ lw_tbl, w.before args s = true) : NW s := by
  refine ⟨fun q hq => ?_, fun q hq => ?_⟩
  · exact va_Nw.of rfl (hts _ (nwF_in _ (List.mem_map.mpr ⟨q, hq, rfl⟩)))
  · exact va_Nw.of rfl (hts _ (nwM_in _ (List.mem_map.mpr ⟨q, hq, rfl⟩)))
theorem arr_known {args : Array Value} {s : State} {ty : FieldType} (h : (Cond.arrayClass ty).before args s = true) : ∃ cA : ClassId, ArrOfT s cA ty ∧ s.vm.findClass ("[" ++ ty.toString) = some cA := by
  obtain ⟨cA, k, comp, h1, h2, h3⟩ := Cond.arrayClass_spec h
  exact ⟨cA, fun n z => ⟨fun k h => (by cases h), k, h2, comp, h3⟩, h1⟩
theorem w_arrI : (Cond.arrayClass .int) ∈ lw_tbl := List.mem_of_getElem? (i := 93) (by decide +kernel)
theorem w_arrJ : (Cond.arrayClass .long) ∈ lw_tbl := List.mem_of_getElem? (i := 291) (by decide +kernel)
theorem w_arrZ : (Cond.arrayClass .boolean) ∈ lw_tbl := List.mem_of_getElem? (i := 832) (by decide +kernel)
theorem w_drawn : (Cond.laysStatic "WovenRows$Rows" "DRAWN" "[C") ∈ lw_tbl := List.mem_of_getElem? (i := 712) (by decide +kernel)
theorem w_rowsI : (Cond.initialized "WovenRows$Rows") ∈ lw_tbl := List.mem_of_getElem? (i := 39) (by decide +kernel)
theorem tab_known {b : Nat} {s : State} {A : Nat → Prop} (hts : ∀ w ∈ lw_tbl, w.before #[Value.ref b] s = true) (hgv : (Jvm.Cond.and given_1 narrow_1).before #[Value.ref b] s = true) (hA : ∀ a : Nat, a < s.heap.size → ¬ A a) : ∃ tb : Nat, TAB A tb s s.heap := by
  have hs := flat_of_before _ hgv
  obtain ⟨t, h1, h2⟩ := va_Tof (args := #[Value.ref b]) (s := s) (tm := Term.static "WovenRows$Rows" "DRAWN" "[C") (ty := .char) (N := 8) (f := fun j => .int (tab_DRAWN j)) (A := A) (by decide) (hs _ (by decide +kernel)) (va_eqt (hs _ (by decide +kernel))) (fun j hj => va_eqt (by
    rcases (show j = 0 ∨ j = 1 ∨ j = 2 ∨ j = 3 ∨ j = 4 ∨ j = 5 ∨ j = 6 ∨ j = 7 by omega) with rfl | rfl | rfl | rfl | rfl | rfl | rfl | rfl <;> exact hs _ (by decide +kernel))) hA
  exact ⟨t, va_Zref (hts _ w_drawn) (hts _ w_rowsI) h1 hA, h2⟩
