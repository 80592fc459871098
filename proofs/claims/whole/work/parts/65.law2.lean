theorem xN.known {own : String} {idx ci N : Nat} {fs : List Value} {s : State} {args : Array Value} (h : xN own idx ci N fs) (hts : ∀ w ∈ xGT, w.before args s = true) {q : vw_C} (hq : vwCl[ci]? = some q) : ∃ (cC : ClassId) (iS : Nat → Nat), u_Kn s q.1 q.2.1 q.2.2 cC iS := by
  obtain ⟨C, T, ty0, h1, h2, h3, h4, h5, h6, h7⟩ := h
  rw [h1] at hq
  cases hq
  exact u_known hts h2 (hts _ h5)
theorem cls_known {s : State} {args : Array Value} (hts : ∀ w ∈ xGT, w.before args s = true) : ∀ (ci : Nat) (q : vw_C), vwCl[ci]? = some q → ∃ (cC : ClassId) (iS : Nat → Nat), u_Kn s q.1 q.2.1 q.2.2 cC iS := by
  intro ci q hq
  match ci, hq with
  | 0, hq => exact xw_RE_116.known hts hq
  | 1, hq => exact xw_PS_31.known hts hq
  | 2, hq => exact xw_RE_35.known hts hq
  | 3, hq => exact xw_PS_24.known hts hq
  | 4, hq => exact xw_RE_66.known hts hq
  | 5, hq => exact xw_MA_9.known hts hq
  | 6, hq => exact xw_PS_67.known hts hq
  | 7, hq => exact xw_RE_50.known hts hq
  | 8, hq => exact xw_PS_7.known hts hq
  | 9, hq => exact xw_LA_7.known hts hq
  | 10, hq => exact xw_LA_10.known hts hq
  | n + 11, hq => simp [vwCl] at hq
theorem arr_known {ty : FieldType} {s : State} {args : Array Value} (h : (Cond.arrayClass ty).before args s = true) : ∃ cA : ClassId, ArrOfT s cA ty ∧ s.vm.findClass ("[" ++ ty.toString) = some cA := by
  obtain ⟨cA, k, comp, h1, h2, h3⟩ := Cond.arrayClass_spec h
  exact ⟨cA, fun n z => ⟨fun k h => (by cases h), k, h2, comp, h3⟩, h1⟩
def tmS (i : Nat) : Term := if i = 0 then Term.string "PatternSearch$Reader" 155 else Term.string "PatternSearch$Reader" 162
set_option maxRecDepth 4000 in
theorem str_known {E : xE} {b : Nat} (hts : ∀ w ∈ lw_tbl, w.before #[Value.ref b] E.1 = true) (hgv : (Jvm.Cond.and given_1 narrow_1).before #[Value.ref b] E.1 = true) : ∃ kA kV : Nat → Nat, xStr E kA kV := by
  have hf := flat_of_before _ hgv
  have hA : ∀ a : Nat, a < E.1.heap.size → ¬ xfree E a := fun a ha h => Nat.not_le.mpr ha h
  have h2 : ∀ i : Nat, i < 2 → i = 0 ∨ i = 1 := fun i hi => by omega
  obtain ⟨kA, kV, h1, h3⟩ := vk_Sof (args := #[Value.ref b]) (s := E.1) (N := 2) (tm := tmS) (len := xLen) (byt := xByt) (A := xfree E)
    (fun i hi => by rcases h2 i hi with rfl | rfl <;> decide)
    (fun i hi => by
      rcases h2 i hi with rfl | rfl
      · exact hf (Cond.exactly (Term.string "PatternSearch$Reader" 155) "java/lang/String") (by decide +kernel)
      · exact hf (Cond.exactly (Term.string "PatternSearch$Reader" 162) "java/lang/String") (by decide +kernel))
    (fun i hi => by
      rcases h2 i hi with rfl | rfl
      · exact hf (Cond.eq (.field (Term.string "PatternSearch$Reader" 155) "java/lang/String" "coder" "B") (.int 0)) (by decide +kernel)
      · exact hf (Cond.eq (.field (Term.string "PatternSearch$Reader" 162) "java/lang/String" "coder" "B") (.int 0)) (by decide +kernel))
    (fun i hi => by
      rcases h2 i hi with rfl | rfl
      · exact hf (Cond.arrayOf (.field (Term.string "PatternSearch$Reader" 155) "java/lang/String" "value" "[B") .byte) (by decide +kernel)
      · exact hf (Cond.arrayOf (.field (Term.string "PatternSearch$Reader" 162) "java/lang/String" "value" "[B") .byte) (by decide +kernel))
    (fun i hi => by
      rcases h2 i hi with rfl | rfl
      · exact hf (Cond.eq (.length (.field (Term.string "PatternSearch$Reader" 155) "java/lang/String" "value" "[B")) (.int 13)) (by decide +kernel)
      · exact hf (Cond.eq (.length (.field (Term.string "PatternSearch$Reader" 162) "java/lang/String" "value" "[B")) (.int 4)) (by decide +kernel))
    (fun i hi j hj => by
      rcases h2 i hi with rfl | rfl
      · have hj : j < 13 := hj
        rcases (show j = 0 ∨ j = 1 ∨ j = 2 ∨ j = 3 ∨ j = 4 ∨ j = 5 ∨ j = 6 ∨ j = 7 ∨ j = 8 ∨ j = 9 ∨ j = 10 ∨ j = 11 ∨ j = 12 by omega) with rfl | rfl | rfl | rfl | rfl | rfl | rfl | rfl | rfl | rfl | rfl | rfl | rfl
        · exact hf (Cond.eq (.elem (.field (Term.string "PatternSearch$Reader" 155) "java/lang/String" "value" "[B") (.int 0)) (.int 46)) (by decide +kernel)
        · exact hf (Cond.eq (.elem (.field (Term.string "PatternSearch$Reader" 155) "java/lang/String" "value" "[B") (.int 1)) (.int 91)) (by decide +kernel)
        · exact hf (Cond.eq (.elem (.field (Term.string "PatternSearch$Reader" 155) "java/lang/String" "value" "[B") (.int 2)) (.int 93)) (by decide +kernel)
        · exact hf (Cond.eq (.elem (.field (Term.string "PatternSearch$Reader" 155) "java/lang/String" "value" "[B") (.int 3)) (.int 94)) (by decide +kernel)
        · exact hf (Cond.eq (.elem (.field (Term.string "PatternSearch$Reader" 155) "java/lang/String" "value" "[B") (.int 4)) (.int 36)) (by decide +kernel)
        · exact hf (Cond.eq (.elem (.field (Term.string "PatternSearch$Reader" 155) "java/lang/String" "value" "[B") (.int 5)) (.int 124)) (by decide +kernel)
        · exact hf (Cond.eq (.elem (.field (Term.string "PatternSearch$Reader" 155) "java/lang/String" "value" "[B") (.int 6)) (.int 40)) (by decide +kernel)
        · exact hf (Cond.eq (.elem (.field (Term.string "PatternSearch$Reader" 155) "java/lang/String" "value" "[B") (.int 7)) (.int 41)) (by decide +kernel)
        · exact hf (Cond.eq (.elem (.field (Term.string "PatternSearch$Reader" 155) "java/lang/String" "value" "[B") (.int 8)) (.int 42)) (by decide +kernel)
        · exact hf (Cond.eq (.elem (.field (Term.string "PatternSearch$Reader" 155) "java/lang/String" "value" "[B") (.int 9)) (.int 43)) (by decide +kernel)
        · exact hf (Cond.eq (.elem (.field (Term.string "PatternSearch$Reader" 155) "java/lang/String" "value" "[B") (.int 10)) (.int 63)) (by decide +kernel)
        · exact hf (Cond.eq (.elem (.field (Term.string "PatternSearch$Reader" 155) "java/lang/String" "value" "[B") (.int 11)) (.int 123)) (by decide +kernel)
        · exact hf (Cond.eq (.elem (.field (Term.string "PatternSearch$Reader" 155) "java/lang/String" "value" "[B") (.int 12)) (.int 125)) (by decide +kernel)
      · have hj : j < 4 := hj
        rcases (show j = 0 ∨ j = 1 ∨ j = 2 ∨ j = 3 by omega) with rfl | rfl | rfl | rfl
        · exact hf (Cond.eq (.elem (.field (Term.string "PatternSearch$Reader" 162) "java/lang/String" "value" "[B") (.int 0)) (.int 91)) (by decide +kernel)
        · exact hf (Cond.eq (.elem (.field (Term.string "PatternSearch$Reader" 162) "java/lang/String" "value" "[B") (.int 1)) (.int 93)) (by decide +kernel)
        · exact hf (Cond.eq (.elem (.field (Term.string "PatternSearch$Reader" 162) "java/lang/String" "value" "[B") (.int 2)) (.int 94)) (by decide +kernel)
        · exact hf (Cond.eq (.elem (.field (Term.string "PatternSearch$Reader" 162) "java/lang/String" "value" "[B") (.int 3)) (.int 45)) (by decide +kernel))
    (fun i j hi hj hij => by
      rcases h2 i hi with rfl | rfl
      · rcases h2 j hj with rfl | rfl
        · exact absurd rfl hij
        · first
            | exact Or.inl (hf (Cond.not (Cond.eq (Term.string "PatternSearch$Reader" 155) (Term.string "PatternSearch$Reader" 162))) (by decide +kernel))
            | exact Or.inr (hf (Cond.not (Cond.eq (Term.string "PatternSearch$Reader" 162) (Term.string "PatternSearch$Reader" 155))) (by decide +kernel))
      · rcases h2 j hj with rfl | rfl
        · first
            | exact Or.inr (hf (Cond.not (Cond.eq (Term.string "PatternSearch$Reader" 155) (Term.string "PatternSearch$Reader" 162))) (by decide +kernel))
            | exact Or.inl (hf (Cond.not (Cond.eq (Term.string "PatternSearch$Reader" 162) (Term.string "PatternSearch$Reader" 155))) (by decide +kernel))
        · exact absurd rfl hij)
    hA
  refine ⟨kA, kV, h1, vk_R.of (hts (.stringRef "PatternSearch$Reader" 155 ".[]^$|()*+?{}") (by decide +kernel)) (h3 0 (by decide)), vk_R.of (hts (.stringRef "PatternSearch$Reader" 162 "[]^-") (by decide +kernel)) (h3 1 (by decide)), ?_⟩
  exact va_Zof (hts (.laysStatic "java/lang/String" "COMPACT_STRINGS" "Z") (by decide +kernel)) (hts (.initialized "java/lang/String") (by decide +kernel)) (va_eqt (hf (Cond.eq (Term.static "java/lang/String" "COMPACT_STRINGS" "Z") (.int 1)) (by decide +kernel))) hA
