/-! PatternSearch: replace -/
/-- a stretch of the text by two bounds as the marks have them -/
def strI (ts : List Int32) (x y : Int32) : List Int32 := if x < y then (ts.drop x.toNatClampNeg).take (y.toNatClampNeg - x.toNatClampNeg) else []
/-- all matches replaced from a place on: from, copied, bounds, output -/
def rpR (q : PS0) (G : Nat → Int32) (fi : Nat) (ts : List Int32) (g : Nat) : Nat → Nat × Nat × (Nat → Int32) × List Int32 → Nat × (Nat → Int32) × List Int32
  | 0, s => s.2
  | k + 1, s => match skP G fi (ts.length + 1 - s.1) s.1 with
    | none => (s.2.1, filled 14 (-2) s.2.2.1, s.2.2.2)
    | some b =>
      let f := wkB q G fi b (filled 14 (-2) s.2.2.1)
      let e := wkE q G fi b (filled 14 (-2) s.2.2.1)
      rpR q G fi ts g k (nxF b e, e, f, s.2.2.2 ++ (ts.drop s.2.1).take (b - s.2.1) ++ strI ts (f (2 * g)) (f (2 * g + 1)))
/-- matches lie in the text, their groups in them -/
def gdM (q : PS0) (G : Nat → Int32) (fi len : Nat) : Prop := ∀ (b : Nat) (f : Nat → Int32), b ≤ len → lof G fi (nI b) = true → b ≤ wkE q G fi b (filled 14 (-2) f) ∧ wkE q G fi b (filled 14 (-2) f) ≤ len ∧
  ∀ g : Nat, g ≤ 6 → (¬ wkB q G fi b (filled 14 (-2) f) (2 * g) < wkB q G fi b (filled 14 (-2) f) (2 * g + 1)) ∨ ∃ i j : Nat, wkB q G fi b (filled 14 (-2) f) (2 * g) = nI i ∧ wkB q G fi b (filled 14 (-2) f) (2 * g + 1) = nI j ∧ b ≤ i ∧ i ≤ j ∧ j ≤ wkE q G fi b (filled 14 (-2) f)
theorem skP_lof {G : Nat → Int32} {fi : Nat} : ∀ {k i b : Nat}, skP G fi k i = some b → lof G fi (nI b) = true
  | 0, _, _, h => by cases h
  | k + 1, i, b, h => by
    rw [skP] at h
    by_cases hl : lof G fi (nI i)
    · rw [if_pos hl] at h; cases h; exact hl
    · rw [if_neg hl] at h; exact skP_lof h
section CR
variable {E : xE} {h : xH} {c : CS}
/-- addStretch by marks -/
theorem c_SI_addStretchI (hE : xOK E) {a r n a2 r2 n2 : Nat} {xs ys : List Int32} (hs : SgL E h a r n xs) (ht : SgL E h a2 r2 n2 ys) (h1 : a2 ≠ a) (h2 : a2 ≠ r) (h3 : r2 ≠ a) (h4 : r2 ≠ r) {x y : Int32} (hxy : ¬ x < y ∨ ∃ i j : Nat, x = nI i ∧ y = nI j ∧ i ≤ j ∧ j ≤ ys.length ∧ xs.length + (j - i) ≤ n) :
    wpc E 2 m_SI_addStretch [.ref a, .ref a2, .int x, .int y] h (fun r' h' => r' = none ∧ xfr [a, r] h h' ∧ SgL E h' a r n (xs ++ strI ys x y)) := by
  have hl := ht.len
  by_cases hlt : x < y
  · rcases hxy with q | ⟨i, j, rfl, rfl, q1, q2, q3⟩
    · exact absurd hlt q
    · rw [strI, if_pos hlt, nI_clamp (by omega), nI_clamp (by omega)]
      exact c_SI_addStretch hE hs ht h1 h2 h3 h4 q1 q2 q3
  · rw [strI, if_neg hlt, List.append_nil]
    refine (c_SI_addStretchN (a := a) (a2 := a2) hlt).mono ?_
    rintro r' h' ⟨rfl, rfl⟩
    exact ⟨rfl, xfr.rf, hs⟩
theorem c_PS_replace (hE : xOK E) (hc0 : Cl E h c) (x : Int32) (hgd : c.2.2.2.2.2.2.1 = true → gdM c.2.2.2.1.1 (aimM c.2.2.2.1 c.2.1 (-1)).2.2.2.1 c.2.2.2.1.2.1 c.2.1.length) :
    wpc E 4 m_PS_replace [.ref (xb E), .int x] h (fun r' h' => if isGr x = true ∧ c.2.2.2.2.2.2.1 = true then (∃ g : Nat, g ≤ 6 ∧ x = nI g ∧ (let R := rpR c.2.2.2.1.1 (aimM c.2.2.2.1 c.2.1 (-1)).2.2.2.1 c.2.2.2.1.2.1 c.2.1 g 31 (0, 0, c.2.2.2.2.2.1, []); r' = some (.int (nI (R.2.2 ++ c.2.1.drop R.1).length)) ∧ xfr (cA E) h h' ∧ Cl E h' (c.1, c.2.1, R.2.2 ++ c.2.1.drop R.1, aimM c.2.2.2.1 c.2.1 (-1), c.2.2.2.2.1, R.2.1, c.2.2.2.2.2.2))) else r' = some (.int (-1)) ∧ h' = h) := by
  obtain ⟨h1, h2, h3, h4, h5, h6, h7, h8⟩ := id hc0
  have hl := h3.len
  have o3 := h3.obj
  generalize hPost : (fun (r' : Option Value) (h' : xH) => if isGr x = true ∧ c.2.2.2.2.2.2.1 = true then (∃ g : Nat, g ≤ 6 ∧ x = nI g ∧ (let R := rpR c.2.2.2.1.1 (aimM c.2.2.2.1 c.2.1 (-1)).2.2.2.1 c.2.2.2.1.2.1 c.2.1 g 31 (0, 0, c.2.2.2.2.2.1, []); r' = some (.int (nI (R.2.2 ++ c.2.1.drop R.1).length)) ∧ xfr (cA E) h h' ∧ Cl E h' (c.1, c.2.1, R.2.2 ++ c.2.1.drop R.1, aimM c.2.2.2.1 c.2.1 (-1), c.2.2.2.2.1, R.2.1, c.2.2.2.2.2.2))) else r' = some (.int (-1)) ∧ h' = h) = Post
  have bad : ¬ (isGr x = true ∧ c.2.2.2.2.2.2.1 = true) → wp E 4 m_PS_replace 14 [(0, .ref (xb E)), (1, .int x)] [] h Post := by
    intro hb
    refine wp_iconst (v := (-1)) d_PS_replace_14 (by rfl) ?_
    refine wp_ireturn d_PS_replace_15 rfl (by first | rfl | assumption) ?_
    rw [← hPost]
    show if _ then _ else _
    rw [if_neg hb]
    exact ⟨rfl, rfl⟩
  refine wpc_of rfl (Nat.le_of_ble_eq_true rfl) ?_
  refine wp_iload_n d_PS_replace_0 rfl rfl ?_
  refine wp_callS1 xc_PS_106 d_PS_replace_1 (Nat.le_of_ble_eq_true rfl) (c_PS_isGroup x) (by omega) (fun r hh hp => ?_)
  obtain ⟨rfl, hz0⟩ := hp; have hz0 := hz0.symm; subst hz0
  refine wp_if_eq (tgt := 14) d_PS_replace_4 (by decide) (fun hc => ?_) (fun hc => ?_)
  · rw [bI_0] at hc
    exact bad (fun z => by rw [hc] at z; exact absurd z.1 (by decide))
  rw [bI_0] at hc
  have hgr := b_t hc
  refine wp_aload_n d_PS_replace_7 rfl rfl ?_
  refine wp_get xf_PS_41 d_PS_replace_8 (by repeat first | assumption | exact xg_eq | exact xn_eq (by first | rfl | omega) | refine xg_ne (by first | assumption | omega | (simp only [xput, xnew]; omega)) ?_ | refine xn_ne (by first | assumption | omega | (simp only [xput, xnew]; omega)) ?_ | exact rfl) (by rfl) ?_
  refine wp_if_ne (tgt := 16) d_PS_replace_11 (by decide) (fun hc2 => ?_) (fun hc2 => ?_)
  rotate_left
  · rw [bI_0] at hc2
    exact bad (fun z => by rw [hc2] at z; exact absurd z.2 (by decide))
  rw [bI_0] at hc2
  have hrd := b_t hc2
  have hgd := hgd hrd
  obtain ⟨g, hg6, rfl⟩ : ∃ g : Nat, g ≤ 6 ∧ x = nI g := by
    simp only [isGr, Bool.and_eq_true, decide_eq_true_eq] at hgr
    exact nI_of2 (M := 6) (n := 6) rfl (Int32.not_lt.mpr hgr.1) hgr.2
  have w5 := h5.1
  generalize hQ : c.2.2.2.1.1 = q at *
  generalize hfi : c.2.2.2.1.2.1 = fi at *
  generalize hM : aimM c.2.2.2.1 c.2.1 (-1) = M at *
  sorry
end CR
