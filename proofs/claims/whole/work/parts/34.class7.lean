def strI (ts : List Int32) (x y : Int32) : List Int32 := if x < y then (ts.drop x.toNatClampNeg).take (y.toNatClampNeg - x.toNatClampNeg) else []
def rpR (q : PS0) (G : Nat → Int32) (fi : Nat) (ts : List Int32) (g : Nat) : Nat → Nat × Nat × (Nat → Int32) × List Int32 → Nat × (Nat → Int32) × List Int32
  | 0, s => s.2
  | k + 1, s => match skP G fi (ts.length + 1 - s.1) s.1 with
    | none => (s.2.1, filled 14 (-2) s.2.2.1, s.2.2.2)
    | some b =>
      let f := wkB q G fi b (filled 14 (-2) s.2.2.1)
      let e := wkE q G fi b (filled 14 (-2) s.2.2.1)
      rpR q G fi ts g k (nxF b e, e, f, s.2.2.2 ++ (ts.drop s.2.1).take (b - s.2.1) ++ strI ts (f (2 * g)) (f (2 * g + 1)))
def gdM (q : PS0) (G : Nat → Int32) (fi len : Nat) : Prop := ∀ (b : Nat) (f : Nat → Int32), b ≤ len → lof G fi (nI b) = true → b ≤ wkE q G fi b (filled 14 (-2) f) ∧ wkE q G fi b (filled 14 (-2) f) ≤ len ∧
  ∀ g : Nat, g ≤ 6 → (¬ wkB q G fi b (filled 14 (-2) f) (2 * g) < wkB q G fi b (filled 14 (-2) f) (2 * g + 1)) ∨ ∃ i j : Nat, wkB q G fi b (filled 14 (-2) f) (2 * g) = nI i ∧ wkB q G fi b (filled 14 (-2) f) (2 * g + 1) = nI j ∧ b ≤ i ∧ i ≤ j ∧ j ≤ wkE q G fi b (filled 14 (-2) f)
theorem skP_lof {G : Nat → Int32} {fi : Nat} : ∀ {k i b : Nat}, skP G fi k i = some b → lof G fi (nI b) = true
  | 0, _, _, h => by cases h
  | k + 1, i, b, h => by
    rw [skP] at h
    by_cases hl : lof G fi (nI i)
    · rw [if_pos hl] at h; cases h; exact hl
    · rw [if_neg hl] at h; exact skP_lof h
theorem bdAt_g (f : Nat → Int32) : ∀ {g : Nat}, g ≤ 6 → bdAt f (2 * nI g) = f (2 * g) ∧ bdAt f (2 * nI g + 1) = f (2 * g + 1)
  | 0, _ => ⟨rfl, rfl⟩
  | 1, _ => ⟨rfl, rfl⟩
  | 2, _ => ⟨rfl, rfl⟩
  | 3, _ => ⟨rfl, rfl⟩
  | 4, _ => ⟨rfl, rfl⟩
  | 5, _ => ⟨rfl, rfl⟩
  | 6, _ => ⟨rfl, rfl⟩
  | g + 7, h => absurd h (by omega)
section CR
variable {E : xE} {h : xH} {c : CS}
theorem c_SI_addStretchI (hE : xOK E) {a r n a2 r2 n2 : Nat} {xs ys : List Int32} (hs : SgL E h a r n xs) (ht : SgL E h a2 r2 n2 ys) (h1 : a2 ≠ a) (h2 : a2 ≠ r) (h3 : r2 ≠ a) (h4 : r2 ≠ r) {x y : Int32} (hxy : ¬ x < y ∨ ∃ i j : Nat, x = nI i ∧ y = nI j ∧ i ≤ j ∧ j ≤ ys.length ∧ xs.length + (j - i) ≤ n) :
    wpc E 2 m_SI_addStretch [.ref a, .ref a2, .int x, .int y] h (fun r' h' => r' = none ∧ xfr [a, r] h h' ∧ SgL E h' a r n (xs ++ strI ys x y)) := by
  have hl := ht.len
  by_cases hlt : x < y
  · rcases hxy with q | ⟨i, j, rfl, rfl, q1, q2, q3⟩
    · exact absurd hlt q
    · rw [strI, if_pos hlt, nI_clamp (by omega), nI_clamp (by omega)]
      exact c_SI_addStretch hE hs ht h1 h2 h3 h4 q1 q2 q3
  · rw [strI, if_neg hlt, List.append_nil]
    refine (c_SI_addStretchN (a := a) (a2 := a2) hlt).mono ?_
    rintro r' h' ⟨rfl, rfl⟩
    exact ⟨rfl, xfr.rf, hs⟩
theorem c_PS_replace (hE : xOK E) (hc0 : Cl E h c) (x : Int32) (hgd : c.2.2.2.2.2.2.1 = true → gdM c.2.2.2.1.1 (aimM c.2.2.2.1 c.2.1 (-1)).2.2.2.1 c.2.2.2.1.2.1 c.2.1.length) :
    wpc E 4 m_PS_replace [.ref (xb E), .int x] h (fun r' h' => if isGr x = true ∧ c.2.2.2.2.2.2.1 = true then (∃ g : Nat, g ≤ 6 ∧ x = nI g ∧ (let R := rpR c.2.2.2.1.1 (aimM c.2.2.2.1 c.2.1 (-1)).2.2.2.1 c.2.2.2.1.2.1 c.2.1 g 31 (0, 0, c.2.2.2.2.2.1, []); r' = some (.int (nI (R.2.2 ++ c.2.1.drop R.1).length)) ∧ xfr (cA E) h h' ∧ Cl E h' (c.1, c.2.1, R.2.2 ++ c.2.1.drop R.1, aimM c.2.2.2.1 c.2.1 (-1), c.2.2.2.2.1, R.2.1, c.2.2.2.2.2.2))) else r' = some (.int (-1)) ∧ h' = h) := by
  obtain ⟨h1, h2, h3, h4, h5, h6, h7, h8⟩ := id hc0
  have hl := h3.len
  have o3 := h3.obj
  generalize hPost : (fun (r' : Option Value) (h' : xH) => if isGr x = true ∧ c.2.2.2.2.2.2.1 = true then (∃ g : Nat, g ≤ 6 ∧ x = nI g ∧ (let R := rpR c.2.2.2.1.1 (aimM c.2.2.2.1 c.2.1 (-1)).2.2.2.1 c.2.2.2.1.2.1 c.2.1 g 31 (0, 0, c.2.2.2.2.2.1, []); r' = some (.int (nI (R.2.2 ++ c.2.1.drop R.1).length)) ∧ xfr (cA E) h h' ∧ Cl E h' (c.1, c.2.1, R.2.2 ++ c.2.1.drop R.1, aimM c.2.2.2.1 c.2.1 (-1), c.2.2.2.2.1, R.2.1, c.2.2.2.2.2.2))) else r' = some (.int (-1)) ∧ h' = h) = Post
  have bad : ¬ (isGr x = true ∧ c.2.2.2.2.2.2.1 = true) → wp E 4 m_PS_replace 14 [(0, .ref (xb E)), (1, .int x)] [] h Post := by
    intro hb
    refine wp_iconst (v := (-1)) d_PS_replace_14 (by rfl) ?_
    refine wp_ireturn d_PS_replace_15 rfl (by first | rfl | assumption) ?_
    rw [← hPost]
    show if _ then _ else _
    rw [if_neg hb]
    exact ⟨rfl, rfl⟩
  refine wpc_of rfl (Nat.le_of_ble_eq_true rfl) ?_
  refine wp_iload_n d_PS_replace_0 rfl rfl ?_
  refine wp_callS1 xc_PS_106 d_PS_replace_1 (Nat.le_of_ble_eq_true rfl) (c_PS_isGroup x) (by omega) (fun r hh hp => ?_)
  obtain ⟨rfl, hz0⟩ := hp; have hz0 := hz0.symm; subst hz0
  refine wp_if_eq (tgt := 14) d_PS_replace_4 (by decide) (fun hc => ?_) (fun hc => ?_)
  · rw [bI_0] at hc
    exact bad (fun z => by rw [hc] at z; exact absurd z.1 (by decide))
  rw [bI_0] at hc
  have hgr := b_t hc
  refine wp_aload_n d_PS_replace_7 rfl rfl ?_
  refine wp_get xf_PS_41 d_PS_replace_8 (by repeat first | assumption | exact xg_eq | exact xn_eq (by first | rfl | omega) | refine xg_ne (by first | assumption | omega | (simp only [xput, xnew]; omega)) ?_ | refine xn_ne (by first | assumption | omega | (simp only [xput, xnew]; omega)) ?_ | exact rfl) (by rfl) ?_
  refine wp_if_ne (tgt := 16) d_PS_replace_11 (by decide) (fun hc2 => ?_) (fun hc2 => ?_)
  rotate_left
  · rw [bI_0] at hc2
    exact bad (fun z => by rw [hc2] at z; exact absurd z.2 (by decide))
  rw [bI_0] at hc2
  have hrd := b_t hc2
  have hgd := hgd hrd
  obtain ⟨g, hg6, rfl⟩ : ∃ g : Nat, g ≤ 6 ∧ x = nI g := by
    simp only [isGr, Bool.and_eq_true, decide_eq_true_eq] at hgr
    exact nI_of2 (M := 6) (n := 6) rfl (Int32.not_lt.mpr hgr.1) hgr.2
  have w5 := h5.1
  refine wp_aload_n d_PS_replace_16 rfl rfl ?_
  refine wp_get xf_PS_27 d_PS_replace_17 (by repeat first | assumption | exact xg_eq | exact xn_eq (by first | rfl | omega) | refine xg_ne (by first | assumption | omega | (simp only [xput, xnew]; omega)) ?_ | refine xn_ne (by first | assumption | omega | (simp only [xput, xnew]; omega)) ?_ | exact rfl) (by rfl) ?_
  refine wp_aload_n d_PS_replace_20 rfl rfl ?_
  refine wp_get xf_PS_18 d_PS_replace_21 (by repeat first | assumption | exact xg_eq | exact xn_eq (by first | rfl | omega) | refine xg_ne (by first | assumption | omega | (simp only [xput, xnew]; omega)) ?_ | refine xn_ne (by first | assumption | omega | (simp only [xput, xnew]; omega)) ?_ | exact rfl) (by rfl) ?_
  refine wp_callV1 xc_PS_95 d_PS_replace_24 (Nat.le_of_ble_eq_true rfl) (by repeat first | assumption | exact xg_eq | exact xn_eq (by first | rfl | omega) | refine xg_ne (by first | assumption | omega | (simp only [xput, xnew]; omega)) ?_ | refine xn_ne (by first | assumption | omega | (simp only [xput, xnew]; omega)) ?_ | exact rfl) (c_MA_aimAnywhere hE h5 h8 h3 (by omega) (by omega)) (by omega) (fun r g2 hp => ?_)
  obtain ⟨rfl, f2, m2⟩ := hp
  have f2 : xfr [xb E + 7, xb E + 15, xb E + 16] h g2 := f2
  have m2 : Ma E g2 (xb E + 7) c.2.2.2.1.1 c.2.2.2.1.2.1 (aimM c.2.2.2.1 c.2.1 (-1)).2.2.1 (aimM c.2.2.2.1 c.2.1 (-1)).2.2.2.1 c.2.1.length := m2
  have hP : ∀ (r' : Option Value) (h' : xH) (R : Nat × (Nat → Int32) × List Int32), rpR c.2.2.2.1.1 (aimM c.2.2.2.1 c.2.1 (-1)).2.2.2.1 c.2.2.2.1.2.1 c.2.1 g 31 (0, 0, c.2.2.2.2.2.1, []) = R → r' = some (.int (nI (R.2.2 ++ c.2.1.drop R.1).length)) → xfr (cA E) h h' → Cl E h' (c.1, c.2.1, R.2.2 ++ c.2.1.drop R.1, aimM c.2.2.2.1 c.2.1 (-1), c.2.2.2.2.1, R.2.1, c.2.2.2.2.2.2) → Post r' h' := by
    intro r' h' R hR q1 q2 q3
    rw [← hPost]
    show if _ then _ else _
    rw [if_pos ⟨hgr, hrd⟩]
    refine ⟨g, hg6, rfl, ?_⟩
    rw [hR]
    exact ⟨q1, q2, q3⟩
  clear hPost bad
  generalize hR : rpR c.2.2.2.1.1 (aimM c.2.2.2.1 c.2.1 (-1)).2.2.2.1 c.2.2.2.1.2.1 c.2.1 g 31 (0, 0, c.2.2.2.2.2.1, []) = R
  have hP := fun r' h' => hP r' h' R hR
  have G2 := hc0.get f2
  have k2 := G2.1 (by simp)
  have s2 := G2.2.2.2.1 (by simp) (by simp)
  have t2 := s2.obj
  refine wp_aload_n d_PS_replace_27 rfl rfl ?_
  refine wp_get xf_PS_21 d_PS_replace_28 (by repeat first | assumption | exact xg_eq | exact xn_eq (by first | rfl | omega) | refine xg_ne (by first | assumption | omega | (simp only [xput, xnew]; omega)) ?_ | refine xn_ne (by first | assumption | omega | (simp only [xput, xnew]; omega)) ?_ | exact rfl) (by rfl) ?_
  refine wp_callV0 xc_PS_64 d_PS_replace_31 (Nat.le_of_ble_eq_true rfl) (by repeat first | assumption | exact xg_eq | exact xn_eq (by first | rfl | omega) | refine xg_ne (by first | assumption | omega | (simp only [xput, xnew]; omega)) ?_ | refine xn_ne (by first | assumption | omega | (simp only [xput, xnew]; omega)) ?_ | exact rfl) (c_SI_clearL s2) (by omega) (fun r g3 hp => ?_)
  obtain ⟨rfl, f3, s3⟩ := hp
  have f3a : xfr [xb E + 5, xb E + 6, xb E + 7, xb E + 15, xb E + 16] h g3 := (f2.sub (by simp)).tr (f3.sub (by simp))
  have f3 : xfr [xb E + 5, xb E + 6, xb E + 7, xb E + 15, xb E + 16, xb E + 20] h g3 := (f2.sub (by simp)).tr (f3.sub (by simp))
  have m3 := m2.mv (fun z z1 z2 => (show xfr [xb E + 5] g2 g3 from by assumption).2.2 z (by simp; omega))
  have fin : ∀ (gg : xH) (i j : Int32) (cp : Nat) (f : Nat → Int32) (o : List Int32), (cp, f, o) = R → cp ≤ c.2.1.length → o.length ≤ cp → xfr [xb E + 5, xb E + 6, xb E + 7, xb E + 15, xb E + 16, xb E + 20] h gg → Ma E gg (xb E + 7) c.2.2.2.1.1 c.2.2.2.1.2.1 (aimM c.2.2.2.1 c.2.1 (-1)).2.2.1 (aimM c.2.2.2.1 c.2.1 (-1)).2.2.2.1 c.2.1.length → Bd E gg (xb E + 19) (xb E + 20) f → SgL E gg (xb E + 5) (xb E + 6) 30 o →
      wp E 4 m_PS_replace 133 [(0, .ref (xb E)), (1, .int (nI g)), (2, .int (nI cp)), (3, .int i), (4, .int j)] [] gg Post := by
    intro gg i j cp f o hRR hcp ho fg mg bg sg
    have G := hc0.get fg
    have kg := G.1 (by simp)
    have tg := G.2.2.1 (by simp) (by simp)
    have to := tg.obj
    have so := sg.obj
    refine wp_aload_n d_PS_replace_133 rfl rfl ?_
    refine wp_get xf_PS_21 d_PS_replace_134 (by repeat first | assumption | exact xg_eq | exact xn_eq (by first | rfl | omega) | refine xg_ne (by first | assumption | omega | (simp only [xput, xnew]; omega)) ?_ | refine xn_ne (by first | assumption | omega | (simp only [xput, xnew]; omega)) ?_ | exact rfl) (by rfl) ?_
    refine wp_aload_n d_PS_replace_137 rfl rfl ?_
    refine wp_get xf_PS_18 d_PS_replace_138 (by repeat first | assumption | exact xg_eq | exact xn_eq (by first | rfl | omega) | refine xg_ne (by first | assumption | omega | (simp only [xput, xnew]; omega)) ?_ | refine xn_ne (by first | assumption | omega | (simp only [xput, xnew]; omega)) ?_ | exact rfl) (by rfl) ?_
    refine wp_iload_n d_PS_replace_141 rfl rfl ?_
    refine wp_aload_n d_PS_replace_142 rfl rfl ?_
    refine wp_get xf_PS_18 d_PS_replace_143 (by repeat first | assumption | exact xg_eq | exact xn_eq (by first | rfl | omega) | refine xg_ne (by first | assumption | omega | (simp only [xput, xnew]; omega)) ?_ | refine xn_ne (by first | assumption | omega | (simp only [xput, xnew]; omega)) ?_ | exact rfl) (by rfl) ?_
    refine wp_callV0 xc_PS_60 d_PS_replace_146 (Nat.le_of_ble_eq_true rfl) (by repeat first | assumption | exact xg_eq | exact xn_eq (by first | rfl | omega) | refine xg_ne (by first | assumption | omega | (simp only [xput, xnew]; omega)) ?_ | refine xn_ne (by first | assumption | omega | (simp only [xput, xnew]; omega)) ?_ | exact rfl) (c_SI_lengthL tg) (by omega) (fun r hh hp => ?_)
    obtain ⟨rfl, hz0⟩ := hp; have hz0 := hz0.symm; subst hz0
    refine wp_callV3 xc_PS_122 d_PS_replace_149 (Nat.le_of_ble_eq_true rfl) (by repeat first | assumption | exact xg_eq | exact xn_eq (by first | rfl | omega) | refine xg_ne (by first | assumption | omega | (simp only [xput, xnew]; omega)) ?_ | refine xn_ne (by first | assumption | omega | (simp only [xput, xnew]; omega)) ?_ | exact rfl) (c_SI_addStretch hE sg tg (by omega) (by omega) (by omega) (by omega) hcp (Nat.le_refl _) (by omega)) (by omega) (fun r g4 hp => ?_)
    obtain ⟨rfl, f4, s4⟩ := hp
    have e4 : (c.2.1.drop cp).take (c.2.1.length - cp) = c.2.1.drop cp := List.take_of_length_le (by rw [List.length_drop]; exact Nat.le_refl _)
    rw [e4] at s4
    have fr : xfr [xb E + 5, xb E + 6, xb E + 7, xb E + 15, xb E + 16, xb E + 20] h g4 := fg.tr (f4.sub (by simp))
    have G4 := hc0.get fr
    have k4 := G4.1 (by simp)
    have so4 := s4.obj
    refine wp_aload_n d_PS_replace_152 rfl rfl ?_
    refine wp_get xf_PS_21 d_PS_replace_153 (by repeat first | assumption | exact xg_eq | exact xn_eq (by first | rfl | omega) | refine xg_ne (by first | assumption | omega | (simp only [xput, xnew]; omega)) ?_ | refine xn_ne (by first | assumption | omega | (simp only [xput, xnew]; omega)) ?_ | exact rfl) (by rfl) ?_
    refine wp_callV0 xc_PS_60 d_PS_replace_156 (Nat.le_of_ble_eq_true rfl) (by repeat first | assumption | exact xg_eq | exact xn_eq (by first | rfl | omega) | refine xg_ne (by first | assumption | omega | (simp only [xput, xnew]; omega)) ?_ | refine xn_ne (by first | assumption | omega | (simp only [xput, xnew]; omega)) ?_ | exact rfl) (c_SI_lengthL s4) (by omega) (fun r hh hp => ?_)
    obtain ⟨rfl, hz0⟩ := hp; have hz0 := hz0.symm; subst hz0
    refine wp_ireturn d_PS_replace_159 rfl (by first | rfl | assumption) ?_
    have e1 : R.1 = cp := by rw [← hRR]
    have e2 : R.2.1 = f := by rw [← hRR]
    have e3 : R.2.2 = o := by rw [← hRR]
    rw [e1, e2, e3] at hP
    exact hP _ _ rfl (fr.sub (by simp [cA])) ⟨k4, G4.2.1 (by simp) (by simp), G4.2.2.1 (by simp) (by simp), s4, mg.mv (fun z z1 z2 => f4.2.2 z (by simp; omega)), G4.2.2.2.2.2.1 (by simp) (by simp), ⟨f4.at (by simp) bg.1, f4.at (by simp) bg.2.1, bg.2.2⟩, h8⟩
  have lp : ∀ (k : Nat) (gg : xH) (s : Nat × Nat × (Nat → Int32) × List Int32), k ≤ 31 → s.1 ≤ c.2.1.length + 1 → s.2.1 ≤ s.1 → s.2.1 ≤ c.2.1.length → s.2.2.2.length ≤ s.2.1 → rpR c.2.2.2.1.1 (aimM c.2.2.2.1 c.2.1 (-1)).2.2.2.1 c.2.2.2.1.2.1 c.2.1 g k s = R → xfr [xb E + 5, xb E + 6, xb E + 7, xb E + 15, xb E + 16, xb E + 20] h gg → Ma E gg (xb E + 7) c.2.2.2.1.1 c.2.2.2.1.2.1 (aimM c.2.2.2.1 c.2.1 (-1)).2.2.1 (aimM c.2.2.2.1 c.2.1 (-1)).2.2.2.1 c.2.1.length → Bd E gg (xb E + 19) (xb E + 20) s.2.2.1 → SgL E gg (xb E + 5) (xb E + 6) 30 s.2.2.2 →
      wp E 4 m_PS_replace 41 [(0, .ref (xb E)), (1, .int (nI g)), (2, .int (nI s.2.1)), (3, .int (nI s.1)), (4, .int (nI (31 - k)))] [] gg Post := by
    intro k
    induction k with
    | zero =>
      intro gg s hk a1 a2 a3 a4 hs fg mg bg sg
      refine wp_iload d_PS_replace_41 rfl ?_
      refine wp_bipush (v := 30) d_PS_replace_43 (by rfl) ?_
      refine wp_icmp_gt (tgt := 133) d_PS_replace_45 (by decide) (fun hc5 => ?_) (fun hc5 => ?_)
      · exact fin gg _ _ s.2.1 s.2.2.1 s.2.2.2 hs a3 a4 fg mg bg sg
      · exact absurd (show (30 : Int32) < nI 31 by decide) hc5
    | succ k ih =>
      intro gg s hk a1 a2 a3 a4 hs fg mg bg sg
      have G := hc0.get fg
      have kg := G.1 (by simp)
      have ng := mg.1
      have wg := bg.1
      refine wp_iload d_PS_replace_41 rfl ?_
      refine wp_bipush (v := 30) d_PS_replace_43 (by rfl) ?_
      refine wp_icmp_gt (tgt := 133) d_PS_replace_45 (by decide) (fun hc5 => ?_) (fun hc5 => ?_)
      · exact absurd hc5 (nI_nlt (b := 31 - (k + 1)) (a := 30) (by omega) (by decide))
      refine wp_aload_n d_PS_replace_48 rfl rfl ?_
      refine wp_get xf_PS_27 d_PS_replace_49 (by repeat first | assumption | exact xg_eq | exact xn_eq (by first | rfl | omega) | refine xg_ne (by first | assumption | omega | (simp only [xput, xnew]; omega)) ?_ | refine xn_ne (by first | assumption | omega | (simp only [xput, xnew]; omega)) ?_ | exact rfl) (by rfl) ?_
      refine wp_iload_n d_PS_replace_52 rfl rfl ?_
      refine wp_aload_n d_PS_replace_53 rfl rfl ?_
      refine wp_get xf_PS_38 d_PS_replace_54 (by repeat first | assumption | exact xg_eq | exact xn_eq (by first | rfl | omega) | refine xg_ne (by first | assumption | omega | (simp only [xput, xnew]; omega)) ?_ | refine xn_ne (by first | assumption | omega | (simp only [xput, xnew]; omega)) ?_ | exact rfl) (by rfl) ?_
      refine wp_callV2 xc_PS_98 d_PS_replace_57 (Nat.le_of_ble_eq_true rfl) (by repeat first | assumption | exact xg_eq | exact xn_eq (by first | rfl | omega) | refine xg_ne (by first | assumption | omega | (simp only [xput, xnew]; omega)) ?_ | refine xn_ne (by first | assumption | omega | (simp only [xput, xnew]; omega)) ?_ | exact rfl) (c_MA_seek hE mg h8 (by omega) bg (by omega) (by omega) (i := s.1) (by omega)) (by omega) (fun r g4 hp => ?_)
      obtain ⟨rfl, f4, b4⟩ := hp
      have fr : xfr [xb E + 5, xb E + 6, xb E + 7, xb E + 15, xb E + 16, xb E + 20] h g4 := fg.tr (f4.sub (by simp))
      have m4 := mg.mv (fun z z1 z2 => f4.2.2 z (by simp; omega))
      have s4 : SgL E g4 (xb E + 5) (xb E + 6) 30 s.2.2.2 := sg.mv (f4.2.2 _ (by simp)) (f4.2.2 _ (by simp))
      have G4 := hc0.get fr
      have k4 := G4.1 (by simp)
      rw [rpR] at hs
      cases hsk : skP (aimM c.2.2.2.1 c.2.1 (-1)).2.2.2.1 c.2.2.2.1.2.1 (c.2.1.length + 1 - s.1) s.1 with
      | none =>
        rw [hsk] at hs
        rw [skB_none hsk] at b4
        refine wp_if_eq (tgt := 133) d_PS_replace_60 (by decide) (fun hc6 => ?_) (fun hc6 => ?_)
        · exact fin g4 _ _ s.2.1 (filled 14 (-2) s.2.2.1) s.2.2.2 hs a3 a4 fr m4 b4 s4
        · exact absurd rfl hc6
      | some b =>
        rw [hsk] at hs
        rw [skB_some hsk] at b4
        have hrg := skP_rg hsk
        obtain ⟨c1, c2, c3⟩ := hgd b s.2.2.1 (by omega) (skP_lof hsk)
        have hb0 := wkB_0 c.2.2.2.1.1 (aimM c.2.2.2.1 c.2.1 (-1)).2.2.2.1 c.2.2.2.1.2.1 b (filled 14 (-2) s.2.2.1)
        have hs : rpR c.2.2.2.1.1 (aimM c.2.2.2.1 c.2.1 (-1)).2.2.2.1 c.2.2.2.1.2.1 c.2.1 g k (nxF b (wkE c.2.2.2.1.1 (aimM c.2.2.2.1 c.2.1 (-1)).2.2.2.1 c.2.2.2.1.2.1 b (filled 14 (-2) s.2.2.1)), wkE c.2.2.2.1.1 (aimM c.2.2.2.1 c.2.1 (-1)).2.2.2.1 c.2.2.2.1.2.1 b (filled 14 (-2) s.2.2.1), wkB c.2.2.2.1.1 (aimM c.2.2.2.1 c.2.1 (-1)).2.2.2.1 c.2.2.2.1.2.1 b (filled 14 (-2) s.2.2.1), s.2.2.2 ++ (c.2.1.drop s.2.1).take (b - s.2.1) ++ strI c.2.1 (wkB c.2.2.2.1.1 (aimM c.2.2.2.1 c.2.1 (-1)).2.2.2.1 c.2.2.2.1.2.1 b (filled 14 (-2) s.2.2.1) (2 * g)) (wkB c.2.2.2.1.1 (aimM c.2.2.2.1 c.2.1 (-1)).2.2.2.1 c.2.2.2.1.2.1 b (filled 14 (-2) s.2.2.1) (2 * g + 1))) = R := hs
        have hre : nI (31 - (k + 1)) + Int32.ofInt 1 = nI (31 - k) := (nI_succ (31 - (k + 1))).symm.trans (by congr 1; omega)
        have ih := fun gg s => ih gg s (by omega)
        have c3 := c3 g hg6
        have b4 : Bd E g4 (xb E + 19) (xb E + 20) (wkB c.2.2.2.1.1 (aimM c.2.2.2.1 c.2.1 (-1)).2.2.2.1 c.2.2.2.1.2.1 b (filled 14 (-2) s.2.2.1)) := b4
        clear hgd
        generalize wkE c.2.2.2.1.1 (aimM c.2.2.2.1 c.2.1 (-1)).2.2.2.1 c.2.2.2.1.2.1 b (filled 14 (-2) s.2.2.1) = e at *
        generalize wkB c.2.2.2.1.1 (aimM c.2.2.2.1 c.2.1 (-1)).2.2.2.1 c.2.2.2.1.2.1 b (filled 14 (-2) s.2.2.1) = fb at *
        have t4 := G4.2.2.1 (by simp) (by simp)
        have to4 := t4.obj
        have so4 := s4.obj
        have wb4 := b4.1
        refine wp_if_eq (tgt := 133) d_PS_replace_60 (by decide) (fun hc6 => ?_) (fun hc6 => ?_)
        · exact absurd hc6 (show ¬ (1 : Int32) = 0 by decide)
        refine wp_aload_n d_PS_replace_63 rfl rfl ?_
        refine wp_get xf_PS_21 d_PS_replace_64 (by repeat first | assumption | exact xg_eq | exact xn_eq (by first | rfl | omega) | refine xg_ne (by first | assumption | omega | (simp only [xput, xnew]; omega)) ?_ | refine xn_ne (by first | assumption | omega | (simp only [xput, xnew]; omega)) ?_ | exact rfl) (by rfl) ?_
        refine wp_aload_n d_PS_replace_67 rfl rfl ?_
        refine wp_get xf_PS_18 d_PS_replace_68 (by repeat first | assumption | exact xg_eq | exact xn_eq (by first | rfl | omega) | refine xg_ne (by first | assumption | omega | (simp only [xput, xnew]; omega)) ?_ | refine xn_ne (by first | assumption | omega | (simp only [xput, xnew]; omega)) ?_ | exact rfl) (by rfl) ?_
        refine wp_iload_n d_PS_replace_71 rfl rfl ?_
        refine wp_aload_n d_PS_replace_72 rfl rfl ?_
        refine wp_get xf_PS_38 d_PS_replace_73 (by repeat first | assumption | exact xg_eq | exact xn_eq (by first | rfl | omega) | refine xg_ne (by first | assumption | omega | (simp only [xput, xnew]; omega)) ?_ | refine xn_ne (by first | assumption | omega | (simp only [xput, xnew]; omega)) ?_ | exact rfl) (by rfl) ?_
        refine wp_iconst (v := 0) d_PS_replace_76 (by rfl) ?_
        refine wp_callV1 xc_PS_102 d_PS_replace_77 (Nat.le_of_ble_eq_true rfl) (by repeat first | assumption | exact xg_eq | exact xn_eq (by first | rfl | omega) | refine xg_ne (by first | assumption | omega | (simp only [xput, xnew]; omega)) ?_ | refine xn_ne (by first | assumption | omega | (simp only [xput, xnew]; omega)) ?_ | exact rfl) (c_BO_begin hE b4 0) (by omega) (fun r hh hp => ?_)
        obtain ⟨rfl, hz0⟩ := hp; have hz0 := hz0.symm; subst hz0
        rw [show bdAt fb (2 * 0) = nI b from hb0.1]
        refine wp_callV3 xc_PS_122 d_PS_replace_80 (Nat.le_of_ble_eq_true rfl) (by repeat first | assumption | exact xg_eq | exact xn_eq (by first | rfl | omega) | refine xg_ne (by first | assumption | omega | (simp only [xput, xnew]; omega)) ?_ | refine xn_ne (by first | assumption | omega | (simp only [xput, xnew]; omega)) ?_ | exact rfl) (c_SI_addStretch hE s4 t4 (by omega) (by omega) (by omega) (by omega) (i := s.2.1) (j := b) (by omega) (by omega) (by omega)) (by omega) (fun r g5 hp => ?_)
        obtain ⟨rfl, f5, s5⟩ := hp
        have fr5 : xfr [xb E + 5, xb E + 6, xb E + 7, xb E + 15, xb E + 16, xb E + 20] h g5 := fr.tr (f5.sub (by simp))
        have G5 := hc0.get fr5
        have k5 := G5.1 (by simp)
        have t5 := G5.2.2.1 (by simp) (by simp)
        have to5 := t5.obj
        have so5 := s5.obj
        have b5 : Bd E g5 (xb E + 19) (xb E + 20) fb := ⟨f5.at (by simp) b4.1, f5.at (by simp) b4.2.1, b4.2.2⟩
        have wb5 := b5.1
        have m5 := m4.mv (fun z z1 z2 => f5.2.2 z (by simp; omega))
        have l5 : (s.2.2.2 ++ (c.2.1.drop s.2.1).take (b - s.2.1)).length ≤ b := by
          rw [List.length_append, List.length_take]
          have := Nat.min_le_left (b - s.2.1) (c.2.1.drop s.2.1).length
          omega
        refine wp_aload_n d_PS_replace_83 rfl rfl ?_
        refine wp_get xf_PS_21 d_PS_replace_84 (by repeat first | assumption | exact xg_eq | exact xn_eq (by first | rfl | omega) | refine xg_ne (by first | assumption | omega | (simp only [xput, xnew]; omega)) ?_ | refine xn_ne (by first | assumption | omega | (simp only [xput, xnew]; omega)) ?_ | exact rfl) (by rfl) ?_
        refine wp_aload_n d_PS_replace_87 rfl rfl ?_
        refine wp_get xf_PS_18 d_PS_replace_88 (by repeat first | assumption | exact xg_eq | exact xn_eq (by first | rfl | omega) | refine xg_ne (by first | assumption | omega | (simp only [xput, xnew]; omega)) ?_ | refine xn_ne (by first | assumption | omega | (simp only [xput, xnew]; omega)) ?_ | exact rfl) (by rfl) ?_
        refine wp_aload_n d_PS_replace_91 rfl rfl ?_
        refine wp_get xf_PS_38 d_PS_replace_92 (by repeat first | assumption | exact xg_eq | exact xn_eq (by first | rfl | omega) | refine xg_ne (by first | assumption | omega | (simp only [xput, xnew]; omega)) ?_ | refine xn_ne (by first | assumption | omega | (simp only [xput, xnew]; omega)) ?_ | exact rfl) (by rfl) ?_
        refine wp_iload_n d_PS_replace_95 rfl rfl ?_
        refine wp_callV1 xc_PS_102 d_PS_replace_96 (Nat.le_of_ble_eq_true rfl) (by repeat first | assumption | exact xg_eq | exact xn_eq (by first | rfl | omega) | refine xg_ne (by first | assumption | omega | (simp only [xput, xnew]; omega)) ?_ | refine xn_ne (by first | assumption | omega | (simp only [xput, xnew]; omega)) ?_ | exact rfl) (c_BO_begin hE b5 (nI g)) (by omega) (fun r hh hp => ?_)
        obtain ⟨rfl, hz0⟩ := hp; have hz0 := hz0.symm; subst hz0
        rw [(bdAt_g fb hg6).1]
        refine wp_aload_n d_PS_replace_99 rfl rfl ?_
        refine wp_get xf_PS_38 d_PS_replace_100 (by repeat first | assumption | exact xg_eq | exact xn_eq (by first | rfl | omega) | refine xg_ne (by first | assumption | omega | (simp only [xput, xnew]; omega)) ?_ | refine xn_ne (by first | assumption | omega | (simp only [xput, xnew]; omega)) ?_ | exact rfl) (by rfl) ?_
        refine wp_iload_n d_PS_replace_103 rfl rfl ?_
        refine wp_callV1 xc_PS_109 d_PS_replace_104 (Nat.le_of_ble_eq_true rfl) (by repeat first | assumption | exact xg_eq | exact xn_eq (by first | rfl | omega) | refine xg_ne (by first | assumption | omega | (simp only [xput, xnew]; omega)) ?_ | refine xn_ne (by first | assumption | omega | (simp only [xput, xnew]; omega)) ?_ | exact rfl) (c_BO_end hE b5 (nI g)) (by omega) (fun r hh hp => ?_)
        obtain ⟨rfl, hz0⟩ := hp; have hz0 := hz0.symm; subst hz0
        rw [(bdAt_g fb hg6).2]
        have c4 : ¬ fb (2 * g) < fb (2 * g + 1) ∨ ∃ i j : Nat, fb (2 * g) = nI i ∧ fb (2 * g + 1) = nI j ∧ i ≤ j ∧ j ≤ c.2.1.length ∧ (s.2.2.2 ++ (c.2.1.drop s.2.1).take (b - s.2.1)).length + (j - i) ≤ 30 := by
          rcases c3 with z | ⟨i, j, z1, z2, z3, z4, z5⟩
          · exact Or.inl z
          · exact Or.inr ⟨i, j, z1, z2, z4, by omega, by omega⟩
        have l6 : (s.2.2.2 ++ (c.2.1.drop s.2.1).take (b - s.2.1) ++ strI c.2.1 (fb (2 * g)) (fb (2 * g + 1))).length ≤ e := by
          rw [List.length_append]
          rcases c3 with z | ⟨i, j, z1, z2, z3, z4, z5⟩
          · rw [strI, if_neg z, List.length_nil]; omega
          · rw [z1, z2, strI, nI_clamp (by omega), nI_clamp (by omega)]
            split
            · rw [List.length_take]
              have := Nat.min_le_left (j - i) (c.2.1.drop i).length
              omega
            · rw [List.length_nil]; omega
        refine wp_callV3 xc_PS_122 d_PS_replace_107 (Nat.le_of_ble_eq_true rfl) (by repeat first | assumption | exact xg_eq | exact xn_eq (by first | rfl | omega) | refine xg_ne (by first | assumption | omega | (simp only [xput, xnew]; omega)) ?_ | refine xn_ne (by first | assumption | omega | (simp only [xput, xnew]; omega)) ?_ | exact rfl) (c_SI_addStretchI hE s5 t5 (by omega) (by omega) (by omega) (by omega) c4) (by omega) (fun r g6 hp => ?_)
        obtain ⟨rfl, f6, s6⟩ := hp
        have fr6 : xfr [xb E + 5, xb E + 6, xb E + 7, xb E + 15, xb E + 16, xb E + 20] h g6 := fr5.tr (f6.sub (by simp))
        have G6 := hc0.get fr6
        have k6 := G6.1 (by simp)
        have b6 : Bd E g6 (xb E + 19) (xb E + 20) fb := ⟨f6.at (by simp) b5.1, f6.at (by simp) b5.2.1, b5.2.2⟩
        have wb6 := b6.1
        have m6 := m5.mv (fun z z1 z2 => f6.2.2 z (by simp; omega))
        refine wp_aload_n d_PS_replace_110 rfl rfl ?_
        refine wp_get xf_PS_38 d_PS_replace_111 (by repeat first | assumption | exact xg_eq | exact xn_eq (by first | rfl | omega) | refine xg_ne (by first | assumption | omega | (simp only [xput, xnew]; omega)) ?_ | refine xn_ne (by first | assumption | omega | (simp only [xput, xnew]; omega)) ?_ | exact rfl) (by rfl) ?_
        refine wp_iconst (v := 0) d_PS_replace_114 (by rfl) ?_
        refine wp_callV1 xc_PS_109 d_PS_replace_115 (Nat.le_of_ble_eq_true rfl) (by repeat first | assumption | exact xg_eq | exact xn_eq (by first | rfl | omega) | refine xg_ne (by first | assumption | omega | (simp only [xput, xnew]; omega)) ?_ | refine xn_ne (by first | assumption | omega | (simp only [xput, xnew]; omega)) ?_ | exact rfl) (c_BO_end hE b6 0) (by omega) (fun r hh hp => ?_)
        obtain ⟨rfl, hz0⟩ := hp; have hz0 := hz0.symm; subst hz0
        rw [show bdAt fb (2 * 0 + 1) = nI e from hb0.2]
        refine wp_istore_n d_PS_replace_118 rfl (by decide) rfl ?_
        refine wp_aload_n d_PS_replace_119 rfl rfl ?_
        refine wp_get xf_PS_38 d_PS_replace_120 (by repeat first | assumption | exact xg_eq | exact xn_eq (by first | rfl | omega) | refine xg_ne (by first | assumption | omega | (simp only [xput, xnew]; omega)) ?_ | refine xn_ne (by first | assumption | omega | (simp only [xput, xnew]; omega)) ?_ | exact rfl) (by rfl) ?_
        refine wp_callV0 xc_PS_119 d_PS_replace_123 (Nat.le_of_ble_eq_true rfl) (by repeat first | assumption | exact xg_eq | exact xn_eq (by first | rfl | omega) | refine xg_ne (by first | assumption | omega | (simp only [xput, xnew]; omega)) ?_ | refine xn_ne (by first | assumption | omega | (simp only [xput, xnew]; omega)) ?_ | exact rfl) (c_BO_placeBehind hE b6) (by omega) (fun r hh hp => ?_)
        obtain ⟨rfl, hz0⟩ := hp; have hz0 := hz0.symm; subst hz0
        rw [hb0.1, hb0.2, nxF_I (by omega) (by omega)]
        refine wp_istore_n d_PS_replace_126 rfl (by decide) rfl ?_
        refine wp_iinc d_PS_replace_127 rfl rfl (by decide) rfl ?_
        refine wp_goto (tgt := 41) d_PS_replace_130 (by decide) ?_
        rw [hre]
        exact ih g6 (nxF b e, e, fb, _) (by show nxF b e ≤ _; rw [nxF]; split <;> omega) (by show e ≤ nxF b e; rw [nxF]; split <;> omega) c2 l6 hs fr6 m6 b6 s6
  refine wp_iconst (v := 0) d_PS_replace_34 (by rfl) ?_
  refine wp_istore_n d_PS_replace_35 rfl (by decide) rfl ?_
  refine wp_iconst (v := 0) d_PS_replace_36 (by rfl) ?_
  refine wp_istore_n d_PS_replace_37 rfl (by decide) rfl ?_
  refine wp_iconst (v := 0) d_PS_replace_38 (by rfl) ?_
  refine wp_istore d_PS_replace_39 (by decide) rfl ?_
  have G3 := hc0.get f3a
  exact lp 31 g3 (0, 0, c.2.2.2.2.2.1, []) (Nat.le_refl _) (Nat.zero_le _) (Nat.le_refl _) (Nat.zero_le _) (Nat.zero_le _) hR f3 m3 (G3.2.2.2.2.2.2 (by simp) (by simp)) s3
end CR
