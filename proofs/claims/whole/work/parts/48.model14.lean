def cpK (k : Nat) (M f : Nat → Int32) (j : Nat) : Int32 := if j < k then M j else f j
theorem cpK_step {k : Nat} {M f : Nat → Int32} : upd (cpK k M f) k (M k) = cpK (k + 1) M f := by
  funext j
  by_cases e : j = k
  · subst e; rw [pk_us, cpK, if_pos (by omega)]
  · rw [pk_un e, cpK, cpK]
    by_cases h : j < k
    · rw [if_pos h, if_pos (by omega)]
    · rw [if_neg h, if_neg (by omega)]
theorem srI_neg {R : Option (Nat × Nat × (Nat → Nat))} (h : ∀ q, R = some q → q.1 < 1000) : srI R < 0 ↔ R = none := by
  cases R with
  | none => exact ⟨fun _ => rfl, fun _ => by decide⟩
  | some q => exact ⟨fun z => absurd z (nI_pos (by have := h q rfl; omega)), fun z => by cases z⟩
def mmR (sm : SM) (tl : Nat) : Nat → Nat → Nat → Nat
  | 0, n, _ => n
  | k + 1, n, fr => (match srR sm (tl + 1 - fr) fr with
    | none => n
    | some q => mmR sm tl k (n + 1) (nxF q.1 q.2.1))
section M14
variable {E : xE} {h : xH} {A : MA3} {B : MB} {w : WS} {D : MD} {sm : SM}
theorem MoW.len (hm : MoW E h A B w D) : A.1.length ≤ 28 ∧ A.2.1.length ≤ 30 ∧ A.2.2.length ≤ 30 := by
  obtain ⟨s, o, t, -, -, m⟩ := hm
  exact m.len
def fdP (E : xE) (h : xH) (A : MA3) (B : MB) (w : WS) (D : MD) (R : Option (Nat × Nat × (Nat → Nat))) (r' : Option Value) (h' : xH) : Prop := r' = some (.int (if R = none then -2 else srI R)) ∧ mfr E h h' ∧ ∃ tr S M K, (∀ q, R = some q → mkF K q.2.2) ∧ MoW E h' A B w (tr, S, M, K, D.2.2.2.2.1, R.isSome)
theorem c_MO_find (hE : xOK E) (hm : MoW E h A B w D) (hok : D.2.2.2.2.1 = true → cdOK A.1 w.1 ∧ smOK A.1 A.2.1 w.1 sm) (x : Int32) : wpc E 5 m_MO_find [.ref (xb E + 21), .int x] h (fun r' h' => if (¬ x < 0 ∧ ¬ nI A.2.1.length < x) ∧ D.2.2.2.2.1 = true then (∃ i : Nat, x = nI i ∧ i ≤ A.2.1.length ∧ fdP E h A B w D (srR sm (A.2.1.length + 1 - i) i) r' h') else r' = some (.int (-1)) ∧ h' = h) := by
  have hl := hm.len
  have ho := hm.obj
  have bad : ¬ ((¬ x < 0 ∧ ¬ nI A.2.1.length < x) ∧ D.2.2.2.2.1 = true) → wp E 5 m_MO_find 19 [(0, .ref (xb E + 21)), (1, .int x)] [] h (fun r' h' => if (¬ x < 0 ∧ ¬ nI A.2.1.length < x) ∧ D.2.2.2.2.1 = true then (∃ i : Nat, x = nI i ∧ i ≤ A.2.1.length ∧ fdP E h A B w D (srR sm (A.2.1.length + 1 - i) i) r' h') else r' = some (.int (-1)) ∧ h' = h) := by
    intro hb
    refine wp_iconst (v := (-1)) d_MO_find_19 (by rfl) ?_
    refine wp_ireturn d_MO_find_20 rfl (by first | rfl | assumption) ?_
    rw [if_neg hb]
    exact ⟨rfl, rfl⟩
  refine wpc_of rfl (Nat.le_of_ble_eq_true rfl) ?_
  refine wp_iload_n d_MO_find_0 rfl rfl ?_
  refine wp_if_lt (tgt := 19) d_MO_find_1 (by decide) (fun h1 => ?_) (fun h1 => ?_)
  · exact bad (fun z => z.1.1 h1)
  refine wp_iload_n d_MO_find_4 rfl rfl ?_
  refine wp_aload_n d_MO_find_5 rfl rfl ?_
  refine wp_get xf_MO_164 d_MO_find_6 (by repeat first | exact xg_eq | exact xn_eq (by first | rfl | omega) | refine xg_ne (by first | omega | assumption | (simp only [xput, xnew]; omega)) ?_ | refine xn_ne (by first | omega | assumption | (simp only [xput, xnew]; omega)) ?_ | assumption | exact rfl) (by rfl) ?_
  refine wp_icmp_gt (tgt := 19) d_MO_find_9 (by decide) (fun h2 => ?_) (fun h2 => ?_)
  · exact bad (fun z => z.1.2 h2)
  refine wp_aload_n d_MO_find_12 rfl rfl ?_
  refine wp_get xf_MO_173 d_MO_find_13 (by repeat first | exact xg_eq | exact xn_eq (by first | rfl | omega) | refine xg_ne (by first | omega | assumption | (simp only [xput, xnew]; omega)) ?_ | refine xn_ne (by first | omega | assumption | (simp only [xput, xnew]; omega)) ?_ | assumption | exact rfl) (by rfl) ?_
  refine wp_if_ne (tgt := 21) d_MO_find_16 (by decide) (fun h3 => ?_) (fun h3 => ?_)
  rotate_left
  · exact bad (fun z => by rw [bI_0.mp h3] at z; exact absurd z.2 (by decide))
  clear bad
  have hrd := b_t (fun z => h3 (bI_0.mpr z))
  obtain ⟨k1, k2⟩ := hok hrd
  rw [show (fun r' h' => if (¬ x < 0 ∧ ¬ nI A.2.1.length < x) ∧ D.2.2.2.2.1 = true then (∃ i : Nat, x = nI i ∧ i ≤ A.2.1.length ∧ fdP E h A B w D (srR sm (A.2.1.length + 1 - i) i) r' h') else r' = some (.int (-1)) ∧ h' = h) = (fun r' h' => (∃ i : Nat, x = nI i ∧ i ≤ A.2.1.length ∧ fdP E h A B w D (srR sm (A.2.1.length + 1 - i) i) r' h')) from by funext r' h'; rw [if_pos ⟨⟨h1, h2⟩, hrd⟩]]
  obtain ⟨i, hi, rfl⟩ := nI_of h1
  have hi2 : i ≤ A.2.1.length := Nat.not_lt.mp (fun z => h2 ((nI_ltI (by omega) hi).mpr z))
  refine wp_aload_n d_MO_find_21 rfl rfl ?_
  refine wp_iload_n d_MO_find_22 rfl rfl ?_
  refine wp_callV1 xc_MO_186 d_MO_find_23 (Nat.le_of_ble_eq_true rfl) (by repeat first | exact xg_eq | exact xn_eq (by first | rfl | omega) | refine xg_ne (by first | omega | assumption | (simp only [xput, xnew]; omega)) ?_ | refine xn_ne (by first | omega | assumption | (simp only [xput, xnew]; omega)) ?_ | assumption | exact rfl) (c_MO_search hE hm k1 k2 (fr := i) (by omega)) (by omega) (fun r g2 hp => ?_)
  obtain ⟨rfl, f2, tr2, S2, M2, hM2, m2⟩ := hp
  generalize hR : srR sm (A.2.1.length + 1 - i) i = R at *
  have hRl : ∀ q, R = some q → q.1 < 1000 := by
    intro q hq
    rw [hq] at hR
    have := srR_ok hR
    omega
  have hneg := srI_neg hRl
  have fin : ∀ b : Bool, b = R.isSome → wp E 5 m_MO_find 37 [(0, .ref (xb E + 21)), (1, .int (nI i)), (2, .int (srI R))] [.int (bI b), .ref (xb E + 21)] g2 (fun r' h' => ∃ i_1 : Nat, nI i = nI i_1 ∧ i_1 ≤ A.2.1.length ∧ fdP E h A B w D (srR sm (A.2.1.length + 1 - i_1) i_1) r' h') := by
    intro b hb
    obtain ⟨s, o, t, hcd, hl0, hm1⟩ := m2
    obtain ⟨fp, ft, fo, qq, o21, a22, a23, a24, a25, a26, a27, a28, a29, a30, a31, a32, a33, a34, a35, a36, a37, a38, a39, a40⟩ := hm1
    refine wp_put xf_MO_183 xg_MO (Or.inl rfl) d_MO_find_37 (by repeat first | exact xg_eq | exact xn_eq (by first | rfl | omega) | refine xg_ne (by first | omega | assumption | (simp only [xput, xnew]; omega)) ?_ | refine xn_ne (by first | omega | assumption | (simp only [xput, xnew]; omega)) ?_ | assumption | exact rfl) (by first | rfl | assumption | exact bI_z _) (by first | rfl | assumption | exact bI_f _) (Nat.le_of_ble_eq_true rfl) ?_
    generalize hg3 : xput g2 _ _ = g3
    have f3 : mfr E h g3 := by rw [← hg3]; exact f2.put (by omega)
    have m3 : Mo E g3 A B (s, o, t, w.1.length, w.2) (tr2, S2, M2, D.2.2.2.1, D.2.2.2.2.1, b) := by rw [← hg3]; exact ⟨fp, ft, fo, qq, (by first | (repeat (refine xg_ne (by omega) ?_)); first | exact xg_eq | exact o21), (by first | (repeat (refine xg_ne (by omega) ?_)); first | exact xg_eq | exact a22), (by first | (repeat (refine xg_ne (by omega) ?_)); first | exact xg_eq | exact a23), (by first | (repeat (refine xg_ne (by omega) ?_)); first | exact xg_eq | exact a24), (by first | (repeat (refine xg_ne (by omega) ?_)); first | exact xg_eq | exact a25), (by first | (repeat (refine xg_ne (by omega) ?_)); first | exact xg_eq | exact a26), (by first | (repeat (refine xg_ne (by omega) ?_)); first | exact xg_eq | exact a27), (by first | (repeat (refine xg_ne (by omega) ?_)); first | exact xg_eq | exact a28), (by first | (repeat (refine xg_ne (by omega) ?_)); first | exact xg_eq | exact a29), (by first | (repeat (refine xg_ne (by omega) ?_)); first | exact xg_eq | exact a30), (by first | (repeat (refine xg_ne (by omega) ?_)); first | exact xg_eq | exact a31), (by first | (repeat (refine xg_ne (by omega) ?_)); first | exact xg_eq | exact a32), (by first | (repeat (refine xg_ne (by omega) ?_)); first | exact xg_eq | exact a33), (by first | (repeat (refine xg_ne (by omega) ?_)); first | exact xg_eq | exact a34), (by first | (repeat (refine xg_ne (by omega) ?_)); first | exact xg_eq | exact a35), (by first | (repeat (refine xg_ne (by omega) ?_)); first | exact xg_eq | exact a36), (by first | (repeat (refine xg_ne (by omega) ?_)); first | exact xg_eq | exact a37), (by first | (repeat (refine xg_ne (by omega) ?_)); first | exact xg_eq | exact a38), (by first | (repeat (refine xg_ne (by omega) ?_)); first | exact xg_eq | exact a39), (by first | (repeat (refine xg_ne (by omega) ?_)); first | exact xg_eq | exact a40)⟩
    clear hg3
    have lp : ∀ (q k : Nat) (g : xH), k + q = 14 → mfr E h g → Mo E g A B (s, o, t, w.1.length, w.2) (tr2, S2, M2, cpK k M2 D.2.2.2.1, D.2.2.2.2.1, b) → wp E 5 m_MO_find 42 [(0, .ref (xb E + 21)), (1, .int (nI i)), (2, .int (srI R)), (3, .int (nI k))] [] g (fun r' h' => ∃ i_1 : Nat, nI i = nI i_1 ∧ i_1 ≤ A.2.1.length ∧ fdP E h A B w D (srR sm (A.2.1.length + 1 - i_1) i_1) r' h') := by
      intro q
      induction q with
      | zero =>
        intro k g hk fg mg
        have hk : k = 14 := hk
        subst hk
        have og := mg.obj
        refine wp_iload_n d_MO_find_42 rfl rfl ?_
        refine wp_bipush (v := 14) d_MO_find_43 (by rfl) ?_
        refine wp_icmp_ge (tgt := 66) d_MO_find_45 (by decide) (fun h5 => ?_) (fun h5 => ?_)
        rotate_left
        · exact absurd (show (14 : Int32) ≤ nI 14 by decide) h5
        have hK : ∀ q, R = some q → mkF (cpK 14 M2 D.2.2.2.1) q.2.2 := fun q hq j hj => by rw [cpK, if_pos hj]; exact hM2 q hq j hj
        refine wp_aload_n d_MO_find_66 rfl rfl ?_
        refine wp_get xf_MO_183 d_MO_find_67 (by repeat first | exact xg_eq | exact xn_eq (by first | rfl | omega) | refine xg_ne (by first | omega | assumption | (simp only [xput, xnew]; omega)) ?_ | refine xn_ne (by first | omega | assumption | (simp only [xput, xnew]; omega)) ?_ | assumption | exact rfl) (by rfl) ?_
        refine wp_if_eq (tgt := 77) d_MO_find_70 (by decide) (fun h6 => ?_) (fun h6 => ?_)
        · have h6 := bI_0.mp h6
          have hn : R = none := by
            rw [hb] at h6
            cases R with
            | none => rfl
            | some q => cases h6
          refine wp_bipush (v := (-2)) d_MO_find_77 (by rfl) ?_
          refine wp_ireturn d_MO_find_79 rfl (by first | rfl | assumption) ?_
          refine ⟨i, rfl, hi2, ?_⟩
          rw [hR]
          exact ⟨by rw [if_pos hn], fg, tr2, S2, M2, _, hK, s, o, t, hcd, hl0, hb ▸ mg⟩
        · have h6 := b_t (fun z => h6 (bI_0.mpr z))
          have hn : ¬ R = none := fun z => by rw [hb, z] at h6; cases h6
          refine wp_iload_n d_MO_find_73 rfl rfl ?_
          refine wp_goto (tgt := 79) d_MO_find_74 (by decide) ?_
          refine wp_ireturn d_MO_find_79 rfl (by first | rfl | assumption) ?_
          refine ⟨i, rfl, hi2, ?_⟩
          rw [hR]
          exact ⟨by rw [if_neg hn], fg, tr2, S2, M2, _, hK, s, o, t, hcd, hl0, hb ▸ mg⟩
      | succ q ih =>
        intro k g hk fg mg
        obtain ⟨fp, ft, fo, qq, o21, a22, a23, a24, a25, a26, a27, a28, a29, a30, a31, a32, a33, a34, a35, a36, a37, a38, a39, a40⟩ := mg
        refine wp_iload_n d_MO_find_42 rfl rfl ?_
        refine wp_bipush (v := 14) d_MO_find_43 (by rfl) ?_
        refine wp_icmp_ge (tgt := 66) d_MO_find_45 (by decide) (fun h5 => ?_) (fun h5 => ?_)
        · exact absurd ((nI_leI (a := 14) (by omega) (by omega)).mp h5) (by omega)
        refine wp_aload_n d_MO_find_48 rfl rfl ?_
        refine wp_get xf_MO_19 d_MO_find_49 (by repeat first | exact xg_eq | exact xn_eq (by first | rfl | omega) | refine xg_ne (by first | omega | assumption | (simp only [xput, xnew]; omega)) ?_ | refine xn_ne (by first | omega | assumption | (simp only [xput, xnew]; omega)) ?_ | assumption | exact rfl) (by rfl) ?_
        refine wp_iload_n d_MO_find_52 rfl rfl ?_
        refine wp_aload_n d_MO_find_53 rfl rfl ?_
        refine wp_get xf_MO_65 d_MO_find_54 (by repeat first | exact xg_eq | exact xn_eq (by first | rfl | omega) | refine xg_ne (by first | omega | assumption | (simp only [xput, xnew]; omega)) ?_ | refine xn_ne (by first | omega | assumption | (simp only [xput, xnew]; omega)) ?_ | assumption | exact rfl) (by rfl) ?_
        refine wp_iload_n d_MO_find_57 rfl rfl ?_
        refine wp_iald d_MO_find_58 (by repeat first | exact xg_eq | exact xn_eq (by first | rfl | omega) | refine xg_ne (by first | omega | assumption | (simp only [xput, xnew]; omega)) ?_ | refine xn_ne (by first | omega | assumption | (simp only [xput, xnew]; omega)) ?_ | assumption | exact rfl) hE.i (vp_in_nI (by omega) (by omega)) ?_
        rw [nI_clamp (by omega)]
        refine wp_iast d_MO_find_59 (by repeat first | exact xg_eq | exact xn_eq (by first | rfl | omega) | refine xg_ne (by first | omega | assumption | (simp only [xput, xnew]; omega)) ?_ | refine xn_ne (by first | omega | assumption | (simp only [xput, xnew]; omega)) ?_ | assumption | exact rfl) hE.i (vp_in_nI (by omega) (by omega)) ?_
        rw [nI_clamp (by omega), show upd (tr2, S2, M2, cpK k M2 D.2.2.2.1, D.2.2.2.2.1, b).2.2.2.1 k ((tr2, S2, M2, cpK k M2 D.2.2.2.1, D.2.2.2.2.1, b).2.2.1 k) = cpK (k + 1) M2 D.2.2.2.1 from cpK_step]
        refine wp_iinc d_MO_find_60 rfl rfl (by decide) rfl ?_
        refine wp_goto (tgt := 42) d_MO_find_63 (by decide) ?_
        rw [show nI k + Int32.ofInt 1 = nI (k + 1) from (nI_succ k).symm]
        exact ih (k + 1) _ (by omega) (fg.put (by omega)) ⟨fp, ft, fo, qq, (by first | (repeat (refine xg_ne (by omega) ?_)); first | exact xg_eq | exact o21), (by first | (repeat (refine xg_ne (by omega) ?_)); first | exact xg_eq | exact a22), (by first | (repeat (refine xg_ne (by omega) ?_)); first | exact xg_eq | exact a23), (by first | (repeat (refine xg_ne (by omega) ?_)); first | exact xg_eq | exact a24), (by first | (repeat (refine xg_ne (by omega) ?_)); first | exact xg_eq | exact a25), (by first | (repeat (refine xg_ne (by omega) ?_)); first | exact xg_eq | exact a26), (by first | (repeat (refine xg_ne (by omega) ?_)); first | exact xg_eq | exact a27), (by first | (repeat (refine xg_ne (by omega) ?_)); first | exact xg_eq | exact a28), (by first | (repeat (refine xg_ne (by omega) ?_)); first | exact xg_eq | exact a29), (by first | (repeat (refine xg_ne (by omega) ?_)); first | exact xg_eq | exact a30), (by first | (repeat (refine xg_ne (by omega) ?_)); first | exact xg_eq | exact a31), (by first | (repeat (refine xg_ne (by omega) ?_)); first | exact xg_eq | exact a32), (by first | (repeat (refine xg_ne (by omega) ?_)); first | exact xg_eq | exact a33), (by first | (repeat (refine xg_ne (by omega) ?_)); first | exact xg_eq | exact a34), (by first | (repeat (refine xg_ne (by omega) ?_)); first | exact xg_eq | exact a35), (by first | (repeat (refine xg_ne (by omega) ?_)); first | exact xg_eq | exact a36), (by first | (repeat (refine xg_ne (by omega) ?_)); first | exact xg_eq | exact a37), (by first | (repeat (refine xg_ne (by omega) ?_)); first | exact xg_eq | exact a38), (by first | (repeat (refine xg_ne (by omega) ?_)); first | exact xg_eq | exact a39), (by first | (repeat (refine xg_ne (by omega) ?_)); first | exact xg_eq | exact a40)⟩
    refine wp_iconst (v := 0) d_MO_find_40 (by rfl) ?_
    refine wp_istore_n d_MO_find_41 rfl (by decide) rfl ?_
    exact lp 14 0 g3 rfl f3 (by rw [show cpK 0 M2 D.2.2.2.1 = D.2.2.2.1 from by funext j; rw [cpK, if_neg (by omega)]]; exact m3)
  refine wp_istore_n d_MO_find_26 rfl (by decide) rfl ?_
  refine wp_aload_n d_MO_find_27 rfl rfl ?_
  refine wp_iload_n d_MO_find_28 rfl rfl ?_
  refine wp_if_lt (tgt := 36) d_MO_find_29 (by decide) (fun h5 => ?_) (fun h5 => ?_)
  · refine wp_iconst (v := 0) d_MO_find_36 (by rfl) ?_
    exact fin false (by rw [hneg.mp h5]; rfl)
  · refine wp_iconst (v := 1) d_MO_find_32 (by rfl) ?_
    refine wp_goto (tgt := 37) d_MO_find_33 (by decide) ?_
    refine fin true ?_
    cases R with
    | none => exact absurd (hneg.mpr rfl) h5
    | some q => rfl
theorem isGr_of {x : Int32} (h1 : ¬ x < 0) (h2 : ¬ 6 < x) : isGr x = true := by rw [isGr, decide_eq_true (Int32.not_lt.mp h1), decide_eq_true (Int32.not_lt.mp h2)]; rfl
theorem isGr_1 {x : Int32} (h : isGr x = true) : ¬ x < 0 ∧ ¬ 6 < x := by
  simp only [isGr, Bool.and_eq_true, decide_eq_true_eq] at h
  exact ⟨Int32.not_lt.mpr h.1, Int32.not_lt.mpr h.2⟩
theorem isGr_n {x : Int32} (h : isGr x = true) : ∃ g : Nat, g ≤ 6 ∧ x = nI g := nI_of2 (M := 6) (n := 6) rfl (isGr_1 h).1 (Int32.not_lt.mp (isGr_1 h).2)
theorem c_MO_group (hE : xOK E) (hm : MoW E h A B w D) (x : Int32) (e : Bool) : wpc E 0 m_MO_group [.ref (xb E + 21), .int x, .int (bI e)] h (fun r' h' => h' = h ∧ if isGr x = true ∧ D.2.2.2.2.1 = true then (∃ g : Nat, g ≤ 6 ∧ x = nI g ∧ r' = some (.int (if D.2.2.2.2.2 = false ∨ D.2.2.2.1 (2 * g + 1) < 0 then -2 else D.2.2.2.1 (2 * g + (if e then 1 else 0))))) else r' = some (.int (-1))) := by
  obtain ⟨s, o, t, hcd, hl0, hm1⟩ := hm
  obtain ⟨fp, ft, fo, qq, o21, a22, a23, a24, a25, a26, a27, a28, a29, a30, a31, a32, a33, a34, a35, a36, a37, a38, a39, a40⟩ := hm1
  have bad : ¬ (isGr x = true ∧ D.2.2.2.2.1 = true) → wp E 0 m_MO_group 17 [(0, .ref (xb E + 21)), (1, .int x), (2, .int (bI e))] [] h (fun r' h' => h' = h ∧ if isGr x = true ∧ D.2.2.2.2.1 = true then (∃ g : Nat, g ≤ 6 ∧ x = nI g ∧ r' = some (.int (if D.2.2.2.2.2 = false ∨ D.2.2.2.1 (2 * g + 1) < 0 then -2 else D.2.2.2.1 (2 * g + (if e then 1 else 0))))) else r' = some (.int (-1))) := by
    intro hb
    refine wp_iconst (v := (-1)) d_MO_group_17 (by rfl) ?_
    refine wp_ireturn d_MO_group_18 rfl (by first | rfl | assumption) ?_
    rw [if_neg hb]
    exact ⟨rfl, rfl⟩
  refine wpc_of rfl (Nat.le_of_ble_eq_true rfl) ?_
  refine wp_iload_n d_MO_group_0 rfl rfl ?_
  refine wp_if_lt (tgt := 17) d_MO_group_1 (by decide) (fun h1 => ?_) (fun h1 => ?_)
  · exact bad (fun z => (isGr_1 z.1).1 h1)
  refine wp_iload_n d_MO_group_4 rfl rfl ?_
  refine wp_bipush (v := 6) d_MO_group_5 (by rfl) ?_
  refine wp_icmp_gt (tgt := 17) d_MO_group_7 (by decide) (fun h2 => ?_) (fun h2 => ?_)
  · exact bad (fun z => (isGr_1 z.1).2 h2)
  refine wp_aload_n d_MO_group_10 rfl rfl ?_
  refine wp_get xf_MO_173 d_MO_group_11 (by repeat first | exact xg_eq | exact xn_eq (by first | rfl | omega) | refine xg_ne (by first | omega | assumption | (simp only [xput, xnew]; omega)) ?_ | refine xn_ne (by first | omega | assumption | (simp only [xput, xnew]; omega)) ?_ | assumption | exact rfl) (by rfl) ?_
  refine wp_if_ne (tgt := 19) d_MO_group_14 (by decide) (fun h3 => ?_) (fun h3 => ?_)
  rotate_left
  · exact bad (fun z => by rw [bI_0.mp h3] at z; exact absurd z.2 (by decide))
  clear bad
  have hrd := b_t (fun z => h3 (bI_0.mpr z))
  have hgr := isGr_of h1 h2
  obtain ⟨g, hg, rfl⟩ := isGr_n hgr
  have e0 : (2 : Int32) * nI g = nI (2 * g) := pk_mul 2 g
  have e1 : nI (2 * g) + 1 = nI (2 * g + 1) := (nI_succ _).symm
  have none2 : (D.2.2.2.2.2 = false ∨ D.2.2.2.1 (2 * g + 1) < 0) → wp E 0 m_MO_group 39 [(0, .ref (xb E + 21)), (1, .int (nI g)), (2, .int (bI e))] [] h (fun r' h' => h' = h ∧ if isGr (nI g) = true ∧ D.2.2.2.2.1 = true then (∃ g' : Nat, g' ≤ 6 ∧ nI g = nI g' ∧ r' = some (.int (if D.2.2.2.2.2 = false ∨ D.2.2.2.1 (2 * g' + 1) < 0 then -2 else D.2.2.2.1 (2 * g' + (if e then 1 else 0))))) else r' = some (.int (-1))) := by
    intro hb
    refine wp_bipush (v := (-2)) d_MO_group_39 (by rfl) ?_
    refine wp_ireturn d_MO_group_41 rfl (by first | rfl | assumption) ?_
    rw [if_pos ⟨hgr, hrd⟩]
    exact ⟨rfl, g, hg, rfl, by rw [if_pos hb]⟩
  refine wp_aload_n d_MO_group_19 rfl rfl ?_
  refine wp_get xf_MO_183 d_MO_group_20 (by repeat first | exact xg_eq | exact xn_eq (by first | rfl | omega) | refine xg_ne (by first | omega | assumption | (simp only [xput, xnew]; omega)) ?_ | refine xn_ne (by first | omega | assumption | (simp only [xput, xnew]; omega)) ?_ | assumption | exact rfl) (by rfl) ?_
  refine wp_if_eq (tgt := 39) d_MO_group_23 (by decide) (fun h4 => ?_) (fun h4 => ?_)
  · exact none2 (Or.inl (bI_0.mp h4))
  refine wp_aload_n d_MO_group_26 rfl rfl ?_
  refine wp_get xf_MO_19 d_MO_group_27 (by repeat first | exact xg_eq | exact xn_eq (by first | rfl | omega) | refine xg_ne (by first | omega | assumption | (simp only [xput, xnew]; omega)) ?_ | refine xn_ne (by first | omega | assumption | (simp only [xput, xnew]; omega)) ?_ | assumption | exact rfl) (by rfl) ?_
  refine wp_iconst (v := 2) d_MO_group_30 (by rfl) ?_
  refine wp_iload_n d_MO_group_31 rfl rfl ?_
  refine wp_imul d_MO_group_32 ?_
  refine wp_iconst (v := 1) d_MO_group_33 (by rfl) ?_
  refine wp_iadd d_MO_group_34 ?_
  rw [e0, e1]
  refine wp_iald d_MO_group_35 (by repeat first | exact xg_eq | exact xn_eq (by first | rfl | omega) | refine xg_ne (by first | omega | assumption | (simp only [xput, xnew]; omega)) ?_ | refine xn_ne (by first | omega | assumption | (simp only [xput, xnew]; omega)) ?_ | assumption | exact rfl) hE.i (vp_in_nI (by omega) (by omega)) ?_
  rw [nI_clamp (by omega)]
  refine wp_if_ge (tgt := 42) d_MO_group_36 (by decide) (fun h5 => ?_) (fun h5 => ?_)
  rotate_left
  · exact none2 (Or.inr (Int32.not_le.mp h5))
  have hno : ¬ (D.2.2.2.2.2 = false ∨ D.2.2.2.1 (2 * g + 1) < 0) := fun z => z.elim (fun z => h4 (bI_0.mpr z)) (fun z => Int32.not_lt.mpr h5 z)
  cases e with
  | true =>
    refine wp_aload_n d_MO_group_42 rfl rfl ?_
    refine wp_get xf_MO_19 d_MO_group_43 (by repeat first | exact xg_eq | exact xn_eq (by first | rfl | omega) | refine xg_ne (by first | omega | assumption | (simp only [xput, xnew]; omega)) ?_ | refine xn_ne (by first | omega | assumption | (simp only [xput, xnew]; omega)) ?_ | assumption | exact rfl) (by rfl) ?_
    refine wp_iconst (v := 2) d_MO_group_46 (by rfl) ?_
    refine wp_iload_n d_MO_group_47 rfl rfl ?_
    refine wp_imul d_MO_group_48 ?_
    refine wp_iload_n d_MO_group_49 rfl rfl ?_
    refine wp_if_eq (tgt := 57) d_MO_group_50 (by decide) (fun h6 => ?_) (fun h6 => ?_)
    · exact absurd h6 (by decide)
    refine wp_iconst (v := 1) d_MO_group_53 (by rfl) ?_
    refine wp_goto (tgt := 58) d_MO_group_54 (by decide) ?_
    refine wp_iadd d_MO_group_58 ?_
    rw [e0, e1]
    refine wp_iald d_MO_group_59 (by repeat first | exact xg_eq | exact xn_eq (by first | rfl | omega) | refine xg_ne (by first | omega | assumption | (simp only [xput, xnew]; omega)) ?_ | refine xn_ne (by first | omega | assumption | (simp only [xput, xnew]; omega)) ?_ | assumption | exact rfl) hE.i (vp_in_nI (by omega) (by omega)) ?_
    rw [nI_clamp (by omega)]
    refine wp_ireturn d_MO_group_60 rfl (by first | rfl | assumption) ?_
    rw [if_pos ⟨hgr, hrd⟩]
    exact ⟨rfl, g, hg, rfl, by rw [if_neg hno]; rfl⟩
  | false =>
    refine wp_aload_n d_MO_group_42 rfl rfl ?_
    refine wp_get xf_MO_19 d_MO_group_43 (by repeat first | exact xg_eq | exact xn_eq (by first | rfl | omega) | refine xg_ne (by first | omega | assumption | (simp only [xput, xnew]; omega)) ?_ | refine xn_ne (by first | omega | assumption | (simp only [xput, xnew]; omega)) ?_ | assumption | exact rfl) (by rfl) ?_
    refine wp_iconst (v := 2) d_MO_group_46 (by rfl) ?_
    refine wp_iload_n d_MO_group_47 rfl rfl ?_
    refine wp_imul d_MO_group_48 ?_
    refine wp_iload_n d_MO_group_49 rfl rfl ?_
    refine wp_if_eq (tgt := 57) d_MO_group_50 (by decide) (fun h6 => ?_) (fun h6 => ?_)
    rotate_left
    · exact absurd rfl h6
    refine wp_iconst (v := 0) d_MO_group_57 (by rfl) ?_
    refine wp_iadd d_MO_group_58 ?_
    rw [e0, show nI (2 * g) + 0 = nI (2 * g) from nI_add (2 * g) 0]
    refine wp_iald d_MO_group_59 (by repeat first | exact xg_eq | exact xn_eq (by first | rfl | omega) | refine xg_ne (by first | omega | assumption | (simp only [xput, xnew]; omega)) ?_ | refine xn_ne (by first | omega | assumption | (simp only [xput, xnew]; omega)) ?_ | assumption | exact rfl) hE.i (vp_in_nI (by omega) (by omega)) ?_
    rw [nI_clamp (by omega)]
    refine wp_ireturn d_MO_group_60 rfl (by first | rfl | assumption) ?_
    rw [if_pos ⟨hgr, hrd⟩]
    exact ⟨rfl, g, hg, rfl, by rw [if_neg hno]; rfl⟩
theorem c_MO_whole (hE : xOK E) (hm : MoW E h A B w D) (hok : D.2.2.2.2.1 = true → cdOK A.1 w.1) (x y : Int32) (htop : ∀ i j : Nat, i ≤ A.2.1.length → ∀ z, (wyR A.1 A.2.1 w.1 (nI j) i (filB 4030 D.1)).1 = some z → z < 1000) : wpc E 4 m_MO_whole [.ref (xb E + 21), .int x, .int y] h (fun r' h' => if (¬ x < 0 ∧ ¬ y < x ∧ ¬ nI A.2.1.length < y) ∧ D.2.2.2.2.1 = true then (∃ i j : Nat, x = nI i ∧ y = nI j ∧ i ≤ j ∧ j ≤ A.2.1.length ∧ r' = some (.int (bI (wyR A.1 A.2.1 w.1 (nI j) i (filB 4030 D.1)).1.isSome)) ∧ mfr E h h' ∧ ∃ tr S M, MoW E h' A B w (tr, S, M, D.2.2.2)) else r' = some (.int (-1)) ∧ h' = h) := by
  have hl := hm.len
  have ho := hm.obj
  have bad : ¬ ((¬ x < 0 ∧ ¬ y < x ∧ ¬ nI A.2.1.length < y) ∧ D.2.2.2.2.1 = true) → wp E 4 m_MO_whole 32 [(0, .ref (xb E + 21)), (1, .int x), (2, .int y)] [] h (fun r' h' => if (¬ x < 0 ∧ ¬ y < x ∧ ¬ nI A.2.1.length < y) ∧ D.2.2.2.2.1 = true then (∃ i j : Nat, x = nI i ∧ y = nI j ∧ i ≤ j ∧ j ≤ A.2.1.length ∧ r' = some (.int (bI (wyR A.1 A.2.1 w.1 (nI j) i (filB 4030 D.1)).1.isSome)) ∧ mfr E h h' ∧ ∃ tr S M, MoW E h' A B w (tr, S, M, D.2.2.2)) else r' = some (.int (-1)) ∧ h' = h) := by
    intro hb
    refine wp_iconst (v := (-1)) d_MO_whole_32 (by rfl) ?_
    refine wp_ireturn d_MO_whole_33 rfl (by first | rfl | assumption) ?_
    rw [if_neg hb]
    exact ⟨rfl, rfl⟩
  refine wpc_of rfl (Nat.le_of_ble_eq_true rfl) ?_
  refine wp_iload_n d_MO_whole_0 rfl rfl ?_
  refine wp_if_lt (tgt := 32) d_MO_whole_1 (by decide) (fun h1 => ?_) (fun h1 => ?_)
  · exact bad (fun z => z.1.1 h1)
  refine wp_iload_n d_MO_whole_4 rfl rfl ?_
  refine wp_aload_n d_MO_whole_5 rfl rfl ?_
  refine wp_get xf_MO_164 d_MO_whole_6 (by repeat first | exact xg_eq | exact xn_eq (by first | rfl | omega) | refine xg_ne (by first | omega | assumption | (simp only [xput, xnew]; omega)) ?_ | refine xn_ne (by first | omega | assumption | (simp only [xput, xnew]; omega)) ?_ | assumption | exact rfl) (by rfl) ?_
  refine wp_icmp_gt (tgt := 32) d_MO_whole_9 (by decide) (fun h2 => ?_) (fun h2 => ?_)
  · refine bad (fun z => ?_)
    exact absurd h2 (Int32.not_lt.mpr (Int32.le_trans (Int32.not_lt.mp z.1.2.1) (Int32.not_lt.mp z.1.2.2)))
  refine wp_iload_n d_MO_whole_12 rfl rfl ?_
  refine wp_iload_n d_MO_whole_13 rfl rfl ?_
  refine wp_icmp_lt (tgt := 32) d_MO_whole_14 (by decide) (fun h3 => ?_) (fun h3 => ?_)
  · exact bad (fun z => z.1.2.1 h3)
  refine wp_iload_n d_MO_whole_17 rfl rfl ?_
  refine wp_aload_n d_MO_whole_18 rfl rfl ?_
  refine wp_get xf_MO_164 d_MO_whole_19 (by repeat first | exact xg_eq | exact xn_eq (by first | rfl | omega) | refine xg_ne (by first | omega | assumption | (simp only [xput, xnew]; omega)) ?_ | refine xn_ne (by first | omega | assumption | (simp only [xput, xnew]; omega)) ?_ | assumption | exact rfl) (by rfl) ?_
  refine wp_icmp_gt (tgt := 32) d_MO_whole_22 (by decide) (fun h4 => ?_) (fun h4 => ?_)
  · exact bad (fun z => z.1.2.2 h4)
  refine wp_aload_n d_MO_whole_25 rfl rfl ?_
  refine wp_get xf_MO_173 d_MO_whole_26 (by repeat first | exact xg_eq | exact xn_eq (by first | rfl | omega) | refine xg_ne (by first | omega | assumption | (simp only [xput, xnew]; omega)) ?_ | refine xn_ne (by first | omega | assumption | (simp only [xput, xnew]; omega)) ?_ | assumption | exact rfl) (by rfl) ?_
  refine wp_if_ne (tgt := 34) d_MO_whole_29 (by decide) (fun h5 => ?_) (fun h5 => ?_)
  rotate_left
  · exact bad (fun z => by rw [bI_0.mp h5] at z; exact absurd z.2 (by decide))
  clear bad
  have hrd := b_t (fun z => h5 (bI_0.mpr z))
  have k1 := hok hrd
  obtain ⟨i, hi, rfl⟩ := nI_of h1
  obtain ⟨j, hj, rfl⟩ := nI_of (x := y) (fun z => h3 (Int32.lt_of_lt_of_le z (Int32.not_lt.mp h1)))
  have hij : i ≤ j := (nI_leI hi hj).mp (Int32.not_lt.mp h3)
  have hjl : j ≤ A.2.1.length := Nat.not_lt.mp (fun z => h4 ((nI_ltI (by omega) hj).mpr z))
  have htop := htop i j (by omega)
  refine wp_aload_n d_MO_whole_34 rfl rfl ?_
  refine wp_iload_n d_MO_whole_35 rfl rfl ?_
  refine wp_iload_n d_MO_whole_36 rfl rfl ?_
  refine wp_callV2 xc_MO_170 d_MO_whole_37 (Nat.le_of_ble_eq_true rfl) (by repeat first | exact xg_eq | exact xn_eq (by first | rfl | omega) | refine xg_ne (by first | omega | assumption | (simp only [xput, xnew]; omega)) ?_ | refine xn_ne (by first | omega | assumption | (simp only [xput, xnew]; omega)) ?_ | assumption | exact rfl) (c_MO_way hE hm k1 (fr := i) (by omega) (nI j)) (by omega) (fun r g2 hp => ?_)
  obtain ⟨rfl, f2, hb, tr2, S2, M2, hM2, m2⟩ := hp
  refine wp_if_lt (tgt := 47) d_MO_whole_40 (by decide) (fun h6 => ?_) (fun h6 => ?_)
  · refine wp_iconst (v := 0) d_MO_whole_47 (by rfl) ?_
    refine wp_ireturn d_MO_whole_48 rfl (by first | rfl | assumption) ?_
    rw [if_pos ⟨⟨h1, h3, h4⟩, hrd⟩]
    refine ⟨i, j, rfl, rfl, hij, hjl, ?_, f2, tr2, S2, M2, m2⟩
    cases hW : (wyR A.1 A.2.1 w.1 (nI j) i (filB 4030 D.1)).1 with
    | none => rfl
    | some z =>
      rw [hW] at h6
      exact absurd h6 (nI_pos (by have := htop z hW; omega))
  · refine wp_iconst (v := 1) d_MO_whole_43 (by rfl) ?_
    refine wp_goto (tgt := 48) d_MO_whole_44 (by decide) ?_
    refine wp_ireturn d_MO_whole_48 rfl (by first | rfl | assumption) ?_
    rw [if_pos ⟨⟨h1, h3, h4⟩, hrd⟩]
    refine ⟨i, j, rfl, rfl, hij, hjl, ?_, f2, tr2, S2, M2, m2⟩
    cases hW : (wyR A.1 A.2.1 w.1 (nI j) i (filB 4030 D.1)).1 with
    | none =>
      rw [hW] at h6
      exact absurd (show (-1 : Int32) < 0 by decide) h6
    | some z => rfl
theorem c_MO_matches (hE : xOK E) (hm : MoW E h A B w D) (hok : D.2.2.2.2.1 = true → cdOK A.1 w.1 ∧ smOK A.1 A.2.1 w.1 sm) : wpc E 5 m_MO_matches [.ref (xb E + 21)] h (fun r' h' => if D.2.2.2.2.1 = true then r' = some (.int (nI (mmR sm A.2.1.length 31 0 0))) ∧ mfr E h h' ∧ (∃ tr S M, MoW E h' A B w (tr, S, M, D.2.2.2)) else r' = some (.int (-1)) ∧ h' = h) := by
  have hl := hm.len
  have ho := hm.obj
  refine wpc_of rfl (Nat.le_of_ble_eq_true rfl) ?_
  refine wp_aload_n d_MO_matches_0 rfl rfl ?_
  refine wp_get xf_MO_173 d_MO_matches_1 (by repeat first | exact xg_eq | exact xn_eq (by first | rfl | omega) | refine xg_ne (by first | omega | assumption | (simp only [xput, xnew]; omega)) ?_ | refine xn_ne (by first | omega | assumption | (simp only [xput, xnew]; omega)) ?_ | assumption | exact rfl) (by rfl) ?_
  refine wp_if_ne (tgt := 9) d_MO_matches_4 (by decide) (fun h1 => ?_) (fun h1 => ?_)
  rotate_left
  · have hrd := bI_0.mp h1
    refine wp_iconst (v := (-1)) d_MO_matches_7 (by rfl) ?_
    refine wp_ireturn d_MO_matches_8 rfl (by first | rfl | assumption) ?_
    rw [if_neg (by rw [hrd]; decide)]
    exact ⟨rfl, rfl⟩
  have hrd := b_t (fun z => h1 (bI_0.mpr z))
  obtain ⟨k1, k2⟩ := hok hrd
  rw [show (fun (r' : Option Value) (h' : xH) => if D.2.2.2.2.1 = true then r' = some (.int (nI (mmR sm A.2.1.length 31 0 0))) ∧ mfr E h h' ∧ (∃ tr S M, MoW E h' A B w (tr, S, M, D.2.2.2)) else r' = some (.int (-1)) ∧ h' = h) = (fun (r' : Option Value) (h' : xH) => r' = some (.int (nI (mmR sm A.2.1.length 31 0 0))) ∧ mfr E h h' ∧ (∃ tr S M, MoW E h' A B w (tr, S, M, D.2.2.2))) from by funext r' h'; rw [if_pos hrd]]
  have lp : ∀ (k n fr : Nat) (g : xH) (tr : Nat → Bool) (S M : Nat → Int32), A.2.1.length + 1 ≤ fr + k → fr ≤ A.2.1.length + 1 → n ≤ fr → mfr E h g → MoW E g A B w (tr, S, M, D.2.2.2) → mmR sm A.2.1.length k n fr = mmR sm A.2.1.length 31 0 0 → wp E 5 m_MO_matches 13 [(0, .ref (xb E + 21)), (1, .int (nI n)), (2, .int (nI fr))] [] g (fun r' h' => r' = some (.int (nI (mmR sm A.2.1.length 31 0 0))) ∧ mfr E h h' ∧ (∃ tr S M, MoW E h' A B w (tr, S, M, D.2.2.2))) := by
    intro k
    induction k with
    | zero =>
      intro n fr g tr S M hk hfr hn fg mg hr
      have og := mg.obj
      refine wp_iload_n d_MO_matches_13 rfl rfl ?_
      refine wp_aload_n d_MO_matches_14 rfl rfl ?_
      refine wp_get xf_MO_164 d_MO_matches_15 (by repeat first | exact xg_eq | exact xn_eq (by first | rfl | omega) | refine xg_ne (by first | omega | assumption | (simp only [xput, xnew]; omega)) ?_ | refine xn_ne (by first | omega | assumption | (simp only [xput, xnew]; omega)) ?_ | assumption | exact rfl) (by rfl) ?_
      refine wp_icmp_gt (tgt := 68) d_MO_matches_18 (by decide) (fun h2 => ?_) (fun h2 => ?_)
      rotate_left
      · exact absurd (nI_lt (by omega) (by omega)) h2
      refine wp_iload_n d_MO_matches_68 rfl rfl ?_
      refine wp_ireturn d_MO_matches_69 rfl (by first | rfl | assumption) ?_
      rw [← hr]
      exact ⟨rfl, fg, tr, S, M, mg⟩
    | succ k ih =>
      intro n fr g tr S M hk hfr hn fg mg hr
      have og := mg.obj
      have fin : ∀ (g : xH) (tr : Nat → Bool) (S M : Nat → Int32), mfr E h g → MoW E g A B w (tr, S, M, D.2.2.2) → n = mmR sm A.2.1.length 31 0 0 → wp E 5 m_MO_matches 68 [(0, .ref (xb E + 21)), (1, .int (nI n)), (2, .int (nI fr))] [] g (fun r' h' => r' = some (.int (nI (mmR sm A.2.1.length 31 0 0))) ∧ mfr E h h' ∧ (∃ tr S M, MoW E h' A B w (tr, S, M, D.2.2.2))) := by
        intro g tr S M fg mg hn
        refine wp_iload_n d_MO_matches_68 rfl rfl ?_
        refine wp_ireturn d_MO_matches_69 rfl (by first | rfl | assumption) ?_
        rw [← hn]
        exact ⟨rfl, fg, tr, S, M, mg⟩
      rw [mmR] at hr
      by_cases hle : A.2.1.length < fr
      · rw [show A.2.1.length + 1 - fr = 0 by omega, srR] at hr
        refine wp_iload_n d_MO_matches_13 rfl rfl ?_
        refine wp_aload_n d_MO_matches_14 rfl rfl ?_
        refine wp_get xf_MO_164 d_MO_matches_15 (by repeat first | exact xg_eq | exact xn_eq (by first | rfl | omega) | refine xg_ne (by first | omega | assumption | (simp only [xput, xnew]; omega)) ?_ | refine xn_ne (by first | omega | assumption | (simp only [xput, xnew]; omega)) ?_ | assumption | exact rfl) (by rfl) ?_
        refine wp_icmp_gt (tgt := 68) d_MO_matches_18 (by decide) (fun h2 => ?_) (fun h2 => ?_)
        · exact fin g tr S M fg mg hr
        · exact absurd (nI_lt hle (by omega)) h2
      refine wp_iload_n d_MO_matches_13 rfl rfl ?_
      refine wp_aload_n d_MO_matches_14 rfl rfl ?_
      refine wp_get xf_MO_164 d_MO_matches_15 (by repeat first | exact xg_eq | exact xn_eq (by first | rfl | omega) | refine xg_ne (by first | omega | assumption | (simp only [xput, xnew]; omega)) ?_ | refine xn_ne (by first | omega | assumption | (simp only [xput, xnew]; omega)) ?_ | assumption | exact rfl) (by rfl) ?_
      refine wp_icmp_gt (tgt := 68) d_MO_matches_18 (by decide) (fun h2 => ?_) (fun h2 => ?_)
      · exact absurd h2 (nI_nlt (by omega) (by omega))
      refine wp_aload_n d_MO_matches_21 rfl rfl ?_
      refine wp_iload_n d_MO_matches_22 rfl rfl ?_
      refine wp_callV1 xc_MO_186 d_MO_matches_23 (Nat.le_of_ble_eq_true rfl) (by repeat first | exact xg_eq | exact xn_eq (by first | rfl | omega) | refine xg_ne (by first | omega | assumption | (simp only [xput, xnew]; omega)) ?_ | refine xn_ne (by first | omega | assumption | (simp only [xput, xnew]; omega)) ?_ | assumption | exact rfl) (c_MO_search hE mg k1 k2 (fr := fr) hfr) (by omega) (fun r g2 hp => ?_)
      obtain ⟨rfl, f2, tr2, S2, M2, hM2, m2⟩ := hp
      cases hR : srR sm (A.2.1.length + 1 - fr) fr with
      | none =>
        rw [hR] at hr
        refine wp_if_lt (tgt := 68) d_MO_matches_26 (by decide) (fun h3 => ?_) (fun h3 => ?_)
        · exact fin g2 tr2 S2 M2 (fg.tr f2) m2 hr
        · exact absurd (show (-1 : Int32) < 0 by decide) h3
      | some q =>
        rw [hR] at hr
        have hr : mmR sm A.2.1.length k (n + 1) (nxF q.1 q.2.1) = mmR sm A.2.1.length 31 0 0 := hr
        obtain ⟨c1, c2, q', c3, c4⟩ := srR_ok hR
        have hs := ((k2 q.1 (fun _ => false) (by omega) (fun _ _ => rfl)).1 q' c3).2.2
        have hq2 : q.2.1 = q'.1 := by rw [c4]
        have hM3 := hM2 q hR
        have hM0 : M2 0 = nI q.1 := by
          rw [hM3 0 (by omega), c4]
          show nI (va_up (va_up q'.2 0 (q.1 + 1)) 1 (q'.1 + 1) 0) - 1 = nI q.1
          rw [show va_up (va_up q'.2 0 (q.1 + 1)) 1 (q'.1 + 1) 0 = q.1 + 1 from rfl, nI_pred]
        have hM1 : M2 1 = nI q.2.1 := by
          rw [hM3 1 (by omega), c4]
          show nI (va_up (va_up q'.2 0 (q.1 + 1)) 1 (q'.1 + 1) 1) - 1 = nI q'.1
          rw [show va_up (va_up q'.2 0 (q.1 + 1)) 1 (q'.1 + 1) 1 = q'.1 + 1 from rfl, nI_pred]
        refine wp_if_lt (tgt := 68) d_MO_matches_26 (by decide) (fun h3 => ?_) (fun h3 => ?_)
        · exact absurd h3 (nI_pos (by omega))
        have lst : ∀ v : Nat, v = nxF q.1 q.2.1 → wp E 5 m_MO_matches 64 [(0, .ref (xb E + 21)), (1, .int (nI (n + 1))), (2, .int (nI fr))] [.int (nI v)] g2 (fun r' h' => r' = some (.int (nI (mmR sm A.2.1.length 31 0 0))) ∧ mfr E h h' ∧ (∃ tr S M, MoW E h' A B w (tr, S, M, D.2.2.2))) := by
          intro v hv
          have hv2 : fr < v ∧ v ≤ A.2.1.length + 1 := by
            rw [hv, nxF]
            split <;> omega
          rw [← hv] at hr
          refine wp_istore_n d_MO_matches_64 rfl (by decide) rfl ?_
          refine wp_goto (tgt := 13) d_MO_matches_65 (by decide) ?_
          exact ih (n + 1) v g2 tr2 S2 M2 (by omega) (by omega) (by omega) (fg.tr f2) m2 hr
        obtain ⟨s, o, t, hcd, hl0, hm1⟩ := m2
        obtain ⟨fp, ft, fo, qq, o21, a22, a23, a24, a25, a26, a27, a28, a29, a30, a31, a32, a33, a34, a35, a36, a37, a38, a39, a40⟩ := hm1
        refine wp_iinc d_MO_matches_29 rfl rfl (by decide) rfl ?_
        refine wp_aload_n d_MO_matches_32 rfl rfl ?_
        refine wp_get xf_MO_65 d_MO_matches_33 (by repeat first | exact xg_eq | exact xn_eq (by first | rfl | omega) | refine xg_ne (by first | omega | assumption | (simp only [xput, xnew]; omega)) ?_ | refine xn_ne (by first | omega | assumption | (simp only [xput, xnew]; omega)) ?_ | assumption | exact rfl) (by rfl) ?_
        refine wp_iconst (v := 1) d_MO_matches_36 (by rfl) ?_
        rw [show nI n + Int32.ofInt 1 = nI (n + 1) from (nI_succ n).symm]
        refine wp_iald d_MO_matches_37 a40 hE.i (vp_in_nI (n := 1) (by omega) (by omega)) ?_
        rw [show (tr2, S2, M2, D.2.2.2).2.2.1 (1 : Int32).toNatClampNeg = nI q.2.1 from hM1]
        refine wp_aload_n d_MO_matches_38 rfl rfl ?_
        refine wp_get xf_MO_65 d_MO_matches_39 (by repeat first | exact xg_eq | exact xn_eq (by first | rfl | omega) | refine xg_ne (by first | omega | assumption | (simp only [xput, xnew]; omega)) ?_ | refine xn_ne (by first | omega | assumption | (simp only [xput, xnew]; omega)) ?_ | assumption | exact rfl) (by rfl) ?_
        refine wp_iconst (v := 0) d_MO_matches_42 (by rfl) ?_
        refine wp_iald d_MO_matches_43 a40 hE.i (vp_in_nI (n := 0) (by omega) (by omega)) ?_
        rw [show (tr2, S2, M2, D.2.2.2).2.2.1 (0 : Int32).toNatClampNeg = nI q.1 from hM0]
        refine wp_icmp_le (tgt := 56) d_MO_matches_44 (by decide) (fun h4 => ?_) (fun h4 => ?_)
        · have h4 := (nI_leI (by omega) (by omega)).mp h4
          refine wp_aload_n d_MO_matches_56 rfl rfl ?_
          refine wp_get xf_MO_65 d_MO_matches_57 (by repeat first | exact xg_eq | exact xn_eq (by first | rfl | omega) | refine xg_ne (by first | omega | assumption | (simp only [xput, xnew]; omega)) ?_ | refine xn_ne (by first | omega | assumption | (simp only [xput, xnew]; omega)) ?_ | assumption | exact rfl) (by rfl) ?_
          refine wp_iconst (v := 1) d_MO_matches_60 (by rfl) ?_
          refine wp_iald d_MO_matches_61 a40 hE.i (vp_in_nI (n := 1) (by omega) (by omega)) ?_
          rw [show (tr2, S2, M2, D.2.2.2).2.2.1 (1 : Int32).toNatClampNeg = nI q.2.1 from hM1]
          refine wp_iconst (v := 1) d_MO_matches_62 (by rfl) ?_
          refine wp_iadd d_MO_matches_63 ?_
          rw [show nI q.2.1 + 1 = nI (q.2.1 + 1) from (nI_succ _).symm]
          exact lst _ (by rw [nxF, if_pos (by omega)])
        · have h4 : ¬ q.2.1 ≤ q.1 := fun z => h4 ((nI_leI (by omega) (by omega)).mpr z)
          refine wp_aload_n d_MO_matches_47 rfl rfl ?_
          refine wp_get xf_MO_65 d_MO_matches_48 (by repeat first | exact xg_eq | exact xn_eq (by first | rfl | omega) | refine xg_ne (by first | omega | assumption | (simp only [xput, xnew]; omega)) ?_ | refine xn_ne (by first | omega | assumption | (simp only [xput, xnew]; omega)) ?_ | assumption | exact rfl) (by rfl) ?_
          refine wp_iconst (v := 1) d_MO_matches_51 (by rfl) ?_
          refine wp_iald d_MO_matches_52 a40 hE.i (vp_in_nI (n := 1) (by omega) (by omega)) ?_
          rw [show (tr2, S2, M2, D.2.2.2).2.2.1 (1 : Int32).toNatClampNeg = nI q.2.1 from hM1]
          refine wp_goto (tgt := 64) d_MO_matches_53 (by decide) ?_
          exact lst _ (by rw [nxF, if_neg (by omega)])
  refine wp_iconst (v := 0) d_MO_matches_9 (by rfl) ?_
  refine wp_istore_n d_MO_matches_10 rfl (by decide) rfl ?_
  refine wp_iconst (v := 0) d_MO_matches_11 (by rfl) ?_
  refine wp_istore_n d_MO_matches_12 rfl (by decide) rfl ?_
  obtain ⟨tr, S, M, D'⟩ := D
  exact lp 31 0 0 h tr S M (by omega) (Nat.zero_le _) (Nat.le_refl _) mfr.rf hm rfl
end M14
