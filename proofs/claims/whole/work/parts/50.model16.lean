section M16
variable {E : xE} {h : xH} {A : MA3} {B : MB} {w : WS} {D : MD} {sm : SM}
theorem rrG_0 {T : List Int32} {q' : Nat × (Nat → Nat)} {x : Nat} (hx : x ≤ q'.1) (h1 : q'.1 < 1000) : rrG T (srM x q') 0 = strI T (nI x) (nI q'.1) := by
  rw [rrG, show srM x q' (2 * 0 + 1) = q'.1 + 1 from rfl, if_neg (by omega), show srM x q' (2 * 0) = x + 1 from rfl, nI_pred, nI_pred]
theorem rr_in {T : List Int32} {q' : Nat × (Nat → Nat)} {x g : Nat} (hx : x ≤ q'.1) (hq : q'.1 ≤ T.length) (hT : T.length ≤ 30) (hg : g ≤ 6) (hgd : ∀ g, 1 ≤ g → g ≤ 6 → (q'.2 (2 * g + 1) = 0 ∨ ∃ i j : Nat, q'.2 (2 * g) = i + 1 ∧ q'.2 (2 * g + 1) = j + 1 ∧ x ≤ i ∧ i ≤ j ∧ j ≤ q'.1)) :
    (srM x q' (2 * g + 1) = 0) ∨ ∃ i j : Nat, srM x q' (2 * g) = i + 1 ∧ srM x q' (2 * g + 1) = j + 1 ∧ x ≤ i ∧ i ≤ j ∧ j ≤ q'.1 := by
  by_cases h0 : g = 0
  · subst h0
    exact Or.inr ⟨x, q'.1, rfl, rfl, Nat.le_refl _, hx, Nat.le_refl _⟩
  · have e1 : ∀ j, 2 ≤ j → srM x q' j = q'.2 j := fun j hj => by rw [srM, va_up, if_neg (by omega), va_up, if_neg (by omega)]
    rw [e1 _ (by omega), e1 _ (by omega)]
    exact hgd g (by omega) hg
theorem c_MO_replace (hE : xOK E) (hm : MoW E h A B w D) (hok : D.2.2.2.2.1 = true → cdOK A.1 w.1 ∧ smOK A.1 A.2.1 w.1 sm ∧ gdS sm) (x : Int32) : wpc E 5 m_MO_replace [.ref (xb E + 21), .int x] h (fun r' h' => if isGr x = true ∧ D.2.2.2.2.1 = true then (∃ g : Nat, g ≤ 6 ∧ x = nI g ∧ r' = some (.int (nI ((rrR sm A.2.1 g 31 0 0 []).2 ++ A.2.1.drop (rrR sm A.2.1 g 31 0 0 []).1).length)) ∧ mfr E h h' ∧ ∃ tr S M, MoW E h' (A.1, A.2.1, (rrR sm A.2.1 g 31 0 0 []).2 ++ A.2.1.drop (rrR sm A.2.1 g 31 0 0 []).1) B w (tr, S, M, D.2.2.2)) else r' = some (.int (-1)) ∧ h' = h) := by
  have hl := hm.len
  have ho := hm.obj
  generalize hPost : (fun (r' : Option Value) (h' : xH) => if isGr x = true ∧ D.2.2.2.2.1 = true then (∃ g : Nat, g ≤ 6 ∧ x = nI g ∧ r' = some (.int (nI ((rrR sm A.2.1 g 31 0 0 []).2 ++ A.2.1.drop (rrR sm A.2.1 g 31 0 0 []).1).length)) ∧ mfr E h h' ∧ ∃ tr S M, MoW E h' (A.1, A.2.1, (rrR sm A.2.1 g 31 0 0 []).2 ++ A.2.1.drop (rrR sm A.2.1 g 31 0 0 []).1) B w (tr, S, M, D.2.2.2)) else r' = some (.int (-1)) ∧ h' = h) = Post
  have bad : ¬ (isGr x = true ∧ D.2.2.2.2.1 = true) → wp E 5 m_MO_replace 17 [(0, .ref (xb E + 21)), (1, .int x)] [] h Post := by
    intro hb
    refine wp_iconst (v := (-1)) d_MO_replace_17 (by rfl) ?_
    refine wp_ireturn d_MO_replace_18 rfl (by first | rfl | assumption) ?_
    rw [← hPost]
    show if _ then _ else _
    rw [if_neg hb]
    exact ⟨rfl, rfl⟩
  refine wpc_of rfl (Nat.le_of_ble_eq_true rfl) ?_
  refine wp_iload_n d_MO_replace_0 rfl rfl ?_
  refine wp_if_lt (tgt := 17) d_MO_replace_1 (by decide) (fun h1 => ?_) (fun h1 => ?_)
  · exact bad (fun z => (isGr_1 z.1).1 h1)
  refine wp_iload_n d_MO_replace_4 rfl rfl ?_
  refine wp_bipush (v := 6) d_MO_replace_5 (by rfl) ?_
  refine wp_icmp_gt (tgt := 17) d_MO_replace_7 (by decide) (fun h2 => ?_) (fun h2 => ?_)
  · exact bad (fun z => (isGr_1 z.1).2 h2)
  refine wp_aload_n d_MO_replace_10 rfl rfl ?_
  refine wp_get xf_MO_173 d_MO_replace_11 (by repeat first | exact xg_eq | exact xn_eq (by first | rfl | omega) | refine xg_ne (by first | omega | assumption | (simp only [xput, xnew]; omega)) ?_ | refine xn_ne (by first | omega | assumption | (simp only [xput, xnew]; omega)) ?_ | assumption | exact rfl) (by rfl) ?_
  refine wp_if_ne (tgt := 19) d_MO_replace_14 (by decide) (fun h3 => ?_) (fun h3 => ?_)
  rotate_left
  · exact bad (fun z => by rw [bI_0.mp h3] at z; exact absurd z.2 (by decide))
  clear bad
  have hrd := b_t (fun z => h3 (bI_0.mpr z))
  have hgr := isGr_of h1 h2
  obtain ⟨g0, hg6, rfl⟩ := isGr_n hgr
  obtain ⟨k1, k2, k3⟩ := hok hrd
  generalize hR : rrR sm A.2.1 g0 31 0 0 [] = R
  have hP : ∀ (r' : Option Value) (h' : xH) (tr : Nat → Bool) (S M : Nat → Int32), r' = some (.int (nI (R.2 ++ A.2.1.drop R.1).length)) → mfr E h h' → MoW E h' (A.1, A.2.1, R.2 ++ A.2.1.drop R.1) B w (tr, S, M, D.2.2.2) → Post r' h' := by
    intro r' h' tr S M q1 q2 q3
    rw [← hPost]
    show if _ then _ else _
    rw [if_pos ⟨hgr, hrd⟩]
    exact ⟨g0, hg6, rfl, by rw [hR]; exact q1, q2, tr, S, M, by rw [hR]; exact q3⟩
  clear hPost
  have fin : ∀ (fr cp : Nat) (o : List Int32) (g : xH) (tr : Nat → Bool) (S M : Nat → Int32), (cp, o) = R → cp ≤ A.2.1.length → o.length ≤ cp → mfr E h g → MoW E g (A.1, A.2.1, o) B w (tr, S, M, D.2.2.2) → wp E 5 m_MO_replace 133 [(0, .ref (xb E + 21)), (1, .int (nI g0)), (2, .int (nI fr)), (3, .int (nI cp))] [] g Post := by
    intro fr cp o g tr S M hRR hcp ho fg mg
    have og := mg.obj
    refine wp_aload_n d_MO_replace_133 rfl rfl ?_
    refine wp_iload_n d_MO_replace_134 rfl rfl ?_
    refine wp_aload_n d_MO_replace_135 rfl rfl ?_
    refine wp_get xf_MO_164 d_MO_replace_136 (by repeat first | exact xg_eq | exact xn_eq (by first | rfl | omega) | refine xg_ne (by first | omega | assumption | (simp only [xput, xnew]; omega)) ?_ | refine xn_ne (by first | omega | assumption | (simp only [xput, xnew]; omega)) ?_ | assumption | exact rfl) (by rfl) ?_
    refine wp_callV2 xc_MO_192 d_MO_replace_139 (Nat.le_of_ble_eq_true rfl) (by repeat first | exact xg_eq | exact xn_eq (by first | rfl | omega) | refine xg_ne (by first | omega | assumption | (simp only [xput, xnew]; omega)) ?_ | refine xn_ne (by first | omega | assumption | (simp only [xput, xnew]; omega)) ?_ | assumption | exact rfl) (c_MO_put hE mg (x := nI cp) (y := nI A.2.1.length) (Or.inr ⟨cp, A.2.1.length, rfl, rfl, hcp, Nat.le_refl _, by show o.length + (A.2.1.length - cp) ≤ 30; omega⟩)) (by omega) (fun r g2 hp => ?_)
    obtain ⟨rfl, f2, m2⟩ := hp
    have e4 : strI A.2.1 (nI cp) (nI A.2.1.length) = A.2.1.drop cp := by
      rw [strI]
      split
      · rw [nI_clamp (by omega), nI_clamp (by omega)]
        exact List.take_of_length_le (by rw [List.length_drop]; exact Nat.le_refl _)
      · rename_i hn
        have : ¬ cp < A.2.1.length := fun z => hn (nI_lt z (by omega))
        rw [List.drop_eq_nil_of_le (by omega)]
    have m2 : MoW E g2 (A.1, A.2.1, o ++ strI A.2.1 (nI cp) (nI A.2.1.length)) B w (tr, S, M, D.2.2.2) := m2
    rw [e4] at m2
    have o2 := m2.obj
    refine wp_aload_n d_MO_replace_142 rfl rfl ?_
    refine wp_get xf_MO_189 d_MO_replace_143 (by repeat first | exact xg_eq | exact xn_eq (by first | rfl | omega) | refine xg_ne (by first | omega | assumption | (simp only [xput, xnew]; omega)) ?_ | refine xn_ne (by first | omega | assumption | (simp only [xput, xnew]; omega)) ?_ | assumption | exact rfl) (by rfl) ?_
    refine wp_ireturn d_MO_replace_146 rfl (by first | rfl | assumption) ?_
    have e1 : R.1 = cp := by rw [← hRR]
    have e2 : R.2 = o := by rw [← hRR]
    rw [e1, e2] at hP
    exact hP _ _ tr S M rfl (fg.tr f2) m2
  have lp : ∀ (k fr cp : Nat) (o : List Int32) (g : xH) (tr : Nat → Bool) (S M : Nat → Int32), A.2.1.length + 1 ≤ fr + k → fr ≤ A.2.1.length + 1 → cp ≤ fr → cp ≤ A.2.1.length → o.length ≤ cp → mfr E h g → MoW E g (A.1, A.2.1, o) B w (tr, S, M, D.2.2.2) → rrR sm A.2.1 g0 k fr cp o = R → wp E 5 m_MO_replace 28 [(0, .ref (xb E + 21)), (1, .int (nI g0)), (2, .int (nI fr)), (3, .int (nI cp))] [] g Post := by
    intro k
    induction k with
    | zero =>
      intro fr cp o g tr S M hk hfr a1 a2 a3 fg mg hr
      have og := mg.obj
      refine wp_iload_n d_MO_replace_28 rfl rfl ?_
      refine wp_aload_n d_MO_replace_29 rfl rfl ?_
      refine wp_get xf_MO_164 d_MO_replace_30 (by repeat first | exact xg_eq | exact xn_eq (by first | rfl | omega) | refine xg_ne (by first | omega | assumption | (simp only [xput, xnew]; omega)) ?_ | refine xn_ne (by first | omega | assumption | (simp only [xput, xnew]; omega)) ?_ | assumption | exact rfl) (by rfl) ?_
      refine wp_icmp_gt (tgt := 133) d_MO_replace_33 (by decide) (fun h5 => ?_) (fun h5 => ?_)
      · exact fin fr cp o g tr S M hr a2 a3 fg mg
      · exact absurd (nI_lt (by first | omega | (dsimp only; omega)) (by first | omega | (dsimp only; omega))) h5
    | succ k ih =>
      intro fr cp o g tr S M hk hfr a1 a2 a3 fg mg hr
      have og := mg.obj
      rw [rrR] at hr
      by_cases hle : A.2.1.length < fr
      · rw [show A.2.1.length + 1 - fr = 0 by omega, srR] at hr
        refine wp_iload_n d_MO_replace_28 rfl rfl ?_
        refine wp_aload_n d_MO_replace_29 rfl rfl ?_
        refine wp_get xf_MO_164 d_MO_replace_30 (by repeat first | exact xg_eq | exact xn_eq (by first | rfl | omega) | refine xg_ne (by first | omega | assumption | (simp only [xput, xnew]; omega)) ?_ | refine xn_ne (by first | omega | assumption | (simp only [xput, xnew]; omega)) ?_ | assumption | exact rfl) (by rfl) ?_
        refine wp_icmp_gt (tgt := 133) d_MO_replace_33 (by decide) (fun h5 => ?_) (fun h5 => ?_)
        · exact fin fr cp o g tr S M hr a2 a3 fg mg
        · exact absurd (nI_lt hle (by omega)) h5
      refine wp_iload_n d_MO_replace_28 rfl rfl ?_
      refine wp_aload_n d_MO_replace_29 rfl rfl ?_
      refine wp_get xf_MO_164 d_MO_replace_30 (by repeat first | exact xg_eq | exact xn_eq (by first | rfl | omega) | refine xg_ne (by first | omega | assumption | (simp only [xput, xnew]; omega)) ?_ | refine xn_ne (by first | omega | assumption | (simp only [xput, xnew]; omega)) ?_ | assumption | exact rfl) (by rfl) ?_
      refine wp_icmp_gt (tgt := 133) d_MO_replace_33 (by decide) (fun h5 => ?_) (fun h5 => ?_)
      · exact absurd h5 (nI_nlt (by first | omega | (dsimp only; omega)) (by first | omega | (dsimp only; omega)))
      refine wp_aload_n d_MO_replace_36 rfl rfl ?_
      refine wp_iload_n d_MO_replace_37 rfl rfl ?_
      refine wp_callV1 xc_MO_186 d_MO_replace_38 (Nat.le_of_ble_eq_true rfl) (by repeat first | exact xg_eq | exact xn_eq (by first | rfl | omega) | refine xg_ne (by first | omega | assumption | (simp only [xput, xnew]; omega)) ?_ | refine xn_ne (by first | omega | assumption | (simp only [xput, xnew]; omega)) ?_ | assumption | exact rfl) (c_MO_search hE mg k1 k2 (fr := fr) hfr) (by omega) (fun r g2 hp => ?_)
      obtain ⟨rfl, f2, tr2, S2, M2, hM2, m2⟩ := hp
      have hM2 : ∀ q, srR sm (A.2.1.length + 1 - fr) fr = some q → mkF M2 q.2.2 := hM2
      rw [show srR sm ((A.1, A.2.1, o).2.1.length + 1 - fr) fr = srR sm (A.2.1.length + 1 - fr) fr from rfl]
      cases hRs : srR sm (A.2.1.length + 1 - fr) fr with
      | none =>
        rw [hRs] at hr
        refine wp_if_lt (tgt := 133) d_MO_replace_41 (by decide) (fun h6 => ?_) (fun h6 => ?_)
        · exact fin fr cp o g2 tr2 S2 M2 hr a2 a3 (fg.tr f2) m2
        · exact absurd (show (-1 : Int32) < 0 by decide) h6
      | some q =>
        rw [hRs] at hr
        have hr : rrR sm A.2.1 g0 k (nxF q.1 q.2.1) q.2.1 (o ++ (A.2.1.drop cp).take (q.1 - cp) ++ rrG A.2.1 q.2.2 g0) = R := hr
        obtain ⟨c1, c2, q', c3, c4⟩ := srR_ok hRs
        have hs := ((k2 q.1 (fun _ => false) (by omega) (fun _ _ => rfl)).1 q' c3).2.2
        have hin := rr_in hs.1 hs.2 hl.2.1 hg6 (k3 q.1 q' c3)
        have hq2 : q.2.1 = q'.1 := by rw [c4]
        have hq3 : q.2.2 = srM q.1 q' := by rw [c4]
        have hM3 := hM2 q hRs
        have hM0 : M2 0 = nI q.1 := by
          rw [hM3 0 (by omega), hq3, show srM q.1 q' 0 = q.1 + 1 from rfl, nI_pred]
        have hM1 : M2 1 = nI q.2.1 := by
          rw [hM3 1 (by omega), hq3, hq2, show srM q.1 q' 1 = q'.1 + 1 from rfl, nI_pred]
        have e0 : (2 : Int32) * nI g0 = nI (2 * g0) := pk_mul 2 g0
        have e1 : nI (2 * g0) + 1 = nI (2 * g0 + 1) := (nI_succ _).symm
        rw [← hq3, ← hq2] at hin
        have hs : q.1 ≤ q.2.1 ∧ q.2.1 ≤ A.2.1.length := by rw [hq2]; exact hs
        have hM3 : ∀ j, j < 14 → M2 j = nI (q.2.2 j) - 1 := hM3
        clear hq3 hq2 c3 c4 hM2
        refine wp_if_lt (tgt := 133) d_MO_replace_41 (by decide) (fun h6 => ?_) (fun h6 => ?_)
        · exact absurd h6 (nI_pos (n := q.1) (by omega))
        have last : ∀ (g : xH) (o' : List Int32), o' = o ++ (A.2.1.drop cp).take (q.1 - cp) ++ rrG A.2.1 q.2.2 g0 → o'.length ≤ q.2.1 → mfr E h g → MoW E g (A.1, A.2.1, o') B w (tr2, S2, M2, D.2.2.2) → wp E 5 m_MO_replace 90 [(0, .ref (xb E + 21)), (1, .int (nI g0)), (2, .int (nI fr)), (3, .int (nI cp))] [] g Post := by
          intro g o' ho' hlo fg mg
          rw [← ho'] at hr
          have lst2 : ∀ v : Nat, v = nxF q.1 q.2.1 → wp E 5 m_MO_replace 129 [(0, .ref (xb E + 21)), (1, .int (nI g0)), (2, .int (nI fr)), (3, .int (nI q.2.1))] [.int (nI v)] g Post := by
            intro v hv
            have hv2 : fr < v ∧ v ≤ A.2.1.length + 1 ∧ q.2.1 ≤ v := by
              rw [hv, nxF]
              split <;> omega
            rw [← hv] at hr
            refine wp_istore_n d_MO_replace_129 rfl (by decide) rfl ?_
            refine wp_goto (tgt := 28) d_MO_replace_130 (by decide) ?_
            exact ih v q.2.1 o' g tr2 S2 M2 (by omega) (by omega) hv2.2.2 hs.2 hlo fg mg hr
          obtain ⟨s, oo, t, hcd, hl0, hm1⟩ := mg
          obtain ⟨fp, ft, fo, qq, o21, a22, a23, a24, a25, a26, a27, a28, a29, a30, a31, a32, a33, a34, a35, a36, a37, a38, a39, a40⟩ := hm1
          refine wp_aload_n d_MO_replace_90 rfl rfl ?_
          refine wp_get xf_MO_65 d_MO_replace_91 (by repeat first | exact xg_eq | exact xn_eq (by first | rfl | omega) | refine xg_ne (by first | omega | assumption | (simp only [xput, xnew]; omega)) ?_ | refine xn_ne (by first | omega | assumption | (simp only [xput, xnew]; omega)) ?_ | assumption | exact rfl) (by rfl) ?_
          refine wp_iconst (v := 1) d_MO_replace_94 (by rfl) ?_
          refine wp_iald d_MO_replace_95 a40 hE.i (vp_in_nI (n := 1) (by omega) (by omega)) ?_
          rw [show (tr2, S2, M2, D.2.2.2).2.2.1 (1 : Int32).toNatClampNeg = nI q.2.1 from hM1]
          refine wp_istore_n d_MO_replace_96 rfl (by decide) rfl ?_
          refine wp_aload_n d_MO_replace_97 rfl rfl ?_
          refine wp_get xf_MO_65 d_MO_replace_98 (by repeat first | exact xg_eq | exact xn_eq (by first | rfl | omega) | refine xg_ne (by first | omega | assumption | (simp only [xput, xnew]; omega)) ?_ | refine xn_ne (by first | omega | assumption | (simp only [xput, xnew]; omega)) ?_ | assumption | exact rfl) (by rfl) ?_
          refine wp_iconst (v := 1) d_MO_replace_101 (by rfl) ?_
          refine wp_iald d_MO_replace_102 a40 hE.i (vp_in_nI (n := 1) (by omega) (by omega)) ?_
          rw [show (tr2, S2, M2, D.2.2.2).2.2.1 (1 : Int32).toNatClampNeg = nI q.2.1 from hM1]
          refine wp_aload_n d_MO_replace_103 rfl rfl ?_
          refine wp_get xf_MO_65 d_MO_replace_104 (by repeat first | exact xg_eq | exact xn_eq (by first | rfl | omega) | refine xg_ne (by first | omega | assumption | (simp only [xput, xnew]; omega)) ?_ | refine xn_ne (by first | omega | assumption | (simp only [xput, xnew]; omega)) ?_ | assumption | exact rfl) (by rfl) ?_
          refine wp_iconst (v := 0) d_MO_replace_107 (by rfl) ?_
          refine wp_iald d_MO_replace_108 a40 hE.i (vp_in_nI (n := 0) (by omega) (by omega)) ?_
          rw [show (tr2, S2, M2, D.2.2.2).2.2.1 (0 : Int32).toNatClampNeg = nI q.1 from hM0]
          refine wp_icmp_le (tgt := 121) d_MO_replace_109 (by decide) (fun h7 => ?_) (fun h7 => ?_)
          · have h7 := (nI_leI (by omega) (by omega)).mp h7
            refine wp_aload_n d_MO_replace_121 rfl rfl ?_
            refine wp_get xf_MO_65 d_MO_replace_122 (by repeat first | exact xg_eq | exact xn_eq (by first | rfl | omega) | refine xg_ne (by first | omega | assumption | (simp only [xput, xnew]; omega)) ?_ | refine xn_ne (by first | omega | assumption | (simp only [xput, xnew]; omega)) ?_ | assumption | exact rfl) (by rfl) ?_
            refine wp_iconst (v := 1) d_MO_replace_125 (by rfl) ?_
            refine wp_iald d_MO_replace_126 a40 hE.i (vp_in_nI (n := 1) (by omega) (by omega)) ?_
            rw [show (tr2, S2, M2, D.2.2.2).2.2.1 (1 : Int32).toNatClampNeg = nI q.2.1 from hM1]
            refine wp_iconst (v := 1) d_MO_replace_127 (by rfl) ?_
            refine wp_iadd d_MO_replace_128 ?_
            rw [show nI q.2.1 + 1 = nI (q.2.1 + 1) from (nI_succ _).symm]
            exact lst2 _ (by rw [nxF, if_pos (by omega)])
          · have h7 : ¬ q.2.1 ≤ q.1 := fun z => h7 ((nI_leI (by omega) (by omega)).mpr z)
            refine wp_aload_n d_MO_replace_112 rfl rfl ?_
            refine wp_get xf_MO_65 d_MO_replace_113 (by repeat first | exact xg_eq | exact xn_eq (by first | rfl | omega) | refine xg_ne (by first | omega | assumption | (simp only [xput, xnew]; omega)) ?_ | refine xn_ne (by first | omega | assumption | (simp only [xput, xnew]; omega)) ?_ | assumption | exact rfl) (by rfl) ?_
            refine wp_iconst (v := 1) d_MO_replace_116 (by rfl) ?_
            refine wp_iald d_MO_replace_117 a40 hE.i (vp_in_nI (n := 1) (by omega) (by omega)) ?_
            rw [show (tr2, S2, M2, D.2.2.2).2.2.1 (1 : Int32).toNatClampNeg = nI q.2.1 from hM1]
            refine wp_goto (tgt := 129) d_MO_replace_118 (by decide) ?_
            exact lst2 _ (by rw [nxF, if_neg (by omega)])
        obtain ⟨s, oo, t, hcd, hl0, hm1⟩ := id m2
        obtain ⟨fp, ft, fo, qq, o21, a22, a23, a24, a25, a26, a27, a28, a29, a30, a31, a32, a33, a34, a35, a36, a37, a38, a39, a40⟩ := hm1
        refine wp_aload_n d_MO_replace_44 rfl rfl ?_
        refine wp_iload_n d_MO_replace_45 rfl rfl ?_
        refine wp_aload_n d_MO_replace_46 rfl rfl ?_
        refine wp_get xf_MO_65 d_MO_replace_47 (by repeat first | exact xg_eq | exact xn_eq (by first | rfl | omega) | refine xg_ne (by first | omega | assumption | (simp only [xput, xnew]; omega)) ?_ | refine xn_ne (by first | omega | assumption | (simp only [xput, xnew]; omega)) ?_ | assumption | exact rfl) (by rfl) ?_
        refine wp_iconst (v := 0) d_MO_replace_50 (by rfl) ?_
        refine wp_iald d_MO_replace_51 a40 hE.i (vp_in_nI (n := 0) (by omega) (by omega)) ?_
        rw [show (tr2, S2, M2, D.2.2.2).2.2.1 (0 : Int32).toNatClampNeg = nI q.1 from hM0]
        refine wp_callV2 xc_MO_192 d_MO_replace_52 (Nat.le_of_ble_eq_true rfl) (by repeat first | exact xg_eq | exact xn_eq (by first | rfl | omega) | refine xg_ne (by first | omega | assumption | (simp only [xput, xnew]; omega)) ?_ | refine xn_ne (by first | omega | assumption | (simp only [xput, xnew]; omega)) ?_ | assumption | exact rfl) (c_MO_put hE m2 (x := nI cp) (y := nI q.1) (Or.inr ⟨cp, q.1, rfl, rfl, by omega, by show q.1 ≤ A.2.1.length; omega, by show o.length + (q.1 - cp) ≤ 30; omega⟩)) (by omega) (fun r g3 hp => ?_)
        obtain ⟨rfl, f3, m3⟩ := hp
        have e4 : strI A.2.1 (nI cp) (nI q.1) = (A.2.1.drop cp).take (q.1 - cp) := by
          rw [strI]
          split
          · rw [nI_clamp (by omega), nI_clamp (by omega)]
          · rename_i hn
            have : ¬ cp < q.1 := fun z => hn (nI_lt z (by omega))
            rw [show q.1 - cp = 0 by omega, List.take_zero]
        have m3 : MoW E g3 (A.1, A.2.1, o ++ strI A.2.1 (nI cp) (nI q.1)) B w (tr2, S2, M2, D.2.2.2) := m3
        rw [e4] at m3
        have l3 : (o ++ (A.2.1.drop cp).take (q.1 - cp)).length ≤ q.1 := by
          rw [List.length_append, List.length_take]
          have := Nat.min_le_left (q.1 - cp) (A.2.1.drop cp).length
          omega
        clear fp ft fo qq o21 a22 a23 a24 a25 a26 a27 a28 a29 a30 a31 a32 a33 a34 a35 a36 a37 a38 a39 a40
        obtain ⟨s, oo, t, hcd, hl0, hm1⟩ := id m3
        obtain ⟨fp, ft, fo, qq, o21, a22, a23, a24, a25, a26, a27, a28, a29, a30, a31, a32, a33, a34, a35, a36, a37, a38, a39, a40⟩ := hm1
        refine wp_aload_n d_MO_replace_55 rfl rfl ?_
        refine wp_get xf_MO_65 d_MO_replace_56 (by repeat first | exact xg_eq | exact xn_eq (by first | rfl | omega) | refine xg_ne (by first | omega | assumption | (simp only [xput, xnew]; omega)) ?_ | refine xn_ne (by first | omega | assumption | (simp only [xput, xnew]; omega)) ?_ | assumption | exact rfl) (by rfl) ?_
        refine wp_iconst (v := 2) d_MO_replace_59 (by rfl) ?_
        refine wp_iload_n d_MO_replace_60 rfl rfl ?_
        refine wp_imul d_MO_replace_61 ?_
        refine wp_iconst (v := 1) d_MO_replace_62 (by rfl) ?_
        refine wp_iadd d_MO_replace_63 ?_
        rw [e0, e1]
        refine wp_iald d_MO_replace_64 a40 hE.i (vp_in_nI (by omega) (by omega)) ?_
        rw [nI_clamp (by omega), show (tr2, S2, M2, D.2.2.2).2.2.1 (2 * g0 + 1) = nI (q.2.2 (2 * g0 + 1)) - 1 from hM3 _ (by omega)]
        rcases hin with hz | ⟨i, j, z1, z2, z3, z4, z5⟩
        · refine wp_if_lt (tgt := 90) d_MO_replace_65 (by decide) (fun h7 => ?_) (fun h7 => ?_)
          · exact last g3 _ (by rw [rrG, if_pos hz, List.append_nil]) (by omega) ((fg.tr f2).tr f3) m3
          · rw [hz] at h7
            exact absurd (show nI 0 - 1 < 0 by decide) h7
        · have hM4 : M2 (2 * g0) = nI i := by rw [hM3 _ (by omega), z1, nI_pred]
          have hM5 : M2 (2 * g0 + 1) = nI j := by rw [hM3 _ (by omega), z2, nI_pred]
          have hrg : rrG A.2.1 q.2.2 g0 = strI A.2.1 (nI i) (nI j) := by rw [rrG, z1, z2, if_neg (by omega), nI_pred, nI_pred]
          rw [z2, nI_pred]
          refine wp_if_lt (tgt := 90) d_MO_replace_65 (by decide) (fun h7 => ?_) (fun h7 => ?_)
          · exact absurd h7 (nI_pos (by omega))
          refine wp_aload_n d_MO_replace_68 rfl rfl ?_
          refine wp_aload_n d_MO_replace_69 rfl rfl ?_
          refine wp_get xf_MO_65 d_MO_replace_70 (by repeat first | exact xg_eq | exact xn_eq (by first | rfl | omega) | refine xg_ne (by first | omega | assumption | (simp only [xput, xnew]; omega)) ?_ | refine xn_ne (by first | omega | assumption | (simp only [xput, xnew]; omega)) ?_ | assumption | exact rfl) (by rfl) ?_
          refine wp_iconst (v := 2) d_MO_replace_73 (by rfl) ?_
          refine wp_iload_n d_MO_replace_74 rfl rfl ?_
          refine wp_imul d_MO_replace_75 ?_
          rw [e0]
          refine wp_iald d_MO_replace_76 a40 hE.i (vp_in_nI (by omega) (by omega)) ?_
          rw [nI_clamp (by omega), show (tr2, S2, M2, D.2.2.2).2.2.1 (2 * g0) = nI i from hM4]
          refine wp_aload_n d_MO_replace_77 rfl rfl ?_
          refine wp_get xf_MO_65 d_MO_replace_78 (by repeat first | exact xg_eq | exact xn_eq (by first | rfl | omega) | refine xg_ne (by first | omega | assumption | (simp only [xput, xnew]; omega)) ?_ | refine xn_ne (by first | omega | assumption | (simp only [xput, xnew]; omega)) ?_ | assumption | exact rfl) (by rfl) ?_
          refine wp_iconst (v := 2) d_MO_replace_81 (by rfl) ?_
          refine wp_iload_n d_MO_replace_82 rfl rfl ?_
          refine wp_imul d_MO_replace_83 ?_
          refine wp_iconst (v := 1) d_MO_replace_84 (by rfl) ?_
          refine wp_iadd d_MO_replace_85 ?_
          rw [e0, e1]
          refine wp_iald d_MO_replace_86 a40 hE.i (vp_in_nI (by omega) (by omega)) ?_
          rw [nI_clamp (by omega), show (tr2, S2, M2, D.2.2.2).2.2.1 (2 * g0 + 1) = nI j from hM5]
          refine wp_callV2 xc_MO_192 d_MO_replace_87 (Nat.le_of_ble_eq_true rfl) (by repeat first | exact xg_eq | exact xn_eq (by first | rfl | omega) | refine xg_ne (by first | omega | assumption | (simp only [xput, xnew]; omega)) ?_ | refine xn_ne (by first | omega | assumption | (simp only [xput, xnew]; omega)) ?_ | assumption | exact rfl) (c_MO_put hE m3 (x := nI i) (y := nI j) (Or.inr ⟨i, j, rfl, rfl, z4, by show j ≤ A.2.1.length; omega, by show (o ++ (A.2.1.drop cp).take (q.1 - cp)).length + (j - i) ≤ 30; omega⟩)) (by omega) (fun r g4 hp => ?_)
          obtain ⟨rfl, f4, m4⟩ := hp
          have m4 : MoW E g4 (A.1, A.2.1, o ++ (A.2.1.drop cp).take (q.1 - cp) ++ strI A.2.1 (nI i) (nI j)) B w (tr2, S2, M2, D.2.2.2) := m4
          refine last g4 _ (by rw [hrg]) ?_ (((fg.tr f2).tr f3).tr f4) m4
          rw [List.length_append, strI]
          split
          · rw [nI_clamp (by omega), nI_clamp (by omega), List.length_take]
            have := Nat.min_le_left (j - i) (A.2.1.drop i).length
            omega
          · rw [List.length_nil]; omega
  obtain ⟨s, oo, t, hcd, hl0, hm1⟩ := hm
  obtain ⟨fp, ft, fo, qq, o21, a22, a23, a24, a25, a26, a27, a28, a29, a30, a31, a32, a33, a34, a35, a36, a37, a38, a39, a40⟩ := hm1
  refine wp_aload_n d_MO_replace_19 rfl rfl ?_
  refine wp_iconst (v := 0) d_MO_replace_20 (by rfl) ?_
  refine wp_put xf_MO_189 xg_MO (Or.inl rfl) d_MO_replace_21 (by repeat first | exact xg_eq | exact xn_eq (by first | rfl | omega) | refine xg_ne (by first | omega | assumption | (simp only [xput, xnew]; omega)) ?_ | refine xn_ne (by first | omega | assumption | (simp only [xput, xnew]; omega)) ?_ | assumption | exact rfl) (by first | rfl | assumption | exact bI_z _) (by first | rfl | assumption | exact bI_f _) (Nat.le_of_ble_eq_true rfl) ?_
  refine wp_iconst (v := 0) d_MO_replace_24 (by rfl) ?_
  refine wp_istore_n d_MO_replace_25 rfl (by decide) rfl ?_
  refine wp_iconst (v := 0) d_MO_replace_26 (by rfl) ?_
  refine wp_istore_n d_MO_replace_27 rfl (by decide) rfl ?_
  obtain ⟨tr, S, M, D'⟩ := D
  have qq : moQ (A.1, A.2.1, []) fp ft fo := ⟨qq.1, qq.2.1, fun k hk => absurd hk (Nat.not_lt_zero k), qq.2.2.2.1, qq.2.2.2.2.1, Nat.zero_le _⟩
  exact lp 31 0 0 [] _ tr S M (by omega) (Nat.zero_le _) (Nat.le_refl _) (Nat.zero_le _) (Nat.le_refl _) (mfr.rf.put (by omega)) ⟨s, oo, t, hcd, hl0, ⟨fp, ft, fo, qq, (by first | (repeat (refine xg_ne (by omega) ?_)); first | exact xg_eq | exact o21), (by first | (repeat (refine xg_ne (by omega) ?_)); first | exact xg_eq | exact a22), (by first | (repeat (refine xg_ne (by omega) ?_)); first | exact xg_eq | exact a23), (by first | (repeat (refine xg_ne (by omega) ?_)); first | exact xg_eq | exact a24), (by first | (repeat (refine xg_ne (by omega) ?_)); first | exact xg_eq | exact a25), (by first | (repeat (refine xg_ne (by omega) ?_)); first | exact xg_eq | exact a26), (by first | (repeat (refine xg_ne (by omega) ?_)); first | exact xg_eq | exact a27), (by first | (repeat (refine xg_ne (by omega) ?_)); first | exact xg_eq | exact a28), (by first | (repeat (refine xg_ne (by omega) ?_)); first | exact xg_eq | exact a29), (by first | (repeat (refine xg_ne (by omega) ?_)); first | exact xg_eq | exact a30), (by first | (repeat (refine xg_ne (by omega) ?_)); first | exact xg_eq | exact a31), (by first | (repeat (refine xg_ne (by omega) ?_)); first | exact xg_eq | exact a32), (by first | (repeat (refine xg_ne (by omega) ?_)); first | exact xg_eq | exact a33), (by first | (repeat (refine xg_ne (by omega) ?_)); first | exact xg_eq | exact a34), (by first | (repeat (refine xg_ne (by omega) ?_)); first | exact xg_eq | exact a35), (by first | (repeat (refine xg_ne (by omega) ?_)); first | exact xg_eq | exact a36), (by first | (repeat (refine xg_ne (by omega) ?_)); first | exact xg_eq | exact a37), (by first | (repeat (refine xg_ne (by omega) ?_)); first | exact xg_eq | exact a38), (by first | (repeat (refine xg_ne (by omega) ?_)); first | exact xg_eq | exact a39), (by first | (repeat (refine xg_ne (by omega) ?_)); first | exact xg_eq | exact a40)⟩⟩ hR
end M16
