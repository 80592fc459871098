abbrev MS : Type := PS0 × Nat × (Nat → Int32) × (Nat → Int32) × Nat
def aimM (m : MS) (ts : List Int32) (ends : Int32) : MS := (m.1, m.2.1, amF m.1 ts m.2.2.1 m.1.1, aimG m.1 ts m.2.2.1 m.2.2.2.1 ends, ts.length)
theorem wkR_le (q : PS0) (G : Nat → Int32) : ∀ (k : Nat) (s : Nat × Nat × (Nat → Int32)), (wkR q G k s).1 ≤ s.1 + k
  | 0, s => Nat.le_refl _
  | k + 1, s => by
    rw [wkR]
    by_cases h0 : q.2.1 s.2.1 = 0
    · rw [if_pos h0]; omega
    · rw [if_neg h0]
      refine Nat.le_trans (wkR_le q G k _) ?_
      show (if q.2.1 s.2.1 = 1 then s.1 + 1 else s.1) + k ≤ s.1 + (k + 1)
      split <;> omega
def wkE (q : PS0) (G : Nat → Int32) (fi b : Nat) (f : Nat → Int32) : Nat := (wkR q G 3751 (b, fi, f)).1
theorem wkB_0 (q : PS0) (G : Nat → Int32) (fi b : Nat) (f : Nat → Int32) : wkB q G fi b f 0 = nI b ∧ wkB q G fi b f 1 = nI (wkE q G fi b f) := ⟨rfl, rfl⟩
def nxF (b e : Nat) : Nat := if b = e then e + 1 else e
theorem skP_rg {G : Nat → Int32} {fi : Nat} : ∀ {k i b : Nat}, skP G fi k i = some b → i ≤ b ∧ b < i + k
  | 0, _, _, h => by cases h
  | k + 1, i, b, h => by
    rw [skP] at h
    by_cases hl : lof G fi (nI i)
    · rw [if_pos hl] at h; cases h; omega
    · rw [if_neg hl] at h
      have := skP_rg h
      omega
def fdC (c : CS) (i : Nat) : CS := (c.1, c.2.1, c.2.2.1, aimM c.2.2.2.1 c.2.1 (-1), skB c.2.2.2.1.1 (aimM c.2.2.2.1 c.2.1 (-1)).2.2.2.1 c.2.2.2.1.2.1 c.2.1.length i c.2.2.2.2.1, c.2.2.2.2.2)
def mtR (q : PS0) (G : Nat → Int32) (fi len : Nat) : Nat → Nat × Nat × (Nat → Int32) → Nat × (Nat → Int32)
  | 0, s => (s.1, s.2.2)
  | k + 1, s => match skP G fi (len + 1 - s.2.1) s.2.1 with
    | none => (s.1, filled 14 (-2) s.2.2)
    | some b => mtR q G fi len k (s.1 + 1, nxF b (wkE q G fi b (filled 14 (-2) s.2.2)), wkB q G fi b (filled 14 (-2) s.2.2))
section CN
variable {E : xE} {h : xH} {c : CS}
theorem c_PS_find (hE : xOK E) (hc0 : Cl E h c) (x : Int32) : wpc E 4 m_PS_find [.ref (xb E), .int x] h (fun r' h' => if (¬ x < 0 ∧ ¬ nI c.2.1.length < x) ∧ c.2.2.2.2.2.2.1 = true then (∃ i : Nat, x = nI i ∧ i ≤ c.2.1.length ∧ r' = some (.int ((fdC c i).2.2.2.2.1 0)) ∧ xfr (cA E) h h' ∧ Cl E h' (fdC c i)) else r' = some (.int (-1)) ∧ h' = h) := by
  obtain ⟨h1, h2, h3, h4, h5, h6, h7, h8⟩ := id hc0
  have hl := h3.len
  have o3 := h3.obj
  have bad : ¬ ((¬ x < 0 ∧ ¬ nI c.2.1.length < x) ∧ c.2.2.2.2.2.2.1 = true) → wp E 4 m_PS_find 22 [(0, .ref (xb E)), (1, .int x)] [] h (fun r' h' => if (¬ x < 0 ∧ ¬ nI c.2.1.length < x) ∧ c.2.2.2.2.2.2.1 = true then (∃ i : Nat, x = nI i ∧ i ≤ c.2.1.length ∧ r' = some (.int ((fdC c i).2.2.2.2.1 0)) ∧ xfr (cA E) h h' ∧ Cl E h' (fdC c i)) else r' = some (.int (-1)) ∧ h' = h) := by
    intro hb
    refine wp_iconst (v := (-1)) d_PS_find_22 (by rfl) ?_
    refine wp_ireturn d_PS_find_23 rfl (by first | rfl | assumption) ?_
    rw [if_neg hb]
    exact ⟨rfl, rfl⟩
  refine wpc_of rfl (Nat.le_of_ble_eq_true rfl) ?_
  refine wp_iload_n d_PS_find_0 rfl rfl ?_
  refine wp_if_lt (tgt := 22) d_PS_find_1 (by decide) (fun hc => ?_) (fun hc => ?_)
  · exact bad (fun z => z.1.1 hc)
  · refine wp_iload_n d_PS_find_4 rfl rfl ?_
    refine wp_aload_n d_PS_find_5 rfl rfl ?_
    refine wp_get xf_PS_18 d_PS_find_6 (by repeat first | assumption | exact xg_eq | exact xn_eq (by first | rfl | omega) | refine xg_ne (by first | assumption | omega | (simp only [xput, xnew]; omega)) ?_ | refine xn_ne (by first | assumption | omega | (simp only [xput, xnew]; omega)) ?_ | exact rfl) (by rfl) ?_
    refine wp_callV0 xc_PS_60 d_PS_find_9 (Nat.le_of_ble_eq_true rfl) (by repeat first | assumption | exact xg_eq | exact xn_eq (by first | rfl | omega) | refine xg_ne (by first | assumption | omega | (simp only [xput, xnew]; omega)) ?_ | refine xn_ne (by first | assumption | omega | (simp only [xput, xnew]; omega)) ?_ | exact rfl) (c_SI_lengthL h3) (by omega) (fun r hh hp => ?_)
    obtain ⟨rfl, hz0⟩ := hp; have hz0 := hz0.symm; subst hz0
    refine wp_icmp_gt (tgt := 22) d_PS_find_12 (by decide) (fun hc2 => ?_) (fun hc2 => ?_)
    · exact bad (fun z => z.1.2 hc2)
    · refine wp_aload_n d_PS_find_15 rfl rfl ?_
      refine wp_get xf_PS_41 d_PS_find_16 (by repeat first | assumption | exact xg_eq | exact xn_eq (by first | rfl | omega) | refine xg_ne (by first | assumption | omega | (simp only [xput, xnew]; omega)) ?_ | refine xn_ne (by first | assumption | omega | (simp only [xput, xnew]; omega)) ?_ | exact rfl) (by rfl) ?_
      refine wp_if_ne (tgt := 24) d_PS_find_19 (by decide) (fun hc3 => ?_) (fun hc3 => ?_)
      · rw [bI_0] at hc3
        obtain ⟨i, hi, rfl⟩ := nI_of hc
        have hi2 : i ≤ c.2.1.length := Nat.not_lt.mp (fun z => hc2 ((nI_ltI (by omega) hi).mpr z))
        have w5 := h5.1
        refine wp_aload_n d_PS_find_24 rfl rfl ?_
        refine wp_get xf_PS_27 d_PS_find_25 (by repeat first | assumption | exact xg_eq | exact xn_eq (by first | rfl | omega) | refine xg_ne (by first | assumption | omega | (simp only [xput, xnew]; omega)) ?_ | refine xn_ne (by first | assumption | omega | (simp only [xput, xnew]; omega)) ?_ | exact rfl) (by rfl) ?_
        refine wp_aload_n d_PS_find_28 rfl rfl ?_
        refine wp_get xf_PS_18 d_PS_find_29 (by repeat first | assumption | exact xg_eq | exact xn_eq (by first | rfl | omega) | refine xg_ne (by first | assumption | omega | (simp only [xput, xnew]; omega)) ?_ | refine xn_ne (by first | assumption | omega | (simp only [xput, xnew]; omega)) ?_ | exact rfl) (by rfl) ?_
        refine wp_callV1 xc_PS_95 d_PS_find_32 (Nat.le_of_ble_eq_true rfl) (by repeat first | assumption | exact xg_eq | exact xn_eq (by first | rfl | omega) | refine xg_ne (by first | assumption | omega | (simp only [xput, xnew]; omega)) ?_ | refine xn_ne (by first | assumption | omega | (simp only [xput, xnew]; omega)) ?_ | exact rfl) (c_MA_aimAnywhere hE h5 h8 h3 (by omega) (by omega)) (by omega) (fun r g2 hp => ?_)
        obtain ⟨rfl, f2, m2⟩ := hp
        have f2 : xfr [xb E + 7, xb E + 15, xb E + 16] h g2 := f2
        have G2 := hc0.get f2
        have k2 := G2.1 (by simp)
        have b2 := G2.2.2.2.2.2.1 (by simp) (by simp)
        have n2 := m2.1
        refine wp_aload_n d_PS_find_35 rfl rfl ?_
        refine wp_get xf_PS_27 d_PS_find_36 (by repeat first | assumption | exact xg_eq | exact xn_eq (by first | rfl | omega) | refine xg_ne (by first | assumption | omega | (simp only [xput, xnew]; omega)) ?_ | refine xn_ne (by first | assumption | omega | (simp only [xput, xnew]; omega)) ?_ | exact rfl) (by rfl) ?_
        refine wp_iload_n d_PS_find_39 rfl rfl ?_
        refine wp_aload_n d_PS_find_40 rfl rfl ?_
        refine wp_get xf_PS_34 d_PS_find_41 (by repeat first | assumption | exact xg_eq | exact xn_eq (by first | rfl | omega) | refine xg_ne (by first | assumption | omega | (simp only [xput, xnew]; omega)) ?_ | refine xn_ne (by first | assumption | omega | (simp only [xput, xnew]; omega)) ?_ | exact rfl) (by rfl) ?_
        refine wp_callV2 xc_PS_98 d_PS_find_44 (Nat.le_of_ble_eq_true rfl) (by repeat first | assumption | exact xg_eq | exact xn_eq (by first | rfl | omega) | refine xg_ne (by first | assumption | omega | (simp only [xput, xnew]; omega)) ?_ | refine xn_ne (by first | assumption | omega | (simp only [xput, xnew]; omega)) ?_ | exact rfl) (c_MA_seek hE m2 h8 (by omega) b2 (by omega) (by omega) (i := i) (by omega)) (by omega) (fun r g3 hp => ?_)
        obtain ⟨rfl, f3, b3⟩ := hp
        have fr : xfr [xb E + 7, xb E + 15, xb E + 16, xb E + 18] h g3 := (f2.sub (by simp)).tr (f3.sub (by simp))
        have G := hc0.get fr
        have k3 := G.1 (by simp)
        have w3 := b3.1
        refine wp_pop d_PS_find_47 rfl ?_
        refine wp_aload_n d_PS_find_48 rfl rfl ?_
        refine wp_get xf_PS_34 d_PS_find_49 (by repeat first | assumption | exact xg_eq | exact xn_eq (by first | rfl | omega) | refine xg_ne (by first | assumption | omega | (simp only [xput, xnew]; omega)) ?_ | refine xn_ne (by first | assumption | omega | (simp only [xput, xnew]; omega)) ?_ | exact rfl) (by rfl) ?_
        refine wp_iconst (v := 0) d_PS_find_52 (by rfl) ?_
        refine wp_callV1 xc_PS_102 d_PS_find_53 (Nat.le_of_ble_eq_true rfl) (by repeat first | assumption | exact xg_eq | exact xn_eq (by first | rfl | omega) | refine xg_ne (by first | assumption | omega | (simp only [xput, xnew]; omega)) ?_ | refine xn_ne (by first | assumption | omega | (simp only [xput, xnew]; omega)) ?_ | exact rfl) (c_BO_begin hE b3 0) (by omega) (fun r hh hp => ?_)
        obtain ⟨rfl, hz0⟩ := hp; have hz0 := hz0.symm; subst hz0
        refine wp_ireturn d_PS_find_56 rfl (by first | rfl | assumption) ?_
        rw [if_pos ⟨⟨hc, hc2⟩, b_t hc3⟩]
        exact ⟨i, rfl, hi2, rfl, fr.sub (by simp [cA]), k3, G.2.1 (by simp) (by simp), G.2.2.1 (by simp) (by simp), G.2.2.2.1 (by simp) (by simp), m2.mv (fun z z1 z2 => f3.2.2 z (by simp; omega)), b3, G.2.2.2.2.2.2 (by simp) (by simp), h8⟩
      · rw [bI_0] at hc3
        exact bad (fun z => by rw [hc3] at z; exact absurd z.2 (by decide))
theorem c_PS_whole (hE : xOK E) (hc0 : Cl E h c) (x y : Int32) : wpc E 4 m_PS_whole [.ref (xb E), .int x, .int y] h (fun r' h' => if (¬ x < 0 ∧ ¬ y < x ∧ ¬ nI c.2.1.length < y) ∧ c.2.2.2.2.2.2.1 = true then r' = some (.int (bI (lof (aimM c.2.2.2.1 c.2.1 ((1 : Int32) <<< (y &&& 31))).2.2.2.1 c.2.2.2.1.2.1 x))) ∧ xfr (cA E) h h' ∧ Cl E h' (c.1, c.2.1, c.2.2.1, aimM c.2.2.2.1 c.2.1 ((1 : Int32) <<< (y &&& 31)), c.2.2.2.2) else r' = some (.int (-1)) ∧ h' = h) := by
  obtain ⟨h1, h2, h3, h4, h5, h6, h7, h8⟩ := id hc0
  have hl := h3.len
  have o3 := h3.obj
  have bad : ¬ ((¬ x < 0 ∧ ¬ y < x ∧ ¬ nI c.2.1.length < y) ∧ c.2.2.2.2.2.2.1 = true) → wp E 4 m_PS_whole 27 [(0, .ref (xb E)), (1, .int x), (2, .int y)] [] h (fun r' h' => if (¬ x < 0 ∧ ¬ y < x ∧ ¬ nI c.2.1.length < y) ∧ c.2.2.2.2.2.2.1 = true then r' = some (.int (bI (lof (aimM c.2.2.2.1 c.2.1 ((1 : Int32) <<< (y &&& 31))).2.2.2.1 c.2.2.2.1.2.1 x))) ∧ xfr (cA E) h h' ∧ Cl E h' (c.1, c.2.1, c.2.2.1, aimM c.2.2.2.1 c.2.1 ((1 : Int32) <<< (y &&& 31)), c.2.2.2.2) else r' = some (.int (-1)) ∧ h' = h) := by
    intro hb
    refine wp_iconst (v := (-1)) d_PS_whole_27 (by rfl) ?_
    refine wp_ireturn d_PS_whole_28 rfl (by first | rfl | assumption) ?_
    rw [if_neg hb]
    exact ⟨rfl, rfl⟩
  refine wpc_of rfl (Nat.le_of_ble_eq_true rfl) ?_
  refine wp_iload_n d_PS_whole_0 rfl rfl ?_
  refine wp_if_lt (tgt := 27) d_PS_whole_1 (by decide) (fun hc => ?_) (fun hc => ?_)
  · exact bad (fun z => z.1.1 hc)
  · refine wp_iload_n d_PS_whole_4 rfl rfl ?_
    refine wp_iload_n d_PS_whole_5 rfl rfl ?_
    refine wp_icmp_lt (tgt := 27) d_PS_whole_6 (by decide) (fun hcy => ?_) (fun hcy => ?_)
    · exact bad (fun z => z.1.2.1 hcy)
    · refine wp_iload_n d_PS_whole_9 rfl rfl ?_
      refine wp_aload_n d_PS_whole_10 rfl rfl ?_
      refine wp_get xf_PS_18 d_PS_whole_11 (by repeat first | assumption | exact xg_eq | exact xn_eq (by first | rfl | omega) | refine xg_ne (by first | assumption | omega | (simp only [xput, xnew]; omega)) ?_ | refine xn_ne (by first | assumption | omega | (simp only [xput, xnew]; omega)) ?_ | exact rfl) (by rfl) ?_
      refine wp_callV0 xc_PS_60 d_PS_whole_14 (Nat.le_of_ble_eq_true rfl) (by repeat first | assumption | exact xg_eq | exact xn_eq (by first | rfl | omega) | refine xg_ne (by first | assumption | omega | (simp only [xput, xnew]; omega)) ?_ | refine xn_ne (by first | assumption | omega | (simp only [xput, xnew]; omega)) ?_ | exact rfl) (c_SI_lengthL h3) (by omega) (fun r hh hp => ?_)
      obtain ⟨rfl, hz0⟩ := hp; have hz0 := hz0.symm; subst hz0
      refine wp_icmp_gt (tgt := 27) d_PS_whole_17 (by decide) (fun hc2 => ?_) (fun hc2 => ?_)
      · exact bad (fun z => z.1.2.2 hc2)
      · refine wp_aload_n d_PS_whole_20 rfl rfl ?_
        refine wp_get xf_PS_41 d_PS_whole_21 (by repeat first | assumption | exact xg_eq | exact xn_eq (by first | rfl | omega) | refine xg_ne (by first | assumption | omega | (simp only [xput, xnew]; omega)) ?_ | refine xn_ne (by first | assumption | omega | (simp only [xput, xnew]; omega)) ?_ | exact rfl) (by rfl) ?_
        refine wp_if_ne (tgt := 29) d_PS_whole_24 (by decide) (fun hc3 => ?_) (fun hc3 => ?_)
        · rw [bI_0] at hc3
          have w5 := h5.1
          refine wp_aload_n d_PS_whole_29 rfl rfl ?_
          refine wp_get xf_PS_27 d_PS_whole_30 (by repeat first | assumption | exact xg_eq | exact xn_eq (by first | rfl | omega) | refine xg_ne (by first | assumption | omega | (simp only [xput, xnew]; omega)) ?_ | refine xn_ne (by first | assumption | omega | (simp only [xput, xnew]; omega)) ?_ | exact rfl) (by rfl) ?_
          refine wp_aload_n d_PS_whole_33 rfl rfl ?_
          refine wp_get xf_PS_18 d_PS_whole_34 (by repeat first | assumption | exact xg_eq | exact xn_eq (by first | rfl | omega) | refine xg_ne (by first | assumption | omega | (simp only [xput, xnew]; omega)) ?_ | refine xn_ne (by first | assumption | omega | (simp only [xput, xnew]; omega)) ?_ | exact rfl) (by rfl) ?_
          refine wp_iload_n d_PS_whole_37 rfl rfl ?_
          refine wp_callV2 xc_PS_112 d_PS_whole_38 (Nat.le_of_ble_eq_true rfl) (by repeat first | assumption | exact xg_eq | exact xn_eq (by first | rfl | omega) | refine xg_ne (by first | assumption | omega | (simp only [xput, xnew]; omega)) ?_ | refine xn_ne (by first | assumption | omega | (simp only [xput, xnew]; omega)) ?_ | exact rfl) (c_MA_aimAt hE h5 h8 h3 (by omega) (by omega) y) (by omega) (fun r g2 hp => ?_)
          obtain ⟨rfl, f2, m2⟩ := hp
          have f2 : xfr [xb E + 7, xb E + 15, xb E + 16] h g2 := f2
          have G2 := hc0.get f2
          have k2 := G2.1 (by simp)
          have n2 := m2.1
          have fin : ∀ b : Bool, b = lof (aimM c.2.2.2.1 c.2.1 ((1 : Int32) <<< (y &&& 31))).2.2.2.1 c.2.2.2.1.2.1 x → wp E 4 m_PS_whole 57 [(0, .ref (xb E)), (1, .int x), (2, .int y)] [.int (bI b)] g2 (fun r' h' => if (¬ x < 0 ∧ ¬ y < x ∧ ¬ nI c.2.1.length < y) ∧ c.2.2.2.2.2.2.1 = true then r' = some (.int (bI (lof (aimM c.2.2.2.1 c.2.1 ((1 : Int32) <<< (y &&& 31))).2.2.2.1 c.2.2.2.1.2.1 x))) ∧ xfr (cA E) h h' ∧ Cl E h' (c.1, c.2.1, c.2.2.1, aimM c.2.2.2.1 c.2.1 ((1 : Int32) <<< (y &&& 31)), c.2.2.2.2) else r' = some (.int (-1)) ∧ h' = h) := by
            intro b hb
            refine wp_ireturn d_PS_whole_57 rfl (by first | rfl | assumption) ?_
            rw [if_pos ⟨⟨hc, hcy, hc2⟩, b_t hc3⟩, hb]
            exact ⟨rfl, f2.sub (by simp [cA]), k2, G2.2.1 (by simp) (by simp), G2.2.2.1 (by simp) (by simp), G2.2.2.2.1 (by simp) (by simp), m2, G2.2.2.2.2.2.1 (by simp) (by simp), G2.2.2.2.2.2.2 (by simp) (by simp), h8⟩
          refine wp_aload_n d_PS_whole_41 rfl rfl ?_
          refine wp_get xf_PS_27 d_PS_whole_42 (by repeat first | assumption | exact xg_eq | exact xn_eq (by first | rfl | omega) | refine xg_ne (by first | assumption | omega | (simp only [xput, xnew]; omega)) ?_ | refine xn_ne (by first | assumption | omega | (simp only [xput, xnew]; omega)) ?_ | exact rfl) (by rfl) ?_
          refine wp_iload_n d_PS_whole_45 rfl rfl ?_
          refine wp_callV1 xc_PS_116 d_PS_whole_46 (Nat.le_of_ble_eq_true rfl) (by repeat first | assumption | exact xg_eq | exact xn_eq (by first | rfl | omega) | refine xg_ne (by first | assumption | omega | (simp only [xput, xnew]; omega)) ?_ | refine xn_ne (by first | assumption | omega | (simp only [xput, xnew]; omega)) ?_ | exact rfl) (c_MA_leadsOn hE m2 x) (by omega) (fun r hh hp => ?_)
          obtain ⟨rfl, hz0⟩ := hp; have hz0 := hz0.symm; subst hz0
          refine wp_if_eq (tgt := 56) d_PS_whole_49 (by decide) (fun hc4 => ?_) (fun hc4 => ?_)
          · rw [bI_0] at hc4
            refine wp_iconst (v := 0) d_PS_whole_56 (by rfl) ?_
            exact fin false hc4.symm
          · rw [bI_0] at hc4
            refine wp_iconst (v := 1) d_PS_whole_52 (by rfl) ?_
            refine wp_goto (tgt := 57) d_PS_whole_53 (by decide) ?_
            exact fin true (b_t hc4).symm
        · rw [bI_0] at hc3
          exact bad (fun z => by rw [hc3] at z; exact absurd z.2 (by decide))
theorem skB_some {q : PS0} {G : Nat → Int32} {fi len i b : Nat} {f : Nat → Int32} (h : skP G fi (len + 1 - i) i = some b) : skB q G fi len i f = wkB q G fi b (filled 14 (-2) f) := by rw [skB, h]
theorem skB_none {q : PS0} {G : Nat → Int32} {fi len i : Nat} {f : Nat → Int32} (h : skP G fi (len + 1 - i) i = none) : skB q G fi len i f = filled 14 (-2) f := by rw [skB, h]
theorem nxF_I {b e : Nat} (hb : b < 2 ^ 31) (he : e < 2 ^ 31) : (if nI b = nI e then nI e + 1 else nI e) = nI (nxF b e) := by
  rw [nxF]
  by_cases h : b = e
  · rw [if_pos (by rw [h]), if_pos h, nI_succ]
  · rw [if_neg (fun z => h ((nI_eq hb he).mp z)), if_neg h]
theorem c_PS_matches (hE : xOK E) (hc0 : Cl E h c) : wpc E 4 m_PS_matches [.ref (xb E)] h (fun r' h' => if c.2.2.2.2.2.2.1 = true then (let R := mtR c.2.2.2.1.1 (aimM c.2.2.2.1 c.2.1 (-1)).2.2.2.1 c.2.2.2.1.2.1 c.2.1.length 31 (0, 0, c.2.2.2.2.2.1); r' = some (.int (nI R.1)) ∧ xfr (cA E) h h' ∧ Cl E h' (c.1, c.2.1, c.2.2.1, aimM c.2.2.2.1 c.2.1 (-1), c.2.2.2.2.1, R.2, c.2.2.2.2.2.2)) else r' = some (.int (-1)) ∧ h' = h) := by
  obtain ⟨h1, h2, h3, h4, h5, h6, h7, h8⟩ := id hc0
  have hl := h3.len
  have o3 := h3.obj
  refine wpc_of rfl (Nat.le_of_ble_eq_true rfl) ?_
  refine wp_aload_n d_PS_matches_0 rfl rfl ?_
  refine wp_get xf_PS_41 d_PS_matches_1 (by repeat first | assumption | exact xg_eq | exact xn_eq (by first | rfl | omega) | refine xg_ne (by first | assumption | omega | (simp only [xput, xnew]; omega)) ?_ | refine xn_ne (by first | assumption | omega | (simp only [xput, xnew]; omega)) ?_ | exact rfl) (by rfl) ?_
  refine wp_if_ne (tgt := 9) d_PS_matches_4 (by decide) (fun hc => ?_) (fun hc => ?_)
  · rw [bI_0] at hc
    have w5 := h5.1
    simp only [if_pos (b_t hc)]
    generalize hR : mtR c.2.2.2.1.1 (aimM c.2.2.2.1 c.2.1 (-1)).2.2.2.1 c.2.2.2.1.2.1 c.2.1.length 31 (0, 0, c.2.2.2.2.2.1) = R
    refine wp_aload_n d_PS_matches_9 rfl rfl ?_
    refine wp_get xf_PS_27 d_PS_matches_10 (by repeat first | assumption | exact xg_eq | exact xn_eq (by first | rfl | omega) | refine xg_ne (by first | assumption | omega | (simp only [xput, xnew]; omega)) ?_ | refine xn_ne (by first | assumption | omega | (simp only [xput, xnew]; omega)) ?_ | exact rfl) (by rfl) ?_
    refine wp_aload_n d_PS_matches_13 rfl rfl ?_
    refine wp_get xf_PS_18 d_PS_matches_14 (by repeat first | assumption | exact xg_eq | exact xn_eq (by first | rfl | omega) | refine xg_ne (by first | assumption | omega | (simp only [xput, xnew]; omega)) ?_ | refine xn_ne (by first | assumption | omega | (simp only [xput, xnew]; omega)) ?_ | exact rfl) (by rfl) ?_
    refine wp_callV1 xc_PS_95 d_PS_matches_17 (Nat.le_of_ble_eq_true rfl) (by repeat first | assumption | exact xg_eq | exact xn_eq (by first | rfl | omega) | refine xg_ne (by first | assumption | omega | (simp only [xput, xnew]; omega)) ?_ | refine xn_ne (by first | assumption | omega | (simp only [xput, xnew]; omega)) ?_ | exact rfl) (c_MA_aimAnywhere hE h5 h8 h3 (by omega) (by omega)) (by omega) (fun r g2 hp => ?_)
    obtain ⟨rfl, f2, m2⟩ := hp
    have f2 : xfr [xb E + 7, xb E + 15, xb E + 16] h g2 := f2
    have fin : ∀ (g : xH) (i : Int32), xfr [xb E + 7, xb E + 15, xb E + 16, xb E + 20] h g → Ma E g (xb E + 7) c.2.2.2.1.1 c.2.2.2.1.2.1 (aimM c.2.2.2.1 c.2.1 (-1)).2.2.1 (aimM c.2.2.2.1 c.2.1 (-1)).2.2.2.1 c.2.1.length → Bd E g (xb E + 19) (xb E + 20) R.2 →
        wp E 4 m_PS_matches 59 [(0, .ref (xb E)), (1, .int (nI R.1)), (2, .int i)] [] g (fun r' h' => r' = some (.int (nI R.1)) ∧ xfr (cA E) h h' ∧ Cl E h' (c.1, c.2.1, c.2.2.1, aimM c.2.2.2.1 c.2.1 (-1), c.2.2.2.2.1, R.2, c.2.2.2.2.2.2)) := by
      intro g i fg mg bg
      have G := hc0.get fg
      refine wp_iload_n d_PS_matches_59 rfl rfl ?_
      refine wp_ireturn d_PS_matches_60 rfl (by first | rfl | assumption) ?_
      exact ⟨rfl, fg.sub (by simp [cA]), G.1 (by simp), G.2.1 (by simp) (by simp), G.2.2.1 (by simp) (by simp), G.2.2.2.1 (by simp) (by simp), mg, G.2.2.2.2.2.1 (by simp) (by simp), bg, h8⟩
    have lp : ∀ (k : Nat) (g : xH) (s : Nat × Nat × (Nat → Int32)), k + s.1 = 31 → s.2.1 ≤ 100000 → mtR c.2.2.2.1.1 (aimM c.2.2.2.1 c.2.1 (-1)).2.2.2.1 c.2.2.2.1.2.1 c.2.1.length k s = R → xfr [xb E + 7, xb E + 15, xb E + 16, xb E + 20] h g → Ma E g (xb E + 7) c.2.2.2.1.1 c.2.2.2.1.2.1 (aimM c.2.2.2.1 c.2.1 (-1)).2.2.1 (aimM c.2.2.2.1 c.2.1 (-1)).2.2.2.1 c.2.1.length → Bd E g (xb E + 19) (xb E + 20) s.2.2 →
        wp E 4 m_PS_matches 24 [(0, .ref (xb E)), (1, .int (nI s.1)), (2, .int (nI s.2.1))] [] g (fun r' h' => r' = some (.int (nI R.1)) ∧ xfr (cA E) h h' ∧ Cl E h' (c.1, c.2.1, c.2.2.1, aimM c.2.2.2.1 c.2.1 (-1), c.2.2.2.2.1, R.2, c.2.2.2.2.2.2)) := by
      intro k
      induction k with
      | zero =>
        intro g s hk hs2 hs fg mg bg
        refine wp_iload_n d_PS_matches_24 rfl rfl ?_
        refine wp_bipush (v := 30) d_PS_matches_25 (by rfl) ?_
        refine wp_icmp_gt (tgt := 59) d_PS_matches_27 (by decide) (fun hc2 => ?_) (fun hc2 => ?_)
        · have hs : (s.1, s.2.2) = R := hs
          have e1 : s.1 = R.1 := by rw [← hs]
          rw [e1]
          exact fin g _ fg mg (by rw [← hs]; exact bg)
        · exact absurd (nI_lt (a := 30) (b := s.1) (by omega) (by omega)) hc2
      | succ k ih =>
        intro g s hk hs2 hs fg mg bg
        have G := hc0.get fg
        have kg := G.1 (by simp)
        have ng := mg.1
        have wg := bg.1
        refine wp_iload_n d_PS_matches_24 rfl rfl ?_
        refine wp_bipush (v := 30) d_PS_matches_25 (by rfl) ?_
        refine wp_icmp_gt (tgt := 59) d_PS_matches_27 (by decide) (fun hc2 => ?_) (fun hc2 => ?_)
        · exact absurd hc2 (nI_nlt (b := s.1) (a := 30) (by omega) (by decide))
        · refine wp_aload_n d_PS_matches_30 rfl rfl ?_
          refine wp_get xf_PS_27 d_PS_matches_31 (by repeat first | assumption | exact xg_eq | exact xn_eq (by first | rfl | omega) | refine xg_ne (by first | assumption | omega | (simp only [xput, xnew]; omega)) ?_ | refine xn_ne (by first | assumption | omega | (simp only [xput, xnew]; omega)) ?_ | exact rfl) (by rfl) ?_
          refine wp_iload_n d_PS_matches_34 rfl rfl ?_
          refine wp_aload_n d_PS_matches_35 rfl rfl ?_
          refine wp_get xf_PS_38 d_PS_matches_36 (by repeat first | assumption | exact xg_eq | exact xn_eq (by first | rfl | omega) | refine xg_ne (by first | assumption | omega | (simp only [xput, xnew]; omega)) ?_ | refine xn_ne (by first | assumption | omega | (simp only [xput, xnew]; omega)) ?_ | exact rfl) (by rfl) ?_
          refine wp_callV2 xc_PS_98 d_PS_matches_39 (Nat.le_of_ble_eq_true rfl) (by repeat first | assumption | exact xg_eq | exact xn_eq (by first | rfl | omega) | refine xg_ne (by first | assumption | omega | (simp only [xput, xnew]; omega)) ?_ | refine xn_ne (by first | assumption | omega | (simp only [xput, xnew]; omega)) ?_ | exact rfl) (c_MA_seek hE mg h8 (by omega) bg (by omega) (by omega) (i := s.2.1) hs2) (by omega) (fun r g3 hp => ?_)
          obtain ⟨rfl, f3, b3⟩ := hp
          have fr : xfr [xb E + 7, xb E + 15, xb E + 16, xb E + 20] h g3 := fg.tr (f3.sub (by simp))
          have m3 := mg.mv (fun z z1 z2 => f3.2.2 z (by simp; omega))
          have G3 := hc0.get fr
          have k3 := G3.1 (by simp)
          rw [mtR] at hs
          cases hsk : skP (aimM c.2.2.2.1 c.2.1 (-1)).2.2.2.1 c.2.2.2.1.2.1 (c.2.1.length + 1 - s.2.1) s.2.1 with
          | none =>
            rw [hsk] at hs
            rw [skB_none hsk] at b3
            have hs : (s.1, filled 14 (-2) s.2.2) = R := hs
            have e1 : s.1 = R.1 := by rw [← hs]
            have e0 : (aimG c.2.2.2.1.1 c.2.1 c.2.2.2.1.2.2.1 c.2.2.2.1.2.2.2.1 (-1)) = (aimM c.2.2.2.1 c.2.1 (-1)).2.2.2.1 := rfl
            refine wp_if_eq (tgt := 59) d_PS_matches_42 (by decide) (fun hc3 => ?_) (fun hc3 => ?_)
            · rw [e1]
              exact fin g3 _ fr m3 (by rw [← hs]; exact b3)
            · exact absurd rfl hc3
          | some b =>
            rw [hsk] at hs
            rw [skB_some hsk] at b3
            have hrg := skP_rg hsk
            have e0 : (aimG c.2.2.2.1.1 c.2.1 c.2.2.2.1.2.2.1 c.2.2.2.1.2.2.2.1 (-1)) = (aimM c.2.2.2.1 c.2.1 (-1)).2.2.2.1 := rfl
            have w3 := b3.1
            have hle := wkR_le c.2.2.2.1.1 (aimM c.2.2.2.1 c.2.1 (-1)).2.2.2.1 3751 (b, c.2.2.2.1.2.1, filled 14 (-2) s.2.2)
            have hle : wkE c.2.2.2.1.1 (aimM c.2.2.2.1 c.2.1 (-1)).2.2.2.1 c.2.2.2.1.2.1 b (filled 14 (-2) s.2.2) ≤ b + 3751 := hle
            have hb0 := wkB_0 c.2.2.2.1.1 (aimM c.2.2.2.1 c.2.1 (-1)).2.2.2.1 c.2.2.2.1.2.1 b (filled 14 (-2) s.2.2)
            refine wp_if_eq (tgt := 59) d_PS_matches_42 (by decide) (fun hc3 => ?_) (fun hc3 => ?_)
            · exact absurd hc3 (show ¬ (1 : Int32) = 0 by decide)
            · refine wp_aload_n d_PS_matches_45 rfl rfl ?_
              refine wp_get xf_PS_38 d_PS_matches_46 (by repeat first | assumption | exact xg_eq | exact xn_eq (by first | rfl | omega) | refine xg_ne (by first | assumption | omega | (simp only [xput, xnew]; omega)) ?_ | refine xn_ne (by first | assumption | omega | (simp only [xput, xnew]; omega)) ?_ | exact rfl) (by rfl) ?_
              refine wp_callV0 xc_PS_119 d_PS_matches_49 (Nat.le_of_ble_eq_true rfl) (by repeat first | assumption | exact xg_eq | exact xn_eq (by first | rfl | omega) | refine xg_ne (by first | assumption | omega | (simp only [xput, xnew]; omega)) ?_ | refine xn_ne (by first | assumption | omega | (simp only [xput, xnew]; omega)) ?_ | exact rfl) (c_BO_placeBehind hE b3) (by omega) (fun r hh hp => ?_)
              obtain ⟨rfl, hz0⟩ := hp; have hz0 := hz0.symm; subst hz0
              rw [hb0.1, hb0.2, nxF_I (by omega) (by omega)]
              refine wp_istore_n d_PS_matches_52 rfl (by decide) rfl ?_
              refine wp_iinc d_PS_matches_53 rfl rfl (by decide) rfl ?_
              refine wp_goto (tgt := 24) d_PS_matches_56 (by decide) ?_
              rw [show nI s.1 + Int32.ofInt 1 = nI (s.1 + 1) from (nI_succ s.1).symm]
              exact ih g3 (s.1 + 1, nxF b (wkE c.2.2.2.1.1 (aimM c.2.2.2.1 c.2.1 (-1)).2.2.2.1 c.2.2.2.1.2.1 b (filled 14 (-2) s.2.2)), wkB c.2.2.2.1.1 (aimM c.2.2.2.1 c.2.1 (-1)).2.2.2.1 c.2.2.2.1.2.1 b (filled 14 (-2) s.2.2)) (by show k + (s.1 + 1) = 31; omega) (by show nxF b _ ≤ 100000; rw [nxF]; split <;> omega) hs fr m3 b3
    have G2 := hc0.get f2
    refine wp_iconst (v := 0) d_PS_matches_20 (by rfl) ?_
    refine wp_istore_n d_PS_matches_21 rfl (by decide) rfl ?_
    refine wp_iconst (v := 0) d_PS_matches_22 (by rfl) ?_
    refine wp_istore_n d_PS_matches_23 rfl (by decide) rfl ?_
    exact lp 31 g2 (0, 0, c.2.2.2.2.2.1) rfl (Nat.zero_le _) hR (f2.sub (by simp)) m2 (G2.2.2.2.2.2.2 (by simp) (by simp))
  · rw [bI_0] at hc
    refine wp_iconst (v := (-1)) d_PS_matches_7 (by rfl) ?_
    refine wp_ireturn d_PS_matches_8 rfl (by first | rfl | assumption) ?_
    rw [hc]
    exact ⟨rfl, rfl⟩
end CN
