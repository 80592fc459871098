def Rd (E : xE) (h : xH) (ra sa sr n : Nat) (xs : List Int32) (s : RS) : Prop := h.2.2 ra = some (ob 6 [.ref sa, .int (nI s.1), .int (nI s.2.1), .int (bI s.2.2.1), .int (bI s.2.2.2)]) ∧ SgL E h sa sr n xs ∧ ra ≠ sa ∧ ra ≠ sr ∧ s.1 ≤ xs.length
theorem rPk_lt {xs : List Int32} {s : RS} (h : rPk xs s ≠ -2) : s.1 < xs.length := by
  rw [rPk] at h
  by_cases hs : s.2.2.2
  · rw [if_pos hs] at h; exact absurd rfl h
  · rw [if_neg hs] at h
    refine Nat.not_le.mp (fun q => h ?_)
    rw [List.getD_eq_getElem?_getD, List.getElem?_eq_none q]; rfl
theorem isSg_ne {x : Int32} (h : isSg x = true) : x ≠ -2 := by
  intro q; subst q; exact absurd h (by decide)
theorem itemB_sg {x : Int32} (h : itemB x = true) : isSg x = true := by
  simp only [itemB, Bool.and_eq_true] at h; exact h.1
theorem mx1 : ∀ a : Nat, a < 7 → (if (1 : Int32) < nI a then nI a else 1) = nI (max 1 a) := by decide
theorem ml_RE_101 : Cond.methodLink "PatternSearch$Reader" 101 m_JM_max.1 ∈ xGT := x_in (i := 526) (by decide +kernel) rfl
section RE
variable {E : xE} {h : xH} {kA kV : Nat → Nat} {ra sa sr n : Nat} {xs : List Int32} {s : RS}
theorem Rd.len (hr : Rd E h ra sa sr n xs s) : xs.length ≤ n ∧ n ≤ 1000 ∧ s.1 ≤ xs.length := ⟨hr.2.1.len.1, hr.2.1.len.2, hr.2.2.2.2⟩
theorem Rd.set {s' : RS} {h' : xH} (hr : Rd E h ra sa sr n xs s) (hf : xfr [ra] h h') (h1 : h'.2.2 ra = some (ob 6 [.ref sa, .int (nI s'.1), .int (nI s'.2.1), .int (bI s'.2.2.1), .int (bI s'.2.2.2)])) (hl : s'.1 ≤ xs.length) : Rd E h' ra sa sr n xs s' :=
  ⟨h1, hr.2.1.mv (hf.2.2 _ (by simp [hr.2.2.1.symm])) (hf.2.2 _ (by simp [hr.2.2.2.1.symm])), hr.2.2.1, hr.2.2.2.1, hl⟩
theorem c_RE_peek (hE : xOK E) (hr : Rd E h ra sa sr n xs s) : wpc E 1 m_RE_peek [.ref ra] h (fun r' h' => r' = some (.int (rPk xs s)) ∧ h' = h) := by
  have hl := hr.len
  obtain ⟨h1, h2, h3, h4, h5⟩ := hr
  have o1 := h2.obj
  refine wpc_of rfl (Nat.le_of_ble_eq_true rfl) ?_
  refine wp_aload_n d_RE_peek_0 rfl rfl ?_
  refine wp_get xf_RE_15 d_RE_peek_1 (by repeat first | assumption | exact xg_eq | exact xn_eq (by first | rfl | omega) | refine xg_ne (by first | assumption | omega | (simp only [xput, xnew]; omega)) ?_ | refine xn_ne (by first | assumption | omega | (simp only [xput, xnew]; omega)) ?_ | exact rfl) (by rfl) ?_
  refine wp_if_eq (tgt := 12) d_RE_peek_4 (by decide) (fun hc => ?_) (fun hc => ?_)
  · rw [bI_0] at hc
    refine wp_aload_n d_RE_peek_12 rfl rfl ?_
    refine wp_get xf_RE_9 d_RE_peek_13 (by repeat first | assumption | exact xg_eq | exact xn_eq (by first | rfl | omega) | refine xg_ne (by first | assumption | omega | (simp only [xput, xnew]; omega)) ?_ | refine xn_ne (by first | assumption | omega | (simp only [xput, xnew]; omega)) ?_ | exact rfl) (by rfl) ?_
    refine wp_aload_n d_RE_peek_16 rfl rfl ?_
    refine wp_get xf_RE_19 d_RE_peek_17 (by repeat first | assumption | exact xg_eq | exact xn_eq (by first | rfl | omega) | refine xg_ne (by first | assumption | omega | (simp only [xput, xnew]; omega)) ?_ | refine xn_ne (by first | assumption | omega | (simp only [xput, xnew]; omega)) ?_ | exact rfl) (by rfl) ?_
    refine wp_callV1 xc_RE_164 d_RE_peek_20 (Nat.le_of_ble_eq_true rfl) (by repeat first | assumption | exact xg_eq | exact xn_eq (by first | rfl | omega) | refine xg_ne (by first | assumption | omega | (simp only [xput, xnew]; omega)) ?_ | refine xn_ne (by first | assumption | omega | (simp only [xput, xnew]; omega)) ?_ | exact rfl) (c_SI_atL hE h2 _) (by omega) (fun r hh hp => ?_)
    obtain ⟨rfl, hz0⟩ := hp; have hz0 := hz0.symm; subst hz0
    refine wp_ireturn d_RE_peek_23 rfl (by first | rfl | assumption) ?_
    rw [lAt_nI _ (by omega), rPk, hc]
    exact ⟨rfl, rfl⟩
  · rw [bI_0] at hc
    refine wp_bipush (v := (-2)) d_RE_peek_7 (by rfl) ?_
    refine wp_goto (tgt := 23) d_RE_peek_9 (by decide) ?_
    refine wp_ireturn d_RE_peek_23 rfl (by first | rfl | assumption) ?_
    rw [rPk, b_t hc]
    exact ⟨rfl, rfl⟩
theorem c_RE_take (hE : xOK E) (hr : Rd E h ra sa sr n xs s) {c : Int32} (hc0 : c ≠ -2) : wpc E 2 m_RE_take [.ref ra, .int c] h (fun r' h' => r' = some (.int (bI (rTk xs c s).1)) ∧ xfr [ra] h h' ∧ Rd E h' ra sa sr n xs (rTk xs c s).2) := by
  obtain ⟨h1, h2, h3, h4, h5⟩ := id hr
  refine wpc_of rfl (Nat.le_of_ble_eq_true rfl) ?_
  refine wp_aload_n d_RE_take_0 rfl rfl ?_
  refine wp_callV0 xc_RE_53 d_RE_take_1 (Nat.le_of_ble_eq_true rfl) (by repeat first | assumption | exact xg_eq | exact xn_eq (by first | rfl | omega) | refine xg_ne (by first | assumption | omega | (simp only [xput, xnew]; omega)) ?_ | refine xn_ne (by first | assumption | omega | (simp only [xput, xnew]; omega)) ?_ | exact rfl) (c_RE_peek hE hr) (by omega) (fun r hh hp => ?_)
  obtain ⟨rfl, hz0⟩ := hp; have hz0 := hz0.symm; subst hz0
  refine wp_iload_n d_RE_take_4 rfl rfl ?_
  refine wp_icmp_eq (tgt := 10) d_RE_take_5 (by decide) (fun hc => ?_) (fun hc => ?_)
  · have hlt := rPk_lt (xs := xs) (s := s) (by rw [hc]; exact hc0)
    refine wp_aload_n d_RE_take_10 rfl rfl ?_
    refine wp_dup d_RE_take_11 rfl ?_
    refine wp_get xf_RE_19 d_RE_take_12 (by repeat first | assumption | exact xg_eq | exact xn_eq (by first | rfl | omega) | refine xg_ne (by first | assumption | omega | (simp only [xput, xnew]; omega)) ?_ | refine xn_ne (by first | assumption | omega | (simp only [xput, xnew]; omega)) ?_ | exact rfl) (by rfl) ?_
    refine wp_iconst (v := 1) d_RE_take_15 (by rfl) ?_
    refine wp_iadd d_RE_take_16 ?_
    refine wp_put xf_RE_19 xg_RE (Or.inl rfl) d_RE_take_17 (by repeat first | assumption | exact xg_eq | exact xn_eq (by first | rfl | omega) | refine xg_ne (by first | assumption | omega | (simp only [xput, xnew]; omega)) ?_ | refine xn_ne (by first | assumption | omega | (simp only [xput, xnew]; omega)) ?_ | exact rfl) (by first | rfl | assumption | exact bI_z _) (by first | rfl | assumption | exact bI_f _) (Nat.le_of_ble_eq_true rfl) ?_
    refine wp_iconst (v := 1) d_RE_take_20 (by rfl) ?_
    refine wp_ireturn d_RE_take_21 rfl (by first | rfl | assumption) ?_
    rw [rTk, if_pos hc]
    refine ⟨rfl, xfr.rf.put (by simp), hr.set (xfr.rf.put (by simp)) ?_ hlt⟩
    rw [rInc, nI_succ]
    exact (by repeat first | assumption | exact xg_eq | exact xn_eq (by first | rfl | omega) | refine xg_ne (by first | assumption | omega | (simp only [xput, xnew]; omega)) ?_ | refine xn_ne (by first | assumption | omega | (simp only [xput, xnew]; omega)) ?_ | exact rfl)
  · refine wp_iconst (v := 0) d_RE_take_8 (by rfl) ?_
    refine wp_ireturn d_RE_take_9 rfl (by first | rfl | assumption) ?_
    rw [rTk, if_neg hc]
    exact ⟨rfl, xfr.rf, hr⟩
theorem c_RE_expect (hE : xOK E) (hr : Rd E h ra sa sr n xs s) {c : Int32} (hc0 : c ≠ -2) : wpc E 3 m_RE_expect [.ref ra, .int c] h (fun r' h' => r' = none ∧ xfr [ra] h h' ∧ Rd E h' ra sa sr n xs (rEx xs c s)) := by
  obtain ⟨h1, h2, h3, h4, h5⟩ := id hr
  refine wpc_of rfl (Nat.le_of_ble_eq_true rfl) ?_
  refine wp_aload_n d_RE_expect_0 rfl rfl ?_
  refine wp_iload_n d_RE_expect_1 rfl rfl ?_
  refine wp_callV1 xc_RE_46 d_RE_expect_2 (Nat.le_of_ble_eq_true rfl) (by repeat first | assumption | exact xg_eq | exact xn_eq (by first | rfl | omega) | refine xg_ne (by first | assumption | omega | (simp only [xput, xnew]; omega)) ?_ | refine xn_ne (by first | assumption | omega | (simp only [xput, xnew]; omega)) ?_ | exact rfl) (c_RE_take hE hr hc0) (by omega) (fun r hh hp => ?_)
  obtain ⟨rfl, hf, hr'⟩ := hp
  obtain ⟨k1, k2, k3, k4, k5⟩ := id hr'
  refine wp_if_ne (tgt := 13) d_RE_expect_5 (by decide) (fun hc => ?_) (fun hc => ?_)
  · refine wp_return d_RE_expect_13 rfl ?_
    rw [bI_0] at hc
    rw [rTk] at hc hr'
    rw [rEx]
    by_cases hq : rPk xs s = c
    · rw [if_pos hq] at hr' ⊢; exact ⟨rfl, hf, hr'⟩
    · rw [if_neg hq] at hc; exact absurd rfl hc
  · rw [bI_0] at hc
    refine wp_aload_n d_RE_expect_8 rfl rfl ?_
    refine wp_iconst (v := 1) d_RE_expect_9 (by rfl) ?_
    refine wp_put xf_RE_15 xg_RE (Or.inl rfl) d_RE_expect_10 (by repeat first | assumption | exact xg_eq | exact xn_eq (by first | rfl | omega) | refine xg_ne (by first | assumption | omega | (simp only [xput, xnew]; omega)) ?_ | refine xn_ne (by first | assumption | omega | (simp only [xput, xnew]; omega)) ?_ | exact rfl) (by first | rfl | assumption | exact bI_z _) (by first | rfl | assumption | exact bI_f _) (Nat.le_of_ble_eq_true rfl) ?_
    refine wp_return d_RE_expect_13 rfl ?_
    rw [rTk] at hc hr'
    rw [rEx]
    by_cases hq : rPk xs s = c
    · rw [if_pos hq] at hc; exact absurd hc (by simp)
    · rw [if_neg hq] at hr' ⊢
      rw [rTk, if_neg hq] at k1
      refine ⟨rfl, hf.put (by simp), hr'.set (xfr.rf.put (by simp)) ?_ h5⟩
      rw [rTk, if_neg hq]
      exact (by repeat first | assumption | exact xg_eq | exact xn_eq (by first | rfl | omega) | refine xg_ne (by first | assumption | omega | (simp only [xput, xnew]; omega)) ?_ | refine xn_ne (by first | assumption | omega | (simp only [xput, xnew]; omega)) ?_ | exact rfl)
theorem c_RE_readItemSign (hE : xOK E) (hX : xStr E kA kV) (hr : Rd E h ra sa sr n xs s) {l : Nat} (hl0 : l ≤ 126) : wpc E 5 m_RE_readItemSign [.ref ra, .int (nI l)] h (fun r' h' => r' = some (.int (nI (rIs xs l s).1)) ∧ xfr [ra] h h' ∧ Rd E h' ra sa sr n xs (rIs xs l s).2 ∧ (rIs xs l s).1 ≤ 126 ∧ l ≤ (rIs xs l s).1) := by
  obtain ⟨h1, h2, h3, h4, h5⟩ := id hr
  have bad : (itemB (rPk xs s) = false ∨ rPk xs s < nI l) → wp E 5 m_RE_readItemSign 17 [(0, .ref ra), (1, .int (nI l)), (2, .int (rPk xs s))] [] h (fun r' h' => r' = some (.int (nI (rIs xs l s).1)) ∧ xfr [ra] h h' ∧ Rd E h' ra sa sr n xs (rIs xs l s).2 ∧ (rIs xs l s).1 ≤ 126 ∧ l ≤ (rIs xs l s).1) := by
    intro hb
    refine wp_aload_n d_RE_readItemSign_17 rfl rfl ?_
    refine wp_iconst (v := 1) d_RE_readItemSign_18 (by rfl) ?_
    refine wp_put xf_RE_15 xg_RE (Or.inl rfl) d_RE_readItemSign_19 (by repeat first | assumption | exact xg_eq | exact xn_eq (by first | rfl | omega) | refine xg_ne (by first | assumption | omega | (simp only [xput, xnew]; omega)) ?_ | refine xn_ne (by first | assumption | omega | (simp only [xput, xnew]; omega)) ?_ | exact rfl) (by first | rfl | assumption | exact bI_z _) (by first | rfl | assumption | exact bI_f _) (Nat.le_of_ble_eq_true rfl) ?_
    refine wp_iload_n d_RE_readItemSign_22 rfl rfl ?_
    refine wp_ireturn d_RE_readItemSign_23 rfl (by first | rfl | assumption) ?_
    rw [rIs, if_pos hb]
    exact ⟨rfl, xfr.rf.put (by simp), hr.set (xfr.rf.put (by simp)) (by repeat first | assumption | exact xg_eq | exact xn_eq (by first | rfl | omega) | refine xg_ne (by first | assumption | omega | (simp only [xput, xnew]; omega)) ?_ | refine xn_ne (by first | assumption | omega | (simp only [xput, xnew]; omega)) ?_ | exact rfl) h5, hl0, Nat.le_refl _⟩
  refine wpc_of rfl (Nat.le_of_ble_eq_true rfl) ?_
  refine wp_aload_n d_RE_readItemSign_0 rfl rfl ?_
  refine wp_callV0 xc_RE_53 d_RE_readItemSign_1 (Nat.le_of_ble_eq_true rfl) (by repeat first | assumption | exact xg_eq | exact xn_eq (by first | rfl | omega) | refine xg_ne (by first | assumption | omega | (simp only [xput, xnew]; omega)) ?_ | refine xn_ne (by first | assumption | omega | (simp only [xput, xnew]; omega)) ?_ | exact rfl) (c_RE_peek hE hr) (by omega) (fun r hh hp => ?_)
  obtain ⟨rfl, hz0⟩ := hp; have hz0 := hz0.symm; subst hz0
  refine wp_istore_n d_RE_readItemSign_4 rfl (by decide) rfl ?_
  refine wp_iload_n d_RE_readItemSign_5 rfl rfl ?_
  refine wp_callS1 xc_RE_140 d_RE_readItemSign_6 (Nat.le_of_ble_eq_true rfl) (c_RE_isItemSign hX _) (by omega) (fun r hh hp => ?_)
  obtain ⟨rfl, hz0⟩ := hp; have hz0 := hz0.symm; subst hz0
  refine wp_if_eq (tgt := 17) d_RE_readItemSign_9 (by decide) (fun hc => ?_) (fun hc => ?_)
  · rw [bI_0] at hc
    exact bad (Or.inl hc)
  · rw [bI_0] at hc
    have hc := b_t hc
    refine wp_iload_n d_RE_readItemSign_12 rfl rfl ?_
    refine wp_iload_n d_RE_readItemSign_13 rfl rfl ?_
    refine wp_icmp_ge (tgt := 24) d_RE_readItemSign_14 (by decide) (fun hc2 => ?_) (fun hc2 => ?_)
    · have hlt := rPk_lt (isSg_ne (itemB_sg hc))
      obtain ⟨c, q1, q2, q3⟩ := isSg_n (itemB_sg hc)
      refine wp_aload_n d_RE_readItemSign_24 rfl rfl ?_
      refine wp_dup d_RE_readItemSign_25 rfl ?_
      refine wp_get xf_RE_19 d_RE_readItemSign_26 (by repeat first | assumption | exact xg_eq | exact xn_eq (by first | rfl | omega) | refine xg_ne (by first | assumption | omega | (simp only [xput, xnew]; omega)) ?_ | refine xn_ne (by first | assumption | omega | (simp only [xput, xnew]; omega)) ?_ | exact rfl) (by rfl) ?_
      refine wp_iconst (v := 1) d_RE_readItemSign_29 (by rfl) ?_
      refine wp_iadd d_RE_readItemSign_30 ?_
      refine wp_put xf_RE_19 xg_RE (Or.inl rfl) d_RE_readItemSign_31 (by repeat first | assumption | exact xg_eq | exact xn_eq (by first | rfl | omega) | refine xg_ne (by first | assumption | omega | (simp only [xput, xnew]; omega)) ?_ | refine xn_ne (by first | assumption | omega | (simp only [xput, xnew]; omega)) ?_ | exact rfl) (by first | rfl | assumption | exact bI_z _) (by first | rfl | assumption | exact bI_f _) (Nat.le_of_ble_eq_true rfl) ?_
      refine wp_iload_n d_RE_readItemSign_34 rfl rfl ?_
      refine wp_ireturn d_RE_readItemSign_35 rfl (by first | rfl | assumption) ?_
      rw [rIs, if_neg (by rw [hc]; rintro (q | q); cases q; exact absurd q (Int32.not_lt.mpr hc2))]
      rw [q3] at hc2 ⊢
      rw [nI_clamp (by omega)]
      rw [nI_leI (by omega) (by omega)] at hc2
      refine ⟨rfl, xfr.rf.put (by simp), hr.set (xfr.rf.put (by simp)) ?_ hlt, q2, hc2⟩
      rw [rInc, nI_succ]
      exact (by repeat first | assumption | exact xg_eq | exact xn_eq (by first | rfl | omega) | refine xg_ne (by first | assumption | omega | (simp only [xput, xnew]; omega)) ?_ | refine xn_ne (by first | assumption | omega | (simp only [xput, xnew]; omega)) ?_ | exact rfl)
    · exact bad (Or.inr (Int32.not_le.mp hc2))
theorem c_RE_readDigit (hE : xOK E) (hr : Rd E h ra sa sr n xs s) {l : Nat} (hl0 : l ≤ 6) : wpc E 2 m_RE_readDigit [.ref ra, .int (nI l)] h (fun r' h' => r' = some (.int (nI (rDg xs l s).1)) ∧ xfr [ra] h h' ∧ Rd E h' ra sa sr n xs (rDg xs l s).2 ∧ (rDg xs l s).1 ≤ 6 ∧ l ≤ (rDg xs l s).1) := by
  obtain ⟨h1, h2, h3, h4, h5⟩ := id hr
  have bad : (rPk xs s - 48 < nI l ∨ 6 < rPk xs s - 48) → wp E 2 m_RE_readDigit 19 [(0, .ref ra), (1, .int (nI l)), (2, .int (rPk xs s - 48))] [] h (fun r' h' => r' = some (.int (nI (rDg xs l s).1)) ∧ xfr [ra] h h' ∧ Rd E h' ra sa sr n xs (rDg xs l s).2 ∧ (rDg xs l s).1 ≤ 6 ∧ l ≤ (rDg xs l s).1) := by
    intro hb
    refine wp_aload_n d_RE_readDigit_19 rfl rfl ?_
    refine wp_iconst (v := 1) d_RE_readDigit_20 (by rfl) ?_
    refine wp_put xf_RE_15 xg_RE (Or.inl rfl) d_RE_readDigit_21 (by repeat first | assumption | exact xg_eq | exact xn_eq (by first | rfl | omega) | refine xg_ne (by first | assumption | omega | (simp only [xput, xnew]; omega)) ?_ | refine xn_ne (by first | assumption | omega | (simp only [xput, xnew]; omega)) ?_ | exact rfl) (by first | rfl | assumption | exact bI_z _) (by first | rfl | assumption | exact bI_f _) (Nat.le_of_ble_eq_true rfl) ?_
    refine wp_iload_n d_RE_readDigit_24 rfl rfl ?_
    refine wp_ireturn d_RE_readDigit_25 rfl (by first | rfl | assumption) ?_
    rw [rDg, if_pos hb]
    exact ⟨rfl, xfr.rf.put (by simp), hr.set (xfr.rf.put (by simp)) (by repeat first | assumption | exact xg_eq | exact xn_eq (by first | rfl | omega) | refine xg_ne (by first | assumption | omega | (simp only [xput, xnew]; omega)) ?_ | refine xn_ne (by first | assumption | omega | (simp only [xput, xnew]; omega)) ?_ | exact rfl) h5, hl0, Nat.le_refl _⟩
  refine wpc_of rfl (Nat.le_of_ble_eq_true rfl) ?_
  refine wp_aload_n d_RE_readDigit_0 rfl rfl ?_
  refine wp_callV0 xc_RE_53 d_RE_readDigit_1 (Nat.le_of_ble_eq_true rfl) (by repeat first | assumption | exact xg_eq | exact xn_eq (by first | rfl | omega) | refine xg_ne (by first | assumption | omega | (simp only [xput, xnew]; omega)) ?_ | refine xn_ne (by first | assumption | omega | (simp only [xput, xnew]; omega)) ?_ | exact rfl) (c_RE_peek hE hr) (by omega) (fun r hh hp => ?_)
  obtain ⟨rfl, hz0⟩ := hp; have hz0 := hz0.symm; subst hz0
  refine wp_bipush (v := 48) d_RE_readDigit_4 (by rfl) ?_
  refine wp_isub d_RE_readDigit_6 ?_
  refine wp_istore_n d_RE_readDigit_7 rfl (by decide) rfl ?_
  refine wp_iload_n d_RE_readDigit_8 rfl rfl ?_
  refine wp_iload_n d_RE_readDigit_9 rfl rfl ?_
  refine wp_icmp_lt (tgt := 19) d_RE_readDigit_10 (by decide) (fun hc => ?_) (fun hc => ?_)
  · exact bad (Or.inl hc)
  · refine wp_iload_n d_RE_readDigit_13 rfl rfl ?_
    refine wp_bipush (v := 6) d_RE_readDigit_14 (by rfl) ?_
    refine wp_icmp_le (tgt := 26) d_RE_readDigit_16 (by decide) (fun hc2 => ?_) (fun hc2 => ?_)
    · have hge : ¬ rPk xs s - 48 < 0 := fun q => hc (Int32.lt_of_lt_of_le q (nI_pos' (by omega)))
      obtain ⟨c, q2, q3⟩ := nI_of2 (M := 6) (n := 6) rfl hge hc2
      have hne : rPk xs s ≠ -2 := fun q => by rw [q] at hge; exact hge (by decide)
      have hlt := rPk_lt hne
      refine wp_aload_n d_RE_readDigit_26 rfl rfl ?_
      refine wp_dup d_RE_readDigit_27 rfl ?_
      refine wp_get xf_RE_19 d_RE_readDigit_28 (by repeat first | assumption | exact xg_eq | exact xn_eq (by first | rfl | omega) | refine xg_ne (by first | assumption | omega | (simp only [xput, xnew]; omega)) ?_ | refine xn_ne (by first | assumption | omega | (simp only [xput, xnew]; omega)) ?_ | exact rfl) (by rfl) ?_
      refine wp_iconst (v := 1) d_RE_readDigit_31 (by rfl) ?_
      refine wp_iadd d_RE_readDigit_32 ?_
      refine wp_put xf_RE_19 xg_RE (Or.inl rfl) d_RE_readDigit_33 (by repeat first | assumption | exact xg_eq | exact xn_eq (by first | rfl | omega) | refine xg_ne (by first | assumption | omega | (simp only [xput, xnew]; omega)) ?_ | refine xn_ne (by first | assumption | omega | (simp only [xput, xnew]; omega)) ?_ | exact rfl) (by first | rfl | assumption | exact bI_z _) (by first | rfl | assumption | exact bI_f _) (Nat.le_of_ble_eq_true rfl) ?_
      refine wp_iload_n d_RE_readDigit_36 rfl rfl ?_
      refine wp_ireturn d_RE_readDigit_37 rfl (by first | rfl | assumption) ?_
      rw [rDg, if_neg (by rintro (q | q); exact hc q; exact absurd q (Int32.not_lt.mpr hc2))]
      rw [q3] at hc ⊢
      rw [nI_clamp (by omega)]
      rw [nI_ltI (by omega) (by omega)] at hc
      refine ⟨rfl, xfr.rf.put (by simp), hr.set (xfr.rf.put (by simp)) ?_ hlt, q2, by omega⟩
      rw [rInc, nI_succ]
      exact (by repeat first | assumption | exact xg_eq | exact xn_eq (by first | rfl | omega) | refine xg_ne (by first | assumption | omega | (simp only [xput, xnew]; omega)) ?_ | refine xn_ne (by first | assumption | omega | (simp only [xput, xnew]; omega)) ?_ | exact rfl)
    · exact bad (Or.inr (Int32.not_le.mp hc2))
theorem c_RE_readItem (hE : xOK E) (hX : xStr E kA kV) (hr : Rd E h ra sa sr n xs s) {a : Nat} {k g : Int32} {v : Value} (lo hi : Int64) (h1 : h.2.2 a = some (ob 0 [.int k, .long lo, .long hi, .int g, v])) (ha1 : a ≠ ra) (ha2 : a ≠ sa) (ha3 : a ≠ sr) :
    wpc E 6 m_RE_readItem [.ref ra, .ref a] h (fun r' h' => r' = none ∧ xfr [ra, a] h h' ∧ Rd E h' ra sa sr n xs (rIt xs (lo, hi) s).2 ∧ h'.2.2 a = some (ob 0 [.int k, .long (rIt xs (lo, hi) s).1.1, .long (rIt xs (lo, hi) s).1.2, .int g, v])) := by
  obtain ⟨k1, k2, k3, k4, k5⟩ := id hr
  have fin : ∀ (h2 : xH) (f : Nat) (q : Nat × RS), xfr [ra] h h2 → Rd E h2 ra sa sr n xs q.2 → f ≤ 126 → q.1 ≤ 126 → (tkS (q.1 + 1 - f) f (lo, hi), q.2) = rIt xs (lo, hi) s → wp E 6 m_RE_readItem 25 [(0, .ref ra), (1, .ref a), (2, .int (nI f))] [.int (nI q.1)] h2 (fun r' h' => r' = none ∧ xfr [ra, a] h h' ∧ Rd E h' ra sa sr n xs (rIt xs (lo, hi) s).2 ∧ h'.2.2 a = some (ob 0 [.int k, .long (rIt xs (lo, hi) s).1.1, .long (rIt xs (lo, hi) s).1.2, .int g, v])) := by
    intro h2 f q hf hr2 q1 q2 hq
    have o1 : h2.2.2 a = some (ob 0 [.int k, .long lo, .long hi, .int g, v]) := hf.at (by simp [ha1]) h1
    refine wp_istore_n d_RE_readItem_25 rfl (by decide) rfl ?_
    refine wp_aload_n d_RE_readItem_26 rfl rfl ?_
    refine wp_iload_n d_RE_readItem_27 rfl rfl ?_
    refine wp_iload_n d_RE_readItem_28 rfl rfl ?_
    refine wp_callV2 xc_RE_126 d_RE_readItem_29 (Nat.le_of_ble_eq_true rfl) (by repeat first | assumption | exact xg_eq | exact xn_eq (by first | rfl | omega) | refine xg_ne (by first | assumption | omega | (simp only [xput, xnew]; omega)) ?_ | refine xn_ne (by first | assumption | omega | (simp only [xput, xnew]; omega)) ?_ | exact rfl) (c_AT_takeSigns (by omega) (by omega) lo hi o1) (by omega) (fun r hh hp => ?_)
    obtain ⟨rfl, rfl⟩ := hp
    refine wp_return d_RE_readItem_32 rfl ?_
    rw [← hq]
    exact ⟨rfl, (hf.sub (by simp)).put (by simp), ⟨xg_ne ha1.symm hr2.1, hr2.2.1.mv (xg_ne ha2.symm rfl) (xg_ne ha3.symm rfl), hr2.2.2⟩, xg_eq⟩
  refine wpc_of rfl (Nat.le_of_ble_eq_true rfl) ?_
  refine wp_aload_n d_RE_readItem_0 rfl rfl ?_
  refine wp_bipush (v := 32) d_RE_readItem_1 (by rfl) ?_
  refine wp_callV1 xc_RE_146 d_RE_readItem_3 (Nat.le_of_ble_eq_true rfl) (by repeat first | assumption | exact xg_eq | exact xn_eq (by first | rfl | omega) | refine xg_ne (by first | assumption | omega | (simp only [xput, xnew]; omega)) ?_ | refine xn_ne (by first | assumption | omega | (simp only [xput, xnew]; omega)) ?_ | exact rfl) (c_RE_readItemSign hE hX hr (l := 32) (by decide)) (by omega) (fun r hh hp => ?_)
  obtain ⟨rfl, hf, hr2, b1, b2⟩ := hp
  obtain ⟨m1, m2, m3, m4, m5⟩ := id hr2
  refine wp_istore_n d_RE_readItem_6 rfl (by decide) rfl ?_
  refine wp_aload_n d_RE_readItem_7 rfl rfl ?_
  refine wp_bipush (v := 45) d_RE_readItem_8 (by rfl) ?_
  refine wp_callV1 xc_RE_46 d_RE_readItem_10 (Nat.le_of_ble_eq_true rfl) (by repeat first | assumption | exact xg_eq | exact xn_eq (by first | rfl | omega) | refine xg_ne (by first | assumption | omega | (simp only [xput, xnew]; omega)) ?_ | refine xn_ne (by first | assumption | omega | (simp only [xput, xnew]; omega)) ?_ | exact rfl) (c_RE_take hE hr2 (by decide)) (by omega) (fun r hh hp => ?_)
  obtain ⟨rfl, hf3, hr3⟩ := hp
  obtain ⟨l1, l2, l3, l4, l5⟩ := id hr3
  refine wp_if_eq (tgt := 24) d_RE_readItem_13 (by decide) (fun hc => ?_) (fun hc => ?_)
  · rw [bI_0] at hc
    refine wp_iload_n d_RE_readItem_24 rfl rfl ?_
    exact fin _ _ ((rIs xs 32 s).1, (rTk xs 45 (rIs xs 32 s).2).2) (hf.tr hf3) hr3 b1 b1 (by simp only [rIt, hc]; rfl)
  · rw [bI_0] at hc
    have hc := b_t hc
    refine wp_aload_n d_RE_readItem_16 rfl rfl ?_
    refine wp_iload_n d_RE_readItem_17 rfl rfl ?_
    refine wp_callV1 xc_RE_146 d_RE_readItem_18 (Nat.le_of_ble_eq_true rfl) (by repeat first | assumption | exact xg_eq | exact xn_eq (by first | rfl | omega) | refine xg_ne (by first | assumption | omega | (simp only [xput, xnew]; omega)) ?_ | refine xn_ne (by first | assumption | omega | (simp only [xput, xnew]; omega)) ?_ | exact rfl) (c_RE_readItemSign hE hX hr3 b1) (by omega) (fun r hh hp => ?_)
    obtain ⟨rfl, hf4, hr4, b3, b4⟩ := hp
    refine wp_goto (tgt := 25) d_RE_readItem_21 (by decide) ?_
    exact fin _ _ (rIs xs (rIs xs 32 s).1 (rTk xs 45 (rIs xs 32 s).2).2) ((hf.tr hf3).tr hf4) hr4 b1 b3 (by simp only [rIt, hc]; rfl)
theorem c_RE_readBraces (hE : xOK E) (hr : Rd E h ra sa sr n xs s) {a : Nat} {v w : Value} {l m u sp : Int32} (h1 : h.2.2 a = some (ob 4 [v, w, .int l, .int m, .int u, .int sp])) (ha1 : a ≠ ra) (ha2 : a ≠ sa) (ha3 : a ≠ sr) :
    wpc E 4 m_RE_readBraces [.ref ra, .ref a] h (fun r' h' => r' = none ∧ xfr [ra, a] h h' ∧ Rd E h' ra sa sr n xs (rBr xs s).2 ∧ h'.2.2 a = some (ob 4 [v, w, .int (nI (rBr xs s).1.1), .int (nI (rBr xs s).1.2), .int u, .int sp]) ∧ (rBr xs s).1.1 ≤ (rBr xs s).1.2) := by
  obtain ⟨k1, k2, k3, k4, k5⟩ := id hr
  have fin : ∀ (h2 : xH) (f : Nat) (q : Nat × RS), xfr [ra] h h2 → Rd E h2 ra sa sr n xs q.2 → f ≤ q.1 → ((f, q.1), rEx xs 125 q.2) = rBr xs s → wp E 4 m_RE_readBraces 39 [(0, .ref ra), (1, .ref a), (2, .int (nI f)), (3, .int (nI q.1))] [] h2 (fun r' h' => r' = none ∧ xfr [ra, a] h h' ∧ Rd E h' ra sa sr n xs (rBr xs s).2 ∧ h'.2.2 a = some (ob 4 [v, w, .int (nI (rBr xs s).1.1), .int (nI (rBr xs s).1.2), .int u, .int sp]) ∧ (rBr xs s).1.1 ≤ (rBr xs s).1.2) := by
    intro h2 f q hf hr2 hfq hq
    obtain ⟨l1, l2, l3, l4, l5⟩ := id hr2
    refine wp_aload_n d_RE_readBraces_39 rfl rfl ?_
    refine wp_bipush (v := 125) d_RE_readBraces_40 (by rfl) ?_
    refine wp_callV1 xc_RE_107 d_RE_readBraces_42 (Nat.le_of_ble_eq_true rfl) (by repeat first | assumption | exact xg_eq | exact xn_eq (by first | rfl | omega) | refine xg_ne (by first | assumption | omega | (simp only [xput, xnew]; omega)) ?_ | refine xn_ne (by first | assumption | omega | (simp only [xput, xnew]; omega)) ?_ | exact rfl) (c_RE_expect hE hr2 (by decide)) (by omega) (fun r hh hp => ?_)
    obtain ⟨rfl, hf3, hr3⟩ := hp
    have o1 : hh.2.2 a = some (ob 4 [v, w, .int l, .int m, .int u, .int sp]) := (hf.tr hf3).at (by simp [ha1]) h1
    refine wp_aload_n d_RE_readBraces_45 rfl rfl ?_
    refine wp_iload_n d_RE_readBraces_46 rfl rfl ?_
    refine wp_iload_n d_RE_readBraces_47 rfl rfl ?_
    refine wp_callV2 xc_RE_90 d_RE_readBraces_48 (Nat.le_of_ble_eq_true rfl) (by repeat first | assumption | exact xg_eq | exact xn_eq (by first | rfl | omega) | refine xg_ne (by first | assumption | omega | (simp only [xput, xnew]; omega)) ?_ | refine xn_ne (by first | assumption | omega | (simp only [xput, xnew]; omega)) ?_ | exact rfl) (c_PI_repeat _ _ o1) (by omega) (fun r hh hp => ?_)
    obtain ⟨rfl, rfl⟩ := hp
    refine wp_return d_RE_readBraces_51 rfl ?_
    rw [← hq]
    exact ⟨rfl, ((hf.tr hf3).sub (by simp)).put (by simp), ⟨xg_ne ha1.symm hr3.1, hr3.2.1.mv (xg_ne ha2.symm rfl) (xg_ne ha3.symm rfl), hr3.2.2⟩, xg_eq, hfq⟩
  refine wpc_of rfl (Nat.le_of_ble_eq_true rfl) ?_
  refine wp_aload_n d_RE_readBraces_0 rfl rfl ?_
  refine wp_iconst (v := 0) d_RE_readBraces_1 (by rfl) ?_
  refine wp_callV1 xc_RE_97 d_RE_readBraces_2 (Nat.le_of_ble_eq_true rfl) (by repeat first | assumption | exact xg_eq | exact xn_eq (by first | rfl | omega) | refine xg_ne (by first | assumption | omega | (simp only [xput, xnew]; omega)) ?_ | refine xn_ne (by first | assumption | omega | (simp only [xput, xnew]; omega)) ?_ | exact rfl) (c_RE_readDigit hE hr (l := 0) (by decide)) (by omega) (fun r hh hp => ?_)
  obtain ⟨rfl, hf, hr2, b1, b2⟩ := hp
  obtain ⟨m1, m2, m3, m4, m5⟩ := id hr2
  refine wp_istore_n d_RE_readBraces_5 rfl (by decide) rfl ?_
  refine wp_iload_n d_RE_readBraces_6 rfl rfl ?_
  refine wp_istore_n d_RE_readBraces_7 rfl (by decide) rfl ?_
  refine wp_aload_n d_RE_readBraces_8 rfl rfl ?_
  refine wp_bipush (v := 44) d_RE_readBraces_9 (by rfl) ?_
  refine wp_callV1 xc_RE_46 d_RE_readBraces_11 (Nat.le_of_ble_eq_true rfl) (by repeat first | assumption | exact xg_eq | exact xn_eq (by first | rfl | omega) | refine xg_ne (by first | assumption | omega | (simp only [xput, xnew]; omega)) ?_ | refine xn_ne (by first | assumption | omega | (simp only [xput, xnew]; omega)) ?_ | exact rfl) (c_RE_take hE hr2 (by decide)) (by omega) (fun r hh hp => ?_)
  obtain ⟨rfl, hf3, hr3⟩ := hp
  obtain ⟨l1, l2, l3, l4, l5⟩ := id hr3
  refine wp_if_eq (tgt := 30) d_RE_readBraces_14 (by decide) (fun hc => ?_) (fun hc => ?_)
  · rw [bI_0] at hc
    refine wp_iload_n d_RE_readBraces_30 rfl rfl ?_
    refine wp_if_ne (tgt := 39) d_RE_readBraces_31 (by decide) (fun hc2 => ?_) (fun hc2 => ?_)
    · have hz : ¬ (rDg xs 0 s).1 = 0 := fun q => hc2 (by rw [q]; rfl)
      exact fin _ _ ((rDg xs 0 s).1, (rTk xs 44 (rDg xs 0 s).2).2) (hf.tr hf3) hr3 (Nat.le_refl _) (by simp only [rBr, hc, if_neg hz]; rfl)
    · have hz : (rDg xs 0 s).1 = 0 := (nI_eq (by omega) (by decide)).mp hc2
      refine wp_aload_n d_RE_readBraces_34 rfl rfl ?_
      refine wp_iconst (v := 1) d_RE_readBraces_35 (by rfl) ?_
      refine wp_put xf_RE_15 xg_RE (Or.inl rfl) d_RE_readBraces_36 (by repeat first | assumption | exact xg_eq | exact xn_eq (by first | rfl | omega) | refine xg_ne (by first | assumption | omega | (simp only [xput, xnew]; omega)) ?_ | refine xn_ne (by first | assumption | omega | (simp only [xput, xnew]; omega)) ?_ | exact rfl) (by first | rfl | assumption | exact bI_z _) (by first | rfl | assumption | exact bI_f _) (Nat.le_of_ble_eq_true rfl) ?_
      refine fin _ _ ((rDg xs 0 s).1, rStk (rTk xs 44 (rDg xs 0 s).2).2) ((hf.tr hf3).put (by simp)) (hr3.set (xfr.rf.put (by simp)) (by repeat first | assumption | exact xg_eq | exact xn_eq (by first | rfl | omega) | refine xg_ne (by first | assumption | omega | (simp only [xput, xnew]; omega)) ?_ | refine xn_ne (by first | assumption | omega | (simp only [xput, xnew]; omega)) ?_ | exact rfl) l5) (Nat.le_refl _) (by simp only [rBr, hc, if_pos hz]; rfl)
  · rw [bI_0] at hc
    have hc := b_t hc
    refine wp_aload_n d_RE_readBraces_17 rfl rfl ?_
    refine wp_iconst (v := 1) d_RE_readBraces_18 (by rfl) ?_
    refine wp_iload_n d_RE_readBraces_19 rfl rfl ?_
    refine wp_mmax ml_RE_101 d_RE_readBraces_20 (Nat.le_of_ble_eq_true rfl) (by omega) ?_
    have hmx := mx1 (rDg xs 0 s).1 (by omega)
    rw [hmx]
    refine wp_callV1 xc_RE_97 d_RE_readBraces_23 (Nat.le_of_ble_eq_true rfl) (by repeat first | assumption | exact xg_eq | exact xn_eq (by first | rfl | omega) | refine xg_ne (by first | assumption | omega | (simp only [xput, xnew]; omega)) ?_ | refine xn_ne (by first | assumption | omega | (simp only [xput, xnew]; omega)) ?_ | exact rfl) (c_RE_readDigit hE hr3 (by omega)) (by omega) (fun r hh hp => ?_)
    obtain ⟨rfl, hf4, hr4, b3, b4⟩ := hp
    refine wp_istore_n d_RE_readBraces_26 rfl (by decide) rfl ?_
    refine wp_goto (tgt := 39) d_RE_readBraces_27 (by decide) ?_
    exact fin _ _ (rDg xs (max 1 (rDg xs 0 s).1) (rTk xs 44 (rDg xs 0 s).2).2) ((hf.tr hf3).tr hf4) hr4 (by omega) (by simp only [rBr, hc]; rfl)
end RE
