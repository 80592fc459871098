section CM
variable {E : xE} {h : xH} {c : CS}
theorem c_PS_newPattern (hE : xOK E) (hc0 : Cl E h c) : wpc E 1 m_PS_newPattern [.ref (xb E)] h (fun r' h' => r' = some (.int 0) ∧ xfr (cA E) h h' ∧ Cl E h' ([], c.2.1, c.2.2.1, c.2.2.2.1, c.2.2.2.2.1, c.2.2.2.2.2.1, false, c.2.2.2.2.2.2.2)) := by
  obtain ⟨h1, h2, h3, h4, h5, h6, h7, h8⟩ := id hc0
  have o2 := h2.obj
  refine wpc_of rfl (Nat.le_of_ble_eq_true rfl) ?_
  refine wp_aload_n d_PS_newPattern_0 rfl rfl ?_
  refine wp_get xf_PS_14 d_PS_newPattern_1 (by repeat first | assumption | exact xg_eq | exact xn_eq (by first | rfl | omega) | refine xg_ne (by first | assumption | omega | (simp only [xput, xnew]; omega)) ?_ | refine xn_ne (by first | assumption | omega | (simp only [xput, xnew]; omega)) ?_ | exact rfl) (by rfl) ?_
  refine wp_callV0 xc_PS_64 d_PS_newPattern_4 (Nat.le_of_ble_eq_true rfl) (by repeat first | assumption | exact xg_eq | exact xn_eq (by first | rfl | omega) | refine xg_ne (by first | assumption | omega | (simp only [xput, xnew]; omega)) ?_ | refine xn_ne (by first | assumption | omega | (simp only [xput, xnew]; omega)) ?_ | exact rfl) (c_SI_clearL h2) (by omega) (fun r g2 hp => ?_)
  obtain ⟨rfl, f2, s2⟩ := hp
  have k1 := (hc0.get f2).1 (by simp)
  refine wp_aload_n d_PS_newPattern_7 rfl rfl ?_
  refine wp_iconst (v := 0) d_PS_newPattern_8 (by rfl) ?_
  refine wp_put xf_PS_41 xg_PS (Or.inl rfl) d_PS_newPattern_9 (by repeat first | assumption | exact xg_eq | exact xn_eq (by first | rfl | omega) | refine xg_ne (by first | assumption | omega | (simp only [xput, xnew]; omega)) ?_ | refine xn_ne (by first | assumption | omega | (simp only [xput, xnew]; omega)) ?_ | exact rfl) (by first | rfl | assumption | exact bI_z _) (by first | rfl | assumption | exact bI_f _) (Nat.le_of_ble_eq_true rfl) ?_
  refine wp_iconst (v := 0) d_PS_newPattern_12 (by rfl) ?_
  refine wp_ireturn d_PS_newPattern_13 rfl (by first | rfl | assumption) ?_
  have fr : xfr [xb E, xb E + 1] h (xput g2 (xb E) (ob 9 [.ref (xb E + 1), .ref (xb E + 3), .ref (xb E + 5), .ref (xb E + 7), .ref (xb E + 17), .ref (xb E + 19), .int 0, .int (nI c.2.2.2.2.2.2.2)])) := (f2.sub (by simp)).put (by simp)
  have G := hc0.get fr
  exact ⟨rfl, fr.sub (by simp [cA]), xg_eq, s2.mv (xg_ne (by omega) rfl) (xg_ne (by omega) rfl), G.2.2.1 (by simp) (by simp), G.2.2.2.1 (by simp) (by simp), G.2.2.2.2.1 (fun z z1 z2 => by simp; omega), G.2.2.2.2.2.1 (by simp) (by simp), G.2.2.2.2.2.2 (by simp) (by simp), h8⟩
theorem c_PS_text (hE : xOK E) (hc0 : Cl E h c) (x : Int32) : wpc E 2 m_PS_text [.ref (xb E), .int x] h (fun r' h' => if isSg x = true ∧ c.2.1.length < 30 then r' = some (.int (nI (c.2.1.length + 1))) ∧ xfr (cA E) h h' ∧ Cl E h' (c.1, c.2.1 ++ [x], c.2.2.1, c.2.2.2.1, filled 14 (-2) c.2.2.2.2.1, c.2.2.2.2.2.1, c.2.2.2.2.2.2.1, c.2.2.2.2.2.2.2) else r' = some (.int (-1)) ∧ h' = h) := by
  obtain ⟨h1, h2, h3, h4, h5, h6, h7, h8⟩ := id hc0
  have o3 := h3.obj
  have bad : ¬ (isSg x = true ∧ c.2.1.length < 30) → wp E 2 m_PS_text 17 [(0, .ref (xb E)), (1, .int x)] [] h (fun r' h' => if isSg x = true ∧ c.2.1.length < 30 then r' = some (.int (nI (c.2.1.length + 1))) ∧ xfr (cA E) h h' ∧ Cl E h' (c.1, c.2.1 ++ [x], c.2.2.1, c.2.2.2.1, filled 14 (-2) c.2.2.2.2.1, c.2.2.2.2.2.1, c.2.2.2.2.2.2.1, c.2.2.2.2.2.2.2) else r' = some (.int (-1)) ∧ h' = h) := by
    intro hb
    refine wp_iconst (v := (-1)) d_PS_text_17 (by rfl) ?_
    refine wp_ireturn d_PS_text_18 rfl (by first | rfl | assumption) ?_
    rw [if_neg hb]
    exact ⟨rfl, rfl⟩
  refine wpc_of rfl (Nat.le_of_ble_eq_true rfl) ?_
  refine wp_iload_n d_PS_text_0 rfl rfl ?_
  refine wp_callS1 xc_PS_49 d_PS_text_1 (Nat.le_of_ble_eq_true rfl) (c_PS_isSign x) (by omega) (fun r hh hp => ?_)
  obtain ⟨rfl, hz0⟩ := hp; have hz0 := hz0.symm; subst hz0
  refine wp_if_eq (tgt := 17) d_PS_text_4 (by decide) (fun hc => ?_) (fun hc => ?_)
  · rw [bI_0] at hc
    exact bad (fun z => by rw [hc] at z; exact absurd z.1 (by decide))
  · rw [bI_0] at hc
    refine wp_aload_n d_PS_text_7 rfl rfl ?_
    refine wp_get xf_PS_18 d_PS_text_8 (by repeat first | assumption | exact xg_eq | exact xn_eq (by first | rfl | omega) | refine xg_ne (by first | assumption | omega | (simp only [xput, xnew]; omega)) ?_ | refine xn_ne (by first | assumption | omega | (simp only [xput, xnew]; omega)) ?_ | exact rfl) (by rfl) ?_
    refine wp_callV0 xc_PS_53 d_PS_text_11 (Nat.le_of_ble_eq_true rfl) (by repeat first | assumption | exact xg_eq | exact xn_eq (by first | rfl | omega) | refine xg_ne (by first | assumption | omega | (simp only [xput, xnew]; omega)) ?_ | refine xn_ne (by first | assumption | omega | (simp only [xput, xnew]; omega)) ?_ | exact rfl) (c_SI_isFullL hE h3) (by omega) (fun r hh hp => ?_)
    obtain ⟨rfl, hz0⟩ := hp; have hz0 := hz0.symm; subst hz0
    by_cases hl : 30 ≤ c.2.1.length
    · rw [if_pos hl]
      refine wp_if_eq (tgt := 19) d_PS_text_14 (by decide) (fun hc2 => ?_) (fun hc2 => ?_)
      · exact absurd hc2 (by decide)
      · exact bad (fun z => by omega)
    · rw [if_neg hl]
      refine wp_if_eq (tgt := 19) d_PS_text_14 (by decide) (fun hc2 => ?_) (fun hc2 => ?_)
      · refine wp_aload_n d_PS_text_19 rfl rfl ?_
        refine wp_get xf_PS_18 d_PS_text_20 (by repeat first | assumption | exact xg_eq | exact xn_eq (by first | rfl | omega) | refine xg_ne (by first | assumption | omega | (simp only [xput, xnew]; omega)) ?_ | refine xn_ne (by first | assumption | omega | (simp only [xput, xnew]; omega)) ?_ | exact rfl) (by rfl) ?_
        refine wp_iload_n d_PS_text_23 rfl rfl ?_
        refine wp_callV1 xc_PS_57 d_PS_text_24 (Nat.le_of_ble_eq_true rfl) (by repeat first | assumption | exact xg_eq | exact xn_eq (by first | rfl | omega) | refine xg_ne (by first | assumption | omega | (simp only [xput, xnew]; omega)) ?_ | refine xn_ne (by first | assumption | omega | (simp only [xput, xnew]; omega)) ?_ | exact rfl) (c_SI_addL hE h3 (by omega) x) (by omega) (fun r g2 hp => ?_)
        obtain ⟨rfl, f2, s2⟩ := hp
        have G2 := hc0.get f2
        have k1 := G2.1 (by simp)
        have b2 := G2.2.2.2.2.2.1 (by simp) (by simp)
        have w2 := b2.1
        refine wp_aload_n d_PS_text_27 rfl rfl ?_
        refine wp_get xf_PS_34 d_PS_text_28 (by repeat first | assumption | exact xg_eq | exact xn_eq (by first | rfl | omega) | refine xg_ne (by first | assumption | omega | (simp only [xput, xnew]; omega)) ?_ | refine xn_ne (by first | assumption | omega | (simp only [xput, xnew]; omega)) ?_ | exact rfl) (by rfl) ?_
        refine wp_callV0 xc_PS_91 d_PS_text_31 (Nat.le_of_ble_eq_true rfl) (by repeat first | assumption | exact xg_eq | exact xn_eq (by first | rfl | omega) | refine xg_ne (by first | assumption | omega | (simp only [xput, xnew]; omega)) ?_ | refine xn_ne (by first | assumption | omega | (simp only [xput, xnew]; omega)) ?_ | exact rfl) (c_BO_clear hE b2) (by omega) (fun r g3 hp => ?_)
        obtain ⟨rfl, hh3⟩ := hp
        have f3 : xfr [xb E + 18] g2 g3 := by rw [hh3]; exact xfr.rf.put (by simp)
        have b3 : Bd E g3 (xb E + 17) (xb E + 18) (filled 14 (-2) c.2.2.2.2.1) := by rw [hh3]; exact ⟨xg_ne (by omega) b2.1, xg_eq, b2.2.2⟩
        clear hh3
        have s3 : SgL E g3 (xb E + 3) (xb E + 4) 30 (c.2.1 ++ [x]) := s2.mv (f3.2.2 _ (by simp)) (f3.2.2 _ (by simp))
        have w3 := s3.obj
        have fr : xfr [xb E + 3, xb E + 4, xb E + 18] h g3 := (f2.sub (by simp)).tr (f3.sub (by simp))
        have G := hc0.get fr
        have k3 := G.1 (by simp)
        refine wp_aload_n d_PS_text_34 rfl rfl ?_
        refine wp_get xf_PS_18 d_PS_text_35 (by repeat first | assumption | exact xg_eq | exact xn_eq (by first | rfl | omega) | refine xg_ne (by first | assumption | omega | (simp only [xput, xnew]; omega)) ?_ | refine xn_ne (by first | assumption | omega | (simp only [xput, xnew]; omega)) ?_ | exact rfl) (by rfl) ?_
        refine wp_callV0 xc_PS_60 d_PS_text_38 (Nat.le_of_ble_eq_true rfl) (by repeat first | assumption | exact xg_eq | exact xn_eq (by first | rfl | omega) | refine xg_ne (by first | assumption | omega | (simp only [xput, xnew]; omega)) ?_ | refine xn_ne (by first | assumption | omega | (simp only [xput, xnew]; omega)) ?_ | exact rfl) (c_SI_lengthL s3) (by omega) (fun r hh hp => ?_)
        obtain ⟨rfl, hz0⟩ := hp; have hz0 := hz0.symm; subst hz0
        refine wp_ireturn d_PS_text_41 rfl (by first | rfl | assumption) ?_
        rw [if_pos ⟨b_t hc, by omega⟩, List.length_append]
        exact ⟨rfl, fr.sub (by simp [cA]), k3, G.2.1 (by simp) (by simp), s3, G.2.2.2.1 (by simp) (by simp), G.2.2.2.2.1 (fun z z1 z2 => by simp; omega), b3, G.2.2.2.2.2.2 (by simp) (by simp), h8⟩
      · exact absurd rfl hc2
theorem c_PS_newText (hE : xOK E) (hc0 : Cl E h c) : wpc E 2 m_PS_newText [.ref (xb E)] h (fun r' h' => r' = some (.int 0) ∧ xfr (cA E) h h' ∧ Cl E h' (c.1, [], c.2.2.1, c.2.2.2.1, filled 14 (-2) c.2.2.2.2.1, c.2.2.2.2.2.1, c.2.2.2.2.2.2.1, c.2.2.2.2.2.2.2)) := by
  obtain ⟨h1, h2, h3, h4, h5, h6, h7, h8⟩ := id hc0
  have o3 := h3.obj
  refine wpc_of rfl (Nat.le_of_ble_eq_true rfl) ?_
  refine wp_aload_n d_PS_newText_0 rfl rfl ?_
  refine wp_get xf_PS_18 d_PS_newText_1 (by repeat first | assumption | exact xg_eq | exact xn_eq (by first | rfl | omega) | refine xg_ne (by first | assumption | omega | (simp only [xput, xnew]; omega)) ?_ | refine xn_ne (by first | assumption | omega | (simp only [xput, xnew]; omega)) ?_ | exact rfl) (by rfl) ?_
  refine wp_callV0 xc_PS_64 d_PS_newText_4 (Nat.le_of_ble_eq_true rfl) (by repeat first | assumption | exact xg_eq | exact xn_eq (by first | rfl | omega) | refine xg_ne (by first | assumption | omega | (simp only [xput, xnew]; omega)) ?_ | refine xn_ne (by first | assumption | omega | (simp only [xput, xnew]; omega)) ?_ | exact rfl) (c_SI_clearL h3) (by omega) (fun r g2 hp => ?_)
  obtain ⟨rfl, f2, s2⟩ := hp
  have G2 := hc0.get f2
  have k1 := G2.1 (by simp)
  have b2 := G2.2.2.2.2.2.1 (by simp) (by simp)
  have w2 := b2.1
  refine wp_aload_n d_PS_newText_7 rfl rfl ?_
  refine wp_get xf_PS_34 d_PS_newText_8 (by repeat first | assumption | exact xg_eq | exact xn_eq (by first | rfl | omega) | refine xg_ne (by first | assumption | omega | (simp only [xput, xnew]; omega)) ?_ | refine xn_ne (by first | assumption | omega | (simp only [xput, xnew]; omega)) ?_ | exact rfl) (by rfl) ?_
  refine wp_callV0 xc_PS_91 d_PS_newText_11 (Nat.le_of_ble_eq_true rfl) (by repeat first | assumption | exact xg_eq | exact xn_eq (by first | rfl | omega) | refine xg_ne (by first | assumption | omega | (simp only [xput, xnew]; omega)) ?_ | refine xn_ne (by first | assumption | omega | (simp only [xput, xnew]; omega)) ?_ | exact rfl) (c_BO_clear hE b2) (by omega) (fun r g3 hp => ?_)
  obtain ⟨rfl, hh3⟩ := hp
  have f3 : xfr [xb E + 18] g2 g3 := by rw [hh3]; exact xfr.rf.put (by simp)
  have b3 : Bd E g3 (xb E + 17) (xb E + 18) (filled 14 (-2) c.2.2.2.2.1) := by rw [hh3]; exact ⟨xg_ne (by omega) b2.1, xg_eq, b2.2.2⟩
  clear hh3
  have fr : xfr [xb E + 3, xb E + 18] h g3 := (f2.sub (by simp)).tr (f3.sub (by simp))
  have G := hc0.get fr
  refine wp_iconst (v := 0) d_PS_newText_14 (by rfl) ?_
  refine wp_ireturn d_PS_newText_15 rfl (by first | rfl | assumption) ?_
  exact ⟨rfl, fr.sub (by simp [cA]), G.1 (by simp), G.2.1 (by simp) (by simp), s2.mv (f3.2.2 _ (by simp)) (f3.2.2 _ (by simp)), G.2.2.2.1 (by simp) (by simp), G.2.2.2.2.1 (fun z z1 z2 => by simp; omega), b3, G.2.2.2.2.2.2 (by simp) (by simp), h8⟩
theorem c_PS_output (hE : xOK E) (hc0 : Cl E h c) (x : Int32) : wpc E 1 m_PS_output [.ref (xb E), .int x] h (fun r' h' => r' = some (.int (lAt c.2.2.1 x)) ∧ h' = h) := by
  obtain ⟨h1, h2, h3, h4, h5, h6, h7, h8⟩ := id hc0
  have o4 := h4.obj
  refine wpc_of rfl (Nat.le_of_ble_eq_true rfl) ?_
  refine wp_aload_n d_PS_output_0 rfl rfl ?_
  refine wp_get xf_PS_21 d_PS_output_1 (by repeat first | assumption | exact xg_eq | exact xn_eq (by first | rfl | omega) | refine xg_ne (by first | assumption | omega | (simp only [xput, xnew]; omega)) ?_ | refine xn_ne (by first | assumption | omega | (simp only [xput, xnew]; omega)) ?_ | exact rfl) (by rfl) ?_
  refine wp_iload_n d_PS_output_4 rfl rfl ?_
  refine wp_callV1 xc_PS_126 d_PS_output_5 (Nat.le_of_ble_eq_true rfl) (by repeat first | assumption | exact xg_eq | exact xn_eq (by first | rfl | omega) | refine xg_ne (by first | assumption | omega | (simp only [xput, xnew]; omega)) ?_ | refine xn_ne (by first | assumption | omega | (simp only [xput, xnew]; omega)) ?_ | exact rfl) (c_SI_atL hE h4 x) (by omega) (fun r hh hp => ?_)
  obtain ⟨rfl, hz0⟩ := hp; have hz0 := hz0.symm; subst hz0
  refine wp_ireturn d_PS_output_8 rfl (by first | rfl | assumption) ?_
  exact ⟨rfl, rfl⟩
def stA (c : CS) (x : Int32) : Int32 := if x = 0 then nI c.1.length else if x = 1 then nI c.2.1.length else if x = 2 then nI c.2.2.1.length else if x = 3 then bI c.2.2.2.2.2.2.1 else if x = 4 then (if c.2.2.2.2.2.2.1 then nI c.2.2.2.2.2.2.2 else -2) else -1
theorem c_PS_state (hE : xOK E) (hc0 : Cl E h c) (x : Int32) : wpc E 1 m_PS_state [.ref (xb E), .int x] h (fun r' h' => r' = some (.int (stA c x)) ∧ h' = h) := by
  obtain ⟨h1, h2, h3, h4, h5, h6, h7, h8⟩ := id hc0
  have o2 := h2.obj
  have o3 := h3.obj
  have o4 := h4.obj
  refine wpc_of rfl (Nat.le_of_ble_eq_true rfl) ?_
  refine wp_iload_n d_PS_state_0 rfl rfl ?_
  by_cases e0 : x = 0
  · subst e0
    refine wp_tableIn (off := 35) (tgt := 36) d_PS_state_1 (by decide) (by decide) (by rfl) (by decide) ?_
    refine wp_aload_n d_PS_state_36 rfl rfl ?_
    refine wp_get xf_PS_14 d_PS_state_37 (by repeat first | assumption | exact xg_eq | exact xn_eq (by first | rfl | omega) | refine xg_ne (by first | assumption | omega | (simp only [xput, xnew]; omega)) ?_ | refine xn_ne (by first | assumption | omega | (simp only [xput, xnew]; omega)) ?_ | exact rfl) (by rfl) ?_
    refine wp_callV0 xc_PS_60 d_PS_state_40 (Nat.le_of_ble_eq_true rfl) (by repeat first | assumption | exact xg_eq | exact xn_eq (by first | rfl | omega) | refine xg_ne (by first | assumption | omega | (simp only [xput, xnew]; omega)) ?_ | refine xn_ne (by first | assumption | omega | (simp only [xput, xnew]; omega)) ?_ | exact rfl) (c_SI_lengthL h2) (by omega) (fun r hh hp => ?_)
    obtain ⟨rfl, hz0⟩ := hp; have hz0 := hz0.symm; subst hz0
    refine wp_ireturn d_PS_state_43 rfl (by first | rfl | assumption) ?_
    exact ⟨rfl, rfl⟩
  by_cases e1 : x = 1
  · subst e1
    refine wp_tableIn (off := 43) (tgt := 44) d_PS_state_1 (by decide) (by decide) (by rfl) (by decide) ?_
    refine wp_aload_n d_PS_state_44 rfl rfl ?_
    refine wp_get xf_PS_18 d_PS_state_45 (by repeat first | assumption | exact xg_eq | exact xn_eq (by first | rfl | omega) | refine xg_ne (by first | assumption | omega | (simp only [xput, xnew]; omega)) ?_ | refine xn_ne (by first | assumption | omega | (simp only [xput, xnew]; omega)) ?_ | exact rfl) (by rfl) ?_
    refine wp_callV0 xc_PS_60 d_PS_state_48 (Nat.le_of_ble_eq_true rfl) (by repeat first | assumption | exact xg_eq | exact xn_eq (by first | rfl | omega) | refine xg_ne (by first | assumption | omega | (simp only [xput, xnew]; omega)) ?_ | refine xn_ne (by first | assumption | omega | (simp only [xput, xnew]; omega)) ?_ | exact rfl) (c_SI_lengthL h3) (by omega) (fun r hh hp => ?_)
    obtain ⟨rfl, hz0⟩ := hp; have hz0 := hz0.symm; subst hz0
    refine wp_ireturn d_PS_state_51 rfl (by first | rfl | assumption) ?_
    exact ⟨rfl, rfl⟩
  by_cases e2 : x = 2
  · subst e2
    refine wp_tableIn (off := 51) (tgt := 52) d_PS_state_1 (by decide) (by decide) (by rfl) (by decide) ?_
    refine wp_aload_n d_PS_state_52 rfl rfl ?_
    refine wp_get xf_PS_21 d_PS_state_53 (by repeat first | assumption | exact xg_eq | exact xn_eq (by first | rfl | omega) | refine xg_ne (by first | assumption | omega | (simp only [xput, xnew]; omega)) ?_ | refine xn_ne (by first | assumption | omega | (simp only [xput, xnew]; omega)) ?_ | exact rfl) (by rfl) ?_
    refine wp_callV0 xc_PS_60 d_PS_state_56 (Nat.le_of_ble_eq_true rfl) (by repeat first | assumption | exact xg_eq | exact xn_eq (by first | rfl | omega) | refine xg_ne (by first | assumption | omega | (simp only [xput, xnew]; omega)) ?_ | refine xn_ne (by first | assumption | omega | (simp only [xput, xnew]; omega)) ?_ | exact rfl) (c_SI_lengthL h4) (by omega) (fun r hh hp => ?_)
    obtain ⟨rfl, hz0⟩ := hp; have hz0 := hz0.symm; subst hz0
    refine wp_ireturn d_PS_state_59 rfl (by first | rfl | assumption) ?_
    exact ⟨rfl, rfl⟩
  by_cases e3 : x = 3
  · subst e3
    refine wp_tableIn (off := 59) (tgt := 60) d_PS_state_1 (by decide) (by decide) (by rfl) (by decide) ?_
    refine wp_aload_n d_PS_state_60 rfl rfl ?_
    refine wp_get xf_PS_41 d_PS_state_61 (by repeat first | assumption | exact xg_eq | exact xn_eq (by first | rfl | omega) | refine xg_ne (by first | assumption | omega | (simp only [xput, xnew]; omega)) ?_ | refine xn_ne (by first | assumption | omega | (simp only [xput, xnew]; omega)) ?_ | exact rfl) (by rfl) ?_
    refine wp_if_eq (tgt := 71) d_PS_state_64 (by decide) (fun hc => ?_) (fun hc => ?_)
    · rw [bI_0] at hc
      refine wp_iconst (v := 0) d_PS_state_71 (by rfl) ?_
      refine wp_ireturn d_PS_state_72 rfl (by first | rfl | assumption) ?_
      simp only [stA, hc]
      exact ⟨rfl, trivial⟩
    · rw [bI_0] at hc
      refine wp_iconst (v := 1) d_PS_state_67 (by rfl) ?_
      refine wp_goto (tgt := 72) d_PS_state_68 (by decide) ?_
      refine wp_ireturn d_PS_state_72 rfl (by first | rfl | assumption) ?_
      simp only [stA, b_t hc]
      exact ⟨rfl, trivial⟩
  by_cases e4 : x = 4
  · subst e4
    refine wp_tableIn (off := 72) (tgt := 73) d_PS_state_1 (by decide) (by decide) (by rfl) (by decide) ?_
    refine wp_aload_n d_PS_state_73 rfl rfl ?_
    refine wp_get xf_PS_41 d_PS_state_74 (by repeat first | assumption | exact xg_eq | exact xn_eq (by first | rfl | omega) | refine xg_ne (by first | assumption | omega | (simp only [xput, xnew]; omega)) ?_ | refine xn_ne (by first | assumption | omega | (simp only [xput, xnew]; omega)) ?_ | exact rfl) (by rfl) ?_
    refine wp_if_eq (tgt := 87) d_PS_state_77 (by decide) (fun hc => ?_) (fun hc => ?_)
    · rw [bI_0] at hc
      refine wp_bipush (v := (-2)) d_PS_state_87 (by rfl) ?_
      refine wp_ireturn d_PS_state_89 rfl (by first | rfl | assumption) ?_
      simp only [stA, hc]
      exact ⟨rfl, trivial⟩
    · rw [bI_0] at hc
      refine wp_aload_n d_PS_state_80 rfl rfl ?_
      refine wp_get xf_PS_45 d_PS_state_81 (by repeat first | assumption | exact xg_eq | exact xn_eq (by first | rfl | omega) | refine xg_ne (by first | assumption | omega | (simp only [xput, xnew]; omega)) ?_ | refine xn_ne (by first | assumption | omega | (simp only [xput, xnew]; omega)) ?_ | exact rfl) (by rfl) ?_
      refine wp_goto (tgt := 89) d_PS_state_84 (by decide) ?_
      refine wp_ireturn d_PS_state_89 rfl (by first | rfl | assumption) ?_
      simp only [stA, b_t hc]
      exact ⟨rfl, trivial⟩
  · refine wp_tableOut (tgt := 90) d_PS_state_1 ?_ (by decide) ?_
    · by_cases hx : x.toInt < 0
      · exact Or.inl hx
      · right
        have n0 : x.toInt ≠ 0 := fun z => e0 (Int32.toInt_inj.mp z)
        have n1 : x.toInt ≠ 1 := fun z => e1 (Int32.toInt_inj.mp z)
        have n2 : x.toInt ≠ 2 := fun z => e2 (Int32.toInt_inj.mp z)
        have n3 : x.toInt ≠ 3 := fun z => e3 (Int32.toInt_inj.mp z)
        have n4 : x.toInt ≠ 4 := fun z => e4 (Int32.toInt_inj.mp z)
        omega
    · refine wp_iconst (v := (-1)) d_PS_state_90 (by rfl) ?_
      refine wp_ireturn d_PS_state_91 rfl (by first | rfl | assumption) ?_
      simp only [stA, if_neg e0, if_neg e1, if_neg e2, if_neg e3, if_neg e4]
      exact ⟨trivial, trivial⟩
def grA (c : CS) (x : Int32) (e : Bool) : Int32 := if isGr x = true ∧ c.2.2.2.2.2.2.1 = true then bdAt c.2.2.2.2.1 (if e then 2 * x + 1 else 2 * x) else -1
theorem c_PS_group (hE : xOK E) (hc0 : Cl E h c) (x : Int32) (e : Bool) : wpc E 2 m_PS_group [.ref (xb E), .int x, .int (bI e)] h (fun r' h' => r' = some (.int (grA c x e)) ∧ h' = h) := by
  obtain ⟨h1, h2, h3, h4, h5, h6, h7, h8⟩ := id hc0
  have w6 := h6.1
  have bad : ¬ (isGr x = true ∧ c.2.2.2.2.2.2.1 = true) → wp E 2 m_PS_group 14 [(0, .ref (xb E)), (1, .int x), (2, .int (bI e))] [] h (fun r' h' => r' = some (.int (grA c x e)) ∧ h' = h) := by
    intro hb
    refine wp_iconst (v := (-1)) d_PS_group_14 (by rfl) ?_
    refine wp_ireturn d_PS_group_15 rfl (by first | rfl | assumption) ?_
    rw [grA, if_neg hb]
    exact ⟨rfl, rfl⟩
  refine wpc_of rfl (Nat.le_of_ble_eq_true rfl) ?_
  refine wp_iload_n d_PS_group_0 rfl rfl ?_
  refine wp_callS1 xc_PS_106 d_PS_group_1 (Nat.le_of_ble_eq_true rfl) (c_PS_isGroup x) (by omega) (fun r hh hp => ?_)
  obtain ⟨rfl, hz0⟩ := hp; have hz0 := hz0.symm; subst hz0
  refine wp_if_eq (tgt := 14) d_PS_group_4 (by decide) (fun hc => ?_) (fun hc => ?_)
  · rw [bI_0] at hc
    exact bad (fun z => by rw [hc] at z; exact absurd z.1 (by decide))
  · rw [bI_0] at hc
    refine wp_aload_n d_PS_group_7 rfl rfl ?_
    refine wp_get xf_PS_41 d_PS_group_8 (by repeat first | assumption | exact xg_eq | exact xn_eq (by first | rfl | omega) | refine xg_ne (by first | assumption | omega | (simp only [xput, xnew]; omega)) ?_ | refine xn_ne (by first | assumption | omega | (simp only [xput, xnew]; omega)) ?_ | exact rfl) (by rfl) ?_
    refine wp_if_ne (tgt := 16) d_PS_group_11 (by decide) (fun hc2 => ?_) (fun hc2 => ?_)
    · rw [bI_0] at hc2
      refine wp_iload_n d_PS_group_16 rfl rfl ?_
      refine wp_if_eq (tgt := 31) d_PS_group_17 (by decide) (fun hc3 => ?_) (fun hc3 => ?_)
      · rw [bI_0] at hc3
        refine wp_aload_n d_PS_group_31 rfl rfl ?_
        refine wp_get xf_PS_34 d_PS_group_32 (by repeat first | assumption | exact xg_eq | exact xn_eq (by first | rfl | omega) | refine xg_ne (by first | assumption | omega | (simp only [xput, xnew]; omega)) ?_ | refine xn_ne (by first | assumption | omega | (simp only [xput, xnew]; omega)) ?_ | exact rfl) (by rfl) ?_
        refine wp_iload_n d_PS_group_35 rfl rfl ?_
        refine wp_callV1 xc_PS_102 d_PS_group_36 (Nat.le_of_ble_eq_true rfl) (by repeat first | assumption | exact xg_eq | exact xn_eq (by first | rfl | omega) | refine xg_ne (by first | assumption | omega | (simp only [xput, xnew]; omega)) ?_ | refine xn_ne (by first | assumption | omega | (simp only [xput, xnew]; omega)) ?_ | exact rfl) (c_BO_begin hE h6 x) (by omega) (fun r hh hp => ?_)
        obtain ⟨rfl, hz0⟩ := hp; have hz0 := hz0.symm; subst hz0
        refine wp_ireturn d_PS_group_39 rfl (by first | rfl | assumption) ?_
        rw [grA, if_pos ⟨b_t hc, b_t hc2⟩, hc3]
        exact ⟨rfl, rfl⟩
      · rw [bI_0] at hc3
        refine wp_aload_n d_PS_group_20 rfl rfl ?_
        refine wp_get xf_PS_34 d_PS_group_21 (by repeat first | assumption | exact xg_eq | exact xn_eq (by first | rfl | omega) | refine xg_ne (by first | assumption | omega | (simp only [xput, xnew]; omega)) ?_ | refine xn_ne (by first | assumption | omega | (simp only [xput, xnew]; omega)) ?_ | exact rfl) (by rfl) ?_
        refine wp_iload_n d_PS_group_24 rfl rfl ?_
        refine wp_callV1 xc_PS_109 d_PS_group_25 (Nat.le_of_ble_eq_true rfl) (by repeat first | assumption | exact xg_eq | exact xn_eq (by first | rfl | omega) | refine xg_ne (by first | assumption | omega | (simp only [xput, xnew]; omega)) ?_ | refine xn_ne (by first | assumption | omega | (simp only [xput, xnew]; omega)) ?_ | exact rfl) (c_BO_end hE h6 x) (by omega) (fun r hh hp => ?_)
        obtain ⟨rfl, hz0⟩ := hp; have hz0 := hz0.symm; subst hz0
        refine wp_goto (tgt := 39) d_PS_group_28 (by decide) ?_
        refine wp_ireturn d_PS_group_39 rfl (by first | rfl | assumption) ?_
        rw [grA, if_pos ⟨b_t hc, b_t hc2⟩, b_t hc3]
        exact ⟨rfl, rfl⟩
    · rw [bI_0] at hc2
      exact bad (fun z => by rw [hc2] at z; exact absurd z.2 (by decide))
end CM
