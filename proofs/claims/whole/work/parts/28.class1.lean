def skP (G : Nat → Int32) (fi : Nat) : Nat → Nat → Option Nat
  | 0, _ => none
  | k + 1, i => if lof G fi (nI i) then some i else skP G fi k (i + 1)
def skB (q : PS0) (G : Nat → Int32) (fi len i : Nat) (f : Nat → Int32) : Nat → Int32 := match skP G fi (len + 1 - i) i with
  | some b => wkB q G fi b (filled 14 (-2) f)
  | none => filled 14 (-2) f
theorem c_MA_seek {E : xE} {h : xH} {m fi len : Nat} {q : PS0} {F G : Nat → Int32} (hE : xOK E) (hm : Ma E h m q fi F G len) (hw : pWf q) (hlen : len ≤ 1000) {bo br i : Nat} {f : Nat → Int32} (hb : Bd E h bo br f) (l1 : bo < m ∨ m + 9 < bo) (l2 : br < m ∨ m + 9 < br) (hi : i ≤ 100000) :
    wpc E 2 m_MA_seek [.ref m, .int (nI i), .ref bo] h (fun r' h' => r' = some (.int (bI (skP G fi (len + 1 - i) i).isSome)) ∧ xfr [br] h h' ∧ Bd E h' bo br (skB q G fi len i f)) := by
  have hbr : br ∉ [m, m + 1, m + 2, m + 3, m + 4, m + 5, m + 6, m + 7, m + 8, m + 9] := by
    simp only [List.mem_cons, List.not_mem_nil, or_false, not_or]; omega
  have e1 := hb.1
  refine wpc_of rfl (Nat.le_of_ble_eq_true rfl) ?_
  refine wp_aload_n d_MA_seek_0 rfl rfl ?_
  refine wp_callV0 xc_MA_41 d_MA_seek_1 (Nat.le_of_ble_eq_true rfl) (by repeat first | assumption | exact xg_eq | exact xn_eq (by first | rfl | omega) | refine xg_ne (by first | assumption | omega | (simp only [xput, xnew]; omega)) ?_ | refine xn_ne (by first | assumption | omega | (simp only [xput, xnew]; omega)) ?_ | exact rfl) (c_BO_clear hE hb) (by omega) (fun r h2 hp => ?_)
  obtain ⟨rfl, hh2⟩ := hp
  have f2 : xfr [br] h h2 := by rw [hh2]; exact xfr.rf.put (by simp)
  have b2 : Bd E h2 bo br (filled 14 (-2) f) := by rw [hh2]; exact ⟨xg_ne hb.2.2 hb.1, xg_eq, hb.2.2⟩
  have m2 : Ma E h2 m q fi F G len := hm.mv (fun z z1 z2 => f2.2.2 z (fun e => hbr (by rw [← List.mem_singleton.mp e]; simp only [List.mem_cons, List.not_mem_nil, or_false]; omega)))
  clear hh2
  obtain ⟨k1, k2, k3, k4, k5⟩ := id m2
  have lp : ∀ (k j : Nat), k = len + 1 - j → j ≤ 200000 → skP G fi (len + 1 - i) i = skP G fi k j →
      wp E 2 m_MA_seek 6 [(0, .ref m), (1, .int (nI i)), (2, .ref bo), (3, .int (nI j))] [] h2 (fun r' h' => r' = some (.int (bI (skP G fi (len + 1 - i) i).isSome)) ∧ xfr [br] h h' ∧ Bd E h' bo br (skB q G fi len i f)) := by
    intro k
    induction k with
    | zero =>
      intro j hj hj2 hs
      refine wp_iload_n d_MA_seek_6 rfl rfl ?_
      refine wp_aload_n d_MA_seek_7 rfl rfl ?_
      refine wp_get xf_MA_46 d_MA_seek_8 (by repeat first | assumption | exact xg_eq | exact xn_eq (by first | rfl | omega) | refine xg_ne (by first | assumption | omega | (simp only [xput, xnew]; omega)) ?_ | refine xn_ne (by first | assumption | omega | (simp only [xput, xnew]; omega)) ?_ | exact rfl) (by rfl) ?_
      refine wp_icmp_gt (tgt := 36) d_MA_seek_11 (by decide) (fun hc => ?_) (fun hc => ?_)
      · refine wp_iconst (v := 0) d_MA_seek_36 (by rfl) ?_
        refine wp_ireturn d_MA_seek_37 rfl (by first | rfl | assumption) ?_
        have hs : skP G fi (len + 1 - i) i = none := hs
        rw [skB, hs]
        exact ⟨rfl, f2, b2⟩
      · exact absurd (nI_lt (by omega) (by omega)) hc
    | succ k ih =>
      intro j hj hj2 hs
      refine wp_iload_n d_MA_seek_6 rfl rfl ?_
      refine wp_aload_n d_MA_seek_7 rfl rfl ?_
      refine wp_get xf_MA_46 d_MA_seek_8 (by repeat first | assumption | exact xg_eq | exact xn_eq (by first | rfl | omega) | refine xg_ne (by first | assumption | omega | (simp only [xput, xnew]; omega)) ?_ | refine xn_ne (by first | assumption | omega | (simp only [xput, xnew]; omega)) ?_ | exact rfl) (by rfl) ?_
      refine wp_icmp_gt (tgt := 36) d_MA_seek_11 (by decide) (fun hc => ?_) (fun hc => ?_)
      · exact absurd hc (nI_nlt (by omega) (by omega))
      · refine wp_aload_n d_MA_seek_14 rfl rfl ?_
        refine wp_iload_n d_MA_seek_15 rfl rfl ?_
        refine wp_callV1 xc_MA_49 d_MA_seek_16 (Nat.le_of_ble_eq_true rfl) (by repeat first | assumption | exact xg_eq | exact xn_eq (by first | rfl | omega) | refine xg_ne (by first | assumption | omega | (simp only [xput, xnew]; omega)) ?_ | refine xn_ne (by first | assumption | omega | (simp only [xput, xnew]; omega)) ?_ | exact rfl) (c_MA_leadsOn hE m2 _) (by omega) (fun r hh hp => ?_)
        obtain ⟨rfl, hz0⟩ := hp; have hz0 := hz0.symm; subst hz0
        refine wp_if_eq (tgt := 30) d_MA_seek_19 (by decide) (fun hc2 => ?_) (fun hc2 => ?_)
        · rw [bI_0] at hc2
          refine wp_iinc d_MA_seek_30 rfl rfl (by decide) rfl ?_
          refine wp_goto (tgt := 6) d_MA_seek_33 (by decide) ?_
          rw [show nI j + Int32.ofInt 1 = nI (j + 1) from (nI_succ j).symm]
          exact ih (j + 1) (by omega) (by omega) (hs.trans (by rw [skP, hc2]; rfl))
        · rw [bI_0] at hc2
          have hs2 : skP G fi (len + 1 - i) i = some j := hs.trans (by rw [skP, b_t hc2]; rfl)
          refine wp_aload_n d_MA_seek_22 rfl rfl ?_
          refine wp_iload_n d_MA_seek_23 rfl rfl ?_
          refine wp_aload_n d_MA_seek_24 rfl rfl ?_
          refine wp_callV2 xc_MA_53 d_MA_seek_25 (Nat.le_of_ble_eq_true rfl) (by repeat first | assumption | exact xg_eq | exact xn_eq (by first | rfl | omega) | refine xg_ne (by first | assumption | omega | (simp only [xput, xnew]; omega)) ?_ | refine xn_ne (by first | assumption | omega | (simp only [xput, xnew]; omega)) ?_ | exact rfl) (c_MA_walk hE m2 hw b2 l1 l2) (by omega) (fun r h3 hp => ?_)
          obtain ⟨rfl, f3, b3⟩ := hp
          refine wp_iconst (v := 1) d_MA_seek_28 (by rfl) ?_
          refine wp_ireturn d_MA_seek_29 rfl (by first | rfl | assumption) ?_
          rw [skB, hs2]
          exact ⟨rfl, f2.tr f3, b3⟩
  refine wp_iload_n d_MA_seek_4 rfl rfl ?_
  refine wp_istore_n d_MA_seek_5 rfl (by decide) rfl ?_
  exact lp (len + 1 - i) i rfl (by omega) rfl
abbrev CS : Type := List Int32 × List Int32 × List Int32 × (PS0 × Nat × (Nat → Int32) × (Nat → Int32) × Nat) × (Nat → Int32) × (Nat → Int32) × Bool × Nat
def Cl (E : xE) (h : xH) (c : CS) : Prop :=
  h.2.2 (xb E) = some (ob 9 [.ref (xb E + 1), .ref (xb E + 3), .ref (xb E + 5), .ref (xb E + 7), .ref (xb E + 17), .ref (xb E + 19), .int (bI c.2.2.2.2.2.2.1), .int (nI c.2.2.2.2.2.2.2)]) ∧ SgL E h (xb E + 1) (xb E + 2) 28 c.1 ∧ SgL E h (xb E + 3) (xb E + 4) 30 c.2.1 ∧ SgL E h (xb E + 5) (xb E + 6) 30 c.2.2.1 ∧
  Ma E h (xb E + 7) c.2.2.2.1.1 c.2.2.2.1.2.1 c.2.2.2.1.2.2.1 c.2.2.2.1.2.2.2.1 c.2.2.2.1.2.2.2.2 ∧ Bd E h (xb E + 17) (xb E + 18) c.2.2.2.2.1 ∧ Bd E h (xb E + 19) (xb E + 20) c.2.2.2.2.2.1 ∧ pWf c.2.2.2.1.1
theorem Cl.get {E : xE} {h : xH} {c : CS} (hc : Cl E h c) {S : List Nat} {h' : xH} (f : xfr S h h') : (xb E ∉ S → h'.2.2 (xb E) = some (ob 9 [.ref (xb E + 1), .ref (xb E + 3), .ref (xb E + 5), .ref (xb E + 7), .ref (xb E + 17), .ref (xb E + 19), .int (bI c.2.2.2.2.2.2.1), .int (nI c.2.2.2.2.2.2.2)])) ∧ (xb E + 1 ∉ S → xb E + 2 ∉ S → SgL E h' (xb E + 1) (xb E + 2) 28 c.1) ∧ (xb E + 3 ∉ S → xb E + 4 ∉ S → SgL E h' (xb E + 3) (xb E + 4) 30 c.2.1) ∧ (xb E + 5 ∉ S → xb E + 6 ∉ S → SgL E h' (xb E + 5) (xb E + 6) 30 c.2.2.1) ∧
    ((∀ z, xb E + 7 ≤ z → z ≤ xb E + 16 → z ∉ S) → Ma E h' (xb E + 7) c.2.2.2.1.1 c.2.2.2.1.2.1 c.2.2.2.1.2.2.1 c.2.2.2.1.2.2.2.1 c.2.2.2.1.2.2.2.2) ∧ (xb E + 17 ∉ S → xb E + 18 ∉ S → Bd E h' (xb E + 17) (xb E + 18) c.2.2.2.2.1) ∧ (xb E + 19 ∉ S → xb E + 20 ∉ S → Bd E h' (xb E + 19) (xb E + 20) c.2.2.2.2.2.1) := by
  obtain ⟨h1, h2, h3, h4, h5, h6, h7, h8⟩ := hc
  exact ⟨fun a => f.at a h1, fun a b => h2.mv (f.2.2 _ a) (f.2.2 _ b), fun a b => h3.mv (f.2.2 _ a) (f.2.2 _ b), fun a b => h4.mv (f.2.2 _ a) (f.2.2 _ b), fun a => h5.mv (fun z z1 z2 => f.2.2 z (a z z1 (by omega))), fun a b => ⟨f.at a h6.1, f.at b h6.2.1, h6.2.2⟩, fun a b => ⟨f.at a h7.1, f.at b h7.2.1, h7.2.2⟩⟩
def cA (E : xE) : List Nat := [xb E, xb E + 1, xb E + 2, xb E + 3, xb E + 4, xb E + 5, xb E + 6, xb E + 7, xb E + 8, xb E + 9, xb E + 10, xb E + 11, xb E + 12, xb E + 13, xb E + 14, xb E + 15, xb E + 16, xb E + 17, xb E + 18, xb E + 19, xb E + 20]
section CL
variable {E : xE} {h : xH} {c : CS}
theorem c_PS_pattern (hE : xOK E) (hc0 : Cl E h c) (x : Int32) : wpc E 2 m_PS_pattern [.ref (xb E), .int x] h (fun r' h' => if isSg x = true ∧ c.1.length < 28 then r' = some (.int (nI (c.1.length + 1))) ∧ xfr (cA E) h h' ∧ Cl E h' (c.1 ++ [x], c.2.1, c.2.2.1, c.2.2.2.1, c.2.2.2.2.1, c.2.2.2.2.2.1, false, c.2.2.2.2.2.2.2) else r' = some (.int (-1)) ∧ h' = h) := by
  obtain ⟨h1, h2, h3, h4, h5, h6, h7, h8⟩ := id hc0
  have o2 := h2.obj
  have bad : ¬ (isSg x = true ∧ c.1.length < 28) → wp E 2 m_PS_pattern 17 [(0, .ref (xb E)), (1, .int x)] [] h (fun r' h' => if isSg x = true ∧ c.1.length < 28 then r' = some (.int (nI (c.1.length + 1))) ∧ xfr (cA E) h h' ∧ Cl E h' (c.1 ++ [x], c.2.1, c.2.2.1, c.2.2.2.1, c.2.2.2.2.1, c.2.2.2.2.2.1, false, c.2.2.2.2.2.2.2) else r' = some (.int (-1)) ∧ h' = h) := by
    intro hb
    refine wp_iconst (v := (-1)) d_PS_pattern_17 (by rfl) ?_
    refine wp_ireturn d_PS_pattern_18 rfl (by first | rfl | assumption) ?_
    rw [if_neg hb]
    exact ⟨rfl, rfl⟩
  refine wpc_of rfl (Nat.le_of_ble_eq_true rfl) ?_
  refine wp_iload_n d_PS_pattern_0 rfl rfl ?_
  refine wp_callS1 xc_PS_49 d_PS_pattern_1 (Nat.le_of_ble_eq_true rfl) (c_PS_isSign x) (by omega) (fun r hh hp => ?_)
  obtain ⟨rfl, hz0⟩ := hp; have hz0 := hz0.symm; subst hz0
  refine wp_if_eq (tgt := 17) d_PS_pattern_4 (by decide) (fun hc => ?_) (fun hc => ?_)
  · rw [bI_0] at hc
    exact bad (fun z => by rw [hc] at z; exact absurd z.1 (by decide))
  · rw [bI_0] at hc
    refine wp_aload_n d_PS_pattern_7 rfl rfl ?_
    refine wp_get xf_PS_14 d_PS_pattern_8 (by repeat first | assumption | exact xg_eq | exact xn_eq (by first | rfl | omega) | refine xg_ne (by first | assumption | omega | (simp only [xput, xnew]; omega)) ?_ | refine xn_ne (by first | assumption | omega | (simp only [xput, xnew]; omega)) ?_ | exact rfl) (by rfl) ?_
    refine wp_callV0 xc_PS_53 d_PS_pattern_11 (Nat.le_of_ble_eq_true rfl) (by repeat first | assumption | exact xg_eq | exact xn_eq (by first | rfl | omega) | refine xg_ne (by first | assumption | omega | (simp only [xput, xnew]; omega)) ?_ | refine xn_ne (by first | assumption | omega | (simp only [xput, xnew]; omega)) ?_ | exact rfl) (c_SI_isFullL hE h2) (by omega) (fun r hh hp => ?_)
    obtain ⟨rfl, hz0⟩ := hp; have hz0 := hz0.symm; subst hz0
    by_cases hl : 28 ≤ c.1.length
    · rw [if_pos hl]
      refine wp_if_eq (tgt := 19) d_PS_pattern_14 (by decide) (fun hc2 => ?_) (fun hc2 => ?_)
      · exact absurd hc2 (by decide)
      · exact bad (fun z => by omega)
    · rw [if_neg hl]
      refine wp_if_eq (tgt := 19) d_PS_pattern_14 (by decide) (fun hc2 => ?_) (fun hc2 => ?_)
      · refine wp_aload_n d_PS_pattern_19 rfl rfl ?_
        refine wp_get xf_PS_14 d_PS_pattern_20 (by repeat first | assumption | exact xg_eq | exact xn_eq (by first | rfl | omega) | refine xg_ne (by first | assumption | omega | (simp only [xput, xnew]; omega)) ?_ | refine xn_ne (by first | assumption | omega | (simp only [xput, xnew]; omega)) ?_ | exact rfl) (by rfl) ?_
        refine wp_iload_n d_PS_pattern_23 rfl rfl ?_
        refine wp_callV1 xc_PS_57 d_PS_pattern_24 (Nat.le_of_ble_eq_true rfl) (by repeat first | assumption | exact xg_eq | exact xn_eq (by first | rfl | omega) | refine xg_ne (by first | assumption | omega | (simp only [xput, xnew]; omega)) ?_ | refine xn_ne (by first | assumption | omega | (simp only [xput, xnew]; omega)) ?_ | exact rfl) (c_SI_addL hE h2 (by omega) x) (by omega) (fun r g2 hp => ?_)
        obtain ⟨rfl, f2, s2⟩ := hp
        have k1 := (hc0.get f2).1 (by simp)
        refine wp_aload_n d_PS_pattern_27 rfl rfl ?_
        refine wp_iconst (v := 0) d_PS_pattern_28 (by rfl) ?_
        refine wp_put xf_PS_41 xg_PS (Or.inl rfl) d_PS_pattern_29 (by repeat first | assumption | exact xg_eq | exact xn_eq (by first | rfl | omega) | refine xg_ne (by first | assumption | omega | (simp only [xput, xnew]; omega)) ?_ | refine xn_ne (by first | assumption | omega | (simp only [xput, xnew]; omega)) ?_ | exact rfl) (by first | rfl | assumption | exact bI_z _) (by first | rfl | assumption | exact bI_f _) (Nat.le_of_ble_eq_true rfl) ?_
        generalize hh3 : xput g2 (xb E) _ = g3
        have f3 : xfr [xb E] g2 g3 := by rw [← hh3]; exact xfr.rf.put (by simp)
        have o3 : g3.2.2 (xb E) = some (ob 9 [.ref (xb E + 1), .ref (xb E + 3), .ref (xb E + 5), .ref (xb E + 7), .ref (xb E + 17), .ref (xb E + 19), .int 0, .int (nI c.2.2.2.2.2.2.2)]) := by rw [← hh3]; exact xg_eq
        clear hh3
        have s3 : SgL E g3 (xb E + 1) (xb E + 2) 28 (c.1 ++ [x]) := s2.mv (f3.2.2 _ (by simp)) (f3.2.2 _ (by simp))
        have w3 := s3.obj
        have fr : xfr [xb E, xb E + 1, xb E + 2] h g3 := (f2.sub (by simp)).tr (f3.sub (by simp))
        have G := hc0.get fr
        refine wp_aload_n d_PS_pattern_32 rfl rfl ?_
        refine wp_get xf_PS_14 d_PS_pattern_33 (by repeat first | assumption | exact xg_eq | exact xn_eq (by first | rfl | omega) | refine xg_ne (by first | assumption | omega | (simp only [xput, xnew]; omega)) ?_ | refine xn_ne (by first | assumption | omega | (simp only [xput, xnew]; omega)) ?_ | exact rfl) (by rfl) ?_
        refine wp_callV0 xc_PS_60 d_PS_pattern_36 (Nat.le_of_ble_eq_true rfl) (by repeat first | assumption | exact xg_eq | exact xn_eq (by first | rfl | omega) | refine xg_ne (by first | assumption | omega | (simp only [xput, xnew]; omega)) ?_ | refine xn_ne (by first | assumption | omega | (simp only [xput, xnew]; omega)) ?_ | exact rfl) (c_SI_lengthL s3) (by omega) (fun r hh hp => ?_)
        obtain ⟨rfl, hz0⟩ := hp; have hz0 := hz0.symm; subst hz0
        refine wp_ireturn d_PS_pattern_39 rfl (by first | rfl | assumption) ?_
        rw [if_pos ⟨b_t hc, by omega⟩, List.length_append]
        exact ⟨rfl, fr.sub (by simp [cA]), o3, s3, G.2.2.1 (by simp) (by simp), G.2.2.2.1 (by simp) (by simp), G.2.2.2.2.1 (fun z z1 z2 => by simp; omega), G.2.2.2.2.2.1 (by simp) (by simp), G.2.2.2.2.2.2 (by simp) (by simp), h8⟩
      · exact absurd rfl hc2
end CL
