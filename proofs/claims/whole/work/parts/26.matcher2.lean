section MB
variable {E : xE} {h : xH} {m fi len : Nat} {q : PS0} {F G : Nat → Int32}
theorem Ma.mv {h' : xH} (hm : Ma E h m q fi F G len) (hq : ∀ z, m ≤ z → z ≤ m + 9 → h'.2.2 z = h.2.2 z) : Ma E h' m q fi F G len := by
  obtain ⟨h1, h2, h3, h4, h5⟩ := hm
  exact ⟨(hq _ (by omega) (by omega)).trans h1, h2.mv (fun z z1 z2 => hq z (by omega) (by omega)), (hq _ (by omega) (by omega)).trans h3, (hq _ (by omega) (by omega)).trans h4, h5⟩
def ftS (q : PS0) (ts : List Int32) (st : Nat) (acc : Int32) (pl : Nat) : Int32 := if pTk q st (ts.getD pl (-2)) then acc ||| ((1 : Int32) <<< (nI pl &&& 31)) else acc
def ftP (q : PS0) (ts : List Int32) (st : Nat) : Int32 := (List.range ts.length).foldl (ftS q ts st) 0
theorem c_MA_fittingPlaces (hE : xOK E) {ta tr n : Nat} {ts : List Int32} (hm : Ma E h m q fi F G ts.length) (ht : SgL E h ta tr n ts) {st : Nat} (hst : st ≤ 120) : wpc E 1 m_MA_fittingPlaces [.ref m, .int (nI st), .ref ta] h (fun r' h' => r' = some (.int (ftP q ts st)) ∧ h' = h) := by
  obtain ⟨h1, h2, h3, h4, h5⟩ := id hm
  have hl := ht.len
  have o1 := ht.obj
  have w2 := h2.1
  have lp : ∀ (k i : Nat) (acc : Int32), k + i = ts.length → (List.range ts.length).foldl (ftS q ts st) 0 = ((List.range ts.length).drop i).foldl (ftS q ts st) acc →
      wp E 1 m_MA_fittingPlaces 5 [(0, .ref m), (1, .int (nI st)), (2, .ref ta), (3, .int acc), (4, .int (nI i))] [] h (fun r' h' => r' = some (.int (ftP q ts st)) ∧ h' = h) := by
    intro k
    induction k with
    | zero =>
      intro i acc hi hs
      have hi : i = ts.length := by omega
      subst hi
      refine wp_iload d_MA_fittingPlaces_5 rfl ?_
      refine wp_aload_n d_MA_fittingPlaces_7 rfl rfl ?_
      refine wp_get xf_MA_46 d_MA_fittingPlaces_8 (by repeat first | assumption | exact xg_eq | exact xn_eq (by first | rfl | omega) | refine xg_ne (by first | assumption | omega | (simp only [xput, xnew]; omega)) ?_ | refine xn_ne (by first | assumption | omega | (simp only [xput, xnew]; omega)) ?_ | exact rfl) (by rfl) ?_
      refine wp_icmp_ge (tgt := 44) d_MA_fittingPlaces_11 (by decide) (fun hc => ?_) (fun hc => ?_)
      · refine wp_iload_n d_MA_fittingPlaces_44 rfl rfl ?_
        refine wp_ireturn d_MA_fittingPlaces_45 rfl (by first | rfl | assumption) ?_
        rw [List.drop_of_length_le (by simp)] at hs
        rw [ftP, hs]
        exact ⟨rfl, rfl⟩
      · exact absurd (Int32.le_refl _) hc
    | succ k ih =>
      intro i acc hi hs
      have hs2 : (List.range ts.length).foldl (ftS q ts st) 0 = ((List.range ts.length).drop (i + 1)).foldl (ftS q ts st) (ftS q ts st acc i) := by
        rw [hs, List.drop_eq_getElem_cons (by simp; omega), List.foldl_cons, List.getElem_range]
      refine wp_iload d_MA_fittingPlaces_5 rfl ?_
      refine wp_aload_n d_MA_fittingPlaces_7 rfl rfl ?_
      refine wp_get xf_MA_46 d_MA_fittingPlaces_8 (by repeat first | assumption | exact xg_eq | exact xn_eq (by first | rfl | omega) | refine xg_ne (by first | assumption | omega | (simp only [xput, xnew]; omega)) ?_ | refine xn_ne (by first | assumption | omega | (simp only [xput, xnew]; omega)) ?_ | exact rfl) (by rfl) ?_
      refine wp_icmp_ge (tgt := 44) d_MA_fittingPlaces_11 (by decide) (fun hc => ?_) (fun hc => ?_)
      · exact absurd hc (nI_ge (by omega) (by omega))
      · refine wp_aload_n d_MA_fittingPlaces_14 rfl rfl ?_
        refine wp_get xf_MA_12 d_MA_fittingPlaces_15 (by repeat first | assumption | exact xg_eq | exact xn_eq (by first | rfl | omega) | refine xg_ne (by first | assumption | omega | (simp only [xput, xnew]; omega)) ?_ | refine xn_ne (by first | assumption | omega | (simp only [xput, xnew]; omega)) ?_ | exact rfl) (by rfl) ?_
        refine wp_iload_n d_MA_fittingPlaces_18 rfl rfl ?_
        refine wp_aload_n d_MA_fittingPlaces_19 rfl rfl ?_
        refine wp_iload d_MA_fittingPlaces_20 rfl ?_
        refine wp_callV1 xc_MA_75 d_MA_fittingPlaces_22 (Nat.le_of_ble_eq_true rfl) (by repeat first | assumption | exact xg_eq | exact xn_eq (by first | rfl | omega) | refine xg_ne (by first | assumption | omega | (simp only [xput, xnew]; omega)) ?_ | refine xn_ne (by first | assumption | omega | (simp only [xput, xnew]; omega)) ?_ | exact rfl) (c_SI_atL hE ht _) (by omega) (fun r hh hp => ?_)
        obtain ⟨rfl, hz0⟩ := hp; have hz0 := hz0.symm; subst hz0
        rw [lAt_nI _ (by omega)]
        refine wp_callV2 xc_MA_79 d_MA_fittingPlaces_25 (Nat.le_of_ble_eq_true rfl) (by repeat first | assumption | exact xg_eq | exact xn_eq (by first | rfl | omega) | refine xg_ne (by first | assumption | omega | (simp only [xput, xnew]; omega)) ?_ | refine xn_ne (by first | assumption | omega | (simp only [xput, xnew]; omega)) ?_ | exact rfl) (c_PR_takes hE h2 hst _) (by omega) (fun r hh hp => ?_)
        obtain ⟨rfl, hz0⟩ := hp; have hz0 := hz0.symm; subst hz0
        refine wp_if_eq (tgt := 38) d_MA_fittingPlaces_28 (by decide) (fun hc2 => ?_) (fun hc2 => ?_)
        · rw [bI_0] at hc2
          refine wp_iinc d_MA_fittingPlaces_38 rfl rfl (by decide) rfl ?_
          refine wp_goto (tgt := 5) d_MA_fittingPlaces_41 (by decide) ?_
          rw [show nI i + Int32.ofInt 1 = nI (i + 1) from (nI_succ i).symm]
          exact ih (i + 1) acc (by omega) (by rw [ftS, hc2] at hs2; exact hs2)
        · rw [bI_0] at hc2
          refine wp_iload_n d_MA_fittingPlaces_31 rfl rfl ?_
          refine wp_iconst (v := 1) d_MA_fittingPlaces_32 (by rfl) ?_
          refine wp_iload d_MA_fittingPlaces_33 rfl ?_
          refine wp_ishl d_MA_fittingPlaces_35 ?_
          refine wp_ior d_MA_fittingPlaces_36 ?_
          refine wp_istore_n d_MA_fittingPlaces_37 rfl (by decide) rfl ?_
          refine wp_iinc d_MA_fittingPlaces_38 rfl rfl (by decide) rfl ?_
          refine wp_goto (tgt := 5) d_MA_fittingPlaces_41 (by decide) ?_
          rw [show nI i + Int32.ofInt 1 = nI (i + 1) from (nI_succ i).symm]
          exact ih (i + 1) (acc ||| ((1 : Int32) <<< (nI i &&& 31))) (by omega) (by rw [ftS, b_t hc2] at hs2; exact hs2)
  refine wpc_of rfl (Nat.le_of_ble_eq_true rfl) ?_
  refine wp_iconst (v := 0) d_MA_fittingPlaces_0 (by rfl) ?_
  refine wp_istore_n d_MA_fittingPlaces_1 rfl (by decide) rfl ?_
  refine wp_iconst (v := 0) d_MA_fittingPlaces_2 (by rfl) ?_
  refine wp_istore d_MA_fittingPlaces_3 (by decide) rfl ?_
  exact lp ts.length 0 0 rfl rfl
def amF (q : PS0) (ts : List Int32) (F : Nat → Int32) (k : Nat) : Nat → Int32 := fun i => if i < k then (if q.2.1 i = 1 then ftP q ts i else 0) else F i
def amG (G : Nat → Int32) (k : Nat) : Nat → Int32 := fun i => if i < k then 0 else G i
def amR (q : PS0) (F : Nat → Int32) (len : Nat) (ends : Int32) : Nat → Bool → (Nat → Int32) → (Nat → Int32)
  | 0, _, G => G
  | k + 1, g, G => if g then amR q F len ends k (spR q F len ends G).2 (spR q F len ends G).1 else G
def aimG (q : PS0) (ts : List Int32) (F G : Nat → Int32) (ends : Int32) : Nat → Int32 := amR q (amF q ts F q.1) ts.length ends 3752 true (amG G q.1)
theorem amF_s {q : PS0} {ts : List Int32} {F : Nat → Int32} {k : Nat} {v : Int32} (hv : v = if q.2.1 k = 1 then ftP q ts k else 0) : upd (amF q ts F k) k v = amF q ts F (k + 1) := by
  funext i
  by_cases hi : i = k
  · subst hi; simp [upd, amF, hv]
  · have e : (i < k) = (i < k + 1) := propext (by omega)
    simp only [upd, if_neg hi, amF, e]
theorem amG_s {G : Nat → Int32} {k : Nat} : upd (amG G k) k 0 = amG G (k + 1) := by
  funext i
  by_cases hi : i = k
  · subst hi; simp [upd, amG]
  · simp only [upd, if_neg hi, amG]
    by_cases h2 : i < k
    · rw [if_pos h2, if_pos (by omega)]
    · rw [if_neg h2, if_neg (by omega)]
theorem c_MA_aim (hE : xOK E) {ta tr n : Nat} {ts : List Int32} (hm : Ma E h m q fi F G len) (hw : pWf q) (ht : SgL E h ta tr n ts) (ha : ta < m ∨ m + 9 < ta) (hr : tr < m ∨ m + 9 < tr) (ends : Int32) :
    wpc E 2 m_MA_aim [.ref m, .ref ta, .int ends] h (fun r' h' => r' = none ∧ xfr [m, m + 8, m + 9] h h' ∧ Ma E h' m q fi (amF q ts F q.1) (aimG q ts F G ends) ts.length) := by
  obtain ⟨h1, h2, h3, h4, h5⟩ := id hm
  have hq := hw.2.2.2
  have o1 := ht.obj
  have lp2 : ∀ (k : Nat) (h2 : xH) (G2 : Nat → Int32) (g : Bool), k ≤ 3752 → amR q (amF q ts F q.1) ts.length ends k g G2 = aimG q ts F G ends → xfr [m, m + 8, m + 9] h h2 → Ma E h2 m q fi (amF q ts F q.1) G2 ts.length →
      wp E 2 m_MA_aim 68 [(0, .ref m), (1, .ref ta), (2, .int ends), (3, .int (bI g)), (4, .int (nI (3752 - k)))] [] h2 (fun r' h' => r' = none ∧ xfr [m, m + 8, m + 9] h h' ∧ Ma E h' m q fi (amF q ts F q.1) (aimG q ts F G ends) ts.length) := by
    intro k
    induction k with
    | zero =>
      intro h2 G2 g hk hs f2 m2
      have hs : G2 = aimG q ts F G ends := hs
      refine wp_iload_n d_MA_aim_68 rfl rfl ?_
      refine wp_if_eq (tgt := 92) d_MA_aim_69 (by decide) (fun hc => ?_) (fun hc => ?_)
      · refine wp_return d_MA_aim_92 rfl ?_
        rw [← hs]
        exact ⟨rfl, f2, m2⟩
      · refine wp_iload d_MA_aim_72 rfl ?_
        refine wp_sipush (v := 3751) d_MA_aim_74 (by rfl) ?_
        refine wp_icmp_gt (tgt := 92) d_MA_aim_77 (by decide) (fun hc2 => ?_) (fun hc2 => ?_)
        · refine wp_return d_MA_aim_92 rfl ?_
          rw [← hs]
          exact ⟨rfl, f2, m2⟩
        · exact absurd (show (3751 : Int32) < nI (3752 - 0) by decide) hc2
    | succ k ih =>
      intro h2 G2 g hk hs f2 m2
      have w2 := m2.1
      refine wp_iload_n d_MA_aim_68 rfl rfl ?_
      refine wp_if_eq (tgt := 92) d_MA_aim_69 (by decide) (fun hc => ?_) (fun hc => ?_)
      · rw [bI_0] at hc
        rw [amR, hc] at hs
        have hs : G2 = aimG q ts F G ends := hs
        refine wp_return d_MA_aim_92 rfl ?_
        rw [← hs]
        exact ⟨rfl, f2, m2⟩
      · rw [bI_0] at hc
        rw [amR, b_t hc] at hs
        have hs : amR q (amF q ts F q.1) ts.length ends k (spR q (amF q ts F q.1) ts.length ends G2).2 (spR q (amF q ts F q.1) ts.length ends G2).1 = aimG q ts F G ends := hs
        refine wp_iload d_MA_aim_72 rfl ?_
        refine wp_sipush (v := 3751) d_MA_aim_74 (by rfl) ?_
        refine wp_icmp_gt (tgt := 92) d_MA_aim_77 (by decide) (fun hc2 => ?_) (fun hc2 => ?_)
        · exact absurd hc2 (nI_nlt (b := 3752 - (k + 1)) (a := 3751) (by omega) (by decide))
        · refine wp_aload_n d_MA_aim_80 rfl rfl ?_
          refine wp_iload_n d_MA_aim_81 rfl rfl ?_
          refine wp_callV1 xc_MA_72 d_MA_aim_82 (Nat.le_of_ble_eq_true rfl) (by repeat first | assumption | exact xg_eq | exact xn_eq (by first | rfl | omega) | refine xg_ne (by first | assumption | omega | (simp only [xput, xnew]; omega)) ?_ | refine xn_ne (by first | assumption | omega | (simp only [xput, xnew]; omega)) ?_ | exact rfl) (c_MA_spread hE m2 hw ends) (by omega) (fun r h3 hp => ?_)
          obtain ⟨rfl, f3, m3⟩ := hp
          refine wp_istore_n d_MA_aim_85 rfl (by decide) rfl ?_
          refine wp_iinc d_MA_aim_86 rfl rfl (by decide) rfl ?_
          refine wp_goto (tgt := 68) d_MA_aim_89 (by decide) ?_
          rw [show nI (3752 - (k + 1)) + Int32.ofInt 1 = nI (3752 - k) from by rw [show 3752 - k = (3752 - (k + 1)) + 1 by omega, nI_succ]; rfl]
          exact ih h3 _ _ (by omega) hs (f2.tr (f3.sub (by simp))) m3
  have lp1 : ∀ (k i : Nat) (h2 : xH), k + i = q.1 → xfr [m, m + 8, m + 9] h h2 → Ma E h2 m q fi (amF q ts F i) (amG G i) ts.length → SgL E h2 ta tr n ts →
      wp E 2 m_MA_aim 10 [(0, .ref m), (1, .ref ta), (2, .int ends), (3, .int (nI i))] [] h2 (fun r' h' => r' = none ∧ xfr [m, m + 8, m + 9] h h' ∧ Ma E h' m q fi (amF q ts F q.1) (aimG q ts F G ends) ts.length) := by
    intro k
    induction k with
    | zero =>
      intro i h2 hi f2 m2 t2
      have hi : i = q.1 := by omega
      subst hi
      obtain ⟨k1, ⟨g1, g2, g3, g4, g5, g6, g7, g8⟩, k3, k4, k5⟩ := id m2
      refine wp_iload_n d_MA_aim_10 rfl rfl ?_
      refine wp_aload_n d_MA_aim_11 rfl rfl ?_
      refine wp_get xf_MA_12 d_MA_aim_12 (by repeat first | assumption | exact xg_eq | exact xn_eq (by first | rfl | omega) | refine xg_ne (by first | assumption | omega | (simp only [xput, xnew]; omega)) ?_ | refine xn_ne (by first | assumption | omega | (simp only [xput, xnew]; omega)) ?_ | exact rfl) (by rfl) ?_
      refine wp_get xf_MA_62 d_MA_aim_15 (by repeat first | assumption | exact xg_eq | exact xn_eq (by first | rfl | omega) | refine xg_ne (by first | assumption | omega | (simp only [xput, xnew]; omega)) ?_ | refine xn_ne (by first | assumption | omega | (simp only [xput, xnew]; omega)) ?_ | exact rfl) (by rfl) ?_
      refine wp_icmp_ge (tgt := 63) d_MA_aim_18 (by decide) (fun hc => ?_) (fun hc => ?_)
      · refine wp_iconst (v := 1) d_MA_aim_63 (by rfl) ?_
        refine wp_istore_n d_MA_aim_64 rfl (by decide) rfl ?_
        refine wp_iconst (v := 0) d_MA_aim_65 (by rfl) ?_
        refine wp_istore d_MA_aim_66 (by decide) rfl ?_
        exact lp2 3752 h2 _ true (Nat.le_refl _) rfl f2 m2
      · exact absurd (Int32.le_refl _) hc
    | succ k ih =>
      intro i h2 hi f2 m2 t2
      obtain ⟨k1, ⟨g1, g2, g3, g4, g5, g6, g7, g8⟩, k3, k4, k5⟩ := id m2
      have kb := hw.1 i
      have nx : ∀ v : Int32, v = (if q.2.1 i = 1 then ftP q ts i else 0) → wp E 2 m_MA_aim 49 [(0, .ref m), (1, .ref ta), (2, .int ends), (3, .int (nI i))] [.int v, .int (nI i), .ref (m + 8)] h2 (fun r' h' => r' = none ∧ xfr [m, m + 8, m + 9] h h' ∧ Ma E h' m q fi (amF q ts F q.1) (aimG q ts F G ends) ts.length) := by
        intro v hv
        refine wp_iast d_MA_aim_49 (by repeat first | assumption | exact xg_eq | exact xn_eq (by first | rfl | omega) | refine xg_ne (by first | assumption | omega | (simp only [xput, xnew]; omega)) ?_ | refine xn_ne (by first | assumption | omega | (simp only [xput, xnew]; omega)) ?_ | exact rfl) hE.i (vp_in_nI (by omega) (by omega)) ?_
        rw [nI_clamp (n := i) (by omega), amF_s hv]
        refine wp_aload_n d_MA_aim_50 rfl rfl ?_
        refine wp_get xf_MA_22 d_MA_aim_51 (by repeat first | assumption | exact xg_eq | exact xn_eq (by first | rfl | omega) | refine xg_ne (by first | assumption | omega | (simp only [xput, xnew]; omega)) ?_ | refine xn_ne (by first | assumption | omega | (simp only [xput, xnew]; omega)) ?_ | exact rfl) (by rfl) ?_
        refine wp_iload_n d_MA_aim_54 rfl rfl ?_
        refine wp_iconst (v := 0) d_MA_aim_55 (by rfl) ?_
        refine wp_iast d_MA_aim_56 (by repeat first | assumption | exact xg_eq | exact xn_eq (by first | rfl | omega) | refine xg_ne (by first | assumption | omega | (simp only [xput, xnew]; omega)) ?_ | refine xn_ne (by first | assumption | omega | (simp only [xput, xnew]; omega)) ?_ | exact rfl) hE.i (vp_in_nI (by omega) (by omega)) ?_
        rw [nI_clamp (n := i) (by omega), amG_s]
        refine wp_iinc d_MA_aim_57 rfl rfl (by decide) rfl ?_
        refine wp_goto (tgt := 10) d_MA_aim_60 (by decide) ?_
        rw [show nI i + Int32.ofInt 1 = nI (i + 1) from (nI_succ i).symm]
        exact ih (i + 1) _ (by omega) ((f2.put (by simp)).put (by simp)) ⟨(by repeat first | assumption | exact xg_eq | exact xn_eq (by first | rfl | omega) | refine xg_ne (by first | assumption | omega | (simp only [xput, xnew]; omega)) ?_ | refine xn_ne (by first | assumption | omega | (simp only [xput, xnew]; omega)) ?_ | exact rfl), ⟨(by repeat first | assumption | exact xg_eq | exact xn_eq (by first | rfl | omega) | refine xg_ne (by first | assumption | omega | (simp only [xput, xnew]; omega)) ?_ | refine xn_ne (by first | assumption | omega | (simp only [xput, xnew]; omega)) ?_ | exact rfl), (by repeat first | assumption | exact xg_eq | exact xn_eq (by first | rfl | omega) | refine xg_ne (by first | assumption | omega | (simp only [xput, xnew]; omega)) ?_ | refine xn_ne (by first | assumption | omega | (simp only [xput, xnew]; omega)) ?_ | exact rfl), (by repeat first | assumption | exact xg_eq | exact xn_eq (by first | rfl | omega) | refine xg_ne (by first | assumption | omega | (simp only [xput, xnew]; omega)) ?_ | refine xn_ne (by first | assumption | omega | (simp only [xput, xnew]; omega)) ?_ | exact rfl), (by repeat first | assumption | exact xg_eq | exact xn_eq (by first | rfl | omega) | refine xg_ne (by first | assumption | omega | (simp only [xput, xnew]; omega)) ?_ | refine xn_ne (by first | assumption | omega | (simp only [xput, xnew]; omega)) ?_ | exact rfl), (by repeat first | assumption | exact xg_eq | exact xn_eq (by first | rfl | omega) | refine xg_ne (by first | assumption | omega | (simp only [xput, xnew]; omega)) ?_ | refine xn_ne (by first | assumption | omega | (simp only [xput, xnew]; omega)) ?_ | exact rfl), (by repeat first | assumption | exact xg_eq | exact xn_eq (by first | rfl | omega) | refine xg_ne (by first | assumption | omega | (simp only [xput, xnew]; omega)) ?_ | refine xn_ne (by first | assumption | omega | (simp only [xput, xnew]; omega)) ?_ | exact rfl), (by repeat first | assumption | exact xg_eq | exact xn_eq (by first | rfl | omega) | refine xg_ne (by first | assumption | omega | (simp only [xput, xnew]; omega)) ?_ | refine xn_ne (by first | assumption | omega | (simp only [xput, xnew]; omega)) ?_ | exact rfl), g8⟩, (by repeat first | assumption | exact xg_eq | exact xn_eq (by first | rfl | omega) | refine xg_ne (by first | assumption | omega | (simp only [xput, xnew]; omega)) ?_ | refine xn_ne (by first | assumption | omega | (simp only [xput, xnew]; omega)) ?_ | exact rfl), (by repeat first | assumption | exact xg_eq | exact xn_eq (by first | rfl | omega) | refine xg_ne (by first | assumption | omega | (simp only [xput, xnew]; omega)) ?_ | refine xn_ne (by first | assumption | omega | (simp only [xput, xnew]; omega)) ?_ | exact rfl), k5⟩ (t2.mv (by repeat first | assumption | exact xg_eq | exact xn_eq (by first | rfl | omega) | refine xg_ne (by first | assumption | omega | (simp only [xput, xnew]; omega)) ?_ | refine xn_ne (by first | assumption | omega | (simp only [xput, xnew]; omega)) ?_ | exact rfl) (by repeat first | assumption | exact xg_eq | exact xn_eq (by first | rfl | omega) | refine xg_ne (by first | assumption | omega | (simp only [xput, xnew]; omega)) ?_ | refine xn_ne (by first | assumption | omega | (simp only [xput, xnew]; omega)) ?_ | exact rfl))
      refine wp_iload_n d_MA_aim_10 rfl rfl ?_
      refine wp_aload_n d_MA_aim_11 rfl rfl ?_
      refine wp_get xf_MA_12 d_MA_aim_12 (by repeat first | assumption | exact xg_eq | exact xn_eq (by first | rfl | omega) | refine xg_ne (by first | assumption | omega | (simp only [xput, xnew]; omega)) ?_ | refine xn_ne (by first | assumption | omega | (simp only [xput, xnew]; omega)) ?_ | exact rfl) (by rfl) ?_
      refine wp_get xf_MA_62 d_MA_aim_15 (by repeat first | assumption | exact xg_eq | exact xn_eq (by first | rfl | omega) | refine xg_ne (by first | assumption | omega | (simp only [xput, xnew]; omega)) ?_ | refine xn_ne (by first | assumption | omega | (simp only [xput, xnew]; omega)) ?_ | exact rfl) (by rfl) ?_
      refine wp_icmp_ge (tgt := 63) d_MA_aim_18 (by decide) (fun hc => ?_) (fun hc => ?_)
      · exact absurd hc (nI_ge (by omega) (by omega))
      · refine wp_aload_n d_MA_aim_21 rfl rfl ?_
        refine wp_get xf_MA_18 d_MA_aim_22 (by repeat first | assumption | exact xg_eq | exact xn_eq (by first | rfl | omega) | refine xg_ne (by first | assumption | omega | (simp only [xput, xnew]; omega)) ?_ | refine xn_ne (by first | assumption | omega | (simp only [xput, xnew]; omega)) ?_ | exact rfl) (by rfl) ?_
        refine wp_iload_n d_MA_aim_25 rfl rfl ?_
        refine wp_aload_n d_MA_aim_26 rfl rfl ?_
        refine wp_get xf_MA_12 d_MA_aim_27 (by repeat first | assumption | exact xg_eq | exact xn_eq (by first | rfl | omega) | refine xg_ne (by first | assumption | omega | (simp only [xput, xnew]; omega)) ?_ | refine xn_ne (by first | assumption | omega | (simp only [xput, xnew]; omega)) ?_ | exact rfl) (by rfl) ?_
        refine wp_get xf_MA_65 d_MA_aim_30 (by repeat first | assumption | exact xg_eq | exact xn_eq (by first | rfl | omega) | refine xg_ne (by first | assumption | omega | (simp only [xput, xnew]; omega)) ?_ | refine xn_ne (by first | assumption | omega | (simp only [xput, xnew]; omega)) ?_ | exact rfl) (by rfl) ?_
        refine wp_iload_n d_MA_aim_33 rfl rfl ?_
        refine wp_iald d_MA_aim_34 (by repeat first | assumption | exact xg_eq | exact xn_eq (by first | rfl | omega) | refine xg_ne (by first | assumption | omega | (simp only [xput, xnew]; omega)) ?_ | refine xn_ne (by first | assumption | omega | (simp only [xput, xnew]; omega)) ?_ | exact rfl) hE.i (vp_in_nI (by omega) (by omega)) ?_
        rw [nI_clamp (n := i) (by omega)]
        refine wp_iconst (v := 1) d_MA_aim_35 (by rfl) ?_
        refine wp_icmp_ne (tgt := 48) d_MA_aim_36 (by decide) (fun hc2 => ?_) (fun hc2 => ?_)
        · have hz : ¬ q.2.1 i = 1 := fun z => hc2 (by rw [z]; rfl)
          refine wp_iconst (v := 0) d_MA_aim_48 (by rfl) ?_
          exact nx 0 (by rw [if_neg hz])
        · have hz : q.2.1 i = 1 := (nI_eq (b := 1) (by omega) (by decide)).mp hc2
          refine wp_aload_n d_MA_aim_39 rfl rfl ?_
          refine wp_iload_n d_MA_aim_40 rfl rfl ?_
          refine wp_aload_n d_MA_aim_41 rfl rfl ?_
          refine wp_callV2 xc_MA_68 d_MA_aim_42 (Nat.le_of_ble_eq_true rfl) (by repeat first | assumption | exact xg_eq | exact xn_eq (by first | rfl | omega) | refine xg_ne (by first | assumption | omega | (simp only [xput, xnew]; omega)) ?_ | refine xn_ne (by first | assumption | omega | (simp only [xput, xnew]; omega)) ?_ | exact rfl) (c_MA_fittingPlaces hE m2 t2 (by omega)) (by omega) (fun r hh hp => ?_)
          obtain ⟨rfl, hz0⟩ := hp; have hz0 := hz0.symm; subst hz0
          refine wp_goto (tgt := 49) d_MA_aim_45 (by decide) ?_
          exact nx _ (by rw [if_pos hz])
  refine wpc_of rfl (Nat.le_of_ble_eq_true rfl) ?_
  refine wp_aload_n d_MA_aim_0 rfl rfl ?_
  refine wp_aload_n d_MA_aim_1 rfl rfl ?_
  refine wp_callV0 xc_MA_57 d_MA_aim_2 (Nat.le_of_ble_eq_true rfl) (by repeat first | assumption | exact xg_eq | exact xn_eq (by first | rfl | omega) | refine xg_ne (by first | assumption | omega | (simp only [xput, xnew]; omega)) ?_ | refine xn_ne (by first | assumption | omega | (simp only [xput, xnew]; omega)) ?_ | exact rfl) (c_SI_lengthL ht) (by omega) (fun r hh hp => ?_)
  obtain ⟨rfl, hz0⟩ := hp; have hz0 := hz0.symm; subst hz0
  obtain ⟨g1, g2, g3, g4, g5, g6, g7, g8⟩ := h2
  refine wp_put xf_MA_46 xg_MA (Or.inl rfl) d_MA_aim_5 (by repeat first | assumption | exact xg_eq | exact xn_eq (by first | rfl | omega) | refine xg_ne (by first | assumption | omega | (simp only [xput, xnew]; omega)) ?_ | refine xn_ne (by first | assumption | omega | (simp only [xput, xnew]; omega)) ?_ | exact rfl) (by first | rfl | assumption | exact bI_z _) (by first | rfl | assumption | exact bI_f _) (Nat.le_of_ble_eq_true rfl) ?_
  refine wp_iconst (v := 0) d_MA_aim_8 (by rfl) ?_
  refine wp_istore_n d_MA_aim_9 rfl (by decide) rfl ?_
  exact lp1 q.1 0 _ rfl (xfr.rf.put (by simp)) ⟨(by repeat first | assumption | exact xg_eq | exact xn_eq (by first | rfl | omega) | refine xg_ne (by first | assumption | omega | (simp only [xput, xnew]; omega)) ?_ | refine xn_ne (by first | assumption | omega | (simp only [xput, xnew]; omega)) ?_ | exact rfl), ⟨(by repeat first | assumption | exact xg_eq | exact xn_eq (by first | rfl | omega) | refine xg_ne (by first | assumption | omega | (simp only [xput, xnew]; omega)) ?_ | refine xn_ne (by first | assumption | omega | (simp only [xput, xnew]; omega)) ?_ | exact rfl), (by repeat first | assumption | exact xg_eq | exact xn_eq (by first | rfl | omega) | refine xg_ne (by first | assumption | omega | (simp only [xput, xnew]; omega)) ?_ | refine xn_ne (by first | assumption | omega | (simp only [xput, xnew]; omega)) ?_ | exact rfl), (by repeat first | assumption | exact xg_eq | exact xn_eq (by first | rfl | omega) | refine xg_ne (by first | assumption | omega | (simp only [xput, xnew]; omega)) ?_ | refine xn_ne (by first | assumption | omega | (simp only [xput, xnew]; omega)) ?_ | exact rfl), (by repeat first | assumption | exact xg_eq | exact xn_eq (by first | rfl | omega) | refine xg_ne (by first | assumption | omega | (simp only [xput, xnew]; omega)) ?_ | refine xn_ne (by first | assumption | omega | (simp only [xput, xnew]; omega)) ?_ | exact rfl), (by repeat first | assumption | exact xg_eq | exact xn_eq (by first | rfl | omega) | refine xg_ne (by first | assumption | omega | (simp only [xput, xnew]; omega)) ?_ | refine xn_ne (by first | assumption | omega | (simp only [xput, xnew]; omega)) ?_ | exact rfl), (by repeat first | assumption | exact xg_eq | exact xn_eq (by first | rfl | omega) | refine xg_ne (by first | assumption | omega | (simp only [xput, xnew]; omega)) ?_ | refine xn_ne (by first | assumption | omega | (simp only [xput, xnew]; omega)) ?_ | exact rfl), (by repeat first | assumption | exact xg_eq | exact xn_eq (by first | rfl | omega) | refine xg_ne (by first | assumption | omega | (simp only [xput, xnew]; omega)) ?_ | refine xn_ne (by first | assumption | omega | (simp only [xput, xnew]; omega)) ?_ | exact rfl), g8⟩, (by repeat first | assumption | exact xg_eq | exact xn_eq (by first | rfl | omega) | refine xg_ne (by first | assumption | omega | (simp only [xput, xnew]; omega)) ?_ | refine xn_ne (by first | assumption | omega | (simp only [xput, xnew]; omega)) ?_ | exact rfl), (by repeat first | assumption | exact xg_eq | exact xn_eq (by first | rfl | omega) | refine xg_ne (by first | assumption | omega | (simp only [xput, xnew]; omega)) ?_ | refine xn_ne (by first | assumption | omega | (simp only [xput, xnew]; omega)) ?_ | exact rfl), h5⟩ (ht.mv (by repeat first | assumption | exact xg_eq | exact xn_eq (by first | rfl | omega) | refine xg_ne (by first | assumption | omega | (simp only [xput, xnew]; omega)) ?_ | refine xn_ne (by first | assumption | omega | (simp only [xput, xnew]; omega)) ?_ | exact rfl) (by repeat first | assumption | exact xg_eq | exact xn_eq (by first | rfl | omega) | refine xg_ne (by first | assumption | omega | (simp only [xput, xnew]; omega)) ?_ | refine xn_ne (by first | assumption | omega | (simp only [xput, xnew]; omega)) ?_ | exact rfl))
theorem c_MA_aimAnywhere (hE : xOK E) {ta tr n : Nat} {ts : List Int32} (hm : Ma E h m q fi F G len) (hw : pWf q) (ht : SgL E h ta tr n ts) (ha : ta < m ∨ m + 9 < ta) (hr : tr < m ∨ m + 9 < tr) :
    wpc E 3 m_MA_aimAnywhere [.ref m, .ref ta] h (fun r' h' => r' = none ∧ xfr [m, m + 8, m + 9] h h' ∧ Ma E h' m q fi (amF q ts F q.1) (aimG q ts F G (-1)) ts.length) := by
  have w := hm.1
  refine wpc_of rfl (Nat.le_of_ble_eq_true rfl) ?_
  refine wp_aload_n d_MA_aimAnywhere_0 rfl rfl ?_
  refine wp_aload_n d_MA_aimAnywhere_1 rfl rfl ?_
  refine wp_iconst (v := (-1)) d_MA_aimAnywhere_2 (by rfl) ?_
  refine wp_callV2 xc_MA_29 d_MA_aimAnywhere_3 (Nat.le_of_ble_eq_true rfl) (by repeat first | assumption | exact xg_eq | exact xn_eq (by first | rfl | omega) | refine xg_ne (by first | assumption | omega | (simp only [xput, xnew]; omega)) ?_ | refine xn_ne (by first | assumption | omega | (simp only [xput, xnew]; omega)) ?_ | exact rfl) (c_MA_aim hE hm hw ht ha hr _) (by omega) (fun r hh hp => ?_)
  obtain ⟨rfl, rest⟩ := hp
  refine wp_return d_MA_aimAnywhere_6 rfl ?_
  exact ⟨rfl, rest⟩
theorem c_MA_aimAt (hE : xOK E) {ta tr n : Nat} {ts : List Int32} (hm : Ma E h m q fi F G len) (hw : pWf q) (ht : SgL E h ta tr n ts) (ha : ta < m ∨ m + 9 < ta) (hr : tr < m ∨ m + 9 < tr) (e : Int32) :
    wpc E 3 m_MA_aimAt [.ref m, .ref ta, .int e] h (fun r' h' => r' = none ∧ xfr [m, m + 8, m + 9] h h' ∧ Ma E h' m q fi (amF q ts F q.1) (aimG q ts F G ((1 : Int32) <<< (e &&& 31))) ts.length) := by
  have w := hm.1
  refine wpc_of rfl (Nat.le_of_ble_eq_true rfl) ?_
  refine wp_aload_n d_MA_aimAt_0 rfl rfl ?_
  refine wp_aload_n d_MA_aimAt_1 rfl rfl ?_
  refine wp_iconst (v := 1) d_MA_aimAt_2 (by rfl) ?_
  refine wp_iload_n d_MA_aimAt_3 rfl rfl ?_
  refine wp_ishl d_MA_aimAt_4 ?_
  refine wp_callV2 xc_MA_29 d_MA_aimAt_5 (Nat.le_of_ble_eq_true rfl) (by repeat first | assumption | exact xg_eq | exact xn_eq (by first | rfl | omega) | refine xg_ne (by first | assumption | omega | (simp only [xput, xnew]; omega)) ?_ | refine xn_ne (by first | assumption | omega | (simp only [xput, xnew]; omega)) ?_ | exact rfl) (c_MA_aim hE hm hw ht ha hr _) (by omega) (fun r hh hp => ?_)
  obtain ⟨rfl, rest⟩ := hp
  refine wp_return d_MA_aimAt_8 rfl ?_
  exact ⟨rfl, rest⟩
theorem c_MA_load (hE : xOK E) {lo hi c N : Nat} {x : Ch N} (hm : Ma E h m q fi F G len) (hlo : m + 9 < lo) (ht : tT N h lo hi c x) :
    wpc E (5 + 5 * N) m_MA_load [.ref m, .ref c] h (fun r' h' => r' = none ∧ xfr (pS (m + 1)) h h' ∧ Ma E h' m (gBld N x q).2 (gBld N x q).1 F G len) := by
  obtain ⟨h1, h2, h3, h4, h5⟩ := id hm
  have w2 := h2.1
  refine wpc_of rfl (Nat.le_of_ble_eq_true rfl) ?_
  refine wp_aload_n d_MA_load_0 rfl rfl ?_
  refine wp_get xf_MA_12 d_MA_load_1 (by repeat first | assumption | exact xg_eq | exact xn_eq (by first | rfl | omega) | refine xg_ne (by first | assumption | omega | (simp only [xput, xnew]; omega)) ?_ | refine xn_ne (by first | assumption | omega | (simp only [xput, xnew]; omega)) ?_ | exact rfl) (by rfl) ?_
  refine wp_aload_n d_MA_load_4 rfl rfl ?_
  refine wp_callV1 xc_MA_25 d_MA_load_5 (Nat.le_of_ble_eq_true rfl) (by repeat first | assumption | exact xg_eq | exact xn_eq (by first | rfl | omega) | refine xg_ne (by first | assumption | omega | (simp only [xput, xnew]; omega)) ?_ | refine xn_ne (by first | assumption | omega | (simp only [xput, xnew]; omega)) ?_ | exact rfl) (c_PR_build hE h2 (by omega) ht) (by omega) (fun r h6 hp => ?_)
  obtain ⟨rfl, f6, p6, b6⟩ := hp
  refine wp_return d_MA_load_8 rfl ?_
  exact ⟨rfl, f6, f6.at (by simp only [pS, List.mem_cons, List.not_mem_nil, or_false, not_or]; omega) h1, p6, f6.at (by simp only [pS, List.mem_cons, List.not_mem_nil, or_false, not_or]; omega) h3, f6.at (by simp only [pS, List.mem_cons, List.not_mem_nil, or_false, not_or]; omega) h4, b6⟩
end MB
