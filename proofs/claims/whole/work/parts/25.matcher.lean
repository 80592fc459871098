def bit64 (w : Int64) (k : Int32) : Bool := decide (((w.toUInt64 >>> (k.toInt64.toUInt64 &&& Int64.toUInt64 63)).toInt64 &&& 1) = 1)
def pTk (q : PS0) (st : Nat) (x : Int32) : Bool := if x < 64 then bit64 (q.2.2.2.2.2.1 st) x else bit64 (q.2.2.2.2.2.2 st) (x - 64)
def pWf (q : PS0) : Prop := (∀ k, q.2.1 k ≤ 5) ∧ (∀ k, q.2.2.1 k ≤ 120) ∧ (∀ k, q.2.2.2.1 k ≤ 120) ∧ q.1 ≤ 121
def Ma (E : xE) (h : xH) (m : Nat) (q : PS0) (fi : Nat) (F G : Nat → Int32) (len : Nat) : Prop := h.2.2 m = some (ob 3 [.ref (m + 1), .ref (m + 8), .ref (m + 9), .int (nI len)]) ∧ Pg E h (m + 1) q fi ∧ h.2.2 (m + 8) = some (aI E 121 F) ∧ h.2.2 (m + 9) = some (aI E 121 G) ∧ fi ≤ 120
def lof (G : Nat → Int32) (st : Nat) (x : Int32) : Bool := decide ((((G st).toUInt32 >>> (x.toUInt32 &&& Int32.toUInt32 31)).toInt32 &&& 1) = 1)
def ldP (q : PS0) (F G : Nat → Int32) (len : Nat) (ends : Int32) (st : Nat) : Int32 :=
  let b := G (q.2.2.1 st)
  if q.2.1 st = 0 then ends
  else if q.2.1 st = 1 then (b.toUInt32 >>> ((1 : Int32).toUInt32 &&& Int32.toUInt32 31)).toInt32 &&& F st
  else if q.2.1 st = 2 then b &&& 1
  else if q.2.1 st = 3 then b &&& ((1 : Int32) <<< (nI len &&& 31))
  else if q.2.1 st = 5 then b ||| G (q.2.2.2.1 st)
  else b
section MA
variable {E : xE} {h : xH} {m fi len : Nat} {q : PS0} {F G : Nat → Int32}
theorem c_PR_takes (hE : xOK E) {p : Nat} (hp : Pg E h p q fi) {st : Nat} (hst : st ≤ 120) (x : Int32) : wpc E 0 m_PR_takes [.ref p, .int (nI st), .int x] h (fun r' h' => r' = some (.int (bI (pTk q st x))) ∧ h' = h) := by
  obtain ⟨h1, h2, h3, h4, h5, h6, h7, h8⟩ := hp
  have fin : ∀ w : Int64, pTk q st x = decide ((w &&& 1) = 1) → wp E 0 m_PR_takes 28 [(0, .ref p), (1, .int (nI st)), (2, .int x)] [.long w] h (fun r' h' => r' = some (.int (bI (pTk q st x))) ∧ h' = h) := by
    intro w hw
    rw [hw]
    refine wp_lstore_n d_PR_takes_28 rfl (by decide) rfl ?_
    refine wp_lload_n d_PR_takes_29 rfl rfl ?_
    refine wp_lconst (v := 1) d_PR_takes_30 (by rfl) ?_
    refine wp_land d_PR_takes_31 ?_
    refine wp_lconst (v := 1) d_PR_takes_32 (by rfl) ?_
    refine wp_lcmp d_PR_takes_33 ?_
    refine wp_if_ne (tgt := 41) d_PR_takes_34 (by decide) (fun hc => ?_) (fun hc => ?_)
    · rw [lg_cmp_eq] at hc
      refine wp_iconst (v := 0) d_PR_takes_41 (by rfl) ?_
      refine wp_ireturn d_PR_takes_42 rfl (by first | rfl | assumption) ?_
      rw [decide_eq_false hc]
      exact ⟨rfl, rfl⟩
    · rw [lg_cmp_eq] at hc
      refine wp_iconst (v := 1) d_PR_takes_37 (by rfl) ?_
      refine wp_goto (tgt := 42) d_PR_takes_38 (by decide) ?_
      refine wp_ireturn d_PR_takes_42 rfl (by first | rfl | assumption) ?_
      rw [decide_eq_true hc]
      exact ⟨rfl, rfl⟩
  refine wpc_of rfl (Nat.le_of_ble_eq_true rfl) ?_
  refine wp_iload_n d_PR_takes_0 rfl rfl ?_
  refine wp_bipush (v := 64) d_PR_takes_1 (by rfl) ?_
  refine wp_icmp_ge (tgt := 17) d_PR_takes_3 (by decide) (fun hc => ?_) (fun hc => ?_)
  · refine wp_aload_n d_PR_takes_17 rfl rfl ?_
    refine wp_get xf_PR_28 d_PR_takes_18 (by repeat first | assumption | exact xg_eq | exact xn_eq (by first | rfl | omega) | refine xg_ne (by first | assumption | omega | (simp only [xput, xnew]; omega)) ?_ | refine xn_ne (by first | assumption | omega | (simp only [xput, xnew]; omega)) ?_ | exact rfl) (by rfl) ?_
    refine wp_iload_n d_PR_takes_21 rfl rfl ?_
    refine wp_lald d_PR_takes_22 (by repeat first | assumption | exact xg_eq | exact xn_eq (by first | rfl | omega) | refine xg_ne (by first | assumption | omega | (simp only [xput, xnew]; omega)) ?_ | refine xn_ne (by first | assumption | omega | (simp only [xput, xnew]; omega)) ?_ | exact rfl) hE.j (vp_in_nI (by omega) (by omega)) ?_
    rw [nI_clamp (by omega)]
    refine wp_iload_n d_PR_takes_23 rfl rfl ?_
    refine wp_bipush (v := 64) d_PR_takes_24 (by rfl) ?_
    refine wp_isub d_PR_takes_26 ?_
    refine wp_lushr d_PR_takes_27 ?_
    exact fin _ (by rw [pTk, if_neg (Int32.not_lt.mpr hc), bit64])
  · refine wp_aload_n d_PR_takes_6 rfl rfl ?_
    refine wp_get xf_PR_24 d_PR_takes_7 (by repeat first | assumption | exact xg_eq | exact xn_eq (by first | rfl | omega) | refine xg_ne (by first | assumption | omega | (simp only [xput, xnew]; omega)) ?_ | refine xn_ne (by first | assumption | omega | (simp only [xput, xnew]; omega)) ?_ | exact rfl) (by rfl) ?_
    refine wp_iload_n d_PR_takes_10 rfl rfl ?_
    refine wp_lald d_PR_takes_11 (by repeat first | assumption | exact xg_eq | exact xn_eq (by first | rfl | omega) | refine xg_ne (by first | assumption | omega | (simp only [xput, xnew]; omega)) ?_ | refine xn_ne (by first | assumption | omega | (simp only [xput, xnew]; omega)) ?_ | exact rfl) hE.j (vp_in_nI (by omega) (by omega)) ?_
    rw [nI_clamp (by omega)]
    refine wp_iload_n d_PR_takes_12 rfl rfl ?_
    refine wp_lushr d_PR_takes_13 ?_
    refine wp_goto (tgt := 28) d_PR_takes_14 (by decide) ?_
    exact fin _ (by rw [pTk, if_pos (Int32.not_le.mp hc), bit64])
theorem c_MA_leadsOnFrom (hE : xOK E) (hm : Ma E h m q fi F G len) {st : Nat} (hst : st ≤ 120) (x : Int32) : wpc E 0 m_MA_leadsOnFrom [.ref m, .int (nI st), .int x] h (fun r' h' => r' = some (.int (bI (lof G st x))) ∧ h' = h) := by
  obtain ⟨h1, h2, h3, h4, h5⟩ := hm
  refine wpc_of rfl (Nat.le_of_ble_eq_true rfl) ?_
  refine wp_aload_n d_MA_leadsOnFrom_0 rfl rfl ?_
  refine wp_get xf_MA_22 d_MA_leadsOnFrom_1 (by repeat first | assumption | exact xg_eq | exact xn_eq (by first | rfl | omega) | refine xg_ne (by first | assumption | omega | (simp only [xput, xnew]; omega)) ?_ | refine xn_ne (by first | assumption | omega | (simp only [xput, xnew]; omega)) ?_ | exact rfl) (by rfl) ?_
  refine wp_iload_n d_MA_leadsOnFrom_4 rfl rfl ?_
  refine wp_iald d_MA_leadsOnFrom_5 (by repeat first | assumption | exact xg_eq | exact xn_eq (by first | rfl | omega) | refine xg_ne (by first | assumption | omega | (simp only [xput, xnew]; omega)) ?_ | refine xn_ne (by first | assumption | omega | (simp only [xput, xnew]; omega)) ?_ | exact rfl) hE.i (vp_in_nI (by omega) (by omega)) ?_
  rw [nI_clamp (by omega)]
  refine wp_iload_n d_MA_leadsOnFrom_6 rfl rfl ?_
  refine wp_iushr d_MA_leadsOnFrom_7 ?_
  refine wp_iconst (v := 1) d_MA_leadsOnFrom_8 (by rfl) ?_
  refine wp_iand d_MA_leadsOnFrom_9 ?_
  refine wp_iconst (v := 1) d_MA_leadsOnFrom_10 (by rfl) ?_
  refine wp_icmp_ne (tgt := 18) d_MA_leadsOnFrom_11 (by decide) (fun hc => ?_) (fun hc => ?_)
  · refine wp_iconst (v := 0) d_MA_leadsOnFrom_18 (by rfl) ?_
    refine wp_ireturn d_MA_leadsOnFrom_19 rfl (by first | rfl | assumption) ?_
    rw [lof, decide_eq_false hc]
    exact ⟨rfl, rfl⟩
  · refine wp_iconst (v := 1) d_MA_leadsOnFrom_14 (by rfl) ?_
    refine wp_goto (tgt := 19) d_MA_leadsOnFrom_15 (by decide) ?_
    refine wp_ireturn d_MA_leadsOnFrom_19 rfl (by first | rfl | assumption) ?_
    rw [lof, decide_eq_true hc]
    exact ⟨rfl, rfl⟩
theorem c_MA_leadsOn (hE : xOK E) (hm : Ma E h m q fi F G len) (x : Int32) : wpc E 1 m_MA_leadsOn [.ref m, .int x] h (fun r' h' => r' = some (.int (bI (lof G fi x))) ∧ h' = h) := by
  obtain ⟨h1, h2, h3, h4, h5⟩ := id hm
  have w2 := h2.1
  have z := bI_z (lof G fi x)
  refine wpc_of rfl (Nat.le_of_ble_eq_true rfl) ?_
  refine wp_aload_n d_MA_leadsOn_0 rfl rfl ?_
  refine wp_aload_n d_MA_leadsOn_1 rfl rfl ?_
  refine wp_get xf_MA_12 d_MA_leadsOn_2 (by repeat first | assumption | exact xg_eq | exact xn_eq (by first | rfl | omega) | refine xg_ne (by first | assumption | omega | (simp only [xput, xnew]; omega)) ?_ | refine xn_ne (by first | assumption | omega | (simp only [xput, xnew]; omega)) ?_ | exact rfl) (by rfl) ?_
  refine wp_get xf_MA_33 d_MA_leadsOn_5 (by repeat first | assumption | exact xg_eq | exact xn_eq (by first | rfl | omega) | refine xg_ne (by first | assumption | omega | (simp only [xput, xnew]; omega)) ?_ | refine xn_ne (by first | assumption | omega | (simp only [xput, xnew]; omega)) ?_ | exact rfl) (by rfl) ?_
  refine wp_iload_n d_MA_leadsOn_8 rfl rfl ?_
  refine wp_callV2 xc_MA_37 d_MA_leadsOn_9 (Nat.le_of_ble_eq_true rfl) (by repeat first | assumption | exact xg_eq | exact xn_eq (by first | rfl | omega) | refine xg_ne (by first | assumption | omega | (simp only [xput, xnew]; omega)) ?_ | refine xn_ne (by first | assumption | omega | (simp only [xput, xnew]; omega)) ?_ | exact rfl) (c_MA_leadsOnFrom hE hm h5 x) (by omega) (fun r hh hp => ?_)
  obtain ⟨rfl, hz0⟩ := hp; have hz0 := hz0.symm; subst hz0
  refine wp_ireturn d_MA_leadsOn_12 rfl (by first | rfl | assumption) ?_
  exact ⟨rfl, rfl⟩
theorem c_MA_leadingPlaces (hE : xOK E) (hm : Ma E h m q fi F G len) (hw : pWf q) {st : Nat} (hst : st ≤ 120) (ends : Int32) : wpc E 0 m_MA_leadingPlaces [.ref m, .int (nI st), .int ends] h (fun r' h' => r' = some (.int (ldP q F G len ends st)) ∧ h' = h) := by
  obtain ⟨h1, ⟨g1, g2, g3, g4, g5, g6, g7, g8⟩, h3, h4, h5⟩ := id hm
  have k1 := hw.1 st
  have k2 := hw.2.1 st
  have k3 := hw.2.2.1 st
  refine wpc_of rfl (Nat.le_of_ble_eq_true rfl) ?_
  refine wp_aload_n d_MA_leadingPlaces_0 rfl rfl ?_
  refine wp_get xf_MA_22 d_MA_leadingPlaces_1 (by repeat first | assumption | exact xg_eq | exact xn_eq (by first | rfl | omega) | refine xg_ne (by first | assumption | omega | (simp only [xput, xnew]; omega)) ?_ | refine xn_ne (by first | assumption | omega | (simp only [xput, xnew]; omega)) ?_ | exact rfl) (by rfl) ?_
  refine wp_aload_n d_MA_leadingPlaces_4 rfl rfl ?_
  refine wp_get xf_MA_12 d_MA_leadingPlaces_5 (by repeat first | assumption | exact xg_eq | exact xn_eq (by first | rfl | omega) | refine xg_ne (by first | assumption | omega | (simp only [xput, xnew]; omega)) ?_ | refine xn_ne (by first | assumption | omega | (simp only [xput, xnew]; omega)) ?_ | exact rfl) (by rfl) ?_
  refine wp_get xf_MA_86 d_MA_leadingPlaces_8 (by repeat first | assumption | exact xg_eq | exact xn_eq (by first | rfl | omega) | refine xg_ne (by first | assumption | omega | (simp only [xput, xnew]; omega)) ?_ | refine xn_ne (by first | assumption | omega | (simp only [xput, xnew]; omega)) ?_ | exact rfl) (by rfl) ?_
  refine wp_iload_n d_MA_leadingPlaces_11 rfl rfl ?_
  refine wp_iald d_MA_leadingPlaces_12 (by repeat first | assumption | exact xg_eq | exact xn_eq (by first | rfl | omega) | refine xg_ne (by first | assumption | omega | (simp only [xput, xnew]; omega)) ?_ | refine xn_ne (by first | assumption | omega | (simp only [xput, xnew]; omega)) ?_ | exact rfl) hE.i (vp_in_nI (by omega) (by omega)) ?_
  rw [nI_clamp (n := st) (by omega)]
  refine wp_iald d_MA_leadingPlaces_13 (by repeat first | assumption | exact xg_eq | exact xn_eq (by first | rfl | omega) | refine xg_ne (by first | assumption | omega | (simp only [xput, xnew]; omega)) ?_ | refine xn_ne (by first | assumption | omega | (simp only [xput, xnew]; omega)) ?_ | exact rfl) hE.i (vp_in_nI (by omega) (by omega)) ?_
  rw [nI_clamp (by omega)]
  refine wp_istore_n d_MA_leadingPlaces_14 rfl (by decide) rfl ?_
  refine wp_aload_n d_MA_leadingPlaces_15 rfl rfl ?_
  refine wp_get xf_MA_12 d_MA_leadingPlaces_16 (by repeat first | assumption | exact xg_eq | exact xn_eq (by first | rfl | omega) | refine xg_ne (by first | assumption | omega | (simp only [xput, xnew]; omega)) ?_ | refine xn_ne (by first | assumption | omega | (simp only [xput, xnew]; omega)) ?_ | exact rfl) (by rfl) ?_
  refine wp_get xf_MA_65 d_MA_leadingPlaces_19 (by repeat first | assumption | exact xg_eq | exact xn_eq (by first | rfl | omega) | refine xg_ne (by first | assumption | omega | (simp only [xput, xnew]; omega)) ?_ | refine xn_ne (by first | assumption | omega | (simp only [xput, xnew]; omega)) ?_ | exact rfl) (by rfl) ?_
  refine wp_iload_n d_MA_leadingPlaces_22 rfl rfl ?_
  refine wp_iald d_MA_leadingPlaces_23 (by repeat first | assumption | exact xg_eq | exact xn_eq (by first | rfl | omega) | refine xg_ne (by first | assumption | omega | (simp only [xput, xnew]; omega)) ?_ | refine xn_ne (by first | assumption | omega | (simp only [xput, xnew]; omega)) ?_ | exact rfl) hE.i (vp_in_nI (by omega) (by omega)) ?_
  rw [nI_clamp (n := st) (by omega)]
  have ti : (nI (q.2.1 st)).toInt = (q.2.1 st : Int) := nI_toInt (by omega)
  rcases (show q.2.1 st = 0 ∨ q.2.1 st = 1 ∨ q.2.1 st = 2 ∨ q.2.1 st = 3 ∨ q.2.1 st = 4 ∨ q.2.1 st = 5 by omega) with e | e | e | e | e | e
  · refine wp_tableIn (off := 40) (tgt := 64) d_MA_leadingPlaces_24 (by rw [ti]; omega) (by rw [ti]; omega) (by rw [ti, e]; rfl) (by decide) ?_
    refine wp_iload_n d_MA_leadingPlaces_64 rfl rfl ?_
    refine wp_ireturn d_MA_leadingPlaces_65 rfl (by first | rfl | assumption) ?_
    simp only [ldP, e]
    exact ⟨rfl, trivial⟩
  · refine wp_tableIn (off := 42) (tgt := 66) d_MA_leadingPlaces_24 (by rw [ti]; omega) (by rw [ti]; omega) (by rw [ti, e]; rfl) (by decide) ?_
    refine wp_iload_n d_MA_leadingPlaces_66 rfl rfl ?_
    refine wp_iconst (v := 1) d_MA_leadingPlaces_67 (by rfl) ?_
    refine wp_iushr d_MA_leadingPlaces_68 ?_
    refine wp_aload_n d_MA_leadingPlaces_69 rfl rfl ?_
    refine wp_get xf_MA_18 d_MA_leadingPlaces_70 (by repeat first | assumption | exact xg_eq | exact xn_eq (by first | rfl | omega) | refine xg_ne (by first | assumption | omega | (simp only [xput, xnew]; omega)) ?_ | refine xn_ne (by first | assumption | omega | (simp only [xput, xnew]; omega)) ?_ | exact rfl) (by rfl) ?_
    refine wp_iload_n d_MA_leadingPlaces_73 rfl rfl ?_
    refine wp_iald d_MA_leadingPlaces_74 (by repeat first | assumption | exact xg_eq | exact xn_eq (by first | rfl | omega) | refine xg_ne (by first | assumption | omega | (simp only [xput, xnew]; omega)) ?_ | refine xn_ne (by first | assumption | omega | (simp only [xput, xnew]; omega)) ?_ | exact rfl) hE.i (vp_in_nI (by omega) (by omega)) ?_
    rw [nI_clamp (n := st) (by omega)]
    refine wp_iand d_MA_leadingPlaces_75 ?_
    refine wp_ireturn d_MA_leadingPlaces_76 rfl (by first | rfl | assumption) ?_
    simp only [ldP, e]
    exact ⟨rfl, trivial⟩
  · refine wp_tableIn (off := 53) (tgt := 77) d_MA_leadingPlaces_24 (by rw [ti]; omega) (by rw [ti]; omega) (by rw [ti, e]; rfl) (by decide) ?_
    refine wp_iload_n d_MA_leadingPlaces_77 rfl rfl ?_
    refine wp_iconst (v := 1) d_MA_leadingPlaces_78 (by rfl) ?_
    refine wp_iand d_MA_leadingPlaces_79 ?_
    refine wp_ireturn d_MA_leadingPlaces_80 rfl (by first | rfl | assumption) ?_
    simp only [ldP, e]
    exact ⟨rfl, trivial⟩
  · refine wp_tableIn (off := 57) (tgt := 81) d_MA_leadingPlaces_24 (by rw [ti]; omega) (by rw [ti]; omega) (by rw [ti, e]; rfl) (by decide) ?_
    refine wp_iload_n d_MA_leadingPlaces_81 rfl rfl ?_
    refine wp_iconst (v := 1) d_MA_leadingPlaces_82 (by rfl) ?_
    refine wp_aload_n d_MA_leadingPlaces_83 rfl rfl ?_
    refine wp_get xf_MA_46 d_MA_leadingPlaces_84 (by repeat first | assumption | exact xg_eq | exact xn_eq (by first | rfl | omega) | refine xg_ne (by first | assumption | omega | (simp only [xput, xnew]; omega)) ?_ | refine xn_ne (by first | assumption | omega | (simp only [xput, xnew]; omega)) ?_ | exact rfl) (by rfl) ?_
    refine wp_ishl d_MA_leadingPlaces_87 ?_
    refine wp_iand d_MA_leadingPlaces_88 ?_
    refine wp_ireturn d_MA_leadingPlaces_89 rfl (by first | rfl | assumption) ?_
    simp only [ldP, e]
    exact ⟨rfl, trivial⟩
  · refine wp_tableIn (off := 83) (tgt := 107) d_MA_leadingPlaces_24 (by rw [ti]; omega) (by rw [ti]; omega) (by rw [ti, e]; rfl) (by decide) ?_
    refine wp_iload_n d_MA_leadingPlaces_107 rfl rfl ?_
    refine wp_ireturn d_MA_leadingPlaces_108 rfl (by first | rfl | assumption) ?_
    simp only [ldP, e]
    exact ⟨rfl, trivial⟩
  · refine wp_tableIn (off := 66) (tgt := 90) d_MA_leadingPlaces_24 (by rw [ti]; omega) (by rw [ti]; omega) (by rw [ti, e]; rfl) (by decide) ?_
    refine wp_iload_n d_MA_leadingPlaces_90 rfl rfl ?_
    refine wp_aload_n d_MA_leadingPlaces_91 rfl rfl ?_
    refine wp_get xf_MA_22 d_MA_leadingPlaces_92 (by repeat first | assumption | exact xg_eq | exact xn_eq (by first | rfl | omega) | refine xg_ne (by first | assumption | omega | (simp only [xput, xnew]; omega)) ?_ | refine xn_ne (by first | assumption | omega | (simp only [xput, xnew]; omega)) ?_ | exact rfl) (by rfl) ?_
    refine wp_aload_n d_MA_leadingPlaces_95 rfl rfl ?_
    refine wp_get xf_MA_12 d_MA_leadingPlaces_96 (by repeat first | assumption | exact xg_eq | exact xn_eq (by first | rfl | omega) | refine xg_ne (by first | assumption | omega | (simp only [xput, xnew]; omega)) ?_ | refine xn_ne (by first | assumption | omega | (simp only [xput, xnew]; omega)) ?_ | exact rfl) (by rfl) ?_
    refine wp_get xf_MA_89 d_MA_leadingPlaces_99 (by repeat first | assumption | exact xg_eq | exact xn_eq (by first | rfl | omega) | refine xg_ne (by first | assumption | omega | (simp only [xput, xnew]; omega)) ?_ | refine xn_ne (by first | assumption | omega | (simp only [xput, xnew]; omega)) ?_ | exact rfl) (by rfl) ?_
    refine wp_iload_n d_MA_leadingPlaces_102 rfl rfl ?_
    refine wp_iald d_MA_leadingPlaces_103 (by repeat first | assumption | exact xg_eq | exact xn_eq (by first | rfl | omega) | refine xg_ne (by first | assumption | omega | (simp only [xput, xnew]; omega)) ?_ | refine xn_ne (by first | assumption | omega | (simp only [xput, xnew]; omega)) ?_ | exact rfl) hE.i (vp_in_nI (by omega) (by omega)) ?_
    rw [nI_clamp (n := st) (by omega)]
    refine wp_iald d_MA_leadingPlaces_104 (by repeat first | assumption | exact xg_eq | exact xn_eq (by first | rfl | omega) | refine xg_ne (by first | assumption | omega | (simp only [xput, xnew]; omega)) ?_ | refine xn_ne (by first | assumption | omega | (simp only [xput, xnew]; omega)) ?_ | exact rfl) hE.i (vp_in_nI (by omega) (by omega)) ?_
    rw [nI_clamp (by omega)]
    refine wp_ior d_MA_leadingPlaces_105 ?_
    refine wp_ireturn d_MA_leadingPlaces_106 rfl (by first | rfl | assumption) ?_
    simp only [ldP, e]
    exact ⟨rfl, trivial⟩
def spS (q : PS0) (F : Nat → Int32) (len : Nat) (ends : Int32) (s : (Nat → Int32) × Bool) (st : Nat) : (Nat → Int32) × Bool := (upd s.1 st (ldP q F s.1 len ends st), s.2 || !decide (ldP q F s.1 len ends st = s.1 st))
def spR (q : PS0) (F : Nat → Int32) (len : Nat) (ends : Int32) (G : Nat → Int32) : (Nat → Int32) × Bool := (List.range q.1).foldl (spS q F len ends) (G, false)
theorem c_MA_spread (hE : xOK E) (hm : Ma E h m q fi F G len) (hw : pWf q) (ends : Int32) : wpc E 1 m_MA_spread [.ref m, .int ends] h (fun r' h' => r' = some (.int (bI (spR q F len ends G).2)) ∧ xfr [m + 9] h h' ∧ Ma E h' m q fi F (spR q F len ends G).1 len) := by
  have hq := hw.2.2.2
  have lp : ∀ (k i : Nat) (h2 : xH) (s : (Nat → Int32) × Bool) (z : List (Nat × Value)), k + i = q.1 → (List.range q.1).foldl (spS q F len ends) (G, false) = ((List.range q.1).drop i).foldl (spS q F len ends) s → xfr [m + 9] h h2 → Ma E h2 m q fi F s.1 len →
      wp E 1 m_MA_spread 4 ([(0, .ref m), (1, .int ends), (2, .int (bI s.2)), (3, .int (nI i))] ++ z) [] h2 (fun r' h' => r' = some (.int (bI (spR q F len ends G).2)) ∧ xfr [m + 9] h h' ∧ Ma E h' m q fi F (spR q F len ends G).1 len) := by
    intro k
    induction k with
    | zero =>
      intro i h2 s z hi hs f2 m2
      have hi : i = q.1 := by omega
      subst hi
      obtain ⟨h1, ⟨g1, g2, g3, g4, g5, g6, g7, g8⟩, h3, h4, h5⟩ := id m2
      have zz := bI_z s.2
      refine wp_lo (lo' := [(0, .ref m), (1, .int ends), (2, .int (bI s.2)), (3, .int (nI q.1))]) (fun z hz => List.mem_append_left _ hz) ?_
      refine wp_iload_n d_MA_spread_4 rfl rfl ?_
      refine wp_aload_n d_MA_spread_5 rfl rfl ?_
      refine wp_get xf_MA_12 d_MA_spread_6 (by repeat first | assumption | exact xg_eq | exact xn_eq (by first | rfl | omega) | refine xg_ne (by first | assumption | omega | (simp only [xput, xnew]; omega)) ?_ | refine xn_ne (by first | assumption | omega | (simp only [xput, xnew]; omega)) ?_ | exact rfl) (by rfl) ?_
      refine wp_get xf_MA_62 d_MA_spread_9 (by repeat first | assumption | exact xg_eq | exact xn_eq (by first | rfl | omega) | refine xg_ne (by first | assumption | omega | (simp only [xput, xnew]; omega)) ?_ | refine xn_ne (by first | assumption | omega | (simp only [xput, xnew]; omega)) ?_ | exact rfl) (by rfl) ?_
      refine wp_icmp_ge (tgt := 58) d_MA_spread_12 (by decide) (fun hc => ?_) (fun hc => ?_)
      · refine wp_iload_n d_MA_spread_58 rfl rfl ?_
        refine wp_ireturn d_MA_spread_59 rfl (by first | rfl | assumption) ?_
        rw [List.drop_of_length_le (by simp)] at hs
        rw [spR, hs]
        exact ⟨rfl, f2, m2⟩
      · exact absurd (Int32.le_refl _) hc
    | succ k ih =>
      intro i h2 s z hi hs f2 m2
      obtain ⟨h1, ⟨g1, g2, g3, g4, g5, g6, g7, g8⟩, h3, h4, h5⟩ := id m2
      have hs2 : (List.range q.1).foldl (spS q F len ends) (G, false) = ((List.range q.1).drop (i + 1)).foldl (spS q F len ends) (spS q F len ends s i) := by
        rw [hs, List.drop_eq_getElem_cons (by simp; omega), List.foldl_cons, List.getElem_range]
      refine wp_lo (lo' := [(0, .ref m), (1, .int ends), (2, .int (bI s.2)), (3, .int (nI i))]) (fun z hz => List.mem_append_left _ hz) ?_
      refine wp_iload_n d_MA_spread_4 rfl rfl ?_
      refine wp_aload_n d_MA_spread_5 rfl rfl ?_
      refine wp_get xf_MA_12 d_MA_spread_6 (by repeat first | assumption | exact xg_eq | exact xn_eq (by first | rfl | omega) | refine xg_ne (by first | assumption | omega | (simp only [xput, xnew]; omega)) ?_ | refine xn_ne (by first | assumption | omega | (simp only [xput, xnew]; omega)) ?_ | exact rfl) (by rfl) ?_
      refine wp_get xf_MA_62 d_MA_spread_9 (by repeat first | assumption | exact xg_eq | exact xn_eq (by first | rfl | omega) | refine xg_ne (by first | assumption | omega | (simp only [xput, xnew]; omega)) ?_ | refine xn_ne (by first | assumption | omega | (simp only [xput, xnew]; omega)) ?_ | exact rfl) (by rfl) ?_
      refine wp_icmp_ge (tgt := 58) d_MA_spread_12 (by decide) (fun hc => ?_) (fun hc => ?_)
      · exact absurd hc (nI_ge (by omega) (by omega))
      · refine wp_aload_n d_MA_spread_15 rfl rfl ?_
        refine wp_iload_n d_MA_spread_16 rfl rfl ?_
        refine wp_iload_n d_MA_spread_17 rfl rfl ?_
        refine wp_callV2 xc_MA_82 d_MA_spread_18 (Nat.le_of_ble_eq_true rfl) (by repeat first | assumption | exact xg_eq | exact xn_eq (by first | rfl | omega) | refine xg_ne (by first | assumption | omega | (simp only [xput, xnew]; omega)) ?_ | refine xn_ne (by first | assumption | omega | (simp only [xput, xnew]; omega)) ?_ | exact rfl) (c_MA_leadingPlaces hE m2 hw (by omega) ends) (by omega) (fun r hh hp => ?_)
        obtain ⟨rfl, hz0⟩ := hp; have hz0 := hz0.symm; subst hz0
        have fin : ∀ b : Bool, b = (s.2 || !decide (ldP q F s.1 len ends i = s.1 i)) → wp E 1 m_MA_spread 43 [(0, .ref m), (1, .int ends), (2, .int (bI s.2)), (3, .int (nI i)), (4, .int (ldP q F s.1 len ends i))] [.int (bI b)] h2 (fun r' h' => r' = some (.int (bI (spR q F len ends G).2)) ∧ xfr [m + 9] h h' ∧ Ma E h' m q fi F (spR q F len ends G).1 len) := by
          intro b hb
          subst hb
          refine wp_istore_n d_MA_spread_43 rfl (by decide) rfl ?_
          refine wp_aload_n d_MA_spread_44 rfl rfl ?_
          refine wp_get xf_MA_22 d_MA_spread_45 (by repeat first | assumption | exact xg_eq | exact xn_eq (by first | rfl | omega) | refine xg_ne (by first | assumption | omega | (simp only [xput, xnew]; omega)) ?_ | refine xn_ne (by first | assumption | omega | (simp only [xput, xnew]; omega)) ?_ | exact rfl) (by rfl) ?_
          refine wp_iload_n d_MA_spread_48 rfl rfl ?_
          refine wp_iload d_MA_spread_49 rfl ?_
          refine wp_iast d_MA_spread_51 (by repeat first | assumption | exact xg_eq | exact xn_eq (by first | rfl | omega) | refine xg_ne (by first | assumption | omega | (simp only [xput, xnew]; omega)) ?_ | refine xn_ne (by first | assumption | omega | (simp only [xput, xnew]; omega)) ?_ | exact rfl) hE.i (vp_in_nI (by omega) (by omega)) ?_
          rw [nI_clamp (n := i) (by omega)]
          refine wp_iinc d_MA_spread_52 rfl rfl (by decide) rfl ?_
          refine wp_goto (tgt := 4) d_MA_spread_55 (by decide) ?_
          rw [show nI i + Int32.ofInt 1 = nI (i + 1) from (nI_succ i).symm]
          exact ih (i + 1) _ (spS q F len ends s i) [(4, _)] (by omega) hs2 (f2.put (by simp)) ⟨(by repeat first | assumption | exact xg_eq | exact xn_eq (by first | rfl | omega) | refine xg_ne (by first | assumption | omega | (simp only [xput, xnew]; omega)) ?_ | refine xn_ne (by first | assumption | omega | (simp only [xput, xnew]; omega)) ?_ | exact rfl), ⟨(by repeat first | assumption | exact xg_eq | exact xn_eq (by first | rfl | omega) | refine xg_ne (by first | assumption | omega | (simp only [xput, xnew]; omega)) ?_ | refine xn_ne (by first | assumption | omega | (simp only [xput, xnew]; omega)) ?_ | exact rfl), (by repeat first | assumption | exact xg_eq | exact xn_eq (by first | rfl | omega) | refine xg_ne (by first | assumption | omega | (simp only [xput, xnew]; omega)) ?_ | refine xn_ne (by first | assumption | omega | (simp only [xput, xnew]; omega)) ?_ | exact rfl), (by repeat first | assumption | exact xg_eq | exact xn_eq (by first | rfl | omega) | refine xg_ne (by first | assumption | omega | (simp only [xput, xnew]; omega)) ?_ | refine xn_ne (by first | assumption | omega | (simp only [xput, xnew]; omega)) ?_ | exact rfl), (by repeat first | assumption | exact xg_eq | exact xn_eq (by first | rfl | omega) | refine xg_ne (by first | assumption | omega | (simp only [xput, xnew]; omega)) ?_ | refine xn_ne (by first | assumption | omega | (simp only [xput, xnew]; omega)) ?_ | exact rfl), (by repeat first | assumption | exact xg_eq | exact xn_eq (by first | rfl | omega) | refine xg_ne (by first | assumption | omega | (simp only [xput, xnew]; omega)) ?_ | refine xn_ne (by first | assumption | omega | (simp only [xput, xnew]; omega)) ?_ | exact rfl), (by repeat first | assumption | exact xg_eq | exact xn_eq (by first | rfl | omega) | refine xg_ne (by first | assumption | omega | (simp only [xput, xnew]; omega)) ?_ | refine xn_ne (by first | assumption | omega | (simp only [xput, xnew]; omega)) ?_ | exact rfl), (by repeat first | assumption | exact xg_eq | exact xn_eq (by first | rfl | omega) | refine xg_ne (by first | assumption | omega | (simp only [xput, xnew]; omega)) ?_ | refine xn_ne (by first | assumption | omega | (simp only [xput, xnew]; omega)) ?_ | exact rfl), g8⟩, (by repeat first | assumption | exact xg_eq | exact xn_eq (by first | rfl | omega) | refine xg_ne (by first | assumption | omega | (simp only [xput, xnew]; omega)) ?_ | refine xn_ne (by first | assumption | omega | (simp only [xput, xnew]; omega)) ?_ | exact rfl), (by repeat first | assumption | exact xg_eq | exact xn_eq (by first | rfl | omega) | refine xg_ne (by first | assumption | omega | (simp only [xput, xnew]; omega)) ?_ | refine xn_ne (by first | assumption | omega | (simp only [xput, xnew]; omega)) ?_ | exact rfl), h5⟩
        refine wp_istore d_MA_spread_21 (by decide) rfl ?_
        refine wp_iload_n d_MA_spread_23 rfl rfl ?_
        refine wp_if_ne (tgt := 38) d_MA_spread_24 (by decide) (fun hc2 => ?_) (fun hc2 => ?_)
        · rw [bI_0] at hc2
          refine wp_iconst (v := 1) d_MA_spread_38 (by rfl) ?_
          refine wp_goto (tgt := 43) d_MA_spread_39 (by decide) ?_
          exact fin true (by rw [b_t hc2]; rfl)
        · rw [bI_0] at hc2
          refine wp_iload d_MA_spread_27 rfl ?_
          refine wp_aload_n d_MA_spread_29 rfl rfl ?_
          refine wp_get xf_MA_22 d_MA_spread_30 (by repeat first | assumption | exact xg_eq | exact xn_eq (by first | rfl | omega) | refine xg_ne (by first | assumption | omega | (simp only [xput, xnew]; omega)) ?_ | refine xn_ne (by first | assumption | omega | (simp only [xput, xnew]; omega)) ?_ | exact rfl) (by rfl) ?_
          refine wp_iload_n d_MA_spread_33 rfl rfl ?_
          refine wp_iald d_MA_spread_34 (by repeat first | assumption | exact xg_eq | exact xn_eq (by first | rfl | omega) | refine xg_ne (by first | assumption | omega | (simp only [xput, xnew]; omega)) ?_ | refine xn_ne (by first | assumption | omega | (simp only [xput, xnew]; omega)) ?_ | exact rfl) hE.i (vp_in_nI (by omega) (by omega)) ?_
          rw [nI_clamp (n := i) (by omega)]
          refine wp_icmp_eq (tgt := 42) d_MA_spread_35 (by decide) (fun hc3 => ?_) (fun hc3 => ?_)
          · refine wp_iconst (v := 0) d_MA_spread_42 (by rfl) ?_
            exact fin false (by rw [hc2, decide_eq_true hc3]; rfl)
          · refine wp_iconst (v := 1) d_MA_spread_38 (by rfl) ?_
            refine wp_goto (tgt := 43) d_MA_spread_39 (by decide) ?_
            exact fin true (by rw [hc2, decide_eq_false hc3]; rfl)
  refine wpc_of rfl (Nat.le_of_ble_eq_true rfl) ?_
  refine wp_iconst (v := 0) d_MA_spread_0 (by rfl) ?_
  refine wp_istore_n d_MA_spread_1 rfl (by decide) rfl ?_
  refine wp_iconst (v := 0) d_MA_spread_2 (by rfl) ?_
  refine wp_istore_n d_MA_spread_3 rfl (by decide) rfl ?_
  exact lp q.1 0 h (G, false) [] rfl rfl xfr.rf hm
end MA
