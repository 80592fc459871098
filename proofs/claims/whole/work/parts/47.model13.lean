abbrev SM : Type := Nat → Option (Nat × (Nat → Nat))
def smOK (P T : List Int32) (l : Cd) (sm : SM) : Prop := ∀ fr tr, fr ≤ T.length → (∀ j, j < 4030 → tr j = false) →
  (∀ q, sm fr = some q → (wyR P T l (-1) fr tr).1 = some q.1 ∧ (∀ j, j < 14 → (wyR P T l (-1) fr tr).2 j = q.2 j) ∧ fr ≤ q.1 ∧ q.1 ≤ T.length) ∧ (sm fr = none → (wyR P T l (-1) fr tr).1 = none)
def srM (x : Nat) (q : Nat × (Nat → Nat)) : Nat → Nat := va_up (va_up q.2 0 (x + 1)) 1 (q.1 + 1)
def srR (sm : SM) : Nat → Nat → Option (Nat × Nat × (Nat → Nat))
  | 0, _ => none
  | k + 1, x => (match sm x with
    | some q => some (x, q.1, srM x q)
    | none => srR sm k (x + 1))
def srI : Option (Nat × Nat × (Nat → Nat)) → Int32
  | some q => nI q.1
  | none => -1
theorem srR_ok {sm : SM} : ∀ {k x : Nat} {q : Nat × Nat × (Nat → Nat)}, srR sm k x = some q → x ≤ q.1 ∧ q.1 < x + k ∧ ∃ q', sm q.1 = some q' ∧ q.2 = (q'.1, srM q.1 q')
  | 0, _, _, h => by cases h
  | k + 1, x, q, h => by
    rw [srR] at h
    cases hs : sm x with
    | some q' =>
      rw [hs] at h
      injection h with h
      rw [← h]
      exact ⟨Nat.le_refl _, by show x < x + (k + 1); omega, q', hs, rfl⟩
    | none =>
      rw [hs] at h
      have z := srR_ok h
      exact ⟨by omega, by omega, z.2.2⟩
section M13
variable {E : xE} {h : xH} {A : MA3} {B : MB} {w : WS} {D : MD} {sm : SM}
def srP (E : xE) (h : xH) (A : MA3) (B : MB) (w : WS) (D : MD) (R : Option (Nat × Nat × (Nat → Nat))) (r' : Option Value) (h' : xH) : Prop := r' = some (.int (srI R)) ∧ mfr E h h' ∧ ∃ tr S M, (∀ q, R = some q → mkF M q.2.2) ∧ MoW E h' A B w (tr, S, M, D.2.2.2)
theorem c_MO_search (hE : xOK E) (hm : MoW E h A B w D) (hok : cdOK A.1 w.1) (hsm : smOK A.1 A.2.1 w.1 sm) {fr : Nat} (hfr : fr ≤ A.2.1.length + 1) : wpc E 4 m_MO_search [.ref (xb E + 21), .int (nI fr)] h (fun r' h' => srP E h A B w D (srR sm (A.2.1.length + 1 - fr) fr) r' h') := by
  have hl : A.2.1.length ≤ 30 := by
    obtain ⟨s, o, t, -, -, m⟩ := hm
    exact m.len.2.1
  have lp : ∀ (k x : Nat) (g : xH) (tr : Nat → Bool) (S M : Nat → Int32), k = A.2.1.length + 1 - x → x ≤ A.2.1.length + 1 → mfr E h g → MoW E g A B w (tr, S, M, D.2.2.2) → srR sm k x = srR sm (A.2.1.length + 1 - fr) fr → wp E 4 m_MO_search 2 [(0, .ref (xb E + 21)), (1, .int (nI fr)), (2, .int (nI x))] [] g (fun r' h' => srP E h A B w D (srR sm (A.2.1.length + 1 - fr) fr) r' h') := by
    intro k
    induction k with
    | zero =>
      intro x g tr S M hk hx fg mg hr
      have og := mg.obj
      refine wp_iload_n d_MO_search_2 rfl rfl ?_
      refine wp_aload_n d_MO_search_3 rfl rfl ?_
      refine wp_get xf_MO_164 d_MO_search_4 (by repeat first | exact xg_eq | exact xn_eq (by first | rfl | omega) | refine xg_ne (by first | omega | assumption | (simp only [xput, xnew]; omega)) ?_ | refine xn_ne (by first | omega | assumption | (simp only [xput, xnew]; omega)) ?_ | assumption | exact rfl) (by rfl) ?_
      refine wp_icmp_gt (tgt := 43) d_MO_search_7 (by decide) (fun hc => ?_) (fun hc => ?_)
      · refine wp_iconst (v := (-1)) d_MO_search_43 (by rfl) ?_
        refine wp_ireturn d_MO_search_44 rfl (by first | rfl | assumption) ?_
        rw [← hr]
        exact ⟨rfl, fg, tr, S, M, (fun q hq => nomatch hq), mg⟩
      · exact absurd (nI_lt (by omega) (by omega)) hc
    | succ k ih =>
      intro x g tr S M hk hx fg mg hr
      have og := mg.obj
      refine wp_iload_n d_MO_search_2 rfl rfl ?_
      refine wp_aload_n d_MO_search_3 rfl rfl ?_
      refine wp_get xf_MO_164 d_MO_search_4 (by repeat first | exact xg_eq | exact xn_eq (by first | rfl | omega) | refine xg_ne (by first | omega | assumption | (simp only [xput, xnew]; omega)) ?_ | refine xn_ne (by first | omega | assumption | (simp only [xput, xnew]; omega)) ?_ | assumption | exact rfl) (by rfl) ?_
      refine wp_icmp_gt (tgt := 43) d_MO_search_7 (by decide) (fun hc => ?_) (fun hc => ?_)
      · exact absurd hc (nI_nlt (by omega) (by omega))
      have hs := hsm x (filB 4030 tr) (by omega) (fun j hj => by rw [filB, if_pos hj])
      refine wp_aload_n d_MO_search_10 rfl rfl ?_
      refine wp_iload_n d_MO_search_11 rfl rfl ?_
      refine wp_iconst (v := (-1)) d_MO_search_12 (by rfl) ?_
      refine wp_callV2 xc_MO_170 d_MO_search_13 (Nat.le_of_ble_eq_true rfl) (by repeat first | exact xg_eq | exact xn_eq (by first | rfl | omega) | refine xg_ne (by first | omega | assumption | (simp only [xput, xnew]; omega)) ?_ | refine xn_ne (by first | omega | assumption | (simp only [xput, xnew]; omega)) ?_ | assumption | exact rfl) (c_MO_way hE mg hok (fr := x) (by omega) (-1)) (by omega) (fun r g2 hp => ?_)
      obtain ⟨rfl, f2, hb, tr2, S2, M2, hM2, m2⟩ := hp
      rw [srR] at hr
      cases hsx : sm x with
      | none =>
        rw [hsx] at hr
        rw [show (wyR A.1 A.2.1 w.1 (-1) x (filB 4030 (tr, S, M, D.2.2.2).1)).1 = none from hs.2 hsx]
        refine wp_istore_n d_MO_search_16 rfl (by decide) rfl ?_
        refine wp_iload_n d_MO_search_17 rfl rfl ?_
        refine wp_if_lt (tgt := 37) d_MO_search_18 (by decide) (fun hc2 => ?_) (fun hc2 => ?_)
        rotate_left
        · exact absurd (show (-1 : Int32) < 0 by decide) hc2
        refine wp_iinc d_MO_search_37 rfl rfl (by decide) rfl ?_
        refine wp_goto (tgt := 2) d_MO_search_40 (by decide) ?_
        refine wp_leq (lo' := [(0, .ref (xb E + 21)), (1, .int (nI fr)), (2, .int (nI (x + 1))), (3, .int (-1))]) (by rw [show nI x + Int32.ofInt 1 = nI (x + 1) from (nI_succ x).symm]; rfl) ?_
        refine wp_lo (lo' := [(0, .ref (xb E + 21)), (1, .int (nI fr)), (2, .int (nI (x + 1)))]) (fun z hz => List.mem_append_left ([(3, .int (-1))] : List (Nat × Value)) hz) ?_
        exact ih (x + 1) g2 tr2 S2 M2 (by omega) (by omega) (fg.tr f2) m2 hr
      | some q =>
        rw [hsx] at hr
        obtain ⟨e1, e2, e3, e4⟩ := hs.1 q hsx
        have e2 : ∀ j, j < 14 → (wyR A.1 A.2.1 w.1 (-1) x (filB 4030 (tr, S, M, D.2.2.2).1)).2 j = q.2 j := e2
        rw [show (wyR A.1 A.2.1 w.1 (-1) x (filB 4030 (tr, S, M, D.2.2.2).1)).1 = some q.1 from e1]
        refine wp_istore_n d_MO_search_16 rfl (by decide) rfl ?_
        refine wp_iload_n d_MO_search_17 rfl rfl ?_
        refine wp_if_lt (tgt := 37) d_MO_search_18 (by decide) (fun hc2 => ?_) (fun hc2 => ?_)
        · exact absurd hc2 (nI_pos (by omega))
        obtain ⟨s, o, t, hcd, hl0, hm1⟩ := m2
        obtain ⟨fp, ft, fo, qq, o21, a22, a23, a24, a25, a26, a27, a28, a29, a30, a31, a32, a33, a34, a35, a36, a37, a38, a39, a40⟩ := hm1
        refine wp_aload_n d_MO_search_21 rfl rfl ?_
        refine wp_get xf_MO_65 d_MO_search_22 (by repeat first | exact xg_eq | exact xn_eq (by first | rfl | omega) | refine xg_ne (by first | omega | assumption | (simp only [xput, xnew]; omega)) ?_ | refine xn_ne (by first | omega | assumption | (simp only [xput, xnew]; omega)) ?_ | assumption | exact rfl) (by rfl) ?_
        refine wp_iconst (v := 0) d_MO_search_25 (by rfl) ?_
        refine wp_iload_n d_MO_search_26 rfl rfl ?_
        rw [show (0 : Int32) = nI 0 from rfl]
        refine wp_iast d_MO_search_27 (by repeat first | exact xg_eq | exact xn_eq (by first | rfl | omega) | refine xg_ne (by first | omega | assumption | (simp only [xput, xnew]; omega)) ?_ | refine xn_ne (by first | omega | assumption | (simp only [xput, xnew]; omega)) ?_ | assumption | exact rfl) hE.i (vp_in_nI (by omega) (by omega)) ?_
        rw [nI_clamp (by omega)]
        refine wp_aload_n d_MO_search_28 rfl rfl ?_
        refine wp_get xf_MO_65 d_MO_search_29 (by repeat first | exact xg_eq | exact xn_eq (by first | rfl | omega) | refine xg_ne (by first | omega | assumption | (simp only [xput, xnew]; omega)) ?_ | refine xn_ne (by first | omega | assumption | (simp only [xput, xnew]; omega)) ?_ | assumption | exact rfl) (by rfl) ?_
        refine wp_iconst (v := 1) d_MO_search_32 (by rfl) ?_
        refine wp_iload_n d_MO_search_33 rfl rfl ?_
        rw [show (1 : Int32) = nI 1 from rfl]
        refine wp_iast d_MO_search_34 (by repeat first | exact xg_eq | exact xn_eq (by first | rfl | omega) | refine xg_ne (by first | omega | assumption | (simp only [xput, xnew]; omega)) ?_ | refine xn_ne (by first | omega | assumption | (simp only [xput, xnew]; omega)) ?_ | assumption | exact rfl) hE.i (vp_in_nI (by omega) (by omega)) ?_
        rw [nI_clamp (by omega)]
        refine wp_iload_n d_MO_search_35 rfl rfl ?_
        refine wp_ireturn d_MO_search_36 rfl (by first | rfl | assumption) ?_
        rw [← hr]
        refine ⟨rfl, ((fg.tr f2).put (by omega)).put (by omega), tr2, S2, upd (upd M2 0 (nI x)) 1 (wyI (some q.1)), ?_, s, o, t, hcd, hl0, ⟨fp, ft, fo, qq, (by first | (repeat (refine xg_ne (by omega) ?_)); first | exact xg_eq | exact o21), (by first | (repeat (refine xg_ne (by omega) ?_)); first | exact xg_eq | exact a22), (by first | (repeat (refine xg_ne (by omega) ?_)); first | exact xg_eq | exact a23), (by first | (repeat (refine xg_ne (by omega) ?_)); first | exact xg_eq | exact a24), (by first | (repeat (refine xg_ne (by omega) ?_)); first | exact xg_eq | exact a25), (by first | (repeat (refine xg_ne (by omega) ?_)); first | exact xg_eq | exact a26), (by first | (repeat (refine xg_ne (by omega) ?_)); first | exact xg_eq | exact a27), (by first | (repeat (refine xg_ne (by omega) ?_)); first | exact xg_eq | exact a28), (by first | (repeat (refine xg_ne (by omega) ?_)); first | exact xg_eq | exact a29), (by first | (repeat (refine xg_ne (by omega) ?_)); first | exact xg_eq | exact a30), (by first | (repeat (refine xg_ne (by omega) ?_)); first | exact xg_eq | exact a31), (by first | (repeat (refine xg_ne (by omega) ?_)); first | exact xg_eq | exact a32), (by first | (repeat (refine xg_ne (by omega) ?_)); first | exact xg_eq | exact a33), (by first | (repeat (refine xg_ne (by omega) ?_)); first | exact xg_eq | exact a34), (by first | (repeat (refine xg_ne (by omega) ?_)); first | exact xg_eq | exact a35), (by first | (repeat (refine xg_ne (by omega) ?_)); first | exact xg_eq | exact a36), (by first | (repeat (refine xg_ne (by omega) ?_)); first | exact xg_eq | exact a37), (by first | (repeat (refine xg_ne (by omega) ?_)); first | exact xg_eq | exact a38), (by first | (repeat (refine xg_ne (by omega) ?_)); first | exact xg_eq | exact a39), (by first | (repeat (refine xg_ne (by omega) ?_)); first | exact xg_eq | exact a40)⟩⟩
        intro q' hq'
        injection hq' with hq'
        rw [← hq']
        have hM3 : mkF M2 q.2 := fun j hj => by rw [hM2 j hj, e2 j hj]
        exact (hM3.up (by rw [nI_pred])).up (by rw [nI_pred]; rfl)
  refine wpc_of rfl (Nat.le_of_ble_eq_true rfl) ?_
  refine wp_iload_n d_MO_search_0 rfl rfl ?_
  refine wp_istore_n d_MO_search_1 rfl (by decide) rfl ?_
  obtain ⟨tr, S, M, D'⟩ := D
  exact lp _ fr h tr S M rfl hfr mfr.rf hm rfl
theorem lsA_app {xs : List Int32} {f : Nat → Int32} (hf : ∀ k, k < xs.length → f k = pat xs k) (v : Int32) : ∀ k, k < (xs ++ [v]).length → upd f xs.length v k = pat (xs ++ [v]) k := by
  intro k hk
  rw [List.length_append, List.length_singleton] at hk
  by_cases e : k = xs.length
  · subst e
    rw [pk_us, pat, List.getD_eq_getElem?_getD, List.getElem?_concat_length]
    rfl
  · rw [pk_un e, hf k (by omega), pat, pat, List.getD_eq_getElem?_getD, List.getD_eq_getElem?_getD, List.getElem?_append_left (by omega)]
theorem isSg_of {x : Int32} (h1 : ¬ x < 32) (h2 : ¬ 126 < x) : isSg x = true := by rw [isSg, decide_eq_true (Int32.not_lt.mp h1), decide_eq_true (Int32.not_lt.mp h2)]; rfl
theorem isSg_1 {x : Int32} (h : isSg x = true) : ¬ x < 32 ∧ ¬ 126 < x := by
  simp only [isSg, Bool.and_eq_true, decide_eq_true_eq] at h
  exact ⟨Int32.not_lt.mpr h.1, Int32.not_lt.mpr h.2⟩
abbrev dR (b : Bool) (D : MD) : MD := (D.1, D.2.1, D.2.2.1, D.2.2.2.1, b, D.2.2.2.2.2)
abbrev dF (b : Bool) (D : MD) : MD := (D.1, D.2.1, D.2.2.1, D.2.2.2.1, D.2.2.2.2.1, b)
theorem c_MO_pattern (hE : xOK E) (hm : MoW E h A B w D) (x : Int32) : wpc E 0 m_MO_pattern [.ref (xb E + 21), .int x] h (fun r' h' => if isSg x = true ∧ A.1.length < 28 then r' = some (.int (nI (A.1.length + 1))) ∧ mfr E h h' ∧ MoW E h' (A.1 ++ [x], A.2) B w (dR false D) else r' = some (.int (-1)) ∧ h' = h) := by
  obtain ⟨s, o, t, hcd, hl0, hm1⟩ := hm
  have hl := hm1.len
  obtain ⟨fp, ft, fo, qq, o21, a22, a23, a24, a25, a26, a27, a28, a29, a30, a31, a32, a33, a34, a35, a36, a37, a38, a39, a40⟩ := hm1
  have bad : ¬ (isSg x = true ∧ A.1.length < 28) → wp E 0 m_MO_pattern 21 [(0, .ref (xb E + 21)), (1, .int x)] [] h (fun r' h' => if isSg x = true ∧ A.1.length < 28 then r' = some (.int (nI (A.1.length + 1))) ∧ mfr E h h' ∧ MoW E h' (A.1 ++ [x], A.2) B w (dR false D) else r' = some (.int (-1)) ∧ h' = h) := by
    intro hb
    refine wp_iconst (v := (-1)) d_MO_pattern_21 (by rfl) ?_
    refine wp_ireturn d_MO_pattern_22 rfl (by first | rfl | assumption) ?_
    rw [if_neg hb]
    exact ⟨rfl, rfl⟩
  refine wpc_of rfl (Nat.le_of_ble_eq_true rfl) ?_
  refine wp_iload_n d_MO_pattern_0 rfl rfl ?_
  refine wp_bipush (v := 32) d_MO_pattern_1 (by rfl) ?_
  refine wp_icmp_lt (tgt := 21) d_MO_pattern_3 (by decide) (fun h1 => ?_) (fun h1 => ?_)
  · exact bad (fun z => (isSg_1 z.1).1 h1)
  refine wp_iload_n d_MO_pattern_6 rfl rfl ?_
  refine wp_bipush (v := 126) d_MO_pattern_7 (by rfl) ?_
  refine wp_icmp_gt (tgt := 21) d_MO_pattern_9 (by decide) (fun h2 => ?_) (fun h2 => ?_)
  · exact bad (fun z => (isSg_1 z.1).2 h2)
  refine wp_aload_n d_MO_pattern_12 rfl rfl ?_
  refine wp_get xf_MO_72 d_MO_pattern_13 (by repeat first | exact xg_eq | exact xn_eq (by first | rfl | omega) | refine xg_ne (by first | omega | assumption | (simp only [xput, xnew]; omega)) ?_ | refine xn_ne (by first | omega | assumption | (simp only [xput, xnew]; omega)) ?_ | assumption | exact rfl) (by rfl) ?_
  refine wp_bipush (v := 28) d_MO_pattern_16 (by rfl) ?_
  refine wp_icmp_ne (tgt := 23) d_MO_pattern_18 (by decide) (fun h3 => ?_) (fun h3 => ?_)
  rotate_left
  · have h3 := (nI_eq (b := 28) (by omega) (by omega)).mp h3
    exact bad (fun z => by omega)
  have h3 : A.1.length ≠ 28 := fun z => h3 ((nI_eq (b := 28) (by omega) (by omega)).mpr z)
  refine wp_aload_n d_MO_pattern_23 rfl rfl ?_
  refine wp_get xf_MO_7 d_MO_pattern_24 (by repeat first | exact xg_eq | exact xn_eq (by first | rfl | omega) | refine xg_ne (by first | omega | assumption | (simp only [xput, xnew]; omega)) ?_ | refine xn_ne (by first | omega | assumption | (simp only [xput, xnew]; omega)) ?_ | assumption | exact rfl) (by rfl) ?_
  refine wp_aload_n d_MO_pattern_27 rfl rfl ?_
  refine wp_get xf_MO_72 d_MO_pattern_28 (by repeat first | exact xg_eq | exact xn_eq (by first | rfl | omega) | refine xg_ne (by first | omega | assumption | (simp only [xput, xnew]; omega)) ?_ | refine xn_ne (by first | omega | assumption | (simp only [xput, xnew]; omega)) ?_ | assumption | exact rfl) (by rfl) ?_
  refine wp_iload_n d_MO_pattern_31 rfl rfl ?_
  refine wp_iast d_MO_pattern_32 (by repeat first | exact xg_eq | exact xn_eq (by first | rfl | omega) | refine xg_ne (by first | omega | assumption | (simp only [xput, xnew]; omega)) ?_ | refine xn_ne (by first | omega | assumption | (simp only [xput, xnew]; omega)) ?_ | assumption | exact rfl) hE.i (vp_in_nI (by omega) (by omega)) ?_
  rw [nI_clamp (by omega)]
  refine wp_aload_n d_MO_pattern_33 rfl rfl ?_
  refine wp_dup d_MO_pattern_34 rfl ?_
  refine wp_get xf_MO_72 d_MO_pattern_35 (by repeat first | exact xg_eq | exact xn_eq (by first | rfl | omega) | refine xg_ne (by first | omega | assumption | (simp only [xput, xnew]; omega)) ?_ | refine xn_ne (by first | omega | assumption | (simp only [xput, xnew]; omega)) ?_ | assumption | exact rfl) (by rfl) ?_
  refine wp_iconst (v := 1) d_MO_pattern_38 (by rfl) ?_
  refine wp_iadd d_MO_pattern_39 ?_
  rw [show nI A.1.length + 1 = nI (A.1.length + 1) from (nI_succ _).symm]
  refine wp_put xf_MO_72 xg_MO (Or.inl rfl) d_MO_pattern_40 (by repeat first | exact xg_eq | exact xn_eq (by first | rfl | omega) | refine xg_ne (by first | omega | assumption | (simp only [xput, xnew]; omega)) ?_ | refine xn_ne (by first | omega | assumption | (simp only [xput, xnew]; omega)) ?_ | assumption | exact rfl) (by first | rfl | assumption | exact bI_z _) (by first | rfl | assumption | exact bI_f _) (Nat.le_of_ble_eq_true rfl) ?_
  refine wp_aload_n d_MO_pattern_43 rfl rfl ?_
  refine wp_iconst (v := 0) d_MO_pattern_44 (by rfl) ?_
  refine wp_put xf_MO_173 xg_MO (Or.inl rfl) d_MO_pattern_45 (by repeat first | exact xg_eq | exact xn_eq (by first | rfl | omega) | refine xg_ne (by first | omega | assumption | (simp only [xput, xnew]; omega)) ?_ | refine xn_ne (by first | omega | assumption | (simp only [xput, xnew]; omega)) ?_ | assumption | exact rfl) (by first | rfl | assumption | exact bI_z _) (by first | rfl | assumption | exact bI_f _) (Nat.le_of_ble_eq_true rfl) ?_
  refine wp_aload_n d_MO_pattern_48 rfl rfl ?_
  refine wp_get xf_MO_72 d_MO_pattern_49 (by repeat first | exact xg_eq | exact xn_eq (by first | rfl | omega) | refine xg_ne (by first | omega | assumption | (simp only [xput, xnew]; omega)) ?_ | refine xn_ne (by first | omega | assumption | (simp only [xput, xnew]; omega)) ?_ | assumption | exact rfl) (by rfl) ?_
  refine wp_ireturn d_MO_pattern_52 rfl (by first | rfl | assumption) ?_
  rw [if_pos ⟨isSg_of h1 h2, by omega⟩]
  have e1 : (A.1 ++ [x]).length = A.1.length + 1 := by rw [List.length_append, List.length_singleton]
  refine ⟨rfl, ((mfr.rf.put (by omega)).put (by omega)).put (by omega), s, o, t, hcd, hl0, ?_⟩
  obtain ⟨q1, q2, q3, q4, q5, q6⟩ := qq
  have qq : moQ (A.1 ++ [x], A.2) (upd fp A.1.length x) ft fo := ⟨lsA_app q1 x, q2, q3, by show (A.1 ++ [x]).length ≤ 28; omega, q5, q6⟩
  refine ⟨upd fp A.1.length x, ft, fo, qq, ?_, (by repeat first | exact xg_eq | exact xn_eq (by first | rfl | omega) | refine xg_ne (by first | omega | assumption | (simp only [xput, xnew]; omega)) ?_ | refine xn_ne (by first | omega | assumption | (simp only [xput, xnew]; omega)) ?_ | assumption | exact rfl), (by repeat first | exact xg_eq | exact xn_eq (by first | rfl | omega) | refine xg_ne (by first | omega | assumption | (simp only [xput, xnew]; omega)) ?_ | refine xn_ne (by first | omega | assumption | (simp only [xput, xnew]; omega)) ?_ | assumption | exact rfl), (by repeat first | exact xg_eq | exact xn_eq (by first | rfl | omega) | refine xg_ne (by first | omega | assumption | (simp only [xput, xnew]; omega)) ?_ | refine xn_ne (by first | omega | assumption | (simp only [xput, xnew]; omega)) ?_ | assumption | exact rfl), (by repeat first | exact xg_eq | exact xn_eq (by first | rfl | omega) | refine xg_ne (by first | omega | assumption | (simp only [xput, xnew]; omega)) ?_ | refine xn_ne (by first | omega | assumption | (simp only [xput, xnew]; omega)) ?_ | assumption | exact rfl), (by repeat first | exact xg_eq | exact xn_eq (by first | rfl | omega) | refine xg_ne (by first | omega | assumption | (simp only [xput, xnew]; omega)) ?_ | refine xn_ne (by first | omega | assumption | (simp only [xput, xnew]; omega)) ?_ | assumption | exact rfl), (by repeat first | exact xg_eq | exact xn_eq (by first | rfl | omega) | refine xg_ne (by first | omega | assumption | (simp only [xput, xnew]; omega)) ?_ | refine xn_ne (by first | omega | assumption | (simp only [xput, xnew]; omega)) ?_ | assumption | exact rfl), (by repeat first | exact xg_eq | exact xn_eq (by first | rfl | omega) | refine xg_ne (by first | omega | assumption | (simp only [xput, xnew]; omega)) ?_ | refine xn_ne (by first | omega | assumption | (simp only [xput, xnew]; omega)) ?_ | assumption | exact rfl), (by repeat first | exact xg_eq | exact xn_eq (by first | rfl | omega) | refine xg_ne (by first | omega | assumption | (simp only [xput, xnew]; omega)) ?_ | refine xn_ne (by first | omega | assumption | (simp only [xput, xnew]; omega)) ?_ | assumption | exact rfl), (by repeat first | exact xg_eq | exact xn_eq (by first | rfl | omega) | refine xg_ne (by first | omega | assumption | (simp only [xput, xnew]; omega)) ?_ | refine xn_ne (by first | omega | assumption | (simp only [xput, xnew]; omega)) ?_ | assumption | exact rfl), (by repeat first | exact xg_eq | exact xn_eq (by first | rfl | omega) | refine xg_ne (by first | omega | assumption | (simp only [xput, xnew]; omega)) ?_ | refine xn_ne (by first | omega | assumption | (simp only [xput, xnew]; omega)) ?_ | assumption | exact rfl), (by repeat first | exact xg_eq | exact xn_eq (by first | rfl | omega) | refine xg_ne (by first | omega | assumption | (simp only [xput, xnew]; omega)) ?_ | refine xn_ne (by first | omega | assumption | (simp only [xput, xnew]; omega)) ?_ | assumption | exact rfl), (by repeat first | exact xg_eq | exact xn_eq (by first | rfl | omega) | refine xg_ne (by first | omega | assumption | (simp only [xput, xnew]; omega)) ?_ | refine xn_ne (by first | omega | assumption | (simp only [xput, xnew]; omega)) ?_ | assumption | exact rfl), (by repeat first | exact xg_eq | exact xn_eq (by first | rfl | omega) | refine xg_ne (by first | omega | assumption | (simp only [xput, xnew]; omega)) ?_ | refine xn_ne (by first | omega | assumption | (simp only [xput, xnew]; omega)) ?_ | assumption | exact rfl), (by repeat first | exact xg_eq | exact xn_eq (by first | rfl | omega) | refine xg_ne (by first | omega | assumption | (simp only [xput, xnew]; omega)) ?_ | refine xn_ne (by first | omega | assumption | (simp only [xput, xnew]; omega)) ?_ | assumption | exact rfl), (by repeat first | exact xg_eq | exact xn_eq (by first | rfl | omega) | refine xg_ne (by first | omega | assumption | (simp only [xput, xnew]; omega)) ?_ | refine xn_ne (by first | omega | assumption | (simp only [xput, xnew]; omega)) ?_ | assumption | exact rfl), (by repeat first | exact xg_eq | exact xn_eq (by first | rfl | omega) | refine xg_ne (by first | omega | assumption | (simp only [xput, xnew]; omega)) ?_ | refine xn_ne (by first | omega | assumption | (simp only [xput, xnew]; omega)) ?_ | assumption | exact rfl), (by repeat first | exact xg_eq | exact xn_eq (by first | rfl | omega) | refine xg_ne (by first | omega | assumption | (simp only [xput, xnew]; omega)) ?_ | refine xn_ne (by first | omega | assumption | (simp only [xput, xnew]; omega)) ?_ | assumption | exact rfl), (by repeat first | exact xg_eq | exact xn_eq (by first | rfl | omega) | refine xg_ne (by first | omega | assumption | (simp only [xput, xnew]; omega)) ?_ | refine xn_ne (by first | omega | assumption | (simp only [xput, xnew]; omega)) ?_ | assumption | exact rfl), (by repeat first | exact xg_eq | exact xn_eq (by first | rfl | omega) | refine xg_ne (by first | omega | assumption | (simp only [xput, xnew]; omega)) ?_ | refine xn_ne (by first | omega | assumption | (simp only [xput, xnew]; omega)) ?_ | assumption | exact rfl)⟩
  show _ = some (moO E (A.1 ++ [x]).length _ _ _ _ _ _ _ _ _ _ _)
  rw [e1]
  exact xg_eq
theorem c_MO_text (hE : xOK E) (hm : MoW E h A B w D) (x : Int32) : wpc E 0 m_MO_text [.ref (xb E + 21), .int x] h (fun r' h' => if isSg x = true ∧ A.2.1.length < 30 then r' = some (.int (nI (A.2.1.length + 1))) ∧ mfr E h h' ∧ MoW E h' (A.1, A.2.1 ++ [x], A.2.2) B w (dF false D) else r' = some (.int (-1)) ∧ h' = h) := by
  obtain ⟨s, o, t, hcd, hl0, hm1⟩ := hm
  have hl := hm1.len
  obtain ⟨fp, ft, fo, qq, o21, a22, a23, a24, a25, a26, a27, a28, a29, a30, a31, a32, a33, a34, a35, a36, a37, a38, a39, a40⟩ := hm1
  have bad : ¬ (isSg x = true ∧ A.2.1.length < 30) → wp E 0 m_MO_text 21 [(0, .ref (xb E + 21)), (1, .int x)] [] h (fun r' h' => if isSg x = true ∧ A.2.1.length < 30 then r' = some (.int (nI (A.2.1.length + 1))) ∧ mfr E h h' ∧ MoW E h' (A.1, A.2.1 ++ [x], A.2.2) B w (dF false D) else r' = some (.int (-1)) ∧ h' = h) := by
    intro hb
    refine wp_iconst (v := (-1)) d_MO_text_21 (by rfl) ?_
    refine wp_ireturn d_MO_text_22 rfl (by first | rfl | assumption) ?_
    rw [if_neg hb]
    exact ⟨rfl, rfl⟩
  refine wpc_of rfl (Nat.le_of_ble_eq_true rfl) ?_
  refine wp_iload_n d_MO_text_0 rfl rfl ?_
  refine wp_bipush (v := 32) d_MO_text_1 (by rfl) ?_
  refine wp_icmp_lt (tgt := 21) d_MO_text_3 (by decide) (fun h1 => ?_) (fun h1 => ?_)
  · exact bad (fun z => (isSg_1 z.1).1 h1)
  refine wp_iload_n d_MO_text_6 rfl rfl ?_
  refine wp_bipush (v := 126) d_MO_text_7 (by rfl) ?_
  refine wp_icmp_gt (tgt := 21) d_MO_text_9 (by decide) (fun h2 => ?_) (fun h2 => ?_)
  · exact bad (fun z => (isSg_1 z.1).2 h2)
  refine wp_aload_n d_MO_text_12 rfl rfl ?_
  refine wp_get xf_MO_164 d_MO_text_13 (by repeat first | exact xg_eq | exact xn_eq (by first | rfl | omega) | refine xg_ne (by first | omega | assumption | (simp only [xput, xnew]; omega)) ?_ | refine xn_ne (by first | omega | assumption | (simp only [xput, xnew]; omega)) ?_ | assumption | exact rfl) (by rfl) ?_
  refine wp_bipush (v := 30) d_MO_text_16 (by rfl) ?_
  refine wp_icmp_ne (tgt := 23) d_MO_text_18 (by decide) (fun h3 => ?_) (fun h3 => ?_)
  rotate_left
  · have h3 := (nI_eq (b := 30) (by omega) (by omega)).mp h3
    exact bad (fun z => by omega)
  have h3 : A.2.1.length ≠ 30 := fun z => h3 ((nI_eq (b := 30) (by omega) (by omega)).mpr z)
  refine wp_aload_n d_MO_text_23 rfl rfl ?_
  refine wp_get xf_MO_13 d_MO_text_24 (by repeat first | exact xg_eq | exact xn_eq (by first | rfl | omega) | refine xg_ne (by first | omega | assumption | (simp only [xput, xnew]; omega)) ?_ | refine xn_ne (by first | omega | assumption | (simp only [xput, xnew]; omega)) ?_ | assumption | exact rfl) (by rfl) ?_
  refine wp_aload_n d_MO_text_27 rfl rfl ?_
  refine wp_get xf_MO_164 d_MO_text_28 (by repeat first | exact xg_eq | exact xn_eq (by first | rfl | omega) | refine xg_ne (by first | omega | assumption | (simp only [xput, xnew]; omega)) ?_ | refine xn_ne (by first | omega | assumption | (simp only [xput, xnew]; omega)) ?_ | assumption | exact rfl) (by rfl) ?_
  refine wp_iload_n d_MO_text_31 rfl rfl ?_
  refine wp_iast d_MO_text_32 (by repeat first | exact xg_eq | exact xn_eq (by first | rfl | omega) | refine xg_ne (by first | omega | assumption | (simp only [xput, xnew]; omega)) ?_ | refine xn_ne (by first | omega | assumption | (simp only [xput, xnew]; omega)) ?_ | assumption | exact rfl) hE.i (vp_in_nI (by omega) (by omega)) ?_
  rw [nI_clamp (by omega)]
  refine wp_aload_n d_MO_text_33 rfl rfl ?_
  refine wp_dup d_MO_text_34 rfl ?_
  refine wp_get xf_MO_164 d_MO_text_35 (by repeat first | exact xg_eq | exact xn_eq (by first | rfl | omega) | refine xg_ne (by first | omega | assumption | (simp only [xput, xnew]; omega)) ?_ | refine xn_ne (by first | omega | assumption | (simp only [xput, xnew]; omega)) ?_ | assumption | exact rfl) (by rfl) ?_
  refine wp_iconst (v := 1) d_MO_text_38 (by rfl) ?_
  refine wp_iadd d_MO_text_39 ?_
  rw [show nI A.2.1.length + 1 = nI (A.2.1.length + 1) from (nI_succ _).symm]
  refine wp_put xf_MO_164 xg_MO (Or.inl rfl) d_MO_text_40 (by repeat first | exact xg_eq | exact xn_eq (by first | rfl | omega) | refine xg_ne (by first | omega | assumption | (simp only [xput, xnew]; omega)) ?_ | refine xn_ne (by first | omega | assumption | (simp only [xput, xnew]; omega)) ?_ | assumption | exact rfl) (by first | rfl | assumption | exact bI_z _) (by first | rfl | assumption | exact bI_f _) (Nat.le_of_ble_eq_true rfl) ?_
  refine wp_aload_n d_MO_text_43 rfl rfl ?_
  refine wp_iconst (v := 0) d_MO_text_44 (by rfl) ?_
  refine wp_put xf_MO_183 xg_MO (Or.inl rfl) d_MO_text_45 (by repeat first | exact xg_eq | exact xn_eq (by first | rfl | omega) | refine xg_ne (by first | omega | assumption | (simp only [xput, xnew]; omega)) ?_ | refine xn_ne (by first | omega | assumption | (simp only [xput, xnew]; omega)) ?_ | assumption | exact rfl) (by first | rfl | assumption | exact bI_z _) (by first | rfl | assumption | exact bI_f _) (Nat.le_of_ble_eq_true rfl) ?_
  refine wp_aload_n d_MO_text_48 rfl rfl ?_
  refine wp_get xf_MO_164 d_MO_text_49 (by repeat first | exact xg_eq | exact xn_eq (by first | rfl | omega) | refine xg_ne (by first | omega | assumption | (simp only [xput, xnew]; omega)) ?_ | refine xn_ne (by first | omega | assumption | (simp only [xput, xnew]; omega)) ?_ | assumption | exact rfl) (by rfl) ?_
  refine wp_ireturn d_MO_text_52 rfl (by first | rfl | assumption) ?_
  rw [if_pos ⟨isSg_of h1 h2, by omega⟩]
  have e1 : (A.2.1 ++ [x]).length = A.2.1.length + 1 := by rw [List.length_append, List.length_singleton]
  refine ⟨rfl, ((mfr.rf.put (by omega)).put (by omega)).put (by omega), s, o, t, hcd, hl0, ?_⟩
  obtain ⟨q1, q2, q3, q4, q5, q6⟩ := qq
  have qq : moQ (A.1, A.2.1 ++ [x], A.2.2) fp (upd ft A.2.1.length x) fo := ⟨q1, lsA_app q2 x, q3, q4, by show (A.2.1 ++ [x]).length ≤ 30; omega, q6⟩
  refine ⟨fp, upd ft A.2.1.length x, fo, qq, ?_, (by repeat first | exact xg_eq | exact xn_eq (by first | rfl | omega) | refine xg_ne (by first | omega | assumption | (simp only [xput, xnew]; omega)) ?_ | refine xn_ne (by first | omega | assumption | (simp only [xput, xnew]; omega)) ?_ | assumption | exact rfl), (by repeat first | exact xg_eq | exact xn_eq (by first | rfl | omega) | refine xg_ne (by first | omega | assumption | (simp only [xput, xnew]; omega)) ?_ | refine xn_ne (by first | omega | assumption | (simp only [xput, xnew]; omega)) ?_ | assumption | exact rfl), (by repeat first | exact xg_eq | exact xn_eq (by first | rfl | omega) | refine xg_ne (by first | omega | assumption | (simp only [xput, xnew]; omega)) ?_ | refine xn_ne (by first | omega | assumption | (simp only [xput, xnew]; omega)) ?_ | assumption | exact rfl), (by repeat first | exact xg_eq | exact xn_eq (by first | rfl | omega) | refine xg_ne (by first | omega | assumption | (simp only [xput, xnew]; omega)) ?_ | refine xn_ne (by first | omega | assumption | (simp only [xput, xnew]; omega)) ?_ | assumption | exact rfl), (by repeat first | exact xg_eq | exact xn_eq (by first | rfl | omega) | refine xg_ne (by first | omega | assumption | (simp only [xput, xnew]; omega)) ?_ | refine xn_ne (by first | omega | assumption | (simp only [xput, xnew]; omega)) ?_ | assumption | exact rfl), (by repeat first | exact xg_eq | exact xn_eq (by first | rfl | omega) | refine xg_ne (by first | omega | assumption | (simp only [xput, xnew]; omega)) ?_ | refine xn_ne (by first | omega | assumption | (simp only [xput, xnew]; omega)) ?_ | assumption | exact rfl), (by repeat first | exact xg_eq | exact xn_eq (by first | rfl | omega) | refine xg_ne (by first | omega | assumption | (simp only [xput, xnew]; omega)) ?_ | refine xn_ne (by first | omega | assumption | (simp only [xput, xnew]; omega)) ?_ | assumption | exact rfl), (by repeat first | exact xg_eq | exact xn_eq (by first | rfl | omega) | refine xg_ne (by first | omega | assumption | (simp only [xput, xnew]; omega)) ?_ | refine xn_ne (by first | omega | assumption | (simp only [xput, xnew]; omega)) ?_ | assumption | exact rfl), (by repeat first | exact xg_eq | exact xn_eq (by first | rfl | omega) | refine xg_ne (by first | omega | assumption | (simp only [xput, xnew]; omega)) ?_ | refine xn_ne (by first | omega | assumption | (simp only [xput, xnew]; omega)) ?_ | assumption | exact rfl), (by repeat first | exact xg_eq | exact xn_eq (by first | rfl | omega) | refine xg_ne (by first | omega | assumption | (simp only [xput, xnew]; omega)) ?_ | refine xn_ne (by first | omega | assumption | (simp only [xput, xnew]; omega)) ?_ | assumption | exact rfl), (by repeat first | exact xg_eq | exact xn_eq (by first | rfl | omega) | refine xg_ne (by first | omega | assumption | (simp only [xput, xnew]; omega)) ?_ | refine xn_ne (by first | omega | assumption | (simp only [xput, xnew]; omega)) ?_ | assumption | exact rfl), (by repeat first | exact xg_eq | exact xn_eq (by first | rfl | omega) | refine xg_ne (by first | omega | assumption | (simp only [xput, xnew]; omega)) ?_ | refine xn_ne (by first | omega | assumption | (simp only [xput, xnew]; omega)) ?_ | assumption | exact rfl), (by repeat first | exact xg_eq | exact xn_eq (by first | rfl | omega) | refine xg_ne (by first | omega | assumption | (simp only [xput, xnew]; omega)) ?_ | refine xn_ne (by first | omega | assumption | (simp only [xput, xnew]; omega)) ?_ | assumption | exact rfl), (by repeat first | exact xg_eq | exact xn_eq (by first | rfl | omega) | refine xg_ne (by first | omega | assumption | (simp only [xput, xnew]; omega)) ?_ | refine xn_ne (by first | omega | assumption | (simp only [xput, xnew]; omega)) ?_ | assumption | exact rfl), (by repeat first | exact xg_eq | exact xn_eq (by first | rfl | omega) | refine xg_ne (by first | omega | assumption | (simp only [xput, xnew]; omega)) ?_ | refine xn_ne (by first | omega | assumption | (simp only [xput, xnew]; omega)) ?_ | assumption | exact rfl), (by repeat first | exact xg_eq | exact xn_eq (by first | rfl | omega) | refine xg_ne (by first | omega | assumption | (simp only [xput, xnew]; omega)) ?_ | refine xn_ne (by first | omega | assumption | (simp only [xput, xnew]; omega)) ?_ | assumption | exact rfl), (by repeat first | exact xg_eq | exact xn_eq (by first | rfl | omega) | refine xg_ne (by first | omega | assumption | (simp only [xput, xnew]; omega)) ?_ | refine xn_ne (by first | omega | assumption | (simp only [xput, xnew]; omega)) ?_ | assumption | exact rfl), (by repeat first | exact xg_eq | exact xn_eq (by first | rfl | omega) | refine xg_ne (by first | omega | assumption | (simp only [xput, xnew]; omega)) ?_ | refine xn_ne (by first | omega | assumption | (simp only [xput, xnew]; omega)) ?_ | assumption | exact rfl), (by repeat first | exact xg_eq | exact xn_eq (by first | rfl | omega) | refine xg_ne (by first | omega | assumption | (simp only [xput, xnew]; omega)) ?_ | refine xn_ne (by first | omega | assumption | (simp only [xput, xnew]; omega)) ?_ | assumption | exact rfl)⟩
  show _ = some (moO E _ (A.2.1 ++ [x]).length _ _ _ _ _ _ _ _ _ _)
  rw [e1]
  exact xg_eq
theorem c_MO_newPattern (hE : xOK E) (hm : MoW E h A B w D) : wpc E 0 m_MO_newPattern [.ref (xb E + 21)] h (fun r' h' => r' = some (.int 0) ∧ mfr E h h' ∧ MoW E h' ([], A.2) B w (dR false D)) := by
  obtain ⟨s, o, t, hcd, hl0, hm1⟩ := hm
  obtain ⟨fp, ft, fo, qq, o21, a22, a23, a24, a25, a26, a27, a28, a29, a30, a31, a32, a33, a34, a35, a36, a37, a38, a39, a40⟩ := hm1
  refine wpc_of rfl (Nat.le_of_ble_eq_true rfl) ?_
  refine wp_aload_n d_MO_newPattern_0 rfl rfl ?_
  refine wp_iconst (v := 0) d_MO_newPattern_1 (by rfl) ?_
  refine wp_put xf_MO_72 xg_MO (Or.inl rfl) d_MO_newPattern_2 (by repeat first | exact xg_eq | exact xn_eq (by first | rfl | omega) | refine xg_ne (by first | omega | assumption | (simp only [xput, xnew]; omega)) ?_ | refine xn_ne (by first | omega | assumption | (simp only [xput, xnew]; omega)) ?_ | assumption | exact rfl) (by first | rfl | assumption | exact bI_z _) (by first | rfl | assumption | exact bI_f _) (Nat.le_of_ble_eq_true rfl) ?_
  refine wp_aload_n d_MO_newPattern_5 rfl rfl ?_
  refine wp_iconst (v := 0) d_MO_newPattern_6 (by rfl) ?_
  refine wp_put xf_MO_173 xg_MO (Or.inl rfl) d_MO_newPattern_7 (by repeat first | exact xg_eq | exact xn_eq (by first | rfl | omega) | refine xg_ne (by first | omega | assumption | (simp only [xput, xnew]; omega)) ?_ | refine xn_ne (by first | omega | assumption | (simp only [xput, xnew]; omega)) ?_ | assumption | exact rfl) (by first | rfl | assumption | exact bI_z _) (by first | rfl | assumption | exact bI_f _) (Nat.le_of_ble_eq_true rfl) ?_
  refine wp_iconst (v := 0) d_MO_newPattern_10 (by rfl) ?_
  refine wp_ireturn d_MO_newPattern_11 rfl (by first | rfl | assumption) ?_
  have qq : moQ ([], A.2) fp ft fo := ⟨fun k hk => absurd hk (Nat.not_lt_zero k), qq.2.1, qq.2.2.1, Nat.zero_le _, qq.2.2.2.2⟩
  exact ⟨rfl, (mfr.rf.put (by omega)).put (by omega), s, o, t, hcd, hl0, ⟨fp, ft, fo, qq, (by first | (repeat (refine xg_ne (by omega) ?_)); first | exact xg_eq | exact o21), (by first | (repeat (refine xg_ne (by omega) ?_)); first | exact xg_eq | exact a22), (by first | (repeat (refine xg_ne (by omega) ?_)); first | exact xg_eq | exact a23), (by first | (repeat (refine xg_ne (by omega) ?_)); first | exact xg_eq | exact a24), (by first | (repeat (refine xg_ne (by omega) ?_)); first | exact xg_eq | exact a25), (by first | (repeat (refine xg_ne (by omega) ?_)); first | exact xg_eq | exact a26), (by first | (repeat (refine xg_ne (by omega) ?_)); first | exact xg_eq | exact a27), (by first | (repeat (refine xg_ne (by omega) ?_)); first | exact xg_eq | exact a28), (by first | (repeat (refine xg_ne (by omega) ?_)); first | exact xg_eq | exact a29), (by first | (repeat (refine xg_ne (by omega) ?_)); first | exact xg_eq | exact a30), (by first | (repeat (refine xg_ne (by omega) ?_)); first | exact xg_eq | exact a31), (by first | (repeat (refine xg_ne (by omega) ?_)); first | exact xg_eq | exact a32), (by first | (repeat (refine xg_ne (by omega) ?_)); first | exact xg_eq | exact a33), (by first | (repeat (refine xg_ne (by omega) ?_)); first | exact xg_eq | exact a34), (by first | (repeat (refine xg_ne (by omega) ?_)); first | exact xg_eq | exact a35), (by first | (repeat (refine xg_ne (by omega) ?_)); first | exact xg_eq | exact a36), (by first | (repeat (refine xg_ne (by omega) ?_)); first | exact xg_eq | exact a37), (by first | (repeat (refine xg_ne (by omega) ?_)); first | exact xg_eq | exact a38), (by first | (repeat (refine xg_ne (by omega) ?_)); first | exact xg_eq | exact a39), (by first | (repeat (refine xg_ne (by omega) ?_)); first | exact xg_eq | exact a40)⟩⟩
theorem c_MO_newText (hE : xOK E) (hm : MoW E h A B w D) : wpc E 0 m_MO_newText [.ref (xb E + 21)] h (fun r' h' => r' = some (.int 0) ∧ mfr E h h' ∧ MoW E h' (A.1, [], A.2.2) B w (dF false D)) := by
  obtain ⟨s, o, t, hcd, hl0, hm1⟩ := hm
  obtain ⟨fp, ft, fo, qq, o21, a22, a23, a24, a25, a26, a27, a28, a29, a30, a31, a32, a33, a34, a35, a36, a37, a38, a39, a40⟩ := hm1
  refine wpc_of rfl (Nat.le_of_ble_eq_true rfl) ?_
  refine wp_aload_n d_MO_newText_0 rfl rfl ?_
  refine wp_iconst (v := 0) d_MO_newText_1 (by rfl) ?_
  refine wp_put xf_MO_164 xg_MO (Or.inl rfl) d_MO_newText_2 (by repeat first | exact xg_eq | exact xn_eq (by first | rfl | omega) | refine xg_ne (by first | omega | assumption | (simp only [xput, xnew]; omega)) ?_ | refine xn_ne (by first | omega | assumption | (simp only [xput, xnew]; omega)) ?_ | assumption | exact rfl) (by first | rfl | assumption | exact bI_z _) (by first | rfl | assumption | exact bI_f _) (Nat.le_of_ble_eq_true rfl) ?_
  refine wp_aload_n d_MO_newText_5 rfl rfl ?_
  refine wp_iconst (v := 0) d_MO_newText_6 (by rfl) ?_
  refine wp_put xf_MO_183 xg_MO (Or.inl rfl) d_MO_newText_7 (by repeat first | exact xg_eq | exact xn_eq (by first | rfl | omega) | refine xg_ne (by first | omega | assumption | (simp only [xput, xnew]; omega)) ?_ | refine xn_ne (by first | omega | assumption | (simp only [xput, xnew]; omega)) ?_ | assumption | exact rfl) (by first | rfl | assumption | exact bI_z _) (by first | rfl | assumption | exact bI_f _) (Nat.le_of_ble_eq_true rfl) ?_
  refine wp_iconst (v := 0) d_MO_newText_10 (by rfl) ?_
  refine wp_ireturn d_MO_newText_11 rfl (by first | rfl | assumption) ?_
  have qq : moQ (A.1, [], A.2.2) fp ft fo := ⟨qq.1, fun k hk => absurd hk (Nat.not_lt_zero k), qq.2.2.1, qq.2.2.2.1, Nat.zero_le _, qq.2.2.2.2.2⟩
  exact ⟨rfl, (mfr.rf.put (by omega)).put (by omega), s, o, t, hcd, hl0, ⟨fp, ft, fo, qq, (by first | (repeat (refine xg_ne (by omega) ?_)); first | exact xg_eq | exact o21), (by first | (repeat (refine xg_ne (by omega) ?_)); first | exact xg_eq | exact a22), (by first | (repeat (refine xg_ne (by omega) ?_)); first | exact xg_eq | exact a23), (by first | (repeat (refine xg_ne (by omega) ?_)); first | exact xg_eq | exact a24), (by first | (repeat (refine xg_ne (by omega) ?_)); first | exact xg_eq | exact a25), (by first | (repeat (refine xg_ne (by omega) ?_)); first | exact xg_eq | exact a26), (by first | (repeat (refine xg_ne (by omega) ?_)); first | exact xg_eq | exact a27), (by first | (repeat (refine xg_ne (by omega) ?_)); first | exact xg_eq | exact a28), (by first | (repeat (refine xg_ne (by omega) ?_)); first | exact xg_eq | exact a29), (by first | (repeat (refine xg_ne (by omega) ?_)); first | exact xg_eq | exact a30), (by first | (repeat (refine xg_ne (by omega) ?_)); first | exact xg_eq | exact a31), (by first | (repeat (refine xg_ne (by omega) ?_)); first | exact xg_eq | exact a32), (by first | (repeat (refine xg_ne (by omega) ?_)); first | exact xg_eq | exact a33), (by first | (repeat (refine xg_ne (by omega) ?_)); first | exact xg_eq | exact a34), (by first | (repeat (refine xg_ne (by omega) ?_)); first | exact xg_eq | exact a35), (by first | (repeat (refine xg_ne (by omega) ?_)); first | exact xg_eq | exact a36), (by first | (repeat (refine xg_ne (by omega) ?_)); first | exact xg_eq | exact a37), (by first | (repeat (refine xg_ne (by omega) ?_)); first | exact xg_eq | exact a38), (by first | (repeat (refine xg_ne (by omega) ?_)); first | exact xg_eq | exact a39), (by first | (repeat (refine xg_ne (by omega) ?_)); first | exact xg_eq | exact a40)⟩⟩
theorem c_MO_output (hE : xOK E) (hm : MoW E h A B w D) (x : Int32) : wpc E 0 m_MO_output [.ref (xb E + 21), .int x] h (fun r' h' => r' = some (.int (lAt A.2.2 x)) ∧ h' = h) := by
  obtain ⟨s, o, t, hcd, hl0, hm1⟩ := hm
  have hl := hm1.len
  obtain ⟨fp, ft, fo, qq, o21, a22, a23, a24, a25, a26, a27, a28, a29, a30, a31, a32, a33, a34, a35, a36, a37, a38, a39, a40⟩ := hm1
  refine wpc_of rfl (Nat.le_of_ble_eq_true rfl) ?_
  refine wp_iload_n d_MO_output_0 rfl rfl ?_
  refine wp_if_lt (tgt := 12) d_MO_output_1 (by decide) (fun hc => ?_) (fun hc => ?_)
  · refine wp_bipush (v := (-2)) d_MO_output_12 (by rfl) ?_
    refine wp_goto (tgt := 23) d_MO_output_14 (by decide) ?_
    refine wp_ireturn d_MO_output_23 rfl (by first | rfl | assumption) ?_
    rw [lAt, if_pos hc]
    exact ⟨rfl, rfl⟩
  obtain ⟨j, hj, rfl⟩ := nI_of hc
  rw [lAt_nI _ hj]
  refine wp_iload_n d_MO_output_4 rfl rfl ?_
  refine wp_aload_n d_MO_output_5 rfl rfl ?_
  refine wp_get xf_MO_189 d_MO_output_6 (by repeat first | exact xg_eq | exact xn_eq (by first | rfl | omega) | refine xg_ne (by first | omega | assumption | (simp only [xput, xnew]; omega)) ?_ | refine xn_ne (by first | omega | assumption | (simp only [xput, xnew]; omega)) ?_ | assumption | exact rfl) (by rfl) ?_
  refine wp_icmp_lt (tgt := 17) d_MO_output_9 (by decide) (fun h2 => ?_) (fun h2 => ?_)
  · have h2 := (nI_ltI hj (by omega)).mp h2
    refine wp_aload_n d_MO_output_17 rfl rfl ?_
    refine wp_get xf_MO_16 d_MO_output_18 (by repeat first | exact xg_eq | exact xn_eq (by first | rfl | omega) | refine xg_ne (by first | omega | assumption | (simp only [xput, xnew]; omega)) ?_ | refine xn_ne (by first | omega | assumption | (simp only [xput, xnew]; omega)) ?_ | assumption | exact rfl) (by rfl) ?_
    refine wp_iload_n d_MO_output_21 rfl rfl ?_
    refine wp_iald d_MO_output_22 (by repeat first | exact xg_eq | exact xn_eq (by first | rfl | omega) | refine xg_ne (by first | omega | assumption | (simp only [xput, xnew]; omega)) ?_ | refine xn_ne (by first | omega | assumption | (simp only [xput, xnew]; omega)) ?_ | assumption | exact rfl) hE.i (vp_in_nI (by omega) (by omega)) ?_
    rw [nI_clamp hj, qq.2.2.1 j h2]
    refine wp_ireturn d_MO_output_23 rfl (by first | rfl | assumption) ?_
    refine ⟨?_, rfl⟩
    rw [pat, List.getD_eq_getElem?_getD, List.getD_eq_getElem?_getD, List.getElem?_eq_getElem h2]
    rfl
  · have h2 : ¬ j < A.2.2.length := fun z => h2 ((nI_ltI hj (by omega)).mpr z)
    refine wp_bipush (v := (-2)) d_MO_output_12 (by rfl) ?_
    refine wp_goto (tgt := 23) d_MO_output_14 (by decide) ?_
    refine wp_ireturn d_MO_output_23 rfl (by first | rfl | assumption) ?_
    rw [List.getD_eq_getElem?_getD, List.getElem?_eq_none (by omega)]
    exact ⟨rfl, rfl⟩
def stM (A : MA3) (B : MB) (D : MD) (x : Int32) : Int32 := if x = 0 then nI A.1.length else if x = 1 then nI A.2.1.length else if x = 2 then nI A.2.2.length else if x = 3 then bI D.2.2.2.2.1 else if x = 4 then (if D.2.2.2.2.1 then nI B.2.2.2.2.2.2.2.2 else -2) else -1
theorem c_MO_state (hm : MoW E h A B w D) (x : Int32) : wpc E 0 m_MO_state [.ref (xb E + 21), .int x] h (fun r' h' => r' = some (.int (stM A B D x)) ∧ h' = h) := by
  have ho := hm.obj
  refine wpc_of rfl (Nat.le_of_ble_eq_true rfl) ?_
  refine wp_iload_n d_MO_state_0 rfl rfl ?_
  rw [stM]
  refine wp_if_ne (tgt := 9) d_MO_state_1 (by decide) (fun h0 => ?_) (fun h0 => ?_)
  rotate_left
  · refine wp_aload_n d_MO_state_4 rfl rfl ?_
    refine wp_get xf_MO_72 d_MO_state_5 (by repeat first | exact xg_eq | exact xn_eq (by first | rfl | omega) | refine xg_ne (by first | omega | assumption | (simp only [xput, xnew]; omega)) ?_ | refine xn_ne (by first | omega | assumption | (simp only [xput, xnew]; omega)) ?_ | assumption | exact rfl) (by rfl) ?_
    refine wp_ireturn d_MO_state_8 rfl (by first | rfl | assumption) ?_
    rw [if_pos h0]
    exact ⟨rfl, rfl⟩
  refine wp_iload_n d_MO_state_9 rfl rfl ?_
  refine wp_iconst (v := 1) d_MO_state_10 (by rfl) ?_
  refine wp_icmp_ne (tgt := 19) d_MO_state_11 (by decide) (fun h1 => ?_) (fun h1 => ?_)
  rotate_left
  · refine wp_aload_n d_MO_state_14 rfl rfl ?_
    refine wp_get xf_MO_164 d_MO_state_15 (by repeat first | exact xg_eq | exact xn_eq (by first | rfl | omega) | refine xg_ne (by first | omega | assumption | (simp only [xput, xnew]; omega)) ?_ | refine xn_ne (by first | omega | assumption | (simp only [xput, xnew]; omega)) ?_ | assumption | exact rfl) (by rfl) ?_
    refine wp_ireturn d_MO_state_18 rfl (by first | rfl | assumption) ?_
    rw [if_neg h0, if_pos h1]
    exact ⟨rfl, rfl⟩
  refine wp_iload_n d_MO_state_19 rfl rfl ?_
  refine wp_iconst (v := 2) d_MO_state_20 (by rfl) ?_
  refine wp_icmp_ne (tgt := 29) d_MO_state_21 (by decide) (fun h2 => ?_) (fun h2 => ?_)
  rotate_left
  · refine wp_aload_n d_MO_state_24 rfl rfl ?_
    refine wp_get xf_MO_189 d_MO_state_25 (by repeat first | exact xg_eq | exact xn_eq (by first | rfl | omega) | refine xg_ne (by first | omega | assumption | (simp only [xput, xnew]; omega)) ?_ | refine xn_ne (by first | omega | assumption | (simp only [xput, xnew]; omega)) ?_ | assumption | exact rfl) (by rfl) ?_
    refine wp_ireturn d_MO_state_28 rfl (by first | rfl | assumption) ?_
    rw [if_neg h0, if_neg h1, if_pos h2]
    exact ⟨rfl, rfl⟩
  refine wp_iload_n d_MO_state_29 rfl rfl ?_
  refine wp_iconst (v := 3) d_MO_state_30 (by rfl) ?_
  refine wp_icmp_ne (tgt := 47) d_MO_state_31 (by decide) (fun h3 => ?_) (fun h3 => ?_)
  rotate_left
  · rw [if_neg h0, if_neg h1, if_neg h2, if_pos h3]
    refine wp_aload_n d_MO_state_34 rfl rfl ?_
    refine wp_get xf_MO_173 d_MO_state_35 (by repeat first | exact xg_eq | exact xn_eq (by first | rfl | omega) | refine xg_ne (by first | omega | assumption | (simp only [xput, xnew]; omega)) ?_ | refine xn_ne (by first | omega | assumption | (simp only [xput, xnew]; omega)) ?_ | assumption | exact rfl) (by rfl) ?_
    refine wp_if_eq (tgt := 45) d_MO_state_38 (by decide) (fun h9 => ?_) (fun h9 => ?_)
    · refine wp_iconst (v := 0) d_MO_state_45 (by rfl) ?_
      refine wp_ireturn d_MO_state_46 rfl (by first | rfl | assumption) ?_
      rw [bI_0.mp h9]
      exact ⟨rfl, rfl⟩
    · refine wp_iconst (v := 1) d_MO_state_41 (by rfl) ?_
      refine wp_goto (tgt := 46) d_MO_state_42 (by decide) ?_
      refine wp_ireturn d_MO_state_46 rfl (by first | rfl | assumption) ?_
      rw [b_t (fun z => h9 (bI_0.mpr z))]
      exact ⟨rfl, rfl⟩
  rw [if_neg h0, if_neg h1, if_neg h2, if_neg h3]
  refine wp_iload_n d_MO_state_47 rfl rfl ?_
  refine wp_iconst (v := 4) d_MO_state_48 (by rfl) ?_
  refine wp_icmp_ne (tgt := 71) d_MO_state_49 (by decide) (fun h4 => ?_) (fun h4 => ?_)
  · refine wp_iconst (v := (-1)) d_MO_state_71 (by rfl) ?_
    refine wp_ireturn d_MO_state_72 rfl (by first | rfl | assumption) ?_
    rw [if_neg h4]
    exact ⟨rfl, rfl⟩
  rw [if_pos h4]
  refine wp_aload_n d_MO_state_52 rfl rfl ?_
  refine wp_get xf_MO_173 d_MO_state_53 (by repeat first | exact xg_eq | exact xn_eq (by first | rfl | omega) | refine xg_ne (by first | omega | assumption | (simp only [xput, xnew]; omega)) ?_ | refine xn_ne (by first | omega | assumption | (simp only [xput, xnew]; omega)) ?_ | assumption | exact rfl) (by rfl) ?_
  refine wp_if_eq (tgt := 66) d_MO_state_56 (by decide) (fun h9 => ?_) (fun h9 => ?_)
  · refine wp_bipush (v := (-2)) d_MO_state_66 (by rfl) ?_
    refine wp_goto (tgt := 72) d_MO_state_68 (by decide) ?_
    refine wp_ireturn d_MO_state_72 rfl (by first | rfl | assumption) ?_
    rw [bI_0.mp h9]
    exact ⟨rfl, rfl⟩
  · refine wp_aload_n d_MO_state_59 rfl rfl ?_
    refine wp_get xf_MO_123 d_MO_state_60 (by repeat first | exact xg_eq | exact xn_eq (by first | rfl | omega) | refine xg_ne (by first | omega | assumption | (simp only [xput, xnew]; omega)) ?_ | refine xn_ne (by first | omega | assumption | (simp only [xput, xnew]; omega)) ?_ | assumption | exact rfl) (by rfl) ?_
    refine wp_goto (tgt := 72) d_MO_state_63 (by decide) ?_
    refine wp_ireturn d_MO_state_72 rfl (by first | rfl | assumption) ?_
    rw [b_t (fun z => h9 (bI_0.mpr z))]
    exact ⟨rfl, rfl⟩
def mfP (E : xE) (h : xH) (A : MA3) (w : WS) (D : MD) (R : Nat ⊕ (Bool × Nat × Nat)) (r' : Option Value) (h' : xH) : Prop := match R with
  | .inl k => r' = some (.int (nI k)) ∧ mfr E h h' ∧ ∃ B', bOk B' ∧ MoW E h' A B' w D
  | .inr q => r' = some (.int (-2)) ∧ mfr E h h' ∧ ∃ B', bOk B' ∧ MoW E h' A B' w D ∧ B'.2.2.2.2.2.2.2.2 = q.2.2
theorem c_MO_fault (hE : xOK E) (hm : MoW E h A B w D) (hB : bOk B) : wpc E 5 m_MO_fault [.ref (xb E + 21)] h (fun r' h' => mfP E h A w D (ckF A.1 B) r' h') := by
  have ho := hm.obj
  obtain ⟨s, o, t, hcd, hl0, hm1⟩ := hm
  refine wpc_of rfl (Nat.le_of_ble_eq_true rfl) ?_
  refine wp_aload_n d_MO_fault_0 rfl rfl ?_
  refine wp_callV0 xc_MO_176 d_MO_fault_1 (Nat.le_of_ble_eq_true rfl) (by repeat first | exact xg_eq | exact xn_eq (by first | rfl | omega) | refine xg_ne (by first | omega | assumption | (simp only [xput, xnew]; omega)) ?_ | refine xn_ne (by first | omega | assumption | (simp only [xput, xnew]; omega)) ?_ | assumption | exact rfl) (c_MO_check hE hm1 hB) (by omega) (fun r g2 hp => ?_)
  cases hR : ckF A.1 B with
  | inl k =>
    rw [hR] at hp
    obtain ⟨rfl, k40, f2, B', b2, m2⟩ := hp
    refine wp_ireturn d_MO_fault_4 rfl (by first | rfl | assumption) ?_
    exact ⟨rfl, f2, B', b2, s, o, t, hcd, hl0, m2⟩
  | inr q =>
    rw [hR] at hp
    obtain ⟨rfl, f2, B', b2, m2, e1, e2, e3⟩ := hp
    refine wp_ireturn d_MO_fault_4 rfl (by first | rfl | assumption) ?_
    exact ⟨rfl, f2, B', b2, ⟨s, o, t, hcd, hl0, m2⟩, e3⟩
def wrI (w : WS) : WSt := (0, 0, 0, 0, wOp 0 0 ([], w.2.1, w.2.2.1, w.2.2.2.1, w.2.2.2.2.1, w.2.2.2.2.2.1, 0))
def cmP (E : xE) (h : xH) (A : MA3) (w : WS) (D : MD) (R : Nat ⊕ (Bool × Nat × Nat)) (r' : Option Value) (h' : xH) : Prop := mfr E h h' ∧ ∃ B', bOk B' ∧ (match R with
  | .inl _ => r' = some (.int (-3)) ∧ MoW E h' A B' w (dR false D)
  | .inr q => if q.1 = true then r' = some (.int (-4)) ∧ MoW E h' A B' w (dR false D) else if 120 < q.2.2 then r' = some (.int (-5)) ∧ MoW E h' A B' w (dR false D) else r' = some (.int (nI q.2.1)) ∧ MoW E h' A B' (wrZ (wrR A.1 28 (wrI w))) (dF false (dR true D)) ∧ B'.2.2.2.2.2.2.2.2 = q.2.2)
theorem c_MO_compile (hE : xOK E) (hm : MoW E h A B w D) (hB : bOk B) (hv : ∀ q, ckF A.1 B = .inr q → q.1 = false → q.2.2 ≤ 120 → wrV A.1 28 (wrI w)) (hsz : ∀ q, ckF A.1 B = .inr q → q.2.2 ≤ 1000) : wpc E 5 m_MO_compile [.ref (xb E + 21)] h (fun r' h' => cmP E h A w D (ckF A.1 B) r' h') := by
  obtain ⟨s, o, t, hcd, hl0, hm1⟩ := hm
  obtain ⟨fp, ft, fo, qq, o21, a22, a23, a24, a25, a26, a27, a28, a29, a30, a31, a32, a33, a34, a35, a36, a37, a38, a39, a40⟩ := hm1
  refine wpc_of rfl (Nat.le_of_ble_eq_true rfl) ?_
  refine wp_aload_n d_MO_compile_0 rfl rfl ?_
  refine wp_iconst (v := 0) d_MO_compile_1 (by rfl) ?_
  refine wp_put xf_MO_173 xg_MO (Or.inl rfl) d_MO_compile_2 (by repeat first | exact xg_eq | exact xn_eq (by first | rfl | omega) | refine xg_ne (by first | omega | assumption | (simp only [xput, xnew]; omega)) ?_ | refine xn_ne (by first | omega | assumption | (simp only [xput, xnew]; omega)) ?_ | assumption | exact rfl) (by first | rfl | assumption | exact bI_z _) (by first | rfl | assumption | exact bI_f _) (Nat.le_of_ble_eq_true rfl) ?_
  generalize hg3 : xput h _ _ = g3
  have f3 : mfr E h g3 := by rw [← hg3]; exact mfr.rf.put (by omega)
  have m3 : Mo E g3 A B (s, o, t, w.1.length, w.2) (dR false D) := by rw [← hg3]; exact ⟨fp, ft, fo, qq, (by first | (repeat (refine xg_ne (by omega) ?_)); first | exact xg_eq | exact o21), (by first | (repeat (refine xg_ne (by omega) ?_)); first | exact xg_eq | exact a22), (by first | (repeat (refine xg_ne (by omega) ?_)); first | exact xg_eq | exact a23), (by first | (repeat (refine xg_ne (by omega) ?_)); first | exact xg_eq | exact a24), (by first | (repeat (refine xg_ne (by omega) ?_)); first | exact xg_eq | exact a25), (by first | (repeat (refine xg_ne (by omega) ?_)); first | exact xg_eq | exact a26), (by first | (repeat (refine xg_ne (by omega) ?_)); first | exact xg_eq | exact a27), (by first | (repeat (refine xg_ne (by omega) ?_)); first | exact xg_eq | exact a28), (by first | (repeat (refine xg_ne (by omega) ?_)); first | exact xg_eq | exact a29), (by first | (repeat (refine xg_ne (by omega) ?_)); first | exact xg_eq | exact a30), (by first | (repeat (refine xg_ne (by omega) ?_)); first | exact xg_eq | exact a31), (by first | (repeat (refine xg_ne (by omega) ?_)); first | exact xg_eq | exact a32), (by first | (repeat (refine xg_ne (by omega) ?_)); first | exact xg_eq | exact a33), (by first | (repeat (refine xg_ne (by omega) ?_)); first | exact xg_eq | exact a34), (by first | (repeat (refine xg_ne (by omega) ?_)); first | exact xg_eq | exact a35), (by first | (repeat (refine xg_ne (by omega) ?_)); first | exact xg_eq | exact a36), (by first | (repeat (refine xg_ne (by omega) ?_)); first | exact xg_eq | exact a37), (by first | (repeat (refine xg_ne (by omega) ?_)); first | exact xg_eq | exact a38), (by first | (repeat (refine xg_ne (by omega) ?_)); first | exact xg_eq | exact a39), (by first | (repeat (refine xg_ne (by omega) ?_)); first | exact xg_eq | exact a40)⟩
  clear hg3
  have o3 := m3.obj
  refine wp_aload_n d_MO_compile_5 rfl rfl ?_
  refine wp_callV0 xc_MO_176 d_MO_compile_6 (Nat.le_of_ble_eq_true rfl) (by repeat first | exact xg_eq | exact xn_eq (by first | rfl | omega) | refine xg_ne (by first | omega | assumption | (simp only [xput, xnew]; omega)) ?_ | refine xn_ne (by first | omega | assumption | (simp only [xput, xnew]; omega)) ?_ | assumption | exact rfl) (c_MO_check hE m3 hB) (by omega) (fun r g2 hp => ?_)
  cases hR : ckF A.1 B with
  | inl k =>
    rw [hR] at hp
    obtain ⟨rfl, k40, f2, B', b2, m2⟩ := hp
    refine wp_bipush (v := (-2)) d_MO_compile_9 (by rfl) ?_
    refine wp_icmp_eq (tgt := 17) d_MO_compile_11 (by decide) (fun hc => ?_) (fun hc => ?_)
    · exact absurd hc (fun z => nI_pos (n := k) (by omega) (by rw [z]; decide))
    refine wp_bipush (v := (-3)) d_MO_compile_14 (by rfl) ?_
    refine wp_ireturn d_MO_compile_16 rfl (by first | rfl | assumption) ?_
    exact ⟨f3.tr f2, B', b2, rfl, s, o, t, hcd, hl0, m2⟩
  | inr q =>
    rw [hR] at hp
    obtain ⟨rfl, f2, B', b2, m2, e1, e2, e3⟩ := hp
    have hsz := hsz q hR
    have o2 := m2.obj
    refine wp_bipush (v := (-2)) d_MO_compile_9 (by rfl) ?_
    refine wp_icmp_eq (tgt := 17) d_MO_compile_11 (by decide) (fun hc => ?_) (fun hc => ?_)
    rotate_left
    · exact absurd rfl hc
    refine wp_aload_n d_MO_compile_17 rfl rfl ?_
    refine wp_get xf_MO_87 d_MO_compile_18 (by repeat first | exact xg_eq | exact xn_eq (by first | rfl | omega) | refine xg_ne (by first | omega | assumption | (simp only [xput, xnew]; omega)) ?_ | refine xn_ne (by first | omega | assumption | (simp only [xput, xnew]; omega)) ?_ | assumption | exact rfl) (by rfl) ?_
    rw [e1]
    refine wp_if_eq (tgt := 27) d_MO_compile_21 (by decide) (fun hc2 => ?_) (fun hc2 => ?_)
    rotate_left
    · have hq : q.1 = true := b_t (fun z => hc2 (bI_0.mpr z))
      refine wp_bipush (v := (-4)) d_MO_compile_24 (by rfl) ?_
      refine wp_ireturn d_MO_compile_26 rfl (by first | rfl | assumption) ?_
      refine ⟨f3.tr f2, B', b2, ?_⟩
      show if _ then _ else _
      rw [if_pos hq]
      exact ⟨rfl, s, o, t, hcd, hl0, m2⟩
    have hq := bI_0.mp hc2
    refine wp_aload_n d_MO_compile_27 rfl rfl ?_
    refine wp_get xf_MO_123 d_MO_compile_28 (by repeat first | exact xg_eq | exact xn_eq (by first | rfl | omega) | refine xg_ne (by first | omega | assumption | (simp only [xput, xnew]; omega)) ?_ | refine xn_ne (by first | omega | assumption | (simp only [xput, xnew]; omega)) ?_ | assumption | exact rfl) (by rfl) ?_
    refine wp_bipush (v := 120) d_MO_compile_31 (by rfl) ?_
    rw [e3]
    refine wp_icmp_le (tgt := 39) d_MO_compile_33 (by decide) (fun hc3 => ?_) (fun hc3 => ?_)
    rotate_left
    · have h120 : ¬ q.2.2 ≤ 120 := fun z => hc3 ((nI_leI (b := 120) (by omega) (by omega)).mpr z)
      refine wp_bipush (v := (-5)) d_MO_compile_36 (by rfl) ?_
      refine wp_ireturn d_MO_compile_38 rfl (by first | rfl | assumption) ?_
      refine ⟨f3.tr f2, B', b2, ?_⟩
      show if _ then _ else _
      rw [if_neg (by rw [hq]; decide), if_pos (by omega)]
      exact ⟨rfl, s, o, t, hcd, hl0, m2⟩
    have h120 : q.2.2 ≤ 120 := (nI_leI (b := 120) (by omega) (by omega)).mp hc3
    refine wp_aload_n d_MO_compile_39 rfl rfl ?_
    refine wp_callV0 xc_MO_180 d_MO_compile_40 (Nat.le_of_ble_eq_true rfl) (by repeat first | exact xg_eq | exact xn_eq (by first | rfl | omega) | refine xg_ne (by first | omega | assumption | (simp only [xput, xnew]; omega)) ?_ | refine xn_ne (by first | omega | assumption | (simp only [xput, xnew]; omega)) ?_ | assumption | exact rfl) (c_MO_write hE m2 (hv q hR hq h120)) (by omega) (fun r g4 hp => ?_)
    obtain ⟨rfl, f4, m4⟩ := hp
    have m4 : MoW E g4 A B' (wrZ (wrR A.1 28 (wrI w))) (dR false D) := m4
    rw [show (fun r' h' => cmP E h A w D (.inr q) r' h') = (fun r' h' => mfr E h h' ∧ ∃ B', bOk B' ∧ (if q.1 = true then r' = some (.int (-4)) ∧ MoW E h' A B' w (dR false D) else if 120 < q.2.2 then r' = some (.int (-5)) ∧ MoW E h' A B' w (dR false D) else r' = some (.int (nI q.2.1)) ∧ MoW E h' A B' (wrZ (wrR A.1 28 (wrI w))) (dF false (dR true D)) ∧ B'.2.2.2.2.2.2.2.2 = q.2.2)) from rfl]
    generalize wrZ (wrR A.1 28 (wrI w)) = w' at *
    obtain ⟨s, o, t, hcd, hl0, hm1⟩ := m4
    clear fp ft fo qq o21 a22 a23 a24 a25 a26 a27 a28 a29 a30 a31 a32 a33 a34 a35 a36 a37 a38 a39 a40
    obtain ⟨fp, ft, fo, qq, o21, a22, a23, a24, a25, a26, a27, a28, a29, a30, a31, a32, a33, a34, a35, a36, a37, a38, a39, a40⟩ := hm1
    refine wp_aload_n d_MO_compile_43 rfl rfl ?_
    refine wp_iconst (v := 1) d_MO_compile_44 (by rfl) ?_
    refine wp_put xf_MO_173 xg_MO (Or.inl rfl) d_MO_compile_45 (by repeat first | exact xg_eq | exact xn_eq (by first | rfl | omega) | refine xg_ne (by first | omega | assumption | (simp only [xput, xnew]; omega)) ?_ | refine xn_ne (by first | omega | assumption | (simp only [xput, xnew]; omega)) ?_ | assumption | exact rfl) (by first | rfl | assumption | exact bI_z _) (by first | rfl | assumption | exact bI_f _) (Nat.le_of_ble_eq_true rfl) ?_
    refine wp_aload_n d_MO_compile_48 rfl rfl ?_
    refine wp_iconst (v := 0) d_MO_compile_49 (by rfl) ?_
    refine wp_put xf_MO_183 xg_MO (Or.inl rfl) d_MO_compile_50 (by repeat first | exact xg_eq | exact xn_eq (by first | rfl | omega) | refine xg_ne (by first | omega | assumption | (simp only [xput, xnew]; omega)) ?_ | refine xn_ne (by first | omega | assumption | (simp only [xput, xnew]; omega)) ?_ | assumption | exact rfl) (by first | rfl | assumption | exact bI_z _) (by first | rfl | assumption | exact bI_f _) (Nat.le_of_ble_eq_true rfl) ?_
    refine wp_aload_n d_MO_compile_53 rfl rfl ?_
    refine wp_get xf_MO_104 d_MO_compile_54 (by repeat first | exact xg_eq | exact xn_eq (by first | rfl | omega) | refine xg_ne (by first | omega | assumption | (simp only [xput, xnew]; omega)) ?_ | refine xn_ne (by first | omega | assumption | (simp only [xput, xnew]; omega)) ?_ | assumption | exact rfl) (by rfl) ?_
    refine wp_ireturn d_MO_compile_57 rfl (by first | rfl | assumption) ?_
    refine ⟨(((f3.tr f2).tr f4).put (by omega)).put (by omega), B', b2, ?_⟩
    show if _ then _ else _
    rw [if_neg (by rw [hq]; decide), if_neg (by omega)]
    exact ⟨by rw [e2], ⟨s, o, t, hcd, hl0, ⟨fp, ft, fo, qq, (by first | (repeat (refine xg_ne (by omega) ?_)); first | exact xg_eq | exact o21), (by first | (repeat (refine xg_ne (by omega) ?_)); first | exact xg_eq | exact a22), (by first | (repeat (refine xg_ne (by omega) ?_)); first | exact xg_eq | exact a23), (by first | (repeat (refine xg_ne (by omega) ?_)); first | exact xg_eq | exact a24), (by first | (repeat (refine xg_ne (by omega) ?_)); first | exact xg_eq | exact a25), (by first | (repeat (refine xg_ne (by omega) ?_)); first | exact xg_eq | exact a26), (by first | (repeat (refine xg_ne (by omega) ?_)); first | exact xg_eq | exact a27), (by first | (repeat (refine xg_ne (by omega) ?_)); first | exact xg_eq | exact a28), (by first | (repeat (refine xg_ne (by omega) ?_)); first | exact xg_eq | exact a29), (by first | (repeat (refine xg_ne (by omega) ?_)); first | exact xg_eq | exact a30), (by first | (repeat (refine xg_ne (by omega) ?_)); first | exact xg_eq | exact a31), (by first | (repeat (refine xg_ne (by omega) ?_)); first | exact xg_eq | exact a32), (by first | (repeat (refine xg_ne (by omega) ?_)); first | exact xg_eq | exact a33), (by first | (repeat (refine xg_ne (by omega) ?_)); first | exact xg_eq | exact a34), (by first | (repeat (refine xg_ne (by omega) ?_)); first | exact xg_eq | exact a35), (by first | (repeat (refine xg_ne (by omega) ?_)); first | exact xg_eq | exact a36), (by first | (repeat (refine xg_ne (by omega) ?_)); first | exact xg_eq | exact a37), (by first | (repeat (refine xg_ne (by omega) ?_)); first | exact xg_eq | exact a38), (by first | (repeat (refine xg_ne (by omega) ?_)); first | exact xg_eq | exact a39), (by first | (repeat (refine xg_ne (by omega) ?_)); first | exact xg_eq | exact a40)⟩⟩, e3⟩
end M13
