section JA
variable {E : xE} {h : xH} {a n : Nat} {f : Nat → Int32}
def filled (n : Nat) (v : Int32) (f : Nat → Int32) : Nat → Int32 := fun k => if k < n then v else f k
theorem filled_step {i : Nat} {v : Int32} {f : Nat → Int32} : upd (filled i v f) i v = filled (i + 1) v f := by
  funext k
  simp only [upd, filled]
  by_cases h1 : k = i
  · rw [if_pos h1, if_pos (by omega)]
  · rw [if_neg h1]
    by_cases h2 : k < i
    · rw [if_pos h2, if_pos (by omega)]
    · rw [if_neg h2, if_neg (by omega)]
theorem filled_0 {v : Int32} {f : Nat → Int32} : filled 0 v f = f := rfl
theorem xput2 {h : xH} {a : Nat} {e e' : va_E} : xput (xput h a e) a e' = xput h a e' := by
  simp only [xput, Prod.mk.injEq, true_and]
  exact bx_uu _ _ _ _
theorem xput_self {h : xH} {a : Nat} {e : va_E} (ha : h.2.2 a = some e) : xput h a e = h := by
  obtain ⟨n, s, f⟩ := h
  simp only [xput, Prod.mk.injEq, true_and]
  funext j
  by_cases hj : j = a
  · subst hj; simp only [va_up, if_pos]; exact ha.symm
  · simp only [va_up, if_neg hj]
theorem c_JA_fill (hE : xOK E) (hn : n < 2 ^ 31) (ha : h.2.2 a = some (aI E n f)) (v : Int32) : wpc E 0 m_JA_fill [.ref a, .int v] h (fun r' h' => r' = none ∧ h' = xput h a (aI E n (filled n v f))) := by
  refine wpc_of rfl (Nat.le_of_ble_eq_true rfl) ?_
  refine wp_iconst (v := 0) d_JA_fill_0 (by rfl) ?_
  refine wp_istore_n d_JA_fill_1 rfl (by decide) rfl ?_
  refine wp_aload_n d_JA_fill_2 rfl rfl ?_
  refine wp_aln d_JA_fill_3 (by repeat first | assumption | exact xg_eq | exact xn_eq (by first | rfl | omega) | refine xg_ne (by first | assumption | omega | (simp only [xput, xnew]; omega)) ?_ | refine xn_ne (by first | assumption | omega | (simp only [xput, xnew]; omega)) ?_ | exact rfl) (by first | exact hE.i | exact hE.j | exact hE.z) ?_
  refine wp_istore_n d_JA_fill_4 rfl (by decide) rfl ?_
  have key : ∀ (k i : Nat), n - i ≤ k → i ≤ n → wp E 0 m_JA_fill 5 [(0, .ref a), (1, .int v), (2, .int (nI i)), (3, .int (nI n))] [] (xput h a (aI E n (filled i v f))) (fun r' h' => r' = none ∧ h' = xput h a (aI E n (filled n v f))) := by
    intro k
    induction k with
    | zero =>
      intro i h1 h2
      have : i = n := by omega
      subst this
      refine wp_iload_n d_JA_fill_5 rfl rfl ?_
      refine wp_iload_n d_JA_fill_6 rfl rfl ?_
      refine wp_icmp_ge (tgt := 20) d_JA_fill_7 (by decide) (fun hc => ?_) (fun hc => ?_)
      · refine wp_return d_JA_fill_20 rfl ?_
        exact ⟨rfl, rfl⟩
      · exact absurd (nI_le (Nat.le_refl _) hn) hc
    | succ k ih =>
      intro i h1 h2
      refine wp_iload_n d_JA_fill_5 rfl rfl ?_
      refine wp_iload_n d_JA_fill_6 rfl rfl ?_
      refine wp_icmp_ge (tgt := 20) d_JA_fill_7 (by decide) (fun hc => ?_) (fun hc => ?_)
      · rw [nI_leI hn (by omega)] at hc
        have : i = n := by omega
        subst this
        refine wp_return d_JA_fill_20 rfl ?_
        exact ⟨rfl, rfl⟩
      · rw [nI_leI hn (by omega)] at hc
        refine wp_aload_n d_JA_fill_10 rfl rfl ?_
        refine wp_iload_n d_JA_fill_11 rfl rfl ?_
        refine wp_iload_n d_JA_fill_12 rfl rfl ?_
        refine wp_iast d_JA_fill_13 (by repeat first | assumption | exact xg_eq | exact xn_eq (by first | rfl | omega) | refine xg_ne (by first | assumption | omega | (simp only [xput, xnew]; omega)) ?_ | refine xn_ne (by first | assumption | omega | (simp only [xput, xnew]; omega)) ?_ | exact rfl) hE.i (vp_in_nI (by omega) hn) ?_
        refine wp_iinc d_JA_fill_14 rfl rfl (by decide) rfl ?_
        refine wp_goto (tgt := 5) d_JA_fill_17 (by decide) ?_
        rw [nI_clamp (by omega), xput2, filled_step]
        have := ih (i + 1) (by omega) (by omega)
        rw [nI_succ] at this
        exact this
  have := key n 0 (by omega) (by omega)
  rw [filled_0, xput_self ha] at this
  exact this
theorem wp_mmax {d : Nat} {M : xM} {pc idx : Nat} {lo : List (Nat × Value)} {st : List Value} {P : Option Value → xH → Prop} {x y : Int32} (hl : Cond.methodLink M.1.cls idx m_JM_max.1 ∈ xGT) (hd : decode M.2.1 pc = .ok (.invokestatic idx, 3)) (hcat : (st.map fun v => v.category).sum ≤ 8) (hdd : 1 ≤ d)
    (k : wp E d M (pc + 3) lo (.int (if x < y then y else x) :: st) h P) : wp E d M pc lo (.int y :: .int x :: st) h P := by
  refine wp_al (h2 := h) 0 0 rfl rfl (fun p l e R s m args below meth c Q cells slots H locs ls C a1 a2 b1 b2 hR hlo hls kk => ?_) k
  obtain ⟨hx, hb, hr, hml, hown, hlk, hK, hnm⟩ := C
  have hts := x_hts hK (args := args)
  exact va_mmax hx hb (hml.trans hls.1.symm) hown (hts _ hl) (hts _ ki_JM_max) (hts _ kz_JM) (hts _ kc_JM_max) (by omega) (by omega) b1 b2 hd (kk H locs hR hlo)
theorem wp_mmin {d : Nat} {M : xM} {pc idx : Nat} {lo : List (Nat × Value)} {st : List Value} {P : Option Value → xH → Prop} {x y : Int32} (hl : Cond.methodLink M.1.cls idx m_JM_min.1 ∈ xGT) (hd : decode M.2.1 pc = .ok (.invokestatic idx, 3)) (hcat : (st.map fun v => v.category).sum ≤ 8) (hdd : 1 ≤ d)
    (k : wp E d M (pc + 3) lo (.int (if y < x then y else x) :: st) h P) : wp E d M pc lo (.int y :: .int x :: st) h P := by
  refine wp_al (h2 := h) 0 0 rfl rfl (fun p l e R s m args below meth c Q cells slots H locs ls C a1 a2 b1 b2 hR hlo hls kk => ?_) k
  obtain ⟨hx, hb, hr, hml, hown, hlk, hK, hnm⟩ := C
  have hts := x_hts hK (args := args)
  exact va_mmin hx hb (hml.trans hls.1.symm) hown (hts _ hl) (hts _ ki_JM_min) (hts _ kz_JM) (hts _ kc_JM_min) (by omega) (by omega) b1 b2 hd (kk H locs hR hlo)
end JA
def Bd (E : xE) (h : xH) (a r : Nat) (f : Nat → Int32) : Prop := h.2.2 a = some (ob 1 [.ref r]) ∧ h.2.2 r = some (aI E 14 f) ∧ a ≠ r
def bdAt (f : Nat → Int32) (s : Int32) : Int32 := if s < 0 then -2 else if nI 14 ≤ s then -2 else f s.toNatClampNeg
section BO
variable {E : xE} {h : xH} {a r : Nat} {f : Nat → Int32}
theorem c_BO_beginSlot (x : Int32) : wpc E 0 m_BO_beginSlot [.int x] h (fun r' h' => r' = some (.int (2 * x)) ∧ h' = h) := by
  refine wpc_of rfl (Nat.le_of_ble_eq_true rfl) ?_
  refine wp_iconst (v := 2) d_BO_beginSlot_0 (by rfl) ?_
  refine wp_iload_n d_BO_beginSlot_1 rfl rfl ?_
  refine wp_imul d_BO_beginSlot_2 ?_
  refine wp_ireturn d_BO_beginSlot_3 rfl (by first | rfl | assumption) ?_
  exact ⟨rfl, rfl⟩
theorem c_BO_endSlot (x : Int32) : wpc E 0 m_BO_endSlot [.int x] h (fun r' h' => r' = some (.int (2 * x + 1)) ∧ h' = h) := by
  refine wpc_of rfl (Nat.le_of_ble_eq_true rfl) ?_
  refine wp_iconst (v := 2) d_BO_endSlot_0 (by rfl) ?_
  refine wp_iload_n d_BO_endSlot_1 rfl rfl ?_
  refine wp_imul d_BO_endSlot_2 ?_
  refine wp_iconst (v := 1) d_BO_endSlot_3 (by rfl) ?_
  refine wp_iadd d_BO_endSlot_4 ?_
  refine wp_ireturn d_BO_endSlot_5 rfl (by first | rfl | assumption) ?_
  exact ⟨rfl, rfl⟩
theorem c_BO_inSlot (hE : xOK E) (hs : Bd E h a r f) (x : Int32) : wpc E 0 m_BO_inSlot [.ref a, .int x] h (fun r' h' => r' = some (.int (bdAt f x)) ∧ h' = h) := by
  obtain ⟨h1, h2, h3⟩ := hs
  refine wpc_of rfl (Nat.le_of_ble_eq_true rfl) ?_
  refine wp_iload_n d_BO_inSlot_0 rfl rfl ?_
  refine wp_if_lt (tgt := 22) d_BO_inSlot_1 (by decide) (fun hc => ?_) (fun hc => ?_)
  · refine wp_bipush (v := (-2)) d_BO_inSlot_22 (by rfl) ?_
    refine wp_ireturn d_BO_inSlot_24 rfl (by first | rfl | assumption) ?_
    rw [bdAt, if_pos hc]
    exact ⟨rfl, rfl⟩
  · refine wp_iload_n d_BO_inSlot_4 rfl rfl ?_
    refine wp_aload_n d_BO_inSlot_5 rfl rfl ?_
    refine wp_get xf_BO_9 d_BO_inSlot_6 (by repeat first | assumption | exact xg_eq | exact xn_eq (by first | rfl | omega) | refine xg_ne (by first | assumption | omega | (simp only [xput, xnew]; omega)) ?_ | refine xn_ne (by first | assumption | omega | (simp only [xput, xnew]; omega)) ?_ | exact rfl) (by rfl) ?_
    refine wp_aln d_BO_inSlot_9 (by repeat first | assumption | exact xg_eq | exact xn_eq (by first | rfl | omega) | refine xg_ne (by first | assumption | omega | (simp only [xput, xnew]; omega)) ?_ | refine xn_ne (by first | assumption | omega | (simp only [xput, xnew]; omega)) ?_ | exact rfl) (by first | exact hE.i | exact hE.j | exact hE.z) ?_
    refine wp_icmp_ge (tgt := 22) d_BO_inSlot_10 (by decide) (fun hc2 => ?_) (fun hc2 => ?_)
    · refine wp_bipush (v := (-2)) d_BO_inSlot_22 (by rfl) ?_
      refine wp_ireturn d_BO_inSlot_24 rfl (by first | rfl | assumption) ?_
      rw [bdAt, if_neg hc, if_pos hc2]
      exact ⟨rfl, rfl⟩
    · refine wp_aload_n d_BO_inSlot_13 rfl rfl ?_
      refine wp_get xf_BO_9 d_BO_inSlot_14 (by repeat first | assumption | exact xg_eq | exact xn_eq (by first | rfl | omega) | refine xg_ne (by first | assumption | omega | (simp only [xput, xnew]; omega)) ?_ | refine xn_ne (by first | assumption | omega | (simp only [xput, xnew]; omega)) ?_ | exact rfl) (by rfl) ?_
      refine wp_iload_n d_BO_inSlot_17 rfl rfl ?_
      obtain ⟨j, hj, rfl⟩ := nI_of hc
      have hc3 := hc2
      rw [nI_leI (by decide) hj] at hc2
      refine wp_iald d_BO_inSlot_18 (by repeat first | assumption | exact xg_eq | exact xn_eq (by first | rfl | omega) | refine xg_ne (by first | assumption | omega | (simp only [xput, xnew]; omega)) ?_ | refine xn_ne (by first | assumption | omega | (simp only [xput, xnew]; omega)) ?_ | exact rfl) hE.i (vp_in_nI (by omega) (by omega)) ?_
      refine wp_goto (tgt := 24) d_BO_inSlot_19 (by decide) ?_
      refine wp_ireturn d_BO_inSlot_24 rfl (by first | rfl | assumption) ?_
      rw [bdAt, if_neg hc, if_neg hc3]
      exact ⟨rfl, rfl⟩
theorem c_BO_begin (hE : xOK E) (hs : Bd E h a r f) (x : Int32) : wpc E 1 m_BO_begin [.ref a, .int x] h (fun r' h' => r' = some (.int (bdAt f (2 * x))) ∧ h' = h) := by
  obtain ⟨h1, h2, h3⟩ := id hs
  refine wpc_of rfl (Nat.le_of_ble_eq_true rfl) ?_
  refine wp_aload_n d_BO_begin_0 rfl rfl ?_
  refine wp_iload_n d_BO_begin_1 rfl rfl ?_
  refine wp_callS1 xc_BO_21 d_BO_begin_2 (Nat.le_of_ble_eq_true rfl) (c_BO_beginSlot x) (by omega) (fun r hh hp => ?_)
  obtain ⟨rfl, rfl⟩ := hp
  refine wp_callV1 xc_BO_25 d_BO_begin_5 (Nat.le_of_ble_eq_true rfl) (by repeat first | assumption | exact xg_eq | exact xn_eq (by first | rfl | omega) | refine xg_ne (by first | assumption | omega | (simp only [xput, xnew]; omega)) ?_ | refine xn_ne (by first | assumption | omega | (simp only [xput, xnew]; omega)) ?_ | exact rfl) (c_BO_inSlot hE hs _) (by omega) (fun r hh hp => ?_)
  obtain ⟨rfl, rfl⟩ := hp
  refine wp_ireturn d_BO_begin_8 rfl (by first | rfl | assumption) ?_
  exact ⟨rfl, rfl⟩
theorem c_BO_end (hE : xOK E) (hs : Bd E h a r f) (x : Int32) : wpc E 1 m_BO_end [.ref a, .int x] h (fun r' h' => r' = some (.int (bdAt f (2 * x + 1))) ∧ h' = h) := by
  obtain ⟨h1, h2, h3⟩ := id hs
  refine wpc_of rfl (Nat.le_of_ble_eq_true rfl) ?_
  refine wp_aload_n d_BO_end_0 rfl rfl ?_
  refine wp_iload_n d_BO_end_1 rfl rfl ?_
  refine wp_callS1 xc_BO_28 d_BO_end_2 (Nat.le_of_ble_eq_true rfl) (c_BO_endSlot x) (by omega) (fun r hh hp => ?_)
  obtain ⟨rfl, rfl⟩ := hp
  refine wp_callV1 xc_BO_25 d_BO_end_5 (Nat.le_of_ble_eq_true rfl) (by repeat first | assumption | exact xg_eq | exact xn_eq (by first | rfl | omega) | refine xg_ne (by first | assumption | omega | (simp only [xput, xnew]; omega)) ?_ | refine xn_ne (by first | assumption | omega | (simp only [xput, xnew]; omega)) ?_ | exact rfl) (c_BO_inSlot hE hs _) (by omega) (fun r hh hp => ?_)
  obtain ⟨rfl, rfl⟩ := hp
  refine wp_ireturn d_BO_end_8 rfl (by first | rfl | assumption) ?_
  exact ⟨rfl, rfl⟩
theorem c_BO_clear (hE : xOK E) (hs : Bd E h a r f) : wpc E 1 m_BO_clear [.ref a] h (fun r' h' => r' = none ∧ h' = xput h r (aI E 14 (filled 14 (-2) f))) := by
  obtain ⟨h1, h2, h3⟩ := id hs
  refine wpc_of rfl (Nat.le_of_ble_eq_true rfl) ?_
  refine wp_aload_n d_BO_clear_0 rfl rfl ?_
  refine wp_get xf_BO_9 d_BO_clear_1 (by repeat first | assumption | exact xg_eq | exact xn_eq (by first | rfl | omega) | refine xg_ne (by first | assumption | omega | (simp only [xput, xnew]; omega)) ?_ | refine xn_ne (by first | assumption | omega | (simp only [xput, xnew]; omega)) ?_ | exact rfl) (by rfl) ?_
  refine wp_bipush (v := (-2)) d_BO_clear_4 (by rfl) ?_
  refine wp_callS2 xc_BO_15 d_BO_clear_6 (Nat.le_of_ble_eq_true rfl) (c_JA_fill hE (by decide) h2 _) (by omega) (fun r hh hp => ?_)
  obtain ⟨rfl, rfl⟩ := hp
  refine wp_return d_BO_clear_9 rfl ?_
  exact ⟨rfl, rfl⟩
def bdSet (f : Nat → Int32) (s v : Int32) : Nat → Int32 := if s < 0 then f else if nI 14 ≤ s then f else upd f s.toNatClampNeg v
theorem c_BO_mark (hE : xOK E) (hs : Bd E h a r f) (x v : Int32) : wpc E 0 m_BO_mark [.ref a, .int x, .int v] h (fun r' h' => r' = none ∧ h' = xput h r (aI E 14 (bdSet f x v))) := by
  obtain ⟨h1, h2, h3⟩ := hs
  refine wpc_of rfl (Nat.le_of_ble_eq_true rfl) ?_
  refine wp_iload_n d_BO_mark_0 rfl rfl ?_
  refine wp_if_lt (tgt := 20) d_BO_mark_1 (by decide) (fun hc => ?_) (fun hc => ?_)
  · refine wp_return d_BO_mark_20 rfl ?_
    rw [bdSet, if_pos hc, xput_self h2]
    exact ⟨rfl, rfl⟩
  · refine wp_iload_n d_BO_mark_4 rfl rfl ?_
    refine wp_aload_n d_BO_mark_5 rfl rfl ?_
    refine wp_get xf_BO_9 d_BO_mark_6 (by repeat first | assumption | exact xg_eq | exact xn_eq (by first | rfl | omega) | refine xg_ne (by first | assumption | omega | (simp only [xput, xnew]; omega)) ?_ | refine xn_ne (by first | assumption | omega | (simp only [xput, xnew]; omega)) ?_ | exact rfl) (by rfl) ?_
    refine wp_aln d_BO_mark_9 (by repeat first | assumption | exact xg_eq | exact xn_eq (by first | rfl | omega) | refine xg_ne (by first | assumption | omega | (simp only [xput, xnew]; omega)) ?_ | refine xn_ne (by first | assumption | omega | (simp only [xput, xnew]; omega)) ?_ | exact rfl) (by first | exact hE.i | exact hE.j | exact hE.z) ?_
    refine wp_icmp_ge (tgt := 20) d_BO_mark_10 (by decide) (fun hc2 => ?_) (fun hc2 => ?_)
    · refine wp_return d_BO_mark_20 rfl ?_
      rw [bdSet, if_neg hc, if_pos hc2, xput_self h2]
      exact ⟨rfl, rfl⟩
    · refine wp_aload_n d_BO_mark_13 rfl rfl ?_
      refine wp_get xf_BO_9 d_BO_mark_14 (by repeat first | assumption | exact xg_eq | exact xn_eq (by first | rfl | omega) | refine xg_ne (by first | assumption | omega | (simp only [xput, xnew]; omega)) ?_ | refine xn_ne (by first | assumption | omega | (simp only [xput, xnew]; omega)) ?_ | exact rfl) (by rfl) ?_
      refine wp_iload_n d_BO_mark_17 rfl rfl ?_
      refine wp_iload_n d_BO_mark_18 rfl rfl ?_
      obtain ⟨j, hj, rfl⟩ := nI_of hc
      have hc3 := hc2
      rw [nI_leI (by decide) hj] at hc2
      refine wp_iast d_BO_mark_19 (by repeat first | assumption | exact xg_eq | exact xn_eq (by first | rfl | omega) | refine xg_ne (by first | assumption | omega | (simp only [xput, xnew]; omega)) ?_ | refine xn_ne (by first | assumption | omega | (simp only [xput, xnew]; omega)) ?_ | exact rfl) hE.i (vp_in_nI (by omega) (by omega)) ?_
      refine wp_return d_BO_mark_20 rfl ?_
      rw [bdSet, if_neg hc, if_neg hc3]
      exact ⟨rfl, rfl⟩
theorem c_BO_placeBehind (hE : xOK E) (hs : Bd E h a r f) : wpc E 2 m_BO_placeBehind [.ref a] h (fun r' h' => r' = some (.int (if f 0 = f 1 then f 1 + 1 else f 1)) ∧ h' = h) := by
  obtain ⟨h1, h2, h3⟩ := id hs
  refine wpc_of rfl (Nat.le_of_ble_eq_true rfl) ?_
  refine wp_aload_n d_BO_placeBehind_0 rfl rfl ?_
  refine wp_iconst (v := 0) d_BO_placeBehind_1 (by rfl) ?_
  refine wp_callV1 xc_BO_31 d_BO_placeBehind_2 (Nat.le_of_ble_eq_true rfl) (by repeat first | assumption | exact xg_eq | exact xn_eq (by first | rfl | omega) | refine xg_ne (by first | assumption | omega | (simp only [xput, xnew]; omega)) ?_ | refine xn_ne (by first | assumption | omega | (simp only [xput, xnew]; omega)) ?_ | exact rfl) (c_BO_begin hE hs _) (by omega) (fun r hh hp => ?_)
  obtain ⟨rfl, rfl⟩ := hp
  refine wp_aload_n d_BO_placeBehind_5 rfl rfl ?_
  refine wp_iconst (v := 0) d_BO_placeBehind_6 (by rfl) ?_
  refine wp_callV1 xc_BO_34 d_BO_placeBehind_7 (Nat.le_of_ble_eq_true rfl) (by repeat first | assumption | exact xg_eq | exact xn_eq (by first | rfl | omega) | refine xg_ne (by first | assumption | omega | (simp only [xput, xnew]; omega)) ?_ | refine xn_ne (by first | assumption | omega | (simp only [xput, xnew]; omega)) ?_ | exact rfl) (c_BO_end hE hs _) (by omega) (fun r hh hp => ?_)
  obtain ⟨rfl, rfl⟩ := hp
  have e0 : bdAt f (2 * 0) = f 0 := rfl
  have e1 : bdAt f (2 * 0 + 1) = f 1 := rfl
  rw [e0, e1]
  refine wp_icmp_ne (tgt := 23) d_BO_placeBehind_10 (by decide) (fun hc => ?_) (fun hc => ?_)
  · refine wp_aload_n d_BO_placeBehind_23 rfl rfl ?_
    refine wp_iconst (v := 0) d_BO_placeBehind_24 (by rfl) ?_
    refine wp_callV1 xc_BO_34 d_BO_placeBehind_25 (Nat.le_of_ble_eq_true rfl) (by repeat first | assumption | exact xg_eq | exact xn_eq (by first | rfl | omega) | refine xg_ne (by first | assumption | omega | (simp only [xput, xnew]; omega)) ?_ | refine xn_ne (by first | assumption | omega | (simp only [xput, xnew]; omega)) ?_ | exact rfl) (c_BO_end hE hs _) (by omega) (fun r hh hp => ?_)
    obtain ⟨rfl, rfl⟩ := hp
    refine wp_ireturn d_BO_placeBehind_28 rfl (by first | rfl | assumption) ?_
    rw [if_neg hc, e1]
    exact ⟨rfl, rfl⟩
  · refine wp_aload_n d_BO_placeBehind_13 rfl rfl ?_
    refine wp_iconst (v := 0) d_BO_placeBehind_14 (by rfl) ?_
    refine wp_callV1 xc_BO_34 d_BO_placeBehind_15 (Nat.le_of_ble_eq_true rfl) (by repeat first | assumption | exact xg_eq | exact xn_eq (by first | rfl | omega) | refine xg_ne (by first | assumption | omega | (simp only [xput, xnew]; omega)) ?_ | refine xn_ne (by first | assumption | omega | (simp only [xput, xnew]; omega)) ?_ | exact rfl) (c_BO_end hE hs _) (by omega) (fun r hh hp => ?_)
    obtain ⟨rfl, rfl⟩ := hp
    refine wp_iconst (v := 1) d_BO_placeBehind_18 (by rfl) ?_
    refine wp_iadd d_BO_placeBehind_19 ?_
    refine wp_goto (tgt := 28) d_BO_placeBehind_20 (by decide) ?_
    refine wp_ireturn d_BO_placeBehind_28 rfl (by first | rfl | assumption) ?_
    rw [if_pos hc, e1]
    exact ⟨rfl, rfl⟩
theorem c_BO_init (hE : xOK E) (h1 : h.2.2 a = some (ob 1 [.null])) (h2 : a < xb E + h.1) : wpc E 1 m_BO_init [.ref a] h (fun r' h' => r' = none ∧ xgr E [a] 1 14 h h' ∧ Bd E h' a (xb E + h.1) (filled 14 (-2) (fun _ => 0))) := by
  refine wpc_of rfl (Nat.le_of_ble_eq_true rfl) ?_
  refine wp_aload_n d_BO_init_0 rfl rfl ?_
  refine wp_objInit xo_BO_3 d_BO_init_1 (Nat.le_of_ble_eq_true rfl) (by omega) ?_
  refine wp_aload_n d_BO_init_4 rfl rfl ?_
  refine wp_bipush (v := 14) d_BO_init_5 (by rfl) ?_
  refine wp_newa (ty := .int) (N := 14) (a0 := (14, .inl (fun _ => 0))) rfl ka_int d_BO_init_7 hE.i rfl (fun _ h9 => h9) (by decide) (by decide) (by decide) ?_
  refine wp_put xf_BO_9 xg_BO (Or.inr ⟨rfl, rfl, rfl⟩) d_BO_init_9 (by repeat first | assumption | exact xg_eq | exact xn_eq (by first | rfl | omega) | refine xg_ne (by first | assumption | omega | (simp only [xput, xnew]; omega)) ?_ | refine xn_ne (by first | assumption | omega | (simp only [xput, xnew]; omega)) ?_ | exact rfl) (by first | rfl | assumption | exact bI_z _) (by first | rfl | assumption | exact bI_f _) (Nat.le_of_ble_eq_true rfl) ?_
  refine wp_aload_n d_BO_init_12 rfl rfl ?_
  refine wp_get xf_BO_9 d_BO_init_13 (by repeat first | assumption | exact xg_eq | exact xn_eq (by first | rfl | omega) | refine xg_ne (by first | assumption | omega | (simp only [xput, xnew]; omega)) ?_ | refine xn_ne (by first | assumption | omega | (simp only [xput, xnew]; omega)) ?_ | exact rfl) (by rfl) ?_
  refine wp_bipush (v := (-2)) d_BO_init_16 (by rfl) ?_
  refine wp_callS2 xc_BO_15 d_BO_init_18 (Nat.le_of_ble_eq_true rfl) (c_JA_fill hE (n := 14) (by decide) (by repeat first | assumption | exact xg_eq | exact xn_eq (by first | rfl | omega) | refine xg_ne (by first | assumption | omega | (simp only [xput, xnew]; omega)) ?_ | refine xn_ne (by first | assumption | omega | (simp only [xput, xnew]; omega)) ?_ | exact rfl) _) (by omega) (fun r hh hp => ?_)
  obtain ⟨rfl, rfl⟩ := hp
  refine wp_return d_BO_init_21 rfl ?_
  refine ⟨rfl, ⟨rfl, rfl, fun q q1 q2 => ?_⟩, (by repeat first | assumption | exact xg_eq | exact xn_eq (by first | rfl | omega) | refine xg_ne (by first | assumption | omega | (simp only [xput, xnew]; omega)) ?_ | refine xn_ne (by first | assumption | omega | (simp only [xput, xnew]; omega)) ?_ | exact rfl), (by repeat first | assumption | exact xg_eq | exact xn_eq (by first | rfl | omega) | refine xg_ne (by first | assumption | omega | (simp only [xput, xnew]; omega)) ?_ | refine xn_ne (by first | assumption | omega | (simp only [xput, xnew]; omega)) ?_ | exact rfl), by omega⟩
  have q3 : q ≠ a := fun e => q2 (by rw [e]; exact List.mem_singleton.mpr rfl)
  exact (by repeat first | assumption | exact xg_eq | exact xn_eq (by first | rfl | omega) | refine xg_ne (by first | assumption | omega | (simp only [xput, xnew]; omega)) ?_ | refine xn_ne (by first | assumption | omega | (simp only [xput, xnew]; omega)) ?_ | exact rfl)
end BO
