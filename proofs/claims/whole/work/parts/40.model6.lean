def wOp (d g : Nat) (w : WS) : WS := ((if 0 < g then w.1 ++ [(5, nI (2 * g), 0)] else w.1), va_up w.2.1 d w.1.length, va_up w.2.2.1 d (if 0 < g then w.1 ++ [(5, nI (2 * g), 0)] else w.1).length, va_up w.2.2.2.1 d g, va_up w.2.2.2.2.1 d w.2.2.2.2.2.2, w.2.2.2.2.2)
def cNx (p : Nat) (l : Cd) : Cd := cInsert p (6, 1, nI (l.length - p + 2)) l
def wNx (d : Nat) (w : WS) : WS := (cNx (w.2.2.1 d) w.1 ++ [(7, 0, 0)], w.2.1, va_up w.2.2.1 d (cNx (w.2.2.1 d) w.1 ++ [(7, 0, 0)]).length, w.2.2.2.1, w.2.2.2.2.1, va_up w.2.2.2.2.2.1 w.2.2.2.2.2.2 (cNx (w.2.2.1 d) w.1).length, w.2.2.2.2.2.2 + 1)
def cMd (p : Nat) (v : Int32) (l : Cd) : Cd := l.modify p (fun t => (t.1, v, t.2.2))
def clJ (ju : Nat → Nat) : Nat → Nat → Cd → Cd
  | 0, _, l => l
  | k + 1, j, l => clJ ju k (j + 1) (cMd (ju j) (nI (l.length - ju j)) l)
def clE (d : Nat) (w : WS) : Cd := clJ w.2.2.2.2.2.1 (w.2.2.2.2.2.2 - w.2.2.2.2.1 d) (w.2.2.2.2.1 d) w.1
def wCl (d : Nat) (w : WS) : WS := ((if 0 < w.2.2.2.1 d then clE d w ++ [(5, nI (2 * w.2.2.2.1 d + 1), 0)] else clE d w), w.2.1, w.2.2.1, w.2.2.2.1, w.2.2.2.2.1, w.2.2.2.2.2.1, w.2.2.2.2.1 d)
theorem cMd_len (p : Nat) (v : Int32) (l : Cd) : (cMd p v l).length = l.length := List.length_modify _ _ _
theorem cdF.md {s o t : Nat → Int32} {l : Cd} (h : cdF s o t l) {p : Nat} (hp : p < l.length) (v : Int32) : cdF s (upd o p v) t (cMd p v l) := by
  intro k hk
  rw [cMd_len] at hk
  have hk0 := h k hk
  rw [cIn, List.getD_eq_getElem?_getD] at hk0 ⊢
  rw [cMd, List.getElem?_modify]
  rw [List.getElem?_eq_getElem hk] at hk0 ⊢
  have hk0 : (s k, o k, t k) = l[k] := hk0
  by_cases hkp : p = k
  · subst hkp
    rw [pk_us]
    rw [← hk0]
    simp
  · rw [pk_un (fun e => hkp e.symm), hk0]
    simp [hkp]
theorem clJ_len (ju : Nat → Nat) : ∀ (k j : Nat) (l : Cd), (clJ ju k j l).length = l.length
  | 0, _, _ => rfl
  | k + 1, j, l => by rw [clJ, clJ_len, cMd_len]
section M6
variable {E : xE} {h : xH} {A : MA3} {B : MB} {w : WS} {D : MD}
theorem c_MO_open (hE : xOK E) (hm : MoW E h A B w D) (hl : w.1.length < 130) {d g : Nat} (hd : d ≤ 7) (hg : g ≤ 100) : wpc E 1 m_MO_open [.ref (xb E + 21), .int (nI d), .int (nI g)] h (fun r' h' => r' = none ∧ mfr E h h' ∧ MoW E h' A B (wOp d g w) D) := by
  have fin : ∀ (g2 : xH) (l : Cd), mfr E h g2 → MoW E g2 A B (l, va_up w.2.1 d w.1.length, w.2.2.1, va_up w.2.2.2.1 d g, w.2.2.2.2) D → l = (if 0 < g then w.1 ++ [(5, nI (2 * g), 0)] else w.1) → wp E 1 m_MO_open 30 [(0, .ref (xb E + 21)), (1, .int (nI d)), (2, .int (nI g))] [] g2 (fun r' h' => r' = none ∧ mfr E h h' ∧ MoW E h' A B (wOp d g w) D) := by
    intro g2 l f2 m2 hle
    obtain ⟨s, o, t, hc, hl0, hm⟩ := m2
    obtain ⟨fp, ft, fo, qq, o21, a22, a23, a24, a25, a26, a27, a28, a29, a30, a31, a32, a33, a34, a35, a36, a37, a38, a39, a40⟩ := hm
    refine wp_aload_n d_MO_open_30 rfl rfl ?_
    refine wp_get xf_MO_47 d_MO_open_31 (by repeat first | exact xg_eq | exact xn_eq (by first | rfl | omega) | refine xg_ne (by first | omega | assumption | (simp only [xput, xnew]; omega)) ?_ | refine xn_ne (by first | omega | assumption | (simp only [xput, xnew]; omega)) ?_ | assumption | exact rfl) (by rfl) ?_
    refine wp_iload_n d_MO_open_34 rfl rfl ?_
    refine wp_aload_n d_MO_open_35 rfl rfl ?_
    refine wp_get xf_MO_126 d_MO_open_36 (by repeat first | exact xg_eq | exact xn_eq (by first | rfl | omega) | refine xg_ne (by first | omega | assumption | (simp only [xput, xnew]; omega)) ?_ | refine xn_ne (by first | omega | assumption | (simp only [xput, xnew]; omega)) ?_ | assumption | exact rfl) (by rfl) ?_
    refine wp_iast d_MO_open_39 (by repeat first | exact xg_eq | exact xn_eq (by first | rfl | omega) | refine xg_ne (by first | omega | assumption | (simp only [xput, xnew]; omega)) ?_ | refine xn_ne (by first | omega | assumption | (simp only [xput, xnew]; omega)) ?_ | assumption | exact rfl) hE.i (vp_in_nI (by first | omega | (dsimp only; omega)) (by omega)) ?_
    rw [upd_nI (by omega)]
    refine wp_aload_n d_MO_open_40 rfl rfl ?_
    refine wp_get xf_MO_53 d_MO_open_41 (by repeat first | exact xg_eq | exact xn_eq (by first | rfl | omega) | refine xg_ne (by first | omega | assumption | (simp only [xput, xnew]; omega)) ?_ | refine xn_ne (by first | omega | assumption | (simp only [xput, xnew]; omega)) ?_ | assumption | exact rfl) (by rfl) ?_
    refine wp_iload_n d_MO_open_44 rfl rfl ?_
    refine wp_aload_n d_MO_open_45 rfl rfl ?_
    refine wp_get xf_MO_133 d_MO_open_46 (by repeat first | exact xg_eq | exact xn_eq (by first | rfl | omega) | refine xg_ne (by first | omega | assumption | (simp only [xput, xnew]; omega)) ?_ | refine xn_ne (by first | omega | assumption | (simp only [xput, xnew]; omega)) ?_ | assumption | exact rfl) (by rfl) ?_
    refine wp_iast d_MO_open_49 (by repeat first | exact xg_eq | exact xn_eq (by first | rfl | omega) | refine xg_ne (by first | omega | assumption | (simp only [xput, xnew]; omega)) ?_ | refine xn_ne (by first | omega | assumption | (simp only [xput, xnew]; omega)) ?_ | assumption | exact rfl) hE.i (vp_in_nI (by first | omega | (dsimp only; omega)) (by omega)) ?_
    rw [upd_nI (by omega)]
    refine wp_return d_MO_open_50 rfl ?_
    subst hle
    exact ⟨rfl, (f2.put (by omega)).put (by omega), s, o, t, hc, hl0, ⟨fp, ft, fo, qq, (by first | (repeat (refine xg_ne (by omega) ?_)); first | exact xg_eq | exact o21), (by first | (repeat (refine xg_ne (by omega) ?_)); first | exact xg_eq | exact a22), (by first | (repeat (refine xg_ne (by omega) ?_)); first | exact xg_eq | exact a23), (by first | (repeat (refine xg_ne (by omega) ?_)); first | exact xg_eq | exact a24), (by first | (repeat (refine xg_ne (by omega) ?_)); first | exact xg_eq | exact a25), (by first | (repeat (refine xg_ne (by omega) ?_)); first | exact xg_eq | exact a26), (by first | (repeat (refine xg_ne (by omega) ?_)); first | exact xg_eq | exact a27), (by first | (repeat (refine xg_ne (by omega) ?_)); first | exact xg_eq | exact a28), (by first | (repeat (refine xg_ne (by omega) ?_)); first | exact xg_eq | exact a29), (by first | (repeat (refine xg_ne (by omega) ?_)); first | exact xg_eq | exact a30), (by first | (repeat (refine xg_ne (by omega) ?_)); first | exact xg_eq | exact a31), (by first | (repeat (refine xg_ne (by omega) ?_)); first | exact xg_eq | exact a32), (by first | (repeat (refine xg_ne (by omega) ?_)); first | exact xg_eq | exact a33), (by first | (repeat (refine xg_ne (by omega) ?_)); first | exact xg_eq | exact a34), (by first | (repeat (refine xg_ne (by omega) ?_)); first | exact xg_eq | exact a35), (by first | (repeat (refine xg_ne (by omega) ?_)); first | exact xg_eq | exact a36), (by first | (repeat (refine xg_ne (by omega) ?_)); first | exact xg_eq | exact a37), (by first | (repeat (refine xg_ne (by omega) ?_)); first | exact xg_eq | exact a38), (by first | (repeat (refine xg_ne (by omega) ?_)); first | exact xg_eq | exact a39), (by first | (repeat (refine xg_ne (by omega) ?_)); first | exact xg_eq | exact a40)⟩⟩
  obtain ⟨s, o, t, hc, hl0, hm⟩ := id hm
  obtain ⟨fp, ft, fo, qq, o21, a22, a23, a24, a25, a26, a27, a28, a29, a30, a31, a32, a33, a34, a35, a36, a37, a38, a39, a40⟩ := hm
  refine wpc_of rfl (Nat.le_of_ble_eq_true rfl) ?_
  refine wp_aload_n d_MO_open_0 rfl rfl ?_
  refine wp_get xf_MO_50 d_MO_open_1 (by repeat first | exact xg_eq | exact xn_eq (by first | rfl | omega) | refine xg_ne (by first | omega | assumption | (simp only [xput, xnew]; omega)) ?_ | refine xn_ne (by first | omega | assumption | (simp only [xput, xnew]; omega)) ?_ | assumption | exact rfl) (by rfl) ?_
  refine wp_iload_n d_MO_open_4 rfl rfl ?_
  refine wp_iload_n d_MO_open_5 rfl rfl ?_
  refine wp_iast d_MO_open_6 (by repeat first | exact xg_eq | exact xn_eq (by first | rfl | omega) | refine xg_ne (by first | omega | assumption | (simp only [xput, xnew]; omega)) ?_ | refine xn_ne (by first | omega | assumption | (simp only [xput, xnew]; omega)) ?_ | assumption | exact rfl) hE.i (vp_in_nI (by first | omega | (dsimp only; omega)) (by omega)) ?_
  rw [upd_nI (by omega)]
  refine wp_aload_n d_MO_open_7 rfl rfl ?_
  refine wp_get xf_MO_44 d_MO_open_8 (by repeat first | exact xg_eq | exact xn_eq (by first | rfl | omega) | refine xg_ne (by first | omega | assumption | (simp only [xput, xnew]; omega)) ?_ | refine xn_ne (by first | omega | assumption | (simp only [xput, xnew]; omega)) ?_ | assumption | exact rfl) (by rfl) ?_
  refine wp_iload_n d_MO_open_11 rfl rfl ?_
  refine wp_aload_n d_MO_open_12 rfl rfl ?_
  refine wp_get xf_MO_126 d_MO_open_13 (by repeat first | exact xg_eq | exact xn_eq (by first | rfl | omega) | refine xg_ne (by first | omega | assumption | (simp only [xput, xnew]; omega)) ?_ | refine xn_ne (by first | omega | assumption | (simp only [xput, xnew]; omega)) ?_ | assumption | exact rfl) (by rfl) ?_
  refine wp_iast d_MO_open_16 (by repeat first | exact xg_eq | exact xn_eq (by first | rfl | omega) | refine xg_ne (by first | omega | assumption | (simp only [xput, xnew]; omega)) ?_ | refine xn_ne (by first | omega | assumption | (simp only [xput, xnew]; omega)) ?_ | assumption | exact rfl) hE.i (vp_in_nI (by first | omega | (dsimp only; omega)) (by omega)) ?_
  rw [upd_nI (by omega)]
  generalize hg3 : xput (xput h _ _) _ _ = g3
  have f3 : mfr E h g3 := by rw [← hg3]; exact (mfr.rf.put (by omega)).put (by omega)
  have m3 : MoW E g3 A B (w.1, va_up w.2.1 d w.1.length, w.2.2.1, va_up w.2.2.2.1 d g, w.2.2.2.2) D := by rw [← hg3]; exact ⟨s, o, t, hc, hl0, ⟨fp, ft, fo, qq, (by first | (repeat (refine xg_ne (by omega) ?_)); first | exact xg_eq | exact o21), (by first | (repeat (refine xg_ne (by omega) ?_)); first | exact xg_eq | exact a22), (by first | (repeat (refine xg_ne (by omega) ?_)); first | exact xg_eq | exact a23), (by first | (repeat (refine xg_ne (by omega) ?_)); first | exact xg_eq | exact a24), (by first | (repeat (refine xg_ne (by omega) ?_)); first | exact xg_eq | exact a25), (by first | (repeat (refine xg_ne (by omega) ?_)); first | exact xg_eq | exact a26), (by first | (repeat (refine xg_ne (by omega) ?_)); first | exact xg_eq | exact a27), (by first | (repeat (refine xg_ne (by omega) ?_)); first | exact xg_eq | exact a28), (by first | (repeat (refine xg_ne (by omega) ?_)); first | exact xg_eq | exact a29), (by first | (repeat (refine xg_ne (by omega) ?_)); first | exact xg_eq | exact a30), (by first | (repeat (refine xg_ne (by omega) ?_)); first | exact xg_eq | exact a31), (by first | (repeat (refine xg_ne (by omega) ?_)); first | exact xg_eq | exact a32), (by first | (repeat (refine xg_ne (by omega) ?_)); first | exact xg_eq | exact a33), (by first | (repeat (refine xg_ne (by omega) ?_)); first | exact xg_eq | exact a34), (by first | (repeat (refine xg_ne (by omega) ?_)); first | exact xg_eq | exact a35), (by first | (repeat (refine xg_ne (by omega) ?_)); first | exact xg_eq | exact a36), (by first | (repeat (refine xg_ne (by omega) ?_)); first | exact xg_eq | exact a37), (by first | (repeat (refine xg_ne (by omega) ?_)); first | exact xg_eq | exact a38), (by first | (repeat (refine xg_ne (by omega) ?_)); first | exact xg_eq | exact a39), (by first | (repeat (refine xg_ne (by omega) ?_)); first | exact xg_eq | exact a40)⟩⟩
  clear hg3
  have o3 := m3.obj
  refine wp_iload_n d_MO_open_17 rfl rfl ?_
  refine wp_if_le (tgt := 30) d_MO_open_18 (by decide) (fun hc => ?_) (fun hc => ?_)
  · have hg0 : ¬ 0 < g := fun z => nI_nle z (by omega) hc
    exact fin g3 w.1 f3 m3 (by rw [if_neg hg0])
  · have hg0 : 0 < g := Nat.pos_of_ne_zero (fun z => hc (by rw [z]; decide))
    refine wp_aload_n d_MO_open_21 rfl rfl ?_
    refine wp_iconst (v := 5) d_MO_open_22 (by rfl) ?_
    refine wp_iconst (v := 2) d_MO_open_23 (by rfl) ?_
    refine wp_iload_n d_MO_open_24 rfl rfl ?_
    refine wp_imul d_MO_open_25 ?_
    refine wp_iconst (v := 0) d_MO_open_26 (by rfl) ?_
    rw [show (2 : Int32) * nI g = nI (2 * g) from pk_mul 2 g]
    refine wp_callV3 xc_MO_129 d_MO_open_27 (Nat.le_of_ble_eq_true rfl) (by repeat first | exact xg_eq | exact xn_eq (by first | rfl | omega) | refine xg_ne (by first | omega | assumption | (simp only [xput, xnew]; omega)) ?_ | refine xn_ne (by first | omega | assumption | (simp only [xput, xnew]; omega)) ?_ | assumption | exact rfl) (c_MO_add hE m3 hl 5 (nI (2 * g)) 0) (by omega) (fun r g4 hp => ?_)
    obtain ⟨rfl, f4, m4⟩ := hp
    exact fin g4 _ (f3.tr f4) m4 (by rw [if_pos hg0])
theorem c_MO_nextRow (hE : xOK E) (hm : MoW E h A B w D) (hl : w.1.length + 2 ≤ 130) {d : Nat} (hd : d ≤ 7) (hr : w.2.2.1 d ≤ w.1.length) (hj : w.2.2.2.2.2.2 < 30) : wpc E 1 m_MO_nextRow [.ref (xb E + 21), .int (nI d)] h (fun r' h' => r' = none ∧ mfr E h h' ∧ MoW E h' A B (wNx d w) D) := by
  obtain ⟨s, o, t, hc, hl0, hm1⟩ := id hm
  obtain ⟨fp, ft, fo, qq, o21, a22, a23, a24, a25, a26, a27, a28, a29, a30, a31, a32, a33, a34, a35, a36, a37, a38, a39, a40⟩ := hm1
  refine wpc_of rfl (Nat.le_of_ble_eq_true rfl) ?_
  refine wp_aload_n d_MO_nextRow_0 rfl rfl ?_
  refine wp_get xf_MO_126 d_MO_nextRow_1 (by repeat first | exact xg_eq | exact xn_eq (by first | rfl | omega) | refine xg_ne (by first | omega | assumption | (simp only [xput, xnew]; omega)) ?_ | refine xn_ne (by first | omega | assumption | (simp only [xput, xnew]; omega)) ?_ | assumption | exact rfl) (by rfl) ?_
  refine wp_aload_n d_MO_nextRow_4 rfl rfl ?_
  refine wp_get xf_MO_47 d_MO_nextRow_5 (by repeat first | exact xg_eq | exact xn_eq (by first | rfl | omega) | refine xg_ne (by first | omega | assumption | (simp only [xput, xnew]; omega)) ?_ | refine xn_ne (by first | omega | assumption | (simp only [xput, xnew]; omega)) ?_ | assumption | exact rfl) (by rfl) ?_
  refine wp_iload_n d_MO_nextRow_8 rfl rfl ?_
  refine wp_iald d_MO_nextRow_9 (by repeat first | exact xg_eq | exact xn_eq (by first | rfl | omega) | refine xg_ne (by first | omega | assumption | (simp only [xput, xnew]; omega)) ?_ | refine xn_ne (by first | omega | assumption | (simp only [xput, xnew]; omega)) ?_ | assumption | exact rfl) hE.i (vp_in_nI (by first | omega | (dsimp only; omega)) (by omega)) ?_
  rw [nI_clamp (by omega)]
  refine wp_isub d_MO_nextRow_10 ?_
  refine wp_istore_n d_MO_nextRow_11 rfl (by decide) rfl ?_
  refine wp_aload_n d_MO_nextRow_12 rfl rfl ?_
  refine wp_aload_n d_MO_nextRow_13 rfl rfl ?_
  refine wp_get xf_MO_47 d_MO_nextRow_14 (by repeat first | exact xg_eq | exact xn_eq (by first | rfl | omega) | refine xg_ne (by first | omega | assumption | (simp only [xput, xnew]; omega)) ?_ | refine xn_ne (by first | omega | assumption | (simp only [xput, xnew]; omega)) ?_ | assumption | exact rfl) (by rfl) ?_
  refine wp_iload_n d_MO_nextRow_17 rfl rfl ?_
  rw [show nI (s, o, t, w.1.length, w.2).2.2.2.1 - nI ((s, o, t, w.1.length, w.2).2.2.2.2.2.1 d) = nI (w.1.length - w.2.2.1 d) from pk_sub hr]
  refine wp_iald d_MO_nextRow_18 (by repeat first | exact xg_eq | exact xn_eq (by first | rfl | omega) | refine xg_ne (by first | omega | assumption | (simp only [xput, xnew]; omega)) ?_ | refine xn_ne (by first | omega | assumption | (simp only [xput, xnew]; omega)) ?_ | assumption | exact rfl) hE.i (vp_in_nI (by first | omega | (dsimp only; omega)) (by omega)) ?_
  rw [nI_clamp (by omega)]
  refine wp_iconst (v := 1) d_MO_nextRow_19 (by rfl) ?_
  refine wp_iload_n d_MO_nextRow_20 rfl rfl ?_
  refine wp_iconst (v := 2) d_MO_nextRow_21 (by rfl) ?_
  refine wp_iadd d_MO_nextRow_22 ?_
  rw [show nI (w.1.length - w.2.2.1 d) + 2 = nI (w.1.length - w.2.2.1 d + 2) from nI_add _ 2]
  refine wp_callV3 xc_MO_136 d_MO_nextRow_23 (Nat.le_of_ble_eq_true rfl) (by repeat first | exact xg_eq | exact xn_eq (by first | rfl | omega) | refine xg_ne (by first | omega | assumption | (simp only [xput, xnew]; omega)) ?_ | refine xn_ne (by first | omega | assumption | (simp only [xput, xnew]; omega)) ?_ | assumption | exact rfl) (c_MO_insert hE hm (by omega) (p := w.2.2.1 d) hr 1 (nI (w.1.length - w.2.2.1 d + 2))) (by omega) (fun r g2 hp => ?_)
  obtain ⟨rfl, f2, m2⟩ := hp
  have e2 : (cNx (w.2.2.1 d) w.1).length = w.1.length + 1 := cInsert_len hr
  have m2 : MoW E g2 A B (cNx (w.2.2.1 d) w.1, w.2) D := m2
  clear fp ft fo qq o21 a22 a23 a24 a25 a26 a27 a28 a29 a30 a31 a32 a33 a34 a35 a36 a37 a38 a39 a40
  obtain ⟨s2, o2, t2, hc2, hl2, hm2⟩ := id m2
  obtain ⟨fp, ft, fo, qq, o21, a22, a23, a24, a25, a26, a27, a28, a29, a30, a31, a32, a33, a34, a35, a36, a37, a38, a39, a40⟩ := hm2
  refine wp_aload_n d_MO_nextRow_26 rfl rfl ?_
  refine wp_get xf_MO_56 d_MO_nextRow_27 (by repeat first | exact xg_eq | exact xn_eq (by first | rfl | omega) | refine xg_ne (by first | omega | assumption | (simp only [xput, xnew]; omega)) ?_ | refine xn_ne (by first | omega | assumption | (simp only [xput, xnew]; omega)) ?_ | assumption | exact rfl) (by rfl) ?_
  refine wp_aload_n d_MO_nextRow_30 rfl rfl ?_
  refine wp_get xf_MO_133 d_MO_nextRow_31 (by repeat first | exact xg_eq | exact xn_eq (by first | rfl | omega) | refine xg_ne (by first | omega | assumption | (simp only [xput, xnew]; omega)) ?_ | refine xn_ne (by first | omega | assumption | (simp only [xput, xnew]; omega)) ?_ | assumption | exact rfl) (by rfl) ?_
  refine wp_aload_n d_MO_nextRow_34 rfl rfl ?_
  refine wp_get xf_MO_126 d_MO_nextRow_35 (by repeat first | exact xg_eq | exact xn_eq (by first | rfl | omega) | refine xg_ne (by first | omega | assumption | (simp only [xput, xnew]; omega)) ?_ | refine xn_ne (by first | omega | assumption | (simp only [xput, xnew]; omega)) ?_ | assumption | exact rfl) (by rfl) ?_
  refine wp_iast d_MO_nextRow_38 (by repeat first | exact xg_eq | exact xn_eq (by first | rfl | omega) | refine xg_ne (by first | omega | assumption | (simp only [xput, xnew]; omega)) ?_ | refine xn_ne (by first | omega | assumption | (simp only [xput, xnew]; omega)) ?_ | assumption | exact rfl) hE.i (vp_in_nI (by first | omega | (dsimp only; omega)) (by omega)) ?_
  rw [upd_nI (by first | omega | (dsimp only; omega))]
  refine wp_aload_n d_MO_nextRow_39 rfl rfl ?_
  refine wp_dup d_MO_nextRow_40 rfl ?_
  refine wp_get xf_MO_133 d_MO_nextRow_41 (by repeat first | exact xg_eq | exact xn_eq (by first | rfl | omega) | refine xg_ne (by first | omega | assumption | (simp only [xput, xnew]; omega)) ?_ | refine xn_ne (by first | omega | assumption | (simp only [xput, xnew]; omega)) ?_ | assumption | exact rfl) (by rfl) ?_
  refine wp_iconst (v := 1) d_MO_nextRow_44 (by rfl) ?_
  refine wp_iadd d_MO_nextRow_45 ?_
  rw [show nI (s2, o2, t2, (cNx (w.2.2.1 d) w.1, w.2).1.length, (cNx (w.2.2.1 d) w.1, w.2).2).2.2.2.2.2.2.2.2.2 + 1 = nI (w.2.2.2.2.2.2 + 1) from (nI_succ _).symm]
  refine wp_put xf_MO_133 xg_MO (Or.inl rfl) d_MO_nextRow_46 (by repeat first | exact xg_eq | exact xn_eq (by first | rfl | omega) | refine xg_ne (by first | omega | assumption | (simp only [xput, xnew]; omega)) ?_ | refine xn_ne (by first | omega | assumption | (simp only [xput, xnew]; omega)) ?_ | assumption | exact rfl) (by first | rfl | assumption | exact bI_z _) (by first | rfl | assumption | exact bI_f _) (Nat.le_of_ble_eq_true rfl) ?_
  generalize hg3 : xput (xput g2 _ _) _ _ = g3
  have f3 : mfr E g2 g3 := by rw [← hg3]; exact (mfr.rf.put (by omega)).put (by omega)
  have m3 : MoW E g3 A B (cNx (w.2.2.1 d) w.1, w.2.1, w.2.2.1, w.2.2.2.1, w.2.2.2.2.1, va_up w.2.2.2.2.2.1 w.2.2.2.2.2.2 (cNx (w.2.2.1 d) w.1).length, w.2.2.2.2.2.2 + 1) D := by rw [← hg3]; exact ⟨s2, o2, t2, hc2, hl2, ⟨fp, ft, fo, qq, (by first | (repeat (refine xg_ne (by omega) ?_)); first | exact xg_eq | exact o21), (by first | (repeat (refine xg_ne (by omega) ?_)); first | exact xg_eq | exact a22), (by first | (repeat (refine xg_ne (by omega) ?_)); first | exact xg_eq | exact a23), (by first | (repeat (refine xg_ne (by omega) ?_)); first | exact xg_eq | exact a24), (by first | (repeat (refine xg_ne (by omega) ?_)); first | exact xg_eq | exact a25), (by first | (repeat (refine xg_ne (by omega) ?_)); first | exact xg_eq | exact a26), (by first | (repeat (refine xg_ne (by omega) ?_)); first | exact xg_eq | exact a27), (by first | (repeat (refine xg_ne (by omega) ?_)); first | exact xg_eq | exact a28), (by first | (repeat (refine xg_ne (by omega) ?_)); first | exact xg_eq | exact a29), (by first | (repeat (refine xg_ne (by omega) ?_)); first | exact xg_eq | exact a30), (by first | (repeat (refine xg_ne (by omega) ?_)); first | exact xg_eq | exact a31), (by first | (repeat (refine xg_ne (by omega) ?_)); first | exact xg_eq | exact a32), (by first | (repeat (refine xg_ne (by omega) ?_)); first | exact xg_eq | exact a33), (by first | (repeat (refine xg_ne (by omega) ?_)); first | exact xg_eq | exact a34), (by first | (repeat (refine xg_ne (by omega) ?_)); first | exact xg_eq | exact a35), (by first | (repeat (refine xg_ne (by omega) ?_)); first | exact xg_eq | exact a36), (by first | (repeat (refine xg_ne (by omega) ?_)); first | exact xg_eq | exact a37), (by first | (repeat (refine xg_ne (by omega) ?_)); first | exact xg_eq | exact a38), (by first | (repeat (refine xg_ne (by omega) ?_)); first | exact xg_eq | exact a39), (by first | (repeat (refine xg_ne (by omega) ?_)); first | exact xg_eq | exact a40)⟩⟩
  clear hg3 fp ft fo qq o21 a22 a23 a24 a25 a26 a27 a28 a29 a30 a31 a32 a33 a34 a35 a36 a37 a38 a39 a40
  have o3 := m3.obj
  refine wp_aload_n d_MO_nextRow_49 rfl rfl ?_
  refine wp_bipush (v := 7) d_MO_nextRow_50 (by rfl) ?_
  refine wp_iconst (v := 0) d_MO_nextRow_52 (by rfl) ?_
  refine wp_iconst (v := 0) d_MO_nextRow_53 (by rfl) ?_
  refine wp_callV3 xc_MO_129 d_MO_nextRow_54 (Nat.le_of_ble_eq_true rfl) (by repeat first | exact xg_eq | exact xn_eq (by first | rfl | omega) | refine xg_ne (by first | omega | assumption | (simp only [xput, xnew]; omega)) ?_ | refine xn_ne (by first | omega | assumption | (simp only [xput, xnew]; omega)) ?_ | assumption | exact rfl) (c_MO_add hE m3 (by show (cNx (w.2.2.1 d) w.1).length < 130; omega) 7 0 0) (by omega) (fun r g4 hp => ?_)
  obtain ⟨rfl, f4, m4⟩ := hp
  obtain ⟨s4, o4, t4, hc4, hl4, hm4⟩ := id m4
  obtain ⟨fp, ft, fo, qq, o21, a22, a23, a24, a25, a26, a27, a28, a29, a30, a31, a32, a33, a34, a35, a36, a37, a38, a39, a40⟩ := hm4
  refine wp_aload_n d_MO_nextRow_57 rfl rfl ?_
  refine wp_get xf_MO_47 d_MO_nextRow_58 (by repeat first | exact xg_eq | exact xn_eq (by first | rfl | omega) | refine xg_ne (by first | omega | assumption | (simp only [xput, xnew]; omega)) ?_ | refine xn_ne (by first | omega | assumption | (simp only [xput, xnew]; omega)) ?_ | assumption | exact rfl) (by rfl) ?_
  refine wp_iload_n d_MO_nextRow_61 rfl rfl ?_
  refine wp_aload_n d_MO_nextRow_62 rfl rfl ?_
  refine wp_get xf_MO_126 d_MO_nextRow_63 (by repeat first | exact xg_eq | exact xn_eq (by first | rfl | omega) | refine xg_ne (by first | omega | assumption | (simp only [xput, xnew]; omega)) ?_ | refine xn_ne (by first | omega | assumption | (simp only [xput, xnew]; omega)) ?_ | assumption | exact rfl) (by rfl) ?_
  refine wp_iast d_MO_nextRow_66 (by repeat first | exact xg_eq | exact xn_eq (by first | rfl | omega) | refine xg_ne (by first | omega | assumption | (simp only [xput, xnew]; omega)) ?_ | refine xn_ne (by first | omega | assumption | (simp only [xput, xnew]; omega)) ?_ | assumption | exact rfl) hE.i (vp_in_nI (by first | omega | (dsimp only; omega)) (by omega)) ?_
  rw [upd_nI (by first | omega | (dsimp only; omega))]
  refine wp_return d_MO_nextRow_67 rfl ?_
  exact ⟨rfl, ((f2.tr f3).tr f4).put (by omega), s4, o4, t4, hc4, hl4, ⟨fp, ft, fo, qq, (by first | (repeat (refine xg_ne (by omega) ?_)); first | exact xg_eq | exact o21), (by first | (repeat (refine xg_ne (by omega) ?_)); first | exact xg_eq | exact a22), (by first | (repeat (refine xg_ne (by omega) ?_)); first | exact xg_eq | exact a23), (by first | (repeat (refine xg_ne (by omega) ?_)); first | exact xg_eq | exact a24), (by first | (repeat (refine xg_ne (by omega) ?_)); first | exact xg_eq | exact a25), (by first | (repeat (refine xg_ne (by omega) ?_)); first | exact xg_eq | exact a26), (by first | (repeat (refine xg_ne (by omega) ?_)); first | exact xg_eq | exact a27), (by first | (repeat (refine xg_ne (by omega) ?_)); first | exact xg_eq | exact a28), (by first | (repeat (refine xg_ne (by omega) ?_)); first | exact xg_eq | exact a29), (by first | (repeat (refine xg_ne (by omega) ?_)); first | exact xg_eq | exact a30), (by first | (repeat (refine xg_ne (by omega) ?_)); first | exact xg_eq | exact a31), (by first | (repeat (refine xg_ne (by omega) ?_)); first | exact xg_eq | exact a32), (by first | (repeat (refine xg_ne (by omega) ?_)); first | exact xg_eq | exact a33), (by first | (repeat (refine xg_ne (by omega) ?_)); first | exact xg_eq | exact a34), (by first | (repeat (refine xg_ne (by omega) ?_)); first | exact xg_eq | exact a35), (by first | (repeat (refine xg_ne (by omega) ?_)); first | exact xg_eq | exact a36), (by first | (repeat (refine xg_ne (by omega) ?_)); first | exact xg_eq | exact a37), (by first | (repeat (refine xg_ne (by omega) ?_)); first | exact xg_eq | exact a38), (by first | (repeat (refine xg_ne (by omega) ?_)); first | exact xg_eq | exact a39), (by first | (repeat (refine xg_ne (by omega) ?_)); first | exact xg_eq | exact a40)⟩⟩
theorem c_MO_close (hE : xOK E) (hm : MoW E h A B w D) (hl : w.1.length < 130) {d : Nat} (hd : d ≤ 7) (h1 : w.2.2.2.2.1 d ≤ w.2.2.2.2.2.2) (h2 : w.2.2.2.2.2.2 ≤ 30) (h3 : ∀ j, w.2.2.2.2.1 d ≤ j → j < w.2.2.2.2.2.2 → w.2.2.2.2.2.1 j < w.1.length) (h4 : w.2.2.2.1 d ≤ 100) : wpc E 1 m_MO_close [.ref (xb E + 21), .int (nI d)] h (fun r' h' => r' = none ∧ mfr E h h' ∧ MoW E h' A B (wCl d w) D) := by
  have fin : ∀ (g : xH) (x : Int32), mfr E h g → MoW E g A B (clE d w, w.2) D → wp E 1 m_MO_close 43 [(0, .ref (xb E + 21)), (1, .int (nI d)), (2, .int x)] [] g (fun r' h' => r' = none ∧ mfr E h h' ∧ MoW E h' A B (wCl d w) D) := by
    intro g x fg mg
    have hel : (clE d w).length = w.1.length := clJ_len _ _ _ _
    obtain ⟨s, o, t, hc, hl0, hm⟩ := mg
    obtain ⟨fp, ft, fo, qq, o21, a22, a23, a24, a25, a26, a27, a28, a29, a30, a31, a32, a33, a34, a35, a36, a37, a38, a39, a40⟩ := hm
    refine wp_aload_n d_MO_close_43 rfl rfl ?_
    refine wp_aload_n d_MO_close_44 rfl rfl ?_
    refine wp_get xf_MO_53 d_MO_close_45 (by repeat first | exact xg_eq | exact xn_eq (by first | rfl | omega) | refine xg_ne (by first | omega | assumption | (simp only [xput, xnew]; omega)) ?_ | refine xn_ne (by first | omega | assumption | (simp only [xput, xnew]; omega)) ?_ | assumption | exact rfl) (by rfl) ?_
    refine wp_iload_n d_MO_close_48 rfl rfl ?_
    refine wp_iald d_MO_close_49 (by repeat first | exact xg_eq | exact xn_eq (by first | rfl | omega) | refine xg_ne (by first | omega | assumption | (simp only [xput, xnew]; omega)) ?_ | refine xn_ne (by first | omega | assumption | (simp only [xput, xnew]; omega)) ?_ | assumption | exact rfl) hE.i (vp_in_nI (by first | omega | (dsimp only; omega)) (by omega)) ?_
    rw [nI_clamp (by omega)]
    refine wp_put xf_MO_133 xg_MO (Or.inl rfl) d_MO_close_50 (by repeat first | exact xg_eq | exact xn_eq (by first | rfl | omega) | refine xg_ne (by first | omega | assumption | (simp only [xput, xnew]; omega)) ?_ | refine xn_ne (by first | omega | assumption | (simp only [xput, xnew]; omega)) ?_ | assumption | exact rfl) (by first | rfl | assumption | exact bI_z _) (by first | rfl | assumption | exact bI_f _) (Nat.le_of_ble_eq_true rfl) ?_
    generalize hg3 : xput g _ _ = g3
    have f3 : mfr E h g3 := by rw [← hg3]; exact fg.put (by omega)
    have m3 : MoW E g3 A B (clE d w, w.2.1, w.2.2.1, w.2.2.2.1, w.2.2.2.2.1, w.2.2.2.2.2.1, w.2.2.2.2.1 d) D := by rw [← hg3]; exact ⟨s, o, t, hc, hl0, ⟨fp, ft, fo, qq, (by first | (repeat (refine xg_ne (by omega) ?_)); first | exact xg_eq | exact o21), (by first | (repeat (refine xg_ne (by omega) ?_)); first | exact xg_eq | exact a22), (by first | (repeat (refine xg_ne (by omega) ?_)); first | exact xg_eq | exact a23), (by first | (repeat (refine xg_ne (by omega) ?_)); first | exact xg_eq | exact a24), (by first | (repeat (refine xg_ne (by omega) ?_)); first | exact xg_eq | exact a25), (by first | (repeat (refine xg_ne (by omega) ?_)); first | exact xg_eq | exact a26), (by first | (repeat (refine xg_ne (by omega) ?_)); first | exact xg_eq | exact a27), (by first | (repeat (refine xg_ne (by omega) ?_)); first | exact xg_eq | exact a28), (by first | (repeat (refine xg_ne (by omega) ?_)); first | exact xg_eq | exact a29), (by first | (repeat (refine xg_ne (by omega) ?_)); first | exact xg_eq | exact a30), (by first | (repeat (refine xg_ne (by omega) ?_)); first | exact xg_eq | exact a31), (by first | (repeat (refine xg_ne (by omega) ?_)); first | exact xg_eq | exact a32), (by first | (repeat (refine xg_ne (by omega) ?_)); first | exact xg_eq | exact a33), (by first | (repeat (refine xg_ne (by omega) ?_)); first | exact xg_eq | exact a34), (by first | (repeat (refine xg_ne (by omega) ?_)); first | exact xg_eq | exact a35), (by first | (repeat (refine xg_ne (by omega) ?_)); first | exact xg_eq | exact a36), (by first | (repeat (refine xg_ne (by omega) ?_)); first | exact xg_eq | exact a37), (by first | (repeat (refine xg_ne (by omega) ?_)); first | exact xg_eq | exact a38), (by first | (repeat (refine xg_ne (by omega) ?_)); first | exact xg_eq | exact a39), (by first | (repeat (refine xg_ne (by omega) ?_)); first | exact xg_eq | exact a40)⟩⟩
    clear hg3 fp ft fo qq o21 a22 a23 a24 a25 a26 a27 a28 a29 a30 a31 a32 a33 a34 a35 a36 a37 a38 a39 a40
    obtain ⟨s, o, t, hc, hl0, hm⟩ := id m3
    obtain ⟨fp, ft, fo, qq, o21, a22, a23, a24, a25, a26, a27, a28, a29, a30, a31, a32, a33, a34, a35, a36, a37, a38, a39, a40⟩ := hm
    refine wp_aload_n d_MO_close_53 rfl rfl ?_
    refine wp_get xf_MO_50 d_MO_close_54 (by repeat first | exact xg_eq | exact xn_eq (by first | rfl | omega) | refine xg_ne (by first | omega | assumption | (simp only [xput, xnew]; omega)) ?_ | refine xn_ne (by first | omega | assumption | (simp only [xput, xnew]; omega)) ?_ | assumption | exact rfl) (by rfl) ?_
    refine wp_iload_n d_MO_close_57 rfl rfl ?_
    refine wp_iald d_MO_close_58 (by repeat first | exact xg_eq | exact xn_eq (by first | rfl | omega) | refine xg_ne (by first | omega | assumption | (simp only [xput, xnew]; omega)) ?_ | refine xn_ne (by first | omega | assumption | (simp only [xput, xnew]; omega)) ?_ | assumption | exact rfl) hE.i (vp_in_nI (by first | omega | (dsimp only; omega)) (by omega)) ?_
    rw [nI_clamp (by omega)]
    refine wp_if_le (tgt := 78) d_MO_close_59 (by decide) (fun hc5 => ?_) (fun hc5 => ?_)
    · have hg0 : ¬ 0 < w.2.2.2.1 d := fun z => nI_nle z (by omega) hc5
      refine wp_return d_MO_close_78 rfl ?_
      refine ⟨rfl, f3, ?_⟩
      rw [wCl, if_neg hg0]
      exact m3
    · have hg0 : 0 < w.2.2.2.1 d := Nat.pos_of_ne_zero (fun z => hc5 (by show nI (w.2.2.2.1 d) ≤ 0; rw [z]; decide))
      refine wp_aload_n d_MO_close_62 rfl rfl ?_
      refine wp_iconst (v := 5) d_MO_close_63 (by rfl) ?_
      refine wp_iconst (v := 2) d_MO_close_64 (by rfl) ?_
      refine wp_aload_n d_MO_close_65 rfl rfl ?_
      refine wp_get xf_MO_50 d_MO_close_66 (by repeat first | exact xg_eq | exact xn_eq (by first | rfl | omega) | refine xg_ne (by first | omega | assumption | (simp only [xput, xnew]; omega)) ?_ | refine xn_ne (by first | omega | assumption | (simp only [xput, xnew]; omega)) ?_ | assumption | exact rfl) (by rfl) ?_
      refine wp_iload_n d_MO_close_69 rfl rfl ?_
      refine wp_iald d_MO_close_70 (by repeat first | exact xg_eq | exact xn_eq (by first | rfl | omega) | refine xg_ne (by first | omega | assumption | (simp only [xput, xnew]; omega)) ?_ | refine xn_ne (by first | omega | assumption | (simp only [xput, xnew]; omega)) ?_ | assumption | exact rfl) hE.i (vp_in_nI (by first | omega | (dsimp only; omega)) (by omega)) ?_
      rw [nI_clamp (by omega)]
      refine wp_imul d_MO_close_71 ?_
      refine wp_iconst (v := 1) d_MO_close_72 (by rfl) ?_
      refine wp_iadd d_MO_close_73 ?_
      refine wp_iconst (v := 0) d_MO_close_74 (by rfl) ?_
      rw [show (2 : Int32) * nI ((s, o, t, (clE d w, w.2.1, w.2.2.1, w.2.2.2.1, w.2.2.2.2.1, w.2.2.2.2.2.1, w.2.2.2.2.1 d).1.length, (clE d w, w.2.1, w.2.2.1, w.2.2.2.1, w.2.2.2.2.1, w.2.2.2.2.2.1, w.2.2.2.2.1 d).2).2.2.2.2.2.2.1 d) + 1 = nI (2 * w.2.2.2.1 d + 1) from by rw [nI_succ]; exact congrArg (· + 1) (pk_mul 2 _)]
      refine wp_callV3 xc_MO_129 d_MO_close_75 (Nat.le_of_ble_eq_true rfl) (by repeat first | exact xg_eq | exact xn_eq (by first | rfl | omega) | refine xg_ne (by first | omega | assumption | (simp only [xput, xnew]; omega)) ?_ | refine xn_ne (by first | omega | assumption | (simp only [xput, xnew]; omega)) ?_ | assumption | exact rfl) (c_MO_add hE m3 (by show (clE d w).length < 130; omega) 5 (nI (2 * w.2.2.2.1 d + 1)) 0) (by omega) (fun r g4 hp => ?_)
      obtain ⟨rfl, f4, m4⟩ := hp
      refine wp_return d_MO_close_78 rfl ?_
      refine ⟨rfl, f3.tr f4, ?_⟩
      rw [wCl, if_pos hg0]
      exact m4
  have lp : ∀ (k j : Nat) (l : Cd) (g : xH), j + k = w.2.2.2.2.2.2 → w.2.2.2.2.1 d ≤ j → l.length = w.1.length → mfr E h g → MoW E g A B (l, w.2) D → clJ w.2.2.2.2.2.1 k j l = clE d w → wp E 1 m_MO_close 7 [(0, .ref (xb E + 21)), (1, .int (nI d)), (2, .int (nI j))] [] g (fun r' h' => r' = none ∧ mfr E h h' ∧ MoW E h' A B (wCl d w) D) := by
    intro k
    induction k with
    | zero =>
      intro j l g hj hj2 hll fg mg hk
      have og := mg.obj
      refine wp_iload_n d_MO_close_7 rfl rfl ?_
      refine wp_aload_n d_MO_close_8 rfl rfl ?_
      refine wp_get xf_MO_133 d_MO_close_9 (by repeat first | exact xg_eq | exact xn_eq (by first | rfl | omega) | refine xg_ne (by first | omega | assumption | (simp only [xput, xnew]; omega)) ?_ | refine xn_ne (by first | omega | assumption | (simp only [xput, xnew]; omega)) ?_ | assumption | exact rfl) (by rfl) ?_
      refine wp_icmp_ge (tgt := 43) d_MO_close_12 (by decide) (fun hc => ?_) (fun hc => ?_)
      · rw [← show l = clE d w from hk] at fin
        exact fin g _ fg mg
      · exact absurd ((nI_leI (by first | omega | (dsimp only; omega)) (by omega)).mpr (by show w.2.2.2.2.2.2 ≤ j; omega)) hc
    | succ k ih =>
      intro j l g hj hj2 hll fg mg hk
      have h3j := h3 j hj2 (by omega)
      obtain ⟨s, o, t, hcd, hl0, hm⟩ := id mg
      obtain ⟨fp, ft, fo, qq, o21, a22, a23, a24, a25, a26, a27, a28, a29, a30, a31, a32, a33, a34, a35, a36, a37, a38, a39, a40⟩ := hm
      refine wp_iload_n d_MO_close_7 rfl rfl ?_
      refine wp_aload_n d_MO_close_8 rfl rfl ?_
      refine wp_get xf_MO_133 d_MO_close_9 (by repeat first | exact xg_eq | exact xn_eq (by first | rfl | omega) | refine xg_ne (by first | omega | assumption | (simp only [xput, xnew]; omega)) ?_ | refine xn_ne (by first | omega | assumption | (simp only [xput, xnew]; omega)) ?_ | assumption | exact rfl) (by rfl) ?_
      refine wp_icmp_ge (tgt := 43) d_MO_close_12 (by decide) (fun hc => ?_) (fun hc => ?_)
      · exact absurd ((nI_leI (by first | omega | (dsimp only; omega)) (by omega)).mp hc) (by show ¬ w.2.2.2.2.2.2 ≤ j; omega)
      refine wp_aload_n d_MO_close_15 rfl rfl ?_
      refine wp_get xf_MO_38 d_MO_close_16 (by repeat first | exact xg_eq | exact xn_eq (by first | rfl | omega) | refine xg_ne (by first | omega | assumption | (simp only [xput, xnew]; omega)) ?_ | refine xn_ne (by first | omega | assumption | (simp only [xput, xnew]; omega)) ?_ | assumption | exact rfl) (by rfl) ?_
      refine wp_aload_n d_MO_close_19 rfl rfl ?_
      refine wp_get xf_MO_56 d_MO_close_20 (by repeat first | exact xg_eq | exact xn_eq (by first | rfl | omega) | refine xg_ne (by first | omega | assumption | (simp only [xput, xnew]; omega)) ?_ | refine xn_ne (by first | omega | assumption | (simp only [xput, xnew]; omega)) ?_ | assumption | exact rfl) (by rfl) ?_
      refine wp_iload_n d_MO_close_23 rfl rfl ?_
      refine wp_iald d_MO_close_24 (by repeat first | exact xg_eq | exact xn_eq (by first | rfl | omega) | refine xg_ne (by first | omega | assumption | (simp only [xput, xnew]; omega)) ?_ | refine xn_ne (by first | omega | assumption | (simp only [xput, xnew]; omega)) ?_ | assumption | exact rfl) hE.i (vp_in_nI (by first | omega | (dsimp only; omega)) (by omega)) ?_
      rw [nI_clamp (by omega)]
      refine wp_aload_n d_MO_close_25 rfl rfl ?_
      refine wp_get xf_MO_126 d_MO_close_26 (by repeat first | exact xg_eq | exact xn_eq (by first | rfl | omega) | refine xg_ne (by first | omega | assumption | (simp only [xput, xnew]; omega)) ?_ | refine xn_ne (by first | omega | assumption | (simp only [xput, xnew]; omega)) ?_ | assumption | exact rfl) (by rfl) ?_
      refine wp_aload_n d_MO_close_29 rfl rfl ?_
      refine wp_get xf_MO_56 d_MO_close_30 (by repeat first | exact xg_eq | exact xn_eq (by first | rfl | omega) | refine xg_ne (by first | omega | assumption | (simp only [xput, xnew]; omega)) ?_ | refine xn_ne (by first | omega | assumption | (simp only [xput, xnew]; omega)) ?_ | assumption | exact rfl) (by rfl) ?_
      refine wp_iload_n d_MO_close_33 rfl rfl ?_
      refine wp_iald d_MO_close_34 (by repeat first | exact xg_eq | exact xn_eq (by first | rfl | omega) | refine xg_ne (by first | omega | assumption | (simp only [xput, xnew]; omega)) ?_ | refine xn_ne (by first | omega | assumption | (simp only [xput, xnew]; omega)) ?_ | assumption | exact rfl) hE.i (vp_in_nI (by first | omega | (dsimp only; omega)) (by omega)) ?_
      rw [nI_clamp (by omega)]
      refine wp_isub d_MO_close_35 ?_
      rw [show nI (s, o, t, (l, w.2).1.length, (l, w.2).2).2.2.2.1 - nI ((s, o, t, (l, w.2).1.length, (l, w.2).2).2.2.2.2.2.2.2.2.1 j) = nI (l.length - w.2.2.2.2.2.1 j) from pk_sub (by first | omega | (dsimp only; omega))]
      refine wp_iast d_MO_close_36 (by repeat first | exact xg_eq | exact xn_eq (by first | rfl | omega) | refine xg_ne (by first | omega | assumption | (simp only [xput, xnew]; omega)) ?_ | refine xn_ne (by first | omega | assumption | (simp only [xput, xnew]; omega)) ?_ | assumption | exact rfl) hE.i (vp_in_nI (by first | omega | (dsimp only; omega)) (by omega)) ?_
      rw [nI_clamp (by first | omega | (dsimp only; omega))]
      refine wp_iinc d_MO_close_37 rfl rfl (by decide) rfl ?_
      refine wp_goto (tgt := 7) d_MO_close_40 (by decide) ?_
      rw [show nI j + Int32.ofInt 1 = nI (j + 1) from (nI_succ j).symm]
      refine ih (j + 1) (cMd (w.2.2.2.2.2.1 j) (nI (l.length - w.2.2.2.2.2.1 j)) l) _ (by omega) (by omega) (by rw [cMd_len]; exact hll) (fg.put (by omega)) ⟨s, _, t, hcd.md (by show w.2.2.2.2.2.1 j < l.length; omega) _, by show (cMd _ _ l).length ≤ 130; rw [cMd_len]; exact hl0, ?_⟩ hk
      show Mo E _ A B (_, _, _, (cMd (w.2.2.2.2.2.1 j) (nI (l.length - w.2.2.2.2.2.1 j)) l).length, w.2) D
      rw [cMd_len]
      exact ⟨fp, ft, fo, qq, (by first | (repeat (refine xg_ne (by omega) ?_)); first | exact xg_eq | exact o21), (by first | (repeat (refine xg_ne (by omega) ?_)); first | exact xg_eq | exact a22), (by first | (repeat (refine xg_ne (by omega) ?_)); first | exact xg_eq | exact a23), (by first | (repeat (refine xg_ne (by omega) ?_)); first | exact xg_eq | exact a24), (by first | (repeat (refine xg_ne (by omega) ?_)); first | exact xg_eq | exact a25), (by first | (repeat (refine xg_ne (by omega) ?_)); first | exact xg_eq | exact a26), (by first | (repeat (refine xg_ne (by omega) ?_)); first | exact xg_eq | exact a27), (by first | (repeat (refine xg_ne (by omega) ?_)); first | exact xg_eq | exact a28), (by first | (repeat (refine xg_ne (by omega) ?_)); first | exact xg_eq | exact a29), (by first | (repeat (refine xg_ne (by omega) ?_)); first | exact xg_eq | exact a30), (by first | (repeat (refine xg_ne (by omega) ?_)); first | exact xg_eq | exact a31), (by first | (repeat (refine xg_ne (by omega) ?_)); first | exact xg_eq | exact a32), (by first | (repeat (refine xg_ne (by omega) ?_)); first | exact xg_eq | exact a33), (by first | (repeat (refine xg_ne (by omega) ?_)); first | exact xg_eq | exact a34), (by first | (repeat (refine xg_ne (by omega) ?_)); first | exact xg_eq | exact a35), (by first | (repeat (refine xg_ne (by omega) ?_)); first | exact xg_eq | exact a36), (by first | (repeat (refine xg_ne (by omega) ?_)); first | exact xg_eq | exact a37), (by first | (repeat (refine xg_ne (by omega) ?_)); first | exact xg_eq | exact a38), (by first | (repeat (refine xg_ne (by omega) ?_)); first | exact xg_eq | exact a39), (by first | (repeat (refine xg_ne (by omega) ?_)); first | exact xg_eq | exact a40)⟩
  obtain ⟨s, o, t, hcd, hl0, hm1⟩ := id hm
  obtain ⟨fp, ft, fo, qq, o21, a22, a23, a24, a25, a26, a27, a28, a29, a30, a31, a32, a33, a34, a35, a36, a37, a38, a39, a40⟩ := hm1
  refine wpc_of rfl (Nat.le_of_ble_eq_true rfl) ?_
  refine wp_aload_n d_MO_close_0 rfl rfl ?_
  refine wp_get xf_MO_53 d_MO_close_1 (by repeat first | exact xg_eq | exact xn_eq (by first | rfl | omega) | refine xg_ne (by first | omega | assumption | (simp only [xput, xnew]; omega)) ?_ | refine xn_ne (by first | omega | assumption | (simp only [xput, xnew]; omega)) ?_ | assumption | exact rfl) (by rfl) ?_
  refine wp_iload_n d_MO_close_4 rfl rfl ?_
  refine wp_iald d_MO_close_5 (by repeat first | exact xg_eq | exact xn_eq (by first | rfl | omega) | refine xg_ne (by first | omega | assumption | (simp only [xput, xnew]; omega)) ?_ | refine xn_ne (by first | omega | assumption | (simp only [xput, xnew]; omega)) ?_ | assumption | exact rfl) hE.i (vp_in_nI (by first | omega | (dsimp only; omega)) (by omega)) ?_
  rw [nI_clamp (by omega)]
  refine wp_istore_n d_MO_close_6 rfl (by decide) rfl ?_
  exact lp (w.2.2.2.2.2.2 - w.2.2.2.2.1 d) (w.2.2.2.2.1 d) w.1 h (by omega) (Nat.le_refl _) rfl mfr.rf hm rfl
end M6
