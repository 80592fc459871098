theorem wp_leq {E : xE} {d : Nat} {M : xM} {pc : Nat} {lo lo' : List (Nat × Value)} {st : List Value} {h : xH} {P : Option Value → xH → Prop} (hl : lo = lo') (k : wp E d M pc lo' st h P) : wp E d M pc lo st h P := hl ▸ k
section PI
variable {E : xE} {p fi : Nat} {X : Type} {sX : X → Nat} {eX : X → Bool} {tX : xH → Nat → Nat → Nat → X → Prop} {cX : Nat → X → Nat → PS0 → Nat × PS0} {D : Nat}
theorem c_PR_addCopies (hE : xOK E) (hm : tMv tX) (ih : gIH E p fi tX cX D) (hD : 3 ≤ D) {h : xH} {q : PS0} {lo hi a nx d : Nat} {y : Pc X} (hp : Pg E h p q fi) (hlo : p + 6 < lo) (ht : tPx tX h lo hi a y) (hn : nx ≤ 120) (hd0 : d ≤ 6) :
    wpc E (D + 3) m_PR_addCopies [.ref p, .ref a, .int (nI nx), .int (nI d)] h (fun r' h' => r' = some (.int (nI (gTm cX d y.1 y.2.1 (gCp cX d y.1 y.2.2.2.2 nx (y.2.2.1 - y.2.1) (nx, q))).1)) ∧ xfr (pS p) h h' ∧ Pg E h' p (gTm cX d y.1 y.2.1 (gCp cX d y.1 y.2.2.2.2 nx (y.2.2.1 - y.2.1) (nx, q))).2 fi ∧ (gTm cX d y.1 y.2.1 (gCp cX d y.1 y.2.2.2.2 nx (y.2.2.1 - y.2.1) (nx, q))).1 ≤ 120) := by
  obtain ⟨c, o', t1, t2, t3, t4, t5, t6⟩ := ht
  generalize hW : gTm cX d y.1 y.2.1 (gCp cX d y.1 y.2.2.2.2 nx (y.2.2.1 - y.2.1) (nx, q)) = W
  have lp2 : ∀ (k : Nat) (h2 : xH) (e : Nat × PS0) (z6 : List (Nat × Value)), (z6 = [] ∨ ∃ w, z6 = [(6, w)]) → k ≤ y.2.1 → gTm cX d y.1 k e = W → xfr (pS p) h h2 → Pg E h2 p e.2 fi → e.1 ≤ 120 →
      wp E (D + 3) m_PR_addCopies 66 ([(0, .ref p), (1, .ref a), (2, .int (nI nx)), (3, .int (nI d)), (4, .int (nI e.1)), (5, .int (nI (y.2.1 - k)))] ++ z6) [] h2 (fun r' h' => r' = some (.int (nI W.1)) ∧ xfr (pS p) h h' ∧ Pg E h' p W.2 fi ∧ W.1 ≤ 120) := by
    intro k
    induction k with
    | zero =>
      intro h2 e z6 hz6 hk hq f2 p2 b2
      have o2 := f2.at (q := a) (by simp [pS]; omega) t3
      refine wp_lo (lo' := [(0, .ref p), (1, .ref a), (2, .int (nI nx)), (3, .int (nI d)), (4, .int (nI e.1)), (5, .int (nI (y.2.1 - 0)))]) (fun z hz => List.mem_append_left _ hz) ?_
      refine wp_iload d_PR_addCopies_66 rfl ?_
      refine wp_aload_n d_PR_addCopies_68 rfl rfl ?_
      refine wp_get xf_PR_94 d_PR_addCopies_69 (by repeat first | assumption | exact xg_eq | exact xn_eq (by first | rfl | omega) | refine xg_ne (by first | assumption | omega | (simp only [xput, xnew]; omega)) ?_ | refine xn_ne (by first | assumption | omega | (simp only [xput, xnew]; omega)) ?_ | exact rfl) (by rfl) ?_
      refine wp_icmp_ge (tgt := 94) d_PR_addCopies_72 (by decide) (fun hc => ?_) (fun hc => ?_)
      · refine wp_iload d_PR_addCopies_94 rfl ?_
        refine wp_ireturn d_PR_addCopies_96 rfl (by first | rfl | assumption) ?_
        rw [← hq]
        exact ⟨rfl, f2, p2, b2⟩
      · exact absurd (nI_le (by omega) (by omega)) hc
    | succ k ihk =>
      intro h2 e z6 hz6 hk hq f2 p2 b2
      have o2 := f2.at (q := a) (by simp [pS]; omega) t3
      have w2 := p2.1
      have x2 := t4.mv hm (pS_mv f2 hlo) (Nat.le_refl _) (Nat.le_refl _)
      refine wp_lo (lo' := [(0, .ref p), (1, .ref a), (2, .int (nI nx)), (3, .int (nI d)), (4, .int (nI e.1)), (5, .int (nI (y.2.1 - (k + 1))))]) (fun z hz => List.mem_append_left _ hz) ?_
      refine wp_iload d_PR_addCopies_66 rfl ?_
      refine wp_aload_n d_PR_addCopies_68 rfl rfl ?_
      refine wp_get xf_PR_94 d_PR_addCopies_69 (by repeat first | assumption | exact xg_eq | exact xn_eq (by first | rfl | omega) | refine xg_ne (by first | assumption | omega | (simp only [xput, xnew]; omega)) ?_ | refine xn_ne (by first | assumption | omega | (simp only [xput, xnew]; omega)) ?_ | exact rfl) (by rfl) ?_
      refine wp_icmp_ge (tgt := 94) d_PR_addCopies_72 (by decide) (fun hc => ?_) (fun hc => ?_)
      · exact absurd hc (nI_ge (by omega) (by omega))
      · refine wp_aload_n d_PR_addCopies_75 rfl rfl ?_
        refine wp_aload_n d_PR_addCopies_76 rfl rfl ?_
        refine wp_get xf_PR_83 d_PR_addCopies_77 (by repeat first | assumption | exact xg_eq | exact xn_eq (by first | rfl | omega) | refine xg_ne (by first | assumption | omega | (simp only [xput, xnew]; omega)) ?_ | refine xn_ne (by first | assumption | omega | (simp only [xput, xnew]; omega)) ?_ | exact rfl) (by rfl) ?_
        refine wp_iload d_PR_addCopies_80 rfl ?_
        refine wp_iload_n d_PR_addCopies_82 rfl rfl ?_
        refine wp_callV3 xc_PR_87 d_PR_addCopies_83 (Nat.le_of_ble_eq_true rfl) (by repeat first | assumption | exact xg_eq | exact xn_eq (by first | rfl | omega) | refine xg_ne (by first | assumption | omega | (simp only [xput, xnew]; omega)) ?_ | refine xn_ne (by first | assumption | omega | (simp only [xput, xnew]; omega)) ?_ | exact rfl) (c_PR_addAtom hE hm ih hD p2 hlo x2 b2 hd0) (by omega) (fun r h3 hp => ?_)
        obtain ⟨rfl, f3, p3, b3⟩ := hp
        refine wp_istore d_PR_addCopies_86 (by decide) rfl ?_
        refine wp_iinc d_PR_addCopies_88 rfl rfl (by decide) rfl ?_
        refine wp_goto (tgt := 66) d_PR_addCopies_91 (by decide) ?_
        rw [show nI (y.2.1 - (k + 1)) + Int32.ofInt 1 = nI (y.2.1 - k) from by rw [show y.2.1 - k = (y.2.1 - (k + 1)) + 1 by omega, nI_succ]; rfl]
        exact ihk h3 (gAt cX d y.1 e.1 e.2) [] (Or.inl rfl) (by omega) hq (f2.tr f3) p3 b3
  have lp1 : ∀ (k : Nat) (h2 : xH) (e : Nat × PS0) (z6 : List (Nat × Value)), (z6 = [] ∨ ∃ w, z6 = [(6, w)]) → k ≤ y.2.2.1 - y.2.1 → gTm cX d y.1 y.2.1 (gCp cX d y.1 y.2.2.2.2 nx k e) = W → xfr (pS p) h h2 → Pg E h2 p e.2 fi → e.1 ≤ 120 →
      wp E (D + 3) m_PR_addCopies 9 ([(0, .ref p), (1, .ref a), (2, .int (nI nx)), (3, .int (nI d)), (4, .int (nI e.1)), (5, .int (nI (y.2.2.1 - k)))] ++ z6) [] h2 (fun r' h' => r' = some (.int (nI W.1)) ∧ xfr (pS p) h h' ∧ Pg E h' p W.2 fi ∧ W.1 ≤ 120) := by
    intro k
    induction k with
    | zero =>
      intro h2 e z6 hz6 hk hq f2 p2 b2
      have o2 := f2.at (q := a) (by simp [pS]; omega) t3
      refine wp_lo (lo' := [(0, .ref p), (1, .ref a), (2, .int (nI nx)), (3, .int (nI d)), (4, .int (nI e.1)), (5, .int (nI (y.2.2.1 - 0)))]) (fun z hz => List.mem_append_left _ hz) ?_
      refine wp_iload d_PR_addCopies_9 rfl ?_
      refine wp_aload_n d_PR_addCopies_11 rfl rfl ?_
      refine wp_get xf_PR_97 d_PR_addCopies_12 (by repeat first | assumption | exact xg_eq | exact xn_eq (by first | rfl | omega) | refine xg_ne (by first | assumption | omega | (simp only [xput, xnew]; omega)) ?_ | refine xn_ne (by first | assumption | omega | (simp only [xput, xnew]; omega)) ?_ | exact rfl) (by rfl) ?_
      refine wp_icmp_ge (tgt := 63) d_PR_addCopies_15 (by decide) (fun hc => ?_) (fun hc => ?_)
      · refine wp_iconst (v := 0) d_PR_addCopies_63 (by rfl) ?_
        refine wp_istore d_PR_addCopies_64 (by decide) rfl ?_
        have := lp2 y.2.1 h2 e [] (Or.inl rfl) (Nat.le_refl _) hq f2 p2 b2
        rw [Nat.sub_self] at this
        exact this
      · exact absurd (nI_le (by omega) (by omega)) hc
    | succ k ihk =>
      intro h2 e z6 hz6 hk hq f2 p2 b2
      have o2 := f2.at (q := a) (by simp [pS]; omega) t3
      have w2 := p2.1
      have x2 := t4.mv hm (pS_mv f2 hlo) (Nat.le_refl _) (Nat.le_refl _)
      refine wp_lo (lo' := [(0, .ref p), (1, .ref a), (2, .int (nI nx)), (3, .int (nI d)), (4, .int (nI e.1)), (5, .int (nI (y.2.2.1 - (k + 1))))]) (fun z hz => List.mem_append_left _ hz) ?_
      refine wp_iload d_PR_addCopies_9 rfl ?_
      refine wp_aload_n d_PR_addCopies_11 rfl rfl ?_
      refine wp_get xf_PR_97 d_PR_addCopies_12 (by repeat first | assumption | exact xg_eq | exact xn_eq (by first | rfl | omega) | refine xg_ne (by first | assumption | omega | (simp only [xput, xnew]; omega)) ?_ | refine xn_ne (by first | assumption | omega | (simp only [xput, xnew]; omega)) ?_ | exact rfl) (by rfl) ?_
      refine wp_icmp_ge (tgt := 63) d_PR_addCopies_15 (by decide) (fun hc => ?_) (fun hc => ?_)
      · exact absurd hc (nI_ge (by omega) (by omega))
      · refine wp_aload_n d_PR_addCopies_18 rfl rfl ?_
        refine wp_aload_n d_PR_addCopies_19 rfl rfl ?_
        refine wp_get xf_PR_83 d_PR_addCopies_20 (by repeat first | assumption | exact xg_eq | exact xn_eq (by first | rfl | omega) | refine xg_ne (by first | assumption | omega | (simp only [xput, xnew]; omega)) ?_ | refine xn_ne (by first | assumption | omega | (simp only [xput, xnew]; omega)) ?_ | exact rfl) (by rfl) ?_
        refine wp_iload d_PR_addCopies_23 rfl ?_
        refine wp_iload_n d_PR_addCopies_25 rfl rfl ?_
        refine wp_callV3 xc_PR_87 d_PR_addCopies_26 (Nat.le_of_ble_eq_true rfl) (by repeat first | assumption | exact xg_eq | exact xn_eq (by first | rfl | omega) | refine xg_ne (by first | assumption | omega | (simp only [xput, xnew]; omega)) ?_ | refine xn_ne (by first | assumption | omega | (simp only [xput, xnew]; omega)) ?_ | exact rfl) (c_PR_addAtom hE hm ih hD p2 hlo x2 b2 hd0) (by omega) (fun r h3 hp => ?_)
        obtain ⟨rfl, f3, p3, b3⟩ := hp
        have w3 := p3.1
        have o3 := f3.at (q := a) (by simp [pS]; omega) o2
        refine wp_istore d_PR_addCopies_29 (by decide) rfl ?_
        refine wp_aload_n d_PR_addCopies_31 rfl rfl ?_
        refine wp_get xf_PR_91 d_PR_addCopies_32 (by repeat first | assumption | exact xg_eq | exact xn_eq (by first | rfl | omega) | refine xg_ne (by first | assumption | omega | (simp only [xput, xnew]; omega)) ?_ | refine xn_ne (by first | assumption | omega | (simp only [xput, xnew]; omega)) ?_ | exact rfl) (by rfl) ?_
        refine wp_if_eq (tgt := 48) d_PR_addCopies_35 (by decide) (fun hc2 => ?_) (fun hc2 => ?_)
        · rw [bI_0] at hc2
          refine wp_aload_n d_PR_addCopies_48 rfl rfl ?_
          refine wp_iload d_PR_addCopies_49 rfl ?_
          refine wp_iload_n d_PR_addCopies_51 rfl rfl ?_
          refine wp_callV2 xc_PR_56 d_PR_addCopies_52 (Nat.le_of_ble_eq_true rfl) (by repeat first | assumption | exact xg_eq | exact xn_eq (by first | rfl | omega) | refine xg_ne (by first | assumption | omega | (simp only [xput, xnew]; omega)) ?_ | refine xn_ne (by first | assumption | omega | (simp only [xput, xnew]; omega)) ?_ | exact rfl) (c_PR_addFork hE p3 _ _) (by omega) (fun r h4 hp => ?_)
          obtain ⟨rfl, f4, p4⟩ := hp
          refine wp_istore d_PR_addCopies_55 (by decide) rfl ?_
          refine wp_iinc d_PR_addCopies_57 rfl rfl (by decide) rfl ?_
          refine wp_goto (tgt := 9) d_PR_addCopies_60 (by decide) ?_
          rw [show nI (y.2.2.1 - (k + 1)) + Int32.ofInt 1 = nI (y.2.2.1 - k) from by rw [show y.2.2.1 - k = (y.2.2.1 - (k + 1)) + 1 by omega, nI_succ]; rfl]
          exact ihk h4 (pFk (gAt cX d y.1 e.1 e.2).1 nx (gAt cX d y.1 e.1 e.2).2) [(6, _)] (Or.inr ⟨_, rfl⟩) (by omega) (by rw [hc2]; rw [gCp, hc2] at hq; exact hq) ((f2.tr f3).tr f4) p4 (pFk_le _ _ _)
        · rw [bI_0] at hc2
          refine wp_aload_n d_PR_addCopies_38 rfl rfl ?_
          refine wp_iload_n d_PR_addCopies_39 rfl rfl ?_
          refine wp_iload d_PR_addCopies_40 rfl ?_
          refine wp_callV2 xc_PR_56 d_PR_addCopies_42 (Nat.le_of_ble_eq_true rfl) (by repeat first | assumption | exact xg_eq | exact xn_eq (by first | rfl | omega) | refine xg_ne (by first | assumption | omega | (simp only [xput, xnew]; omega)) ?_ | refine xn_ne (by first | assumption | omega | (simp only [xput, xnew]; omega)) ?_ | exact rfl) (c_PR_addFork hE p3 _ _) (by omega) (fun r h4 hp => ?_)
          obtain ⟨rfl, f4, p4⟩ := hp
          refine wp_goto (tgt := 55) d_PR_addCopies_45 (by decide) ?_
          refine wp_istore d_PR_addCopies_55 (by decide) rfl ?_
          refine wp_iinc d_PR_addCopies_57 rfl rfl (by decide) rfl ?_
          refine wp_goto (tgt := 9) d_PR_addCopies_60 (by decide) ?_
          rw [show nI (y.2.2.1 - (k + 1)) + Int32.ofInt 1 = nI (y.2.2.1 - k) from by rw [show y.2.2.1 - k = (y.2.2.1 - (k + 1)) + 1 by omega, nI_succ]; rfl]
          exact ihk h4 (pFk nx (gAt cX d y.1 e.1 e.2).1 (gAt cX d y.1 e.1 e.2).2) [(6, _)] (Or.inr ⟨_, rfl⟩) (by omega) (by rw [b_t hc2]; rw [gCp, b_t hc2] at hq; exact hq) ((f2.tr f3).tr f4) p4 (pFk_le _ _ _)
  refine wpc_of rfl (Nat.le_of_ble_eq_true rfl) ?_
  refine wp_iload_n d_PR_addCopies_0 rfl rfl ?_
  refine wp_istore d_PR_addCopies_1 (by decide) rfl ?_
  refine wp_aload_n d_PR_addCopies_3 rfl rfl ?_
  refine wp_get xf_PR_94 d_PR_addCopies_4 (by repeat first | assumption | exact xg_eq | exact xn_eq (by first | rfl | omega) | refine xg_ne (by first | assumption | omega | (simp only [xput, xnew]; omega)) ?_ | refine xn_ne (by first | assumption | omega | (simp only [xput, xnew]; omega)) ?_ | exact rfl) (by rfl) ?_
  refine wp_istore d_PR_addCopies_7 (by decide) rfl ?_
  have := lp1 (y.2.2.1 - y.2.1) h (nx, q) [] (Or.inl rfl) (Nat.le_refl _) hW xfr.rf hp hn
  rw [show y.2.2.1 - (y.2.2.1 - y.2.1) = y.2.1 by omega] at this
  exact this
theorem c_PR_addRow (hE : xOK E) (hm : tMv tX) (ih : gIH E p fi tX cX D) (hD : 3 ≤ D) {h : xH} {q : PS0} {lo hi a nx d : Nat} {b : Option Nat} {ps : List (Pc X)} (hp : Pg E h p q fi) (hlo : p + 6 < lo) (ht : tRw sX eX tX h lo hi a b ps) (hn : nx ≤ 120) (hd0 : d ≤ 6) :
    wpc E (D + 4) m_PR_addRow [.ref p, .ref a, .int (nI nx), .int (nI d)] h (fun r' h' => r' = some (.int (nI (gRw cX d ps nx q).1)) ∧ xfr (pS p) h h' ∧ Pg E h' p (gRw cX d ps nx q).2 fi ∧ (gRw cX d ps nx q).1 ≤ 120) := by
  obtain ⟨t1, t2, l0, t3, t4⟩ := ht
  generalize hW : gRw cX d ps nx q = W
  have lp : ∀ (rs : List (Pc X)) (o : Option Nat) (h2 : xH) (e : Nat × PS0), tPl tX h2 lo hi o rs → gPl cX d rs e = W → xfr (pS p) h h2 → Pg E h2 p e.2 fi → e.1 ≤ 120 →
      wp E (D + 4) m_PR_addRow 9 [(0, .ref p), (1, .ref a), (2, .int (nI nx)), (3, .int (nI d)), (4, .int (nI e.1)), (5, va_rf o)] [] h2 (fun r' h' => r' = some (.int (nI W.1)) ∧ xfr (pS p) h h' ∧ Pg E h' p W.2 fi ∧ W.1 ≤ 120) := by
    intro rs
    induction rs with
    | nil =>
      intro o h2 e ht hq f2 p2 b2
      have ht : o = none := ht
      subst ht
      refine wp_aloadN d_PR_addRow_9 rfl ?_
      refine wp_ifnullN (tgt := 55) d_PR_addRow_11 (by decide) ?_
      refine wp_iload d_PR_addRow_55 rfl ?_
      refine wp_ireturn d_PR_addRow_57 rfl (by first | rfl | assumption) ?_
      rw [← hq]
      exact ⟨rfl, f2, p2, b2⟩
    | cons y rs ihr =>
      intro o h2 e ht hq f2 p2 b2
      obtain ⟨z, c, o', rfl, u1, u2, u3, u4, u5, u6⟩ := ht
      have w2 := p2.1
      have hx : tPx tX h2 lo hi z y := ⟨c, o', u1, u2, u3, u4, u5⟩
      have nxt : ∀ (h3 : xH) (W2 : Nat × PS0), gPc cX d y e.1 e.2 = W2 → xfr (pS p) h2 h3 → Pg E h3 p W2.2 fi → W2.1 ≤ 120 → wp E (D + 4) m_PR_addRow 43 [(0, .ref p), (1, .ref a), (2, .int (nI nx)), (3, .int (nI d)), (4, .int (nI e.1)), (5, .ref z)] [.int (nI W2.1)] h3 (fun r' h' => r' = some (.int (nI W.1)) ∧ xfr (pS p) h h' ∧ Pg E h' p W.2 fi ∧ W.1 ≤ 120) := by
        intro h3 W2 hW2 f3 p3 b3
        have o3 := f3.at (q := z) (by simp [pS]; omega) u3
        have t3' := u6.mv hm (pS_mv f3 hlo) (Nat.le_refl _) (Nat.le_refl _)
        refine wp_istore d_PR_addRow_43 (by decide) rfl ?_
        refine wp_aload d_PR_addRow_45 rfl ?_
        refine wp_get xf_PR_81 d_PR_addRow_47 (by repeat first | assumption | exact xg_eq | exact xn_eq (by first | rfl | omega) | refine xg_ne (by first | assumption | omega | (simp only [xput, xnew]; omega)) ?_ | refine xn_ne (by first | assumption | omega | (simp only [xput, xnew]; omega)) ?_ | exact rfl) (by rfl) ?_
        have fin := ihr o' h3 W2 t3' (by rw [← hW2]; exact hq) (f2.tr f3) p3 b3
        cases o' with
        | none =>
          refine wp_astoreN d_PR_addRow_50 (by decide) rfl ?_
          refine wp_goto (tgt := 9) d_PR_addRow_52 (by decide) ?_
          exact fin
        | some z2 =>
          refine wp_astore (x := z2) d_PR_addRow_50 (by decide) rfl ?_
          refine wp_goto (tgt := 9) d_PR_addRow_52 (by decide) ?_
          exact fin
      refine wp_aload (x := z) d_PR_addRow_9 rfl ?_
      refine wp_ifnull d_PR_addRow_11 ?_
      refine wp_aload (x := z) d_PR_addRow_14 rfl ?_
      refine wp_get xf_PR_68 d_PR_addRow_16 (by repeat first | assumption | exact xg_eq | exact xn_eq (by first | rfl | omega) | refine xg_ne (by first | assumption | omega | (simp only [xput, xnew]; omega)) ?_ | refine xn_ne (by first | assumption | omega | (simp only [xput, xnew]; omega)) ?_ | exact rfl) (by rfl) ?_
      refine wp_if_eq (tgt := 34) d_PR_addRow_19 (by decide) (fun hc => ?_) (fun hc => ?_)
      · rw [bI_0] at hc
        refine wp_aload_n d_PR_addRow_34 rfl rfl ?_
        refine wp_aload (x := z) d_PR_addRow_35 rfl ?_
        refine wp_iload d_PR_addRow_37 rfl ?_
        refine wp_iload_n d_PR_addRow_39 rfl rfl ?_
        refine wp_callV3 xc_PR_78 d_PR_addRow_40 (Nat.le_of_ble_eq_true rfl) (by repeat first | assumption | exact xg_eq | exact xn_eq (by first | rfl | omega) | refine xg_ne (by first | assumption | omega | (simp only [xput, xnew]; omega)) ?_ | refine xn_ne (by first | assumption | omega | (simp only [xput, xnew]; omega)) ?_ | exact rfl) (c_PR_addCopies hE hm ih hD p2 hlo hx b2 hd0) (by omega) (fun r h3 hp => ?_)
        obtain ⟨rfl, f3, p3, b3⟩ := hp
        exact nxt h3 _ (by rw [gPc, hc]; rfl) f3 p3 b3
      · rw [bI_0] at hc
        refine wp_aload_n d_PR_addRow_22 rfl rfl ?_
        refine wp_aload (x := z) d_PR_addRow_23 rfl ?_
        refine wp_iload d_PR_addRow_25 rfl ?_
        refine wp_iload_n d_PR_addRow_27 rfl rfl ?_
        refine wp_callV3 xc_PR_74 d_PR_addRow_28 (Nat.le_of_ble_eq_true rfl) (by repeat first | assumption | exact xg_eq | exact xn_eq (by first | rfl | omega) | refine xg_ne (by first | assumption | omega | (simp only [xput, xnew]; omega)) ?_ | refine xn_ne (by first | assumption | omega | (simp only [xput, xnew]; omega)) ?_ | exact rfl) (c_PR_addLoop hE hm ih hD p2 hlo hx b2 hd0) (by omega) (fun r h3 hp => ?_)
        obtain ⟨rfl, f3, p3, b3⟩ := hp
        refine wp_goto (tgt := 43) d_PR_addRow_31 (by decide) ?_
        exact nxt h3 _ (by rw [gPc, b_t hc]; rfl) f3 p3 b3
  have fin := lp ps.reverse l0 h (nx, q) t4 hW xfr.rf hp hn
  refine wpc_of rfl (Nat.le_of_ble_eq_true rfl) ?_
  refine wp_iload_n d_PR_addRow_0 rfl rfl ?_
  refine wp_istore d_PR_addRow_1 (by decide) rfl ?_
  refine wp_aload_n d_PR_addRow_3 rfl rfl ?_
  refine wp_get xf_PR_64 d_PR_addRow_4 (by repeat first | assumption | exact xg_eq | exact xn_eq (by first | rfl | omega) | refine xg_ne (by first | assumption | omega | (simp only [xput, xnew]; omega)) ?_ | refine xn_ne (by first | assumption | omega | (simp only [xput, xnew]; omega)) ?_ | exact rfl) (by rfl) ?_
  cases l0 with
  | none =>
    refine wp_astoreN d_PR_addRow_7 (by decide) rfl ?_
    exact fin
  | some z2 =>
    refine wp_astore (x := z2) d_PR_addRow_7 (by decide) rfl ?_
    exact fin
theorem c_PR_addChoice0 (hE : xOK E) (hm : tMv tX) (ih : gIH E p fi tX cX D) (hD : 3 ≤ D) : gIH E p fi (tCc sX eX tX) (gCc cX) (D + 5) := by
  intro h q lo hi c nx d x hp hlo ht hn hd0
  obtain ⟨t1, t2, l0, t3, t4⟩ := ht
  generalize hW : gCc cX d x nx q = W
  have key : ∀ (rs : Cc X) (o : Option Nat) (h2 : xH) (e : Nat × PS0) (a0 hi0 : Nat) (w : Value), l0 = some a0 → hi0 ≤ a0 → tRl sX eX tX h2 lo hi0 o rs → gRl cX d nx rs e = W → xfr (pS p) h h2 → Pg E h2 p e.2 fi → e.1 ≤ 120 →
      wp E (D + 5) m_PR_addChoice 9 [(0, .ref p), (1, .ref c), (2, .int (nI nx)), (3, .int (nI d)), (4, .int (nI e.1)), (5, va_rf o), (6, w)] [] h2 (fun r' h' => r' = some (.int (nI W.1)) ∧ xfr (pS p) h h' ∧ Pg E h' p W.2 fi ∧ W.1 ≤ 120) := by
    intro rs
    induction rs with
    | nil =>
      intro o h2 e a0 hi0 w hl hle ht hq f2 p2 b2
      have ht : o = none := ht
      subst ht
      refine wp_aloadN d_PR_addChoice_9 rfl ?_
      refine wp_ifnullN (tgt := 58) d_PR_addChoice_11 (by decide) ?_
      refine wp_iload d_PR_addChoice_58 rfl ?_
      refine wp_ireturn d_PR_addChoice_60 rfl (by first | rfl | assumption) ?_
      rw [← hq]
      exact ⟨rfl, f2, p2, b2⟩
    | cons y rs ihr =>
      intro o h2 e a0 hi0 w hl hle ht hq f2 p2 b2
      obtain ⟨z, o', rfl, u1, u2⟩ := ht
      have hz := u1.2.1
      have hz2 := u1.1
      have w2 := p2.1
      refine wp_aload (x := z) d_PR_addChoice_9 rfl ?_
      refine wp_ifnull d_PR_addChoice_11 ?_
      refine wp_aload_n d_PR_addChoice_14 rfl rfl ?_
      refine wp_aload (x := z) d_PR_addChoice_15 rfl ?_
      refine wp_iload_n d_PR_addChoice_17 rfl rfl ?_
      refine wp_iload_n d_PR_addChoice_18 rfl rfl ?_
      obtain ⟨-, -, lz, uz, -⟩ := id u1
      refine wp_callV3 xc_PR_52 d_PR_addChoice_19 (Nat.le_of_ble_eq_true rfl) (by repeat first | assumption | exact xg_eq | exact xn_eq (by first | rfl | omega) | refine xg_ne (by first | assumption | omega | (simp only [xput, xnew]; omega)) ?_ | refine xn_ne (by first | assumption | omega | (simp only [xput, xnew]; omega)) ?_ | exact rfl) (c_PR_addRow (sX := sX) (eX := eX) hE hm ih hD p2 hlo u1 hn hd0) (by omega) (fun r h3 hp => ?_)
      obtain ⟨rfl, f3, p3, b3⟩ := hp
      have w3 := p3.1
      have o3 := (f2.tr f3).at (q := c) (by simp [pS]; omega) t3
      have oz := f3.at (q := z) (by simp [pS]; omega) uz
      refine wp_istore d_PR_addChoice_22 (by decide) rfl ?_
      refine wp_aload (x := z) d_PR_addChoice_24 rfl ?_
      refine wp_aload_n d_PR_addChoice_26 rfl rfl ?_
      refine wp_get xf_PR_46 d_PR_addChoice_27 (by repeat first | assumption | exact xg_eq | exact xn_eq (by first | rfl | omega) | refine xg_ne (by first | assumption | omega | (simp only [xput, xnew]; omega)) ?_ | refine xn_ne (by first | assumption | omega | (simp only [xput, xnew]; omega)) ?_ | exact rfl) (by rfl) ?_
      refine wp_acmp_ne (x := some z) (y := l0) (tgt := 38) d_PR_addChoice_30 (by decide) (fun hc => ?_) (fun hc => ?_)
      · refine wp_aload_n d_PR_addChoice_38 rfl rfl ?_
        refine wp_iload d_PR_addChoice_39 rfl ?_
        refine wp_iload d_PR_addChoice_41 rfl ?_
        refine wp_callV2 xc_PR_56 d_PR_addChoice_43 (Nat.le_of_ble_eq_true rfl) (by repeat first | assumption | exact xg_eq | exact xn_eq (by first | rfl | omega) | refine xg_ne (by first | assumption | omega | (simp only [xput, xnew]; omega)) ?_ | refine xn_ne (by first | assumption | omega | (simp only [xput, xnew]; omega)) ?_ | exact rfl) (c_PR_addFork hE p3 _ _) (by omega) (fun r h4 hp => ?_)
        obtain ⟨rfl, f4, p4⟩ := hp
        have oz4 := f4.at (q := z) (by simp [pS]; omega) oz
        have t4' := u2.mv hm (Nat.le_refl _) (fun q q1 q2 => (f4.2.2 q (by simp [pS]; omega)).trans (f3.2.2 q (by simp [pS]; omega))) (Nat.le_refl _)
        have fin := ihr o' h4 (pFk (gRw cX d y nx e.2).1 e.1 (gRw cX d y nx e.2).2) a0 z (.int (nI (gRw cX d y nx e.2).1)) hl (by omega) t4' hq ((f2.tr f3).tr f4) p4 (pFk_le _ _ _)
        refine wp_istore d_PR_addChoice_46 (by decide) rfl ?_
        refine wp_aload (x := z) d_PR_addChoice_48 rfl ?_
        refine wp_get xf_PR_59 d_PR_addChoice_50 (by repeat first | assumption | exact xg_eq | exact xn_eq (by first | rfl | omega) | refine xg_ne (by first | assumption | omega | (simp only [xput, xnew]; omega)) ?_ | refine xn_ne (by first | assumption | omega | (simp only [xput, xnew]; omega)) ?_ | exact rfl) (by rfl) ?_
        cases o' with
        | none =>
          refine wp_astoreN d_PR_addChoice_53 (by decide) rfl ?_
          refine wp_goto (tgt := 9) d_PR_addChoice_55 (by decide) ?_
          exact fin
        | some z2 =>
          refine wp_astore (x := z2) d_PR_addChoice_53 (by decide) rfl ?_
          refine wp_goto (tgt := 9) d_PR_addChoice_55 (by decide) ?_
          exact fin
      · rw [hl] at hc
        cases hc
        omega
  have w1 := hp.1
  refine wpc_of rfl (Nat.le_of_ble_eq_true rfl) ?_
  refine wp_iload_n d_PR_addChoice_0 rfl rfl ?_
  refine wp_istore d_PR_addChoice_1 (by decide) rfl ?_
  refine wp_aload_n d_PR_addChoice_3 rfl rfl ?_
  refine wp_get xf_PR_46 d_PR_addChoice_4 (by repeat first | assumption | exact xg_eq | exact xn_eq (by first | rfl | omega) | refine xg_ne (by first | assumption | omega | (simp only [xput, xnew]; omega)) ?_ | refine xn_ne (by first | assumption | omega | (simp only [xput, xnew]; omega)) ?_ | exact rfl) (by rfl) ?_
  cases l0 with
  | none =>
    refine wp_astoreN d_PR_addChoice_7 (by decide) rfl ?_
    refine wp_aloadN d_PR_addChoice_9 rfl ?_
    refine wp_ifnullN (tgt := 58) d_PR_addChoice_11 (by decide) ?_
    refine wp_iload d_PR_addChoice_58 rfl ?_
    refine wp_ireturn d_PR_addChoice_60 rfl (by first | rfl | assumption) ?_
    have hx : x.reverse = [] := by
      cases hr : x.reverse with
      | nil => rfl
      | cons y rs => rw [hr] at t4; obtain ⟨_, _, z, _⟩ := t4; cases z
    have hW2 : W = (nx, q) := by rw [← hW, gCc, hx]
    rw [hW2]
    exact ⟨rfl, xfr.rf, hp, hn⟩
  | some a0 =>
    refine wp_astore (x := a0) d_PR_addChoice_7 (by decide) rfl ?_
    refine wp_leq (lo' := [(0, .ref p), (1, .ref c), (2, .int (nI nx)), (3, .int (nI d)), (4, .int (nI nx)), (5, .ref a0)]) rfl ?_
    cases hr : x.reverse with
    | nil => rw [hr] at t4; have t4 : some a0 = none := t4; cases t4
    | cons y rs =>
      rw [hr] at t4
      obtain ⟨z, o', e1, u1, u2⟩ := t4
      cases e1
      have hW2 : gRl cX d nx rs (gRw cX d y nx q) = W := by rw [← hW, gCc, hr]
      have hz := u1.2.1
      have hz2 := u1.1
      refine wp_aload (x := a0) d_PR_addChoice_9 rfl ?_
      refine wp_ifnull d_PR_addChoice_11 ?_
      refine wp_aload_n d_PR_addChoice_14 rfl rfl ?_
      refine wp_aload (x := a0) d_PR_addChoice_15 rfl ?_
      refine wp_iload_n d_PR_addChoice_17 rfl rfl ?_
      refine wp_iload_n d_PR_addChoice_18 rfl rfl ?_
      obtain ⟨-, -, lz, uz, -⟩ := id u1
      refine wp_callV3 xc_PR_52 d_PR_addChoice_19 (Nat.le_of_ble_eq_true rfl) (by repeat first | assumption | exact xg_eq | exact xn_eq (by first | rfl | omega) | refine xg_ne (by first | assumption | omega | (simp only [xput, xnew]; omega)) ?_ | refine xn_ne (by first | assumption | omega | (simp only [xput, xnew]; omega)) ?_ | exact rfl) (c_PR_addRow (sX := sX) (eX := eX) hE hm ih hD hp hlo u1 hn hd0) (by omega) (fun r h3 hp => ?_)
      obtain ⟨rfl, f3, p3, b3⟩ := hp
      have o3 := f3.at (q := c) (by simp [pS]; omega) t3
      have oz := f3.at (q := a0) (by simp [pS]; omega) uz
      refine wp_istore d_PR_addChoice_22 (by decide) rfl ?_
      refine wp_aload (x := a0) d_PR_addChoice_24 rfl ?_
      refine wp_aload_n d_PR_addChoice_26 rfl rfl ?_
      refine wp_get xf_PR_46 d_PR_addChoice_27 (by repeat first | assumption | exact xg_eq | exact xn_eq (by first | rfl | omega) | refine xg_ne (by first | assumption | omega | (simp only [xput, xnew]; omega)) ?_ | refine xn_ne (by first | assumption | omega | (simp only [xput, xnew]; omega)) ?_ | exact rfl) (by rfl) ?_
      refine wp_acmp_ne (x := some a0) (y := some a0) (tgt := 38) d_PR_addChoice_30 (by decide) (fun hc => absurd rfl hc) (fun hc => ?_)
      have t4' := u2.mv hm (Nat.le_refl _) (fun q q1 q2 => f3.2.2 q (by simp [pS]; omega)) (Nat.le_refl _)
      have fin := key rs o' h3 (gRw cX d y nx q) a0 a0 (.int (nI (gRw cX d y nx q).1)) rfl (Nat.le_refl _) t4' hW2 f3 p3 b3
      refine wp_iload d_PR_addChoice_33 rfl ?_
      refine wp_goto (tgt := 46) d_PR_addChoice_35 (by decide) ?_
      refine wp_istore d_PR_addChoice_46 (by decide) rfl ?_
      refine wp_leq (lo' := [(0, .ref p), (1, .ref c), (2, .int (nI nx)), (3, .int (nI d)), (4, .int (nI (gRw cX d y nx q).1)), (5, .ref a0), (6, .int (nI (gRw cX d y nx q).1))]) rfl ?_
      refine wp_aload (x := a0) d_PR_addChoice_48 rfl ?_
      refine wp_get xf_PR_59 d_PR_addChoice_50 (by repeat first | assumption | exact xg_eq | exact xn_eq (by first | rfl | omega) | refine xg_ne (by first | assumption | omega | (simp only [xput, xnew]; omega)) ?_ | refine xn_ne (by first | assumption | omega | (simp only [xput, xnew]; omega)) ?_ | exact rfl) (by rfl) ?_
      cases o' with
      | none =>
        refine wp_astoreN d_PR_addChoice_53 (by decide) rfl ?_
        refine wp_goto (tgt := 9) d_PR_addChoice_55 (by decide) ?_
        exact fin
      | some z2 =>
        refine wp_astore (x := z2) d_PR_addChoice_53 (by decide) rfl ?_
        refine wp_goto (tgt := 9) d_PR_addChoice_55 (by decide) ?_
        exact fin
end PI
theorem c_PR_addChoice {E : xE} {p fi : Nat} (hE : xOK E) : ∀ N, gIH E p fi (tT N) (gCh N) (3 + 5 * N)
  | 0 => fun h q lo hi c nx d x _ _ ht _ _ => False.elim ht
  | N + 1 => (c_PR_addChoice0 (sX := szT N) (eX := emT N) hE (tT.mv N) (c_PR_addChoice hE N) (by omega) : gIH E p fi (tT (N + 1)) (gCh (N + 1)) (3 + 5 * N + 5))
def gBld (N : Nat) (x : Ch N) (q : PS0) : Nat × PS0 := let e := pStp 0 0 (0, q.2); gCh N 0 x e.1 e.2
theorem c_PR_build {E : xE} {p fi : Nat} (hE : xOK E) {h : xH} {q : PS0} {lo hi c N : Nat} {x : Ch N} (hp : Pg E h p q fi) (hlo : p + 6 < lo) (ht : tT N h lo hi c x) : wpc E (4 + 5 * N) m_PR_build [.ref p, .ref c] h (fun r' h' => r' = none ∧ xfr (pS p) h h' ∧ Pg E h' p (gBld N x q).2 (gBld N x q).1 ∧ (gBld N x q).1 ≤ 120) := by
  obtain ⟨h1, h2, h3, h4, h5, h6, h7, h8⟩ := id hp
  refine wpc_of rfl (Nat.le_of_ble_eq_true rfl) ?_
  refine wp_aload_n d_PR_build_0 rfl rfl ?_
  refine wp_iconst (v := 0) d_PR_build_1 (by rfl) ?_
  refine wp_put xf_PR_31 xg_PR (Or.inl rfl) d_PR_build_2 (by repeat first | assumption | exact xg_eq | exact xn_eq (by first | rfl | omega) | refine xg_ne (by first | assumption | omega | (simp only [xput, xnew]; omega)) ?_ | refine xn_ne (by first | assumption | omega | (simp only [xput, xnew]; omega)) ?_ | exact rfl) (by first | rfl | assumption | exact bI_z _) (by first | rfl | assumption | exact bI_f _) (Nat.le_of_ble_eq_true rfl) ?_
  refine wp_aload_n d_PR_build_5 rfl rfl ?_
  refine wp_iconst (v := 0) d_PR_build_6 (by rfl) ?_
  refine wp_iconst (v := 0) d_PR_build_7 (by rfl) ?_
  generalize hh2 : xput h p _ = g2
  have f2 : xfr (pS p) h g2 := by rw [← hh2]; exact xfr.rf.put (by simp [pS])
  have p2 : Pg E g2 p (0, q.2) fi := by rw [← hh2]; exact ⟨(by repeat first | assumption | exact xg_eq | exact xn_eq (by first | rfl | omega) | refine xg_ne (by first | assumption | omega | (simp only [xput, xnew]; omega)) ?_ | refine xn_ne (by first | assumption | omega | (simp only [xput, xnew]; omega)) ?_ | exact rfl), (by repeat first | assumption | exact xg_eq | exact xn_eq (by first | rfl | omega) | refine xg_ne (by first | assumption | omega | (simp only [xput, xnew]; omega)) ?_ | refine xn_ne (by first | assumption | omega | (simp only [xput, xnew]; omega)) ?_ | exact rfl), (by repeat first | assumption | exact xg_eq | exact xn_eq (by first | rfl | omega) | refine xg_ne (by first | assumption | omega | (simp only [xput, xnew]; omega)) ?_ | refine xn_ne (by first | assumption | omega | (simp only [xput, xnew]; omega)) ?_ | exact rfl), (by repeat first | assumption | exact xg_eq | exact xn_eq (by first | rfl | omega) | refine xg_ne (by first | assumption | omega | (simp only [xput, xnew]; omega)) ?_ | refine xn_ne (by first | assumption | omega | (simp only [xput, xnew]; omega)) ?_ | exact rfl), (by repeat first | assumption | exact xg_eq | exact xn_eq (by first | rfl | omega) | refine xg_ne (by first | assumption | omega | (simp only [xput, xnew]; omega)) ?_ | refine xn_ne (by first | assumption | omega | (simp only [xput, xnew]; omega)) ?_ | exact rfl), (by repeat first | assumption | exact xg_eq | exact xn_eq (by first | rfl | omega) | refine xg_ne (by first | assumption | omega | (simp only [xput, xnew]; omega)) ?_ | refine xn_ne (by first | assumption | omega | (simp only [xput, xnew]; omega)) ?_ | exact rfl), (by repeat first | assumption | exact xg_eq | exact xn_eq (by first | rfl | omega) | refine xg_ne (by first | assumption | omega | (simp only [xput, xnew]; omega)) ?_ | refine xn_ne (by first | assumption | omega | (simp only [xput, xnew]; omega)) ?_ | exact rfl), Nat.zero_le _⟩
  clear hh2
  have w2 := p2.1
  have x2 := tT.mv N _ _ _ _ _ _ _ _ (pS_mv f2 hlo) (Nat.le_refl _) (Nat.le_refl _) ht
  refine wp_callV2 xc_PR_35 d_PR_build_8 (Nat.le_of_ble_eq_true rfl) (by repeat first | assumption | exact xg_eq | exact xn_eq (by first | rfl | omega) | refine xg_ne (by first | assumption | omega | (simp only [xput, xnew]; omega)) ?_ | refine xn_ne (by first | assumption | omega | (simp only [xput, xnew]; omega)) ?_ | exact rfl) (c_PR_addStep hE p2 0 0) (by omega) (fun r g3 hp => ?_)
  obtain ⟨rfl, f3, p3⟩ := hp
  have w3 := p3.1
  have x3 := tT.mv N _ _ _ _ _ _ _ _ (pS_mv f3 hlo) (Nat.le_refl _) (Nat.le_refl _) x2
  refine wp_istore_n d_PR_build_11 rfl (by decide) rfl ?_
  refine wp_aload_n d_PR_build_12 rfl rfl ?_
  refine wp_aload_n d_PR_build_13 rfl rfl ?_
  refine wp_aload_n d_PR_build_14 rfl rfl ?_
  refine wp_iload_n d_PR_build_15 rfl rfl ?_
  refine wp_iconst (v := 0) d_PR_build_16 (by rfl) ?_
  refine wp_callV3 xc_PR_39 d_PR_build_17 (Nat.le_of_ble_eq_true rfl) (by repeat first | assumption | exact xg_eq | exact xn_eq (by first | rfl | omega) | refine xg_ne (by first | assumption | omega | (simp only [xput, xnew]; omega)) ?_ | refine xn_ne (by first | assumption | omega | (simp only [xput, xnew]; omega)) ?_ | exact rfl) (c_PR_addChoice hE N g3 _ lo hi c _ 0 x p3 hlo x3 (pStp_le 0 0 _).1 (by decide)) (by omega) (fun r g4 hp => ?_)
  obtain ⟨rfl, f4, ⟨k1, k2, k3, k4, k5, k6, k7, k8⟩, b4⟩ := hp
  refine wp_put xf_PR_43 xg_PR (Or.inl rfl) d_PR_build_20 (by repeat first | assumption | exact xg_eq | exact xn_eq (by first | rfl | omega) | refine xg_ne (by first | assumption | omega | (simp only [xput, xnew]; omega)) ?_ | refine xn_ne (by first | assumption | omega | (simp only [xput, xnew]; omega)) ?_ | exact rfl) (by first | rfl | assumption | exact bI_z _) (by first | rfl | assumption | exact bI_f _) (Nat.le_of_ble_eq_true rfl) ?_
  refine wp_return d_PR_build_23 rfl ?_
  exact ⟨rfl, ((f2.tr f3).tr f4).put (by simp [pS]), ⟨(by repeat first | assumption | exact xg_eq | exact xn_eq (by first | rfl | omega) | refine xg_ne (by first | assumption | omega | (simp only [xput, xnew]; omega)) ?_ | refine xn_ne (by first | assumption | omega | (simp only [xput, xnew]; omega)) ?_ | exact rfl), (by repeat first | assumption | exact xg_eq | exact xn_eq (by first | rfl | omega) | refine xg_ne (by first | assumption | omega | (simp only [xput, xnew]; omega)) ?_ | refine xn_ne (by first | assumption | omega | (simp only [xput, xnew]; omega)) ?_ | exact rfl), (by repeat first | assumption | exact xg_eq | exact xn_eq (by first | rfl | omega) | refine xg_ne (by first | assumption | omega | (simp only [xput, xnew]; omega)) ?_ | refine xn_ne (by first | assumption | omega | (simp only [xput, xnew]; omega)) ?_ | exact rfl), (by repeat first | assumption | exact xg_eq | exact xn_eq (by first | rfl | omega) | refine xg_ne (by first | assumption | omega | (simp only [xput, xnew]; omega)) ?_ | refine xn_ne (by first | assumption | omega | (simp only [xput, xnew]; omega)) ?_ | exact rfl), (by repeat first | assumption | exact xg_eq | exact xn_eq (by first | rfl | omega) | refine xg_ne (by first | assumption | omega | (simp only [xput, xnew]; omega)) ?_ | refine xn_ne (by first | assumption | omega | (simp only [xput, xnew]; omega)) ?_ | exact rfl), (by repeat first | assumption | exact xg_eq | exact xn_eq (by first | rfl | omega) | refine xg_ne (by first | assumption | omega | (simp only [xput, xnew]; omega)) ?_ | refine xn_ne (by first | assumption | omega | (simp only [xput, xnew]; omega)) ?_ | exact rfl), (by repeat first | assumption | exact xg_eq | exact xn_eq (by first | rfl | omega) | refine xg_ne (by first | assumption | omega | (simp only [xput, xnew]; omega)) ?_ | refine xn_ne (by first | assumption | omega | (simp only [xput, xnew]; omega)) ?_ | exact rfl), k8⟩, b4⟩
