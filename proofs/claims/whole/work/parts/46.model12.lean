def wyI : Option Nat → Int32
  | some x => nI x
  | none => -1
def wyR (P T : List Int32) (l : Cd) (to : Int32) (fr : Nat) (tr : Nat → Bool) : Option Nat × (Nat → Nat) := dfs P T l to 12100 none [.inl (0, fr)] tr (fun _ => 0)
def filB (k : Nat) (tr : Nat → Bool) (j : Nat) : Bool := if j < k then false else tr j
theorem filB_step {k : Nat} {tr : Nat → Bool} : va_up (filB k tr) k false = filB (k + 1) tr := by
  funext j
  simp only [va_up, filB]
  by_cases e : j = k
  · subst e; simp
  · rw [if_neg e]
    by_cases h : j < k
    · rw [if_pos h, if_pos (by omega)]
    · rw [if_neg h, if_neg (by omega)]
theorem filB_0 {tr : Nat → Bool} : filB 0 tr = tr := by
  funext j
  rw [filB, if_neg (by omega)]
section M12
variable {E : xE} {h : xH} {A : MA3} {B : MB} {w : WS} {D : MD}
def wyP (E : xE) (h : xH) (A : MA3) (B : MB) (w : WS) (D : MD) (R : Option Nat × (Nat → Nat)) (r' : Option Value) (h' : xH) : Prop := r' = some (.int (wyI R.1)) ∧ mfr E h h' ∧ (∀ j, j < 14 → R.2 j ≤ 31) ∧ ∃ tr S M, mkF M R.2 ∧ MoW E h' A B w (tr, S, M, D.2.2.2)
theorem wy_main (hE : xOK E) (hok : cdOK A.1 w.1) (htl : A.2.1.length ≤ 30) {fr to : Int32} {R : Option Nat × (Nat → Nat)} : ∀ f : Nat,
    (∀ (st : List SE) (tr : Nat → Bool) (mm : Nat → Nat) (g : xH) (S M : Nat → Int32), 3 * cuN tr 4030 + 2 * st.length < f → st.length + cuN tr 4030 ≤ 4031 → st.length ≤ 4030 → (∀ e ∈ st, seOK w.1.length A.2.1.length e) → (∀ j, j < 14 → mm j ≤ 31) → mfr E h g → MoW E g A B w (tr, S, M, D.2.2.2) → stF S st → mkF M mm → dfs A.1 A.2.1 w.1 to f none st tr mm = R → wp E 3 m_MO_way 52 (yL E fr to st.length) [] g (wyP E h A B w D R)) ∧
    (∀ (p x : Nat) (e : Int32) (st : List SE) (tr : Nat → Bool) (mm : Nat → Nat) (g : xH) (S M : Nat → Int32), 3 * cuN tr 4030 + 2 * st.length + 1 < f → st.length + cuN tr 4030 ≤ 4030 → p < w.1.length → x ≤ A.2.1.length → (∀ e ∈ st, seOK w.1.length A.2.1.length e) → (∀ j, j < 14 → mm j ≤ 31) → mfr E h g → MoW E g A B w (tr, S, M, D.2.2.2) → stF S st → mkF M mm → dfs A.1 A.2.1 w.1 to f (some (p, x)) st tr mm = R → wp E 3 m_MO_way 115 (iL E fr to st.length e p x true) [] g (wyP E h A B w D R)) := by
  intro f
  induction f with
  | zero => exact ⟨fun st tr mm g S M h0 => absurd h0 (Nat.not_lt_zero _), fun p x e st tr mm g S M h0 => absurd h0 (Nat.not_lt_zero _)⟩
  | succ f ih =>
    obtain ⟨ihN, ihS⟩ := ih
    have hl130 := hok.2.1
    refine ⟨?_, ?_⟩
    · intro st tr mm g S M hmu hin hin2 hst hmm fg mg hS hM hR
      have hcu := cuN_le tr 4030
      cases st with
      | nil =>
        have hR : (none, mm) = R := hR
        refine wp_iload_n d_MO_way_52 rfl rfl ?_
        refine wp_if_le (tgt := 465) d_MO_way_53 (by decide) (fun hc => ?_) (fun hc => ?_)
        rotate_left
        · exact absurd (show nI 0 ≤ 0 by decide) hc
        refine wp_iconst (v := (-1)) d_MO_way_465 (by rfl) ?_
        refine wp_ireturn d_MO_way_466 rfl (by first | rfl | assumption) ?_
        rw [← hR]
        exact ⟨rfl, fg, hmm, tr, S, M, hM, mg⟩
      | cons e st =>
        have hmu : 3 * cuN tr 4030 + 2 * (st.length + 1) < f + 1 := hmu
        have hin : st.length + 1 + cuN tr 4030 ≤ 4031 := hin
        have hin2 : st.length + 1 ≤ 4030 := hin2
        have hS1 := hS.1
        obtain ⟨s, o, t, hc0, hl0, hm1⟩ := id mg
        obtain ⟨fp, ft, fo, qq, o21, a22, a23, a24, a25, a26, a27, a28, a29, a30, a31, a32, a33, a34, a35, a36, a37, a38, a39, a40⟩ := hm1
        have he := hst e List.mem_cons_self
        have hst' : ∀ e ∈ st, seOK w.1.length A.2.1.length e := fun e he => hst e (List.mem_cons_of_mem _ he)
        refine wp_leq (lo' := yL E fr to (st.length + 1)) rfl ?_
        refine wp_iload_n d_MO_way_52 rfl rfl ?_
        refine wp_if_le (tgt := 465) d_MO_way_53 (by decide) (fun hc => ?_) (fun hc => ?_)
        · exact absurd hc (nI_nle (by omega) (by omega))
        refine wp_iinc d_MO_way_56 rfl rfl (by decide) rfl ?_
        refine wp_aload_n d_MO_way_59 rfl rfl ?_
        refine wp_get xf_MO_62 d_MO_way_60 (by repeat first | exact xg_eq | exact xn_eq (by first | rfl | omega) | refine xg_ne (by first | omega | assumption | (simp only [xput, xnew]; omega)) ?_ | refine xn_ne (by first | omega | assumption | (simp only [xput, xnew]; omega)) ?_ | assumption | exact rfl) (by rfl) ?_
        refine wp_iload_n d_MO_way_63 rfl rfl ?_
        rw [show nI (st.length + 1) + Int32.ofInt (-1) = nI st.length from pk_m1 _]
        refine wp_iald d_MO_way_64 (by repeat first | exact xg_eq | exact xn_eq (by first | rfl | omega) | refine xg_ne (by first | omega | assumption | (simp only [xput, xnew]; omega)) ?_ | refine xn_ne (by first | omega | assumption | (simp only [xput, xnew]; omega)) ?_ | assumption | exact rfl) hE.i (vp_in_nI (by omega) (by omega)) ?_
        rw [nI_clamp (by omega), show (tr, S, M, D.2.2.2).2.1 st.length = seI e from hS1]
        refine wp_istore d_MO_way_65 (by decide) rfl ?_
        refine wp_iload d_MO_way_67 rfl ?_
        cases e with
        | inl q =>
          have hR : dfs A.1 A.2.1 w.1 to f (some (q.1, q.2)) st tr mm = R := hR
          have hq1 : q.1 < w.1.length := he.1
          have hq2 : q.2 ≤ A.2.1.length := he.2
          refine wp_if_ge (tgt := 98) d_MO_way_69 (by decide) (fun hc1 => ?_) (fun hc1 => ?_)
          rotate_left
          · exact absurd (nI_pos' (n := q.1 * 32 + q.2) (by omega)) hc1
          refine wp_leq (lo' := yL E fr to st.length ++ [(4, .int (nI (q.1 * 32 + q.2)))]) rfl ?_
          refine wp_iload d_MO_way_98 rfl ?_
          refine wp_bipush (v := 32) d_MO_way_100 (by rfl) ?_
          refine wp_idiv d_MO_way_102 (by decide) ?_
          rw [show nI (q.1 * 32 + q.2) / 32 = nI q.1 from by rw [show (32 : Int32) = nI 32 from rfl, pk_div (by omega) (by omega) (by omega)]; congr 1; omega]
          refine wp_istore d_MO_way_103 (by decide) rfl ?_
          refine wp_iload d_MO_way_105 rfl ?_
          refine wp_bipush (v := 32) d_MO_way_107 (by rfl) ?_
          refine wp_irem d_MO_way_109 (by decide) ?_
          rw [show nI (q.1 * 32 + q.2) - nI (q.1 * 32 + q.2) / 32 * 32 = nI q.2 from by rw [show (32 : Int32) = nI 32 from rfl, pk_rem (by omega) (by omega) (by omega)]; congr 1; omega]
          refine wp_istore d_MO_way_110 (by decide) rfl ?_
          refine wp_iconst (v := 1) d_MO_way_112 (by rfl) ?_
          refine wp_istore d_MO_way_113 (by decide) rfl ?_
          exact ihS q.1 q.2 _ st tr mm g S M (by omega) (by omega) hq1 hq2 hst' hmm fg mg hS.2 hM hR
        | inr q =>
          have hR : dfs A.1 A.2.1 w.1 to f none st tr (va_up mm q.1 q.2) = R := hR
          have hq1 : q.1 ≤ 13 := he.1
          have hq2 : q.2 ≤ 31 := he.2
          refine wp_if_ge (tgt := 98) d_MO_way_69 (by decide) (fun hc1 => ?_) (fun hc1 => ?_)
          · exact absurd (m1_neg (k := q.1 * 64 + q.2) (by omega)) (Int32.not_lt.mpr hc1)
          refine wp_leq (lo' := yL E fr to st.length ++ [(4, .int (-1 - nI (q.1 * 64 + q.2)))]) rfl ?_
          refine wp_iconst (v := (-1)) d_MO_way_72 (by rfl) ?_
          refine wp_iload d_MO_way_73 rfl ?_
          refine wp_isub d_MO_way_75 ?_
          rw [show (-1 : Int32) - (-1 - nI (q.1 * 64 + q.2)) = nI (q.1 * 64 + q.2) from by generalize nI (q.1 * 64 + q.2) = z; grind]
          refine wp_istore d_MO_way_76 (by decide) rfl ?_
          refine wp_aload_n d_MO_way_78 rfl rfl ?_
          refine wp_get xf_MO_65 d_MO_way_79 o21 (by rfl) ?_
          refine wp_iload d_MO_way_82 rfl ?_
          refine wp_bipush (v := 64) d_MO_way_84 (by rfl) ?_
          refine wp_idiv d_MO_way_86 (by decide) ?_
          rw [show nI (q.1 * 64 + q.2) / 64 = nI q.1 from by rw [show (64 : Int32) = nI 64 from rfl, pk_div (by omega) (by omega) (by omega)]; congr 1; omega]
          refine wp_iload d_MO_way_87 rfl ?_
          refine wp_bipush (v := 64) d_MO_way_89 (by rfl) ?_
          refine wp_irem d_MO_way_91 (by decide) ?_
          rw [show nI (q.1 * 64 + q.2) - nI (q.1 * 64 + q.2) / 64 * 64 = nI q.2 from by rw [show (64 : Int32) = nI 64 from rfl, pk_rem (by omega) (by omega) (by omega)]; congr 1; omega]
          refine wp_iconst (v := 1) d_MO_way_92 (by rfl) ?_
          refine wp_isub d_MO_way_93 ?_
          refine wp_iast d_MO_way_94 a40 hE.i (vp_in_nI (by omega) (by omega)) ?_
          rw [nI_clamp (by omega)]
          refine wp_goto (tgt := 462) d_MO_way_95 (by decide) ?_
          refine wp_goto (tgt := 52) d_MO_way_462 (by decide) ?_
          refine wp_lo (lo' := yL E fr to st.length) (fun z hz => List.mem_append_left ([(4, .int (-1 - nI (q.1 * 64 + q.2))), (5, .int (nI (q.1 * 64 + q.2)))] : List (Nat × Value)) hz) ?_
          refine ihN st tr (va_up mm q.1 q.2) _ S (upd M q.1 (nI q.2 - 1)) (by omega) (by omega) (by omega) hst' ?_ (fg.put (by omega)) ⟨s, o, t, hc0, hl0, ⟨fp, ft, fo, qq, (by first | (repeat (refine xg_ne (by omega) ?_)); first | exact xg_eq | exact o21), (by first | (repeat (refine xg_ne (by omega) ?_)); first | exact xg_eq | exact a22), (by first | (repeat (refine xg_ne (by omega) ?_)); first | exact xg_eq | exact a23), (by first | (repeat (refine xg_ne (by omega) ?_)); first | exact xg_eq | exact a24), (by first | (repeat (refine xg_ne (by omega) ?_)); first | exact xg_eq | exact a25), (by first | (repeat (refine xg_ne (by omega) ?_)); first | exact xg_eq | exact a26), (by first | (repeat (refine xg_ne (by omega) ?_)); first | exact xg_eq | exact a27), (by first | (repeat (refine xg_ne (by omega) ?_)); first | exact xg_eq | exact a28), (by first | (repeat (refine xg_ne (by omega) ?_)); first | exact xg_eq | exact a29), (by first | (repeat (refine xg_ne (by omega) ?_)); first | exact xg_eq | exact a30), (by first | (repeat (refine xg_ne (by omega) ?_)); first | exact xg_eq | exact a31), (by first | (repeat (refine xg_ne (by omega) ?_)); first | exact xg_eq | exact a32), (by first | (repeat (refine xg_ne (by omega) ?_)); first | exact xg_eq | exact a33), (by first | (repeat (refine xg_ne (by omega) ?_)); first | exact xg_eq | exact a34), (by first | (repeat (refine xg_ne (by omega) ?_)); first | exact xg_eq | exact a35), (by first | (repeat (refine xg_ne (by omega) ?_)); first | exact xg_eq | exact a36), (by first | (repeat (refine xg_ne (by omega) ?_)); first | exact xg_eq | exact a37), (by first | (repeat (refine xg_ne (by omega) ?_)); first | exact xg_eq | exact a38), (by first | (repeat (refine xg_ne (by omega) ?_)); first | exact xg_eq | exact a39), (by first | (repeat (refine xg_ne (by omega) ?_)); first | exact xg_eq | exact a40)⟩⟩ hS.2 (hM.up rfl) hR
          intro j hj
          rw [va_up]
          split
          · exact hq2
          · exact hmm j hj
    · intro p x e st tr mm g S M hmu hin hp0 hx0 hst hmm fg mg hS hM hR
      have hcu := cuN_le tr 4030
      have hx : x ≤ 30 := by omega
      obtain ⟨k1, k2, k3, k4, k5⟩ := hok.2.2 p hp0
      rw [dfs] at hR
      dsimp only at hR
      refine wy_tr hE mg (by omega) hx (fun g1 f1 m1 => ?_)
      have fg1 := fg.tr f1
      by_cases htr : tr (p * 31 + x) = true
      · rw [if_pos htr] at hR
        have m1 : MoW E g1 A B w (va_up tr (p * 31 + x) true, S, M, D.2.2.2) := m1
        rw [vaup_same htr] at m1
        refine wp_leq (lo' := iL E fr to st.length e p x false) (by show iL E fr to st.length e p x (!tr (p * 31 + x)) = _; rw [htr]; rfl) ?_
        refine wy_skip ?_
        exact ihN st tr mm g1 S M (by omega) (by omega) (by omega) hst hmm fg1 m1 hS hM hR
      rw [if_neg htr] at hR
      have htr' : tr (p * 31 + x) = false := by cases hh : tr (p * 31 + x) <;> simp_all
      have hcu2 := cuN_up htr' (n := 4030) (by omega)
      generalize va_up tr (p * 31 + x) true = tr' at *
      have m1 : MoW E g1 A B w (tr', S, M, D.2.2.2) := m1
      refine wp_leq (lo' := iL E fr to st.length e p x true) (by show iL E fr to st.length e p x (!tr (p * 31 + x)) = _; rw [htr']; rfl) ?_
      by_cases h8 : (cIn w.1 p).1 = 8
      · rw [if_pos h8] at hR
        refine wy_8 hE m1 hp0 h8 hx (fun hb => ?_) (fun hb => ?_)
        · rw [if_pos hb] at hR
          rw [← hR]
          exact ⟨rfl, fg1, hmm, tr', S, M, hM, m1⟩
        · rw [if_neg (by rw [hb]; decide)] at hR
          exact ihN st tr' mm g1 S M (by omega) (by omega) (by omega) hst hmm fg1 m1 hS hM hR
      rw [if_neg h8] at hR
      refine wy_n8 hE m1 hp0 h8 ?_
      by_cases h5 : (cIn w.1 p).1 = 5
      · rw [if_pos h5] at hR
        obtain ⟨⟨m, hm13, em⟩, hp1⟩ := k2 h5
        have ecm : cMk w.1 p = m := by rw [cMk, em, nI_clamp (by omega)]
        rw [ecm] at hR
        refine wy_5 hE m1 hp0 h5 hx em hm13 (o := mm m) (hM m (by omega)) (hmm m (by omega)) (by omega) (fun g2 f2 m2 => ?_)
        refine ihS (p + 1) x e (.inr (m, mm m) :: st) tr' (va_up mm m (x + 1)) g2 _ _ (by show 3 * cuN tr' 4030 + 2 * (st.length + 1) + 1 < f; omega) (by show st.length + 1 + cuN tr' 4030 ≤ 4030; omega) hp1 hx0 ?_ ?_ (fg1.tr f2) m2 ⟨pk_us, hS.up (Nat.le_refl _)⟩ (hM.up (by rw [nI_pred])) hR
        · intro e he
          rcases List.mem_cons.mp he with rfl | he
          · exact ⟨hm13, hmm m (by omega)⟩
          · exact hst e he
        · intro j hj
          rw [va_up]
          split
          · omega
          · exact hmm j hj
      rw [if_neg h5] at hR
      refine wy_n5 hE m1 hp0 h5 ?_
      by_cases h6 : (cIn w.1 p).1 = 6
      · rw [if_pos h6] at hR
        obtain ⟨⟨t1, lt1, et1⟩, t2, lt2, et2⟩ := k3 h6
        have e1 : cN1 w.1 p = t1 := by rw [cN1, et1, nI_clamp (by omega)]
        have e2 : cN2 w.1 p = t2 := by rw [cN2, et2, nI_clamp (by omega)]
        rw [e1, e2] at hR
        refine wy_6 hE m1 hp0 h6 hx et1 et2 (by omega) (by omega) (fun g2 f2 m2 => ?_)
        refine ihS t1 x e (.inl (t2, x) :: st) tr' mm g2 _ _ (by show 3 * cuN tr' 4030 + 2 * (st.length + 1) + 1 < f; omega) (by show st.length + 1 + cuN tr' 4030 ≤ 4030; omega) lt1 hx0 ?_ hmm (fg1.tr f2) m2 ⟨pk_us, hS.up (Nat.le_refl _)⟩ hM hR
        intro e he
        rcases List.mem_cons.mp he with rfl | he
        · exact ⟨lt2, hx0⟩
        · exact hst e he
      rw [if_neg h6] at hR
      refine wy_n6 hE m1 hp0 h6 ?_
      by_cases h7 : (cIn w.1 p).1 = 7
      · rw [if_pos h7] at hR
        obtain ⟨t1, lt1, et1⟩ := k4 h7
        have e1 : cN1 w.1 p = t1 := by rw [cN1, et1, nI_clamp (by omega)]
        rw [e1] at hR
        refine wy_7 hE m1 hp0 h7 et1 ?_
        exact ihS t1 x e st tr' mm g1 S M (by omega) (by omega) lt1 hx0 hst hmm fg1 m1 hS hM hR
      rw [if_neg h7] at hR
      refine wy_n7 hE m1 hp0 h7 ?_
      have hp1 := k5 h5 h6 h7 h8
      by_cases h3 : (cIn w.1 p).1 < 3
      · rw [if_neg (fun z => z h3)] at hR
        refine wy_02 hE m1 hp0 h3 hx k1 (fun hb => ?_) (fun hb => ?_)
        · rw [if_pos hb] at hR
          exact ihS (p + 1) (x + 1) e st tr' mm g1 S M (by omega) (by omega) hp1 hb.1 hst hmm fg1 m1 hS hM hR
        · rw [if_neg hb] at hR
          exact ihN st tr' mm g1 S M (by omega) (by omega) (by omega) hst hmm fg1 m1 hS hM hR
      · rw [if_pos h3] at hR
        refine wy_34 hE m1 hp0 h3 hx (fun hb => ?_) (fun hb => ?_)
        · rw [if_pos hb] at hR
          exact ihS (p + 1) x e st tr' mm g1 S M (by omega) (by omega) hp1 hx0 hst hmm fg1 m1 hS hM hR
        · rw [if_neg hb] at hR
          exact ihN st tr' mm g1 S M (by omega) (by omega) (by omega) hst hmm fg1 m1 hS hM hR
theorem c_MO_way (hE : xOK E) (hm : MoW E h A B w D) (hok : cdOK A.1 w.1) {fr : Nat} (hfr : fr ≤ A.2.1.length) (to : Int32) : wpc E 3 m_MO_way [.ref (xb E + 21), .int (nI fr), .int to] h (fun r' h' => wyP E h A B w D (wyR A.1 A.2.1 w.1 to fr (filB 4030 D.1)) r' h') := by
  obtain ⟨s, o, t, hc0, hl0, hm0⟩ := hm
  have hl := hm0.len
  have cl : ∀ k, k ≤ 4030 → cuN (filB 4030 D.1) k = k := by
    intro k hk
    induction k with
    | zero => rfl
    | succ k ih =>
      rw [cuN, ih (by omega), show filB 4030 D.1 k = false from by rw [filB, if_pos (by omega)]]
      rfl
  have two : ∀ (q k : Nat) (g : xH), k + q = 14 → mfr E h g → Mo E g A B (s, o, t, w.1.length, w.2) (filB 4030 D.1, D.2.1, filled k (-1) D.2.2.1, D.2.2.2) → wp E 3 m_MO_way 24 [(0, .ref (xb E + 21)), (1, .int (nI fr)), (2, .int to), (3, .int (nI k))] [] g (fun r' h' => wyP E h A B w D (wyR A.1 A.2.1 w.1 to fr (filB 4030 D.1)) r' h') := by
    intro q
    induction q with
    | zero =>
      intro k g hk fg mg
      have hk : k = 14 := hk
      subst hk
      obtain ⟨fp, ft, fo, qq, o21, a22, a23, a24, a25, a26, a27, a28, a29, a30, a31, a32, a33, a34, a35, a36, a37, a38, a39, a40⟩ := mg
      refine wp_iload_n d_MO_way_24 rfl rfl ?_
      refine wp_bipush (v := 14) d_MO_way_25 (by rfl) ?_
      refine wp_icmp_ge (tgt := 43) d_MO_way_27 (by decide) (fun hc => ?_) (fun hc => ?_)
      rotate_left
      · exact absurd (show (14 : Int32) ≤ nI 14 by decide) hc
      refine wp_iconst (v := 1) d_MO_way_43 (by rfl) ?_
      refine wp_istore_n d_MO_way_44 rfl (by decide) rfl ?_
      refine wp_aload_n d_MO_way_45 rfl rfl ?_
      refine wp_get xf_MO_62 d_MO_way_46 (by repeat first | exact xg_eq | exact xn_eq (by first | rfl | omega) | refine xg_ne (by first | omega | assumption | (simp only [xput, xnew]; omega)) ?_ | refine xn_ne (by first | omega | assumption | (simp only [xput, xnew]; omega)) ?_ | assumption | exact rfl) (by rfl) ?_
      refine wp_iconst (v := 0) d_MO_way_49 (by rfl) ?_
      refine wp_iload_n d_MO_way_50 rfl rfl ?_
      rw [show (0 : Int32) = nI 0 from rfl]
      refine wp_iast d_MO_way_51 (by repeat first | exact xg_eq | exact xn_eq (by first | rfl | omega) | refine xg_ne (by first | omega | assumption | (simp only [xput, xnew]; omega)) ?_ | refine xn_ne (by first | omega | assumption | (simp only [xput, xnew]; omega)) ?_ | assumption | exact rfl) hE.i (vp_in_nI (by omega) (by omega)) ?_
      rw [nI_clamp (by omega)]
      refine (wy_main hE hok hl.2.1 12100).1 [.inl (0, fr)] (filB 4030 D.1) (fun _ => 0) _ (upd D.2.1 0 (nI fr)) (filled 14 (-1) D.2.2.1) ?_ ?_ (by show 1 ≤ 4030; omega) ?_ (fun _ _ => Nat.zero_le _) (fg.put (by omega)) ⟨s, o, t, hc0, hl0, ⟨fp, ft, fo, qq, (by first | (repeat (refine xg_ne (by omega) ?_)); first | exact xg_eq | exact o21), (by first | (repeat (refine xg_ne (by omega) ?_)); first | exact xg_eq | exact a22), (by first | (repeat (refine xg_ne (by omega) ?_)); first | exact xg_eq | exact a23), (by first | (repeat (refine xg_ne (by omega) ?_)); first | exact xg_eq | exact a24), (by first | (repeat (refine xg_ne (by omega) ?_)); first | exact xg_eq | exact a25), (by first | (repeat (refine xg_ne (by omega) ?_)); first | exact xg_eq | exact a26), (by first | (repeat (refine xg_ne (by omega) ?_)); first | exact xg_eq | exact a27), (by first | (repeat (refine xg_ne (by omega) ?_)); first | exact xg_eq | exact a28), (by first | (repeat (refine xg_ne (by omega) ?_)); first | exact xg_eq | exact a29), (by first | (repeat (refine xg_ne (by omega) ?_)); first | exact xg_eq | exact a30), (by first | (repeat (refine xg_ne (by omega) ?_)); first | exact xg_eq | exact a31), (by first | (repeat (refine xg_ne (by omega) ?_)); first | exact xg_eq | exact a32), (by first | (repeat (refine xg_ne (by omega) ?_)); first | exact xg_eq | exact a33), (by first | (repeat (refine xg_ne (by omega) ?_)); first | exact xg_eq | exact a34), (by first | (repeat (refine xg_ne (by omega) ?_)); first | exact xg_eq | exact a35), (by first | (repeat (refine xg_ne (by omega) ?_)); first | exact xg_eq | exact a36), (by first | (repeat (refine xg_ne (by omega) ?_)); first | exact xg_eq | exact a37), (by first | (repeat (refine xg_ne (by omega) ?_)); first | exact xg_eq | exact a38), (by first | (repeat (refine xg_ne (by omega) ?_)); first | exact xg_eq | exact a39), (by first | (repeat (refine xg_ne (by omega) ?_)); first | exact xg_eq | exact a40)⟩⟩ ⟨?_, trivial⟩ ?_ rfl
      · rw [cl 4030 (Nat.le_refl _)]; show 3 * 4030 + 2 * 1 < 12100; omega
      · rw [cl 4030 (Nat.le_refl _)]; show 1 + 4030 ≤ 4031; omega
      · intro e he
        rw [List.mem_singleton.mp he]
        exact ⟨hok.1, hfr⟩
      · show upd D.2.1 0 (nI fr) 0 = nI (0 * 32 + fr)
        rw [pk_us, show 0 * 32 + fr = fr by omega]
      · intro j hj
        rw [filled, if_pos hj]
        rfl
    | succ q ih =>
      intro k g hk fg mg
      obtain ⟨fp, ft, fo, qq, o21, a22, a23, a24, a25, a26, a27, a28, a29, a30, a31, a32, a33, a34, a35, a36, a37, a38, a39, a40⟩ := mg
      refine wp_iload_n d_MO_way_24 rfl rfl ?_
      refine wp_bipush (v := 14) d_MO_way_25 (by rfl) ?_
      refine wp_icmp_ge (tgt := 43) d_MO_way_27 (by decide) (fun hc => ?_) (fun hc => ?_)
      · exact absurd ((nI_leI (a := 14) (by omega) (by omega)).mp hc) (by omega)
      refine wp_aload_n d_MO_way_30 rfl rfl ?_
      refine wp_get xf_MO_65 d_MO_way_31 (by repeat first | exact xg_eq | exact xn_eq (by first | rfl | omega) | refine xg_ne (by first | omega | assumption | (simp only [xput, xnew]; omega)) ?_ | refine xn_ne (by first | omega | assumption | (simp only [xput, xnew]; omega)) ?_ | assumption | exact rfl) (by rfl) ?_
      refine wp_iload_n d_MO_way_34 rfl rfl ?_
      refine wp_iconst (v := (-1)) d_MO_way_35 (by rfl) ?_
      refine wp_iast d_MO_way_36 (by repeat first | exact xg_eq | exact xn_eq (by first | rfl | omega) | refine xg_ne (by first | omega | assumption | (simp only [xput, xnew]; omega)) ?_ | refine xn_ne (by first | omega | assumption | (simp only [xput, xnew]; omega)) ?_ | assumption | exact rfl) hE.i (vp_in_nI (by omega) (by omega)) ?_
      rw [nI_clamp (by omega), show upd (filB 4030 D.1, D.2.1, filled k (-1) D.2.2.1, D.2.2.2).2.2.1 k (-1) = filled (k + 1) (-1) D.2.2.1 from filled_step]
      refine wp_iinc d_MO_way_37 rfl rfl (by decide) rfl ?_
      refine wp_goto (tgt := 24) d_MO_way_40 (by decide) ?_
      rw [show nI k + Int32.ofInt 1 = nI (k + 1) from (nI_succ k).symm]
      exact ih (k + 1) _ (by omega) (fg.put (by omega)) ⟨fp, ft, fo, qq, (by first | (repeat (refine xg_ne (by omega) ?_)); first | exact xg_eq | exact o21), (by first | (repeat (refine xg_ne (by omega) ?_)); first | exact xg_eq | exact a22), (by first | (repeat (refine xg_ne (by omega) ?_)); first | exact xg_eq | exact a23), (by first | (repeat (refine xg_ne (by omega) ?_)); first | exact xg_eq | exact a24), (by first | (repeat (refine xg_ne (by omega) ?_)); first | exact xg_eq | exact a25), (by first | (repeat (refine xg_ne (by omega) ?_)); first | exact xg_eq | exact a26), (by first | (repeat (refine xg_ne (by omega) ?_)); first | exact xg_eq | exact a27), (by first | (repeat (refine xg_ne (by omega) ?_)); first | exact xg_eq | exact a28), (by first | (repeat (refine xg_ne (by omega) ?_)); first | exact xg_eq | exact a29), (by first | (repeat (refine xg_ne (by omega) ?_)); first | exact xg_eq | exact a30), (by first | (repeat (refine xg_ne (by omega) ?_)); first | exact xg_eq | exact a31), (by first | (repeat (refine xg_ne (by omega) ?_)); first | exact xg_eq | exact a32), (by first | (repeat (refine xg_ne (by omega) ?_)); first | exact xg_eq | exact a33), (by first | (repeat (refine xg_ne (by omega) ?_)); first | exact xg_eq | exact a34), (by first | (repeat (refine xg_ne (by omega) ?_)); first | exact xg_eq | exact a35), (by first | (repeat (refine xg_ne (by omega) ?_)); first | exact xg_eq | exact a36), (by first | (repeat (refine xg_ne (by omega) ?_)); first | exact xg_eq | exact a37), (by first | (repeat (refine xg_ne (by omega) ?_)); first | exact xg_eq | exact a38), (by first | (repeat (refine xg_ne (by omega) ?_)); first | exact xg_eq | exact a39), (by first | (repeat (refine xg_ne (by omega) ?_)); first | exact xg_eq | exact a40)⟩
  have one : ∀ (q k : Nat) (g : xH), k + q = 4030 → mfr E h g → Mo E g A B (s, o, t, w.1.length, w.2) (filB k D.1, D.2) → wp E 3 m_MO_way 2 [(0, .ref (xb E + 21)), (1, .int (nI fr)), (2, .int to), (3, .int (nI k))] [] g (fun r' h' => wyP E h A B w D (wyR A.1 A.2.1 w.1 to fr (filB 4030 D.1)) r' h') := by
    intro q
    induction q with
    | zero =>
      intro k g hk fg mg
      have hk : k = 4030 := hk
      subst hk
      refine wp_iload_n d_MO_way_2 rfl rfl ?_
      refine wp_sipush (v := 4030) d_MO_way_3 (by rfl) ?_
      refine wp_icmp_ge (tgt := 22) d_MO_way_6 (by decide) (fun hc => ?_) (fun hc => ?_)
      rotate_left
      · exact absurd (show (4030 : Int32) ≤ nI 4030 by decide) hc
      refine wp_iconst (v := 0) d_MO_way_22 (by rfl) ?_
      refine wp_istore_n d_MO_way_23 rfl (by decide) rfl ?_
      refine two 14 0 g rfl fg ?_
      rw [show filled 0 (-1) D.2.2.1 = D.2.2.1 from by funext j; rw [filled, if_neg (by omega)]]
      exact mg
    | succ q ih =>
      intro k g hk fg mg
      obtain ⟨fp, ft, fo, qq, o21, a22, a23, a24, a25, a26, a27, a28, a29, a30, a31, a32, a33, a34, a35, a36, a37, a38, a39, a40⟩ := mg
      refine wp_iload_n d_MO_way_2 rfl rfl ?_
      refine wp_sipush (v := 4030) d_MO_way_3 (by rfl) ?_
      refine wp_icmp_ge (tgt := 22) d_MO_way_6 (by decide) (fun hc => ?_) (fun hc => ?_)
      · exact absurd ((nI_leI (a := 4030) (by omega) (by omega)).mp hc) (by omega)
      refine wp_aload_n d_MO_way_9 rfl rfl ?_
      refine wp_get xf_MO_59 d_MO_way_10 (by repeat first | exact xg_eq | exact xn_eq (by first | rfl | omega) | refine xg_ne (by first | omega | assumption | (simp only [xput, xnew]; omega)) ?_ | refine xn_ne (by first | omega | assumption | (simp only [xput, xnew]; omega)) ?_ | assumption | exact rfl) (by rfl) ?_
      refine wp_iload_n d_MO_way_13 rfl rfl ?_
      refine wp_iconst (v := 0) d_MO_way_14 (by rfl) ?_
      refine wp_zast d_MO_way_15 (by repeat first | exact xg_eq | exact xn_eq (by first | rfl | omega) | refine xg_ne (by first | omega | assumption | (simp only [xput, xnew]; omega)) ?_ | refine xn_ne (by first | omega | assumption | (simp only [xput, xnew]; omega)) ?_ | assumption | exact rfl) hE.z (vp_in_nI (by omega) (by omega)) (by first | exact bI_01 _ | exact Or.inl rfl | exact Or.inr rfl | assumption) ?_
      rw [show (0 : Int32) = bI false from rfl, upd_bI (by omega), filB_step]
      refine wp_iinc d_MO_way_16 rfl rfl (by decide) rfl ?_
      refine wp_goto (tgt := 2) d_MO_way_19 (by decide) ?_
      rw [show nI k + Int32.ofInt 1 = nI (k + 1) from (nI_succ k).symm]
      exact ih (k + 1) _ (by omega) (fg.put (by omega)) ⟨fp, ft, fo, qq, (by first | (repeat (refine xg_ne (by omega) ?_)); first | exact xg_eq | exact o21), (by first | (repeat (refine xg_ne (by omega) ?_)); first | exact xg_eq | exact a22), (by first | (repeat (refine xg_ne (by omega) ?_)); first | exact xg_eq | exact a23), (by first | (repeat (refine xg_ne (by omega) ?_)); first | exact xg_eq | exact a24), (by first | (repeat (refine xg_ne (by omega) ?_)); first | exact xg_eq | exact a25), (by first | (repeat (refine xg_ne (by omega) ?_)); first | exact xg_eq | exact a26), (by first | (repeat (refine xg_ne (by omega) ?_)); first | exact xg_eq | exact a27), (by first | (repeat (refine xg_ne (by omega) ?_)); first | exact xg_eq | exact a28), (by first | (repeat (refine xg_ne (by omega) ?_)); first | exact xg_eq | exact a29), (by first | (repeat (refine xg_ne (by omega) ?_)); first | exact xg_eq | exact a30), (by first | (repeat (refine xg_ne (by omega) ?_)); first | exact xg_eq | exact a31), (by first | (repeat (refine xg_ne (by omega) ?_)); first | exact xg_eq | exact a32), (by first | (repeat (refine xg_ne (by omega) ?_)); first | exact xg_eq | exact a33), (by first | (repeat (refine xg_ne (by omega) ?_)); first | exact xg_eq | exact a34), (by first | (repeat (refine xg_ne (by omega) ?_)); first | exact xg_eq | exact a35), (by first | (repeat (refine xg_ne (by omega) ?_)); first | exact xg_eq | exact a36), (by first | (repeat (refine xg_ne (by omega) ?_)); first | exact xg_eq | exact a37), (by first | (repeat (refine xg_ne (by omega) ?_)); first | exact xg_eq | exact a38), (by first | (repeat (refine xg_ne (by omega) ?_)); first | exact xg_eq | exact a39), (by first | (repeat (refine xg_ne (by omega) ?_)); first | exact xg_eq | exact a40)⟩
  refine wpc_of rfl (Nat.le_of_ble_eq_true rfl) ?_
  refine wp_iconst (v := 0) d_MO_way_0 (by rfl) ?_
  refine wp_istore_n d_MO_way_1 rfl (by decide) rfl ?_
  exact one 4030 0 h rfl mfr.rf (by rw [filB_0]; exact hm0)
end M12
