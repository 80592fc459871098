abbrev PS0 : Type := Nat × (Nat → Nat) × (Nat → Nat) × (Nat → Nat) × (Nat → Nat) × (Nat → Int64) × (Nat → Int64)
def pS (p : Nat) : List Nat := [p, p + 1, p + 2, p + 3, p + 4, p + 5, p + 6]
def Pg (E : xE) (h : xH) (p : Nat) (q : PS0) (fi : Nat) : Prop :=
  h.2.2 p = some (ob 5 [.ref (p + 1), .ref (p + 2), .ref (p + 3), .ref (p + 4), .ref (p + 5), .ref (p + 6), .int (nI q.1), .int (nI fi)]) ∧ h.2.2 (p + 1) = some (aI E 121 (fun k => nI (q.2.1 k))) ∧ h.2.2 (p + 2) = some (aI E 121 (fun k => nI (q.2.2.1 k))) ∧ h.2.2 (p + 3) = some (aI E 121 (fun k => nI (q.2.2.2.1 k))) ∧ h.2.2 (p + 4) = some (aI E 121 (fun k => nI (q.2.2.2.2.1 k))) ∧
  h.2.2 (p + 5) = some (aJ E 121 q.2.2.2.2.2.1) ∧ h.2.2 (p + 6) = some (aJ E 121 q.2.2.2.2.2.2) ∧ q.1 ≤ 121
def pStp (k nx : Nat) (q : PS0) : Nat × PS0 := (min q.1 120, (min q.1 120 + 1, va_up q.2.1 (min q.1 120) k, va_up q.2.2.1 (min q.1 120) nx, q.2.2.2))
def pOt (i v : Nat) (q : PS0) : PS0 := (q.1, q.2.1, q.2.2.1, va_up q.2.2.2.1 i v, q.2.2.2.2)
def pNx (i v : Nat) (q : PS0) : PS0 := (q.1, q.2.1, va_up q.2.2.1 i v, q.2.2.2)
def pSl (i v : Nat) (q : PS0) : PS0 := (q.1, q.2.1, q.2.2.1, q.2.2.2.1, va_up q.2.2.2.2.1 i v, q.2.2.2.2.2)
def pBt (i : Nat) (lo hi : Int64) (q : PS0) : PS0 := (q.1, q.2.1, q.2.2.1, q.2.2.2.1, q.2.2.2.2.1, va_up q.2.2.2.2.2.1 i lo, va_up q.2.2.2.2.2.2 i hi)
def pFk (a b : Nat) (q : PS0) : Nat × PS0 := ((pStp 5 a q).1, pOt (pStp 5 a q).1 b (pStp 5 a q).2)
def pMk (sl nx : Nat) (q : PS0) : Nat × PS0 := ((pStp 4 nx q).1, pSl (pStp 4 nx q).1 sl (pStp 4 nx q).2)
section GP
variable {X : Type} (cX : Nat → X → Nat → PS0 → Nat × PS0)
def gAt (d : Nat) : At X → Nat → PS0 → Nat × PS0
  | .inl l, nx, q => ((pStp l.1 nx q).1, pBt (pStp l.1 nx q).1 l.2.1 l.2.2 (pStp l.1 nx q).2)
  | .inr g, nx, q => if 6 ≤ d then (nx, q) else
    let e := pMk (2 * g.1 + 1) nx q
    let c := cX (d + 1) g.2 e.1 e.2
    pMk (2 * g.1) c.1 c.2
def gLp (d : Nat) (p : Pc X) (nx : Nat) (q : PS0) : Nat × PS0 :=
  let f := pFk nx nx q
  let b := gAt cX d p.1 f.1 f.2
  (if p.2.1 = 0 then f.1 else b.1, if p.2.2.2.2 then pOt f.1 b.1 b.2 else pNx f.1 b.1 b.2)
def gCp (d : Nat) (a : At X) (sp : Bool) (nx : Nat) : Nat → Nat × PS0 → Nat × PS0
  | 0, e => e
  | k + 1, e => gCp d a sp nx k (let b := gAt cX d a e.1 e.2; if sp then pFk nx b.1 b.2 else pFk b.1 nx b.2)
def gTm (d : Nat) (a : At X) : Nat → Nat × PS0 → Nat × PS0
  | 0, e => e
  | k + 1, e => gTm d a k (gAt cX d a e.1 e.2)
def gPc (d : Nat) (p : Pc X) (nx : Nat) (q : PS0) : Nat × PS0 := if p.2.2.2.1 then gLp cX d p nx q else gTm cX d p.1 p.2.1 (gCp cX d p.1 p.2.2.2.2 nx (p.2.2.1 - p.2.1) (nx, q))
def gPl (d : Nat) : List (Pc X) → Nat × PS0 → Nat × PS0
  | [], e => e
  | p :: ps, e => gPl d ps (gPc cX d p e.1 e.2)
def gRw (d : Nat) (ps : List (Pc X)) (nx : Nat) (q : PS0) : Nat × PS0 := gPl cX d ps.reverse (nx, q)
def gRl (d nx : Nat) : List (List (Pc X)) → Nat × PS0 → Nat × PS0
  | [], e => e
  | r :: rs, e => gRl d nx rs (let w := gRw cX d r nx e.2; pFk w.1 e.1 w.2)
def gCc (d : Nat) (rs : Cc X) (nx : Nat) (q : PS0) : Nat × PS0 := match rs.reverse with
  | [] => (nx, q)
  | r :: rs' => gRl cX d nx rs' (gRw cX d r nx q)
end GP
def gCh : (n : Nat) → Nat → Ch n → Nat → PS0 → Nat × PS0
  | 0 => fun _ _ nx q => (nx, q)
  | n + 1 => gCc (gCh n)
theorem upd_nI {K : Nat → Nat} {i v : Nat} (hi : i < 2 ^ 31) : upd (fun k => nI (K k)) (nI i).toNatClampNeg (nI v) = fun k => nI (va_up K i v k) := by
  rw [nI_clamp hi]
  funext k
  by_cases hk : k = i
  · subst hk; simp [upd, va_up]
  · simp [upd, va_up, hk]
theorem updL_nI {K : Nat → Int64} {i : Nat} {v : Int64} (hi : i < 2 ^ 31) : vp_updL K (nI i).toNatClampNeg v = va_up K i v := by rw [nI_clamp hi]; rfl
theorem ml_PR_134 : Cond.methodLink "PatternSearch$Program" 134 m_JM_min.1 ∈ xGT := x_in (i := 585) (by decide +kernel) rfl
theorem mn120 {c : Nat} (hc : c ≤ 121) : (if (120 : Int32) < nI c then 120 else nI c) = nI (min c 120) := by
  show (if nI 120 < nI c then nI 120 else nI c) = _
  by_cases h : 120 < c
  · rw [if_pos ((nI_ltI (a := 120) (by decide) (by omega)).mpr h), Nat.min_eq_right (by omega)]
  · rw [if_neg (fun z => h ((nI_ltI (a := 120) (by decide) (by omega)).mp z)), Nat.min_eq_left (by omega)]
section PG
variable {E : xE} {h : xH} {p fi : Nat} {q : PS0}
theorem Pg.mv {h' : xH} (hp : Pg E h p q fi) (hq : ∀ z, p ≤ z → z ≤ p + 6 → h'.2.2 z = h.2.2 z) : Pg E h' p q fi := by
  obtain ⟨h1, h2, h3, h4, h5, h6, h7, h8⟩ := hp
  exact ⟨(hq _ (by omega) (by omega)).trans h1, (hq _ (by omega) (by omega)).trans h2, (hq _ (by omega) (by omega)).trans h3, (hq _ (by omega) (by omega)).trans h4, (hq _ (by omega) (by omega)).trans h5, (hq _ (by omega) (by omega)).trans h6, (hq _ (by omega) (by omega)).trans h7, h8⟩
theorem pStp_le (k nx : Nat) (q : PS0) : (pStp k nx q).1 ≤ 120 ∧ (pStp k nx q).2.1 ≤ 121 := by simp only [pStp]; omega
theorem pMk_le (sl nx : Nat) (q : PS0) : (pMk sl nx q).1 ≤ 120 := (pStp_le 4 nx q).1
theorem pFk_le (a b : Nat) (q : PS0) : (pFk a b q).1 ≤ 120 := (pStp_le 5 a q).1
theorem c_PR_addStep (hE : xOK E) (hp : Pg E h p q fi) (k nx : Nat) : wpc E 1 m_PR_addStep [.ref p, .int (nI k), .int (nI nx)] h (fun r' h' => r' = some (.int (nI (pStp k nx q).1)) ∧ xfr (pS p) h h' ∧ Pg E h' p (pStp k nx q).2 fi) := by
  obtain ⟨h1, h2, h3, h4, h5, h6, h7, h8⟩ := hp
  refine wpc_of rfl (Nat.le_of_ble_eq_true rfl) ?_
  refine wp_aload_n d_PR_addStep_0 rfl rfl ?_
  refine wp_get xf_PR_31 d_PR_addStep_1 (by repeat first | assumption | exact xg_eq | exact xn_eq (by first | rfl | omega) | refine xg_ne (by first | assumption | omega | (simp only [xput, xnew]; omega)) ?_ | refine xn_ne (by first | assumption | omega | (simp only [xput, xnew]; omega)) ?_ | exact rfl) (by rfl) ?_
  refine wp_bipush (v := 120) d_PR_addStep_4 (by rfl) ?_
  refine wp_mmin ml_PR_134 d_PR_addStep_6 (Nat.le_of_ble_eq_true rfl) (by omega) ?_
  rw [mn120 h8]
  refine wp_istore_n d_PR_addStep_9 rfl (by decide) rfl ?_
  refine wp_aload_n d_PR_addStep_10 rfl rfl ?_
  refine wp_get xf_PR_11 d_PR_addStep_11 (by repeat first | assumption | exact xg_eq | exact xn_eq (by first | rfl | omega) | refine xg_ne (by first | assumption | omega | (simp only [xput, xnew]; omega)) ?_ | refine xn_ne (by first | assumption | omega | (simp only [xput, xnew]; omega)) ?_ | exact rfl) (by rfl) ?_
  refine wp_iload_n d_PR_addStep_14 rfl rfl ?_
  refine wp_iload_n d_PR_addStep_15 rfl rfl ?_
  refine wp_iast d_PR_addStep_16 (by repeat first | assumption | exact xg_eq | exact xn_eq (by first | rfl | omega) | refine xg_ne (by first | assumption | omega | (simp only [xput, xnew]; omega)) ?_ | refine xn_ne (by first | assumption | omega | (simp only [xput, xnew]; omega)) ?_ | exact rfl) hE.i (vp_in_nI (by omega) (by omega)) ?_
  refine wp_aload_n d_PR_addStep_17 rfl rfl ?_
  refine wp_get xf_PR_15 d_PR_addStep_18 (by repeat first | assumption | exact xg_eq | exact xn_eq (by first | rfl | omega) | refine xg_ne (by first | assumption | omega | (simp only [xput, xnew]; omega)) ?_ | refine xn_ne (by first | assumption | omega | (simp only [xput, xnew]; omega)) ?_ | exact rfl) (by rfl) ?_
  refine wp_iload_n d_PR_addStep_21 rfl rfl ?_
  refine wp_iload_n d_PR_addStep_22 rfl rfl ?_
  refine wp_iast d_PR_addStep_23 (by repeat first | assumption | exact xg_eq | exact xn_eq (by first | rfl | omega) | refine xg_ne (by first | assumption | omega | (simp only [xput, xnew]; omega)) ?_ | refine xn_ne (by first | assumption | omega | (simp only [xput, xnew]; omega)) ?_ | exact rfl) hE.i (vp_in_nI (by omega) (by omega)) ?_
  refine wp_aload_n d_PR_addStep_24 rfl rfl ?_
  refine wp_iload_n d_PR_addStep_25 rfl rfl ?_
  refine wp_iconst (v := 1) d_PR_addStep_26 (by rfl) ?_
  refine wp_iadd d_PR_addStep_27 ?_
  refine wp_put xf_PR_31 xg_PR (Or.inl rfl) d_PR_addStep_28 (by repeat first | assumption | exact xg_eq | exact xn_eq (by first | rfl | omega) | refine xg_ne (by first | assumption | omega | (simp only [xput, xnew]; omega)) ?_ | refine xn_ne (by first | assumption | omega | (simp only [xput, xnew]; omega)) ?_ | exact rfl) (by first | rfl | assumption | exact bI_z _) (by first | rfl | assumption | exact bI_f _) (Nat.le_of_ble_eq_true rfl) ?_
  refine wp_iload_n d_PR_addStep_31 rfl rfl ?_
  refine wp_ireturn d_PR_addStep_32 rfl (by first | rfl | assumption) ?_
  rw [upd_nI (by omega), upd_nI (by omega), show nI (min q.1 120) + 1 = nI (min q.1 120 + 1) from (nI_succ _).symm]
  exact ⟨rfl, ((xfr.rf.put (by simp [pS])).put (by simp [pS])).put (by simp [pS]), (by repeat first | assumption | exact xg_eq | exact xn_eq (by first | rfl | omega) | refine xg_ne (by first | assumption | omega | (simp only [xput, xnew]; omega)) ?_ | refine xn_ne (by first | assumption | omega | (simp only [xput, xnew]; omega)) ?_ | exact rfl), (by repeat first | assumption | exact xg_eq | exact xn_eq (by first | rfl | omega) | refine xg_ne (by first | assumption | omega | (simp only [xput, xnew]; omega)) ?_ | refine xn_ne (by first | assumption | omega | (simp only [xput, xnew]; omega)) ?_ | exact rfl), (by repeat first | assumption | exact xg_eq | exact xn_eq (by first | rfl | omega) | refine xg_ne (by first | assumption | omega | (simp only [xput, xnew]; omega)) ?_ | refine xn_ne (by first | assumption | omega | (simp only [xput, xnew]; omega)) ?_ | exact rfl), (by repeat first | assumption | exact xg_eq | exact xn_eq (by first | rfl | omega) | refine xg_ne (by first | assumption | omega | (simp only [xput, xnew]; omega)) ?_ | refine xn_ne (by first | assumption | omega | (simp only [xput, xnew]; omega)) ?_ | exact rfl), (by repeat first | assumption | exact xg_eq | exact xn_eq (by first | rfl | omega) | refine xg_ne (by first | assumption | omega | (simp only [xput, xnew]; omega)) ?_ | refine xn_ne (by first | assumption | omega | (simp only [xput, xnew]; omega)) ?_ | exact rfl), (by repeat first | assumption | exact xg_eq | exact xn_eq (by first | rfl | omega) | refine xg_ne (by first | assumption | omega | (simp only [xput, xnew]; omega)) ?_ | refine xn_ne (by first | assumption | omega | (simp only [xput, xnew]; omega)) ?_ | exact rfl), (by repeat first | assumption | exact xg_eq | exact xn_eq (by first | rfl | omega) | refine xg_ne (by first | assumption | omega | (simp only [xput, xnew]; omega)) ?_ | refine xn_ne (by first | assumption | omega | (simp only [xput, xnew]; omega)) ?_ | exact rfl), by show min q.1 120 + 1 ≤ 121; omega⟩
theorem c_PR_addFork (hE : xOK E) (hp : Pg E h p q fi) (a b : Nat) : wpc E 2 m_PR_addFork [.ref p, .int (nI a), .int (nI b)] h (fun r' h' => r' = some (.int (nI (pFk a b q).1)) ∧ xfr (pS p) h h' ∧ Pg E h' p (pFk a b q).2 fi) := by
  have hle := pStp_le 5 a q
  have w1 := hp.1
  refine wpc_of rfl (Nat.le_of_ble_eq_true rfl) ?_
  refine wp_aload_n d_PR_addFork_0 rfl rfl ?_
  refine wp_iconst (v := 5) d_PR_addFork_1 (by rfl) ?_
  refine wp_iload_n d_PR_addFork_2 rfl rfl ?_
  refine wp_callV2 xc_PR_35 d_PR_addFork_3 (Nat.le_of_ble_eq_true rfl) (by repeat first | assumption | exact xg_eq | exact xn_eq (by first | rfl | omega) | refine xg_ne (by first | assumption | omega | (simp only [xput, xnew]; omega)) ?_ | refine xn_ne (by first | assumption | omega | (simp only [xput, xnew]; omega)) ?_ | exact rfl) (c_PR_addStep hE hp 5 a) (by omega) (fun r h2 hp => ?_)
  obtain ⟨rfl, f2, h1, h2', h3, h4, h5, h6, h7, h8⟩ := hp
  refine wp_istore_n d_PR_addFork_6 rfl (by decide) rfl ?_
  refine wp_aload_n d_PR_addFork_7 rfl rfl ?_
  refine wp_get xf_PR_18 d_PR_addFork_8 (by repeat first | assumption | exact xg_eq | exact xn_eq (by first | rfl | omega) | refine xg_ne (by first | assumption | omega | (simp only [xput, xnew]; omega)) ?_ | refine xn_ne (by first | assumption | omega | (simp only [xput, xnew]; omega)) ?_ | exact rfl) (by rfl) ?_
  refine wp_iload_n d_PR_addFork_11 rfl rfl ?_
  refine wp_iload_n d_PR_addFork_12 rfl rfl ?_
  refine wp_iast d_PR_addFork_13 (by repeat first | assumption | exact xg_eq | exact xn_eq (by first | rfl | omega) | refine xg_ne (by first | assumption | omega | (simp only [xput, xnew]; omega)) ?_ | refine xn_ne (by first | assumption | omega | (simp only [xput, xnew]; omega)) ?_ | exact rfl) hE.i (vp_in_nI (by omega) (by omega)) ?_
  refine wp_iload_n d_PR_addFork_14 rfl rfl ?_
  refine wp_ireturn d_PR_addFork_15 rfl (by first | rfl | assumption) ?_
  rw [upd_nI (by omega)]
  exact ⟨rfl, f2.put (by simp [pS]), (by repeat first | assumption | exact xg_eq | exact xn_eq (by first | rfl | omega) | refine xg_ne (by first | assumption | omega | (simp only [xput, xnew]; omega)) ?_ | refine xn_ne (by first | assumption | omega | (simp only [xput, xnew]; omega)) ?_ | exact rfl), (by repeat first | assumption | exact xg_eq | exact xn_eq (by first | rfl | omega) | refine xg_ne (by first | assumption | omega | (simp only [xput, xnew]; omega)) ?_ | refine xn_ne (by first | assumption | omega | (simp only [xput, xnew]; omega)) ?_ | exact rfl), (by repeat first | assumption | exact xg_eq | exact xn_eq (by first | rfl | omega) | refine xg_ne (by first | assumption | omega | (simp only [xput, xnew]; omega)) ?_ | refine xn_ne (by first | assumption | omega | (simp only [xput, xnew]; omega)) ?_ | exact rfl), (by repeat first | assumption | exact xg_eq | exact xn_eq (by first | rfl | omega) | refine xg_ne (by first | assumption | omega | (simp only [xput, xnew]; omega)) ?_ | refine xn_ne (by first | assumption | omega | (simp only [xput, xnew]; omega)) ?_ | exact rfl), (by repeat first | assumption | exact xg_eq | exact xn_eq (by first | rfl | omega) | refine xg_ne (by first | assumption | omega | (simp only [xput, xnew]; omega)) ?_ | refine xn_ne (by first | assumption | omega | (simp only [xput, xnew]; omega)) ?_ | exact rfl), (by repeat first | assumption | exact xg_eq | exact xn_eq (by first | rfl | omega) | refine xg_ne (by first | assumption | omega | (simp only [xput, xnew]; omega)) ?_ | refine xn_ne (by first | assumption | omega | (simp only [xput, xnew]; omega)) ?_ | exact rfl), (by repeat first | assumption | exact xg_eq | exact xn_eq (by first | rfl | omega) | refine xg_ne (by first | assumption | omega | (simp only [xput, xnew]; omega)) ?_ | refine xn_ne (by first | assumption | omega | (simp only [xput, xnew]; omega)) ?_ | exact rfl), h8⟩
theorem c_PR_addMark (hE : xOK E) (hp : Pg E h p q fi) (sl nx : Nat) : wpc E 2 m_PR_addMark [.ref p, .int (nI sl), .int (nI nx)] h (fun r' h' => r' = some (.int (nI (pMk sl nx q).1)) ∧ xfr (pS p) h h' ∧ Pg E h' p (pMk sl nx q).2 fi) := by
  have hle := pStp_le 4 nx q
  have w1 := hp.1
  refine wpc_of rfl (Nat.le_of_ble_eq_true rfl) ?_
  refine wp_aload_n d_PR_addMark_0 rfl rfl ?_
  refine wp_iconst (v := 4) d_PR_addMark_1 (by rfl) ?_
  refine wp_iload_n d_PR_addMark_2 rfl rfl ?_
  refine wp_callV2 xc_PR_35 d_PR_addMark_3 (Nat.le_of_ble_eq_true rfl) (by repeat first | assumption | exact xg_eq | exact xn_eq (by first | rfl | omega) | refine xg_ne (by first | assumption | omega | (simp only [xput, xnew]; omega)) ?_ | refine xn_ne (by first | assumption | omega | (simp only [xput, xnew]; omega)) ?_ | exact rfl) (c_PR_addStep hE hp 4 nx) (by omega) (fun r h2 hp => ?_)
  obtain ⟨rfl, f2, h1, h2', h3, h4, h5, h6, h7, h8⟩ := hp
  refine wp_istore_n d_PR_addMark_6 rfl (by decide) rfl ?_
  refine wp_aload_n d_PR_addMark_7 rfl rfl ?_
  refine wp_get xf_PR_21 d_PR_addMark_8 (by repeat first | assumption | exact xg_eq | exact xn_eq (by first | rfl | omega) | refine xg_ne (by first | assumption | omega | (simp only [xput, xnew]; omega)) ?_ | refine xn_ne (by first | assumption | omega | (simp only [xput, xnew]; omega)) ?_ | exact rfl) (by rfl) ?_
  refine wp_iload_n d_PR_addMark_11 rfl rfl ?_
  refine wp_iload_n d_PR_addMark_12 rfl rfl ?_
  refine wp_iast d_PR_addMark_13 (by repeat first | assumption | exact xg_eq | exact xn_eq (by first | rfl | omega) | refine xg_ne (by first | assumption | omega | (simp only [xput, xnew]; omega)) ?_ | refine xn_ne (by first | assumption | omega | (simp only [xput, xnew]; omega)) ?_ | exact rfl) hE.i (vp_in_nI (by omega) (by omega)) ?_
  refine wp_iload_n d_PR_addMark_14 rfl rfl ?_
  refine wp_ireturn d_PR_addMark_15 rfl (by first | rfl | assumption) ?_
  rw [upd_nI (by omega)]
  exact ⟨rfl, f2.put (by simp [pS]), (by repeat first | assumption | exact xg_eq | exact xn_eq (by first | rfl | omega) | refine xg_ne (by first | assumption | omega | (simp only [xput, xnew]; omega)) ?_ | refine xn_ne (by first | assumption | omega | (simp only [xput, xnew]; omega)) ?_ | exact rfl), (by repeat first | assumption | exact xg_eq | exact xn_eq (by first | rfl | omega) | refine xg_ne (by first | assumption | omega | (simp only [xput, xnew]; omega)) ?_ | refine xn_ne (by first | assumption | omega | (simp only [xput, xnew]; omega)) ?_ | exact rfl), (by repeat first | assumption | exact xg_eq | exact xn_eq (by first | rfl | omega) | refine xg_ne (by first | assumption | omega | (simp only [xput, xnew]; omega)) ?_ | refine xn_ne (by first | assumption | omega | (simp only [xput, xnew]; omega)) ?_ | exact rfl), (by repeat first | assumption | exact xg_eq | exact xn_eq (by first | rfl | omega) | refine xg_ne (by first | assumption | omega | (simp only [xput, xnew]; omega)) ?_ | refine xn_ne (by first | assumption | omega | (simp only [xput, xnew]; omega)) ?_ | exact rfl), (by repeat first | assumption | exact xg_eq | exact xn_eq (by first | rfl | omega) | refine xg_ne (by first | assumption | omega | (simp only [xput, xnew]; omega)) ?_ | refine xn_ne (by first | assumption | omega | (simp only [xput, xnew]; omega)) ?_ | exact rfl), (by repeat first | assumption | exact xg_eq | exact xn_eq (by first | rfl | omega) | refine xg_ne (by first | assumption | omega | (simp only [xput, xnew]; omega)) ?_ | refine xn_ne (by first | assumption | omega | (simp only [xput, xnew]; omega)) ?_ | exact rfl), (by repeat first | assumption | exact xg_eq | exact xn_eq (by first | rfl | omega) | refine xg_ne (by first | assumption | omega | (simp only [xput, xnew]; omega)) ?_ | refine xn_ne (by first | assumption | omega | (simp only [xput, xnew]; omega)) ?_ | exact rfl), h8⟩
end PG
section PH
variable {E : xE} {p fi : Nat} {X : Type} {sX : X → Nat} {eX : X → Bool} {tX : xH → Nat → Nat → Nat → X → Prop} {cX : Nat → X → Nat → PS0 → Nat × PS0} {D : Nat}
def gIH (E : xE) (p fi : Nat) (tX : xH → Nat → Nat → Nat → X → Prop) (cX : Nat → X → Nat → PS0 → Nat × PS0) (D : Nat) : Prop :=
  ∀ (h : xH) (q : PS0) (lo hi c nx d : Nat) (x : X), Pg E h p q fi → p + 6 < lo → tX h lo hi c x → nx ≤ 120 → d ≤ 6 → wpc E D m_PR_addChoice [.ref p, .ref c, .int (nI nx), .int (nI d)] h (fun r' h' => r' = some (.int (nI (cX d x nx q).1)) ∧ xfr (pS p) h h' ∧ Pg E h' p (cX d x nx q).2 fi ∧ (cX d x nx q).1 ≤ 120)
theorem pS_mv {h h' : xH} {lo hi : Nat} (f : xfr (pS p) h h') (hlo : p + 6 < lo) : ∀ z, lo ≤ z → z < hi → h'.2.2 z = h.2.2 z := fun z z1 _ => f.2.2 z (by simp [pS]; omega)
theorem c_PR_addGroup (hE : xOK E) (hm : tMv tX) (ih : gIH E p fi tX cX D) (hD : 3 ≤ D) {h : xH} {q : PS0} {lo hi a nx d g : Nat} {x : X} (hp : Pg E h p q fi) (hlo : p + 6 < lo) (ht : tAt tX h lo hi a (.inr (g, x))) (hn : nx ≤ 120) (hd0 : d ≤ 6) :
    wpc E (D + 1) m_PR_addGroup [.ref p, .ref a, .int (nI nx), .int (nI d)] h (fun r' h' => r' = some (.int (nI (gAt cX d (.inr (g, x)) nx q).1)) ∧ xfr (pS p) h h' ∧ Pg E h' p (gAt cX d (.inr (g, x)) nx q).2 fi ∧ (gAt cX d (.inr (g, x)) nx q).1 ≤ 120) := by
  obtain ⟨t1, t2, c, t3, t4⟩ := id ht
  have w1 := hp.1
  refine wpc_of rfl (Nat.le_of_ble_eq_true rfl) ?_
  refine wp_iload_n d_PR_addGroup_0 rfl rfl ?_
  refine wp_bipush (v := 6) d_PR_addGroup_1 (by rfl) ?_
  refine wp_icmp_lt (tgt := 8) d_PR_addGroup_3 (by decide) (fun hc => ?_) (fun hc => ?_)
  · have hd6 : ¬ 6 ≤ d := fun z => absurd hc (Int32.not_lt.mpr ((nI_leI (a := 6) (by decide) (by omega)).mpr z))
    have he : gAt cX d (.inr (g, x)) nx q = pMk (2 * g) (cX (d + 1) x (pMk (2 * g + 1) nx q).1 (pMk (2 * g + 1) nx q).2).1 (cX (d + 1) x (pMk (2 * g + 1) nx q).1 (pMk (2 * g + 1) nx q).2).2 := by rw [gAt, if_neg hd6]
    refine wp_aload_n d_PR_addGroup_8 rfl rfl ?_
    refine wp_aload_n d_PR_addGroup_9 rfl rfl ?_
    refine wp_get xf_PR_119 d_PR_addGroup_10 (by repeat first | assumption | exact xg_eq | exact xn_eq (by first | rfl | omega) | refine xg_ne (by first | assumption | omega | (simp only [xput, xnew]; omega)) ?_ | refine xn_ne (by first | assumption | omega | (simp only [xput, xnew]; omega)) ?_ | exact rfl) (by rfl) ?_
    refine wp_callS1 xc_PR_122 d_PR_addGroup_13 (Nat.le_of_ble_eq_true rfl) (c_BO_endSlot _) (by omega) (fun r hh hp => ?_)
    obtain ⟨rfl, hz0⟩ := hp; have hz0 := hz0.symm; subst hz0
    rw [show 2 * nI g + 1 = nI (2 * g + 1) from by rw [nI_succ, ← pk_mul]; rfl]
    refine wp_iload_n d_PR_addGroup_16 rfl rfl ?_
    refine wp_callV2 xc_PR_128 d_PR_addGroup_17 (Nat.le_of_ble_eq_true rfl) (by repeat first | assumption | exact xg_eq | exact xn_eq (by first | rfl | omega) | refine xg_ne (by first | assumption | omega | (simp only [xput, xnew]; omega)) ?_ | refine xn_ne (by first | assumption | omega | (simp only [xput, xnew]; omega)) ?_ | exact rfl) (c_PR_addMark hE hp _ _) (by omega) (fun r h2 hp => ?_)
    obtain ⟨rfl, f2, p2⟩ := hp
    have w2 := p2.1
    have o2 := f2.at (q := a) (by simp [pS]; omega) t3
    have x2 : tX h2 lo hi c x := hm _ _ _ _ _ _ _ _ (pS_mv f2 hlo) (Nat.le_refl _) (Nat.le_refl _) t4
    refine wp_istore d_PR_addGroup_20 (by decide) rfl ?_
    refine wp_aload_n d_PR_addGroup_22 rfl rfl ?_
    refine wp_aload_n d_PR_addGroup_23 rfl rfl ?_
    refine wp_get xf_PR_100 d_PR_addGroup_24 (by repeat first | assumption | exact xg_eq | exact xn_eq (by first | rfl | omega) | refine xg_ne (by first | assumption | omega | (simp only [xput, xnew]; omega)) ?_ | refine xn_ne (by first | assumption | omega | (simp only [xput, xnew]; omega)) ?_ | exact rfl) (by rfl) ?_
    refine wp_iload d_PR_addGroup_27 rfl ?_
    refine wp_iload_n d_PR_addGroup_29 rfl rfl ?_
    refine wp_iconst (v := 1) d_PR_addGroup_30 (by rfl) ?_
    refine wp_iadd d_PR_addGroup_31 ?_
    rw [show nI d + 1 = nI (d + 1) from (nI_succ d).symm]
    refine wp_callV3 xc_PR_39 d_PR_addGroup_32 (Nat.le_of_ble_eq_true rfl) (by repeat first | assumption | exact xg_eq | exact xn_eq (by first | rfl | omega) | refine xg_ne (by first | assumption | omega | (simp only [xput, xnew]; omega)) ?_ | refine xn_ne (by first | assumption | omega | (simp only [xput, xnew]; omega)) ?_ | exact rfl) (ih h2 _ lo hi c _ (d + 1) x p2 hlo x2 (pStp_le 4 nx q).1 (by omega)) (by omega) (fun r h3 hp => ?_)
    obtain ⟨rfl, f3, p3, b3⟩ := hp
    have w3 := p3.1
    have o3 := f3.at (q := a) (by simp [pS]; omega) o2
    refine wp_istore d_PR_addGroup_35 (by decide) rfl ?_
    refine wp_aload_n d_PR_addGroup_37 rfl rfl ?_
    refine wp_aload_n d_PR_addGroup_38 rfl rfl ?_
    refine wp_get xf_PR_119 d_PR_addGroup_39 (by repeat first | assumption | exact xg_eq | exact xn_eq (by first | rfl | omega) | refine xg_ne (by first | assumption | omega | (simp only [xput, xnew]; omega)) ?_ | refine xn_ne (by first | assumption | omega | (simp only [xput, xnew]; omega)) ?_ | exact rfl) (by rfl) ?_
    refine wp_callS1 xc_PR_131 d_PR_addGroup_42 (Nat.le_of_ble_eq_true rfl) (c_BO_beginSlot _) (by omega) (fun r hh hp => ?_)
    obtain ⟨rfl, hz0⟩ := hp; have hz0 := hz0.symm; subst hz0
    rw [show 2 * nI g = nI (2 * g) from by rw [← pk_mul]; rfl]
    refine wp_iload d_PR_addGroup_45 rfl ?_
    refine wp_callV2 xc_PR_128 d_PR_addGroup_47 (Nat.le_of_ble_eq_true rfl) (by repeat first | assumption | exact xg_eq | exact xn_eq (by first | rfl | omega) | refine xg_ne (by first | assumption | omega | (simp only [xput, xnew]; omega)) ?_ | refine xn_ne (by first | assumption | omega | (simp only [xput, xnew]; omega)) ?_ | exact rfl) (c_PR_addMark hE p3 _ _) (by omega) (fun r h4 hp => ?_)
    obtain ⟨rfl, f4, p4⟩ := hp
    refine wp_ireturn d_PR_addGroup_50 rfl (by first | rfl | assumption) ?_
    rw [he]
    exact ⟨rfl, (f2.tr f3).tr f4, p4, pMk_le _ _ _⟩
  · have hd6 : 6 ≤ d := (nI_leI (a := 6) (by decide) (by omega)).mp (Int32.not_lt.mp hc)
    refine wp_iload_n d_PR_addGroup_6 rfl rfl ?_
    refine wp_ireturn d_PR_addGroup_7 rfl (by first | rfl | assumption) ?_
    rw [gAt, if_pos hd6]
    exact ⟨rfl, xfr.rf, hp, hn⟩
theorem c_PR_addAtom (hE : xOK E) (hm : tMv tX) (ih : gIH E p fi tX cX D) (hD : 3 ≤ D) {h : xH} {q : PS0} {lo hi a nx d : Nat} {x : At X} (hp : Pg E h p q fi) (hlo : p + 6 < lo) (ht : tAt tX h lo hi a x) (hn : nx ≤ 120) (hd0 : d ≤ 6) :
    wpc E (D + 2) m_PR_addAtom [.ref p, .ref a, .int (nI nx), .int (nI d)] h (fun r' h' => r' = some (.int (nI (gAt cX d x nx q).1)) ∧ xfr (pS p) h h' ∧ Pg E h' p (gAt cX d x nx q).2 fi ∧ (gAt cX d x nx q).1 ≤ 120) := by
  have w1 := hp.1
  cases x with
  | inr g =>
    obtain ⟨t1, t2, c, t3, t4⟩ := id ht
    refine wpc_of rfl (Nat.le_of_ble_eq_true rfl) ?_
    refine wp_aload_n d_PR_addAtom_0 rfl rfl ?_
    refine wp_get xf_PR_100 d_PR_addAtom_1 (by repeat first | assumption | exact xg_eq | exact xn_eq (by first | rfl | omega) | refine xg_ne (by first | assumption | omega | (simp only [xput, xnew]; omega)) ?_ | refine xn_ne (by first | assumption | omega | (simp only [xput, xnew]; omega)) ?_ | exact rfl) (by rfl) ?_
    refine wp_ifnull d_PR_addAtom_4 ?_
    refine wp_aload_n d_PR_addAtom_7 rfl rfl ?_
    refine wp_aload_n d_PR_addAtom_8 rfl rfl ?_
    refine wp_iload_n d_PR_addAtom_9 rfl rfl ?_
    refine wp_iload_n d_PR_addAtom_10 rfl rfl ?_
    refine wp_callV3 xc_PR_106 d_PR_addAtom_11 (Nat.le_of_ble_eq_true rfl) (by repeat first | assumption | exact xg_eq | exact xn_eq (by first | rfl | omega) | refine xg_ne (by first | assumption | omega | (simp only [xput, xnew]; omega)) ?_ | refine xn_ne (by first | assumption | omega | (simp only [xput, xnew]; omega)) ?_ | exact rfl) (c_PR_addGroup hE hm ih hD hp hlo ht hn hd0) (by omega) (fun r hh hp => ?_)
    obtain ⟨rfl, rest⟩ := hp
    refine wp_ireturn d_PR_addAtom_14 rfl (by first | rfl | assumption) ?_
    exact ⟨rfl, rest⟩
  | inl l =>
    obtain ⟨t1, t2, t3, t4⟩ := id ht
    have hle := pStp_le l.1 nx q
    refine wpc_of rfl (Nat.le_of_ble_eq_true rfl) ?_
    refine wp_aload_n d_PR_addAtom_0 rfl rfl ?_
    refine wp_get xf_PR_100 d_PR_addAtom_1 (by repeat first | assumption | exact xg_eq | exact xn_eq (by first | rfl | omega) | refine xg_ne (by first | assumption | omega | (simp only [xput, xnew]; omega)) ?_ | refine xn_ne (by first | assumption | omega | (simp only [xput, xnew]; omega)) ?_ | exact rfl) (by rfl) ?_
    refine wp_ifnullN (tgt := 15) d_PR_addAtom_4 (by decide) ?_
    refine wp_aload_n d_PR_addAtom_15 rfl rfl ?_
    refine wp_aload_n d_PR_addAtom_16 rfl rfl ?_
    refine wp_get xf_PR_109 d_PR_addAtom_17 (by repeat first | assumption | exact xg_eq | exact xn_eq (by first | rfl | omega) | refine xg_ne (by first | assumption | omega | (simp only [xput, xnew]; omega)) ?_ | refine xn_ne (by first | assumption | omega | (simp only [xput, xnew]; omega)) ?_ | exact rfl) (by rfl) ?_
    refine wp_iload_n d_PR_addAtom_20 rfl rfl ?_
    refine wp_callV2 xc_PR_35 d_PR_addAtom_21 (Nat.le_of_ble_eq_true rfl) (by repeat first | assumption | exact xg_eq | exact xn_eq (by first | rfl | omega) | refine xg_ne (by first | assumption | omega | (simp only [xput, xnew]; omega)) ?_ | refine xn_ne (by first | assumption | omega | (simp only [xput, xnew]; omega)) ?_ | exact rfl) (c_PR_addStep hE hp _ _) (by omega) (fun r h2 hp => ?_)
    obtain ⟨rfl, f2, h1, h2', h3, h4, h5, h6, h7, h8⟩ := hp
    have o2 := f2.at (q := a) (by simp [pS]; omega) t4
    refine wp_istore d_PR_addAtom_24 (by decide) rfl ?_
    refine wp_aload_n d_PR_addAtom_26 rfl rfl ?_
    refine wp_get xf_PR_24 d_PR_addAtom_27 (by repeat first | assumption | exact xg_eq | exact xn_eq (by first | rfl | omega) | refine xg_ne (by first | assumption | omega | (simp only [xput, xnew]; omega)) ?_ | refine xn_ne (by first | assumption | omega | (simp only [xput, xnew]; omega)) ?_ | exact rfl) (by rfl) ?_
    refine wp_iload d_PR_addAtom_30 rfl ?_
    refine wp_aload_n d_PR_addAtom_32 rfl rfl ?_
    refine wp_get xf_PR_112 d_PR_addAtom_33 (by repeat first | assumption | exact xg_eq | exact xn_eq (by first | rfl | omega) | refine xg_ne (by first | assumption | omega | (simp only [xput, xnew]; omega)) ?_ | refine xn_ne (by first | assumption | omega | (simp only [xput, xnew]; omega)) ?_ | exact rfl) (by rfl) ?_
    refine wp_last d_PR_addAtom_36 (by repeat first | assumption | exact xg_eq | exact xn_eq (by first | rfl | omega) | refine xg_ne (by first | assumption | omega | (simp only [xput, xnew]; omega)) ?_ | refine xn_ne (by first | assumption | omega | (simp only [xput, xnew]; omega)) ?_ | exact rfl) hE.j (vp_in_nI (by omega) (by omega)) ?_
    refine wp_aload_n d_PR_addAtom_37 rfl rfl ?_
    refine wp_get xf_PR_28 d_PR_addAtom_38 (by repeat first | assumption | exact xg_eq | exact xn_eq (by first | rfl | omega) | refine xg_ne (by first | assumption | omega | (simp only [xput, xnew]; omega)) ?_ | refine xn_ne (by first | assumption | omega | (simp only [xput, xnew]; omega)) ?_ | exact rfl) (by rfl) ?_
    refine wp_iload d_PR_addAtom_41 rfl ?_
    refine wp_aload_n d_PR_addAtom_43 rfl rfl ?_
    refine wp_get xf_PR_116 d_PR_addAtom_44 (by repeat first | assumption | exact xg_eq | exact xn_eq (by first | rfl | omega) | refine xg_ne (by first | assumption | omega | (simp only [xput, xnew]; omega)) ?_ | refine xn_ne (by first | assumption | omega | (simp only [xput, xnew]; omega)) ?_ | exact rfl) (by rfl) ?_
    refine wp_last d_PR_addAtom_47 (by repeat first | assumption | exact xg_eq | exact xn_eq (by first | rfl | omega) | refine xg_ne (by first | assumption | omega | (simp only [xput, xnew]; omega)) ?_ | refine xn_ne (by first | assumption | omega | (simp only [xput, xnew]; omega)) ?_ | exact rfl) hE.j (vp_in_nI (by omega) (by omega)) ?_
    refine wp_iload d_PR_addAtom_48 rfl ?_
    refine wp_ireturn d_PR_addAtom_50 rfl (by first | rfl | assumption) ?_
    rw [updL_nI (by omega), updL_nI (by omega)]
    exact ⟨rfl, (f2.put (by simp [pS])).put (by simp [pS]), ⟨(by repeat first | assumption | exact xg_eq | exact xn_eq (by first | rfl | omega) | refine xg_ne (by first | assumption | omega | (simp only [xput, xnew]; omega)) ?_ | refine xn_ne (by first | assumption | omega | (simp only [xput, xnew]; omega)) ?_ | exact rfl), (by repeat first | assumption | exact xg_eq | exact xn_eq (by first | rfl | omega) | refine xg_ne (by first | assumption | omega | (simp only [xput, xnew]; omega)) ?_ | refine xn_ne (by first | assumption | omega | (simp only [xput, xnew]; omega)) ?_ | exact rfl), (by repeat first | assumption | exact xg_eq | exact xn_eq (by first | rfl | omega) | refine xg_ne (by first | assumption | omega | (simp only [xput, xnew]; omega)) ?_ | refine xn_ne (by first | assumption | omega | (simp only [xput, xnew]; omega)) ?_ | exact rfl), (by repeat first | assumption | exact xg_eq | exact xn_eq (by first | rfl | omega) | refine xg_ne (by first | assumption | omega | (simp only [xput, xnew]; omega)) ?_ | refine xn_ne (by first | assumption | omega | (simp only [xput, xnew]; omega)) ?_ | exact rfl), (by repeat first | assumption | exact xg_eq | exact xn_eq (by first | rfl | omega) | refine xg_ne (by first | assumption | omega | (simp only [xput, xnew]; omega)) ?_ | refine xn_ne (by first | assumption | omega | (simp only [xput, xnew]; omega)) ?_ | exact rfl), (by repeat first | assumption | exact xg_eq | exact xn_eq (by first | rfl | omega) | refine xg_ne (by first | assumption | omega | (simp only [xput, xnew]; omega)) ?_ | refine xn_ne (by first | assumption | omega | (simp only [xput, xnew]; omega)) ?_ | exact rfl), (by repeat first | assumption | exact xg_eq | exact xn_eq (by first | rfl | omega) | refine xg_ne (by first | assumption | omega | (simp only [xput, xnew]; omega)) ?_ | refine xn_ne (by first | assumption | omega | (simp only [xput, xnew]; omega)) ?_ | exact rfl), h8⟩, hle.1⟩
theorem bI_b {x : Int32} {b : Bool} (h : x = bI b) : (x = 0 ↔ b = false) := by rw [h]; exact bI_0
def tPx (tX : xH → Nat → Nat → Nat → X → Prop) (h : xH) (lo hi a : Nat) (y : Pc X) : Prop := ∃ (c : Nat) (o' : Option Nat), lo ≤ a ∧ a < hi ∧ h.2.2 a = some (ob 4 [.ref c, va_rf o', .int (nI y.2.1), .int (nI y.2.2.1), .int (bI y.2.2.2.1), .int (bI y.2.2.2.2)]) ∧ tAt tX h lo hi c y.1 ∧ (y.2.1 ≤ y.2.2.1 ∧ y.2.2.1 ≤ 6)
theorem c_PR_addLoop (hE : xOK E) (hm : tMv tX) (ih : gIH E p fi tX cX D) (hD : 3 ≤ D) {h : xH} {q : PS0} {lo hi a nx d : Nat} {y : Pc X} (hp : Pg E h p q fi) (hlo : p + 6 < lo) (ht : tPx tX h lo hi a y) (hn : nx ≤ 120) (hd0 : d ≤ 6) :
    wpc E (D + 3) m_PR_addLoop [.ref p, .ref a, .int (nI nx), .int (nI d)] h (fun r' h' => r' = some (.int (nI (gLp cX d y nx q).1)) ∧ xfr (pS p) h h' ∧ Pg E h' p (gLp cX d y nx q).2 fi ∧ (gLp cX d y nx q).1 ≤ 120) := by
  obtain ⟨c, o', t1, t2, t3, t4, t5⟩ := ht
  have hy : y.2.1 < 2 ^ 31 := by omega
  have w1 := hp.1
  have hf := pFk_le nx nx q
  refine wpc_of rfl (Nat.le_of_ble_eq_true rfl) ?_
  refine wp_aload_n d_PR_addLoop_0 rfl rfl ?_
  refine wp_iload_n d_PR_addLoop_1 rfl rfl ?_
  refine wp_iload_n d_PR_addLoop_2 rfl rfl ?_
  refine wp_callV2 xc_PR_56 d_PR_addLoop_3 (Nat.le_of_ble_eq_true rfl) (by repeat first | assumption | exact xg_eq | exact xn_eq (by first | rfl | omega) | refine xg_ne (by first | assumption | omega | (simp only [xput, xnew]; omega)) ?_ | refine xn_ne (by first | assumption | omega | (simp only [xput, xnew]; omega)) ?_ | exact rfl) (c_PR_addFork hE hp _ _) (by omega) (fun r h2 hp => ?_)
  obtain ⟨rfl, f2, p2⟩ := hp
  have w2 := p2.1
  have o2 := f2.at (q := a) (by simp [pS]; omega) t3
  have x2 := t4.mv hm (pS_mv f2 hlo) (Nat.le_refl _) (Nat.le_refl _)
  refine wp_istore d_PR_addLoop_6 (by decide) rfl ?_
  refine wp_aload_n d_PR_addLoop_8 rfl rfl ?_
  refine wp_aload_n d_PR_addLoop_9 rfl rfl ?_
  refine wp_get xf_PR_83 d_PR_addLoop_10 (by repeat first | assumption | exact xg_eq | exact xn_eq (by first | rfl | omega) | refine xg_ne (by first | assumption | omega | (simp only [xput, xnew]; omega)) ?_ | refine xn_ne (by first | assumption | omega | (simp only [xput, xnew]; omega)) ?_ | exact rfl) (by rfl) ?_
  refine wp_iload d_PR_addLoop_13 rfl ?_
  refine wp_iload_n d_PR_addLoop_15 rfl rfl ?_
  refine wp_callV3 xc_PR_87 d_PR_addLoop_16 (Nat.le_of_ble_eq_true rfl) (by repeat first | assumption | exact xg_eq | exact xn_eq (by first | rfl | omega) | refine xg_ne (by first | assumption | omega | (simp only [xput, xnew]; omega)) ?_ | refine xn_ne (by first | assumption | omega | (simp only [xput, xnew]; omega)) ?_ | exact rfl) (c_PR_addAtom hE hm ih hD p2 hlo x2 hf hd0) (by omega) (fun r h3 hp => ?_)
  obtain ⟨rfl, f3, p3, b3⟩ := hp
  have o3 := f3.at (q := a) (by simp [pS]; omega) o2
  have last : ∀ h4 : xH, xfr (pS p) h h4 → Pg E h4 p (gLp cX d y nx q).2 fi → wp E (D + 3) m_PR_addLoop 49 [(0, .ref p), (1, .ref a), (2, .int (nI nx)), (3, .int (nI d)), (4, .int (nI (pFk nx nx q).1)), (5, .int (nI (gAt cX d y.1 (pFk nx nx q).1 (pFk nx nx q).2).1))] [] h4 (fun r' h' => r' = some (.int (nI (gLp cX d y nx q).1)) ∧ xfr (pS p) h h' ∧ Pg E h' p (gLp cX d y nx q).2 fi ∧ (gLp cX d y nx q).1 ≤ 120) := by
    intro h4 f4 p4
    have o4 := f4.at (q := a) (by simp [pS]; omega) t3
    refine wp_aload_n d_PR_addLoop_49 rfl rfl ?_
    refine wp_get xf_PR_94 d_PR_addLoop_50 (by repeat first | assumption | exact xg_eq | exact xn_eq (by first | rfl | omega) | refine xg_ne (by first | assumption | omega | (simp only [xput, xnew]; omega)) ?_ | refine xn_ne (by first | assumption | omega | (simp only [xput, xnew]; omega)) ?_ | exact rfl) (by rfl) ?_
    refine wp_if_ne (tgt := 61) d_PR_addLoop_53 (by decide) (fun hc => ?_) (fun hc => ?_)
    · refine wp_iload d_PR_addLoop_61 rfl ?_
      refine wp_ireturn d_PR_addLoop_63 rfl (by first | rfl | assumption) ?_
      have hz : ¬ y.2.1 = 0 := fun z => hc (by rw [z]; rfl)
      have he : (gLp cX d y nx q).1 = (gAt cX d y.1 (pFk nx nx q).1 (pFk nx nx q).2).1 := by simp only [gLp, if_neg hz]
      rw [he]
      exact ⟨rfl, f4, p4, b3⟩
    · refine wp_iload d_PR_addLoop_56 rfl ?_
      refine wp_goto (tgt := 63) d_PR_addLoop_58 (by decide) ?_
      refine wp_ireturn d_PR_addLoop_63 rfl (by first | rfl | assumption) ?_
      have hz : y.2.1 = 0 := (nI_eq (b := 0) hy (by decide)).mp hc
      have he : (gLp cX d y nx q).1 = (pFk nx nx q).1 := by simp only [gLp, if_pos hz]
      rw [he]
      exact ⟨rfl, f4, p4, hf⟩
  obtain ⟨h1, h2', h3', h4', h5, h6, h7, h8⟩ := p3
  refine wp_istore d_PR_addLoop_19 (by decide) rfl ?_
  refine wp_aload_n d_PR_addLoop_21 rfl rfl ?_
  refine wp_get xf_PR_91 d_PR_addLoop_22 (by repeat first | assumption | exact xg_eq | exact xn_eq (by first | rfl | omega) | refine xg_ne (by first | assumption | omega | (simp only [xput, xnew]; omega)) ?_ | refine xn_ne (by first | assumption | omega | (simp only [xput, xnew]; omega)) ?_ | exact rfl) (by rfl) ?_
  refine wp_if_eq (tgt := 40) d_PR_addLoop_25 (by decide) (fun hc => ?_) (fun hc => ?_)
  · rw [bI_0] at hc
    refine wp_aload_n d_PR_addLoop_40 rfl rfl ?_
    refine wp_get xf_PR_15 d_PR_addLoop_41 (by repeat first | assumption | exact xg_eq | exact xn_eq (by first | rfl | omega) | refine xg_ne (by first | assumption | omega | (simp only [xput, xnew]; omega)) ?_ | refine xn_ne (by first | assumption | omega | (simp only [xput, xnew]; omega)) ?_ | exact rfl) (by rfl) ?_
    refine wp_iload d_PR_addLoop_44 rfl ?_
    refine wp_iload d_PR_addLoop_46 rfl ?_
    refine wp_iast d_PR_addLoop_48 (by repeat first | assumption | exact xg_eq | exact xn_eq (by first | rfl | omega) | refine xg_ne (by first | assumption | omega | (simp only [xput, xnew]; omega)) ?_ | refine xn_ne (by first | assumption | omega | (simp only [xput, xnew]; omega)) ?_ | exact rfl) hE.i (vp_in_nI (by omega) (by omega)) ?_
    rw [upd_nI (by omega)]
    refine last _ ((f2.tr f3).put (by simp [pS])) ?_
    have he : (gLp cX d y nx q).2 = pNx (pFk nx nx q).1 (gAt cX d y.1 (pFk nx nx q).1 (pFk nx nx q).2).1 (gAt cX d y.1 (pFk nx nx q).1 (pFk nx nx q).2).2 := by simp only [gLp, hc]; rfl
    rw [he]
    exact ⟨(by repeat first | assumption | exact xg_eq | exact xn_eq (by first | rfl | omega) | refine xg_ne (by first | assumption | omega | (simp only [xput, xnew]; omega)) ?_ | refine xn_ne (by first | assumption | omega | (simp only [xput, xnew]; omega)) ?_ | exact rfl), (by repeat first | assumption | exact xg_eq | exact xn_eq (by first | rfl | omega) | refine xg_ne (by first | assumption | omega | (simp only [xput, xnew]; omega)) ?_ | refine xn_ne (by first | assumption | omega | (simp only [xput, xnew]; omega)) ?_ | exact rfl), (by repeat first | assumption | exact xg_eq | exact xn_eq (by first | rfl | omega) | refine xg_ne (by first | assumption | omega | (simp only [xput, xnew]; omega)) ?_ | refine xn_ne (by first | assumption | omega | (simp only [xput, xnew]; omega)) ?_ | exact rfl), (by repeat first | assumption | exact xg_eq | exact xn_eq (by first | rfl | omega) | refine xg_ne (by first | assumption | omega | (simp only [xput, xnew]; omega)) ?_ | refine xn_ne (by first | assumption | omega | (simp only [xput, xnew]; omega)) ?_ | exact rfl), (by repeat first | assumption | exact xg_eq | exact xn_eq (by first | rfl | omega) | refine xg_ne (by first | assumption | omega | (simp only [xput, xnew]; omega)) ?_ | refine xn_ne (by first | assumption | omega | (simp only [xput, xnew]; omega)) ?_ | exact rfl), (by repeat first | assumption | exact xg_eq | exact xn_eq (by first | rfl | omega) | refine xg_ne (by first | assumption | omega | (simp only [xput, xnew]; omega)) ?_ | refine xn_ne (by first | assumption | omega | (simp only [xput, xnew]; omega)) ?_ | exact rfl), (by repeat first | assumption | exact xg_eq | exact xn_eq (by first | rfl | omega) | refine xg_ne (by first | assumption | omega | (simp only [xput, xnew]; omega)) ?_ | refine xn_ne (by first | assumption | omega | (simp only [xput, xnew]; omega)) ?_ | exact rfl), h8⟩
  · rw [bI_0] at hc
    refine wp_aload_n d_PR_addLoop_28 rfl rfl ?_
    refine wp_get xf_PR_18 d_PR_addLoop_29 (by repeat first | assumption | exact xg_eq | exact xn_eq (by first | rfl | omega) | refine xg_ne (by first | assumption | omega | (simp only [xput, xnew]; omega)) ?_ | refine xn_ne (by first | assumption | omega | (simp only [xput, xnew]; omega)) ?_ | exact rfl) (by rfl) ?_
    refine wp_iload d_PR_addLoop_32 rfl ?_
    refine wp_iload d_PR_addLoop_34 rfl ?_
    refine wp_iast d_PR_addLoop_36 (by repeat first | assumption | exact xg_eq | exact xn_eq (by first | rfl | omega) | refine xg_ne (by first | assumption | omega | (simp only [xput, xnew]; omega)) ?_ | refine xn_ne (by first | assumption | omega | (simp only [xput, xnew]; omega)) ?_ | exact rfl) hE.i (vp_in_nI (by omega) (by omega)) ?_
    refine wp_goto (tgt := 49) d_PR_addLoop_37 (by decide) ?_
    rw [upd_nI (by omega)]
    refine last _ ((f2.tr f3).put (by simp [pS])) ?_
    have he : (gLp cX d y nx q).2 = pOt (pFk nx nx q).1 (gAt cX d y.1 (pFk nx nx q).1 (pFk nx nx q).2).1 (gAt cX d y.1 (pFk nx nx q).1 (pFk nx nx q).2).2 := by simp only [gLp, b_t hc]; rfl
    rw [he]
    exact ⟨(by repeat first | assumption | exact xg_eq | exact xn_eq (by first | rfl | omega) | refine xg_ne (by first | assumption | omega | (simp only [xput, xnew]; omega)) ?_ | refine xn_ne (by first | assumption | omega | (simp only [xput, xnew]; omega)) ?_ | exact rfl), (by repeat first | assumption | exact xg_eq | exact xn_eq (by first | rfl | omega) | refine xg_ne (by first | assumption | omega | (simp only [xput, xnew]; omega)) ?_ | refine xn_ne (by first | assumption | omega | (simp only [xput, xnew]; omega)) ?_ | exact rfl), (by repeat first | assumption | exact xg_eq | exact xn_eq (by first | rfl | omega) | refine xg_ne (by first | assumption | omega | (simp only [xput, xnew]; omega)) ?_ | refine xn_ne (by first | assumption | omega | (simp only [xput, xnew]; omega)) ?_ | exact rfl), (by repeat first | assumption | exact xg_eq | exact xn_eq (by first | rfl | omega) | refine xg_ne (by first | assumption | omega | (simp only [xput, xnew]; omega)) ?_ | refine xn_ne (by first | assumption | omega | (simp only [xput, xnew]; omega)) ?_ | exact rfl), (by repeat first | assumption | exact xg_eq | exact xn_eq (by first | rfl | omega) | refine xg_ne (by first | assumption | omega | (simp only [xput, xnew]; omega)) ?_ | refine xn_ne (by first | assumption | omega | (simp only [xput, xnew]; omega)) ?_ | exact rfl), (by repeat first | assumption | exact xg_eq | exact xn_eq (by first | rfl | omega) | refine xg_ne (by first | assumption | omega | (simp only [xput, xnew]; omega)) ?_ | refine xn_ne (by first | assumption | omega | (simp only [xput, xnew]; omega)) ?_ | exact rfl), (by repeat first | assumption | exact xg_eq | exact xn_eq (by first | rfl | omega) | refine xg_ne (by first | assumption | omega | (simp only [xput, xnew]; omega)) ?_ | refine xn_ne (by first | assumption | omega | (simp only [xput, xnew]; omega)) ?_ | exact rfl), h8⟩
end PH
