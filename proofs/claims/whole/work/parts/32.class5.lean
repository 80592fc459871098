section KW
variable {X : Type} (kX : X → Prop)
def kAt : At X → Prop
  | .inl l => l.1 ≤ 3
  | .inr g => kX g.2
def kCc (rs : Cc X) : Prop := ∀ r ∈ rs, ∀ y ∈ r, kAt kX y.1
end KW
def kT : (n : Nat) → Ch n → Prop
  | 0 => fun _ => True
  | n + 1 => kCc (kT n)
section KV
variable {X : Type} {kX : X → Prop} {sX : X → Nat} {eX : X → Bool} {tX : xH → Nat → Nat → Nat → X → Prop}
theorem tAt.k (hk : ∀ h lo hi c x, tX h lo hi c x → kX x) {h : xH} {lo hi a : Nat} {x : At X} (ht : tAt tX h lo hi a x) : kAt kX x := by
  cases x with
  | inl q => exact ht.2.2.1
  | inr q => obtain ⟨_, _, c, _, t⟩ := ht; exact hk _ _ _ _ _ t
theorem tPl.k (hk : ∀ h lo hi c x, tX h lo hi c x → kX x) {h : xH} {lo hi : Nat} : ∀ {ps : List (Pc X)} {o : Option Nat}, tPl tX h lo hi o ps → ∀ y ∈ ps, kAt kX y.1
  | [], _, _ => fun y hy => by cases hy
  | p :: ps, o, ht => fun y hy => by
    obtain ⟨a, c, o', _, _, _, _, t1, _, t2⟩ := ht
    rcases List.mem_cons.mp hy with rfl | hy
    · exact t1.k hk
    · exact tPl.k hk t2 y hy
theorem tRl.k (hk : ∀ h lo hi c x, tX h lo hi c x → kX x) {h : xH} {lo : Nat} : ∀ {rs : Cc X} {hi : Nat} {o : Option Nat}, tRl sX eX tX h lo hi o rs → ∀ r ∈ rs, ∀ y ∈ r, kAt kX y.1
  | [], _, _, _ => fun y hy => by cases hy
  | r :: rs, hi, o, ht => fun r' hr => by
    obtain ⟨a, o', _, ⟨_, _, lp, _, t1⟩, t2⟩ := ht
    rcases List.mem_cons.mp hr with rfl | hr
    · exact fun y hy => t1.k hk y (List.mem_reverse.mpr hy)
    · exact tRl.k hk t2 r' hr
end KV
theorem tT.k : ∀ (n : Nat) (h : xH) (lo hi c : Nat) (x : Ch n), tT n h lo hi c x → kT n x
  | 0, _, _, _, _, _, ht => ht.elim
  | n + 1, h, lo, hi, c, x, ht => by
    obtain ⟨_, _, lr, _, t⟩ := ht
    exact fun r hr y hy => t.k (tT.k n) r (List.mem_reverse.mpr hr) y hy
theorem up_le {f : Nat → Nat} {i v M : Nat} (hf : ∀ k, f k ≤ M) (hv : v ≤ M) : ∀ k, va_up f i v k ≤ M := fun k => by
  by_cases h : k = i
  · rw [va_up, if_pos h]; exact hv
  · rw [va_up, if_neg h]; exact hf k
section GW
theorem pStp_wf {k nx : Nat} {q : PS0} (hq : pWf q) (hk : k ≤ 5) (hn : nx ≤ 120) : pWf (pStp k nx q).2 := ⟨up_le hq.1 hk, up_le hq.2.1 hn, hq.2.2.1, (pStp_le k nx q).2⟩
theorem pFk_wf {a b : Nat} {q : PS0} (hq : pWf q) (ha : a ≤ 120) (hb : b ≤ 120) : pWf (pFk a b q).2 := by
  have := pStp_wf (k := 5) hq (by decide) ha
  exact ⟨this.1, this.2.1, up_le this.2.2.1 hb, this.2.2.2⟩
theorem pMk_wf {a b : Nat} {q : PS0} (hq : pWf q) (hb : b ≤ 120) : pWf (pMk a b q).2 := by
  have := pStp_wf (k := 4) hq (by decide) hb
  exact ⟨this.1, this.2.1, this.2.2.1, this.2.2.2⟩
theorem pOt_wf {i v : Nat} {q : PS0} (hq : pWf q) (hv : v ≤ 120) : pWf (pOt i v q) := ⟨hq.1, hq.2.1, up_le hq.2.2.1 hv, hq.2.2.2⟩
theorem pNx_wf {i v : Nat} {q : PS0} (hq : pWf q) (hv : v ≤ 120) : pWf (pNx i v q) := ⟨hq.1, up_le hq.2.1 hv, hq.2.2⟩
def gOk (e : Nat × PS0) : Prop := e.1 ≤ 120 ∧ pWf e.2
variable {X : Type} {kX : X → Prop} {cX : Nat → X → Nat → PS0 → Nat × PS0} (hc : ∀ d x nx q, kX x → nx ≤ 120 → pWf q → gOk (cX d x nx q))
theorem gAt_wf (hc : ∀ d x nx q, kX x → nx ≤ 120 → pWf q → gOk (cX d x nx q)) {d nx : Nat} {q : PS0} {a : At X} (ha : kAt kX a) (hn : nx ≤ 120) (hq : pWf q) : gOk (gAt cX d a nx q) := by
  cases a with
  | inl l =>
    have := pStp_wf (k := l.1) hq (Nat.le_trans ha (by decide)) hn
    exact ⟨(pStp_le l.1 nx q).1, this.1, this.2.1, this.2.2.1, this.2.2.2⟩
  | inr g =>
    rw [gAt]
    split
    · exact ⟨hn, hq⟩
    · have h1 := hc (d + 1) g.2 (pMk (2 * g.1 + 1) nx q).1 (pMk (2 * g.1 + 1) nx q).2 ha (pMk_le _ _ _) (pMk_wf hq hn)
      exact ⟨pMk_le _ _ _, pMk_wf h1.2 h1.1⟩
theorem gCp_wf (hc : ∀ d x nx q, kX x → nx ≤ 120 → pWf q → gOk (cX d x nx q)) {d nx : Nat} {a : At X} {sp : Bool} (ha : kAt kX a) (hn : nx ≤ 120) : ∀ (k : Nat) (e : Nat × PS0), gOk e → gOk (gCp cX d a sp nx k e)
  | 0, e, h => h
  | k + 1, e, h => by
    rw [gCp]
    refine gCp_wf hc ha hn k _ ?_
    have h1 := gAt_wf hc (d := d) ha h.1 h.2
    show gOk (if sp then pFk nx (gAt cX d a e.1 e.2).1 (gAt cX d a e.1 e.2).2 else pFk (gAt cX d a e.1 e.2).1 nx (gAt cX d a e.1 e.2).2)
    split
    · exact ⟨pFk_le _ _ _, pFk_wf h1.2 hn h1.1⟩
    · exact ⟨pFk_le _ _ _, pFk_wf h1.2 h1.1 hn⟩
theorem gTm_wf (hc : ∀ d x nx q, kX x → nx ≤ 120 → pWf q → gOk (cX d x nx q)) {d : Nat} {a : At X} (ha : kAt kX a) : ∀ (k : Nat) (e : Nat × PS0), gOk e → gOk (gTm cX d a k e)
  | 0, e, h => h
  | k + 1, e, h => by rw [gTm]; exact gTm_wf hc ha k _ (gAt_wf hc ha h.1 h.2)
theorem gPc_wf (hc : ∀ d x nx q, kX x → nx ≤ 120 → pWf q → gOk (cX d x nx q)) {d nx : Nat} {q : PS0} {y : Pc X} (ha : kAt kX y.1) (hn : nx ≤ 120) (hq : pWf q) : gOk (gPc cX d y nx q) := by
  rw [gPc]
  split
  · have h1 := gAt_wf hc (d := d) ha (pFk_le nx nx q) (pFk_wf hq hn hn)
    refine ⟨?_, ?_⟩
    · show (if y.2.1 = 0 then _ else _) ≤ 120
      split
      · exact pFk_le _ _ _
      · exact h1.1
    · show pWf (if y.2.2.2.2 then _ else _)
      split
      · exact pOt_wf h1.2 h1.1
      · exact pNx_wf h1.2 h1.1
  · exact gTm_wf hc ha _ _ (gCp_wf hc ha hn _ _ ⟨hn, hq⟩)
theorem gPl_wf (hc : ∀ d x nx q, kX x → nx ≤ 120 → pWf q → gOk (cX d x nx q)) {d : Nat} : ∀ (ps : List (Pc X)) (e : Nat × PS0), (∀ y ∈ ps, kAt kX y.1) → gOk e → gOk (gPl cX d ps e)
  | [], e, _, h => h
  | y :: ps, e, hk, h => by rw [gPl]; exact gPl_wf hc ps _ (fun z hz => hk z (List.mem_cons_of_mem _ hz)) (gPc_wf hc (hk y List.mem_cons_self) h.1 h.2)
theorem gRl_wf (hc : ∀ d x nx q, kX x → nx ≤ 120 → pWf q → gOk (cX d x nx q)) {d nx : Nat} (hn : nx ≤ 120) : ∀ (rs : List (List (Pc X))) (e : Nat × PS0), (∀ r ∈ rs, ∀ y ∈ r, kAt kX y.1) → gOk e → gOk (gRl cX d nx rs e)
  | [], e, _, h => h
  | r :: rs, e, hk, h => by
    rw [gRl]
    have h1 : gOk (gRw cX d r nx e.2) := gPl_wf hc _ _ (fun y hy => hk r List.mem_cons_self y (List.mem_reverse.mp hy)) ⟨hn, h.2⟩
    exact gRl_wf hc hn rs _ (fun z hz => hk z (List.mem_cons_of_mem _ hz)) ⟨pFk_le _ _ _, pFk_wf h1.2 h1.1 h.1⟩
end GW
theorem gCh_wf : ∀ (n : Nat) (d : Nat) (x : Ch n) (nx : Nat) (q : PS0), kT n x → nx ≤ 120 → pWf q → gOk (gCh n d x nx q)
  | 0, _, _, _, _, _, hn, hq => ⟨hn, hq⟩
  | n + 1, d, x, nx, q, hk, hn, hq => by
    show gOk (gCc (gCh n) d x nx q)
    have hk' : ∀ r ∈ (x : Cc (Ch n)).reverse, ∀ y ∈ r, kAt (kT n) y.1 := fun r hr => hk r (List.mem_reverse.mp hr)
    unfold gCc
    split
    · exact ⟨hn, hq⟩
    · rename_i r rs hr
      rw [hr] at hk'
      exact gRl_wf (gCh_wf n) hn rs _ (fun z hz => hk' z (List.mem_cons_of_mem _ hz)) (gPl_wf (gCh_wf n) _ _ (fun y hy => hk' r List.mem_cons_self y (List.mem_reverse.mp hy)) ⟨hn, hq⟩)
theorem gBld_wf {n : Nat} {x : Ch n} {q : PS0} (hk : kT n x) (hq : pWf q) : gOk (gBld n x q) :=
  gCh_wf n 0 x _ _ hk (pStp_le 0 0 _).1 (pStp_wf (q := (0, q.2)) ⟨hq.1, hq.2.1, hq.2.2.1, Nat.zero_le _⟩ (by decide) (by decide))
section CP
variable {E : xE} {h : xH} {c : CS} {kA kV : Nat → Nat}
def cpC (c : CS) : CS := if fltB c.1 = false ∧ (rdA c.1).2.2.2.1 = false ∧ nI (szT 7 (rdA c.1).1) ≤ 120 then (c.1, c.2.1, c.2.2.1, cpM c.2.2.2.1 c.1, filled 14 (-2) c.2.2.2.2.1, c.2.2.2.2.2.1, true, szT 7 (rdA c.1).1) else (c.1, c.2.1, c.2.2.1, c.2.2.2.1, c.2.2.2.2.1, c.2.2.2.2.2.1, false, c.2.2.2.2.2.2.2)
theorem c_PS_compile (hE : xOK E) (hX : xStr E kA kV) (hc0 : Cl E h c) (hn : 21 ≤ h.1) : wpc E 44 m_PS_compile [.ref (xb E)] h (fun r' h' => r' = some (.int (cpA c.1)) ∧ xgc E (cA E) 115 h h' ∧ Cl E h' (cpC c)) := by
  obtain ⟨h1, h2, h3, h4, h5, h6, h7, h8⟩ := id hc0
  have hl := h2.len
  refine wpc_of rfl (Nat.le_of_ble_eq_true rfl) ?_
  refine wp_aload_n d_PS_compile_0 rfl rfl ?_
  refine wp_iconst (v := 0) d_PS_compile_1 (by rfl) ?_
  refine wp_put xf_PS_41 xg_PS (Or.inl rfl) d_PS_compile_2 (by repeat first | assumption | exact xg_eq | exact xn_eq (by first | rfl | omega) | refine xg_ne (by first | assumption | omega | (simp only [xput, xnew]; omega)) ?_ | refine xn_ne (by first | assumption | omega | (simp only [xput, xnew]; omega)) ?_ | exact rfl) (by first | rfl | assumption | exact bI_z _) (by first | rfl | assumption | exact bI_f _) (Nat.le_of_ble_eq_true rfl) ?_
  generalize hg0 : xput h (xb E) _ = g1
  have f1 : xfr [xb E] h g1 := by rw [← hg0]; exact xfr.rf.put (by simp)
  have o1 : g1.2.2 (xb E) = some (ob 9 [.ref (xb E + 1), .ref (xb E + 3), .ref (xb E + 5), .ref (xb E + 7), .ref (xb E + 17), .ref (xb E + 19), .int 0, .int (nI c.2.2.2.2.2.2.2)]) := by rw [← hg0]; exact xg_eq
  clear hg0
  have e1 : g1.1 = h.1 := f1.1
  have s1 : g1.2.1 = h.2.1 := f1.2.1
  have a21 : xb E + 1 ≠ xb E + g1.1 := by omega
  refine wp_new xw_PS_67 d_PS_compile_5 ?_
  refine wp_dup d_PS_compile_8 rfl ?_
  refine wp_aload_n d_PS_compile_9 rfl rfl ?_
  refine wp_get xf_PS_14 d_PS_compile_10 (by repeat first | assumption | exact xg_eq | exact xn_eq (by first | rfl | omega) | refine xg_ne (by first | assumption | omega | (simp only [xput, xnew]; omega)) ?_ | refine xn_ne (by first | assumption | omega | (simp only [xput, xnew]; omega)) ?_ | exact rfl) (by rfl) ?_
  refine wp_callI1 xc_PS_69 d_PS_compile_13 (Nat.le_of_ble_eq_true rfl) (c_RE_init (by repeat first | assumption | exact xg_eq | exact xn_eq (by first | rfl | omega) | refine xg_ne (by first | assumption | omega | (simp only [xput, xnew]; omega)) ?_ | refine xn_ne (by first | assumption | omega | (simp only [xput, xnew]; omega)) ?_ | exact rfl)) (by omega) (fun r hh hp => ?_)
  obtain ⟨rfl, rfl⟩ := hp
  generalize hg : xput (xnew E g1 5 _) _ _ = g2
  have e2 : g2.1 = h.1 + 1 := by rw [← hg, ← e1]; rfl
  have s2 : g2.2.1 = h.2.1 + 5 := by rw [← hg, ← s1]; rfl
  have q2 : ∀ q, q < xb E + h.1 → g2.2.2 q = g1.2.2 q := fun q hq => by rw [← hg]; exact (by repeat first | assumption | exact xg_eq | exact xn_eq (by first | rfl | omega) | refine xg_ne (by first | assumption | omega | (simp only [xput, xnew]; omega)) ?_ | refine xn_ne (by first | assumption | omega | (simp only [xput, xnew]; omega)) ?_ | exact rfl)
  have q2h : ∀ q, q < xb E + h.1 → q ≠ xb E → g2.2.2 q = h.2.2 q := fun q hq hne => (q2 q hq).trans (f1.2.2 q (by simpa using hne))
  have r2 : Rd E g2 (xb E + g1.1) (xb E + 1) (xb E + 2) 28 c.1 (0, 0, false, false) := ⟨by rw [← hg]; exact (by repeat first | assumption | exact xg_eq | exact xn_eq (by first | rfl | omega) | refine xg_ne (by first | assumption | omega | (simp only [xput, xnew]; omega)) ?_ | refine xn_ne (by first | assumption | omega | (simp only [xput, xnew]; omega)) ?_ | exact rfl), h2.mv (q2h _ (by omega) (by omega)) (q2h _ (by omega) (by omega)), by omega, by omega, Nat.zero_le _⟩
  clear hg
  have w2 := r2.1
  refine wp_astore_n d_PS_compile_16 rfl (by decide) rfl ?_
  refine wp_aload_n d_PS_compile_17 rfl rfl ?_
  refine wp_callV0 xc_PS_72 d_PS_compile_18 (Nat.le_of_ble_eq_true rfl) (by repeat first | assumption | exact xg_eq | exact xn_eq (by first | rfl | omega) | refine xg_ne (by first | assumption | omega | (simp only [xput, xnew]; omega)) ?_ | refine xn_ne (by first | assumption | omega | (simp only [xput, xnew]; omega)) ?_ | exact rfl) (c_RE_readChoice hE hX 7 g2 _ r2 (by omega) (by omega) (by omega) (by decide) (by decide)) (by omega) (fun r g3 hp => ?_)
  obtain ⟨rfl, g3w, r3, p1, p2, p3, t3⟩ := hp
  have w3 := r3.1
  obtain ⟨b1, b2, b3, b4, b5⟩ := g3w
  have hs : (pCh c.1 7 (0, 0, false, false)).2.1 ≤ 28 := by have := r3.2.2.2.2; omega
  have q3 : ∀ q, q < xb E + h.1 → g3.2.2 q = g1.2.2 q := fun q hq => (b5 q (by omega) (by omega)).trans (q2 q hq)
  have q3h : ∀ q, q < xb E + h.1 → q ∉ [xb E] → g3.2.2 q = h.2.2 q := fun q hq hne => (q3 q hq).trans (f1.2.2 q hne)
  have o3 := (q3 (xb E) (by omega)).trans o1
  have G3 := hc0.get2 (S := [xb E]) (h' := g3) (fun q hq hne => q3h q (by omega) hne)
  have ax : xgc E (cA E) 115 h g3 := ⟨by omega, by omega, by omega, by omega, fun q hq hne => q3h q hq (fun z => hne (by rw [List.mem_singleton.mp z]; simp [cA]))⟩
  have bad : ∀ v : Int32, ¬ (fltB c.1 = false ∧ (rdA c.1).2.2.2.1 = false ∧ nI (szT 7 (rdA c.1).1) ≤ 120) → v = cpA c.1 → (some (.int v) : Option Value) = some (.int (cpA c.1)) ∧ xgc E (cA E) 115 h g3 ∧ Cl E g3 (cpC c) := by
    intro v hb hv
    rw [cpC, if_neg hb, hv]
    exact ⟨rfl, ax, o3, G3.2.1 (by simp) (by simp), G3.2.2.1 (by simp) (by simp), G3.2.2.2.1 (by simp) (by simp), G3.2.2.2.2.1 (fun z _ _ => by simp; omega), G3.2.2.2.2.2.1 (by simp) (by simp), G3.2.2.2.2.2.2 (by simp) (by simp), h8⟩
  refine wp_astore_n d_PS_compile_21 rfl (by decide) rfl ?_
  refine wp_aload_n d_PS_compile_22 rfl rfl ?_
  refine wp_callV0 xc_PS_76 d_PS_compile_23 (Nat.le_of_ble_eq_true rfl) (by repeat first | assumption | exact xg_eq | exact xn_eq (by first | rfl | omega) | refine xg_ne (by first | assumption | omega | (simp only [xput, xnew]; omega)) ?_ | refine xn_ne (by first | assumption | omega | (simp only [xput, xnew]; omega)) ?_ | exact rfl) (c_RE_faultPlace hE r3) (by omega) (fun r hh hp => ?_)
  obtain ⟨rfl, hz0⟩ := hp; have hz0 := hz0.symm; subst hz0
  refine wp_bipush (v := (-2)) d_PS_compile_26 (by rfl) ?_
  have hflt : (if ((pCh c.1 7 (0, 0, false, false)).2.2.2.2 || decide ((pCh c.1 7 (0, 0, false, false)).2.1 < c.1.length)) = true then nI (pCh c.1 7 (0, 0, false, false)).2.1 else -2) = (if fltB c.1 then nI (rdA c.1).2.1 else -2) := rfl
  rw [hflt]
  have hnn : nI (rdA c.1).2.1 ≠ -2 := fun z => absurd (show (-2 : Int32) < 0 by decide) (by rw [← z]; exact nI_pos (by show (pCh c.1 7 (0, 0, false, false)).2.1 < 2 ^ 31; omega))
  refine wp_icmp_eq (tgt := 34) d_PS_compile_28 (by decide) (fun hc => ?_) (fun hc => ?_)
  rotate_left
  · have hf : fltB c.1 = true := b_t (fun z => hc (by rw [z]; rfl))
    refine wp_bipush (v := (-3)) d_PS_compile_31 (by rfl) ?_
    refine wp_ireturn d_PS_compile_33 rfl (by first | rfl | assumption) ?_
    exact bad _ (fun z => by rw [hf] at z; exact absurd z.1 (by decide)) (by rw [cpA, if_pos hf])
  have hf : fltB c.1 = false := by
    cases hq : fltB c.1 with
    | false => rfl
    | true => rw [hq] at hc; exact absurd hc hnn
  refine wp_aload_n d_PS_compile_34 rfl rfl ?_
  refine wp_callV0 xc_PS_79 d_PS_compile_35 (Nat.le_of_ble_eq_true rfl) (by repeat first | assumption | exact xg_eq | exact xn_eq (by first | rfl | omega) | refine xg_ne (by first | assumption | omega | (simp only [xput, xnew]; omega)) ?_ | refine xn_ne (by first | assumption | omega | (simp only [xput, xnew]; omega)) ?_ | exact rfl) (c_RE_isEndless r3) (by omega) (fun r hh hp => ?_)
  obtain ⟨rfl, hz0⟩ := hp; have hz0 := hz0.symm; subst hz0
  refine wp_if_eq (tgt := 44) d_PS_compile_38 (by decide) (fun hc2 => ?_) (fun hc2 => ?_)
  rotate_left
  · rw [bI_0] at hc2
    have he : (rdA c.1).2.2.2.1 = true := b_t hc2
    refine wp_bipush (v := (-4)) d_PS_compile_41 (by rfl) ?_
    refine wp_ireturn d_PS_compile_43 rfl (by first | rfl | assumption) ?_
    exact bad _ (fun z => by rw [he] at z; exact absurd z.2.1 (by decide)) (by rw [cpA, hf, he]; rfl)
  rw [bI_0] at hc2
  have he : (rdA c.1).2.2.2.1 = false := hc2
  obtain ⟨cv, ocv⟩ := tT.cell 7 _ _ _ _ _ t3
  refine wp_aload_n d_PS_compile_44 rfl rfl ?_
  refine wp_callV0 xc_PS_82 d_PS_compile_45 (Nat.le_of_ble_eq_true rfl) (by repeat first | assumption | exact xg_eq | exact xn_eq (by first | rfl | omega) | refine xg_ne (by first | assumption | omega | (simp only [xput, xnew]; omega)) ?_ | refine xn_ne (by first | assumption | omega | (simp only [xput, xnew]; omega)) ?_ | exact rfl) (c_CH_size ocv) (by omega) (fun r hh hp => ?_)
  obtain ⟨rfl, hz0⟩ := hp; have hz0 := hz0.symm; subst hz0
  refine wp_bipush (v := 120) d_PS_compile_48 (by rfl) ?_
  refine wp_icmp_le (tgt := 56) d_PS_compile_50 (by decide) (fun hc3 => ?_) (fun hc3 => ?_)
  rotate_left
  · have hz : ¬ nI (szT 7 (rdA c.1).1) ≤ 120 := hc3
    refine wp_bipush (v := (-5)) d_PS_compile_53 (by rfl) ?_
    refine wp_ireturn d_PS_compile_55 rfl (by first | rfl | assumption) ?_
    exact bad _ (fun z => hz z.2.2) (by rw [cpA, hf, he, if_neg hz]; rfl)
  have hz : nI (szT 7 (rdA c.1).1) ≤ 120 := hc3
  have m3 := G3.2.2.2.2.1 (fun z _ _ => by simp; omega)
  have n3 := m3.1
  refine wp_aload_n d_PS_compile_56 rfl rfl ?_
  refine wp_get xf_PS_27 d_PS_compile_57 (by repeat first | assumption | exact xg_eq | exact xn_eq (by first | rfl | omega) | refine xg_ne (by first | assumption | omega | (simp only [xput, xnew]; omega)) ?_ | refine xn_ne (by first | assumption | omega | (simp only [xput, xnew]; omega)) ?_ | exact rfl) (by rfl) ?_
  refine wp_aload_n d_PS_compile_60 rfl rfl ?_
  refine wp_callV1 xc_PS_87 d_PS_compile_61 (Nat.le_of_ble_eq_true rfl) (by repeat first | assumption | exact xg_eq | exact xn_eq (by first | rfl | omega) | refine xg_ne (by first | assumption | omega | (simp only [xput, xnew]; omega)) ?_ | refine xn_ne (by first | assumption | omega | (simp only [xput, xnew]; omega)) ?_ | exact rfl) (c_MA_load hE m3 (by omega) t3) (by omega) (fun r g4 hp => ?_)
  obtain ⟨rfl, f4, m4⟩ := hp
  have a4 : ∀ q, q ∉ pS (xb E + 7 + 1) → g4.2.2 q = g3.2.2 q := f4.2.2
  have e4 : g4.1 = g3.1 := f4.1
  have s4 : g4.2.1 = g3.2.1 := f4.2.1
  have ocv4 := f4.at (q := xb E + g2.1) (by simp [pS]; omega) ocv
  have o4 := f4.at (q := xb E) (by simp [pS]; omega) o3
  have r4 : Rd E g4 (xb E + g1.1) (xb E + 1) (xb E + 2) 28 c.1 (pCh c.1 7 (0, 0, false, false)).2 := ⟨f4.at (by simp [pS]; omega) r3.1, r3.2.1.mv (a4 _ (by simp [pS])) (a4 _ (by simp [pS])), r3.2.2⟩
  refine wp_aload_n d_PS_compile_64 rfl rfl ?_
  refine wp_aload_n d_PS_compile_65 rfl rfl ?_
  refine wp_callV0 xc_PS_82 d_PS_compile_66 (Nat.le_of_ble_eq_true rfl) (by repeat first | assumption | exact xg_eq | exact xn_eq (by first | rfl | omega) | refine xg_ne (by first | assumption | omega | (simp only [xput, xnew]; omega)) ?_ | refine xn_ne (by first | assumption | omega | (simp only [xput, xnew]; omega)) ?_ | exact rfl) (c_CH_size ocv4) (by omega) (fun r hh hp => ?_)
  obtain ⟨rfl, hz0⟩ := hp; have hz0 := hz0.symm; subst hz0
  refine wp_put xf_PS_45 xg_PS (Or.inl rfl) d_PS_compile_69 (by repeat first | assumption | exact xg_eq | exact xn_eq (by first | rfl | omega) | refine xg_ne (by first | assumption | omega | (simp only [xput, xnew]; omega)) ?_ | refine xn_ne (by first | assumption | omega | (simp only [xput, xnew]; omega)) ?_ | exact rfl) (by first | rfl | assumption | exact bI_z _) (by first | rfl | assumption | exact bI_f _) (Nat.le_of_ble_eq_true rfl) ?_
  refine wp_aload_n d_PS_compile_72 rfl rfl ?_
  refine wp_iconst (v := 1) d_PS_compile_73 (by rfl) ?_
  refine wp_put xf_PS_41 xg_PS (Or.inl rfl) d_PS_compile_74 (by repeat first | assumption | exact xg_eq | exact xn_eq (by first | rfl | omega) | refine xg_ne (by first | assumption | omega | (simp only [xput, xnew]; omega)) ?_ | refine xn_ne (by first | assumption | omega | (simp only [xput, xnew]; omega)) ?_ | exact rfl) (by first | rfl | assumption | exact bI_z _) (by first | rfl | assumption | exact bI_f _) (Nat.le_of_ble_eq_true rfl) ?_
  generalize hg5 : xput (xput g4 (xb E) _) (xb E) _ = g5
  have f5 : xfr [xb E] g4 g5 := by rw [← hg5]; exact (xfr.rf.put (by simp)).put (by simp)
  have o5 : g5.2.2 (xb E) = some (ob 9 [.ref (xb E + 1), .ref (xb E + 3), .ref (xb E + 5), .ref (xb E + 7), .ref (xb E + 17), .ref (xb E + 19), .int 1, .int (nI (szT 7 (rdA c.1).1))]) := by rw [← hg5]; exact xg_eq
  clear hg5
  have q5 : ∀ q, q ≤ xb E + 20 → q ∉ [xb E, xb E + 8, xb E + 9, xb E + 10, xb E + 11, xb E + 12, xb E + 13, xb E + 14] → g5.2.2 q = h.2.2 q := fun q hq hne => (f5.2.2 q (fun z => hne (by rw [List.mem_singleton.mp z]; simp))).trans ((a4 q (fun z => hne (by simp [pS] at z ⊢; omega))).trans (q3h q (by omega) (fun z => hne (by rw [List.mem_singleton.mp z]; simp))))
  have G5 := hc0.get2 q5
  have m5 : Ma E g5 (xb E + 7) (cpM c.2.2.2.1 c.1).1 (cpM c.2.2.2.1 c.1).2.1 c.2.2.2.1.2.2.1 c.2.2.2.1.2.2.2.1 c.2.2.2.1.2.2.2.2 := m4.mv (fun z z1 z2 => f5.2.2 z (by simp; omega))
  have b6 := G5.2.2.2.2.2.1 (by simp) (by simp)
  have w6 := b6.1
  refine wp_aload_n d_PS_compile_77 rfl rfl ?_
  refine wp_get xf_PS_34 d_PS_compile_78 (by repeat first | assumption | exact xg_eq | exact xn_eq (by first | rfl | omega) | refine xg_ne (by first | assumption | omega | (simp only [xput, xnew]; omega)) ?_ | refine xn_ne (by first | assumption | omega | (simp only [xput, xnew]; omega)) ?_ | exact rfl) (by rfl) ?_
  refine wp_callV0 xc_PS_91 d_PS_compile_81 (Nat.le_of_ble_eq_true rfl) (by repeat first | assumption | exact xg_eq | exact xn_eq (by first | rfl | omega) | refine xg_ne (by first | assumption | omega | (simp only [xput, xnew]; omega)) ?_ | refine xn_ne (by first | assumption | omega | (simp only [xput, xnew]; omega)) ?_ | exact rfl) (c_BO_clear hE b6) (by omega) (fun r g6 hp => ?_)
  obtain ⟨rfl, hh6⟩ := hp
  have f6 : xfr [xb E + 18] g5 g6 := by rw [hh6]; exact xfr.rf.put (by simp)
  have b7 : Bd E g6 (xb E + 17) (xb E + 18) (filled 14 (-2) c.2.2.2.2.1) := by rw [hh6]; exact ⟨xg_ne (by omega) b6.1, xg_eq, b6.2.2⟩
  clear hh6
  have q6 : ∀ q, q ≤ xb E + 20 → q ∉ [xb E, xb E + 8, xb E + 9, xb E + 10, xb E + 11, xb E + 12, xb E + 13, xb E + 14, xb E + 18] → g6.2.2 q = h.2.2 q := fun q hq hne => (f6.2.2 q (fun z => hne (by rw [List.mem_singleton.mp z]; simp))).trans (q5 q hq (fun z => hne (by simp at z ⊢; omega)))
  have G6 := hc0.get2 q6
  have r6 : Rd E g6 (xb E + g1.1) (xb E + 1) (xb E + 2) 28 c.1 (pCh c.1 7 (0, 0, false, false)).2 := ⟨f6.at (by simp; omega) (f5.at (by simp; omega) r4.1), r4.2.1.mv ((f6.2.2 _ (by simp)).trans (f5.2.2 _ (by simp))) ((f6.2.2 _ (by simp)).trans (f5.2.2 _ (by simp))), r4.2.2⟩
  have w7 := r6.1
  refine wp_aload_n d_PS_compile_84 rfl rfl ?_
  refine wp_callV0 xc_PS_92 d_PS_compile_85 (Nat.le_of_ble_eq_true rfl) (by repeat first | assumption | exact xg_eq | exact xn_eq (by first | rfl | omega) | refine xg_ne (by first | assumption | omega | (simp only [xput, xnew]; omega)) ?_ | refine xn_ne (by first | assumption | omega | (simp only [xput, xnew]; omega)) ?_ | exact rfl) (c_RE_groupCount r6) (by omega) (fun r hh hp => ?_)
  obtain ⟨rfl, hz0⟩ := hp; have hz0 := hz0.symm; subst hz0
  refine wp_ireturn d_PS_compile_88 rfl (by first | rfl | assumption) ?_
  have e6 : g6.1 = g3.1 := f6.1.trans (f5.1.trans e4)
  have s6 : g6.2.1 = g3.2.1 := f6.2.1.trans (f5.2.1.trans s4)
  rw [cpC, if_pos ⟨hf, he, hz⟩]
  refine ⟨by rw [cpA, hf, he, if_pos hz]; rfl, ⟨by omega, by omega, by omega, by omega, fun q hq hne => ?_⟩, f6.at (by simp) o5, G6.2.1 (by simp) (by simp), G6.2.2.1 (by simp) (by simp), G6.2.2.2.1 (by simp) (by simp), m5.mv (fun z z1 z2 => f6.2.2 z (by simp; omega)), b7, G6.2.2.2.2.2.2 (by simp) (by simp), (gBld_wf (tT.k 7 _ _ _ _ _ t3) h8).2⟩
  refine (f6.2.2 q (fun z => hne (by rw [List.mem_singleton.mp z]; simp [cA]))).trans ((f5.2.2 q (fun z => hne (by rw [List.mem_singleton.mp z]; simp [cA]))).trans ((a4 q (fun z => hne (by simp [pS] at z; simp [cA]; omega))).trans (q3h q hq (fun z => hne (by rw [List.mem_singleton.mp z]; simp [cA])))))
end CP
