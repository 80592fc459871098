abbrev RS : Type := Nat × Nat × Bool × Bool
abbrev Lf : Type := Nat × Int64 × Int64
abbrev At (X : Type) : Type := Lf ⊕ (Nat × X)
abbrev Rp : Type := Nat × Nat × Bool × Bool
abbrev Pc (X : Type) : Type := At X × Rp
abbrev Cc (X : Type) : Type := List (List (Pc X))
def Ch : Nat → Type
  | 0 => Unit
  | n + 1 => Cc (Ch n)
def isSg (c : Int32) : Bool := decide (32 ≤ c) && decide (c ≤ 126)
def plainB (c : Int32) : Bool := isSg c && !decide (c ∈ xByt.getD 0 [])
def itemB (c : Int32) : Bool := isSg c && !decide (c ∈ xByt.getD 1 [])
section PU
variable {X : Type} (sX : X → Nat) (eX : X → Bool)
def atS : At X → Nat
  | .inl _ => 1
  | .inr q => sX q.2 + 2
def atE : At X → Bool
  | .inl q => !decide (q.1 = 1)
  | .inr q => eX q.2
def pcS (p : Pc X) : Nat := if p.2.2.2.1 then atS sX p.1 + 2 else p.2.2.1 * atS sX p.1 + 2 * (p.2.2.1 - p.2.1)
def pcE (p : Pc X) : Bool := decide (p.2.1 = 0) || atE eX p.1
def rwS (ps : List (Pc X)) : Nat := (ps.map (pcS sX)).sum
def rwE (ps : List (Pc X)) : Bool := ps.all (pcE eX)
def ccS (rs : Cc X) : Nat := (rs.map (rwS sX)).sum + 2 * (rs.length - 1)
def ccE (rs : Cc X) : Bool := rs.any (rwE eX)
end PU
def szT : (n : Nat) → Ch n → Nat
  | 0, _ => 0
  | n + 1, x => ccS (szT n) x
def emT : (n : Nat) → Ch n → Bool
  | 0, _ => false
  | n + 1, x => ccE (emT n) x
def rStk (s : RS) : RS := (s.1, s.2.1, s.2.2.1, true)
def rInc (s : RS) : RS := (s.1 + 1, s.2)
section PR
variable (xs : List Int32)
def rPk (s : RS) : Int32 := if s.2.2.2 then -2 else xs.getD s.1 (-2)
def rTk (c : Int32) (s : RS) : Bool × RS := if rPk xs s = c then (true, rInc s) else (false, s)
def rEx (c : Int32) (s : RS) : RS := if rPk xs s = c then rInc s else rStk s
def rIs (l : Nat) (s : RS) : Nat × RS := if itemB (rPk xs s) = false ∨ rPk xs s < nI l then (l, rStk s) else ((rPk xs s).toNatClampNeg, rInc s)
def rIt (b : Int64 × Int64) (s : RS) : (Int64 × Int64) × RS :=
  let f := rIs xs 32 s
  let t := rTk xs 45 f.2
  let g := if t.1 then rIs xs f.1 t.2 else (f.1, t.2)
  (tkS (g.1 + 1 - f.1) f.1 b, g.2)
def rIts : Nat → (Int64 × Int64) × RS → (Int64 × Int64) × RS
  | 0, q => q
  | k + 1, q => if itemB (rPk xs q.2) then rIts k (rIt xs q.1 q.2) else q
def rCl (s : RS) : (Int64 × Int64) × RS :=
  let o := rTk xs 94 s
  let q := rIts xs 27 (rIt xs (0, 0) o.2)
  (if o.1 then (q.1.1 ^^^ (-1), q.1.2 ^^^ (-1)) else q.1, rEx xs 93 q.2)
def rDg (l : Nat) (s : RS) : Nat × RS := if rPk xs s - 48 < nI l ∨ 6 < rPk xs s - 48 then (l, rStk s) else ((rPk xs s - 48).toNatClampNeg, rInc s)
def rBr (s : RS) : (Nat × Nat) × RS :=
  let a := rDg xs 0 s
  let t := rTk xs 44 a.2
  let r := if t.1 then rDg xs (max 1 a.1) t.2 else (a.1, if a.1 = 0 then rStk t.2 else t.2)
  ((a.1, r.1), rEx xs 125 r.2)
def rRp (s : RS) : Bool × (Nat × Nat × Bool) × RS :=
  if rPk xs s = 42 then (true, (0, 1, true), rInc s)
  else if rPk xs s = 43 then (true, (1, 1, true), rInc s)
  else if rPk xs s = 63 then (true, (0, 1, false), rInc s)
  else if rPk xs s = 123 then (true, ((rBr xs (rInc s)).1.1, (rBr xs (rInc s)).1.2, false), (rBr xs (rInc s)).2)
  else (false, (1, 1, false), s)
def rBg (g : Nat) (c : Int32) : Bool := if c = 40 then decide (g < 6) else (decide (c = 91) || decide (c = 46) || decide (c = 94) || decide (c = 36) || plainB c)
variable {X : Type} (eX : X → Bool) (inn : RS → X × RS)
def rAt (s : RS) : At X × RS :=
  let c := rPk xs s
  let s1 := rInc s
  if c = 40 then
    let q := inn (s1.1, s1.2.1 + 1, s1.2.2)
    (.inr (s1.2.1 + 1, q.1), rEx xs 41 q.2)
  else if c = 91 then (.inl (1, (rCl xs s1).1), (rCl xs s1).2)
  else if c = 94 then (.inl (2, 0, 0), s1)
  else if c = 36 then (.inl (3, 0, 0), s1)
  else if c = 46 then (.inl (1, tkS 95 32 (0, 0)), s1)
  else (.inl (1, tkS 1 c.toNatClampNeg (0, 0)), s1)
def rEnd (b : Bool) (s : RS) : RS := (s.1, s.2.1, s.2.2.1 || b, s.2.2.2)
def rPc (s : RS) : Pc X × RS :=
  let a := rAt xs inn s
  let r := rRp xs a.2
  let t := if r.1 then rTk xs 63 r.2.2 else (false, r.2.2)
  ((a.1, (r.2.1.1, r.2.1.2.1, r.2.1.2.2, t.1)), rEnd (r.2.1.2.2 && atE eX a.1) t.2)
def rRw : Nat → List (Pc X) × RS → List (Pc X) × RS
  | 0, q => q
  | k + 1, q => if rBg q.2.2.1 (rPk xs q.2) then rRw k (q.1 ++ [(rPc xs eX inn q.2).1], (rPc xs eX inn q.2).2) else q
def rCc : Nat → Cc X × RS → Cc X × RS
  | 0, q => q
  | k + 1, q => if rPk xs q.2 = 124 then rCc k (q.1 ++ [(rRw xs eX inn 28 ([], rInc q.2)).1], (rRw xs eX inn 28 ([], rInc q.2)).2) else q
def rCh (s : RS) : Cc X × RS := rCc xs eX inn 28 ([(rRw xs eX inn 28 ([], s)).1], (rRw xs eX inn 28 ([], s)).2)
end PR
def pCh (xs : List Int32) : (n : Nat) → RS → Ch n × RS
  | 0, s => ((), s)
  | n + 1, s => rCh xs (emT n) (pCh xs n) s
section TS
variable {E : xE} {h : xH} {kA kV : Nat → Nat}
theorem c_PS_isSign (x : Int32) : wpc E 0 m_PS_isSign [.int x] h (fun r' h' => r' = some (.int (bI (isSg x))) ∧ h' = h) := by
  refine wpc_of rfl (Nat.le_of_ble_eq_true rfl) ?_
  refine wp_iload_n d_PS_isSign_0 rfl rfl ?_
  refine wp_bipush (v := 32) d_PS_isSign_1 (by rfl) ?_
  refine wp_icmp_lt (tgt := 16) d_PS_isSign_3 (by decide) (fun hc => ?_) (fun hc => ?_)
  · refine wp_iconst (v := 0) d_PS_isSign_16 (by rfl) ?_
    refine wp_ireturn d_PS_isSign_17 rfl (by first | rfl | assumption) ?_
    rw [isSg, decide_eq_false (Int32.not_le.mpr hc)]
    exact ⟨rfl, rfl⟩
  · refine wp_iload_n d_PS_isSign_6 rfl rfl ?_
    refine wp_bipush (v := 126) d_PS_isSign_7 (by rfl) ?_
    refine wp_icmp_gt (tgt := 16) d_PS_isSign_9 (by decide) (fun hc2 => ?_) (fun hc2 => ?_)
    · refine wp_iconst (v := 0) d_PS_isSign_16 (by rfl) ?_
      refine wp_ireturn d_PS_isSign_17 rfl (by first | rfl | assumption) ?_
      rw [isSg, decide_eq_true (Int32.not_lt.mp hc), decide_eq_false (Int32.not_le.mpr hc2)]
      exact ⟨rfl, rfl⟩
    · refine wp_iconst (v := 1) d_PS_isSign_12 (by rfl) ?_
      refine wp_goto (tgt := 17) d_PS_isSign_13 (by decide) ?_
      refine wp_ireturn d_PS_isSign_17 rfl (by first | rfl | assumption) ?_
      rw [isSg, decide_eq_true (Int32.not_lt.mp hc), decide_eq_true (Int32.not_lt.mp hc2)]
      exact ⟨rfl, rfl⟩
def isGr (x : Int32) : Bool := decide (0 ≤ x) && decide (x ≤ 6)
theorem c_PS_isGroup (x : Int32) : wpc E 0 m_PS_isGroup [.int x] h (fun r' h' => r' = some (.int (bI (isGr x))) ∧ h' = h) := by
  refine wpc_of rfl (Nat.le_of_ble_eq_true rfl) ?_
  refine wp_iload_n d_PS_isGroup_0 rfl rfl ?_
  refine wp_if_lt (tgt := 14) d_PS_isGroup_1 (by decide) (fun hc => ?_) (fun hc => ?_)
  · refine wp_iconst (v := 0) d_PS_isGroup_14 (by rfl) ?_
    refine wp_ireturn d_PS_isGroup_15 rfl (by first | rfl | assumption) ?_
    rw [isGr, decide_eq_false (Int32.not_le.mpr hc)]
    exact ⟨rfl, rfl⟩
  · refine wp_iload_n d_PS_isGroup_4 rfl rfl ?_
    refine wp_bipush (v := 6) d_PS_isGroup_5 (by rfl) ?_
    refine wp_icmp_gt (tgt := 14) d_PS_isGroup_7 (by decide) (fun hc2 => ?_) (fun hc2 => ?_)
    · refine wp_iconst (v := 0) d_PS_isGroup_14 (by rfl) ?_
      refine wp_ireturn d_PS_isGroup_15 rfl (by first | rfl | assumption) ?_
      rw [isGr, decide_eq_true (Int32.not_lt.mp hc), decide_eq_false (Int32.not_le.mpr hc2)]
      exact ⟨rfl, rfl⟩
    · refine wp_iconst (v := 1) d_PS_isGroup_10 (by rfl) ?_
      refine wp_goto (tgt := 15) d_PS_isGroup_11 (by decide) ?_
      refine wp_ireturn d_PS_isGroup_15 rfl (by first | rfl | assumption) ?_
      rw [isGr, decide_eq_true (Int32.not_lt.mp hc), decide_eq_true (Int32.not_lt.mp hc2)]
      exact ⟨rfl, rfl⟩
theorem isSg_n {x : Int32} (hx : isSg x = true) : ∃ c : Nat, 32 ≤ c ∧ c ≤ 126 ∧ x = nI c := by
  simp only [isSg, Bool.and_eq_true, decide_eq_true_eq] at hx
  obtain ⟨h1, h2⟩ := hx
  obtain ⟨c, h3, rfl⟩ := nI_of2 (M := 126) (n := 126) rfl (Int32.not_lt.mpr (Int32.le_trans (by decide) h1)) h2
  exact ⟨c, (nI_leI (a := 32) (by decide) (by omega)).mp h1, h3, rfl⟩
theorem c_RE_isPlain (hX : xStr E kA kV) (x : Int32) : wpc E 4 m_RE_isPlain [.int x] h (fun r' h' => r' = some (.int (bI (plainB x))) ∧ h' = h) := by
  refine wpc_of rfl (Nat.le_of_ble_eq_true rfl) ?_
  refine wp_iload_n d_RE_isPlain_0 rfl rfl ?_
  refine wp_callS1 xc_RE_152 d_RE_isPlain_1 (Nat.le_of_ble_eq_true rfl) (c_PS_isSign x) (by omega) (fun r hh hp => ?_)
  obtain ⟨rfl, hz0⟩ := hp; have hz0 := hz0.symm; subst hz0
  refine wp_if_eq (tgt := 21) d_RE_isPlain_4 (by decide) (fun hc => ?_) (fun hc => ?_)
  · rw [bI_0] at hc
    refine wp_iconst (v := 0) d_RE_isPlain_21 (by rfl) ?_
    refine wp_ireturn d_RE_isPlain_22 rfl (by first | rfl | assumption) ?_
    rw [plainB, hc]
    exact ⟨rfl, rfl⟩
  · rw [bI_0] at hc
    have hc := b_t hc
    obtain ⟨c, q1, q2, rfl⟩ := isSg_n hc
    refine wp_ldcS hX.2.1 d_RE_isPlain_7 ?_
    refine wp_iload_n d_RE_isPlain_9 rfl rfl ?_
    refine wp_i2c d_RE_isPlain_10 ?_
    rw [(sb_byte c (by omega)).2.1]
    refine wp_callX (As := [.int (nI c)]) xc_RE_157 ki_JS_indexOf1 ks_JS_indexOf1 d_RE_isPlain_11 rfl rfl (Nat.le_of_ble_eq_true rfl) (hX.1.1 0 (by decide)).1 (c_JS_indexOf1 hX (by decide) (by omega)) (by omega) (fun r hh hp => ?_)
    obtain ⟨⟨v, rfl, hv⟩, hz0⟩ := hp
    have hz0 := hz0.symm; subst hz0
    refine wp_if_ge (tgt := 21) d_RE_isPlain_14 (by decide) (fun hc2 => ?_) (fun hc2 => ?_)
    · refine wp_iconst (v := 0) d_RE_isPlain_21 (by rfl) ?_
      refine wp_ireturn d_RE_isPlain_22 rfl (by first | rfl | assumption) ?_
      rw [plainB, hc, decide_eq_true (hv.mp hc2)]
      exact ⟨rfl, rfl⟩
    · refine wp_iconst (v := 1) d_RE_isPlain_17 (by rfl) ?_
      refine wp_goto (tgt := 22) d_RE_isPlain_18 (by decide) ?_
      refine wp_ireturn d_RE_isPlain_22 rfl (by first | rfl | assumption) ?_
      rw [plainB, hc, decide_eq_false (fun q => hc2 (hv.mpr q))]
      exact ⟨rfl, rfl⟩
theorem c_RE_isItemSign (hX : xStr E kA kV) (x : Int32) : wpc E 4 m_RE_isItemSign [.int x] h (fun r' h' => r' = some (.int (bI (itemB x))) ∧ h' = h) := by
  refine wpc_of rfl (Nat.le_of_ble_eq_true rfl) ?_
  refine wp_iload_n d_RE_isItemSign_0 rfl rfl ?_
  refine wp_callS1 xc_RE_152 d_RE_isItemSign_1 (Nat.le_of_ble_eq_true rfl) (c_PS_isSign x) (by omega) (fun r hh hp => ?_)
  obtain ⟨rfl, hz0⟩ := hp; have hz0 := hz0.symm; subst hz0
  refine wp_if_eq (tgt := 21) d_RE_isItemSign_4 (by decide) (fun hc => ?_) (fun hc => ?_)
  · rw [bI_0] at hc
    refine wp_iconst (v := 0) d_RE_isItemSign_21 (by rfl) ?_
    refine wp_ireturn d_RE_isItemSign_22 rfl (by first | rfl | assumption) ?_
    rw [itemB, hc]
    exact ⟨rfl, rfl⟩
  · rw [bI_0] at hc
    have hc := b_t hc
    obtain ⟨c, q1, q2, rfl⟩ := isSg_n hc
    refine wp_ldcS hX.2.2.1 d_RE_isItemSign_7 ?_
    refine wp_iload_n d_RE_isItemSign_9 rfl rfl ?_
    refine wp_i2c d_RE_isItemSign_10 ?_
    rw [(sb_byte c (by omega)).2.1]
    refine wp_callX (As := [.int (nI c)]) xc_RE_157 ki_JS_indexOf1 ks_JS_indexOf1 d_RE_isItemSign_11 rfl rfl (Nat.le_of_ble_eq_true rfl) (hX.1.1 1 (by decide)).1 (c_JS_indexOf1 hX (by decide) (by omega)) (by omega) (fun r hh hp => ?_)
    obtain ⟨⟨v, rfl, hv⟩, hz0⟩ := hp
    have hz0 := hz0.symm; subst hz0
    refine wp_if_ge (tgt := 21) d_RE_isItemSign_14 (by decide) (fun hc2 => ?_) (fun hc2 => ?_)
    · refine wp_iconst (v := 0) d_RE_isItemSign_21 (by rfl) ?_
      refine wp_ireturn d_RE_isItemSign_22 rfl (by first | rfl | assumption) ?_
      rw [itemB, hc, decide_eq_true (hv.mp hc2)]
      exact ⟨rfl, rfl⟩
    · refine wp_iconst (v := 1) d_RE_isItemSign_17 (by rfl) ?_
      refine wp_goto (tgt := 22) d_RE_isItemSign_18 (by decide) ?_
      refine wp_ireturn d_RE_isItemSign_22 rfl (by first | rfl | assumption) ?_
      rw [itemB, hc, decide_eq_false (fun q => hc2 (hv.mpr q))]
      exact ⟨rfl, rfl⟩
end TS
