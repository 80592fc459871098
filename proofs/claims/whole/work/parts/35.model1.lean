abbrev MA3 : Type := List Int32 × List Int32 × List Int32
abbrev MB : Type := (Nat → Nat) × (Nat → Nat) × (Nat → Bool) × (Nat → Bool) × Nat × Bool × Bool × Nat × Nat
abbrev MC : Type := (Nat → Int32) × (Nat → Int32) × (Nat → Int32) × Nat × (Nat → Nat) × (Nat → Nat) × (Nat → Nat) × (Nat → Nat) × (Nat → Nat) × Nat
abbrev MD : Type := (Nat → Bool) × (Nat → Int32) × (Nat → Int32) × (Nat → Int32) × Bool × Bool
abbrev moO (E : xE) (pl tl ol : Nat) (rd fd : Bool) (ps : Nat) (pe en : Bool) (gr sz st jc : Nat) : va_E := ob 10 [.ref (xb E + 22), .int (nI pl), .ref (xb E + 23), .int (nI tl), .ref (xb E + 24), .int (nI ol), .int (bI rd), .int (bI fd), .ref (xb E + 25), .ref (xb E + 26), .ref (xb E + 27), .ref (xb E + 28), .ref (xb E + 29), .int (nI ps), .int (bI pe), .int (bI en), .int (nI gr), .int (nI sz), .ref (xb E + 30), .ref (xb E + 31), .ref (xb E + 32), .int (nI st), .ref (xb E + 33), .ref (xb E + 34), .ref (xb E + 35), .ref (xb E + 36), .ref (xb E + 37), .int (nI jc), .ref (xb E + 38), .ref (xb E + 39), .ref (xb E + 40)]
def pat (xs : List Int32) (i : Nat) : Int32 := xs.getD i (-1)
def moQ (A : MA3) (fp ft fo : Nat → Int32) : Prop := (∀ k, k < A.1.length → fp k = pat A.1 k) ∧ (∀ k, k < A.2.1.length → ft k = pat A.2.1 k) ∧ (∀ k, k < A.2.2.length → fo k = pat A.2.2 k) ∧ A.1.length ≤ 28 ∧ A.2.1.length ≤ 30 ∧ A.2.2.length ≤ 30
def Mo (E : xE) (h : xH) (A : MA3) (B : MB) (C : MC) (D : MD) : Prop := ∃ fp ft fo : Nat → Int32, moQ A fp ft fo ∧
  h.2.2 (xb E + 21) = some (moO E A.1.length A.2.1.length A.2.2.length D.2.2.2.2.1 D.2.2.2.2.2 B.2.2.2.2.1 B.2.2.2.2.2.1 B.2.2.2.2.2.2.1 B.2.2.2.2.2.2.2.1 B.2.2.2.2.2.2.2.2 C.2.2.2.1 C.2.2.2.2.2.2.2.2.2) ∧
  h.2.2 (xb E + 22) = some (aI E 28 fp) ∧ h.2.2 (xb E + 23) = some (aI E 30 ft) ∧ h.2.2 (xb E + 24) = some (aI E 30 fo) ∧ h.2.2 (xb E + 25) = some (aI E 14 D.2.2.2.1) ∧ h.2.2 (xb E + 26) = some (aI E 8 (fun k => nI (B.1 k))) ∧ h.2.2 (xb E + 27) = some (aI E 8 (fun k => nI (B.2.1 k))) ∧ h.2.2 (xb E + 28) = some (aZ E 8 (fun k => bI (B.2.2.1 k))) ∧ h.2.2 (xb E + 29) = some (aZ E 8 (fun k => bI (B.2.2.2.1 k))) ∧
  h.2.2 (xb E + 30) = some (aI E 130 C.1) ∧ h.2.2 (xb E + 31) = some (aI E 130 C.2.1) ∧ h.2.2 (xb E + 32) = some (aI E 130 C.2.2.1) ∧ h.2.2 (xb E + 33) = some (aI E 8 (fun k => nI (C.2.2.2.2.1 k))) ∧ h.2.2 (xb E + 34) = some (aI E 8 (fun k => nI (C.2.2.2.2.2.1 k))) ∧ h.2.2 (xb E + 35) = some (aI E 8 (fun k => nI (C.2.2.2.2.2.2.1 k))) ∧ h.2.2 (xb E + 36) = some (aI E 8 (fun k => nI (C.2.2.2.2.2.2.2.1 k))) ∧ h.2.2 (xb E + 37) = some (aI E 30 (fun k => nI (C.2.2.2.2.2.2.2.2.1 k))) ∧
  h.2.2 (xb E + 38) = some (aZ E 4030 (fun k => bI (D.1 k))) ∧ h.2.2 (xb E + 39) = some (aI E 4030 D.2.1) ∧ h.2.2 (xb E + 40) = some (aI E 14 D.2.2.1)
def mfr (E : xE) (h h' : xH) : Prop := h'.1 = h.1 ∧ h'.2.1 = h.2.1 ∧ ∀ q : Nat, q < xb E + 21 ∨ xb E + 40 < q → h'.2.2 q = h.2.2 q
theorem mfr.rf {E : xE} {h : xH} : mfr E h h := ⟨rfl, rfl, fun _ _ => rfl⟩
theorem mfr.tr {E : xE} {h h' h'' : xH} (a : mfr E h h') (b : mfr E h' h'') : mfr E h h'' := ⟨b.1.trans a.1, b.2.1.trans a.2.1, fun q hq => (b.2.2 q hq).trans (a.2.2 q hq)⟩
theorem mfr.put {E : xE} {h h' : xH} (a : mfr E h h') {b : Nat} {e : va_E} (hb : xb E + 21 ≤ b ∧ b ≤ xb E + 40) : mfr E h (xput h' b e) := ⟨a.1, a.2.1, fun q hq => by
  rw [← a.2.2 q hq]
  exact xg_ne (by omega) rfl⟩
theorem Mo.len {E : xE} {h : xH} {A : MA3} {B : MB} {C : MC} {D : MD} (hm : Mo E h A B C D) : A.1.length ≤ 28 ∧ A.2.1.length ≤ 30 ∧ A.2.2.length ≤ 30 := by
  obtain ⟨fp, ft, fo, qq, -⟩ := hm
  exact qq.2.2.2
theorem Mo.obj {E : xE} {h : xH} {A : MA3} {B : MB} {C : MC} {D : MD} (hm : Mo E h A B C D) : h.2.2 (xb E + 21) = some (moO E A.1.length A.2.1.length A.2.2.length D.2.2.2.2.1 D.2.2.2.2.2 B.2.2.2.2.1 B.2.2.2.2.2.1 B.2.2.2.2.2.2.1 B.2.2.2.2.2.2.2.1 B.2.2.2.2.2.2.2.2 C.2.2.2.1 C.2.2.2.2.2.2.2.2.2) := by
  obtain ⟨fp, ft, fo, qq, o, -⟩ := hm
  exact o
theorem bI_01 (b : Bool) : bI b = 0 ∨ bI b = 1 := by cases b; exact Or.inl rfl; exact Or.inr rfl
theorem bI_and (a b : Bool) : bI a &&& bI b = bI (a && b) := by cases a <;> cases b <;> decide
theorem bI_or (a b : Bool) : bI a ||| bI b = bI (a || b) := by cases a <;> cases b <;> decide
theorem upd_bI {K : Nat → Bool} {i : Nat} {v : Bool} (hi : i < 2 ^ 31) : upd (fun k => bI (K k)) (nI i).toNatClampNeg (bI v) = fun k => bI (va_up K i v k) := by
  rw [nI_clamp hi]
  funext k
  by_cases hk : k = i
  · subst hk; simp [upd, va_up]
  · simp [upd, va_up, hk]
def isB (x a b c d : Int32) : Bool := decide (x = a) || decide (x = b) || decide (x = c) || decide (x = d)
def inC (x : Int32) : Bool := !isB x 91 93 94 45
def plB (x : Int32) : Bool := !(isB x 46 91 93 94 || isB x 36 124 40 41 || isB x 42 43 63 123) && !decide (x = 125)
def lst (v : Nat) : Nat := if 1000 < v then 1000 else v
theorem lst_le (v : Nat) : lst v ≤ 1000 := by rw [lst]; split <;> omega
def bOR (d : Nat) (B : MB) : MB := (B.1, va_up B.2.1 d 0, va_up B.2.2.1 d true, B.2.2.2)
def bCP (d : Nat) (B : MB) : MB := (B.1, va_up B.2.1 d (lst (B.2.1 d + B.2.2.2.2.1)), va_up B.2.2.1 d (B.2.2.1 d && B.2.2.2.2.2.1), B.2.2.2.1, 0, true, B.2.2.2.2.2.2)
def bRp (t m : Nat) (nn fv : Bool) (B : MB) : MB := (B.1, B.2.1, B.2.2.1, B.2.2.2.1, lst (B.2.2.2.2.1 * t + m), B.2.2.2.2.2.1 || nn, B.2.2.2.2.2.2.1 || (fv && B.2.2.2.2.2.1), B.2.2.2.2.2.2.2)
section M1
variable {E : xE} {h : xH} {A : MA3} {B : MB} {C : MC} {D : MD}
theorem c_MO_is (x a b c d : Int32) : wpc E 0 m_MO_is [.int x, .int a, .int b, .int c, .int d] h (fun r' h' => r' = some (.int (bI (isB x a b c d))) ∧ h' = h) := by
  have fin : isB x a b c d = true → wp E 0 m_MO_is 21 [(0, .int x), (1, .int a), (2, .int b), (3, .int c), (4, .int d)] [] h (fun r' h' => r' = some (.int (bI (isB x a b c d))) ∧ h' = h) := by
    intro hb
    refine wp_iconst (v := 1) d_MO_is_21 (by rfl) ?_
    refine wp_goto (tgt := 26) d_MO_is_22 (by decide) ?_
    refine wp_ireturn d_MO_is_26 rfl (by first | rfl | assumption) ?_
    rw [hb]
    exact ⟨rfl, rfl⟩
  refine wpc_of rfl (Nat.le_of_ble_eq_true rfl) ?_
  refine wp_iload_n d_MO_is_0 rfl rfl ?_
  refine wp_iload_n d_MO_is_1 rfl rfl ?_
  refine wp_icmp_eq (tgt := 21) d_MO_is_2 (by decide) (fun h1 => ?_) (fun h1 => ?_)
  · exact fin (by rw [isB, decide_eq_true h1]; rfl)
  refine wp_iload_n d_MO_is_5 rfl rfl ?_
  refine wp_iload_n d_MO_is_6 rfl rfl ?_
  refine wp_icmp_eq (tgt := 21) d_MO_is_7 (by decide) (fun h2 => ?_) (fun h2 => ?_)
  · exact fin (by rw [isB, decide_eq_true h2]; simp)
  refine wp_iload_n d_MO_is_10 rfl rfl ?_
  refine wp_iload_n d_MO_is_11 rfl rfl ?_
  refine wp_icmp_eq (tgt := 21) d_MO_is_12 (by decide) (fun h3 => ?_) (fun h3 => ?_)
  · exact fin (by rw [isB, decide_eq_true h3]; simp)
  refine wp_iload_n d_MO_is_15 rfl rfl ?_
  refine wp_iload d_MO_is_16 rfl ?_
  refine wp_icmp_ne (tgt := 25) d_MO_is_18 (by decide) (fun h4 => ?_) (fun h4 => ?_)
  · refine wp_iconst (v := 0) d_MO_is_25 (by rfl) ?_
    refine wp_ireturn d_MO_is_26 rfl (by first | rfl | assumption) ?_
    rw [isB, decide_eq_false h1, decide_eq_false h2, decide_eq_false h3, decide_eq_false h4]
    exact ⟨rfl, rfl⟩
  · exact fin (by rw [isB, decide_eq_true h4]; simp)
theorem c_MO_inClass (x : Int32) : wpc E 1 m_MO_inClass [.int x] h (fun r' h' => r' = some (.int (bI (inC x))) ∧ h' = h) := by
  refine wpc_of rfl (Nat.le_of_ble_eq_true rfl) ?_
  refine wp_iload_n d_MO_inClass_0 rfl rfl ?_
  refine wp_bipush (v := 91) d_MO_inClass_1 (by rfl) ?_
  refine wp_bipush (v := 93) d_MO_inClass_3 (by rfl) ?_
  refine wp_bipush (v := 94) d_MO_inClass_5 (by rfl) ?_
  refine wp_bipush (v := 45) d_MO_inClass_7 (by rfl) ?_
  refine wp_callS5 xc_MO_68 d_MO_inClass_9 (Nat.le_of_ble_eq_true rfl) (c_MO_is x 91 93 94 45) (by omega) (fun r hh hp => ?_)
  obtain ⟨rfl, hz0⟩ := hp; have hz0 := hz0.symm; subst hz0
  refine wp_if_ne (tgt := 19) d_MO_inClass_12 (by decide) (fun hc => ?_) (fun hc => ?_)
  · rw [bI_0] at hc
    refine wp_iconst (v := 0) d_MO_inClass_19 (by rfl) ?_
    refine wp_ireturn d_MO_inClass_20 rfl (by first | rfl | assumption) ?_
    rw [inC, b_t hc]
    exact ⟨rfl, rfl⟩
  · rw [bI_0] at hc
    refine wp_iconst (v := 1) d_MO_inClass_15 (by rfl) ?_
    refine wp_goto (tgt := 20) d_MO_inClass_16 (by decide) ?_
    refine wp_ireturn d_MO_inClass_20 rfl (by first | rfl | assumption) ?_
    rw [inC, hc]
    exact ⟨rfl, rfl⟩
theorem c_MO_plain (x : Int32) : wpc E 1 m_MO_plain [.int x] h (fun r' h' => r' = some (.int (bI (plB x))) ∧ h' = h) := by
  have fin : ∀ b : Bool, b = (isB x 46 91 93 94 || isB x 36 124 40 41 || isB x 42 43 63 123) → wp E 1 m_MO_plain 50 [(0, .int x)] [.int (bI b)] h (fun r' h' => r' = some (.int (bI (plB x))) ∧ h' = h) := by
    intro b hb
    refine wp_istore_n d_MO_plain_50 rfl (by decide) rfl ?_
    refine wp_iload_n d_MO_plain_51 rfl rfl ?_
    refine wp_if_ne (tgt := 65) d_MO_plain_52 (by decide) (fun hc => ?_) (fun hc => ?_)
    · rw [bI_0] at hc
      refine wp_iconst (v := 0) d_MO_plain_65 (by rfl) ?_
      refine wp_ireturn d_MO_plain_66 rfl (by first | rfl | assumption) ?_
      rw [plB, ← hb, b_t hc]
      exact ⟨rfl, rfl⟩
    · rw [bI_0] at hc
      refine wp_iload_n d_MO_plain_55 rfl rfl ?_
      refine wp_bipush (v := 125) d_MO_plain_56 (by rfl) ?_
      refine wp_icmp_eq (tgt := 65) d_MO_plain_58 (by decide) (fun hc2 => ?_) (fun hc2 => ?_)
      · refine wp_iconst (v := 0) d_MO_plain_65 (by rfl) ?_
        refine wp_ireturn d_MO_plain_66 rfl (by first | rfl | assumption) ?_
        rw [plB, decide_eq_true hc2, Bool.not_true, Bool.and_false]
        exact ⟨rfl, rfl⟩
      · refine wp_iconst (v := 1) d_MO_plain_61 (by rfl) ?_
        refine wp_goto (tgt := 66) d_MO_plain_62 (by decide) ?_
        refine wp_ireturn d_MO_plain_66 rfl (by first | rfl | assumption) ?_
        rw [plB, ← hb, hc, decide_eq_false hc2]
        exact ⟨rfl, rfl⟩
  refine wpc_of rfl (Nat.le_of_ble_eq_true rfl) ?_
  refine wp_iload_n d_MO_plain_0 rfl rfl ?_
  refine wp_bipush (v := 46) d_MO_plain_1 (by rfl) ?_
  refine wp_bipush (v := 91) d_MO_plain_3 (by rfl) ?_
  refine wp_bipush (v := 93) d_MO_plain_5 (by rfl) ?_
  refine wp_bipush (v := 94) d_MO_plain_7 (by rfl) ?_
  refine wp_callS5 xc_MO_68 d_MO_plain_9 (Nat.le_of_ble_eq_true rfl) (c_MO_is x 46 91 93 94) (by omega) (fun r hh hp => ?_)
  obtain ⟨rfl, hz0⟩ := hp; have hz0 := hz0.symm; subst hz0
  refine wp_if_ne (tgt := 45) d_MO_plain_12 (by decide) (fun hc => ?_) (fun hc => ?_)
  · rw [bI_0] at hc
    refine wp_iconst (v := 1) d_MO_plain_45 (by rfl) ?_
    refine wp_goto (tgt := 50) d_MO_plain_46 (by decide) ?_
    exact fin true (by rw [b_t hc]; rfl)
  · rw [bI_0] at hc
    refine wp_iload_n d_MO_plain_15 rfl rfl ?_
    refine wp_bipush (v := 36) d_MO_plain_16 (by rfl) ?_
    refine wp_bipush (v := 124) d_MO_plain_18 (by rfl) ?_
    refine wp_bipush (v := 40) d_MO_plain_20 (by rfl) ?_
    refine wp_bipush (v := 41) d_MO_plain_22 (by rfl) ?_
    refine wp_callS5 xc_MO_68 d_MO_plain_24 (Nat.le_of_ble_eq_true rfl) (c_MO_is x 36 124 40 41) (by omega) (fun r hh hp => ?_)
    obtain ⟨rfl, hz0⟩ := hp; have hz0 := hz0.symm; subst hz0
    refine wp_if_ne (tgt := 45) d_MO_plain_27 (by decide) (fun hc2 => ?_) (fun hc2 => ?_)
    · rw [bI_0] at hc2
      refine wp_iconst (v := 1) d_MO_plain_45 (by rfl) ?_
      refine wp_goto (tgt := 50) d_MO_plain_46 (by decide) ?_
      exact fin true (by rw [b_t hc2, hc]; rfl)
    · rw [bI_0] at hc2
      refine wp_iload_n d_MO_plain_30 rfl rfl ?_
      refine wp_bipush (v := 42) d_MO_plain_31 (by rfl) ?_
      refine wp_bipush (v := 43) d_MO_plain_33 (by rfl) ?_
      refine wp_bipush (v := 63) d_MO_plain_35 (by rfl) ?_
      refine wp_bipush (v := 123) d_MO_plain_37 (by rfl) ?_
      refine wp_callS5 xc_MO_68 d_MO_plain_39 (Nat.le_of_ble_eq_true rfl) (c_MO_is x 42 43 63 123) (by omega) (fun r hh hp => ?_)
      obtain ⟨rfl, hz0⟩ := hp; have hz0 := hz0.symm; subst hz0
      refine wp_if_eq (tgt := 49) d_MO_plain_42 (by decide) (fun hc3 => ?_) (fun hc3 => ?_)
      · rw [bI_0] at hc3
        refine wp_iconst (v := 0) d_MO_plain_49 (by rfl) ?_
        exact fin false (by rw [hc, hc2, hc3]; rfl)
      · rw [bI_0] at hc3
        refine wp_iconst (v := 1) d_MO_plain_45 (by rfl) ?_
        refine wp_goto (tgt := 50) d_MO_plain_46 (by decide) ?_
        exact fin true (by rw [hc, hc2, b_t hc3]; rfl)
theorem c_MO_least {v : Nat} (hv : v < 100000) : wpc E 0 m_MO_least [.int (nI v)] h (fun r' h' => r' = some (.int (nI (lst v))) ∧ h' = h) := by
  refine wpc_of rfl (Nat.le_of_ble_eq_true rfl) ?_
  refine wp_iload_n d_MO_least_0 rfl rfl ?_
  refine wp_sipush (v := 1000) d_MO_least_1 (by rfl) ?_
  refine wp_icmp_le (tgt := 13) d_MO_least_4 (by decide) (fun hc => ?_) (fun hc => ?_)
  · have hc := (nI_leI (a := v) (b := 1000) (by omega) (by omega)).mp hc
    refine wp_iload_n d_MO_least_13 rfl rfl ?_
    refine wp_ireturn d_MO_least_14 rfl (by first | rfl | assumption) ?_
    rw [lst, if_neg (by omega)]
    exact ⟨rfl, rfl⟩
  · have hc : ¬ v ≤ 1000 := fun z => hc ((nI_leI (a := v) (b := 1000) (by omega) (by omega)).mpr z)
    refine wp_sipush (v := 1000) d_MO_least_7 (by rfl) ?_
    refine wp_goto (tgt := 14) d_MO_least_10 (by decide) ?_
    refine wp_ireturn d_MO_least_14 rfl (by first | rfl | assumption) ?_
    rw [lst, if_pos (by omega)]
    exact ⟨rfl, rfl⟩
theorem c_MO_at (hE : xOK E) (hm : Mo E h A B C D) {i : Nat} (hi : i < 100000) : wpc E 0 m_MO_at [.ref (xb E + 21), .int (nI i)] h (fun r' h' => r' = some (.int (pat A.1 i)) ∧ h' = h) := by
  have hl := hm.len
  obtain ⟨fp, ft, fo, qq, o21, a22, a23, a24, a25, a26, a27, a28, a29, a30, a31, a32, a33, a34, a35, a36, a37, a38, a39, a40⟩ := hm
  refine wpc_of rfl (Nat.le_of_ble_eq_true rfl) ?_
  refine wp_iload_n d_MO_at_0 rfl rfl ?_
  refine wp_aload_n d_MO_at_1 rfl rfl ?_
  refine wp_get xf_MO_72 d_MO_at_2 (by repeat first | assumption | exact xg_eq | exact xn_eq (by first | rfl | omega) | refine xg_ne (by first | assumption | omega | (simp only [xput, xnew]; omega)) ?_ | refine xn_ne (by first | assumption | omega | (simp only [xput, xnew]; omega)) ?_ | exact rfl) (by rfl) ?_
  refine wp_icmp_ge (tgt := 17) d_MO_at_5 (by decide) (fun hc => ?_) (fun hc => ?_)
  · have hc := (nI_leI (by omega) (by omega)).mp hc
    refine wp_iconst (v := (-1)) d_MO_at_17 (by rfl) ?_
    refine wp_ireturn d_MO_at_18 rfl (by first | rfl | assumption) ?_
    rw [pat, List.getD_eq_getElem?_getD, List.getElem?_eq_none hc]
    exact ⟨rfl, rfl⟩
  · have hc : ¬ A.1.length ≤ i := fun z => hc ((nI_leI (by omega) (by omega)).mpr z)
    refine wp_aload_n d_MO_at_8 rfl rfl ?_
    refine wp_get xf_MO_7 d_MO_at_9 (by repeat first | assumption | exact xg_eq | exact xn_eq (by first | rfl | omega) | refine xg_ne (by first | assumption | omega | (simp only [xput, xnew]; omega)) ?_ | refine xn_ne (by first | assumption | omega | (simp only [xput, xnew]; omega)) ?_ | exact rfl) (by rfl) ?_
    refine wp_iload_n d_MO_at_12 rfl rfl ?_
    refine wp_iald d_MO_at_13 (by repeat first | assumption | exact xg_eq | exact xn_eq (by first | rfl | omega) | refine xg_ne (by first | assumption | omega | (simp only [xput, xnew]; omega)) ?_ | refine xn_ne (by first | assumption | omega | (simp only [xput, xnew]; omega)) ?_ | exact rfl) hE.i (vp_in_nI (by omega) (by omega)) ?_
    rw [nI_clamp (by omega), qq.1 i (by omega)]
    refine wp_goto (tgt := 18) d_MO_at_14 (by decide) ?_
    refine wp_ireturn d_MO_at_18 rfl (by first | rfl | assumption) ?_
    exact ⟨rfl, rfl⟩
theorem c_MO_openRow (hE : xOK E) (hm : Mo E h A B C D) {d : Nat} (hd : d ≤ 7) : wpc E 0 m_MO_openRow [.ref (xb E + 21), .int (nI d)] h (fun r' h' => r' = none ∧ mfr E h h' ∧ Mo E h' A (bOR d B) C D) := by
  obtain ⟨fp, ft, fo, qq, o21, a22, a23, a24, a25, a26, a27, a28, a29, a30, a31, a32, a33, a34, a35, a36, a37, a38, a39, a40⟩ := hm
  refine wpc_of rfl (Nat.le_of_ble_eq_true rfl) ?_
  refine wp_aload_n d_MO_openRow_0 rfl rfl ?_
  refine wp_get xf_MO_25 d_MO_openRow_1 (by repeat first | assumption | exact xg_eq | exact xn_eq (by first | rfl | omega) | refine xg_ne (by first | assumption | omega | (simp only [xput, xnew]; omega)) ?_ | refine xn_ne (by first | assumption | omega | (simp only [xput, xnew]; omega)) ?_ | exact rfl) (by rfl) ?_
  refine wp_iload_n d_MO_openRow_4 rfl rfl ?_
  refine wp_iconst (v := 0) d_MO_openRow_5 (by rfl) ?_
  refine wp_iast d_MO_openRow_6 (by repeat first | assumption | exact xg_eq | exact xn_eq (by first | rfl | omega) | refine xg_ne (by first | assumption | omega | (simp only [xput, xnew]; omega)) ?_ | refine xn_ne (by first | assumption | omega | (simp only [xput, xnew]; omega)) ?_ | exact rfl) hE.i (vp_in_nI (by omega) (by omega)) ?_
  rw [show (0 : Int32) = nI 0 from rfl, upd_nI (by omega)]
  refine wp_aload_n d_MO_openRow_7 rfl rfl ?_
  refine wp_get xf_MO_28 d_MO_openRow_8 (by repeat first | assumption | exact xg_eq | exact xn_eq (by first | rfl | omega) | refine xg_ne (by first | assumption | omega | (simp only [xput, xnew]; omega)) ?_ | refine xn_ne (by first | assumption | omega | (simp only [xput, xnew]; omega)) ?_ | exact rfl) (by rfl) ?_
  refine wp_iload_n d_MO_openRow_11 rfl rfl ?_
  refine wp_iconst (v := 1) d_MO_openRow_12 (by rfl) ?_
  refine wp_zast d_MO_openRow_13 (by repeat first | assumption | exact xg_eq | exact xn_eq (by first | rfl | omega) | refine xg_ne (by first | assumption | omega | (simp only [xput, xnew]; omega)) ?_ | refine xn_ne (by first | assumption | omega | (simp only [xput, xnew]; omega)) ?_ | exact rfl) hE.z (vp_in_nI (by omega) (by omega)) (by first | exact bI_01 _ | exact Or.inl rfl | exact Or.inr rfl | assumption) ?_
  rw [show (1 : Int32) = bI true from rfl, upd_bI (by omega)]
  refine wp_return d_MO_openRow_14 rfl ?_
  exact ⟨rfl, (mfr.rf.put (by omega)).put (by omega), ⟨fp, ft, fo, qq, (by first | (repeat (refine xg_ne (by omega) ?_)); first | exact xg_eq | exact o21), (by first | (repeat (refine xg_ne (by omega) ?_)); first | exact xg_eq | exact a22), (by first | (repeat (refine xg_ne (by omega) ?_)); first | exact xg_eq | exact a23), (by first | (repeat (refine xg_ne (by omega) ?_)); first | exact xg_eq | exact a24), (by first | (repeat (refine xg_ne (by omega) ?_)); first | exact xg_eq | exact a25), (by first | (repeat (refine xg_ne (by omega) ?_)); first | exact xg_eq | exact a26), (by first | (repeat (refine xg_ne (by omega) ?_)); first | exact xg_eq | exact a27), (by first | (repeat (refine xg_ne (by omega) ?_)); first | exact xg_eq | exact a28), (by first | (repeat (refine xg_ne (by omega) ?_)); first | exact xg_eq | exact a29), (by first | (repeat (refine xg_ne (by omega) ?_)); first | exact xg_eq | exact a30), (by first | (repeat (refine xg_ne (by omega) ?_)); first | exact xg_eq | exact a31), (by first | (repeat (refine xg_ne (by omega) ?_)); first | exact xg_eq | exact a32), (by first | (repeat (refine xg_ne (by omega) ?_)); first | exact xg_eq | exact a33), (by first | (repeat (refine xg_ne (by omega) ?_)); first | exact xg_eq | exact a34), (by first | (repeat (refine xg_ne (by omega) ?_)); first | exact xg_eq | exact a35), (by first | (repeat (refine xg_ne (by omega) ?_)); first | exact xg_eq | exact a36), (by first | (repeat (refine xg_ne (by omega) ?_)); first | exact xg_eq | exact a37), (by first | (repeat (refine xg_ne (by omega) ?_)); first | exact xg_eq | exact a38), (by first | (repeat (refine xg_ne (by omega) ?_)); first | exact xg_eq | exact a39), (by first | (repeat (refine xg_ne (by omega) ?_)); first | exact xg_eq | exact a40)⟩⟩
theorem c_MO_closePiece (hE : xOK E) (hm : Mo E h A B C D) {d : Nat} (hd : d ≤ 7) (h1 : B.2.1 d ≤ 1000) (h2 : B.2.2.2.2.1 ≤ 1000) : wpc E 1 m_MO_closePiece [.ref (xb E + 21), .int (nI d)] h (fun r' h' => r' = none ∧ mfr E h h' ∧ Mo E h' A (bCP d B) C D) := by
  obtain ⟨fp, ft, fo, qq, o21, a22, a23, a24, a25, a26, a27, a28, a29, a30, a31, a32, a33, a34, a35, a36, a37, a38, a39, a40⟩ := hm
  refine wpc_of rfl (Nat.le_of_ble_eq_true rfl) ?_
  refine wp_aload_n d_MO_closePiece_0 rfl rfl ?_
  refine wp_get xf_MO_25 d_MO_closePiece_1 (by repeat first | assumption | exact xg_eq | exact xn_eq (by first | rfl | omega) | refine xg_ne (by first | assumption | omega | (simp only [xput, xnew]; omega)) ?_ | refine xn_ne (by first | assumption | omega | (simp only [xput, xnew]; omega)) ?_ | exact rfl) (by rfl) ?_
  refine wp_iload_n d_MO_closePiece_4 rfl rfl ?_
  refine wp_aload_n d_MO_closePiece_5 rfl rfl ?_
  refine wp_get xf_MO_25 d_MO_closePiece_6 (by repeat first | assumption | exact xg_eq | exact xn_eq (by first | rfl | omega) | refine xg_ne (by first | assumption | omega | (simp only [xput, xnew]; omega)) ?_ | refine xn_ne (by first | assumption | omega | (simp only [xput, xnew]; omega)) ?_ | exact rfl) (by rfl) ?_
  refine wp_iload_n d_MO_closePiece_9 rfl rfl ?_
  refine wp_iald d_MO_closePiece_10 (by repeat first | assumption | exact xg_eq | exact xn_eq (by first | rfl | omega) | refine xg_ne (by first | assumption | omega | (simp only [xput, xnew]; omega)) ?_ | refine xn_ne (by first | assumption | omega | (simp only [xput, xnew]; omega)) ?_ | exact rfl) hE.i (vp_in_nI (by omega) (by omega)) ?_
  rw [nI_clamp (by omega)]
  refine wp_aload_n d_MO_closePiece_11 rfl rfl ?_
  refine wp_get xf_MO_76 d_MO_closePiece_12 (by repeat first | assumption | exact xg_eq | exact xn_eq (by first | rfl | omega) | refine xg_ne (by first | assumption | omega | (simp only [xput, xnew]; omega)) ?_ | refine xn_ne (by first | assumption | omega | (simp only [xput, xnew]; omega)) ?_ | exact rfl) (by rfl) ?_
  refine wp_iadd d_MO_closePiece_15 ?_
  rw [nI_add]
  refine wp_callS1 xc_MO_79 d_MO_closePiece_16 (Nat.le_of_ble_eq_true rfl) (c_MO_least (by omega)) (by omega) (fun r hh hp => ?_)
  obtain ⟨rfl, hz0⟩ := hp; have hz0 := hz0.symm; subst hz0
  refine wp_iast d_MO_closePiece_19 (by repeat first | assumption | exact xg_eq | exact xn_eq (by first | rfl | omega) | refine xg_ne (by first | assumption | omega | (simp only [xput, xnew]; omega)) ?_ | refine xn_ne (by first | assumption | omega | (simp only [xput, xnew]; omega)) ?_ | exact rfl) hE.i (vp_in_nI (by omega) (by omega)) ?_
  rw [upd_nI (by omega)]
  refine wp_aload_n d_MO_closePiece_20 rfl rfl ?_
  refine wp_get xf_MO_28 d_MO_closePiece_21 (by repeat first | assumption | exact xg_eq | exact xn_eq (by first | rfl | omega) | refine xg_ne (by first | assumption | omega | (simp only [xput, xnew]; omega)) ?_ | refine xn_ne (by first | assumption | omega | (simp only [xput, xnew]; omega)) ?_ | exact rfl) (by rfl) ?_
  refine wp_iload_n d_MO_closePiece_24 rfl rfl ?_
  refine wp_dup2 d_MO_closePiece_25 rfl rfl ?_
  refine wp_zald d_MO_closePiece_26 (by repeat first | assumption | exact xg_eq | exact xn_eq (by first | rfl | omega) | refine xg_ne (by first | assumption | omega | (simp only [xput, xnew]; omega)) ?_ | refine xn_ne (by first | assumption | omega | (simp only [xput, xnew]; omega)) ?_ | exact rfl) hE.z (vp_in_nI (by omega) (by omega)) ?_
  rw [nI_clamp (by omega)]
  refine wp_aload_n d_MO_closePiece_27 rfl rfl ?_
  refine wp_get xf_MO_83 d_MO_closePiece_28 (by repeat first | assumption | exact xg_eq | exact xn_eq (by first | rfl | omega) | refine xg_ne (by first | assumption | omega | (simp only [xput, xnew]; omega)) ?_ | refine xn_ne (by first | assumption | omega | (simp only [xput, xnew]; omega)) ?_ | exact rfl) (by rfl) ?_
  refine wp_iand d_MO_closePiece_31 ?_
  rw [bI_and]
  refine wp_zast d_MO_closePiece_32 (by repeat first | assumption | exact xg_eq | exact xn_eq (by first | rfl | omega) | refine xg_ne (by first | assumption | omega | (simp only [xput, xnew]; omega)) ?_ | refine xn_ne (by first | assumption | omega | (simp only [xput, xnew]; omega)) ?_ | exact rfl) hE.z (vp_in_nI (by omega) (by omega)) (by first | exact bI_01 _ | exact Or.inl rfl | exact Or.inr rfl | assumption) ?_
  rw [upd_bI (by omega)]
  refine wp_aload_n d_MO_closePiece_33 rfl rfl ?_
  refine wp_iconst (v := 0) d_MO_closePiece_34 (by rfl) ?_
  refine wp_put xf_MO_76 xg_MO (Or.inl rfl) d_MO_closePiece_35 (by repeat first | assumption | exact xg_eq | exact xn_eq (by first | rfl | omega) | refine xg_ne (by first | assumption | omega | (simp only [xput, xnew]; omega)) ?_ | refine xn_ne (by first | assumption | omega | (simp only [xput, xnew]; omega)) ?_ | exact rfl) (by first | rfl | assumption | exact bI_z _) (by first | rfl | assumption | exact bI_f _) (Nat.le_of_ble_eq_true rfl) ?_
  refine wp_aload_n d_MO_closePiece_38 rfl rfl ?_
  refine wp_iconst (v := 1) d_MO_closePiece_39 (by rfl) ?_
  refine wp_put xf_MO_83 xg_MO (Or.inl rfl) d_MO_closePiece_40 (by repeat first | assumption | exact xg_eq | exact xn_eq (by first | rfl | omega) | refine xg_ne (by first | assumption | omega | (simp only [xput, xnew]; omega)) ?_ | refine xn_ne (by first | assumption | omega | (simp only [xput, xnew]; omega)) ?_ | exact rfl) (by first | rfl | assumption | exact bI_z _) (by first | rfl | assumption | exact bI_f _) (Nat.le_of_ble_eq_true rfl) ?_
  refine wp_return d_MO_closePiece_43 rfl ?_
  exact ⟨rfl, (((mfr.rf.put (by omega)).put (by omega)).put (by omega)).put (by omega), ⟨fp, ft, fo, qq, (by first | (repeat (refine xg_ne (by omega) ?_)); first | exact xg_eq | exact o21), (by first | (repeat (refine xg_ne (by omega) ?_)); first | exact xg_eq | exact a22), (by first | (repeat (refine xg_ne (by omega) ?_)); first | exact xg_eq | exact a23), (by first | (repeat (refine xg_ne (by omega) ?_)); first | exact xg_eq | exact a24), (by first | (repeat (refine xg_ne (by omega) ?_)); first | exact xg_eq | exact a25), (by first | (repeat (refine xg_ne (by omega) ?_)); first | exact xg_eq | exact a26), (by first | (repeat (refine xg_ne (by omega) ?_)); first | exact xg_eq | exact a27), (by first | (repeat (refine xg_ne (by omega) ?_)); first | exact xg_eq | exact a28), (by first | (repeat (refine xg_ne (by omega) ?_)); first | exact xg_eq | exact a29), (by first | (repeat (refine xg_ne (by omega) ?_)); first | exact xg_eq | exact a30), (by first | (repeat (refine xg_ne (by omega) ?_)); first | exact xg_eq | exact a31), (by first | (repeat (refine xg_ne (by omega) ?_)); first | exact xg_eq | exact a32), (by first | (repeat (refine xg_ne (by omega) ?_)); first | exact xg_eq | exact a33), (by first | (repeat (refine xg_ne (by omega) ?_)); first | exact xg_eq | exact a34), (by first | (repeat (refine xg_ne (by omega) ?_)); first | exact xg_eq | exact a35), (by first | (repeat (refine xg_ne (by omega) ?_)); first | exact xg_eq | exact a36), (by first | (repeat (refine xg_ne (by omega) ?_)); first | exact xg_eq | exact a37), (by first | (repeat (refine xg_ne (by omega) ?_)); first | exact xg_eq | exact a38), (by first | (repeat (refine xg_ne (by omega) ?_)); first | exact xg_eq | exact a39), (by first | (repeat (refine xg_ne (by omega) ?_)); first | exact xg_eq | exact a40)⟩⟩
theorem c_MO_repeat (hE : xOK E) (hm : Mo E h A B C D) {t m : Nat} {nn fv : Bool} (h1 : t ≤ 6) (h2 : m ≤ 100) (h3 : B.2.2.2.2.1 ≤ 1000) : wpc E 1 m_MO_repeat [.ref (xb E + 21), .int (nI t), .int (nI m), .int (bI nn), .int (bI fv)] h (fun r' h' => r' = none ∧ mfr E h h' ∧ Mo E h' A (bRp t m nn fv B) C D) := by
  have hmul : B.2.2.2.2.1 * t ≤ 6000 := Nat.le_trans (Nat.mul_le_mul h3 h1) (Nat.le_refl _)
  have hm1 : ∀ en : Bool, en = (B.2.2.2.2.2.2.1 || (fv && B.2.2.2.2.2.1)) → ∀ h1 : xH, mfr E h h1 → Mo E h1 A (B.1, B.2.1, B.2.2.1, B.2.2.2.1, B.2.2.2.2.1, B.2.2.2.2.2.1, en, B.2.2.2.2.2.2.2) C D → wp E 1 m_MO_repeat 17 [(0, .ref (xb E + 21)), (1, .int (nI t)), (2, .int (nI m)), (3, .int (bI nn)), (4, .int (bI fv))] [] h1 (fun r' h' => r' = none ∧ mfr E h h' ∧ Mo E h' A (bRp t m nn fv B) C D) := by
    intro en he h1 f1 hm1
    subst he
    obtain ⟨fp, ft, fo, qq, o21, a22, a23, a24, a25, a26, a27, a28, a29, a30, a31, a32, a33, a34, a35, a36, a37, a38, a39, a40⟩ := hm1
    refine wp_aload_n d_MO_repeat_17 rfl rfl ?_
    refine wp_aload_n d_MO_repeat_18 rfl rfl ?_
    refine wp_get xf_MO_76 d_MO_repeat_19 (by repeat first | assumption | exact xg_eq | exact xn_eq (by first | rfl | omega) | refine xg_ne (by first | assumption | omega | (simp only [xput, xnew]; omega)) ?_ | refine xn_ne (by first | assumption | omega | (simp only [xput, xnew]; omega)) ?_ | exact rfl) (by rfl) ?_
    refine wp_iload_n d_MO_repeat_22 rfl rfl ?_
    refine wp_imul d_MO_repeat_23 ?_
    refine wp_iload_n d_MO_repeat_24 rfl rfl ?_
    refine wp_iadd d_MO_repeat_25 ?_
    rw [pk_mul, nI_add]
    refine wp_callS1 xc_MO_79 d_MO_repeat_26 (Nat.le_of_ble_eq_true rfl) (c_MO_least (by show B.2.2.2.2.1 * t + m < _; omega)) (by omega) (fun r hh hp => ?_)
    obtain ⟨rfl, hz0⟩ := hp; have hz0 := hz0.symm; subst hz0
    refine wp_put xf_MO_76 xg_MO (Or.inl rfl) d_MO_repeat_29 (by repeat first | assumption | exact xg_eq | exact xn_eq (by first | rfl | omega) | refine xg_ne (by first | assumption | omega | (simp only [xput, xnew]; omega)) ?_ | refine xn_ne (by first | assumption | omega | (simp only [xput, xnew]; omega)) ?_ | exact rfl) (by first | rfl | assumption | exact bI_z _) (by first | rfl | assumption | exact bI_f _) (Nat.le_of_ble_eq_true rfl) ?_
    refine wp_aload_n d_MO_repeat_32 rfl rfl ?_
    refine wp_dup d_MO_repeat_33 rfl ?_
    refine wp_get xf_MO_83 d_MO_repeat_34 (by repeat first | assumption | exact xg_eq | exact xn_eq (by first | rfl | omega) | refine xg_ne (by first | assumption | omega | (simp only [xput, xnew]; omega)) ?_ | refine xn_ne (by first | assumption | omega | (simp only [xput, xnew]; omega)) ?_ | exact rfl) (by rfl) ?_
    refine wp_iload_n d_MO_repeat_37 rfl rfl ?_
    refine wp_ior d_MO_repeat_38 ?_
    rw [bI_or]
    refine wp_put xf_MO_83 xg_MO (Or.inl rfl) d_MO_repeat_39 (by repeat first | assumption | exact xg_eq | exact xn_eq (by first | rfl | omega) | refine xg_ne (by first | assumption | omega | (simp only [xput, xnew]; omega)) ?_ | refine xn_ne (by first | assumption | omega | (simp only [xput, xnew]; omega)) ?_ | exact rfl) (by first | rfl | assumption | exact bI_z _) (by first | rfl | assumption | exact bI_f _) (Nat.le_of_ble_eq_true rfl) ?_
    refine wp_return d_MO_repeat_42 rfl ?_
    exact ⟨rfl, (f1.put (by omega)).put (by omega), ⟨fp, ft, fo, qq, (by first | (repeat (refine xg_ne (by omega) ?_)); first | exact xg_eq | exact o21), (by first | (repeat (refine xg_ne (by omega) ?_)); first | exact xg_eq | exact a22), (by first | (repeat (refine xg_ne (by omega) ?_)); first | exact xg_eq | exact a23), (by first | (repeat (refine xg_ne (by omega) ?_)); first | exact xg_eq | exact a24), (by first | (repeat (refine xg_ne (by omega) ?_)); first | exact xg_eq | exact a25), (by first | (repeat (refine xg_ne (by omega) ?_)); first | exact xg_eq | exact a26), (by first | (repeat (refine xg_ne (by omega) ?_)); first | exact xg_eq | exact a27), (by first | (repeat (refine xg_ne (by omega) ?_)); first | exact xg_eq | exact a28), (by first | (repeat (refine xg_ne (by omega) ?_)); first | exact xg_eq | exact a29), (by first | (repeat (refine xg_ne (by omega) ?_)); first | exact xg_eq | exact a30), (by first | (repeat (refine xg_ne (by omega) ?_)); first | exact xg_eq | exact a31), (by first | (repeat (refine xg_ne (by omega) ?_)); first | exact xg_eq | exact a32), (by first | (repeat (refine xg_ne (by omega) ?_)); first | exact xg_eq | exact a33), (by first | (repeat (refine xg_ne (by omega) ?_)); first | exact xg_eq | exact a34), (by first | (repeat (refine xg_ne (by omega) ?_)); first | exact xg_eq | exact a35), (by first | (repeat (refine xg_ne (by omega) ?_)); first | exact xg_eq | exact a36), (by first | (repeat (refine xg_ne (by omega) ?_)); first | exact xg_eq | exact a37), (by first | (repeat (refine xg_ne (by omega) ?_)); first | exact xg_eq | exact a38), (by first | (repeat (refine xg_ne (by omega) ?_)); first | exact xg_eq | exact a39), (by first | (repeat (refine xg_ne (by omega) ?_)); first | exact xg_eq | exact a40)⟩⟩
  obtain ⟨fp, ft, fo, qq, o21, a22, a23, a24, a25, a26, a27, a28, a29, a30, a31, a32, a33, a34, a35, a36, a37, a38, a39, a40⟩ := id hm
  refine wpc_of rfl (Nat.le_of_ble_eq_true rfl) ?_
  refine wp_iload d_MO_repeat_0 rfl ?_
  refine wp_if_eq (tgt := 17) d_MO_repeat_2 (by decide) (fun hc => ?_) (fun hc => ?_)
  · rw [bI_0] at hc
    exact hm1 _ (by rw [hc]; simp) h mfr.rf hm
  · rw [bI_0] at hc
    refine wp_aload_n d_MO_repeat_5 rfl rfl ?_
    refine wp_get xf_MO_83 d_MO_repeat_6 (by repeat first | assumption | exact xg_eq | exact xn_eq (by first | rfl | omega) | refine xg_ne (by first | assumption | omega | (simp only [xput, xnew]; omega)) ?_ | refine xn_ne (by first | assumption | omega | (simp only [xput, xnew]; omega)) ?_ | exact rfl) (by rfl) ?_
    refine wp_if_eq (tgt := 17) d_MO_repeat_9 (by decide) (fun hc2 => ?_) (fun hc2 => ?_)
    · rw [bI_0] at hc2
      exact hm1 _ (by rw [hc2]; simp) h mfr.rf hm
    · rw [bI_0] at hc2
      refine wp_aload_n d_MO_repeat_12 rfl rfl ?_
      refine wp_iconst (v := 1) d_MO_repeat_13 (by rfl) ?_
      refine wp_put xf_MO_87 xg_MO (Or.inl rfl) d_MO_repeat_14 (by repeat first | assumption | exact xg_eq | exact xn_eq (by first | rfl | omega) | refine xg_ne (by first | assumption | omega | (simp only [xput, xnew]; omega)) ?_ | refine xn_ne (by first | assumption | omega | (simp only [xput, xnew]; omega)) ?_ | exact rfl) (by first | rfl | assumption | exact bI_z _) (by first | rfl | assumption | exact bI_f _) (Nat.le_of_ble_eq_true rfl) ?_
      exact hm1 true (by rw [b_t hc, b_t hc2]; simp) _ (mfr.rf.put (by omega)) ⟨fp, ft, fo, qq, (by first | (repeat (refine xg_ne (by omega) ?_)); first | exact xg_eq | exact o21), (by first | (repeat (refine xg_ne (by omega) ?_)); first | exact xg_eq | exact a22), (by first | (repeat (refine xg_ne (by omega) ?_)); first | exact xg_eq | exact a23), (by first | (repeat (refine xg_ne (by omega) ?_)); first | exact xg_eq | exact a24), (by first | (repeat (refine xg_ne (by omega) ?_)); first | exact xg_eq | exact a25), (by first | (repeat (refine xg_ne (by omega) ?_)); first | exact xg_eq | exact a26), (by first | (repeat (refine xg_ne (by omega) ?_)); first | exact xg_eq | exact a27), (by first | (repeat (refine xg_ne (by omega) ?_)); first | exact xg_eq | exact a28), (by first | (repeat (refine xg_ne (by omega) ?_)); first | exact xg_eq | exact a29), (by first | (repeat (refine xg_ne (by omega) ?_)); first | exact xg_eq | exact a30), (by first | (repeat (refine xg_ne (by omega) ?_)); first | exact xg_eq | exact a31), (by first | (repeat (refine xg_ne (by omega) ?_)); first | exact xg_eq | exact a32), (by first | (repeat (refine xg_ne (by omega) ?_)); first | exact xg_eq | exact a33), (by first | (repeat (refine xg_ne (by omega) ?_)); first | exact xg_eq | exact a34), (by first | (repeat (refine xg_ne (by omega) ?_)); first | exact xg_eq | exact a35), (by first | (repeat (refine xg_ne (by omega) ?_)); first | exact xg_eq | exact a36), (by first | (repeat (refine xg_ne (by omega) ?_)); first | exact xg_eq | exact a37), (by first | (repeat (refine xg_ne (by omega) ?_)); first | exact xg_eq | exact a38), (by first | (repeat (refine xg_ne (by omega) ?_)); first | exact xg_eq | exact a39), (by first | (repeat (refine xg_ne (by omega) ?_)); first | exact xg_eq | exact a40)⟩
end M1
