theorem lst_min (v : Nat) : lst v = min v 1000 := by rw [lst]; split <;> omega
theorem lst_add {a b : Nat} (c : Nat) (h : lst a = lst b) : lst (c + a) = lst (c + b) := by simp only [lst_min] at h ⊢; omega
theorem lst_lst (a b : Nat) : lst (a + lst b) = lst (a + b) := by simp only [lst_min]; omega
theorem lst_id (a : Nat) : lst (lst a) = lst a := by simp only [lst_min]; omega
theorem lst_mul (a t m : Nat) (ht : 1 ≤ t) : lst (lst a * t + m) = lst (a * t + m) := by
  rw [lst_min a]
  by_cases h : a ≤ 1000
  · rw [Nat.min_eq_left h]
  · rw [Nat.min_eq_right (by omega)]
    have h1 := Nat.mul_le_mul (show 1000 ≤ 1000 from Nat.le_refl _) ht
    have h2 := Nat.mul_le_mul (show 1000 ≤ a by omega) ht
    simp only [lst_min]
    omega
theorem ck1_gt {P : List Int32} {s s' : CK} (h : ck1 P s = .inr s') : s.1 < s'.1 := by
  rw [ck1] at h
  by_cases h1 : isB (pat P s.1) 42 43 63 123 = true
  · rw [if_pos h1] at h
    by_cases h2 : s.2.2.1 = true
    · rw [if_pos h2] at h
      cases hm : mRp P s.1 with
      | inl k => rw [hm] at h; cases h
      | inr q => rw [hm] at h; cases h; exact mRp_gt hm
    · rw [if_neg h2] at h; cases h
  rw [if_neg h1] at h
  by_cases h2 : pat P s.1 = 124
  · rw [if_pos h2] at h; cases h; exact Nat.lt_succ_self _
  rw [if_neg h2] at h
  by_cases h3 : pat P s.1 = 40
  · rw [if_pos h3] at h
    by_cases h4 : s.2.2.2.2.2.2.2.2.2.2.1 = 6
    · rw [if_pos h4] at h; cases h
    · rw [if_neg h4] at h; cases h; exact Nat.lt_succ_self _
  rw [if_neg h3] at h
  by_cases h4 : pat P s.1 = 41
  · rw [if_pos h4] at h
    by_cases h5 : s.2.1 = 0
    · rw [if_pos h5] at h; cases h
    · rw [if_neg h5] at h; cases h; exact Nat.lt_succ_self _
  rw [if_neg h4] at h
  by_cases h5 : plB (pat P s.1) = false ∧ isB (pat P s.1) 46 94 36 91 = false
  · rw [if_pos h5] at h; cases h
  rw [if_neg h5] at h
  by_cases h6 : pat P s.1 = 91
  · rw [if_pos h6] at h
    cases hm : mPC P s.1 with
    | inl k => rw [hm] at h; cases h
    | inr q => rw [hm] at h; cases h; exact mPC_gt hm
  · rw [if_neg h6] at h; cases h; exact Nat.lt_succ_self _
theorem ckR_fuel {P : List Int32} : ∀ (f f' : Nat) (s : CK), P.length ≤ s.1 + f → P.length ≤ s.1 + f' → ckR P f s = ckR P f' s
  | 0, 0, s, _, _ => rfl
  | 0, f' + 1, s, h, _ => by rw [ckR, ckR, if_pos (by omega)]
  | f + 1, 0, s, _, h => by rw [ckR, ckR, if_pos (by omega)]
  | f + 1, f' + 1, s, h, h' => by
    rw [ckR, ckR]
    by_cases hl : P.length ≤ s.1
    · rw [if_pos hl, if_pos hl]
    · rw [if_neg hl, if_neg hl]
      cases hm : ck1 P s with
      | inl k => rfl
      | inr s' =>
        have := ck1_gt hm
        exact ckR_fuel f f' s' (by omega) (by omega)
def ckX (P : List Int32) (s : CK) : Nat ⊕ (Bool × Nat × Nat) := ckR P P.length s
theorem ckX_end {P : List Int32} {s : CK} (h : P.length ≤ s.1) : ckX P s = ckE P s := by
  rw [ckX, ckR_fuel P.length 0 s (by omega) (by omega)]; rfl
theorem ckX_go {P : List Int32} {s s' : CK} (h : s.1 < P.length) (h1 : ck1 P s = .inr s') : ckX P s = ckX P s' := by
  have := ck1_gt h1
  rw [ckX, ckR_fuel P.length (P.length + 1) s (by omega) (by omega), ckR, if_neg (by omega), h1]
  rfl
theorem ckX_no {P : List Int32} {s : CK} {k : Nat} (h : s.1 < P.length) (h1 : ck1 P s = .inl k) : ckX P s = .inl k := by
  rw [ckX, ckR_fuel P.length (P.length + 1) s (by omega) (by omega), ckR, if_neg (by omega), h1]
def RwI (d sz : Nat) (em : Bool) (B : MB) : Prop := lst (B.2.1 d + B.2.2.2.2.1) = lst sz ∧ (B.2.2.1 d && B.2.2.2.2.2.1) = em
def Kp (d : Nat) (B B' : MB) : Prop := ∀ j, j < d → B'.1 j = B.1 j ∧ B'.2.1 j = B.2.1 j ∧ B'.2.2.1 j = B.2.2.1 j ∧ B'.2.2.2.1 j = B.2.2.2.1 j
def Kc (d : Nat) (B B' : MB) : Prop := Kp d B B' ∧ B'.1 d = B.1 d ∧ B'.2.2.2.1 d = B.2.2.2.1 d
def Ge (B : MB) (s : RS) : Prop := B.2.2.2.2.2.2.2.1 = s.2.1 ∧ B.2.2.2.2.2.2.1 = s.2.2.1
theorem Kp.tr {d : Nat} {a b c : MB} (h1 : Kp d a b) (h2 : Kp d b c) : Kp d a c := fun j hj => by
  obtain ⟨a1, a2, a3, a4⟩ := h1 j hj
  obtain ⟨b1, b2, b3, b4⟩ := h2 j hj
  exact ⟨b1.trans a1, b2.trans a2, b3.trans a3, b4.trans a4⟩
theorem Kc.tr {d : Nat} {a b c : MB} (h1 : Kc d a b) (h2 : Kc d b c) : Kc d a c := ⟨h1.1.tr h2.1, h2.2.1.trans h1.2.1, h2.2.2.trans h1.2.2⟩
theorem Kc.rf {d : Nat} {a : MB} : Kc d a a := ⟨fun _ _ => ⟨rfl, rfl, rfl, rfl⟩, rfl, rfl⟩
theorem Kc_cp (d : Nat) (B : MB) : Kc d B (bCP d B) := ⟨fun j hj => ⟨rfl, va_up_ne _ _ (by omega), va_up_ne _ _ (by omega), rfl⟩, rfl, rfl⟩
def lS (s : RS) : LI := (s.1, s.2.1, s.2.2.1)
theorem beg_dec : ∀ c : Fin 127, 32 ≤ c.1 → (decide (nI c.1 = 91) || decide (nI c.1 = 46) || decide (nI c.1 = 94) || decide (nI c.1 = 36) || plainB (nI c.1)) = true → isB (nI c.1) 42 43 63 123 = false ∧ nI c.1 ≠ 124 ∧ nI c.1 ≠ 40 ∧ nI c.1 ≠ 41 ∧ ¬ (plB (nI c.1) = false ∧ isB (nI c.1) 46 94 36 91 = false) := by decide
theorem nbg_dec : ∀ c : Fin 127, 32 ≤ c.1 → (decide (nI c.1 = 91) || decide (nI c.1 = 46) || decide (nI c.1 = 94) || decide (nI c.1 = 36) || plainB (nI c.1)) = false → plB (nI c.1) = false ∧ isB (nI c.1) 46 94 36 91 = false := by decide
section RR
variable {P : List Int32}
theorem rRp_no {s : RS} (h : s.2.2.2 = true ∨ (s.2.2.2 = false ∧ isB (pat P s.1) 42 43 63 123 = false)) : rRp P s = (false, (1, 1, false), s) := by
  have key : rPk P s ≠ 42 ∧ rPk P s ≠ 43 ∧ rPk P s ≠ 63 ∧ rPk P s ≠ 123 := by
    rcases h with h | ⟨h, h'⟩
    · rw [pk_st h]; decide
    · simp only [isB, Bool.or_eq_false_iff, decide_eq_false_iff_not] at h'
      obtain ⟨⟨⟨z1, z2⟩, z3⟩, z4⟩ := h'
      exact ⟨fun z => z1 ((pk_iff h (by decide) (by decide)).mp z), fun z => z2 ((pk_iff h (by decide) (by decide)).mp z), fun z => z3 ((pk_iff h (by decide) (by decide)).mp z), fun z => z4 ((pk_iff h (by decide) (by decide)).mp z)⟩
  rw [rRp, if_neg key.1, if_neg key.2.1, if_neg key.2.2.1, if_neg key.2.2.2]
def rpQ (q : Nat × Nat × Nat × Bool × Bool) (y : Rp) : Prop := 1 ≤ q.2.1 ∧ (∀ z, lst (lst z * q.2.1 + q.2.2.1) = lst (if y.2.2.1 then z + 2 else y.2.1 * z + 2 * (y.2.1 - y.1))) ∧ q.2.2.2.1 = decide (y.1 = 0) ∧ q.2.2.2.2 = y.2.2.1
theorem rTk63 {s : RS} (h0 : s.2.2.2 = false) (hs : s.1 ≤ P.length) : (rTk P 63 s).1 = decide (pat P s.1 = 63) ∧ (rTk P 63 s).2.1 = (if pat P s.1 = 63 then s.1 + 1 else s.1) ∧ (rTk P 63 s).2.2 = s.2 ∧ (rTk P 63 s).2.1 ≤ P.length := by
  by_cases h : pat P s.1 = 63
  · have := pat_lt h (by decide)
    rw [rTk, if_pos ((pk_iff h0 (by decide) (by decide)).mpr h), if_pos h, decide_eq_true h]
    exact ⟨rfl, rfl, rfl, by show s.1 + 1 ≤ _; omega⟩
  · rw [rTk, if_neg (fun z => h ((pk_iff h0 (by decide) (by decide)).mp z)), if_neg h, decide_eq_false h]
    exact ⟨rfl, rfl, rfl, hs⟩
theorem rRp_m (hP : sgs P) {s : RS} (h0 : s.2.2.2 = false) (hb : isB (pat P s.1) 42 43 63 123 = true) (hl : s.1 < P.length) : (rRp P s).1 = true ∧
    ((rTk P 63 (rRp P s).2.2).2.2.2.2 = true → mRp P s.1 = .inl (rTk P 63 (rRp P s).2.2).2.1 ∧ (rTk P 63 (rRp P s).2.2).2.1 ≤ P.length) ∧
    ((rTk P 63 (rRp P s).2.2).2.2.2.2 = false → (rTk P 63 (rRp P s).2.2).2.2 = s.2 ∧ (rTk P 63 (rRp P s).2.2).2.1 ≤ P.length ∧ ∃ q, mRq P s.1 = .inr q ∧ (rTk P 63 (rRp P s).2.2).1 = decide (pat P q.1 = 63) ∧ (rTk P 63 (rRp P s).2.2).2.1 = (if pat P q.1 = 63 then q.1 + 1 else q.1) ∧ s.1 + (if pat P s.1 = 123 then 3 else 1) ≤ q.1 ∧ rpK P s.1 q.1 ((rRp P s).2.1.1, (rRp P s).2.1.2.1, (rRp P s).2.1.2.2, (rTk P 63 (rRp P s).2.2).1) ∧ rpQ q ((rRp P s).2.1.1, (rRp P s).2.1.2.1, (rRp P s).2.1.2.2, (rTk P 63 (rRp P s).2.2).1)) := by
  have hpk : ∀ {c : Int32}, c ≠ -1 → c ≠ -2 → (rPk P s = c ↔ pat P s.1 = c) := fun a b => pk_iff h0 a b
  have h01 : (rInc s).2.2.2 = false := h0
  have hT := rTk63 (P := P) (s := rInc s) h01 hl
  have h123 : ∀ {c : Int32}, pat P s.1 = c → c ≠ 123 → (if pat P s.1 = 123 then 3 else 1) = 1 := fun h h' => if_neg (by rw [h]; exact h')
  rcases isB_c hb with h | h | h | h
  · have e : rRp P s = (true, (0, 1, true), rInc s) := by rw [rRp, if_pos ((hpk (by decide) (by decide)).mpr h)]
    rw [e]
    have hq : mRq P s.1 = .inr (s.1 + 1, 1, 2, true, true) := by
      rw [mRq, if_neg (by rw [h]; decide), h]; rfl
    obtain ⟨t1, t2, t3, t4⟩ := hT
    refine ⟨rfl, fun z => ?_, fun _ => ⟨t3, t4, _, hq, t1, t2, by rw [h123 h (by decide)]; exact Nat.le_refl _, Or.inr (Or.inl ⟨h, rfl, rfl, rfl⟩), Nat.le_refl _, fun z => ?_, rfl, rfl⟩⟩
    · have : (rTk P 63 (rInc s)).2.2.2.2 = s.2.2.2 := by rw [t3]; rfl
      rw [show (rTk P 63 (rInc s)).2.2.2.2 = true from z, h0] at this; cases this
    · show lst (lst z * 1 + 2) = lst (z + 2)
      rw [lst_mul _ _ _ (Nat.le_refl _), Nat.mul_one]
  · have e : rRp P s = (true, (1, 1, true), rInc s) := by rw [rRp, if_neg (fun z => by rw [(hpk (by decide) (by decide)).mp z] at h; revert h; decide), if_pos ((hpk (by decide) (by decide)).mpr h)]
    rw [e]
    have hq : mRq P s.1 = .inr (s.1 + 1, 1, 2, false, true) := by
      rw [mRq, if_neg (by rw [h]; decide), h]; rfl
    obtain ⟨t1, t2, t3, t4⟩ := hT
    refine ⟨rfl, fun z => ?_, fun _ => ⟨t3, t4, _, hq, t1, t2, by rw [h123 h (by decide)]; exact Nat.le_refl _, Or.inr (Or.inr (Or.inl ⟨h, rfl, rfl, rfl⟩)), Nat.le_refl _, fun z => ?_, rfl, rfl⟩⟩
    · have : (rTk P 63 (rInc s)).2.2.2.2 = s.2.2.2 := by rw [t3]; rfl
      rw [show (rTk P 63 (rInc s)).2.2.2.2 = true from z, h0] at this; cases this
    · show lst (lst z * 1 + 2) = lst (z + 2)
      rw [lst_mul _ _ _ (Nat.le_refl _), Nat.mul_one]
  · have e : rRp P s = (true, (0, 1, false), rInc s) := by rw [rRp, if_neg (fun z => by rw [(hpk (by decide) (by decide)).mp z] at h; revert h; decide), if_neg (fun z => by rw [(hpk (by decide) (by decide)).mp z] at h; revert h; decide), if_pos ((hpk (by decide) (by decide)).mpr h)]
    rw [e]
    have hq : mRq P s.1 = .inr (s.1 + 1, 1, 2, true, false) := by
      rw [mRq, if_neg (by rw [h]; decide), h]; rfl
    obtain ⟨t1, t2, t3, t4⟩ := hT
    refine ⟨rfl, fun z => ?_, fun _ => ⟨t3, t4, _, hq, t1, t2, by rw [h123 h (by decide)]; exact Nat.le_refl _, Or.inl ⟨h, rfl, rfl, rfl⟩, Nat.le_refl _, fun z => ?_, rfl, rfl⟩⟩
    · have : (rTk P 63 (rInc s)).2.2.2.2 = s.2.2.2 := by rw [t3]; rfl
      rw [show (rTk P 63 (rInc s)).2.2.2.2 = true from z, h0] at this; cases this
    · show lst (lst z * 1 + 2) = lst (1 * z + 2 * (1 - 0))
      rw [lst_mul _ _ _ (Nat.le_refl _), Nat.mul_one, Nat.one_mul]
  · have e : rRp P s = (true, ((rBr P (rInc s)).1.1, (rBr P (rInc s)).1.2, false), (rBr P (rInc s)).2) := by rw [rRp, if_neg (fun z => by rw [(hpk (by decide) (by decide)).mp z] at h; revert h; decide), if_neg (fun z => by rw [(hpk (by decide) (by decide)).mp z] at h; revert h; decide), if_neg (fun z => by rw [(hpk (by decide) (by decide)).mp z] at h; revert h; decide), if_pos ((hpk (by decide) (by decide)).mpr h)]
    rw [e]
    have hm := rBr_m hP (s := rInc s) (i := s.1) h01 rfl hl
    clear e
    generalize rBr P (rInc s) = br at hm ⊢
    refine ⟨rfl, ?_⟩
    show ((rTk P 63 br.2).2.2.2.2 = true → _) ∧ _
    cases hq : br.2.2.2.2 with
    | true =>
      obtain ⟨m1, m2⟩ := hm.1 hq
      rw [show rTk P 63 br.2 = (false, br.2) from rTk_st (by decide) hq]
      refine ⟨fun _ => ⟨?_, m2⟩, fun z => ?_⟩
      · have e2 : mRq P s.1 = .inl br.2.1 := by rw [mRq, if_pos h, m1]
        rw [mRp, e2]
      · have z : br.2.2.2.2 = false := z
        rw [hq] at z; cases z
    | false =>
      obtain ⟨m1, m2, m3, m4, m5, m6, m7, m8, m9⟩ := hm.2 hq
      obtain ⟨t1, t2, t3, t4⟩ := rTk63 (P := P) (s := br.2) hq m3
      refine ⟨fun z => ?_, fun _ => ⟨t3.trans m4, t4, (br.2.1, br.1.2, 2 * (br.1.2 - br.1.1), decide (br.1.1 = 0), false), by rw [mRq, if_pos h, m1], t1, t2, by rw [if_pos h]; exact m2, Or.inr (Or.inr (Or.inr ⟨h, m5, m6, rfl, m7, m8, m9⟩)), m8, fun z => ?_, rfl, rfl⟩⟩
      · have : (rTk P 63 br.2).2.2.2.2 = s.2.2.2 := by rw [t3, m4]; rfl
        rw [show (rTk P 63 br.2).2.2.2.2 = true from z, h0] at this; cases this
      · show lst (lst z * br.1.2 + _) = lst (br.1.2 * z + _)
        rw [lst_mul _ _ _ m8, Nat.mul_comm]
end RR
