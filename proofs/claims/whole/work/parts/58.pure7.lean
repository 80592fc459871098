def ib64 (w : Int64) (c : Nat) : Bool := w.toBitVec.getLsbD c
theorem sh64 : ∀ c : Fin 64, ((nI c.1).toInt64.toUInt64 &&& Int64.toUInt64 63) = UInt64.ofNat c.1 := by decide
theorem one64 : ∀ i : Fin 64, ((1 : Int64) <<< ((nI i.1).toInt64 &&& 63)).toBitVec = BitVec.twoPow 64 i.1 := by decide
theorem bit64_ib {w : Int64} {c : Nat} (hc : c < 64) : bit64 w (nI c) = ib64 w c := by
  rw [bit64, sh64 ⟨c, hc⟩]
  have h1 : (((w.toUInt64 >>> UInt64.ofNat c).toInt64 &&& 1) = 1) ↔ (w.toBitVec >>> c &&& 1#64) = 1#64 := by
    rw [← Int64.toBitVec_inj]
    have : (w.toUInt64 >>> UInt64.ofNat c).toInt64.toBitVec = w.toBitVec >>> c := by
      show (w.toUInt64 >>> UInt64.ofNat c).toBitVec = _
      rw [UInt64.toBitVec_shiftRight]
      show w.toBitVec >>> ((UInt64.ofNat c).toBitVec % 64) = w.toBitVec >>> c
      have e : ((UInt64.ofNat c).toBitVec % 64).toNat = c := by
        have := (by decide : ∀ c : Fin 64, ((UInt64.ofNat c.1).toBitVec % 64).toNat = c.1) ⟨c, hc⟩
        exact this
      rw [BitVec.ushiftRight_eq', e]
    rw [Int64.toBitVec_and, this]
    rfl
  rw [ib64]
  have h2 : ((w.toBitVec >>> c &&& 1#64) = 1#64) ↔ w.toBitVec.getLsbD c = true := by
    rw [BitVec.and_one_eq_setWidth_ofBool_getLsbD, BitVec.getLsbD_ushiftRight, Nat.add_zero]
    cases w.toBitVec.getLsbD c <;> decide
  by_cases hb : w.toBitVec.getLsbD c = true
  · rw [hb]; exact decide_eq_true (h1.mpr (h2.mpr hb))
  · rw [eq_false_of_ne_true hb]; exact decide_eq_false (fun z => hb (h2.mp (h1.mp z)))
def tb (b : Int64 × Int64) (c : Nat) : Bool := if c < 64 then ib64 b.1 c else ib64 b.2 (c - 64)
theorem lfT_tb {b : Int64 × Int64} {c : Nat} (hc : c < 128) : lfT b (nI c) = tb b c := by
  rw [lfT, tb]
  by_cases h : c < 64
  · rw [if_pos (show nI c < 64 from nI_lt (b := 64) h (by decide)), if_pos h, bit64_ib h]
  · rw [if_neg (show ¬ nI c < 64 from nI_nlt (b := 64) (by omega) (by omega)), if_neg h, show nI c - 64 = nI (c - 64) from pk_sub (b := 64) (by omega), bit64_ib (by omega)]
theorem tkS_tb : ∀ (n f : Nat) (b : Int64 × Int64) (c : Nat), f + n ≤ 128 → c < 128 → tb (tkS n f b) c = (tb b c || decide (f ≤ c ∧ c < f + n))
  | 0, f, b, c, _, _ => by
    rw [tkS, decide_eq_false (by omega), Bool.or_false]
  | n + 1, f, b, c, hf, hc => by
    rw [tkS, tkS_tb n (f + 1) _ c (by omega) hc]
    have key : tb (if f < 64 then (b.1 ||| ((1 : Int64) <<< ((nI f).toInt64 &&& 63)), b.2) else (b.1, b.2 ||| ((1 : Int64) <<< ((nI f - 64).toInt64 &&& 63)))) c = (tb b c || decide (c = f)) := by
      by_cases h : f < 64
      · rw [if_pos h, tb, tb]
        by_cases hc2 : c < 64
        · rw [if_pos hc2, if_pos hc2]
          show ib64 (b.1 ||| _) c = _
          rw [ib64, Int64.toBitVec_or, BitVec.getLsbD_or, one64 ⟨f, h⟩, BitVec.getLsbD_twoPow, decide_eq_true h, Bool.true_and]
          rw [show decide (f = c) = decide (c = f) from decide_eq_decide.mpr ⟨fun z => z.symm, fun z => z.symm⟩]
          rfl
        · rw [if_neg hc2, if_neg hc2, decide_eq_false (by omega), Bool.or_false]
      · rw [if_neg h, tb, tb]
        by_cases hc2 : c < 64
        · rw [if_pos hc2, if_pos hc2, decide_eq_false (by omega), Bool.or_false]
        · rw [if_neg hc2, if_neg hc2]
          show ib64 (b.2 ||| _) (c - 64) = _
          rw [show nI f - 64 = nI (f - 64) from pk_sub (b := 64) (by omega), ib64, Int64.toBitVec_or, BitVec.getLsbD_or, one64 ⟨f - 64, by omega⟩, BitVec.getLsbD_twoPow, decide_eq_true (by omega), Bool.true_and]
          rw [show decide (f - 64 = c - 64) = decide (c = f) from decide_eq_decide.mpr (by omega)]
          rfl
    rw [key, Bool.or_assoc]
    congr 1
    rw [← Bool.decide_or]
    exact decide_eq_decide.mpr (by omega)
theorem tb_not {b : Int64 × Int64} {c : Nat} (hc : c < 128) : tb (b.1 ^^^ (-1), b.2 ^^^ (-1)) c = !tb b c := by
  have key : ∀ (w : Int64) (c : Nat), c < 64 → ib64 (w ^^^ (-1)) c = !ib64 w c := fun w c h => by
    have e : (-1 : Int64).toBitVec.getLsbD c = true := (by decide : ∀ c : Fin 64, (-1 : Int64).toBitVec.getLsbD c.1 = true) ⟨c, h⟩
    rw [ib64, Int64.toBitVec_xor, BitVec.getLsbD_xor, e, Bool.xor_true]
    rfl
  rw [tb, tb]
  by_cases h : c < 64
  · rw [if_pos h, if_pos h]; exact key _ _ h
  · rw [if_neg h, if_neg h]; exact key _ _ (by omega)
theorem tb_zero (c : Nat) : tb (0, 0) c = false := by
  rw [tb]; split <;> simp [ib64]
def sgs (P : List Int32) : Prop := (∀ x ∈ P, isSg x = true) ∧ P.length ≤ 28
theorem sgs.n {P : List Int32} (h : sgs P) {k : Nat} (hk : k < P.length) : ∃ c : Nat, 32 ≤ c ∧ c ≤ 126 ∧ pat P k = nI c := by
  have e : pat P k = P[k] := by rw [pat, List.getD_eq_getElem?_getD, List.getElem?_eq_getElem hk]; rfl
  rw [e]
  exact isSg_n (h.1 _ (List.getElem_mem hk))
theorem pat_ge {P : List Int32} {k : Nat} (hk : P.length ≤ k) : pat P k = -1 := by
  rw [pat, List.getD_eq_getElem?_getD, List.getElem?_eq_none hk]; rfl
theorem pk_ge {P : List Int32} {s : RS} (hk : P.length ≤ s.1) : rPk P s = -2 := by
  rw [rPk]; split
  · rfl
  · rw [List.getD_eq_getElem?_getD, List.getElem?_eq_none hk]; rfl
theorem pk_lt' {P : List Int32} {s : RS} (h0 : s.2.2.2 = false) (hk : s.1 < P.length) : rPk P s = pat P s.1 := by
  rw [rPk, h0, pat, List.getD_eq_getElem?_getD, List.getD_eq_getElem?_getD, List.getElem?_eq_getElem hk]; rfl
theorem pk_st {P : List Int32} {s : RS} (h0 : s.2.2.2 = true) : rPk P s = -2 := by rw [rPk, h0]; rfl
theorem pk_iff {P : List Int32} {s : RS} (h0 : s.2.2.2 = false) {c : Int32} (h1 : c ≠ -1) (h2 : c ≠ -2) : rPk P s = c ↔ pat P s.1 = c := by
  rcases Nat.lt_or_ge s.1 P.length with h | h
  · rw [pk_lt' h0 h]
  · rw [pk_ge h, pat_ge h]
    exact ⟨fun z => absurd z.symm h2, fun z => absurd z.symm h1⟩
theorem in_dec : ∀ c : Fin 127, 32 ≤ c.1 → (itemB (nI c.1) = inC (nI c.1) ∧ plainB (nI c.1) = plB (nI c.1)) := by decide
theorem it_eq {P : List Int32} (hP : sgs P) {s : RS} (h0 : s.2.2.2 = false) (hk : s.1 < P.length) : itemB (rPk P s) = inC (pat P s.1) ∧ plainB (rPk P s) = plB (pat P s.1) := by
  obtain ⟨c, h1, h2, h3⟩ := hP.n hk
  rw [pk_lt' h0 hk, h3]
  exact in_dec ⟨c, by omega⟩ h1
theorem it_no {P : List Int32} {s : RS} (h : P.length ≤ s.1 ∨ s.2.2.2 = true) : itemB (rPk P s) = false := by
  have : rPk P s = -2 := by
    rcases h with h | h
    · exact pk_ge h
    · exact pk_st h
  rw [this]; decide
section CB
variable {P : List Int32} (hP : sgs P)
theorem rTk_st {c : Int32} (hc : c ≠ -2) {s : RS} (h : s.2.2.2 = true) : rTk P c s = (false, s) := by
  rw [rTk, if_neg (by rw [pk_st h]; exact fun z => hc z.symm)]
theorem rEx_st {c : Int32} (hc : c ≠ -2) {s : RS} (h : s.2.2.2 = true) : rEx P c s = s := by
  rw [rEx, if_neg (by rw [pk_st h]; exact fun z => hc z.symm)]
  obtain ⟨a, b, c, d⟩ := s
  have h : d = true := h
  subst h
  rfl
theorem rIs_st {l : Nat} {s : RS} (h : s.2.2.2 = true) : rIs P l s = (l, s) := by
  rw [rIs, if_pos (Or.inl (it_no (Or.inr h)))]
  obtain ⟨a, b, c, d⟩ := s
  have h : d = true := h
  subst h
  rfl
theorem rDg_st {l : Nat} (hl : l < 100) {s : RS} (h : s.2.2.2 = true) : rDg P l s = (l, s) := by
  rw [rDg, pk_st h, if_pos (Or.inl (Int32.lt_of_lt_of_le (b := 0) (by decide) (nI_pos' (by omega))))]
  obtain ⟨a, b, c, d⟩ := s
  have h : d = true := h
  subst h
  rfl
theorem rIt_m (hP : sgs P) {s : RS} (h0 : s.2.2.2 = false) (hk : s.1 < P.length) (hi : inC (pat P s.1) = true) (b : Int64 × Int64) (f it : Nat) : ((rIt P b s).2.2.2.2 = true → mCl P (f + 1) s.1 it = .inl (rIt P b s).2.1 ∧ (rIt P b s).2.1 ≤ P.length) ∧ ((rIt P b s).2.2.2.2 = false → mCl P (f + 1) s.1 it = mCl P f (rIt P b s).2.1 (it + 1) ∧ s.1 < (rIt P b s).2.1 ∧ (rIt P b s).2.1 ≤ P.length ∧ (rIt P b s).2.2 = s.2 ∧ ∀ c, 32 ≤ c → c ≤ 126 → ofC P (nI c) (f + 1) s.1 (tb b c) = ofC P (nI c) f (rIt P b s).2.1 (tb (rIt P b s).1 c)) := by
  obtain ⟨c1, v1, v2, v3⟩ := hP.n hk
  have e1 : rIs P 32 s = (c1, rInc s) := by
    rw [rIs, if_neg, pk_lt' h0 hk, v3, nI_clamp (by omega)]
    rintro (z | z)
    · rw [(it_eq hP h0 hk).1, hi] at z; cases z
    · rw [pk_lt' h0 hk, v3] at z
      exact nI_nlt (a := c1) (b := 32) v1 (by omega) z
  have h93 : pat P s.1 ≠ 93 := fun z => by rw [z] at hi; revert hi; decide
  have hm : mCl P (f + 1) s.1 it = if pat P (s.1 + 1) = 45 then (if P.length ≤ s.1 + 2 then .inl P.length else if inC (pat P (s.1 + 2)) = false ∨ pat P (s.1 + 2) < pat P s.1 then .inl (s.1 + 2) else mCl P f (s.1 + 3) (it + 1)) else mCl P f (s.1 + 1) (it + 1) := by
    rw [mCl, if_neg (by omega), if_neg h93, if_neg (by rw [hi]; decide)]
  have ho : ∀ (sg : Int32) (b0 : Bool), ofC P sg (f + 1) s.1 b0 = if pat P (s.1 + 1) = 45 then ofC P sg f (s.1 + 3) (b0 || (decide (pat P s.1 ≤ sg) && decide (sg ≤ pat P (s.1 + 2)))) else ofC P sg f (s.1 + 1) (b0 || (decide (pat P s.1 ≤ sg) && decide (sg ≤ pat P s.1))) := fun sg b0 => by
    rw [ofC, if_neg h93]
  have h01 : (rInc s).2.2.2 = false := h0
  by_cases hd : pat P (s.1 + 1) = 45
  · have hd1 : s.1 + 1 < P.length := pat_lt hd (by decide)
    have e2 : rTk P 45 (rInc s) = (true, rInc (rInc s)) := by
      rw [rTk, if_pos ((pk_iff h01 (by decide) (by decide)).mpr hd)]
    have e3 : rIt P b s = (tkS ((rIs P c1 (rInc (rInc s))).1 + 1 - c1) c1 b, (rIs P c1 (rInc (rInc s))).2) := by
      simp only [rIt, e1, e2]; rfl
    rw [hm, if_pos hd]
    have h02 : (rInc (rInc s)).2.2.2 = false := h0
    by_cases hl : P.length ≤ s.1 + 2
    · have e4 : rIs P c1 (rInc (rInc s)) = (c1, rStk (rInc (rInc s))) := by
        rw [rIs, if_pos (Or.inl (it_no (Or.inl hl)))]
      rw [e3, e4, if_pos hl]
      refine ⟨fun _ => ⟨?_, ?_⟩, fun z => by cases z⟩
      · show Sum.inl P.length = Sum.inl (s.1 + 1 + 1)
        congr 1; omega
      · show s.1 + 1 + 1 ≤ P.length; omega
    · rw [if_neg hl]
      have hl2 : (rInc (rInc s)).1 < P.length := by show s.1 + 1 + 1 < _; omega
      obtain ⟨c2, w1, w2, w3⟩ := hP.n (k := s.1 + 2) (by omega)
      by_cases hb : inC (pat P (s.1 + 2)) = false ∨ pat P (s.1 + 2) < pat P s.1
      · have e4 : rIs P c1 (rInc (rInc s)) = (c1, rStk (rInc (rInc s))) := by
          rw [rIs, if_pos]
          rcases hb with z | z
          · exact Or.inl ((it_eq hP h02 hl2).1.trans z)
          · refine Or.inr ?_
            rw [pk_lt' h02 hl2]
            rw [v3] at z
            exact z
        rw [e3, e4, if_pos hb]
        exact ⟨fun _ => ⟨rfl, by show s.1 + 1 + 1 ≤ P.length; omega⟩, fun z => by cases z⟩
      · have e4 : rIs P c1 (rInc (rInc s)) = (c2, rInc (rInc (rInc s))) := by
          rw [rIs, if_neg, pk_lt' h02 hl2]
          · show ((pat P (s.1 + 2)).toNatClampNeg, _) = _
            rw [w3, nI_clamp (by omega)]
          · rintro (z | z)
            · exact hb (Or.inl ((it_eq hP h02 hl2).1.symm.trans z))
            · refine hb (Or.inr ?_)
              rw [pk_lt' h02 hl2] at z
              rw [v3]
              exact z
        rw [e3, e4, if_neg hb]
        refine ⟨fun z => ?_, fun _ => ⟨rfl, by show s.1 < s.1 + 1 + 1 + 1; omega, by show s.1 + 1 + 1 + 1 ≤ P.length; omega, rfl, fun c z1 z2 => ?_⟩⟩
        · have z : s.2.2.2 = true := z
          rw [h0] at z; cases z
        · rw [ho, if_pos hd]
          have hcc : c1 ≤ c2 := by
            rcases Nat.lt_or_ge c2 c1 with z | z
            · exact absurd (Or.inr (by rw [w3, v3]; exact nI_lt z (by omega))) hb
            · exact z
          show ofC P (nI c) f (s.1 + 3) _ = ofC P (nI c) f (s.1 + 3) (tb (tkS (c2 + 1 - c1) c1 b) c)
          rw [tkS_tb _ _ _ _ (by omega) (by omega), v3, w3]
          congr 2
          rw [← Bool.decide_and]
          refine decide_eq_decide.mpr ?_
          rw [nI_leI (by omega) (by omega), nI_leI (by omega) (by omega)]
          omega
  · have e2 : rTk P 45 (rInc s) = (false, rInc s) := by
      rw [rTk, if_neg (fun z => hd ((pk_iff h01 (by decide) (by decide)).mp z))]
    have e3 : rIt P b s = (tkS (c1 + 1 - c1) c1 b, rInc s) := by
      simp only [rIt, e1, e2]; rfl
    rw [hm, if_neg hd, e3]
    refine ⟨fun z => ?_, fun _ => ⟨rfl, Nat.lt_succ_self _, hk, rfl, fun c z1 z2 => ?_⟩⟩
    · have z : s.2.2.2 = true := z
      rw [h0] at z; cases z
    · rw [ho, if_neg hd]
      show ofC P (nI c) f (s.1 + 1) _ = ofC P (nI c) f (s.1 + 1) (tb (tkS (c1 + 1 - c1) c1 b) c)
      rw [tkS_tb _ _ _ _ (by omega) (by omega), v3]
      congr 2
      rw [← Bool.decide_and]
      refine decide_eq_decide.mpr ?_
      rw [nI_leI (by omega) (by omega), nI_leI (by omega) (by omega)]
      omega
theorem rIts_st {s : RS} {b : Int64 × Int64} (h : s.2.2.2 = true) : ∀ n, rIts P n (b, s) = (b, s)
  | 0 => rfl
  | n + 1 => by rw [rIts, if_neg (by rw [it_no (Or.inr h)]; decide)]
theorem rIts_m (hP : sgs P) : ∀ (n : Nat) (s : RS) (b : Int64 × Int64) (f it : Nat), s.2.2.2 = false → s.1 ≤ P.length → P.length ≤ s.1 + n → P.length ≤ s.1 + f → 1 ≤ it →
    ((rEx P 93 (rIts P n (b, s)).2).2.2.2 = true → mCl P f s.1 it = .inl (rEx P 93 (rIts P n (b, s)).2).1 ∧ (rEx P 93 (rIts P n (b, s)).2).1 ≤ P.length) ∧
    ((rEx P 93 (rIts P n (b, s)).2).2.2.2 = false → mCl P f s.1 it = .inr (rEx P 93 (rIts P n (b, s)).2).1 ∧ s.1 < (rEx P 93 (rIts P n (b, s)).2).1 ∧ (rEx P 93 (rIts P n (b, s)).2).1 ≤ P.length ∧ (rEx P 93 (rIts P n (b, s)).2).2 = s.2 ∧ ∀ c, 32 ≤ c → c ≤ 126 → ofC P (nI c) f s.1 (tb b c) = tb (rIts P n (b, s)).1 c) := by
  intro n
  have base : ∀ (s : RS) (b : Int64 × Int64) (f it : Nat) (q : (Int64 × Int64) × RS), q = (b, s) → s.2.2.2 = false → s.1 ≤ P.length → P.length ≤ s.1 + f → 1 ≤ it → (s.1 < P.length → inC (pat P s.1) = false) →
    ((rEx P 93 q.2).2.2.2 = true → mCl P f s.1 it = .inl (rEx P 93 q.2).1 ∧ (rEx P 93 q.2).1 ≤ P.length) ∧ ((rEx P 93 q.2).2.2.2 = false → mCl P f s.1 it = .inr (rEx P 93 q.2).1 ∧ s.1 < (rEx P 93 q.2).1 ∧ (rEx P 93 q.2).1 ≤ P.length ∧ (rEx P 93 q.2).2 = s.2 ∧ ∀ c, 32 ≤ c → c ≤ 126 → ofC P (nI c) f s.1 (tb b c) = tb q.1 c) := by
    rintro s b f it q rfl h0 h1 h3 h4 hn
    show ((rEx P 93 s).2.2.2 = true → _) ∧ _
    by_cases hl : P.length ≤ s.1
    · have e : rEx P 93 s = rStk s := by rw [rEx, if_neg (by rw [pk_ge hl]; decide)]
      rw [e]
      refine ⟨fun _ => ⟨?_, h1⟩, fun z => by cases z⟩
      have hs : s.1 = P.length := by omega
      cases f with
      | zero => show Sum.inl P.length = Sum.inl s.1; rw [hs]
      | succ f => rw [mCl, if_pos hl]; show Sum.inl P.length = Sum.inl s.1; rw [hs]
    · obtain ⟨f, rfl⟩ : ∃ f', f = f' + 1 := ⟨f - 1, by omega⟩
      rw [mCl, if_neg hl]
      by_cases h93 : pat P s.1 = 93
      · have e : rEx P 93 s = rInc s := by rw [rEx, if_pos ((pk_iff h0 (by decide) (by decide)).mpr h93)]
        rw [e, if_pos h93, if_neg (by omega)]
        refine ⟨fun z => ?_, fun _ => ⟨rfl, Nat.lt_succ_self _, by show s.1 + 1 ≤ _; omega, rfl, fun c z1 z2 => ?_⟩⟩
        · have z : s.2.2.2 = true := z
          rw [h0] at z; cases z
        · rw [ofC, if_pos h93]
      · have e : rEx P 93 s = rStk s := by rw [rEx, if_neg (fun z => h93 ((pk_iff h0 (by decide) (by decide)).mp z))]
        rw [e, if_neg h93, if_pos (hn (by omega))]
        exact ⟨fun _ => ⟨rfl, h1⟩, fun z => by cases z⟩
  induction n with
  | zero =>
    intro s b f it h0 h1 h2 h3 h4
    exact base s b f it _ rfl h0 h1 h3 h4 (fun z => by omega)
  | succ n ih =>
    intro s b f it h0 h1 h2 h3 h4
    by_cases hi : s.1 < P.length ∧ inC (pat P s.1) = true
    · have e : rIts P (n + 1) (b, s) = rIts P n (rIt P b s) := by
        rw [rIts, if_pos ((it_eq hP h0 hi.1).1.trans hi.2)]
      rw [e]
      obtain ⟨f, rfl⟩ : ∃ f', f = f' + 1 := ⟨f - 1, by omega⟩
      have hm := rIt_m hP h0 hi.1 hi.2 b f it
      cases hq : (rIt P b s).2.2.2.2 with
      | true =>
        obtain ⟨m1, m2⟩ := hm.1 hq
        have e2 : rIts P n (rIt P b s) = rIt P b s := rIts_st (b := (rIt P b s).1) hq n
        rw [e2, rEx_st (by decide) hq]
        exact ⟨fun _ => ⟨m1, m2⟩, fun z => by rw [hq] at z; cases z⟩
      | false =>
        obtain ⟨m1, m2, m3, m4, m5⟩ := hm.2 hq
        obtain ⟨i1, i2⟩ := ih (rIt P b s).2 (rIt P b s).1 f (it + 1) hq m3 (by omega) (by omega) (by omega)
        rw [m1]
        refine ⟨i1, fun z => ?_⟩
        obtain ⟨j1, j2, j3, j4, j5⟩ := i2 z
        exact ⟨j1, Nat.lt_trans m2 j2, j3, j4.trans m4, fun c z1 z2 => (m5 c z1 z2).trans (j5 c z1 z2)⟩
    · have hni : itemB (rPk P s) = false := by
        by_cases z : s.1 < P.length
        · rw [(it_eq hP h0 z).1]
          exact eq_false_of_ne_true (fun y => hi ⟨z, y⟩)
        · exact it_no (Or.inl (by omega))
      have e : rIts P (n + 1) (b, s) = (b, s) := by rw [rIts, if_neg (by rw [hni]; decide)]
      exact base s b f it _ e h0 h1 h3 h4 (fun z => eq_false_of_ne_true (fun y => hi ⟨z, y⟩))
theorem rCl_m (hP : sgs P) {s : RS} {i : Nat} (h0 : s.2.2.2 = false) (hs : s.1 = i + 1) (hi : i < P.length) : ((rCl P s).2.2.2.2 = true → mPC P i = .inl (rCl P s).2.1 ∧ (rCl P s).2.1 ≤ P.length) ∧ ((rCl P s).2.2.2.2 = false → mPC P i = .inr (rCl P s).2.1 ∧ i < (rCl P s).2.1 ∧ (rCl P s).2.1 ≤ P.length ∧ (rCl P s).2.2 = s.2 ∧ ∀ c, 32 ≤ c → c ≤ 126 → tkC P i (nI c) = tb (rCl P s).1 c) := by
  have hP28 := hP.2
  have key : ∀ (o : Bool × RS), o.2.2.2.2 = false → o.2.1 = (if pat P (i + 1) = 94 then i + 2 else i + 1) → o.2.1 ≤ P.length → i < o.2.1 → o.2.2 = s.2 → o.1 = decide (pat P (i + 1) = 94) →
    let q := rIts P 27 (rIt P (0, 0) o.2)
    ((rEx P 93 q.2).2.2.2 = true → mPC P i = .inl (rEx P 93 q.2).1 ∧ (rEx P 93 q.2).1 ≤ P.length) ∧ ((rEx P 93 q.2).2.2.2 = false → mPC P i = .inr (rEx P 93 q.2).1 ∧ i < (rEx P 93 q.2).1 ∧ (rEx P 93 q.2).1 ≤ P.length ∧ (rEx P 93 q.2).2 = s.2 ∧ ∀ c, 32 ≤ c → c ≤ 126 → tkC P i (nI c) = tb (if o.1 then (q.1.1 ^^^ (-1), q.1.2 ^^^ (-1)) else q.1) c) := by
    intro o k0 k1 k2 k3 k4 k5
    rw [mPC, ← k1]
    have htk : ∀ c, tkC P i (nI c) = xor (ofC P (nI c) 28 o.2.1 false) o.1 := fun c => by rw [tkC, ← k1, k5]
    by_cases hin : o.2.1 < P.length ∧ inC (pat P o.2.1) = true
    · have hm := rIt_m hP k0 hin.1 hin.2 (0, 0) 27 0
      cases hq : (rIt P (0, 0) o.2).2.2.2.2 with
      | true =>
        obtain ⟨m1, m2⟩ := hm.1 hq
        have e2 : rIts P 27 (rIt P (0, 0) o.2) = rIt P (0, 0) o.2 := rIts_st (b := (rIt P (0, 0) o.2).1) hq 27
        dsimp only
        rw [e2, rEx_st (by decide) hq]
        exact ⟨fun _ => ⟨m1, m2⟩, fun z => by rw [hq] at z; cases z⟩
      | false =>
        obtain ⟨m1, m2, m3, m4, m5⟩ := hm.2 hq
        obtain ⟨i1, i2⟩ := rIts_m hP 27 (rIt P (0, 0) o.2).2 (rIt P (0, 0) o.2).1 27 1 hq m3 (by omega) (by omega) (by omega)
        rw [m1]
        refine ⟨i1, fun z => ?_⟩
        obtain ⟨j1, j2, j3, j4, j5⟩ := i2 z
        refine ⟨j1, Nat.lt_trans k3 (Nat.lt_trans m2 j2), j3, (j4.trans m4).trans k4, fun c z1 z2 => ?_⟩
        rw [htk]
        have e := m5 c z1 z2
        rw [tb_zero] at e
        rw [e, j5 c z1 z2]
        cases o.1 with
        | false => rw [Bool.xor_false]; rfl
        | true => rw [Bool.xor_true, if_pos rfl, tb_not (by omega)]
    · have hni : itemB (rPk P o.2) = false := by
        by_cases z : o.2.1 < P.length
        · rw [(it_eq hP k0 z).1]
          exact eq_false_of_ne_true (fun y => hin ⟨z, y⟩)
        · exact it_no (Or.inl (by omega))
      have e1 : rIs P 32 o.2 = (32, rStk o.2) := by rw [rIs, if_pos (Or.inl hni)]
      have e3 : (rIt P (0, 0) o.2).2 = rStk o.2 := by
        simp only [rIt, e1, rTk_st (P := P) (c := 45) (by decide) (s := rStk o.2) rfl]; rfl
      have e4 : (rIt P (0, 0) o.2).2.2.2.2 = true := by rw [e3]; rfl
      have e2 : rIts P 27 (rIt P (0, 0) o.2) = rIt P (0, 0) o.2 := rIts_st (b := (rIt P (0, 0) o.2).1) e4 27
      dsimp only
      rw [e2, rEx_st (by decide) e4, e3]
      refine ⟨fun _ => ⟨?_, k2⟩, fun z => by cases z⟩
      show _ = Sum.inl o.2.1
      rw [mCl]
      by_cases z : P.length ≤ o.2.1
      · rw [if_pos z]; congr 1; omega
      · rw [if_neg z]
        by_cases y : pat P o.2.1 = 93
        · rw [if_pos y, if_pos rfl]
        · rw [if_neg y, if_pos (eq_false_of_ne_true (fun y => hin ⟨by omega, y⟩))]
  by_cases h94 : pat P (i + 1) = 94
  · have e : rTk P 94 s = (true, rInc s) := by rw [rTk, if_pos ((pk_iff h0 (by decide) (by decide)).mpr (by rw [hs]; exact h94))]
    have hlt := pat_lt h94 (by decide)
    have := key (true, rInc s) h0 (by rw [if_pos h94]; show s.1 + 1 = _; omega) (by show s.1 + 1 ≤ _; omega) (by show i < s.1 + 1; omega) rfl (decide_eq_true h94).symm
    simp only [rCl, e]
    exact this
  · have e : rTk P 94 s = (false, s) := by rw [rTk, if_neg (fun z => h94 (by have := (pk_iff h0 (by decide) (by decide)).mp z; rw [hs] at this; exact this))]
    have := key (false, s) h0 (by rw [if_neg h94]; exact hs) (by show s.1 ≤ _; omega) (by show i < s.1; omega) rfl (decide_eq_false h94).symm
    simp only [rCl, e]
    exact this
theorem rDg_c (hP : sgs P) {s : RS} {l : Nat} (hl : l ≤ 6) (h0 : s.2.2.2 = false) : (∃ c : Nat, s.1 < P.length ∧ pat P s.1 = nI (c + 48) ∧ l ≤ c ∧ c ≤ 6 ∧ pat P s.1 - 48 = nI c ∧ rDg P l s = (c, rInc s)) ∨ ((P.length ≤ s.1 ∨ pat P s.1 - 48 < nI l ∨ 6 < pat P s.1 - 48) ∧ rDg P l s = (l, rStk s)) := by
  by_cases hk : s.1 < P.length
  · obtain ⟨c, v1, v2, v3⟩ := hP.n hk
    by_cases hz : pat P s.1 - 48 < nI l ∨ 6 < pat P s.1 - 48
    · exact Or.inr ⟨Or.inr hz, by rw [rDg, pk_lt' h0 hk, if_pos hz]⟩
    · have hc : 48 ≤ c := by
        rcases Nat.lt_or_ge c 48 with z | z
        · refine absurd (Or.inl ?_) hz
          rw [v3]
          exact Int32.lt_of_lt_of_le (pk_sneg (b := 48) (by decide) z) (nI_pos' (by omega))
        · exact z
      have e : pat P s.1 - 48 = nI (c - 48) := by rw [v3]; exact pk_sub (b := 48) hc
      refine Or.inl ⟨c - 48, hk, by rw [v3]; congr 1; omega, ?_, ?_, e, ?_⟩
      · rcases Nat.lt_or_ge (c - 48) l with z | z
        · exact absurd (Or.inl (by rw [e]; exact nI_lt z (by omega))) hz
        · exact z
      · rcases Nat.lt_or_ge 6 (c - 48) with z | z
        · exact absurd (Or.inr (by rw [e]; exact nI_lt (a := 6) z (by omega))) hz
        · exact z
      · rw [rDg, pk_lt' h0 hk, if_neg hz, e, nI_clamp (by omega)]
  · exact Or.inr ⟨Or.inl (by omega), by
      rw [rDg, pk_ge (by omega), if_pos (Or.inl (Int32.lt_of_lt_of_le (b := 0) (by decide) (nI_pos' (by omega))))]⟩
theorem rBr_m (hP : sgs P) {s : RS} {i : Nat} (h0 : s.2.2.2 = false) (hs : s.1 = i + 1) (hi : i < P.length) : ((rBr P s).2.2.2.2 = true → mBr P i = .inl (rBr P s).2.1 ∧ (rBr P s).2.1 ≤ P.length) ∧ ((rBr P s).2.2.2.2 = false → mBr P i = .inr ((rBr P s).2.1, (rBr P s).1.2, 2 * ((rBr P s).1.2 - (rBr P s).1.1), decide ((rBr P s).1.1 = 0)) ∧ i + 3 ≤ (rBr P s).2.1 ∧ (rBr P s).2.1 ≤ P.length ∧ (rBr P s).2.2 = s.2 ∧ (rBr P s).1.1 = (pat P (i + 1) - 48).toNatClampNeg ∧ (rBr P s).1.2 = (pat P ((rBr P s).2.1 - 2) - 48).toNatClampNeg ∧ (rBr P s).1.1 ≤ (rBr P s).1.2 ∧ 1 ≤ (rBr P s).1.2 ∧ (rBr P s).1.2 ≤ 6) := by
  rcases rDg_c hP (l := 0) (by decide) h0 with ⟨m, k1, k2, k3, k4, k5, k6⟩ | ⟨k1, k2⟩
  · rw [hs] at k1 k2 k5
    have hcm : (pat P (i + 1) - 48).toNatClampNeg = m := by rw [k5, nI_clamp (by omega)]
    have hb1 : ¬ (P.length ≤ i + 1 ∨ pat P (i + 1) < 48 ∨ 54 < pat P (i + 1)) := by
      rw [k2]
      rintro (z | z | z)
      · omega
      · exact nI_nlt (a := m + 48) (b := 48) (by omega) (by omega) z
      · exact nI_nlt (a := 54) (b := m + 48) (by omega) (by decide) z
    have hmb : mBr P i = if pat P (i + 2) = 125 ∧ 0 < m then .inr (i + 3, m, 0, false) else if pat P (i + 2) = 44 then (if P.length ≤ i + 3 ∨ pat P (i + 3) - 48 < 1 ∨ 6 < pat P (i + 3) - 48 ∨ pat P (i + 3) - 48 < nI m then .inl (i + 3) else if pat P (i + 4) = 125 then .inr (i + 5, (pat P (i + 3) - 48).toNatClampNeg, 2 * ((pat P (i + 3) - 48).toNatClampNeg - m), decide (m = 0)) else .inl (i + 4)) else .inl (i + 2) := by
      rw [mBr, if_neg hb1, hcm, k5]
    have h01 : (rInc s).2.2.2 = false := h0
    have hp1 : (rInc s).1 = i + 2 := by show s.1 + 1 = _; omega
    by_cases hc : pat P (i + 2) = 44
    · have hc1 := pat_lt hc (by decide)
      have e2 : rTk P 44 (rInc s) = (true, rInc (rInc s)) := by
        rw [rTk, if_pos ((pk_iff h01 (by decide) (by decide)).mpr (by rw [hp1]; exact hc))]
      have h02 : (rInc (rInc s)).2.2.2 = false := h0
      have hp2 : (rInc (rInc s)).1 = i + 3 := by show s.1 + 1 + 1 = _; omega
      have eB : rBr P s = ((m, (rDg P (max 1 m) (rInc (rInc s))).1), rEx P 125 (rDg P (max 1 m) (rInc (rInc s))).2) := by
        simp only [rBr, k6, e2]; rfl
      rw [hmb, if_neg (by rw [hc]; exact fun z => absurd z.1 (by decide)), if_pos hc]
      rcases rDg_c hP (l := max 1 m) (by omega) h02 with ⟨n, j1, j2, j3, j4, j5, j6⟩ | ⟨j1, j2⟩
      · rw [hp2] at j1 j2 j5
        have hcn : (pat P (i + 3) - 48).toNatClampNeg = n := by rw [j5, nI_clamp (by omega)]
        rw [if_neg (by
          rw [j5]
          rintro (z | z | z | z)
          · omega
          · exact nI_nlt (a := n) (b := 1) (by omega) (by omega) z
          · exact nI_nlt (a := 6) (b := n) (by omega) (by decide) z
          · exact nI_nlt (a := n) (b := m) (by omega) (by omega) z), hcn]
        have h03 : (rInc (rInc (rInc s))).2.2.2 = false := h0
        have hp3 : (rInc (rInc (rInc s))).1 = i + 4 := by show s.1 + 1 + 1 + 1 = _; omega
        by_cases hb : pat P (i + 4) = 125
        · have hb1 := pat_lt hb (by decide)
          have e3 : rEx P 125 (rInc (rInc (rInc s))) = rInc (rInc (rInc (rInc s))) := by
            rw [rEx, if_pos ((pk_iff h03 (by decide) (by decide)).mpr (by rw [hp3]; exact hb))]
          rw [eB, j6, e3, if_pos hb]
          have hp4 : (rInc (rInc (rInc (rInc s)))).1 = i + 5 := by show s.1 + 1 + 1 + 1 + 1 = _; omega
          refine ⟨fun z => ?_, fun _ => ⟨?_, ?_, ?_, rfl, hcm.symm, ?_, ?_, ?_, j4⟩⟩
          · have z : s.2.2.2 = true := z
            rw [h0] at z; cases z
          · show _ = Sum.inr ((rInc (rInc (rInc (rInc s)))).1, n, 2 * (n - m), decide (m = 0))
            rw [hp4]
          · show i + 3 ≤ (rInc (rInc (rInc (rInc s)))).1; omega
          · show (rInc (rInc (rInc (rInc s)))).1 ≤ _; omega
          · show n = (pat P ((rInc (rInc (rInc (rInc s)))).1 - 2) - 48).toNatClampNeg
            rw [hp4]; exact hcn.symm
          · show m ≤ n; omega
          · show 1 ≤ n; omega
        · have e3 : rEx P 125 (rInc (rInc (rInc s))) = rStk (rInc (rInc (rInc s))) := by
            rw [rEx, if_neg (fun z => hb (by have := (pk_iff h03 (by decide) (by decide)).mp z; rw [hp3] at this; exact this))]
          rw [eB, j6, e3, if_neg hb]
          refine ⟨fun _ => ⟨?_, ?_⟩, fun z => by cases z⟩
          · show _ = Sum.inl (rInc (rInc (rInc s))).1; rw [hp3]
          · show (rInc (rInc (rInc s))).1 ≤ _; omega
      · rw [hp2] at j1
        rw [if_pos (by
          rcases j1 with z | z | z
          · exact Or.inl z
          · by_cases hm1 : 1 ≤ m
            · rw [Nat.max_eq_right hm1] at z; exact Or.inr (Or.inr (Or.inr z))
            · rw [Nat.max_eq_left (by omega)] at z; exact Or.inr (Or.inl z)
          · exact Or.inr (Or.inr (Or.inl z))), eB, j2, rEx_st (by decide) rfl]
        refine ⟨fun _ => ⟨?_, ?_⟩, fun z => by cases z⟩
        · show _ = Sum.inl (rInc (rInc s)).1; rw [hp2]
        · show (rInc (rInc s)).1 ≤ _; omega
    · have e2 : rTk P 44 (rInc s) = (false, rInc s) := by
        rw [rTk, if_neg (fun z => hc (by have := (pk_iff h01 (by decide) (by decide)).mp z; rw [hp1] at this; exact this))]
      have eB : rBr P s = ((m, m), rEx P 125 (if m = 0 then rStk (rInc s) else rInc s)) := by
        simp only [rBr, k6, e2]; rfl
      rw [hmb, if_neg hc]
      by_cases hm0 : m = 0
      · rw [if_neg (fun z => by omega), eB, if_pos hm0, rEx_st (by decide) rfl]
        refine ⟨fun _ => ⟨?_, ?_⟩, fun z => by cases z⟩
        · show _ = Sum.inl (rInc s).1; rw [hp1]
        · show (rInc s).1 ≤ _; omega
      · by_cases hb : pat P (i + 2) = 125
        · have hb1 := pat_lt hb (by decide)
          have e3 : rEx P 125 (rInc s) = rInc (rInc s) := by
            rw [rEx, if_pos ((pk_iff h01 (by decide) (by decide)).mpr (by rw [hp1]; exact hb))]
          have hp2 : (rInc (rInc s)).1 = i + 3 := by show s.1 + 1 + 1 = _; omega
          rw [if_pos ⟨hb, by omega⟩, eB, if_neg hm0, e3]
          refine ⟨fun z => ?_, fun _ => ⟨?_, ?_, ?_, rfl, hcm.symm, ?_, Nat.le_refl _, ?_, k4⟩⟩
          · have z : s.2.2.2 = true := z
            rw [h0] at z; cases z
          · show _ = Sum.inr ((rInc (rInc s)).1, m, 2 * (m - m), decide (m = 0))
            rw [hp2, Nat.sub_self, decide_eq_false hm0]
          · show i + 3 ≤ (rInc (rInc s)).1; omega
          · show (rInc (rInc s)).1 ≤ _; omega
          · show m = (pat P ((rInc (rInc s)).1 - 2) - 48).toNatClampNeg
            rw [hp2]; exact hcm.symm
          · show 1 ≤ m; omega
        · have e3 : rEx P 125 (rInc s) = rStk (rInc s) := by
            rw [rEx, if_neg (fun z => hb (by have := (pk_iff h01 (by decide) (by decide)).mp z; rw [hp1] at this; exact this))]
          rw [if_neg (fun z => hb z.1), eB, if_neg hm0, e3]
          refine ⟨fun _ => ⟨?_, ?_⟩, fun z => by cases z⟩
          · show _ = Sum.inl (rInc s).1; rw [hp1]
          · show (rInc s).1 ≤ _; omega
  · have eB : (rBr P s).2 = rStk s := by
      have e2 : rTk P 44 (rStk s) = (false, rStk s) := rTk_st (by decide) rfl
      simp only [rBr, k2, e2]
      exact rEx_st (P := P) (c := 125) (by decide) (s := rStk s) rfl
    rw [eB]
    refine ⟨fun _ => ⟨?_, by show s.1 ≤ _; omega⟩, fun z => by cases z⟩
    rw [mBr, if_pos]
    · show _ = Sum.inl s.1; rw [hs]
    · rw [hs] at k1
      by_cases hl : P.length ≤ i + 1
      · exact Or.inl hl
      · obtain ⟨c, v1, v2, v3⟩ := hP.n (k := i + 1) (by omega)
        rw [v3] at k1 ⊢
        by_cases hc : c < 48
        · exact Or.inr (Or.inl (nI_lt (b := 48) hc (by decide)))
        · rw [show nI c - 48 = nI (c - 48) from pk_sub (b := 48) (by omega)] at k1
          rcases k1 with z | z | z
          · exact Or.inl z
          · exact absurd z (nI_nlt (Nat.zero_le _) (by omega))
          · refine Or.inr (Or.inr (nI_lt (a := 54) ?_ (by omega)))
            have := (nI_ltI (a := 6) (by decide) (by omega)).mp z
            omega
end CB
