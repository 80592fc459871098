def rEn (P : List Int32) (s : RS) : Prop := pat P s.1 ≠ 124 ∧ rBg s.2.1 (rPk P s) = false
def frB (d : Nat) (B : MB) : Prop := B.1 d = 0 ∧ B.2.1 d = 0 ∧ B.2.2.1 d = true ∧ B.2.2.2.1 d = false ∧ B.2.2.2.2.1 = 0 ∧ B.2.2.2.2.2.1 = true
def nRp (P : List Int32) (a : Bool) (i : Nat) : Prop := a = true → isB (pat P i) 42 43 63 123 = false
def rX (P : List Int32) {X : Type} (inn : RS → X × RS) (szX : X → Nat) (mX : X → Bool) (iX : LI → X → LI → Prop) (N : Nat) : Prop := ∀ s : RS, s.2.2.2 = false → s.1 ≤ P.length → s.2.1 ≤ 6 → 7 ≤ N + s.2.1 →
  ((inn s).2.2.2.2 = false → iX (lS s) (inn s).1 (lS (inn s).2) ∧ (inn s).2.1 ≤ P.length ∧ (inn s).2.2.1 ≤ 6 ∧ rEn P (inn s).2) ∧
  ∀ d B, frB d B → Ge B s → ((inn s).2.2.2.2 = true → ckX P (s.1, d, false, B) = .inl (inn s).2.1) ∧ ((inn s).2.2.2.2 = false → ∃ a' B', ckX P (s.1, d, false, B) = ckX P ((inn s).2.1, d, a', B') ∧ Kp d B B' ∧ lst (B'.1 d + lst (B'.2.1 d + B'.2.2.2.2.1)) = lst (szX (inn s).1) ∧ (B'.2.2.2.1 d || (B'.2.2.1 d && B'.2.2.2.2.2.1)) = mX (inn s).1 ∧ Ge B' (inn s).2 ∧ nRp P a' (inn s).2.1)
section RA
variable {P : List Int32}
theorem ck_stop (hP : sgs P) {s : RS} (h0 : s.2.2.2 = false) (hE : rEn P s) (hl : s.1 < P.length) {d : Nat} {a : Bool} {B : MB} (hg : Ge B s) (h6 : s.2.1 ≤ 6) (hn : nRp P a s.1) (h41 : d = 0 ∨ pat P s.1 ≠ 41) : ckX P (s.1, d, a, B) = .inl s.1 := by
  refine ckX_no hl ?_
  obtain ⟨h1, h2⟩ := hE
  rw [pk_lt' h0 hl] at h2
  obtain ⟨c, v1, v2, v3⟩ := hP.n hl
  rw [ck1]
  show (if isB (pat P s.1) 42 43 63 123 = true then (if a = true then _ else _) else if pat P s.1 = 124 then _ else if pat P s.1 = 40 then (if B.2.2.2.2.2.2.2.1 = 6 then _ else _) else if pat P s.1 = 41 then (if d = 0 then _ else _) else if plB (pat P s.1) = false ∧ isB (pat P s.1) 46 94 36 91 = false then _ else _) = _
  by_cases k1 : isB (pat P s.1) 42 43 63 123 = true
  · rw [if_pos k1, if_neg (fun z => by rw [hn z] at k1; cases k1)]
  rw [if_neg k1, if_neg h1]
  by_cases k2 : pat P s.1 = 40
  · rw [if_pos k2, if_pos]
    rw [rBg, if_pos k2, decide_eq_false_iff_not] at h2
    rw [hg.1]; omega
  rw [if_neg k2]
  by_cases k3 : pat P s.1 = 41
  · rw [if_pos k3, if_pos]
    rcases h41 with z | z
    · exact z
    · exact absurd k3 z
  rw [if_neg k3, if_pos]
  rw [rBg, if_neg k2] at h2
  rw [v3] at h2 ⊢
  exact nbg_dec ⟨c, by omega⟩ v1 h2
variable {X : Type} {inn : RS → X × RS} {szX : X → Nat} {mX : X → Bool} {iX : LI → X → LI → Prop} {N : Nat}
theorem lAtm_lt (hi : iLe iX) {s s' : LI} {a : At X} (h : lAtm P iX s a s') : s.1 < s'.1 := by
  cases a with
  | inl l =>
    obtain ⟨-, -, -, -, -, k6, -⟩ := h
    rw [atN] at k6
    by_cases h91 : pat P s.1 = 91
    · rw [if_pos h91] at k6; exact mPC_gt k6
    · rw [if_neg h91] at k6; have := Sum.inr.inj k6; omega
  | inr g =>
    obtain ⟨-, -, -, t, k4, -, rfl⟩ := h
    have := hi _ _ _ k4
    have this : s.1 + 1 ≤ t.1 := this
    show s.1 < t.1 + 1
    omega
theorem leaf_m (hP : sgs P) {s : RS} (h0 : s.2.2.2 = false) (hl : s.1 < P.length) (h40 : pat P s.1 ≠ 40) (hb : rBg s.2.1 (rPk P s) = true) : ((rAt P inn s).2.2.2.2 = true → atN P s.1 = .inl (rAt P inn s).2.1) ∧ ((rAt P inn s).2.2.2.2 = false → ∃ lf : Lf, (rAt P inn s).1 = .inl lf ∧ atN P s.1 = .inr (rAt P inn s).2.1 ∧ (rAt P inn s).2.1 ≤ P.length ∧ (rAt P inn s).2.2 = s.2 ∧ lfO P lf (insA P s.1) ∧ (decide (pat P s.1 = 94) || decide (pat P s.1 = 36)) = !decide (lf.1 = 1)) := by
  have hP28 := hP.2
  have hpk := pk_lt' h0 hl
  obtain ⟨c, v1, v2, v3⟩ := hP.n hl
  have hst : (rInc s).2.2.2 = false := h0
  have hnst : ∀ {A : Prop}, s.2.2.2 = true → A := fun z => by rw [h0] at z; cases z
  have htl : ∀ (b : Int64 × Int64) (x : Ins), (∀ c', 32 ≤ c' → c' ≤ 126 → tkI P x (nI c') = tb b c') → ∀ sg, isSg sg = true → tkI P x sg = lfT b sg := by
    intro b x h sg hsg
    obtain ⟨c', z1, z2, rfl⟩ := isSg_n hsg
    rw [lfT_tb (by omega)]; exact h c' z1 z2
  by_cases k1 : pat P s.1 = 91
  · have e : rAt P inn s = (.inl (1, (rCl P (rInc s)).1), (rCl P (rInc s)).2) := by
      simp only [rAt, hpk]; rw [if_neg h40, if_pos k1]
    rw [e]
    have hm := rCl_m hP (s := rInc s) (i := s.1) hst rfl hl
    generalize rCl P (rInc s) = q at hm ⊢
    have ea : atN P s.1 = mPC P s.1 := by rw [atN, if_pos k1]
    refine ⟨fun z => ea.trans (hm.1 z).1, fun z => ?_⟩
    obtain ⟨m1, m2, m3, m4, m5⟩ := hm.2 z
    have ei : insA P s.1 = (2, nI s.1, 0) := by rw [insA, if_pos k1, k1]; rfl
    refine ⟨_, rfl, ea.trans m1, m3, m4, ?_, by rw [k1]; rfl⟩
    rw [ei]
    refine ⟨fun _ => ⟨s.1, _, rfl, by omega, m1⟩, Or.inl ⟨rfl, Or.inr (Or.inr rfl), htl _ _ (fun c' z1 z2 => ?_)⟩⟩
    have : tkI P (2, nI s.1, 0) (nI c') = tkC P s.1 (nI c') := by
      show (if (2 : Int32) = 0 then _ else (decide ((2 : Int32) = 1) || (decide ((2 : Int32) = 2) && tkC P (nI s.1).toNatClampNeg (nI c')))) = _
      rw [if_neg (by decide), nI_clamp (by omega)]; rfl
    rw [this, m5 c' z1 z2]
  · have ea : atN P s.1 = .inr (s.1 + 1) := by rw [atN, if_neg k1]
    by_cases k2 : pat P s.1 = 94
    · have e : rAt P inn s = (.inl (2, 0, 0), rInc s) := by
        simp only [rAt, hpk]; rw [if_neg h40, if_neg k1, if_pos k2]
      rw [e]
      have ei : insA P s.1 = (3, 94, 0) := by rw [insA, if_neg k1, k2]; rfl
      refine ⟨fun z => hnst z, fun _ => ⟨_, rfl, ea, hl, rfl, ?_, by rw [k2]; rfl⟩⟩
      rw [ei]
      exact ⟨fun z => (by cases z), Or.inr (Or.inl ⟨rfl, rfl⟩)⟩
    · by_cases k3 : pat P s.1 = 36
      · have e : rAt P inn s = (.inl (3, 0, 0), rInc s) := by
          simp only [rAt, hpk]; rw [if_neg h40, if_neg k1, if_neg k2, if_pos k3]
        rw [e]
        have ei : insA P s.1 = (4, 36, 0) := by rw [insA, if_neg k1, k3]; rfl
        refine ⟨fun z => hnst z, fun _ => ⟨_, rfl, ea, hl, rfl, ?_, by rw [k3]; rfl⟩⟩
        rw [ei]
        exact ⟨fun z => (by cases z), Or.inr (Or.inr ⟨rfl, rfl⟩)⟩
      · by_cases k4 : pat P s.1 = 46
        · have e : rAt P inn s = (.inl (1, tkS 95 32 (0, 0)), rInc s) := by
            simp only [rAt, hpk]; rw [if_neg h40, if_neg k1, if_neg k2, if_neg k3, if_pos k4]
          rw [e]
          have ei : insA P s.1 = (1, 46, 0) := by rw [insA, if_neg k1, k4]; rfl
          refine ⟨fun z => hnst z, fun _ => ⟨_, rfl, ea, hl, rfl, ?_, by rw [k4]; rfl⟩⟩
          rw [ei]
          refine ⟨fun z => (by cases z), Or.inl ⟨rfl, Or.inr (Or.inl rfl), htl _ _ (fun c' z1 z2 => ?_)⟩⟩
          show _ = tb (tkS 95 32 (0, 0)) c'
          rw [tkS_tb _ _ _ _ (by decide) (by omega), decide_eq_true (by omega), Bool.or_true]
          rfl
        · have e : rAt P inn s = (.inl (1, tkS 1 (pat P s.1).toNatClampNeg (0, 0)), rInc s) := by
            simp only [rAt, hpk]; rw [if_neg h40, if_neg k1, if_neg k2, if_neg k3, if_neg k4]
          rw [e]
          have ei : insA P s.1 = (0, pat P s.1, 0) := by rw [insA, if_neg k1, kdI, if_neg k4, if_neg k1, if_neg k2, if_neg k3]
          refine ⟨fun z => hnst z, fun _ => ⟨_, rfl, ea, hl, rfl, ?_, by rw [decide_eq_false k2, decide_eq_false k3]; rfl⟩⟩
          rw [ei, v3, nI_clamp (by omega)]
          refine ⟨fun z => (by cases z), Or.inl ⟨rfl, Or.inl rfl, htl _ _ (fun c' z1 z2 => ?_)⟩⟩
          show (if (0 : Int32) = 0 then decide (nI c = nI c') else _) = tb (tkS 1 c (0, 0)) c'
          rw [if_pos rfl, tkS_tb _ _ _ _ (by omega) (by omega), tb_zero, Bool.false_or]
          refine decide_eq_decide.mpr ?_
          rw [nI_eq (by omega) (by omega)]
          omega
theorem a_at (hP : sgs P) (ih : rX P inn szX mX iX N) {s : RS} (h0 : s.2.2.2 = false) (hl : s.1 < P.length) (h6 : s.2.1 ≤ 6) (hN : 7 ≤ N + 1 + s.2.1) (hb : rBg s.2.1 (rPk P s) = true) :
    ((rAt P inn s).2.2.2.2 = false → lAtm P iX (lS s) (rAt P inn s).1 (lS (rAt P inn s).2) ∧ (rAt P inn s).2.1 ≤ P.length ∧ (rAt P inn s).2.2.1 ≤ 6) ∧
    ∀ d a0 B, Ge B s → ((rAt P inn s).2.2.2.2 = true → ckX P (s.1, d, a0, B) = .inl (rAt P inn s).2.1) ∧ ((rAt P inn s).2.2.2.2 = false → ∀ sz em, RwI d sz em B → ∃ B', ckX P (s.1, d, a0, B) = ckX P ((rAt P inn s).2.1, d, true, B') ∧ Kc d B B' ∧ B'.2.1 d = lst sz ∧ B'.2.2.1 d = em ∧ B'.2.2.2.2.1 = lst (atS szX (rAt P inn s).1) ∧ B'.2.2.2.2.2.1 = atE mX (rAt P inn s).1 ∧ Ge B' (rAt P inn s).2) := by
  have hpk := pk_lt' h0 hl
  obtain ⟨c, v1, v2, v3⟩ := hP.n hl
  by_cases h40 : pat P s.1 = 40
  · have hg6 : s.2.1 < 6 := by
      rw [hpk, rBg, if_pos h40, decide_eq_true_eq] at hb; exact hb
    have e : rAt P inn s = (.inr (s.2.1 + 1, (inn (s.1 + 1, s.2.1 + 1, s.2.2)).1), rEx P 41 (inn (s.1 + 1, s.2.1 + 1, s.2.2)).2) := by
      simp only [rAt, hpk]; rw [if_pos h40]; rfl
    rw [e]
    obtain ⟨i1, i2⟩ := ih (s.1 + 1, s.2.1 + 1, s.2.2) h0 (by show s.1 + 1 ≤ _; omega) (by show s.2.1 + 1 ≤ 6; omega) (by show 7 ≤ N + (s.2.1 + 1); omega)
    generalize inn (s.1 + 1, s.2.1 + 1, s.2.2) = q at i1 i2 ⊢
    have hopen : ∀ d a0 B, Ge B s → ckX P (s.1, d, a0, B) = ckX P (s.1 + 1, d + 1, false, bOR (d + 1) (bOp (d + 1) (bCP d B))) := by
      intro d a0 B hg
      refine ckX_go hl ?_
      rw [ck1]
      show (if isB (pat P s.1) 42 43 63 123 = true then _ else if pat P s.1 = 124 then _ else if pat P s.1 = 40 then (if B.2.2.2.2.2.2.2.1 = 6 then _ else _) else _) = _
      rw [if_neg (by rw [h40]; decide), if_neg (by rw [h40]; decide), if_pos h40, if_neg (by rw [hg.1]; omega)]
    have hfr : ∀ d B, frB (d + 1) (bOR (d + 1) (bOp (d + 1) (bCP d B))) := fun d B => ⟨va_up_self B.1 (d + 1) 0, va_up_self _ (d + 1) 0, va_up_self _ (d + 1) true, va_up_self B.2.2.2.1 (d + 1) false, rfl, rfl⟩
    have hge : ∀ d B, Ge B s → Ge (bOR (d + 1) (bOp (d + 1) (bCP d B))) (s.1 + 1, s.2.1 + 1, s.2.2) := fun d B hg => ⟨congrArg (· + 1) hg.1, hg.2⟩
    cases hq : q.2.2.2.2 with
    | true =>
      have ex : rEx P 41 q.2 = q.2 := rEx_st (by decide) hq
      show ((rEx P 41 q.2).2.2.2 = false → _) ∧ ∀ d a0 B, Ge B s → ((rEx P 41 q.2).2.2.2 = true → ckX P (s.1, d, a0, B) = .inl (rEx P 41 q.2).1) ∧ ((rEx P 41 q.2).2.2.2 = false → _)
      rw [ex]
      refine ⟨fun z => (by rw [hq] at z; cases z), fun d a0 B hg => ⟨fun _ => ?_, fun z => (by rw [hq] at z; cases z)⟩⟩
      rw [hopen d a0 B hg]
      exact (i2 (d + 1) _ (hfr d B) (hge d B hg)).1 hq
    | false =>
      obtain ⟨j1, j2, j4, j5⟩ := i1 hq
      by_cases h41 : pat P q.2.1 = 41
      · have hlt := pat_lt h41 (by decide)
        have ex : rEx P 41 q.2 = rInc q.2 := by rw [rEx, if_pos ((pk_iff hq (by decide) (by decide)).mpr h41)]
        show ((rEx P 41 q.2).2.2.2 = false → lAtm P iX (lS s) (.inr (s.2.1 + 1, q.1)) (lS (rEx P 41 q.2)) ∧ (rEx P 41 q.2).1 ≤ P.length ∧ (rEx P 41 q.2).2.1 ≤ 6) ∧ ∀ d a0 B, Ge B s → ((rEx P 41 q.2).2.2.2 = true → _) ∧ ((rEx P 41 q.2).2.2.2 = false → ∀ sz em, RwI d sz em B → ∃ B', ckX P (s.1, d, a0, B) = ckX P ((rEx P 41 q.2).1, d, true, B') ∧ Kc d B B' ∧ B'.2.1 d = lst sz ∧ B'.2.2.1 d = em ∧ B'.2.2.2.2.1 = lst (szX q.1 + 2) ∧ B'.2.2.2.2.2.1 = mX q.1 ∧ Ge B' (rEx P 41 q.2))
        rw [ex]
        refine ⟨fun _ => ⟨⟨h40, hg6, rfl, lS q.2, j1, h41, rfl⟩, hlt, j4⟩, fun d a0 B hg => ⟨fun z => ?_, fun _ sz em hR => ?_⟩⟩
        · have z : q.2.2.2.2 = true := z
          rw [hq] at z; cases z
        · obtain ⟨a', B', k1, k2, k3, k4, k5, k6⟩ := (i2 (d + 1) _ (hfr d B) (hge d B hg)).2 hq
          refine ⟨bCs (d + 1) (bCP (d + 1) B'), ?_, ?_, ?_, ?_, ?_, ?_, k5⟩
          · rw [hopen d a0 B hg]
            refine k1.trans (ckX_go hlt ?_)
            rw [ck1]
            show (if isB (pat P q.2.1) 42 43 63 123 = true then _ else if pat P q.2.1 = 124 then _ else if pat P q.2.1 = 40 then _ else if pat P q.2.1 = 41 then (if d + 1 = 0 then _ else _) else _) = _
            rw [if_neg (by rw [h41]; decide), if_neg (by rw [h41]; decide), if_neg (by rw [h41]; decide), if_pos h41, if_neg (by omega)]
            rfl
          · have hj : ∀ j, j ≤ d → (bCs (d + 1) (bCP (d + 1) B')).1 j = B.1 j ∧ (bCs (d + 1) (bCP (d + 1) B')).2.1 j = (bCP d B).2.1 j ∧ (bCs (d + 1) (bCP (d + 1) B')).2.2.1 j = (bCP d B).2.2.1 j ∧ (bCs (d + 1) (bCP (d + 1) B')).2.2.2.1 j = B.2.2.2.1 j := fun j hj => by
              obtain ⟨y1, y2, y3, y4⟩ := k2 j (by omega)
              refine ⟨y1.trans (va_up_ne _ _ (by omega)), ?_, ?_, y4.trans (va_up_ne _ _ (by omega))⟩
              · refine (va_up_ne _ _ (by omega)).trans (y2.trans (va_up_ne _ _ (by omega)))
              · refine (va_up_ne _ _ (by omega)).trans (y3.trans (va_up_ne _ _ (by omega)))
            refine ⟨fun j z => ?_, (hj d (Nat.le_refl _)).1, (hj d (Nat.le_refl _)).2.2.2⟩
            obtain ⟨y1, y2, y3, y4⟩ := hj j (by omega)
            exact ⟨y1, y2.trans (va_up_ne _ _ (by omega)), y3.trans (va_up_ne _ _ (by omega)), y4⟩
          · obtain ⟨y1, y2, y3, y4⟩ := k2 d (by omega)
            refine (va_up_ne _ _ (by omega)).trans (y2.trans ((va_up_ne _ _ (by omega)).trans ((va_up_self _ _ _).trans hR.1)))
          · obtain ⟨y1, y2, y3, y4⟩ := k2 d (by omega)
            refine (va_up_ne _ _ (by omega)).trans (y3.trans ((va_up_ne _ _ (by omega)).trans ((va_up_self _ _ _).trans hR.2)))
          · show lst (2 + B'.1 (d + 1) + va_up B'.2.1 (d + 1) (lst (B'.2.1 (d + 1) + B'.2.2.2.2.1)) (d + 1)) = _
            rw [va_up_self, Nat.add_assoc, lst_add 2 k3, Nat.add_comm]
          · show (B'.2.2.2.1 (d + 1) || va_up B'.2.2.1 (d + 1) (B'.2.2.1 (d + 1) && B'.2.2.2.2.2.1) (d + 1)) = _
            rw [va_up_self]; exact k4
      · have ex : rEx P 41 q.2 = rStk q.2 := by rw [rEx, if_neg (fun z => h41 ((pk_iff hq (by decide) (by decide)).mp z))]
        show ((rEx P 41 q.2).2.2.2 = false → _) ∧ ∀ d a0 B, Ge B s → ((rEx P 41 q.2).2.2.2 = true → ckX P (s.1, d, a0, B) = .inl (rEx P 41 q.2).1) ∧ ((rEx P 41 q.2).2.2.2 = false → _)
        rw [ex]
        refine ⟨fun z => (by cases z), fun d a0 B hg => ⟨fun _ => ?_, fun z => (by cases z)⟩⟩
        obtain ⟨a', B', k1, k2, k3, k4, k5, k6⟩ := (i2 (d + 1) _ (hfr d B) (hge d B hg)).2 hq
        rw [hopen d a0 B hg]
        refine k1.trans ?_
        rcases Nat.lt_or_ge q.2.1 P.length with z | z
        · exact ck_stop hP hq j5 z k5 j4 k6 (Or.inr h41)
        · rw [ckX_end z, ckE, if_neg (by show ¬ d + 1 = 0; omega)]
          show Sum.inl P.length = Sum.inl q.2.1
          congr 1; omega
  · have hm := leaf_m (inn := inn) hP h0 hl h40 hb
    have hbd : isB (pat P s.1) 42 43 63 123 = false ∧ pat P s.1 ≠ 124 ∧ pat P s.1 ≠ 40 ∧ pat P s.1 ≠ 41 ∧ ¬ (plB (pat P s.1) = false ∧ isB (pat P s.1) 46 94 36 91 = false) := by
      rw [hpk, rBg, if_neg h40, v3] at hb
      rw [v3]
      exact beg_dec ⟨c, by omega⟩ v1 hb
    obtain ⟨b1, b2, b3, b4, b5⟩ := hbd
    have hck : ∀ d a0 B, ck1 P (s.1, d, a0, B) = (match atN P s.1 with | .inl k => .inl k | .inr n => .inr (n, d, true, bAt (decide (pat P s.1 = 94) || decide (pat P s.1 = 36)) (bCP d B))) := by
      intro d a0 B
      rw [ck1]
      show (if isB (pat P s.1) 42 43 63 123 = true then _ else if pat P s.1 = 124 then _ else if pat P s.1 = 40 then _ else if pat P s.1 = 41 then _ else if plB (pat P s.1) = false ∧ isB (pat P s.1) 46 94 36 91 = false then _ else _) = _
      rw [if_neg (by rw [b1]; decide), if_neg b2, if_neg b3, if_neg b4, if_neg b5]
      rfl
    generalize rAt P inn s = q at hm ⊢
    refine ⟨fun z => ?_, fun d a0 B hg => ⟨fun z => ?_, fun z sz em hR => ?_⟩⟩
    · obtain ⟨lf, m1, m2, m3, m4, m5, m6⟩ := hm.2 z
      rw [m1]
      exact ⟨⟨hl, b1, b2, b3, b4, m2, by show (q.2.2.1, q.2.2.2.1) = (s.2.1, s.2.2.1); rw [m4], m5⟩, m3, by rw [m4]; exact h6⟩
    · exact ckX_no hl (by rw [hck, hm.1 z])
    · obtain ⟨lf, m1, m2, m3, m4, m5, m6⟩ := hm.2 z
      refine ⟨bAt (decide (pat P s.1 = 94) || decide (pat P s.1 = 36)) (bCP d B), ckX_go hl (by rw [hck, m2]), Kc_cp d B, (va_up_self _ _ _).trans hR.1, (va_up_self _ _ _).trans hR.2, ?_, ?_, ?_⟩
      · rw [m1]; rfl
      · rw [m1]; exact m6
      · show Ge B q.2
        rw [Ge, m4]; exact hg
def iGe (iX : LI → X → LI → Prop) : Prop := ∀ s x s', iX s x s' → s.2.1 ≤ s'.2.1
theorem lAtm_ge (hi : iGe iX) {s s' : LI} {a : At X} (h : lAtm P iX s a s') : s.2.1 ≤ s'.2.1 := by
  cases a with
  | inl l =>
    obtain ⟨-, -, -, -, -, -, k7, -⟩ := h
    rw [k7]; exact Nat.le_refl _
  | inr g =>
    obtain ⟨-, -, -, t, k4, -, rfl⟩ := h
    have : s.2.1 + 1 ≤ t.2.1 := hi _ _ _ k4
    show s.2.1 ≤ t.2.1
    omega
theorem lPce_ge (hi : iGe iX) {s s' : LI} {y : Pc X} (h : lPce P mX iX s y s') : s.2.1 ≤ s'.2.1 := by
  obtain ⟨t, k1, k2, -⟩ := h
  rw [k2]; exact lAtm_ge hi k1
theorem lRow_ge (hi : iGe iX) : ∀ {ys : List (Pc X)} {s s' : LI}, lRow P mX iX s ys s' → s.2.1 ≤ s'.2.1
  | [], s, s', h => by rw [show s' = s from h]; exact Nat.le_refl _
  | y :: ys, s, s', h => by
    obtain ⟨t, k1, k2⟩ := h
    exact Nat.le_trans (lPce_ge hi k1) (lRow_ge hi k2)
theorem lChc_ge (hi : iGe iX) : ∀ {rs : Cc X} {s s' : LI}, lChc P mX iX s rs s' → s.2.1 ≤ s'.2.1
  | [], s, s', h => h.elim
  | [r], s, s', h => lRow_ge hi h
  | r :: r' :: rs, s, s', h => by
    obtain ⟨t, k1, -, k2⟩ := h
    exact Nat.le_trans (lRow_ge hi k1) (lChc_ge (s := (t.1 + 1, t.2)) hi k2)
theorem a_pc (hP : sgs P) (ih : rX P inn szX mX iX N) {s : RS} (h0 : s.2.2.2 = false) (hl : s.1 < P.length) (h6 : s.2.1 ≤ 6) (hN : 7 ≤ N + 1 + s.2.1) (hb : rBg s.2.1 (rPk P s) = true) :
    ((rPc P mX inn s).2.2.2.2 = false → lPce P mX iX (lS s) (rPc P mX inn s).1 (lS (rPc P mX inn s).2) ∧ (rPc P mX inn s).2.1 ≤ P.length ∧ (rPc P mX inn s).2.2.1 ≤ 6) ∧
    ∀ d a0 B, Ge B s → ((rPc P mX inn s).2.2.2.2 = true → ckX P (s.1, d, a0, B) = .inl (rPc P mX inn s).2.1) ∧ ((rPc P mX inn s).2.2.2.2 = false → ∀ sz em, RwI d sz em B → ∃ a' B', ckX P (s.1, d, a0, B) = ckX P ((rPc P mX inn s).2.1, d, a', B') ∧ Kc d B B' ∧ RwI d (sz + pcS szX (rPc P mX inn s).1) (em && pcE mX (rPc P mX inn s).1) B' ∧ Ge B' (rPc P mX inn s).2 ∧ nRp P a' (rPc P mX inn s).2.1) := by
  obtain ⟨A1, A2⟩ := a_at hP ih h0 hl h6 hN hb
  have e : rPc P mX inn s = (((rAt P inn s).1, ((rRp P (rAt P inn s).2).2.1.1, (rRp P (rAt P inn s).2).2.1.2.1, (rRp P (rAt P inn s).2).2.1.2.2, (if (rRp P (rAt P inn s).2).1 then rTk P 63 (rRp P (rAt P inn s).2).2.2 else (false, (rRp P (rAt P inn s).2).2.2)).1)), rEnd ((rRp P (rAt P inn s).2).2.1.2.2 && atE mX (rAt P inn s).1) (if (rRp P (rAt P inn s).2).1 then rTk P 63 (rRp P (rAt P inn s).2).2.2 else (false, (rRp P (rAt P inn s).2).2.2)).2) := rfl
  rw [e]
  clear e
  generalize rAt P inn s = a at A1 A2 ⊢
  cases ha : a.2.2.2.2 with
  | true =>
    rw [rRp_no (Or.inl ha)]
    refine ⟨fun z => ?_, fun d a0 B hg => ⟨fun _ => (A2 d a0 B hg).1 ha, fun z => ?_⟩⟩
    · have z : a.2.2.2.2 = false := z
      rw [ha] at z; cases z
    · have z : a.2.2.2.2 = false := z
      rw [ha] at z; cases z
  | false =>
    obtain ⟨B1, B2, B3⟩ := A1 ha
    cases hi : isB (pat P a.2.1) 42 43 63 123 with
    | false =>
      rw [rRp_no (Or.inr ⟨ha, hi⟩)]
      refine ⟨fun _ => ⟨⟨lS a.2, B1, rfl, Or.inl ⟨rfl, rfl⟩⟩, B2, B3⟩, fun d a0 B hg => ⟨fun z => ?_, fun _ sz em hR => ?_⟩⟩
      · have z : a.2.2.2.2 = true := z
        rw [ha] at z; cases z
      · obtain ⟨B', k1, k2, k3, k4, k5, k6, k7⟩ := (A2 d a0 B hg).2 ha sz em hR
        refine ⟨true, B', k1, k2, ⟨?_, ?_⟩, ⟨k7.1, ?_⟩, fun _ => hi⟩
        · show lst (B'.2.1 d + B'.2.2.2.2.1) = lst (sz + (1 * atS szX a.1 + 2 * (1 - 1)))
          rw [k3, k5, lst_lst, Nat.add_comm, lst_lst, Nat.one_mul, Nat.sub_self, Nat.mul_zero, Nat.add_zero, Nat.add_comm]
        · show (B'.2.2.1 d && B'.2.2.2.2.2.1) = (em && (decide (1 = 0) || atE mX a.1))
          rw [k4, k6]; rfl
        · show B'.2.2.2.2.2.2.1 = (a.2.2.2.1 || (false && atE mX a.1))
          rw [k7.2, Bool.false_and, Bool.or_false]
    | true =>
      have hal : a.2.1 < P.length := by rcases isB_c hi with z | z | z | z <;> exact pat_lt z (by decide)
      obtain ⟨r1, r2, r3⟩ := rRp_m hP ha hi hal
      generalize rRp P a.2 = r at r1 r2 r3 ⊢
      rw [r1]
      show ((rTk P 63 r.2.2).2.2.2.2 = false → lPce P mX iX (lS s) (a.1, (r.2.1.1, r.2.1.2.1, r.2.1.2.2, (rTk P 63 r.2.2).1)) (lS (rEnd (r.2.1.2.2 && atE mX a.1) (rTk P 63 r.2.2).2)) ∧ (rTk P 63 r.2.2).2.1 ≤ P.length ∧ (rTk P 63 r.2.2).2.2.1 ≤ 6) ∧ ∀ d a0 B, Ge B s → ((rTk P 63 r.2.2).2.2.2.2 = true → ckX P (s.1, d, a0, B) = .inl (rTk P 63 r.2.2).2.1) ∧ ((rTk P 63 r.2.2).2.2.2.2 = false → ∀ sz em, RwI d sz em B → ∃ a' B', ckX P (s.1, d, a0, B) = ckX P ((rTk P 63 r.2.2).2.1, d, a', B') ∧ Kc d B B' ∧ RwI d (sz + pcS szX (a.1, (r.2.1.1, r.2.1.2.1, r.2.1.2.2, (rTk P 63 r.2.2).1))) (em && pcE mX (a.1, (r.2.1.1, r.2.1.2.1, r.2.1.2.2, (rTk P 63 r.2.2).1))) B' ∧ Ge B' (rEnd (r.2.1.2.2 && atE mX a.1) (rTk P 63 r.2.2).2) ∧ nRp P a' (rTk P 63 r.2.2).2.1)
      generalize rTk P 63 r.2.2 = t at r2 r3 ⊢
      have hck : ∀ d B', ck1 P (a.2.1, d, true, B') = (match mRp P a.2.1 with | .inl k => .inl k | .inr q => .inr (q.1, d, false, bRp q.2.1 q.2.2.1 q.2.2.2.1 q.2.2.2.2 B')) := by
        intro d B'
        rw [ck1]
        show (if isB (pat P a.2.1) 42 43 63 123 = true then (if true = true then _ else _) else _) = _
        rw [if_pos hi, if_pos rfl]
        rfl
      refine ⟨fun z => ?_, fun d a0 B hg => ⟨fun z => ?_, fun z sz em hR => ?_⟩⟩
      · obtain ⟨m1, m2, q, m3, m4, m5, m6, m7, m8⟩ := r3 z
        refine ⟨⟨lS a.2, B1, ?_, Or.inr ⟨hi, q, m3, m4, m5, m6, m7⟩⟩, m2, by rw [m1]; exact B3⟩
        show (t.2.2.1, (t.2.2.2.1 || (r.2.1.2.2 && atE mX a.1))) = (a.2.2.1, a.2.2.2.1 || (r.2.1.2.2 && atE mX a.1))
        rw [m1]
      · obtain ⟨m1, m2⟩ := r2 z
        obtain ⟨B', k1, -⟩ := (A2 d a0 B hg).2 ha _ _ (⟨rfl, rfl⟩ : RwI d (B.2.1 d + B.2.2.2.2.1) (B.2.2.1 d && B.2.2.2.2.2.1) B)
        rw [k1]
        exact ckX_no hal (by rw [hck, m1])
      · obtain ⟨m1, m2, q, m3, m4, m5, m6, m7, m8, m9, m10, m11⟩ := r3 z
        obtain ⟨B', k1, k2, k3, k4, k5, k6, k7⟩ := (A2 d a0 B hg).2 ha sz em hR
        have hmp : mRp P a.2.1 = .inr (t.2.1, q.2) := by rw [mRp, m3, m5]
        refine ⟨false, bRp q.2.1 q.2.2.1 q.2.2.2.1 q.2.2.2.2 B', k1.trans (ckX_go hal (by rw [hck, hmp])), k2, ⟨?_, ?_⟩, ⟨?_, ?_⟩, fun z => by cases z⟩
        · show lst (B'.2.1 d + lst (B'.2.2.2.2.1 * q.2.1 + q.2.2.1)) = lst (sz + (if r.2.1.2.2 then atS szX a.1 + 2 else r.2.1.2.1 * atS szX a.1 + 2 * (r.2.1.2.1 - r.2.1.1)))
          rw [k3, k5, m9, lst_lst, Nat.add_comm, lst_lst, Nat.add_comm]
        · show (B'.2.2.1 d && (B'.2.2.2.2.2.1 || q.2.2.2.1)) = (em && (decide (r.2.1.1 = 0) || atE mX a.1))
          rw [k4, k6, m10, Bool.or_comm]
        · show B'.2.2.2.2.2.2.2.1 = t.2.2.1
          rw [m1, k7.1]
        · show (B'.2.2.2.2.2.2.1 || (q.2.2.2.2 && B'.2.2.2.2.2.1)) = (t.2.2.2.1 || (r.2.1.2.2 && atE mX a.1))
          rw [m1, k7.2, m11, k6]
theorem rBg_no (g : Nat) : rBg g (-2) = false := by
  rw [rBg, if_neg (by decide)]; decide
theorem rRw_st {s : RS} {ps : List (Pc X)} (h : s.2.2.2 = true) : ∀ k, rRw P mX inn k (ps, s) = (ps, s)
  | 0 => rfl
  | k + 1 => by rw [rRw, if_neg (by rw [pk_st h, rBg_no]; decide)]
theorem a_rw (hP : sgs P) (hi : iLe iX) (hi2 : iGe iX) (ih : rX P inn szX mX iX N) : ∀ (k : Nat) (ps : List (Pc X)) (s : RS), s.2.2.2 = false → s.1 ≤ P.length → P.length ≤ s.1 + k → s.2.1 ≤ 6 → 7 ≤ N + 1 + s.2.1 →
    ∃ ys, (rRw P mX inn k (ps, s)).1 = ps ++ ys ∧
      ((rRw P mX inn k (ps, s)).2.2.2.2 = false → lRow P mX iX (lS s) ys (lS (rRw P mX inn k (ps, s)).2) ∧ (rRw P mX inn k (ps, s)).2.1 ≤ P.length ∧ (rRw P mX inn k (ps, s)).2.2.1 ≤ 6 ∧ rBg (rRw P mX inn k (ps, s)).2.2.1 (rPk P (rRw P mX inn k (ps, s)).2) = false) ∧
      ∀ d a0 B, Ge B s → nRp P a0 s.1 → ((rRw P mX inn k (ps, s)).2.2.2.2 = true → ckX P (s.1, d, a0, B) = .inl (rRw P mX inn k (ps, s)).2.1) ∧ ((rRw P mX inn k (ps, s)).2.2.2.2 = false → ∀ sz em, RwI d sz em B → ∃ a' B', ckX P (s.1, d, a0, B) = ckX P ((rRw P mX inn k (ps, s)).2.1, d, a', B') ∧ Kc d B B' ∧ RwI d (sz + rwS szX ys) (em && rwE mX ys) B' ∧ Ge B' (rRw P mX inn k (ps, s)).2 ∧ nRp P a' (rRw P mX inn k (ps, s)).2.1) := by
  have base : ∀ (ps : List (Pc X)) (s : RS) (q : List (Pc X) × RS), q = (ps, s) → s.2.2.2 = false → s.1 ≤ P.length → s.2.1 ≤ 6 → rBg s.2.1 (rPk P s) = false →
    ∃ ys, q.1 = ps ++ ys ∧ (q.2.2.2.2 = false → lRow P mX iX (lS s) ys (lS q.2) ∧ q.2.1 ≤ P.length ∧ q.2.2.1 ≤ 6 ∧ rBg q.2.2.1 (rPk P q.2) = false) ∧
      ∀ d a0 B, Ge B s → nRp P a0 s.1 → (q.2.2.2.2 = true → ckX P (s.1, d, a0, B) = .inl q.2.1) ∧ (q.2.2.2.2 = false → ∀ sz em, RwI d sz em B → ∃ a' B', ckX P (s.1, d, a0, B) = ckX P (q.2.1, d, a', B') ∧ Kc d B B' ∧ RwI d (sz + rwS szX ys) (em && rwE mX ys) B' ∧ Ge B' q.2 ∧ nRp P a' q.2.1) := by
    rintro ps s q rfl h0 h1 h2 h3
    refine ⟨[], (List.append_nil _).symm, fun _ => ⟨rfl, h1, h2, h3⟩, fun d a0 B hg hn => ⟨fun z => ?_, fun _ sz em hR => ⟨a0, B, rfl, Kc.rf, ?_, hg, hn⟩⟩⟩
    · have z : s.2.2.2 = true := z
      rw [h0] at z; cases z
    · refine ⟨hR.1, ?_⟩
      rw [hR.2]
      show em = (em && true)
      rw [Bool.and_true]
  intro k
  induction k with
  | zero =>
    intro ps s h0 h1 h2 h3 h4
    exact base ps s _ rfl h0 h1 h3 (by rw [pk_ge (by omega)]; exact rBg_no _)
  | succ k ihk =>
    intro ps s h0 h1 h2 h3 h4
    cases hb : rBg s.2.1 (rPk P s) with
    | false => exact base ps s _ (by rw [rRw, if_neg (by rw [hb]; decide)]) h0 h1 h3 hb
    | true =>
      have e : rRw P mX inn (k + 1) (ps, s) = rRw P mX inn k (ps ++ [(rPc P mX inn s).1], (rPc P mX inn s).2) := by rw [rRw, if_pos hb]
      have hl : s.1 < P.length := by
        rcases Nat.lt_or_ge s.1 P.length with z | z
        · exact z
        · rw [pk_ge z, rBg_no] at hb; cases hb
      rw [e]
      obtain ⟨A1, A2⟩ := a_pc hP ih h0 hl h3 h4 hb
      generalize rPc P mX inn s = p at A1 A2 ⊢
      cases hp : p.2.2.2.2 with
      | true =>
        rw [rRw_st hp]
        refine ⟨[p.1], rfl, fun z => ?_, fun d a0 B hg hn => ⟨fun _ => (A2 d a0 B hg).1 hp, fun z => ?_⟩⟩
        · have z : p.2.2.2.2 = false := z
          rw [hp] at z; cases z
        · have z : p.2.2.2.2 = false := z
          rw [hp] at z; cases z
      | false =>
        obtain ⟨p1, p2, p3⟩ := A1 hp
        have hgt : s.1 < p.2.1 := by
          obtain ⟨t, z1, z2⟩ := p1
          have := lAtm_lt hi z1
          have := lRpt_le z2
          exact Nat.lt_of_lt_of_le (lAtm_lt hi z1) (lRpt_le z2)
        have hge : s.2.1 ≤ p.2.2.1 := lPce_ge hi2 p1
        obtain ⟨ys, i1, i2, i3⟩ := ihk (ps ++ [p.1]) p.2 hp p2 (by omega) p3 (by omega)
        refine ⟨p.1 :: ys, by rw [i1, List.append_assoc]; rfl, fun z => ?_, fun d a0 B hg hn => ⟨fun z => ?_, fun z sz em hR => ?_⟩⟩
        · obtain ⟨j1, j2, j3, j4⟩ := i2 z
          exact ⟨⟨lS p.2, p1, j1⟩, j2, j3, j4⟩
        · obtain ⟨a', B', k1, k2, k3, k4, k5⟩ := (A2 d a0 B hg).2 hp _ _ (⟨rfl, rfl⟩ : RwI d (B.2.1 d + B.2.2.2.2.1) (B.2.2.1 d && B.2.2.2.2.2.1) B)
          rw [k1]
          exact (i3 d a' B' k4 k5).1 z
        · obtain ⟨a', B', k1, k2, k3, k4, k5⟩ := (A2 d a0 B hg).2 hp sz em hR
          obtain ⟨a2, B2, l1, l2, l3, l4, l5⟩ := (i3 d a' B' k4 k5).2 z _ _ k3
          refine ⟨a2, B2, k1.trans l1, k2.tr l2, ?_, l4, l5⟩
          have e1 : rwS szX (p.1 :: ys) = pcS szX p.1 + rwS szX ys := by simp [rwS]
          have e2 : rwE mX (p.1 :: ys) = (pcE mX p.1 && rwE mX ys) := rfl
          rw [e1, e2, ← Nat.add_assoc, ← Bool.and_assoc]
          exact l3
def lTl (P : List Int32) (mX : X → Bool) (iX : LI → X → LI → Prop) (s : LI) (rs : Cc X) (s' : LI) : Prop := (rs = [] ∧ s' = s) ∨ (rs ≠ [] ∧ pat P s.1 = 124 ∧ lChc P mX iX (s.1 + 1, s.2) rs s')
theorem lTl.ch {s0 s s' : LI} {r : List (Pc X)} {rs : Cc X} (h1 : lRow P mX iX s0 r s) (h2 : lTl P mX iX s rs s') : lChc P mX iX s0 (r :: rs) s' := by
  rcases h2 with ⟨rfl, rfl⟩ | ⟨h0, k1, k2⟩
  · exact h1
  · cases rs with
    | nil => exact absurd rfl h0
    | cons r' rs => exact ⟨s, h1, k1, k2⟩
def tlS (szX : X → Nat) (rs : Cc X) : Nat := (rs.map (fun r => rwS szX r + 2)).sum
theorem rCc_st {s : RS} {rs : Cc X} (h : s.2.2.2 = true) : ∀ k, rCc P mX inn k (rs, s) = (rs, s)
  | 0 => rfl
  | k + 1 => by rw [rCc, if_neg (by rw [pk_st h]; decide)]
theorem a_cc (hP : sgs P) (hi : iLe iX) (hi2 : iGe iX) (ih : rX P inn szX mX iX N) : ∀ (k : Nat) (rs : Cc X) (s : RS), s.2.2.2 = false → s.1 ≤ P.length → P.length ≤ s.1 + k → s.2.1 ≤ 6 → 7 ≤ N + 1 + s.2.1 → rBg s.2.1 (rPk P s) = false →
    ∃ rs', (rCc P mX inn k (rs, s)).1 = rs ++ rs' ∧
      ((rCc P mX inn k (rs, s)).2.2.2.2 = false → lTl P mX iX (lS s) rs' (lS (rCc P mX inn k (rs, s)).2) ∧ (rCc P mX inn k (rs, s)).2.1 ≤ P.length ∧ (rCc P mX inn k (rs, s)).2.2.1 ≤ 6 ∧ rEn P (rCc P mX inn k (rs, s)).2) ∧
      ∀ d a0 B, Ge B s → nRp P a0 s.1 → ((rCc P mX inn k (rs, s)).2.2.2.2 = true → ckX P (s.1, d, a0, B) = .inl (rCc P mX inn k (rs, s)).2.1) ∧ ((rCc P mX inn k (rs, s)).2.2.2.2 = false → ∀ sz em, RwI d sz em B → ∃ a' B', ckX P (s.1, d, a0, B) = ckX P ((rCc P mX inn k (rs, s)).2.1, d, a', B') ∧ Kp d B B' ∧ lst (B'.1 d + lst (B'.2.1 d + B'.2.2.2.2.1)) = lst (B.1 d + sz + tlS szX rs') ∧ (B'.2.2.2.1 d || (B'.2.2.1 d && B'.2.2.2.2.2.1)) = ((B.2.2.2.1 d || em) || rs'.any (rwE mX)) ∧ Ge B' (rCc P mX inn k (rs, s)).2 ∧ nRp P a' (rCc P mX inn k (rs, s)).2.1) := by
  have base : ∀ (rs : Cc X) (s : RS) (q : Cc X × RS), q = (rs, s) → s.2.2.2 = false → s.1 ≤ P.length → s.2.1 ≤ 6 → rBg s.2.1 (rPk P s) = false → pat P s.1 ≠ 124 →
    ∃ rs', q.1 = rs ++ rs' ∧ (q.2.2.2.2 = false → lTl P mX iX (lS s) rs' (lS q.2) ∧ q.2.1 ≤ P.length ∧ q.2.2.1 ≤ 6 ∧ rEn P q.2) ∧
      ∀ d a0 B, Ge B s → nRp P a0 s.1 → (q.2.2.2.2 = true → ckX P (s.1, d, a0, B) = .inl q.2.1) ∧ (q.2.2.2.2 = false → ∀ sz em, RwI d sz em B → ∃ a' B', ckX P (s.1, d, a0, B) = ckX P (q.2.1, d, a', B') ∧ Kp d B B' ∧ lst (B'.1 d + lst (B'.2.1 d + B'.2.2.2.2.1)) = lst (B.1 d + sz + tlS szX rs') ∧ (B'.2.2.2.1 d || (B'.2.2.1 d && B'.2.2.2.2.2.1)) = ((B.2.2.2.1 d || em) || rs'.any (rwE mX)) ∧ Ge B' q.2 ∧ nRp P a' q.2.1) := by
    rintro rs s q rfl h0 h1 h2 h3 h4
    refine ⟨[], (List.append_nil _).symm, fun _ => ⟨Or.inl ⟨rfl, rfl⟩, h1, h2, h4, h3⟩, fun d a0 B hg hn => ⟨fun z => ?_, fun _ sz em hR => ⟨a0, B, rfl, Kc.rf.1, ?_, ?_, hg, hn⟩⟩⟩
    · have z : s.2.2.2 = true := z
      rw [h0] at z; cases z
    · rw [hR.1, lst_lst]; rfl
    · rw [hR.2]
      show _ = ((B.2.2.2.1 d || em) || false)
      rw [Bool.or_false]
  intro k
  induction k with
  | zero =>
    intro rs s h0 h1 h2 h3 h4 h5
    exact base rs s _ rfl h0 h1 h3 h5 (by rw [pat_ge (by omega)]; decide)
  | succ k ihk =>
    intro rs s h0 h1 h2 h3 h4 h5
    by_cases hb : pat P s.1 = 124
    · have hl := pat_lt hb (by decide)
      have e : rCc P mX inn (k + 1) (rs, s) = rCc P mX inn k (rs ++ [(rRw P mX inn 28 ([], rInc s)).1], (rRw P mX inn 28 ([], rInc s)).2) := by rw [rCc, if_pos ((pk_iff h0 (by decide) (by decide)).mpr hb)]
      rw [e]
      have hP28 := hP.2
      obtain ⟨ys, A0, A1, A2⟩ := a_rw hP hi hi2 ih 28 [] (rInc s) h0 hl (by show _ ≤ s.1 + 1 + 28; omega) h3 h4
      generalize rRw P mX inn 28 ([], rInc s) = r at A0 A1 A2 ⊢
      rw [List.nil_append] at A0
      rw [A0]
      have hbar : ∀ d a0 B, ckX P (s.1, d, a0, B) = ckX P (s.1 + 1, d, false, bOR d (bBr d (bCP d B))) := by
        intro d a0 B
        refine ckX_go hl ?_
        rw [ck1]
        show (if isB (pat P s.1) 42 43 63 123 = true then _ else if pat P s.1 = 124 then _ else _) = _
        rw [if_neg (by rw [hb]; decide), if_pos hb]
      have hR1 : ∀ d B, RwI d 0 true (bOR d (bBr d (bCP d B))) := fun d B => ⟨by
        show lst (va_up _ d 0 d + 0) = _
        rw [va_up_self], by
        show (va_up _ d true d && true) = true
        rw [va_up_self]; rfl⟩
      cases hr : r.2.2.2.2 with
      | true =>
        rw [rCc_st hr]
        refine ⟨[ys], rfl, fun z => ?_, fun d a0 B hg hn => ⟨fun _ => ?_, fun z => ?_⟩⟩
        · have z : r.2.2.2.2 = false := z
          rw [hr] at z; cases z
        · rw [hbar]
          exact (A2 d false (bOR d (bBr d (bCP d B))) hg (fun z => by cases z)).1 hr
        · have z : r.2.2.2.2 = false := z
          rw [hr] at z; cases z
      | false =>
        obtain ⟨p1, p2, p3, p4⟩ := A1 hr
        have hgt : s.1 + 1 ≤ r.2.1 := lRow_le hi p1
        have hge : s.2.1 ≤ r.2.2.1 := lRow_ge hi2 p1
        obtain ⟨rs', i1, i2, i3⟩ := ihk (rs ++ [ys]) r.2 hr p2 (by omega) p3 (by omega) p4
        refine ⟨ys :: rs', by rw [i1, List.append_assoc]; rfl, fun z => ?_, fun d a0 B hg hn => ⟨fun z => ?_, fun z sz em hR => ?_⟩⟩
        · obtain ⟨j1, j2, j3, j4⟩ := i2 z
          exact ⟨Or.inr ⟨by simp, hb, lTl.ch p1 j1⟩, j2, j3, j4⟩
        · obtain ⟨a', B', k1, k2, k3, k4, k5⟩ := (A2 d false (bOR d (bBr d (bCP d B))) hg (fun z => by cases z)).2 hr _ _ (hR1 d B)
          rw [hbar]
          exact k1.trans ((i3 d a' B' k4 k5).1 z)
        · obtain ⟨a', B', k1, k2, k3, k4, k5⟩ := (A2 d false (bOR d (bBr d (bCP d B))) hg (fun z => by cases z)).2 hr _ _ (hR1 d B)
          obtain ⟨a2, B2, l1, l2, l3, l4, l5, l6⟩ := (i3 d a' B' k4 k5).2 z _ _ k3
          refine ⟨a2, B2, (hbar d a0 B).trans (k1.trans l1), ?_, ?_, ?_, l5, l6⟩
          · have hz : Kp d B (bOR d (bBr d (bCP d B))) := fun j hj => ⟨va_up_ne _ _ (by omega), (va_up_ne _ _ (by omega)).trans (va_up_ne _ _ (by omega)), (va_up_ne _ _ (by omega)).trans (va_up_ne _ _ (by omega)), va_up_ne _ _ (by omega)⟩
            exact (hz.tr k2.1).tr l2
          · rw [l3, k2.2.1]
            show lst (va_up B.1 d (lst (B.1 d + va_up B.2.1 d (lst (B.2.1 d + B.2.2.2.2.1)) d + 2)) d + (0 + rwS szX ys) + tlS szX rs') = _
            rw [va_up_self, va_up_self, hR.1]
            have : tlS szX (ys :: rs') = rwS szX ys + 2 + tlS szX rs' := by simp [tlS]
            rw [this]
            simp only [lst_min]
            omega
          · rw [l4, k2.2.2]
            show ((va_up B.2.2.2.1 d (B.2.2.2.1 d || va_up B.2.2.1 d (B.2.2.1 d && B.2.2.2.2.2.1) d) d || (true && rwE mX ys)) || rs'.any (rwE mX)) = _
            rw [va_up_self, va_up_self, hR.2, List.any_cons, Bool.true_and, Bool.or_assoc]
    · exact base rs s _ (by rw [rCc, if_neg (fun z => hb ((pk_iff h0 (by decide) (by decide)).mp z))]) h0 h1 h3 h5 hb
theorem a_ch (hP : sgs P) (hi : iLe iX) (hi2 : iGe iX) (ih : rX P inn szX mX iX N) : rX P (rCh P mX inn) (ccS szX) (ccE mX) (fun s x s' => lChc P mX iX s x s') (N + 1) := by
  intro s h0 h1 h2 h3
  have hP28 := hP.2
  have e : rCh P mX inn s = rCc P mX inn 28 ([(rRw P mX inn 28 ([], s)).1], (rRw P mX inn 28 ([], s)).2) := rfl
  rw [e]
  clear e
  obtain ⟨ys, A0, A1, A2⟩ := a_rw hP hi hi2 ih 28 [] s h0 h1 (by omega) h2 h3
  generalize rRw P mX inn 28 ([], s) = r at A0 A1 A2 ⊢
  rw [List.nil_append] at A0
  rw [A0]
  have hR0 : ∀ d B, frB d B → RwI d 0 true B := fun d B hf => ⟨by rw [hf.2.1, hf.2.2.2.2.1], by rw [hf.2.2.1, hf.2.2.2.2.2]; rfl⟩
  cases hr : r.2.2.2.2 with
  | true =>
    rw [rCc_st hr]
    refine ⟨fun z => ?_, fun d B hf hg => ⟨fun _ => (A2 d false B hg (fun z => by cases z)).1 hr, fun z => ?_⟩⟩
    · have z : r.2.2.2.2 = false := z
      rw [hr] at z; cases z
    · have z : r.2.2.2.2 = false := z
      rw [hr] at z; cases z
  | false =>
    obtain ⟨p1, p2, p3, p4⟩ := A1 hr
    have hge : s.2.1 ≤ r.2.2.1 := lRow_ge hi2 p1
    obtain ⟨rs', i1, i2, i3⟩ := a_cc hP hi hi2 ih 28 [ys] r.2 hr p2 (by omega) p3 (by omega) p4
    generalize rCc P mX inn 28 ([ys], r.2) = q at i1 i2 i3 ⊢
    rw [i1]
    refine ⟨fun z => ?_, fun d B hf hg => ⟨fun z => ?_, fun z => ?_⟩⟩
    · obtain ⟨j1, j2, j3, j4⟩ := i2 z
      exact ⟨lTl.ch p1 j1, j2, j3, j4⟩
    · obtain ⟨a', B', k1, k2, k3, k4, k5⟩ := (A2 d false B hg (fun z => by cases z)).2 hr _ _ (hR0 d B hf)
      rw [k1]
      exact (i3 d a' B' k4 k5).1 z
    · obtain ⟨a', B', k1, k2, k3, k4, k5⟩ := (A2 d false B hg (fun z => by cases z)).2 hr _ _ (hR0 d B hf)
      obtain ⟨a2, B2, l1, l2, l3, l4, l5, l6⟩ := (i3 d a' B' k4 k5).2 z _ _ k3
      refine ⟨a2, B2, k1.trans l1, k2.1.tr l2, ?_, ?_, l5, l6⟩
      · rw [l3, k2.2.1, hf.1]
        have : ∀ rs : Cc X, ccS szX (ys :: rs) = rwS szX ys + tlS szX rs := by
          intro rs
          have hs : ∀ rs : Cc X, tlS szX rs = (rs.map (rwS szX)).sum + 2 * rs.length := by
            intro rs
            induction rs with
            | nil => rfl
            | cons r rs ih => simp only [tlS, List.map_cons, List.sum_cons, List.length_cons] at ih ⊢; omega
          rw [hs]
          simp only [ccS, List.map_cons, List.sum_cons, List.length_cons]
          omega
        show _ = lst (ccS szX (ys :: rs'))
        rw [this]
        congr 1
        omega
      · rw [l4, k2.2.2, hf.2.2.2.1, Bool.false_or, Bool.true_and]
        rfl
end RA
theorem lT_ge {P : List Int32} : ∀ n, iGe (lT P n)
  | 0 => fun _ _ _ h => h.elim
  | n + 1 => fun _ _ _ h => lChc_ge (lT_ge n) h
theorem a_T {P : List Int32} (hP : sgs P) : ∀ n, rX P (pCh P n) (szT n) (emT n) (lT P n) n
  | 0 => fun s _ _ h1 h2 => by omega
  | n + 1 => a_ch hP (lT_le n) (lT_ge n) (a_T hP n)
theorem ck_rd {P : List Int32} (hP : sgs P) (B : MB) : (fltB P = true → ckF P B = .inl (rdA P).2.1) ∧ (fltB P = false → lT P 7 (0, 0, false) (rdA P).1 (lS (rdA P).2) ∧ (rdA P).2.1 = P.length ∧ szT 7 (rdA P).1 < 2 ^ 31 ∧ ckF P B = .inr ((rdA P).2.2.2.1, (rdA P).2.2.1, lst (szT 7 (rdA P).1))) := by
  have hck : ckF P B = ckX P (0, 0, false, bSt B) := by
    rw [ckF, ckX]; exact ckR_fuel _ _ _ (by have := hP.2; omega) (by omega)
  obtain ⟨h1, h2⟩ := a_T hP 7 (0, 0, false, false) rfl (Nat.zero_le _) (Nat.zero_le _) (Nat.le_refl _)
  have hq : pCh P 7 (0, 0, false, false) = rdA P := rfl
  rw [hq] at h1 h2
  have h2 := h2 0 (bSt B) ⟨va_up_self B.1 0 0, va_up_self B.2.1 0 0, va_up_self B.2.2.1 0 true, va_up_self B.2.2.2.1 0 false, rfl, rfl⟩ ⟨rfl, rfl⟩
  rw [hck]
  have hfl : fltB P = ((rdA P).2.2.2.2 || decide ((rdA P).2.1 < P.length)) := rfl
  rw [hfl]
  generalize rdA P = q at h1 h2 ⊢
  cases hs : q.2.2.2.2 with
  | true => exact ⟨fun _ => h2.1 hs, fun z => by cases z⟩
  | false =>
    obtain ⟨j1, j2, j3, j4⟩ := h1 hs
    obtain ⟨a', B', k1, k2, k3, k4, k5, k6⟩ := h2.2 hs
    rw [Bool.false_or]
    refine ⟨fun z => ?_, fun z => ?_⟩
    · rw [decide_eq_true_eq] at z
      rw [k1]
      exact ck_stop hP hs j4 z k5 j3 k6 (Or.inl rfl)
    · rw [decide_eq_false_iff_not] at z
      have hz : q.2.1 = P.length := by omega
      refine ⟨j1, hz, sz_lt hP.2 j1 (by show q.2.1 ≤ _; omega), ?_⟩
      rw [k1, ckX_end (by show _ ≤ q.2.1; omega), ckE, if_pos rfl]
      show Sum.inr (B'.2.2.2.2.2.2.1, B'.2.2.2.2.2.2.2.1, lst (B'.1 0 + lst (B'.2.1 0 + B'.2.2.2.2.1))) = _
      rw [k3, k5.1, k5.2]
