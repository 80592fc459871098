def ib (w : Int32) (x : Nat) : Bool := w.toBitVec.getLsbD x
theorem ib_t (w : Int32) (x : Nat) : ib w x = w.toBitVec.toNat.testBit x := rfl
theorem sh_ok : ∀ x : Fin 32, (((nI x.1).toUInt32 &&& Int32.toUInt32 31).toBitVec % 32).toNat = x.1 := by decide
theorem sl_ok : ∀ x : Fin 32, ((nI x.1 &&& 31).toBitVec.smod 32).toNat = x.1 := by decide
theorem lof_ib {G : Nat → Int32} {st x : Nat} (hx : x < 32) : lof G st (nI x) = ib (G st) x := by
  rw [lof, ib_t, Nat.testBit_eq_decide_div_mod_eq, pk_and _ 1 (by decide), pk_ushr _ _ x (sh_ok ⟨x, hx⟩)]
  apply decide_eq_decide.mpr
  have h := Nat.mod_lt ((G st).toBitVec.toNat / 2 ^ x) (y := 2) (by decide)
  exact nI_eq (b := 1) (by simp only [Nat.pow_one]; omega) (by decide)
theorem ib_or (a b : Int32) (x : Nat) : ib (a ||| b) x = (ib a x || ib b x) := by simp [ib]
theorem ib_and (a b : Int32) (x : Nat) : ib (a &&& b) x = (ib a x && ib b x) := by simp [ib]
theorem ib_shr (b : Int32) (x : Nat) : ib (b.toUInt32 >>> ((1 : Int32).toUInt32 &&& Int32.toUInt32 31)).toInt32 x = ib b (x + 1) := by
  rw [ib_t, ib_t, pk_ushr b 1 1 (by decide), Nat.testBit_succ, Nat.pow_one]
theorem ib_pow {n : Nat} (hn : n < 31) (x : Nat) : ib (nI (2 ^ n)) x = decide (x = n) := by
  have h : 2 ^ n < 2 ^ 32 := Nat.pow_lt_pow_right (by decide) (by omega)
  rw [ib_t, pk_tn h, Nat.testBit_two_pow]
  exact decide_eq_decide.mpr ⟨fun z => z.symm, fun z => z.symm⟩
theorem ib_shl {n : Nat} (hn : n < 31) (x : Nat) : ib ((1 : Int32) <<< (nI n &&& 31)) x = decide (x = n) := by
  have h : 2 ^ n < 2 ^ 32 := Nat.pow_lt_pow_right (by decide) (by omega)
  have := pk_shlN (n := 1) (nI n &&& 31) n (sl_ok ⟨n, by omega⟩) (by rw [Nat.one_mul]; exact h)
  rw [Nat.one_mul] at this
  rw [show (1 : Int32) = nI 1 from rfl, this, ib_pow hn]
theorem ib_one (x : Nat) : ib 1 x = decide (x = 0) := ib_pow (n := 0) (by decide) x
theorem ib_neg {x : Nat} (hx : x < 32) : ib (-1) x = true := (by decide : ∀ x : Fin 32, ib (-1) x.1 = true) ⟨x, hx⟩
theorem ib_zero (x : Nat) : ib 0 x = false := by simp [ib]
theorem ft_ib {q : PS0} {T : List Int32} {st : Nat} {x : Nat} : ∀ n, n ≤ 31 → ib ((List.range n).foldl (ftS q T st) 0) x = (decide (x < n) && pTk q st (T.getD x (-2)))
  | 0, _ => by simp [ib_zero]
  | n + 1, hn => by
    rw [List.range_succ, List.foldl_append]
    have ih := ft_ib (q := q) (T := T) (st := st) (x := x) n (by omega)
    show ib (ftS q T st _ n) x = _
    rw [ftS]
    by_cases hp : pTk q st (T.getD n (-2)) = true
    · rw [if_pos hp, ib_or, ih, ib_shl (by omega)]
      by_cases hx : x = n
      · subst hx; simp only [hp]; simp
      · have : decide (x < n + 1) = decide (x < n) := decide_eq_decide.mpr (by omega)
        rw [this]; simp [hx]
    · rw [if_neg hp, ih]
      by_cases hx : x = n
      · subst hx; rw [eq_false_of_ne_true hp]; simp
      · have : decide (x < n + 1) = decide (x < n) := decide_eq_decide.mpr (by omega)
        rw [this]
def pCl (q : PS0) : Prop := ∀ k, k < q.1 → q.2.2.1 k < q.1 ∧ (q.2.1 k = 5 → q.2.2.2.1 k < q.1)
def cD (q : PS0) (T : List Int32) (s : Nat × Nat) : Prop := s.1 < q.1 ∧ s.2 ≤ T.length
theorem acC_cl {q : PS0} (T : List Int32) (K : Nat → Bool) (hq : pCl q) : aCl (acC q T K) (cD q T) := fun s hs => by
  obtain ⟨h1, h2⟩ := hq s.1 hs.1
  constructor
  · intro m s' h
    rw [acC] at h
    by_cases k0 : q.2.1 s.1 = 0
    · rw [if_pos k0] at h; cases h
    rw [if_neg k0] at h
    by_cases k1 : q.2.1 s.1 = 1
    · rw [if_pos k1] at h
      by_cases hx : s.2 < T.length ∧ pTk q s.1 (T.getD s.2 (-2)) = true
      · rw [if_pos hx] at h; cases h; exact ⟨h1, hx.1⟩
      · rw [if_neg hx] at h; cases h
    rw [if_neg k1] at h
    by_cases k2 : q.2.1 s.1 = 2
    · rw [if_pos k2] at h
      by_cases hx : s.2 = 0
      · rw [if_pos hx] at h; cases h; exact ⟨h1, hs.2⟩
      · rw [if_neg hx] at h; cases h
    rw [if_neg k2] at h
    by_cases k3 : q.2.1 s.1 = 3
    · rw [if_pos k3] at h
      by_cases hx : s.2 = T.length
      · rw [if_pos hx] at h; cases h; exact ⟨h1, hs.2⟩
      · rw [if_neg hx] at h; cases h
    rw [if_neg k3] at h
    by_cases k5 : q.2.1 s.1 = 5
    · rw [if_pos k5] at h; cases h
    rw [if_neg k5] at h
    cases h; exact ⟨h1, hs.2⟩
  · intro a b h
    rw [acC] at h
    by_cases k0 : q.2.1 s.1 = 0
    · rw [if_pos k0] at h; cases h
    rw [if_neg k0] at h
    by_cases k1 : q.2.1 s.1 = 1
    · rw [if_pos k1] at h
      by_cases hx : s.2 < T.length ∧ pTk q s.1 (T.getD s.2 (-2)) = true
      · rw [if_pos hx] at h; cases h
      · rw [if_neg hx] at h; cases h
    rw [if_neg k1] at h
    by_cases k2 : q.2.1 s.1 = 2
    · rw [if_pos k2] at h
      by_cases hx : s.2 = 0
      · rw [if_pos hx] at h; cases h
      · rw [if_neg hx] at h; cases h
    rw [if_neg k2] at h
    by_cases k3 : q.2.1 s.1 = 3
    · rw [if_pos k3] at h
      by_cases hx : s.2 = T.length
      · rw [if_pos hx] at h; cases h
      · rw [if_neg hx] at h; cases h
    rw [if_neg k3] at h
    by_cases k5 : q.2.1 s.1 = 5
    · rw [if_pos k5] at h; cases h; exact ⟨⟨h1, hs.2⟩, ⟨h2 k5, hs.2⟩⟩
    rw [if_neg k5] at h
    cases h
theorem cEv_lt {q : PS0} {T : List Int32} {K : Nat → Bool} (hq : pCl q) (h1 : q.1 ≤ 121) (hT : T.length ≤ 30) {n : Nat} {s : Nat × Nat} {r : Rs} (h : Ev (acC q T K) n s r) (hs : cD q T s) : n < 3751 :=
  h.bound (acC_cl T K hq) (fun s => s.1 * 31 + s.2) 3751 (fun s hs => by obtain ⟨z1, z2⟩ := hs; show s.1 * 31 + s.2 < 3751; omega) (fun s t hs ht he => by
    obtain ⟨z1, z2⟩ := hs; obtain ⟨z3, z4⟩ := ht
    have he : s.1 * 31 + s.2 = t.1 * 31 + t.2 := he
    exact Prod.ext (by omega) (by omega)) hs
section RD
variable {q : PS0} {T : List Int32} {K : Nat → Bool} {F : Nat → Int32} {ends : Int32}
def ldB (q : PS0) (T : List Int32) (K : Nat → Bool) (g : Nat → Nat → Bool) (st x : Nat) : Bool := match acC q T K (st, x) with
  | .inl r => r.isSome
  | .inr (.inl (_, s)) => g s.1 s.2
  | .inr (.inr (a, b)) => g a.1 a.2 || g b.1 b.2
def fOK (q : PS0) (T : List Int32) (F : Nat → Int32) : Prop := ∀ st, st < q.1 → q.2.1 st = 1 → F st = ftP q T st
theorem ld_ib (hT : T.length ≤ 30) (hK : ∀ x, x ≤ T.length → ib ends x = K x) (hF : fOK q T F) {G : Nat → Int32} {st x : Nat} (hst : st < q.1) (hx : x ≤ T.length) : ib (ldP q F G T.length ends st) x = ldB q T K (fun s x => ib (G s) x) st x := by
  rw [ldB, acC]
  simp only [ldP]
  by_cases k0 : q.2.1 st = 0
  · rw [if_pos k0, if_pos k0, hK x hx]
    by_cases hk : K x = true
    · rw [if_pos hk, hk]; rfl
    · rw [if_neg hk, eq_false_of_ne_true hk]; rfl
  rw [if_neg k0, if_neg k0]
  by_cases k1 : q.2.1 st = 1
  · rw [if_pos k1, if_pos k1, ib_and, ib_shr, hF st hst k1, ftP, ft_ib _ (by omega)]
    by_cases hz : x < T.length ∧ pTk q st (T.getD x (-2)) = true
    · rw [if_pos hz, hz.2, decide_eq_true hz.1]; simp
    · rw [if_neg hz]
      have : (decide (x < T.length) && pTk q st (T.getD x (-2))) = false := by
        rw [Bool.and_eq_false_iff, decide_eq_false_iff_not]
        by_cases h : x < T.length
        · exact Or.inr (eq_false_of_ne_true fun z => hz ⟨h, z⟩)
        · exact Or.inl h
      rw [this]; simp
  rw [if_neg k1, if_neg k1]
  by_cases k2 : q.2.1 st = 2
  · rw [if_pos k2, if_pos k2, ib_and, ib_one]
    by_cases hz : x = 0
    · rw [if_pos hz, decide_eq_true hz]; simp
    · rw [if_neg hz, decide_eq_false hz]; simp
  rw [if_neg k2, if_neg k2]
  by_cases k3 : q.2.1 st = 3
  · rw [if_pos k3, if_pos k3, ib_and, ib_shl (by omega)]
    by_cases hz : x = T.length
    · rw [if_pos hz, decide_eq_true hz]; simp
    · rw [if_neg hz, decide_eq_false hz]; simp
  rw [if_neg k3, if_neg k3]
  by_cases k5 : q.2.1 st = 5
  · rw [if_pos k5, if_pos k5, ib_or]
  rw [if_neg k5, if_neg k5]
def rIv (q : PS0) (T : List Int32) (K : Nat → Bool) (r : Nat → Nat) (G : Nat → Int32) : Prop := ∀ (n st x : Nat), st < q.1 → x ≤ T.length → (Ev (acC q T K) n (st, x) none → ib (G st) x = false) ∧ (∀ w, Ev (acC q T K) n (st, x) (some w) → n < r st → ib (G st) x = true)
theorem ld_ok (hq : pCl q) (hT : T.length ≤ 30) (hK : ∀ x, x ≤ T.length → ib ends x = K x) (hF : fOK q T F) {G : Nat → Int32} {m : Nat} {r : Nat → Nat} (hr : ∀ s, m ≤ r s) (hG : rIv q T K r G) {st x n : Nat} (hst : st < q.1) (hx : x ≤ T.length) : (Ev (acC q T K) n (st, x) none → ib (ldP q F G T.length ends st) x = false) ∧ (∀ w, Ev (acC q T K) n (st, x) (some w) → n < m + 1 → ib (ldP q F G T.length ends st) x = true) := by
  have hcl := acC_cl T K hq (st, x) ⟨hst, hx⟩
  rw [ld_ib hT hK hF hst hx, ldB]
  refine ⟨fun h => ?_, fun w h hn => ?_⟩
  · rcases h.inv with ⟨r, h, hq, -⟩ | ⟨mm, s', n, r, h, h1, hq, hz⟩ | ⟨a, b, n, w, h, h1, hq, -⟩ | ⟨a, b, n, k, h, h1, h2, hj⟩
    · rw [h]
      cases r with
      | none => rfl
      | some e => cases hq
    · rw [h]
      have hD := hcl.1 _ _ h
      have : r = none := by
        cases mm with
        | none => exact hq.symm
        | some w => cases r with | none => rfl | some z => cases hq
      subst this
      exact (hG n s'.1 s'.2 hD.1 hD.2).1 h1
    · cases hq
    · rw [h]
      have hD := hcl.2 _ _ h
      show (ib (G a.1) a.2 || ib (G b.1) b.2) = false
      rw [(hG n a.1 a.2 hD.1.1 hD.1.2).1 h1, (hG k b.1 b.2 hD.2.1 hD.2.2).1 h2]; rfl
  · rcases h.inv with ⟨r, h, hq, -⟩ | ⟨mm, s', n, r, h, h1, hq, hz⟩ | ⟨a, b, n, w', h, h1, hq, hz⟩ | ⟨a, b, n, k, h, h1, h2, hj⟩
    · rw [h]
      cases r with
      | none => cases hq
      | some e => rfl
    · rw [h]
      have hD := hcl.1 _ _ h
      have : ∃ w', r = some w' := by
        cases r with
        | some z => exact ⟨z, rfl⟩
        | none => cases mm <;> cases hq
      obtain ⟨w', rfl⟩ := this
      exact (hG n s'.1 s'.2 hD.1 hD.2).2 w' h1 (by have := hr s'.1; omega)
    · rw [h]
      have hD := hcl.2 _ _ h
      show (ib (G a.1) a.2 || ib (G b.1) b.2) = true
      rw [(hG n a.1 a.2 hD.1.1 hD.1.2).2 w' h1 (by have := hr a.1; omega)]; rfl
    · rw [h]
      have hD := hcl.2 _ _ h
      show (ib (G a.1) a.2 || ib (G b.1) b.2) = true
      rw [(hG k b.1 b.2 hD.2.1 hD.2.2).2 w h2 (by have := hr b.1; omega), Bool.or_true]
theorem sp_ok (hq : pCl q) (hT : T.length ≤ 30) (hK : ∀ x, x ≤ T.length → ib ends x = K x) (hF : fOK q T F) {G : Nat → Int32} {m : Nat} (hG : rIv q T K (fun _ => m) G) : ∀ k, k ≤ q.1 → rIv q T K (fun s => if s < k then m + 1 else m) ((List.range k).foldl (spS q F T.length ends) (G, false)).1
  | 0, _ => fun n st x h1 h2 => ⟨(hG n st x h1 h2).1, fun w h3 h4 => (hG n st x h1 h2).2 w h3 (by dsimp only at h4; rw [if_neg (by omega)] at h4; exact h4)⟩
  | k + 1, hk => by
    have ih := sp_ok hq hT hK hF hG k (by omega)
    rw [List.range_succ, List.foldl_append]
    generalize (List.range k).foldl (spS q F T.length ends) (G, false) = s at ih
    show rIv q T K _ (upd s.1 k (ldP q F s.1 T.length ends k))
    intro n st x h1 h2
    by_cases hs : st = k
    · subst hs
      have := ld_ok hq hT hK hF (m := m) (fun s => by split <;> omega) ih (n := n) h1 h2
      rw [upd, if_pos rfl]
      exact ⟨this.1, fun w h3 h4 => this.2 w h3 (by dsimp only at h4; rw [if_pos (by omega)] at h4; exact h4)⟩
    · rw [upd, if_neg hs]
      refine ⟨(ih n st x h1 h2).1, fun w h3 h4 => (ih n st x h1 h2).2 w h3 ?_⟩
      dsimp only at h4 ⊢
      by_cases z : st < k
      · rw [if_pos z]; rw [if_pos (by omega)] at h4; exact h4
      · rw [if_neg z]; rw [if_neg (by omega)] at h4; exact h4
theorem spR_ok (hq : pCl q) (hT : T.length ≤ 30) (hK : ∀ x, x ≤ T.length → ib ends x = K x) (hF : fOK q T F) {G : Nat → Int32} {m : Nat} (hG : rIv q T K (fun _ => m) G) : rIv q T K (fun _ => m + 1) (spR q F T.length ends G).1 := fun n st x h1 h2 => by
  have := sp_ok hq hT hK hF hG q.1 (Nat.le_refl _) n st x h1 h2
  exact ⟨this.1, fun w h3 h4 => this.2 w h3 (by dsimp only at h4 ⊢; rw [if_pos h1]; exact h4)⟩
theorem spR_fix {len : Nat} {G : Nat → Int32} (h : (spR q F len ends G).2 = false) : (spR q F len ends G).1 = G := by
  have key : ∀ k, ((List.range k).foldl (spS q F len ends) (G, false)).2 = false → ((List.range k).foldl (spS q F len ends) (G, false)).1 = G := by
    intro k
    induction k with
    | zero => intro _; rfl
    | succ k ih =>
      rw [List.range_succ, List.foldl_append]
      generalize (List.range k).foldl (spS q F len ends) (G, false) = s at ih
      show (s.2 || !decide (ldP q F s.1 len ends k = s.1 k)) = false → upd s.1 k (ldP q F s.1 len ends k) = G
      intro hz
      rw [Bool.or_eq_false_iff] at hz
      have h2 : ldP q F s.1 len ends k = s.1 k := by simpa using hz.2
      rw [h2, ← ih hz.1]
      funext j
      rw [upd]
      by_cases hj : j = k
      · rw [if_pos hj, hj]
      · rw [if_neg hj]
  exact key q.1 h
theorem rIv.le {m m' : Nat} {G : Nat → Int32} (h : rIv q T K (fun _ => m) G) (hm : m' ≤ m) : rIv q T K (fun _ => m') G := fun n st x h1 h2 => ⟨(h n st x h1 h2).1, fun w h3 h4 => (h n st x h1 h2).2 w h3 (Nat.lt_of_lt_of_le h4 hm)⟩
theorem amR_ok (hq : pCl q) (hT : T.length ≤ 30) (hK : ∀ x, x ≤ T.length → ib ends x = K x) (hF : fOK q T F) : ∀ (k : Nat) (g : Bool) (G : Nat → Int32) (m : Nat), rIv q T K (fun _ => m) G → (g = false → ∀ m', rIv q T K (fun _ => m') G) → rIv q T K (fun _ => m + k) (amR q F T.length ends k g G)
  | 0, g, G, m, h1, h2 => h1
  | k + 1, false, G, m, h1, h2 => h2 rfl _
  | k + 1, true, G, m, h1, h2 => by
    rw [amR, if_pos rfl]
    have h3 := spR_ok hq hT hK hF h1
    have := amR_ok hq hT hK hF k (spR q F T.length ends G).2 (spR q F T.length ends G).1 (m + 1) h3 (fun hg => by
      have hfix := spR_fix hg
      rw [hfix]
      intro m'
      have : ∀ j, rIv q T K (fun _ => m + j) G := by
        intro j
        induction j with
        | zero => exact h1
        | succ j ih =>
          have := spR_ok hq hT hK hF ih
          rw [hfix] at this
          exact this
      exact (this m').le (by omega))
    rw [show m + (k + 1) = m + 1 + k by omega]
    exact this
theorem aim_ok (hq : pCl q) (h1 : q.1 ≤ 121) (hT : T.length ≤ 30) (hK : ∀ x, x ≤ T.length → ib ends x = K x) (F G : Nat → Int32) {n st x : Nat} {r : Rs} (hs : cD q T (st, x)) (h : Ev (acC q T K) n (st, x) r) : lof (aimG q T F G ends) st (nI x) = r.isSome := by
  have hx : x ≤ T.length := hs.2
  rw [lof_ib (by omega)]
  have hF : fOK q T (amF q T F q.1) := fun st hst hk => by
    rw [amF, if_pos hst, if_pos hk]
  have h0 : rIv q T K (fun _ => 0) (amG G q.1) := fun n st x h1 h2 => by
    rw [amG, if_pos h1]
    exact ⟨fun _ => ib_zero x, fun w _ z => by dsimp only at z; omega⟩
  have := amR_ok hq hT hK hF 3752 true (amG G q.1) 0 h0 (fun z => by cases z) n st x hs.1 hx
  have hn := cEv_lt hq h1 hT h hs
  cases r with
  | none => exact this.1 h
  | some w => exact this.2 w h (by show n < 0 + 3752; omega)
theorem wk_ev {G : Nat → Int32} (hq : pCl q) (hw0 : pWf q) (hL : ∀ st x n r, cD q T (st, x) → Ev (acC q T K) n (st, x) r → lof G st (nI x) = r.isSome) {n : Nat} {s : Nat × Nat} {r : Rs} (h : Ev (acC q T K) n s r) : cD q T s → ∀ w, r = some w → ∀ (k : Nat) (f : Nat → Int32), n ≤ k → (wkR q G k (s.2, s.1, f)).1 = w.1 ∧ (wkR q G k (s.2, s.1, f)).2.2 = wB w.2 f := by
  have hst : ∀ {s s' : Nat × Nat} {m : Option (Nat × Nat)} {n : Nat}, acC q T K s = .inr (.inl (m, s')) → ∀ (k : Nat) (f : Nat → Int32), n + 1 ≤ k → ∃ k', k = k' + 1 ∧ n ≤ k' ∧ wkR q G k (s.2, s.1, f) = wkR q G k' (s'.2, s'.1, match m with | none => f | some w => bdSet f (nI w.1) (nI w.2)) := by
    intro s s' m n h k f hk
    obtain ⟨k', rfl⟩ : ∃ k', k = k' + 1 := ⟨k - 1, by omega⟩
    refine ⟨k', rfl, by omega, ?_⟩
    rw [acC] at h
    by_cases k0 : q.2.1 s.1 = 0
    · rw [if_pos k0] at h; cases h
    rw [if_neg k0] at h
    rw [wkR, if_neg k0]
    by_cases k1 : q.2.1 s.1 = 1
    · rw [if_pos k1] at h
      by_cases hx : s.2 < T.length ∧ pTk q s.1 (T.getD s.2 (-2)) = true
      · rw [if_pos hx] at h; cases h
        simp only [if_pos k1, k1]
        simp
      · rw [if_neg hx] at h; cases h
    rw [if_neg k1] at h
    by_cases k2 : q.2.1 s.1 = 2
    · rw [if_pos k2] at h
      by_cases hx : s.2 = 0
      · rw [if_pos hx] at h; cases h
        simp only [k2]
        simp
      · rw [if_neg hx] at h; cases h
    rw [if_neg k2] at h
    by_cases k3 : q.2.1 s.1 = 3
    · rw [if_pos k3] at h
      by_cases hx : s.2 = T.length
      · rw [if_pos hx] at h; cases h
        simp only [k3]
        simp
      · rw [if_neg hx] at h; cases h
    rw [if_neg k3] at h
    by_cases k5 : q.2.1 s.1 = 5
    · rw [if_pos k5] at h; cases h
    rw [if_neg k5] at h
    cases h
    have k4 : q.2.1 s.1 = 4 := by have := hw0.1 s.1; omega
    simp only [k4]
    simp
  have hfk : ∀ {s a b : Nat × Nat} {n : Nat}, acC q T K s = .inr (.inr (a, b)) → ∀ (k : Nat) (f : Nat → Int32), n + 1 ≤ k → ∃ k', n ≤ k' ∧ k' + 1 = k ∧ wkR q G k (s.2, s.1, f) = if lof G a.1 (nI a.2) = false then wkR q G k' (b.2, b.1, f) else wkR q G k' (a.2, a.1, f) := by
    intro s a b n h k f hk
    obtain ⟨k', rfl⟩ : ∃ k', k = k' + 1 := ⟨k - 1, by omega⟩
    refine ⟨k', by omega, rfl, ?_⟩
    rw [acC] at h
    by_cases k0 : q.2.1 s.1 = 0
    · rw [if_pos k0] at h; cases h
    rw [if_neg k0] at h
    rw [wkR, if_neg k0]
    by_cases k1 : q.2.1 s.1 = 1
    · rw [if_pos k1] at h
      split at h <;> cases h
    rw [if_neg k1] at h
    by_cases k2 : q.2.1 s.1 = 2
    · rw [if_pos k2] at h
      split at h <;> cases h
    rw [if_neg k2] at h
    by_cases k3 : q.2.1 s.1 = 3
    · rw [if_pos k3] at h
      split at h <;> cases h
    rw [if_neg k3] at h
    by_cases k5 : q.2.1 s.1 = 5
    · rw [if_pos k5] at h; cases h
      simp only [k5]
      by_cases hl : lof G (q.2.2.1 s.1) (nI s.2) = false
      · simp [hl]
      · simp [hl]
    rw [if_neg k5] at h
    cases h
  refine Ev.ind (motive := fun n s r => cD q T s → ∀ w, r = some w → ∀ (k : Nat) (f : Nat → Int32), n ≤ k → (wkR q G k (s.2, s.1, f)).1 = w.1 ∧ (wkR q G k (s.2, s.1, f)).2.2 = wB w.2 f) h ?_ ?_ ?_ ?_
  · intro s r qq h hqq hs w hw k f hk
    rw [acC] at h
    by_cases k0 : q.2.1 s.1 = 0
    · rw [if_pos k0] at h; cases h
      have e : wkR q G k (s.2, s.1, f) = (s.2, s.1, f) := by
        cases k with
        | zero => rfl
        | succ k => rw [wkR, if_pos k0]
      rw [e]
      by_cases hk2 : K s.2 = true
      · rw [if_pos hk2] at hqq
        rw [hqq] at hw; cases hw
        exact ⟨rfl, rfl⟩
      · rw [if_neg hk2] at hqq
        rw [hqq] at hw; cases hw
    have : r = none := by
      rw [if_neg k0] at h
      split at h
      · split at h <;> cases h; rfl
      · split at h
        · split at h <;> cases h; rfl
        · split at h
          · split at h <;> cases h; rfl
          · split at h <;> cases h
    subst this
    rw [hqq] at hw; cases hw
  · intro s s' m n r qq h h1 hqq ih hs w hw k f hk
    obtain ⟨k', rfl, hk', e⟩ := hst h k f hk
    have hD := (acC_cl T K hq s hs).1 _ _ h
    rw [e]
    cases m with
    | none =>
      have hqq : qq = r := hqq
      exact ih hD w (hqq.symm.trans hw) k' f hk'
    | some z =>
      cases r with
      | none => rw [hqq] at hw; cases hw
      | some w' =>
        rw [hqq] at hw; cases hw
        exact ih hD w' rfl k' _ hk'
  · intro s a b n qq r h h1 hqq ih hs w hw k f hk
    obtain ⟨k', hk1, rfl, e⟩ := hfk (n := n) h k f hk
    have hD := (acC_cl T K hq s hs).2 _ _ h
    rw [e, hL _ _ _ _ hD.1 h1, if_neg (by simp)]
    rw [hqq] at hw; cases hw
    exact ih hD.1 _ rfl k' f hk1
  · intro s a b n k1 j r h h1 h2 hj ih1 ih2 hs w hw k f hk
    obtain ⟨k', hk1', rfl, e⟩ := hfk (n := max n k1) h k f (by omega)
    have hD := (acC_cl T K hq s hs).2 _ _ h
    rw [e, hL _ _ _ _ hD.1 h1, if_pos (show (none : Rs).isSome = false from rfl)]
    exact ih2 hD.2 _ hw k' f (by omega)
end RD
