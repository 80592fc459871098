def oF (m : Nat) : Int32 := if m = 0 then -2 else nI (m - 1)
theorem hK_any {tl : Nat} (hT : tl ≤ 30) : ∀ x, x ≤ tl → ib (-1) x = toB (-1) x := fun x hx => by
  rw [ib_neg (by omega)]
  show true = (decide ((-1 : Int32) < 0) || _)
  rw [decide_eq_true (by decide), Bool.true_or]
theorem hK_at {tl j : Nat} (hT : tl ≤ 30) (hj : j ≤ tl) : ∀ x, x ≤ tl → ib ((1 : Int32) <<< (nI j &&& 31)) x = toB (nI j) x := fun x hx => by
  rw [ib_shl (by omega), toB, decide_eq_false (nI_pos (by omega)), Bool.false_or]
  exact decide_eq_decide.mpr (nI_eq (by omega) (by omega)).symm
section AN
variable {P T : List Int32} {q : PS0} {fi : Nat} {l : Cd} {R : Nat → Rs}
theorem fl_14 {f : Nat → Int32} {k : Nat} (hk : k < 14) : filled 14 (-2) f k = -2 := by rw [filled, if_pos hk]
theorem sk_sr (h : cpl P q fi l) (hR : runs P T q fi l (toB (-1)) R) (hT : T.length ≤ 30) (F G : Nat → Int32) : ∀ (k i : Nat), (k = 0 ∨ i + k ≤ T.length + 1) →
    (skP (aimG q T F G (-1)) fi k i = none ∧ srR (smR T.length R) k i = none) ∨ ∃ b e ms, i ≤ b ∧ b ≤ T.length ∧ skP (aimG q T F G (-1)) fi k i = some b ∧ R b = some (e, ms) ∧ srR (smR T.length R) k i = some (b, e, srM b (e, wM ms (fun _ => 0)))
  | 0, i, _ => Or.inl ⟨rfl, rfl⟩
  | k + 1, i, hk => by
    have hi : i ≤ T.length := by omega
    have h1 := hR.lof h hT (hK_any hT) F G hi
    rw [skP, srR, h1, smR, if_pos hi]
    cases hr : R i with
    | none =>
      rcases sk_sr h hR hT F G k (i + 1) (by omega) with ⟨z1, z2⟩ | ⟨b, e, ms, z1, z2, z3, z4, z5⟩
      · exact Or.inl ⟨z1, z2⟩
      · exact Or.inr ⟨b, e, ms, by omega, z2, z3, z4, z5⟩
    | some w => exact Or.inr ⟨i, w.1, w.2, Nat.le_refl _, hi, rfl, hr, rfl⟩
theorem sk_all (h : cpl P q fi l) (hR : runs P T q fi l (toB (-1)) R) (hT : T.length ≤ 30) (F G : Nat → Int32) (i : Nat) :
    (skP (aimG q T F G (-1)) fi (T.length + 1 - i) i = none ∧ srR (smR T.length R) (T.length + 1 - i) i = none) ∨ ∃ b e ms, i ≤ b ∧ b ≤ T.length ∧ skP (aimG q T F G (-1)) fi (T.length + 1 - i) i = some b ∧ R b = some (e, ms) ∧ srR (smR T.length R) (T.length + 1 - i) i = some (b, e, srM b (e, wM ms (fun _ => 0))) :=
  sk_sr h hR hT F G _ i (by omega)
theorem mt_mm (h : cpl P q fi l) (hw : pWf q) (hR : runs P T q fi l (toB (-1)) R) (hT : T.length ≤ 30) (F G : Nat → Int32) : ∀ (k n fr : Nat) (f : Nat → Int32), (mtR q (aimG q T F G (-1)) fi T.length k (n, fr, f)).1 = mmR (smR T.length R) T.length k n fr
  | 0, n, fr, f => rfl
  | k + 1, n, fr, f => by
    rw [mtR, mmR]
    rcases sk_all h hR hT F G fr with ⟨z1, z2⟩ | ⟨b, e, ms, z1, z2, z3, z4, z5⟩
    · rw [show skP (aimG q T F G (-1)) fi (T.length + 1 - (n, fr, f).2.1) (n, fr, f).2.1 = none from z1, z2]
    · rw [show skP (aimG q T F G (-1)) fi (T.length + 1 - (n, fr, f).2.1) (n, fr, f).2.1 = some b from z3, z5]
      show (mtR q (aimG q T F G (-1)) fi T.length k (n + 1, nxF b (wkE q (aimG q T F G (-1)) fi b (filled 14 (-2) f)), _)).1 = mmR (smR T.length R) T.length k (n + 1) (nxF b e)
      rw [(hR.walk h hw hT (hK_any hT) F G z2 z4 (filled 14 (-2) f)).1]
      exact mt_mm h hw hR hT F G k (n + 1) (nxF b e) _
theorem mk_f {tl x e : Nat} {ms : List (Nat × Nat)} (hQ : QF tl [] x e ms) (f : Nat → Int32) {k : Nat} (hk : k < 14) : upd (upd (wB ms (filled 14 (-2) f)) 0 (nI x)) 1 (nI e) k = oF (srM x (e, wM ms (fun _ => 0)) k) := by
  rw [srM]
  by_cases h1 : k = 1
  · subst h1; rw [pk_us, va_up_self]; rfl
  rw [pk_un h1, va_up_ne _ _ h1]
  by_cases h0 : k = 0
  · subst h0; rw [pk_us, va_up_self]; rfl
  rw [pk_un h0, va_up_ne _ _ h0, wB_lm _ _ _ (fun w hw => (hQ.2.2.1 w hw).1)]
  show _ = oF (wM ms (fun _ => 0) k)
  rw [wM_lm, fl_14 hk]
  cases lm ms k with
  | none => rfl
  | some y => rfl
theorem mk_g {tl x e : Nat} {ms : List (Nat × Nat)} (hQ : QF tl [] x e ms) (g : Nat) : (srM x (e, wM ms (fun _ => 0)) (2 * g) = 0 ∧ srM x (e, wM ms (fun _ => 0)) (2 * g + 1) = 0) ∨ ∃ i j, srM x (e, wM ms (fun _ => 0)) (2 * g) = i + 1 ∧ srM x (e, wM ms (fun _ => 0)) (2 * g + 1) = j + 1 ∧ x ≤ i ∧ i ≤ j ∧ j ≤ e := by
  rw [srM]
  by_cases h0 : g = 0
  · subst h0
    exact Or.inr ⟨x, e, by rw [va_up_ne _ _ (by omega)]; exact va_up_self _ _ _, va_up_self _ _ _, Nat.le_refl _, hQ.1, Nat.le_refl _⟩
  · rw [va_up_ne _ _ (by omega), va_up_ne _ _ (by omega), va_up_ne _ _ (by omega), va_up_ne _ _ (by omega)]
    show (wM ms (fun _ => 0) (2 * g) = 0 ∧ wM ms (fun _ => 0) (2 * g + 1) = 0) ∨ ∃ i j, wM ms (fun _ => 0) (2 * g) = i + 1 ∧ wM ms (fun _ => 0) (2 * g + 1) = j + 1 ∧ x ≤ i ∧ i ≤ j ∧ j ≤ e
    rw [wM_lm, wM_lm]
    rcases hQ.m g with ⟨k1, k2⟩ | ⟨i, j, k1, k2, k3, k4, k5⟩
    · rw [k1, k2]; exact Or.inl ⟨rfl, rfl⟩
    · rw [k1, k2]; exact Or.inr ⟨i, j, rfl, rfl, k3, k4, k5⟩
theorem mk_31 {tl x e : Nat} {ms : List (Nat × Nat)} (hQ : QF tl [] x e ms) (hT : tl ≤ 30) (k : Nat) : srM x (e, wM ms (fun _ => 0)) k ≤ 31 := by
  have h1 := hQ.1
  have h2 := hQ.2.1
  rw [srM, va_up]
  split
  · show e + 1 ≤ 31; omega
  · rw [va_up]
    split
    · omega
    · show wM ms (fun _ => 0) k ≤ 31
      rw [wM_lm]
      cases hl : lm ms k with
      | none => exact Nat.zero_le _
      | some y =>
        have := (hQ.2.2.1 _ (lm_mem hl)).2.2
        show y + 1 ≤ 31
        have this : y ≤ e := this
        omega
theorem st_rr {tl x e : Nat} {ms : List (Nat × Nat)} (hQ : QF tl [] x e ms) (hT : tl ≤ 30) (f : Nat → Int32) {g : Nat} (hg : g ≤ 6) (T : List Int32) : strI T (upd (upd (wB ms (filled 14 (-2) f)) 0 (nI x)) 1 (nI e) (2 * g)) (upd (upd (wB ms (filled 14 (-2) f)) 0 (nI x)) 1 (nI e) (2 * g + 1)) = rrG T (srM x (e, wM ms (fun _ => 0))) g := by
  rw [mk_f hQ f (by omega), mk_f hQ f (by omega), rrG]
  rcases mk_g hQ g with ⟨k1, k2⟩ | ⟨i, j, k1, k2, k3, k4, k5⟩
  · rw [k1, k2, if_pos rfl]
    rfl
  · rw [k1, k2, if_neg (by omega)]
    show strI T (nI i) (nI j) = strI T (nI (i + 1) - 1) (nI (j + 1) - 1)
    rw [nI_pred, nI_pred]
theorem rp_rr (h : cpl P q fi l) (hw : pWf q) (hR : runs P T q fi l (toB (-1)) R) (hT : T.length ≤ 30) (F G : Nat → Int32) {g : Nat} (hg : g ≤ 6) : ∀ (k fr cp : Nat) (f : Nat → Int32) (o : List Int32), (rpR q (aimG q T F G (-1)) fi T g k (fr, cp, f, o)).1 = (rrR (smR T.length R) T g k fr cp o).1 ∧ (rpR q (aimG q T F G (-1)) fi T g k (fr, cp, f, o)).2.2 = (rrR (smR T.length R) T g k fr cp o).2
  | 0, fr, cp, f, o => ⟨rfl, rfl⟩
  | k + 1, fr, cp, f, o => by
    rw [rpR, rrR]
    rcases sk_all h hR hT F G fr with ⟨z1, z2⟩ | ⟨b, e, ms, z1, z2, z3, z4, z5⟩
    · rw [show skP (aimG q T F G (-1)) fi (T.length + 1 - (fr, cp, f, o).1) (fr, cp, f, o).1 = none from z1, z2]
      exact ⟨rfl, rfl⟩
    · rw [show skP (aimG q T F G (-1)) fi (T.length + 1 - (fr, cp, f, o).1) (fr, cp, f, o).1 = some b from z3, z5]
      obtain ⟨w1, w2⟩ := hR.walk h hw hT (hK_any hT) F G z2 z4 (filled 14 (-2) f)
      have hQ := (hR b z2).2.2 e ms z4
      have e1 := st_rr hQ hT f hg T
      show (rpR q (aimG q T F G (-1)) fi T g k (nxF b (wkE q (aimG q T F G (-1)) fi b (filled 14 (-2) f)), wkE q (aimG q T F G (-1)) fi b (filled 14 (-2) f), wkB q (aimG q T F G (-1)) fi b (filled 14 (-2) f), o ++ (T.drop cp).take (b - cp) ++ strI T (wkB q (aimG q T F G (-1)) fi b (filled 14 (-2) f) (2 * g)) (wkB q (aimG q T F G (-1)) fi b (filled 14 (-2) f) (2 * g + 1)))).1 = (rrR (smR T.length R) T g k (nxF b e) e (o ++ (T.drop cp).take (b - cp) ++ rrG T (srM b (e, wM ms (fun _ => 0))) g)).1 ∧ (rpR q (aimG q T F G (-1)) fi T g k (nxF b (wkE q (aimG q T F G (-1)) fi b (filled 14 (-2) f)), wkE q (aimG q T F G (-1)) fi b (filled 14 (-2) f), wkB q (aimG q T F G (-1)) fi b (filled 14 (-2) f), o ++ (T.drop cp).take (b - cp) ++ strI T (wkB q (aimG q T F G (-1)) fi b (filled 14 (-2) f) (2 * g)) (wkB q (aimG q T F G (-1)) fi b (filled 14 (-2) f) (2 * g + 1)))).2.2 = (rrR (smR T.length R) T g k (nxF b e) e (o ++ (T.drop cp).take (b - cp) ++ rrG T (srM b (e, wM ms (fun _ => 0))) g)).2
      rw [w1, w2, e1]
      exact rp_rr h hw hR hT F G hg k (nxF b e) e _ _
theorem gd_M (h : cpl P q fi l) (hw : pWf q) (hR : runs P T q fi l (toB (-1)) R) (hT : T.length ≤ 30) (F G : Nat → Int32) : gdM q (aimG q T F G (-1)) fi T.length := by
  intro b f hb hl
  rw [hR.lof h hT (hK_any hT) F G hb] at hl
  obtain ⟨w, hr⟩ := Option.isSome_iff_exists.mp hl
  obtain ⟨w1, w2⟩ := hR.walk h hw hT (hK_any hT) F G hb hr (filled 14 (-2) f)
  have hQ := (hR b hb).2.2 w.1 w.2 hr
  rw [w1, w2]
  refine ⟨hQ.1, hQ.2.1, fun g hg => ?_⟩
  rw [mk_f hQ f (by omega), mk_f hQ f (by omega)]
  rcases mk_g hQ g with ⟨k1, k2⟩ | ⟨i, j, k1, k2, k3, k4, k5⟩
  · rw [k1, k2]; exact Or.inl (by decide)
  · rw [k1, k2]; exact Or.inr ⟨i, j, rfl, rfl, k3, k4, k5⟩
end AN
def fnd (f K : Nat → Int32) (b : Bool) : Prop := (b = false ∧ ∀ k, k < 14 → f k = -2) ∨ (b = true ∧ ∃ mk : Nat → Nat, mkF K mk ∧ (∀ k, k < 14 → f k = oF (mk k)) ∧ ∀ g, g ≤ 6 → (mk (2 * g + 1) = 0 ↔ mk (2 * g) = 0) ∧ mk (2 * g) ≤ 31 ∧ mk (2 * g + 1) ≤ 31)
theorem fnd_gr {f K : Nat → Int32} {b : Bool} (h : fnd f K b) {g : Nat} (hg : g ≤ 6) (e : Bool) : bdAt f (if e then 2 * nI g + 1 else 2 * nI g) = if b = false ∨ K (2 * g + 1) < 0 then -2 else K (2 * g + (if e then 1 else 0)) := by
  have e1 : (if e then 2 * nI g + 1 else 2 * nI g) = nI (2 * g + (if e then 1 else 0)) := by
    have : (2 : Int32) * nI g = nI (2 * g) := pk_mul 2 g
    cases e with
    | true => show 2 * nI g + 1 = _; rw [this]; exact nI_1 _
    | false => exact this
  have hk : 2 * g + (if e then 1 else 0) < 14 := by split <;> omega
  rw [e1, bdAt, if_neg (nI_pos (by omega)), if_neg (nI_ge hk (by decide)), nI_clamp (by omega)]
  rcases h with ⟨h1, h2⟩ | ⟨h1, mk, h2, h3, h4⟩
  · rw [h2 _ hk, if_pos (Or.inl h1)]
  · rw [h3 _ hk]
    obtain ⟨a1, a2, a3⟩ := h4 g hg
    have m1 := h2 (2 * g + 1) (by omega)
    by_cases hz : mk (2 * g + 1) = 0
    · have hz2 := a1.mp hz
      rw [if_pos (Or.inr (by rw [m1, hz]; decide))]
      have : mk (2 * g + (if e then 1 else 0)) = 0 := by
        cases e with
        | true => exact hz
        | false => exact hz2
      rw [this]; rfl
    · have hz2 : mk (2 * g) ≠ 0 := fun z => hz (a1.mpr z)
      have hne : ¬ (b = false ∨ K (2 * g + 1) < 0) := by
        rintro (z | z)
        · rw [h1] at z; cases z
        · rw [m1] at z
          obtain ⟨m, hm⟩ : ∃ m, mk (2 * g + 1) = m + 1 := ⟨mk (2 * g + 1) - 1, by omega⟩
          rw [hm, nI_pred] at z
          exact nI_pos (by omega) z
      rw [if_neg hne, h2 _ hk]
      have hnz : mk (2 * g + (if e then 1 else 0)) ≠ 0 := by
        cases e with
        | true => exact hz
        | false => exact hz2
      obtain ⟨m, hm⟩ : ∃ m, mk (2 * g + (if e then 1 else 0)) = m + 1 := ⟨mk (2 * g + (if e then 1 else 0)) - 1, by omega⟩
      rw [hm, nI_pred]
      rfl
theorem dfs_le {P T : List Int32} {l : Cd} {to : Int32} : ∀ (f : Nat) (c : Option (Nat × Nat)) (st : List SE) (tr : Nat → Bool) (ma : Nat → Nat), (∀ q, c = some q → q.2 ≤ T.length) → (∀ q, (.inl q : SE) ∈ st → q.2 ≤ T.length) → ∀ z, (dfs P T l to f c st tr ma).1 = some z → z ≤ T.length := by
  intro f
  induction f with
  | zero => intro c st tr ma h1 h2 z hz; rw [dfs] at hz; cases hz
  | succ f ih =>
    intro c st tr ma h1 h2 z hz
    cases c with
    | none =>
      cases st with
      | nil => rw [dfs] at hz; cases hz
      | cons e st =>
        cases e with
        | inr q =>
          rw [dfs] at hz
          exact ih none st tr _ (fun q z => by cases z) (fun q hq => h2 q (List.mem_cons_of_mem _ hq)) z hz
        | inl q =>
          rw [dfs] at hz
          exact ih (some q) st tr _ (fun q' z => by cases z; exact h2 q List.mem_cons_self) (fun q hq => h2 q (List.mem_cons_of_mem _ hq)) z hz
    | some s =>
      have hs : s.2 ≤ T.length := h1 s rfl
      rw [dfs_act] at hz
      by_cases h0 : tr (s.1 * 31 + s.2) = true
      · rw [if_pos h0] at hz
        exact ih none st tr _ (fun q z => by cases z) h2 z hz
      · rw [if_neg h0] at hz
        have hcl : ∀ m s', acM P T l (toB to) s = .inr (.inl (m, s')) → s'.2 ≤ T.length := by
          intro m s' h
          rw [acM] at h
          by_cases h8 : (cIn l s.1).1 = 8
          · rw [if_pos h8] at h; cases h
          rw [if_neg h8] at h
          by_cases h5 : (cIn l s.1).1 = 5
          · rw [if_pos h5] at h; cases h; exact hs
          rw [if_neg h5] at h
          by_cases h6 : (cIn l s.1).1 = 6
          · rw [if_pos h6] at h; cases h
          rw [if_neg h6] at h
          by_cases h7 : (cIn l s.1).1 = 7
          · rw [if_pos h7] at h; cases h; exact hs
          rw [if_neg h7] at h
          by_cases hk : ¬ (cIn l s.1).1 < 3
          · rw [if_pos hk] at h
            by_cases hx : (if (cIn l s.1).1 = 3 then s.2 = 0 else s.2 = T.length)
            · rw [if_pos hx] at h; cases h; exact hs
            · rw [if_neg hx] at h; cases h
          · rw [if_neg hk] at h
            by_cases hx : s.2 < T.length ∧ tkI P (cIn l s.1) (pat T s.2) = true
            · rw [if_pos hx] at h; cases h; exact hx.1
            · rw [if_neg hx] at h; cases h
        have hcf : ∀ a b, acM P T l (toB to) s = .inr (.inr (a, b)) → a.2 ≤ T.length ∧ b.2 ≤ T.length := by
          intro a b h
          rw [acM] at h
          by_cases h8 : (cIn l s.1).1 = 8
          · rw [if_pos h8] at h; cases h
          rw [if_neg h8] at h
          by_cases h5 : (cIn l s.1).1 = 5
          · rw [if_pos h5] at h; cases h
          rw [if_neg h5] at h
          by_cases h6 : (cIn l s.1).1 = 6
          · rw [if_pos h6] at h; cases h; exact ⟨hs, hs⟩
          rw [if_neg h6] at h
          by_cases h7 : (cIn l s.1).1 = 7
          · rw [if_pos h7] at h; cases h
          rw [if_neg h7] at h
          by_cases hk : ¬ (cIn l s.1).1 < 3
          · rw [if_pos hk] at h
            by_cases hx : (if (cIn l s.1).1 = 3 then s.2 = 0 else s.2 = T.length)
            · rw [if_pos hx] at h; cases h
            · rw [if_neg hx] at h; cases h
          · rw [if_neg hk] at h
            by_cases hx : s.2 < T.length ∧ tkI P (cIn l s.1) (pat T s.2) = true
            · rw [if_pos hx] at h; cases h
            · rw [if_neg hx] at h; cases h
        have hfin : ∀ e, acM P T l (toB to) s = .inl (some e) → e ≤ T.length := by
          intro e h
          rw [acM] at h
          by_cases h8 : (cIn l s.1).1 = 8
          · rw [if_pos h8] at h
            by_cases hb : toB to s.2 = true
            · rw [if_pos hb] at h; cases h; exact hs
            · rw [if_neg hb] at h; cases h
          rw [if_neg h8] at h
          by_cases h5 : (cIn l s.1).1 = 5
          · rw [if_pos h5] at h; cases h
          rw [if_neg h5] at h
          by_cases h6 : (cIn l s.1).1 = 6
          · rw [if_pos h6] at h; cases h
          rw [if_neg h6] at h
          by_cases h7 : (cIn l s.1).1 = 7
          · rw [if_pos h7] at h; cases h
          rw [if_neg h7] at h
          by_cases hk : ¬ (cIn l s.1).1 < 3
          · rw [if_pos hk] at h
            by_cases hx : (if (cIn l s.1).1 = 3 then s.2 = 0 else s.2 = T.length)
            · rw [if_pos hx] at h; cases h
            · rw [if_neg hx] at h; cases h
          · rw [if_neg hk] at h
            by_cases hx : s.2 < T.length ∧ tkI P (cIn l s.1) (pat T s.2) = true
            · rw [if_pos hx] at h; cases h
            · rw [if_neg hx] at h; cases h
        rcases hA : acM P T l (toB to) s with r | ⟨m, s'⟩ | ⟨a, b⟩
        · rw [hA] at hz
          cases r with
          | some e =>
            have hz : some e = some z := hz
            cases hz
            exact hfin _ hA
          | none => exact ih none st _ _ (fun q z => by cases z) h2 z hz
        · rw [hA] at hz
          have h5 := hcl m s' hA
          cases m with
          | none => exact ih (some s') st _ _ (fun q z => by cases z; exact h5) h2 z hz
          | some w => exact ih (some s') (.inr (w.1, ma w.1) :: st) _ _ (fun q z => by cases z; exact h5) (fun q hq => h2 q (by simpa using hq)) z hz
        · rw [hA] at hz
          have h5 := hcf a b hA
          exact ih (some a) (.inl b :: st) _ _ (fun q z => by cases z; exact h5.1) (fun q hq => by
            rcases List.mem_cons.mp hq with y | y
            · cases y; exact h5.2
            · exact h2 q y) z hz
theorem wyR_le {P T : List Int32} {l : Cd} {to : Int32} {fr : Nat} {tr : Nat → Bool} (hfr : fr ≤ T.length) {z : Nat} (h : (wyR P T l to fr tr).1 = some z) : z ≤ T.length :=
  dfs_le 12100 none [.inl (0, fr)] tr (fun _ => 0) (fun q z => by cases z) (fun q hq => by
    rcases List.mem_cons.mp hq with y | y
    · cases y; exact hfr
    · cases y) z h
