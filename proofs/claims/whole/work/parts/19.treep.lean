section TP
variable {X : Type} (sX : X → Nat) (eX : X → Bool) (tX : xH → Nat → Nat → Nat → X → Prop)
def tAt (h : xH) (lo hi a : Nat) : At X → Prop
  | .inl q => lo ≤ a ∧ a < hi ∧ q.1 ≤ 3 ∧ h.2.2 a = some (ob 0 [.int (nI q.1), .long q.2.1, .long q.2.2, .int 0, .null])
  | .inr q => lo ≤ a ∧ a < hi ∧ ∃ c, h.2.2 a = some (ob 0 [.int 4, .long 0, .long 0, .int (nI q.1), .ref c]) ∧ tX h lo hi c q.2
def tPl (h : xH) (lo hi : Nat) : Option Nat → List (Pc X) → Prop
  | o, [] => o = none
  | o, p :: ps => ∃ (a c : Nat) (o' : Option Nat), o = some a ∧ lo ≤ a ∧ a < hi ∧ h.2.2 a = some (ob 4 [.ref c, va_rf o', .int (nI p.2.1), .int (nI p.2.2.1), .int (bI p.2.2.2.1), .int (bI p.2.2.2.2)]) ∧ tAt tX h lo hi c p.1 ∧ (p.2.1 ≤ p.2.2.1 ∧ p.2.2.1 ≤ 6) ∧ tPl h lo hi o' ps
def tRw (h : xH) (lo hi a : Nat) (b : Option Nat) (ps : List (Pc X)) : Prop := lo ≤ a ∧ a < hi ∧ ∃ lp : Option Nat, h.2.2 a = some (ob 7 [va_rf b, va_rf lp, .int (nI (rwS sX ps)), .int (bI (rwE eX ps))]) ∧ tPl tX h lo hi lp ps.reverse
def tRl (h : xH) (lo : Nat) : Nat → Option Nat → Cc X → Prop
  | _, o, [] => o = none
  | hi, o, r :: rs => ∃ (a : Nat) (o' : Option Nat), o = some a ∧ tRw sX eX tX h lo hi a o' r ∧ tRl h lo a o' rs
def tCc (h : xH) (lo hi c : Nat) (rs : Cc X) : Prop := lo ≤ c ∧ c < hi ∧ ∃ lr : Option Nat, h.2.2 c = some (ob 2 [va_rf lr, .int (nI (ccS sX rs)), .int (bI (ccE eX rs))]) ∧ tRl sX eX tX h lo hi lr rs.reverse
variable {sX eX tX}
def tMv (tX : xH → Nat → Nat → Nat → X → Prop) : Prop := ∀ (h h' : xH) (lo hi lo' hi' c : Nat) (x : X), (∀ q, lo ≤ q → q < hi → h'.2.2 q = h.2.2 q) → lo' ≤ lo → hi ≤ hi' → tX h lo hi c x → tX h' lo' hi' c x
theorem tAt.mv (hm : tMv tX) {h h' : xH} {lo hi lo' hi' a : Nat} {x : At X} (hq : ∀ q, lo ≤ q → q < hi → h'.2.2 q = h.2.2 q) (h1 : lo' ≤ lo) (h2 : hi ≤ hi') (ht : tAt tX h lo hi a x) : tAt tX h' lo' hi' a x := by
  cases x with
  | inl q =>
    obtain ⟨q1, q2, q3, q4⟩ := ht
    exact ⟨by omega, by omega, q3, (hq a q1 q2).trans q4⟩
  | inr q =>
    obtain ⟨q1, q2, c, q3, q4⟩ := ht
    exact ⟨by omega, by omega, c, (hq a q1 q2).trans q3, hm _ _ _ _ _ _ _ _ hq h1 h2 q4⟩
theorem tPl.mv (hm : tMv tX) {h h' : xH} {lo hi lo' hi' : Nat} (hq : ∀ q, lo ≤ q → q < hi → h'.2.2 q = h.2.2 q) (h1 : lo' ≤ lo) (h2 : hi ≤ hi') : ∀ {ps : List (Pc X)} {o : Option Nat}, tPl tX h lo hi o ps → tPl tX h' lo' hi' o ps
  | [], _, ht => ht
  | p :: ps, o, ht => by
    obtain ⟨a, c, o', q1, q2, q3, q4, q5, q6, q7⟩ := ht
    exact ⟨a, c, o', q1, by omega, by omega, (hq a q2 q3).trans q4, q5.mv hm hq h1 h2, q6, tPl.mv hm hq h1 h2 q7⟩
theorem tRw.mv (hm : tMv tX) {h h' : xH} {lo hi lo' hi' a : Nat} {b : Option Nat} {ps : List (Pc X)} (hq : ∀ q, lo ≤ q → q < hi → h'.2.2 q = h.2.2 q) (h1 : lo' ≤ lo) (h2 : hi ≤ hi') (ht : tRw sX eX tX h lo hi a b ps) : tRw sX eX tX h' lo' hi' a b ps := by
  obtain ⟨q1, q2, lp, q3, q4⟩ := ht
  exact ⟨by omega, by omega, lp, (hq a q1 q2).trans q3, q4.mv hm hq h1 h2⟩
theorem tRl.mv (hm : tMv tX) {h h' : xH} {lo lo' : Nat} (h1 : lo' ≤ lo) : ∀ {rs : Cc X} {o : Option Nat} {hi hi' : Nat}, (∀ q, lo ≤ q → q < hi → h'.2.2 q = h.2.2 q) → hi ≤ hi' → tRl sX eX tX h lo hi o rs → tRl sX eX tX h' lo' hi' o rs
  | [], _, _, _, _, _, ht => ht
  | r :: rs, o, hi, hi', hq, h2, ht => by
    obtain ⟨a, o', q1, q2, q3⟩ := ht
    have ha := q2.2.1
    exact ⟨a, o', q1, q2.mv hm hq h1 h2, tRl.mv hm h1 (fun q z1 z2 => hq q z1 (by omega)) (Nat.le_refl _) q3⟩
theorem tRl.lt {h : xH} {lo hi a : Nat} {o : Option Nat} {rs : Cc X} (ht : tRl sX eX tX h lo hi o rs) (ho : o = some a) : a < hi := by
  cases rs with
  | nil => have ht : o = none := ht; rw [ht] at ho; cases ho
  | cons r rs =>
    obtain ⟨a', o', q1, q2, q3⟩ := ht
    have := q2.2.1
    rw [ho] at q1; cases q1; exact this
theorem tCc.mv (hm : tMv tX) : tMv (tCc sX eX tX) := fun h h' lo hi lo' hi' c rs hq h1 h2 ht => by
  obtain ⟨q1, q2, lr, q3, q4⟩ := ht
  exact ⟨by omega, by omega, lr, (hq c q1 q2).trans q3, q4.mv hm h1 hq h2⟩
def tCell (sX : X → Nat) (eX : X → Bool) (tX : xH → Nat → Nat → Nat → X → Prop) : Prop := ∀ (h : xH) (lo hi c : Nat) (x : X), tX h lo hi c x → ∃ v, h.2.2 c = some (ob 2 [v, .int (nI (sX x)), .int (bI (eX x))])
theorem tCc.cell : tCell (ccS sX) (ccE eX) (tCc sX eX tX) := fun h lo hi c rs ht => by
  obtain ⟨q1, q2, lr, q3, q4⟩ := ht
  exact ⟨_, q3⟩
theorem tAt.q {E : xE} (hc : tCell sX eX tX) {h : xH} {lo hi a : Nat} {x : At X} (ht : tAt tX h lo hi a x) : atQ E h a (nI (atS sX x)) (atE eX x) := by
  cases x with
  | inl q =>
    obtain ⟨q1, q2, q3, q4⟩ := ht
    refine Or.inl ⟨_, _, _, _, q4, rfl, ?_⟩
    show (!decide (q.1 = 1)) = !decide (nI q.1 = 1)
    congr 1
    exact decide_eq_decide.mpr (nI_eq (b := 1) (by omega) (by decide)).symm
  | inr q =>
    obtain ⟨q1, q2, c, q3, q4⟩ := ht
    obtain ⟨v, hv⟩ := hc _ _ _ _ _ q4
    exact Or.inr ⟨_, _, _, _, c, v, _, q3, hv, by show nI (sX q.2 + 2) = _; rw [← nI_add]; rfl⟩
end TP
def tT : (n : Nat) → xH → Nat → Nat → Nat → Ch n → Prop
  | 0 => fun _ _ _ _ _ => False
  | n + 1 => tCc (szT n) (emT n) (tT n)
theorem tT.mv : ∀ n, tMv (tT n)
  | 0 => fun _ _ _ _ _ _ _ _ _ _ _ h => h.elim
  | n + 1 => tCc.mv (tT.mv n)
theorem tT.cell : ∀ n, tCell (szT n) (emT n) (tT n)
  | 0 => fun _ _ _ _ _ h => h.elim
  | n + 1 => tCc.cell
def sLe (s s' : RS) : Prop := s.1 ≤ s'.1 ∧ s'.2.1 = s.2.1
theorem sLe.rf {s : RS} : sLe s s := ⟨Nat.le_refl _, rfl⟩
theorem sLe.tr {a b c : RS} (h1 : sLe a b) (h2 : sLe b c) : sLe a c := ⟨Nat.le_trans h1.1 h2.1, h2.2.trans h1.2⟩
theorem sLe.inc {s : RS} : sLe s (rInc s) := ⟨Nat.le_succ _, rfl⟩
theorem sLe.stk {s : RS} : sLe s (rStk s) := ⟨Nat.le_refl _, rfl⟩
section HF
variable (xs : List Int32)
theorem rTk_le (c : Int32) (s : RS) : sLe s (rTk xs c s).2 := by
  rw [rTk]; split
  · exact sLe.inc
  · exact sLe.rf
theorem rEx_le (c : Int32) (s : RS) : sLe s (rEx xs c s) := by
  rw [rEx]; split
  · exact sLe.inc
  · exact sLe.stk
theorem rIs_le (l : Nat) (s : RS) : sLe s (rIs xs l s).2 := by
  rw [rIs]; split
  · exact sLe.stk
  · exact sLe.inc
theorem rDg_le (l : Nat) (s : RS) : sLe s (rDg xs l s).2 := by
  rw [rDg]; split
  · exact sLe.stk
  · exact sLe.inc
theorem rIt_le (b : Int64 × Int64) (s : RS) : sLe s (rIt xs b s).2 := by
  simp only [rIt]
  refine ((rIs_le xs 32 s).tr (rTk_le xs 45 _)).tr ?_
  split
  · exact rIs_le xs _ _
  · exact sLe.rf
theorem rIts_le : ∀ (k : Nat) (q : (Int64 × Int64) × RS), sLe q.2 (rIts xs k q).2
  | 0, _ => sLe.rf
  | k + 1, q => by
    rw [rIts]; split
    · exact (rIt_le xs _ _).tr (rIts_le k _)
    · exact sLe.rf
theorem rCl_le (s : RS) : sLe s (rCl xs s).2 := by
  simp only [rCl]
  exact (((rTk_le xs 94 s).tr (rIt_le xs _ _)).tr (rIts_le xs 27 _)).tr (rEx_le xs 93 _)
theorem rBr_le (s : RS) : sLe s (rBr xs s).2 := by
  simp only [rBr]
  refine (((rDg_le xs 0 s).tr (rTk_le xs 44 _)).tr ?_).tr (rEx_le xs 125 _)
  split
  · exact rDg_le xs _ _
  · show sLe _ (if _ then _ else _)
    split
    · exact sLe.stk
    · exact sLe.rf
theorem rRp_le (s : RS) : sLe s (rRp xs s).2.2 := by
  rw [rRp]; split
  · exact sLe.inc
  · split
    · exact sLe.inc
    · split
      · exact sLe.inc
      · split
        · exact sLe.inc.tr (rBr_le xs _)
        · exact sLe.rf
end HF
