def eSt (q : PS0) (lo hi e k nx : Nat) : Prop := lo ≤ e ∧ e < hi ∧ q.2.1 e = k ∧ q.2.2.1 e = nx
def eFk (q : PS0) (lo hi e a b : Nat) : Prop := eSt q lo hi e 5 a ∧ q.2.2.2.1 e = b
def eMk (q : PS0) (lo hi e sl nx : Nat) : Prop := eSt q lo hi e 4 nx ∧ q.2.2.2.2.1 e = sl
def eFs (q : PS0) (lo hi : Nat) (sp : Bool) (e b nx : Nat) : Prop := match sp with
  | true => eFk q lo hi e nx b
  | false => eFk q lo hi e b nx
def eAg (q q' : PS0) (lo hi : Nat) : Prop := ∀ k, lo ≤ k → k < hi → q'.2.1 k = q.2.1 k ∧ q'.2.2.1 k = q.2.2.1 k ∧ q'.2.2.2.1 k = q.2.2.2.1 k ∧ q'.2.2.2.2.1 k = q.2.2.2.2.1 k ∧ q'.2.2.2.2.2.1 k = q.2.2.2.2.2.1 k ∧ q'.2.2.2.2.2.2 k = q.2.2.2.2.2.2 k
section EM
variable {X : Type} (eX : PS0 → Nat → Nat → X → Nat → Nat → Prop) (q : PS0) (lo hi : Nat)
def eAt : At X → Nat → Nat → Prop
  | .inl l, nx, e => eSt q lo hi e l.1 nx ∧ q.2.2.2.2.2.1 e = l.2.1 ∧ q.2.2.2.2.2.2 e = l.2.2
  | .inr g, nx, e => ∃ en b, eMk q lo hi en (2 * g.1 + 1) nx ∧ eX q lo hi g.2 en b ∧ eMk q lo hi e (2 * g.1) b
def eTm (a : At X) : Nat → Nat → Nat → Prop
  | 0, nx, e => e = nx
  | k + 1, nx, e => ∃ b, eAt eX q lo hi a b e ∧ eTm a k nx b
def eCp (a : At X) (sp : Bool) (nx : Nat) : Nat → Nat → Prop
  | 0, e => e = nx
  | k + 1, e => ∃ b e', eFs q lo hi sp e b nx ∧ eAt eX q lo hi a e' b ∧ eCp a sp nx k e'
def ePc (y : Pc X) (nx e : Nat) : Prop := match y.2.2.2.1 with
  | true => ∃ f b, eFs q lo hi y.2.2.2.2 f b nx ∧ eAt eX q lo hi y.1 f b ∧ e = (if y.2.1 = 0 then f else b)
  | false => ∃ c, eCp eX q lo hi y.1 y.2.2.2.2 nx (y.2.2.1 - y.2.1) c ∧ eTm eX q lo hi y.1 y.2.1 c e
def eRw : List (Pc X) → Nat → Nat → Prop
  | [], nx, e => e = nx
  | y :: ys, nx, e => ∃ b, ePc eX q lo hi y b e ∧ eRw ys nx b
def eCc : Cc X → Nat → Nat → Prop
  | [], nx, e => e = nx
  | [r], nx, e => eRw eX q lo hi r nx e
  | r :: rs, nx, e => ∃ a b, eFk q lo hi e a b ∧ eRw eX q lo hi r nx a ∧ eCc rs nx b
end EM
def eT : (n : Nat) → PS0 → Nat → Nat → Ch n → Nat → Nat → Prop
  | 0 => fun _ _ _ _ _ _ => False
  | n + 1 => fun q lo hi x nx e => eCc (eT n) q lo hi x nx e
def lfT (b : Int64 × Int64) (x : Int32) : Bool := if x < 64 then bit64 b.1 x else bit64 b.2 (x - 64)
def lfO (P : List Int32) (l : Lf) (x : Ins) : Prop := clOK P x ∧ ((l.1 = 1 ∧ (x.1 = 0 ∨ x.1 = 1 ∨ x.1 = 2) ∧ ∀ sg, isSg sg = true → tkI P x sg = lfT l.2 sg) ∨ (l.1 = 2 ∧ x.1 = 3) ∨ (l.1 = 3 ∧ x.1 = 4))
def tmC (a : Cd) : Nat → Cd
  | 0 => []
  | k + 1 => a ++ tmC a k
def opC (a : Cd) (sp : Bool) : Nat → Cd
  | 0 => []
  | k + 1 => fkE sp ((k + 1) * (a.length + 1)) :: (a ++ opC a sp k)
def rpC (y : Rp) (a : Cd) : Cd := match y.2.2.1 with
  | true => if y.1 = 0 then fkE y.2.2.2 (a.length + 2) :: (a ++ [(7, -nI a.length - 1, 0)]) else a ++ [if y.2.2.2 = true then (6, 1, -nI a.length) else (6, -nI a.length, 1)]
  | false => tmC a y.1 ++ opC a y.2.2.2 (y.2.1 - y.1)
section SM
variable {X : Type} (P : List Int32) (sX : X → Cd → Prop)
def sAt : At X → Cd → Prop
  | .inl l, c => ∃ x, c = [x] ∧ lfO P l x
  | .inr g, c => ∃ c', sX g.2 c' ∧ c = (5, nI (2 * g.1), 0) :: (c' ++ [(5, nI (2 * g.1 + 1), 0)])
def sPc (y : Pc X) (c : Cd) : Prop := ∃ a, sAt P sX y.1 a ∧ c = rpC y.2 a
def sRw : List (Pc X) → Cd → Prop
  | [], c => c = []
  | y :: ys, c => ∃ c1 c2, sPc P sX y c1 ∧ sRw ys c2 ∧ c = c1 ++ c2
def sCc : Cc X → Cd → Prop
  | [], c => c = []
  | [r], c => sRw P sX r c
  | r :: rs, c => ∃ c1 c2, sRw P sX r c1 ∧ sCc rs c2 ∧ c = (6, 1, nI (c1.length + 2)) :: (c1 ++ (7, nI (c2.length + 1), 0) :: c2)
end SM
def sT (P : List Int32) : (n : Nat) → Ch n → Cd → Prop
  | 0 => fun _ _ => False
  | n + 1 => fun x c => sCc P (sT P n) x c
section VT
variable {X : Type} (mX : X → Bool) (vX : Nat → X → Prop)
def vAt (d : Nat) : At X → Prop
  | .inl l => 1 ≤ l.1 ∧ l.1 ≤ 3
  | .inr g => d < 6 ∧ g.1 ≤ 6 ∧ vX (d + 1) g.2
def vPc (d : Nat) (y : Pc X) : Prop := vAt vX d y.1 ∧ y.2.1 ≤ y.2.2.1 ∧ 1 ≤ y.2.2.1 ∧ y.2.2.1 ≤ 6 ∧ (y.2.2.2.1 = true → y.2.1 ≤ 1 ∧ atE mX y.1 = false)
def vCc (d : Nat) (rs : Cc X) : Prop := rs ≠ [] ∧ ∀ r ∈ rs, ∀ y ∈ r, vPc mX vX d y
end VT
def vT : (n : Nat) → Nat → Ch n → Prop
  | 0 => fun _ _ => False
  | n + 1 => fun d x => vCc (emT n) (vT n) d x
def sgm (l : Cd) (p : Nat) (c : Cd) : Prop := p + c.length ≤ l.length ∧ ∃ r, l.drop p = c ++ r
theorem sgm.app {l : Cd} {p : Nat} {a b : Cd} (h : sgm l p (a ++ b)) : sgm l p a ∧ sgm l (p + a.length) b := by
  obtain ⟨h1, r, h2⟩ := h
  rw [List.length_append] at h1
  refine ⟨⟨by omega, b ++ r, by rw [h2, List.append_assoc]⟩, by omega, r, ?_⟩
  rw [← List.drop_drop, h2, List.append_assoc, List.drop_left]
theorem sgm.hd {l : Cd} {p : Nat} {x : Ins} {c : Cd} (h : sgm l p (x :: c)) : cIn l p = x ∧ sgm l (p + 1) c := by
  have h0 := h
  obtain ⟨h1, r, h2⟩ := h
  refine ⟨?_, (sgm.app (a := [x]) h0).2⟩
  have h3 : (l.drop p)[0]? = some x := by rw [h2]; rfl
  rw [List.getElem?_drop] at h3
  rw [cIn, List.getD_eq_getElem?_getD, show l[p]? = some x from h3]; rfl
theorem ad_pos {p k : Nat} (h : p + k < 2 ^ 31) : (nI p + nI k).toNatClampNeg = p + k := by rw [nI_add, nI_clamp h]
theorem ad_neg {p n : Nat} (h : p + n < 2 ^ 31) : (nI (p + n) + -nI n).toNatClampNeg = p := by
  rw [← Int32.sub_eq_add_neg, pk_sub (by omega), nI_clamp (by omega)] <;> omega
theorem ad_neg1 {p n : Nat} (h : p + n + 1 < 2 ^ 31) : (nI (p + n + 1) + (-nI n - 1)).toNatClampNeg = p := by
  rw [show (-nI n - 1 : Int32) = -nI (n + 1) by rw [nI_succ, Int32.neg_add], ← Int32.sub_eq_add_neg, pk_sub (by omega), nI_clamp (by omega)] <;> omega
section JJ
variable {q : PS0} {P T : List Int32} {l : Cd} {K : Nat → Bool}
theorem acM_6 {p x : Nat} {a b : Int32} (h : cIn l p = (6, a, b)) : acM P T l K (p, x) = .inr (.inr (((nI p + a).toNatClampNeg, x), ((nI p + b).toNatClampNeg, x))) := by
  simp [acM, h, cN1, cN2]
theorem acM_7 {p x : Nat} {a b : Int32} (h : cIn l p = (7, a, b)) : acM P T l K (p, x) = .inr (.inl (none, ((nI p + a).toNatClampNeg, x))) := by
  simp [acM, h, cN1, cN2]
theorem acM_5 {p x m : Nat} {b : Int32} (h : cIn l p = (5, nI m, b)) (hm : m < 2 ^ 31) : acM P T l K (p, x) = .inr (.inl ((some (m, x)), (p + 1, x))) := by
  simp [acM, h, cMk, nI_clamp hm]
theorem acM_8 {p x : Nat} {a b : Int32} (h : cIn l p = (8, a, b)) : acM P T l K (p, x) = .inl (if K x = true then some x else none) := by
  simp [acM, h]
theorem acC_5 {e a b lo hi x : Nat} (h : eFk q lo hi e a b) : acC q T K (e, x) = .inr (.inr ((a, x), (b, x))) := by
  obtain ⟨⟨-, -, h1, h2⟩, h3⟩ := h
  simp [acC, h1, h2, h3]
theorem acC_4 {e sl nx lo hi x : Nat} (h : eMk q lo hi e sl nx) : acC q T K (e, x) = .inr (.inl ((some (sl, x)), (nx, x))) := by
  obtain ⟨⟨-, -, h1, h2⟩, h3⟩ := h
  simp [acC, h1, h2, h3]
def qC (Q : List Nat → Nat → Nat → List (Nat × Nat) → Prop) : Prop := (∀ O x x' e ms, x' ≤ x → Q O x e ms → Q O x' e ms) ∧ (∀ O x e ms g, g ≤ 6 → Q O x e ms → Q (g :: O) x e ((2 * g + 1, x) :: ms)) ∧ (∀ O x e ms g, g ≤ 6 → Q (g :: O) x e ms → Q O x e ((2 * g, x) :: ms))
def JE (q : PS0) (P T : List Int32) (l : Cd) (K : Nat → Bool) (Q : Nat → Nat → List (Nat × Nat) → Prop) (e p x : Nat) : Prop := ∃ r n m, Ev (acC q T K) n (e, x) r ∧ Ev (acM P T l K) m (p, x) r ∧ ∀ en ms, r = some (en, ms) → Q x en ms
variable {Q Q' : Nat → Nat → List (Nat × Nat) → Prop}
theorem je_go {e p x e' p' x' : Nat} (hQ : ∀ x x' e ms, x' ≤ x → Q x e ms → Q x' e ms) (hx : x ≤ x') (h1 : acC q T K (e, x) = .inr (.inl (none, (e', x')))) (h2 : acM P T l K (p, x) = .inr (.inl (none, (p', x')))) (h : JE q P T l K Q e' p' x') : JE q P T l K Q e p x := by
  obtain ⟨r, n, m, k1, k2, k3⟩ := h
  exact ⟨r, n + 1, m + 1, Ev.go h1 k1 rfl, Ev.go h2 k2 rfl, fun en ms hr => hQ _ _ _ _ hx (k3 en ms hr)⟩
theorem je_mk {e p x e' p' sl : Nat} (hQ : ∀ en ms, Q' x en ms → Q x en ((sl, x) :: ms)) (h1 : acC q T K (e, x) = .inr (.inl ((some (sl, x)), (e', x)))) (h2 : acM P T l K (p, x) = .inr (.inl ((some (sl, x)), (p', x)))) (h : JE q P T l K Q' e' p' x) : JE q P T l K Q e p x := by
  obtain ⟨r, n, m, k1, k2, k3⟩ := h
  refine ⟨rCs (some (sl, x)) r, n + 1, m + 1, Ev.go h1 k1 rfl, Ev.go h2 k2 rfl, fun en ms hr => ?_⟩
  cases r with
  | none => cases hr
  | some w => cases hr; exact hQ _ _ (k3 _ _ rfl)
theorem je_j {e p x p' : Nat} (h2 : acM P T l K (p, x) = .inr (.inl (none, (p', x)))) (h : JE q P T l K Q e p' x) : JE q P T l K Q e p x := by
  obtain ⟨r, n, m, k1, k2, k3⟩ := h
  exact ⟨r, n, m + 1, k1, Ev.go h2 k2 rfl, k3⟩
theorem je_fk {e p x a b a' b' : Nat} (h1 : acC q T K (e, x) = .inr (.inr ((a, x), (b, x)))) (h2 : acM P T l K (p, x) = .inr (.inr ((a', x), (b', x)))) (ha : JE q P T l K Q a a' x) (hb : JE q P T l K Q b b' x) : JE q P T l K Q e p x := by
  obtain ⟨r, n, m, k1, k2, k3⟩ := ha
  cases r with
  | some w => exact ⟨some w, n + 1, m + 1, Ev.forkL h1 k1 rfl, Ev.forkL h2 k2 rfl, k3⟩
  | none =>
    obtain ⟨r', n', m', k4, k5, k6⟩ := hb
    exact ⟨r', _, _, Ev.forkR h1 k1 k4 rfl, Ev.forkR h2 k2 k5 rfl, k6⟩
theorem je_no {e p x : Nat} (h1 : acC q T K (e, x) = .inl none) (h2 : acM P T l K (p, x) = .inl none) : JE q P T l K Q e p x :=
  ⟨none, 0, 0, Ev.fin h1 rfl, Ev.fin h2 rfl, fun _ _ h => by cases h⟩
def ct (q : PS0) (P T : List Int32) (l : Cd) (K : Nat → Bool) (Q : Nat → Nat → List (Nat × Nat) → Prop) (b : Bool) (nx p x0 : Nat) : Prop := ∀ x, x0 ≤ x → x ≤ T.length → (x = x0 → b = true) → JE q P T l K Q nx p x
def uX (q : PS0) (P T : List Int32) (l : Cd) (K : Nat → Bool) {X : Type} (eX : PS0 → Nat → Nat → X → Nat → Nat → Prop) (sX : X → Cd → Prop) (mX : X → Bool) (vX : Nat → X → Prop) : Prop := ∀ (Q : List Nat → Nat → Nat → List (Nat × Nat) → Prop) (O : List Nat) (lo hi nx e p c x0 d) (x : X), qC Q → vX d x → eX q lo hi x nx e → sX x c → sgm l p c → x0 ≤ T.length → ct q P T l K (Q O) (mX x) nx (p + c.length) x0 → JE q P T l K (Q O) e p x0
variable {X : Type} {eX : PS0 → Nat → Nat → X → Nat → Nat → Prop} {sX : X → Cd → Prop} {mX : X → Bool} {vX : Nat → X → Prop}
theorem u_at (hl : l.length ≤ 130) (hS : ∀ x ∈ T, isSg x = true) (ih : uX q P T l K eX sX mX vX) : uX q P T l K (eAt eX) (sAt P sX) (atE mX) (vAt vX) := by
  intro Q O lo hi nx e p c x0 d a hQ hv he hs hg hx hc
  cases a with
  | inl lf =>
    obtain ⟨⟨-, -, k1, k2⟩, k3, k4⟩ := he
    obtain ⟨x, rfl, -, hlf⟩ := hs
    have h0 := hg.hd.1
    rcases hlf with ⟨j1, j2, j3⟩ | ⟨j1, j2⟩ | ⟨j1, j2⟩
    · have hA : acM P T l K (p, x0) = if x0 < T.length ∧ tkI P x (pat T x0) = true then .inr (.inl (none, (p + 1, x0 + 1))) else .inl none := by
        rcases j2 with j | j | j <;> simp [acM, h0, j]
      have hB : acC q T K (e, x0) = if x0 < T.length ∧ pTk q e (T.getD x0 (-2)) = true then .inr (.inl (none, (nx, x0 + 1))) else .inl none := by
        simp [acC, k1, k2, j1]
      have hE : (x0 < T.length ∧ tkI P x (pat T x0) = true) ↔ (x0 < T.length ∧ pTk q e (T.getD x0 (-2)) = true) := by
        refine and_congr_right fun hx0 => ?_
        have e1 : pat T x0 = T[x0] := by rw [pat, List.getD_eq_getElem?_getD, List.getElem?_eq_getElem hx0]; rfl
        have e2 : T.getD x0 (-2) = T[x0] := by rw [List.getD_eq_getElem?_getD, List.getElem?_eq_getElem hx0]; rfl
        rw [e1, e2, j3 _ (hS _ (List.getElem_mem hx0))]
        have : pTk q e T[x0] = lfT lf.2 T[x0] := by rw [pTk, lfT, k3, k4]
        rw [this]
      by_cases hz : x0 < T.length ∧ tkI P x (pat T x0) = true
      · rw [if_pos hz] at hA
        rw [if_pos (hE.mp hz)] at hB
        exact je_go (hQ.1 O) (Nat.le_succ _) hB hA (hc (x0 + 1) (Nat.le_succ _) hz.1 (fun z => by omega))
      · rw [if_neg hz] at hA
        rw [if_neg (fun z => hz (hE.mpr z))] at hB
        exact je_no hB hA
    · have hA : acM P T l K (p, x0) = if x0 = 0 then .inr (.inl (none, (p + 1, x0))) else .inl none := by
        simp [acM, h0, j2]
      have hB : acC q T K (e, x0) = if x0 = 0 then .inr (.inl (none, (nx, x0))) else .inl none := by
        simp [acC, k1, k2, j1]
      by_cases hz : x0 = 0
      · rw [if_pos hz] at hA hB
        exact je_go (hQ.1 O) (Nat.le_refl _) hB hA (hc x0 (Nat.le_refl _) hx (fun _ => by simp [atE, j1]))
      · rw [if_neg hz] at hA hB
        exact je_no hB hA
    · have hA : acM P T l K (p, x0) = if x0 = T.length then .inr (.inl (none, (p + 1, x0))) else .inl none := by
        simp [acM, h0, j2]
      have hB : acC q T K (e, x0) = if x0 = T.length then .inr (.inl (none, (nx, x0))) else .inl none := by
        simp [acC, k1, k2, j1]
      by_cases hz : x0 = T.length
      · rw [if_pos hz] at hA hB
        exact je_go (hQ.1 O) (Nat.le_refl _) hB hA (hc x0 (Nat.le_refl _) hx (fun _ => by simp [atE, j1]))
      · rw [if_neg hz] at hA hB
        exact je_no hB hA
  | inr g =>
    obtain ⟨en, b, k1, k2, k3⟩ := he
    obtain ⟨c', k4, rfl⟩ := hs
    obtain ⟨v1, v2, v3⟩ := hv
    have hg0 := hg.1
    obtain ⟨g1, g2⟩ := hg.hd
    obtain ⟨g3, g4⟩ := g2.app
    have g5 := g4.hd.1
    simp only [List.length_cons, List.length_append, List.length_nil] at hg0 hc
    refine je_mk (Q' := Q (g.1 :: O)) (fun en ms h => hQ.2.2 _ _ _ _ _ v2 h) (acC_4 k3) (acM_5 g1 (by omega)) ?_
    refine ih Q (g.1 :: O) lo hi en b (p + 1) c' x0 (d + 1) g.2 hQ v3 k2 k4 g3 hx (fun x hx1 hx2 hx3 => ?_)
    refine je_mk (Q' := Q O) (fun en ms h => hQ.2.1 _ _ _ _ _ v2 h) (acC_4 k1) (acM_5 g5 (by omega)) ?_
    have := hc x hx1 hx2 hx3
    rw [show p + (c'.length + (0 + 1) + 1) = p + 1 + c'.length + 1 by omega] at this
    exact this
theorem opC_len (a : Cd) (sp : Bool) : ∀ k, (opC a sp k).length = k * (a.length + 1)
  | 0 => by simp [opC]
  | k + 1 => by rw [opC, List.length_cons, List.length_append, opC_len a sp k, Nat.add_mul]; omega
theorem je_fs {sp : Bool} {lo hi e b nx p k x : Nat} (h : eFs q lo hi sp e b nx) (hm : cIn l p = fkE sp k) (hk : p + k + 1 < 2 ^ 31) (hb : JE q P T l K Q b (p + 1) x) (hn : JE q P T l K Q nx (p + k) x) : JE q P T l K Q e p x := by
  have h1 : (nI p + 1).toNatClampNeg = p + 1 := ad_pos (k := 1) (by omega)
  have h2 : (nI p + nI k).toNatClampNeg = p + k := ad_pos (by omega)
  cases sp with
  | true =>
    have hm : cIn l p = (6, nI k, 1) := hm
    refine je_fk (acC_5 h) (acM_6 hm) ?_ ?_
    · rw [h2]; exact hn
    · rw [h1]; exact hb
  | false =>
    have hm : cIn l p = (6, 1, nI k) := hm
    refine je_fk (acC_5 h) (acM_6 hm) ?_ ?_
    · rw [h1]; exact hb
    · rw [h2]; exact hn
theorem ct.sub {b b' : Bool} {nx p x0 x1 : Nat} (h : ct q P T l K Q b nx p x0) (h1 : x0 ≤ x1) (h2 : x1 = x0 → b' = true → b = true) : ct q P T l K Q b' nx p x1 := fun x z1 z2 z3 => h x (by omega) z2 (fun z => h2 (by omega) (z3 (by omega)))
theorem u_tm (hu : uX q P T l K (eAt eX) (sAt P sX) (atE mX) (vAt vX)) {Q : List Nat → Nat → Nat → List (Nat × Nat) → Prop} {O : List Nat} (hQ : qC Q) {lo hi d : Nat} {a : At X} {c : Cd} (hv : vAt vX d a) (hs : sAt P sX a c) : ∀ (k nx e p x0 : Nat), eTm eX q lo hi a k nx e → sgm l p (tmC c k) → x0 ≤ T.length → ct q P T l K (Q O) (decide (k = 0) || atE mX a) nx (p + (tmC c k).length) x0 → JE q P T l K (Q O) e p x0
  | 0, nx, e, p, x0, he, hg, hx, hc => by
    have he : e = nx := he
    subst he
    exact hc x0 (Nat.le_refl _) hx (fun _ => rfl)
  | k + 1, nx, e, p, x0, he, hg, hx, hc => by
    obtain ⟨b, k1, k2⟩ := he
    rw [tmC] at hg
    obtain ⟨g1, g2⟩ := hg.app
    rw [tmC, List.length_append] at hc
    refine hu Q O lo hi b e p c x0 d a hQ hv k1 hs g1 hx (fun x z1 z2 z3 => ?_)
    refine u_tm hu hQ hv hs k nx b (p + c.length) x k2 g2 z2 ?_
    rw [Nat.add_assoc]
    exact hc.sub z1 (fun z4 z5 => by rw [z3 z4]; simp)
theorem u_cp (hl : l.length ≤ 130) (hu : uX q P T l K (eAt eX) (sAt P sX) (atE mX) (vAt vX)) {Q : List Nat → Nat → Nat → List (Nat × Nat) → Prop} {O : List Nat} (hQ : qC Q) {lo hi d nx : Nat} {a : At X} {c : Cd} {sp : Bool} (hv : vAt vX d a) (hs : sAt P sX a c) : ∀ (k e p x0 : Nat), eCp eX q lo hi a sp nx k e → sgm l p (opC c sp k) → x0 ≤ T.length → ct q P T l K (Q O) true nx (p + (opC c sp k).length) x0 → JE q P T l K (Q O) e p x0
  | 0, e, p, x0, he, hg, hx, hc => by
    have he : e = nx := he
    subst he
    exact hc x0 (Nat.le_refl _) hx (fun _ => rfl)
  | k + 1, e, p, x0, he, hg, hx, hc => by
    obtain ⟨b, e', k1, k2, k3⟩ := he
    have h0 := hg.1
    rw [opC_len] at h0 hc
    rw [opC] at hg
    obtain ⟨g0, g1⟩ := hg.hd
    obtain ⟨g2, g3⟩ := g1.app
    refine je_fs k1 g0 (by omega) ?_ (hc x0 (Nat.le_refl _) hx (fun _ => rfl))
    refine hu Q O lo hi e' b (p + 1) c x0 d a hQ hv k2 hs g2 hx (fun x z1 z2 z3 => ?_)
    refine u_cp hl hu hQ hv hs k e' (p + 1 + c.length) x k3 g3 z2 ?_
    rw [opC_len, show p + 1 + c.length + k * (c.length + 1) = p + (k + 1) * (c.length + 1) by rw [Nat.add_mul]; omega]
    exact hc.sub z1 (fun _ _ => rfl)
theorem u_pc (hl : l.length ≤ 130) (hu : uX q P T l K (eAt eX) (sAt P sX) (atE mX) (vAt vX)) : uX q P T l K (ePc eX) (sPc P sX) (pcE mX) (vPc mX vX) := by
  intro Q O lo hi nx e p c x0 d y hQ hv he hs hg hx hc
  obtain ⟨at', m, n, ub, sp⟩ := y
  obtain ⟨a, hs, rfl⟩ := hs
  obtain ⟨v1, v2, v3, v4, v5⟩ := hv
  have hg0 := hg.1
  cases ub with
  | false =>
    obtain ⟨c, k1, k2⟩ := he
    have hg : sgm l p (tmC a m ++ opC a sp (n - m)) := hg
    have hc : ct q P T l K (Q O) (decide (m = 0) || atE mX at') nx (p + (tmC a m ++ opC a sp (n - m)).length) x0 := hc
    obtain ⟨g1, g2⟩ := hg.app
    rw [List.length_append] at hc
    refine u_tm hu hQ v1 hs m c e p x0 k2 g1 hx (fun x z1 z2 z3 => ?_)
    refine u_cp hl hu hQ v1 hs (n - m) c (p + (tmC a m).length) x k1 g2 z2 ?_
    rw [Nat.add_assoc]
    exact hc.sub z1 (fun z4 _ => z3 z4)
  | true =>
    obtain ⟨f, b, k1, k2, k3⟩ := he
    obtain ⟨w1, w2⟩ := v5 rfl
    have w2 : atE mX at' = false := w2
    have w1 : m ≤ 1 := w1
    have k1 : eFs q lo hi sp f b nx := k1
    have k2 : eAt eX q lo hi at' f b := k2
    have k3 : e = if m = 0 then f else b := k3
    by_cases hm : m = 0
    · subst hm
      rw [if_pos rfl] at k3
      subst k3
      have hg : sgm l p (fkE sp (a.length + 2) :: (a ++ [(7, -nI a.length - 1, 0)])) := hg
      have hc : ct q P T l K (Q O) true nx (p + (fkE sp (a.length + 2) :: (a ++ [((7 : Int32), -nI a.length - 1, (0 : Int32))])).length) x0 := hc
      have hg1 := hg.1
      simp only [List.length_cons, List.length_append, List.length_nil] at hc hg1
      obtain ⟨g0, g1⟩ := hg.hd
      obtain ⟨g2, g3⟩ := g1.app
      have g4 := g3.hd.1
      have key : ∀ (j x : Nat), T.length - x ≤ j → x0 ≤ x → x ≤ T.length → JE q P T l K (Q O) e p x := by
        intro j
        induction j with
        | zero =>
          intro x hj hx0 hxl
          refine je_fs k1 g0 (by omega) ?_ ?_
          · refine hu Q O lo hi e b (p + 1) a x d at' hQ v1 k2 hs g2 hxl (fun y z1 z2 z3 => ?_)
            by_cases hyx : y = x
            · rw [w2] at z3; cases z3 hyx
            · omega
          · have := hc x hx0 hxl (fun _ => rfl)
            rw [show p + (a.length + (0 + 1) + 1) = p + (a.length + 2) by omega] at this
            exact this
        | succ j ihj =>
          intro x hj hx0 hxl
          refine je_fs k1 g0 (by omega) ?_ ?_
          · refine hu Q O lo hi e b (p + 1) a x d at' hQ v1 k2 hs g2 hxl (fun y z1 z2 z3 => ?_)
            by_cases hyx : y = x
            · rw [w2] at z3; cases z3 hyx
            · refine je_j (acM_7 g4) ?_
              rw [show p + 1 + a.length = p + a.length + 1 by omega, ad_neg1 (by omega)]
              exact ihj y (by omega) (by omega) z2
          · have := hc x hx0 hxl (fun _ => rfl)
            rw [show p + (a.length + (0 + 1) + 1) = p + (a.length + 2) by omega] at this
            exact this
      exact key _ x0 (Nat.le_refl _) (Nat.le_refl _) hx
    · rw [if_neg hm] at k3
      subst k3
      have er : rpC (m, n, true, sp) a = a ++ [if sp = true then (6, 1, -nI a.length) else (6, -nI a.length, 1)] := by
        show (if m = 0 then _ else _) = _
        rw [if_neg hm]
      rw [show ((at', m, n, true, sp) : Pc X).2 = (m, n, true, sp) from rfl, er] at hg hc hg0
      simp only [List.length_cons, List.length_append, List.length_nil] at hc hg0
      obtain ⟨g1, g2⟩ := hg.app
      have g3 := g2.hd.1
      have hF : ∀ x, JE q P T l K (Q O) e p x → JE q P T l K (Q O) nx (p + a.length + 1) x → JE q P T l K (Q O) f (p + a.length) x := by
        intro x j1 j2
        have h1 : (nI (p + a.length) + 1).toNatClampNeg = p + a.length + 1 := ad_pos (k := 1) (by omega)
        have h2 : (nI (p + a.length) + -nI a.length).toNatClampNeg = p := ad_neg (by omega)
        cases sp with
        | true =>
          refine je_fk (acC_5 k1) (acM_6 g3) ?_ ?_
          · rw [h1]; exact j2
          · rw [h2]; exact j1
        | false =>
          refine je_fk (acC_5 k1) (acM_6 g3) ?_ ?_
          · rw [h2]; exact j1
          · rw [h1]; exact j2
      have hN : ∀ x, x0 < x → x ≤ T.length → JE q P T l K (Q O) nx (p + a.length + 1) x := fun x z1 z2 => by
        have := hc x (by omega) z2 (fun z => by omega)
        rw [show p + (a.length + (0 + 1)) = p + a.length + 1 by omega] at this
        exact this
      have key : ∀ (j x : Nat), T.length - x ≤ j → x0 ≤ x → x ≤ T.length → JE q P T l K (Q O) e p x := by
        intro j
        induction j with
        | zero =>
          intro x hj hx0 hxl
          refine hu Q O lo hi f e p a x d at' hQ v1 k2 hs g1 hxl (fun y z1 z2 z3 => ?_)
          by_cases hyx : y = x
          · rw [w2] at z3; cases z3 hyx
          · omega
        | succ j ihj =>
          intro x hj hx0 hxl
          refine hu Q O lo hi f e p a x d at' hQ v1 k2 hs g1 hxl (fun y z1 z2 z3 => ?_)
          by_cases hyx : y = x
          · rw [w2] at z3; cases z3 hyx
          · exact hF y (ihj y (by omega) (by omega) z2) (hN y (by omega) z2)
      exact key _ x0 (Nat.le_refl _) (Nat.le_refl _) hx
theorem u_rw (hp : uX q P T l K (ePc eX) (sPc P sX) (pcE mX) (vPc mX vX)) {Q : List Nat → Nat → Nat → List (Nat × Nat) → Prop} {O : List Nat} (hQ : qC Q) {lo hi d nx : Nat} : ∀ (ys : List (Pc X)) (e p : Nat) (c : Cd) (x0 : Nat), (∀ y ∈ ys, vPc mX vX d y) → eRw eX q lo hi ys nx e → sRw P sX ys c → sgm l p c → x0 ≤ T.length → ct q P T l K (Q O) (rwE mX ys) nx (p + c.length) x0 → JE q P T l K (Q O) e p x0
  | [], e, p, c, x0, hv, he, hs, hg, hx, hc => by
    have he : e = nx := he
    have hs : c = [] := hs
    subst he; subst hs
    exact hc x0 (Nat.le_refl _) hx (fun _ => rfl)
  | y :: ys, e, p, c, x0, hv, he, hs, hg, hx, hc => by
    obtain ⟨b, k1, k2⟩ := he
    obtain ⟨c1, c2, k3, k4, rfl⟩ := hs
    obtain ⟨g1, g2⟩ := hg.app
    rw [List.length_append] at hc
    refine hp Q O lo hi b e p c1 x0 d y hQ (hv y List.mem_cons_self) k1 k3 g1 hx (fun x z1 z2 z3 => ?_)
    refine u_rw hp hQ ys b (p + c1.length) c2 x (fun y' hy => hv y' (List.mem_cons_of_mem _ hy)) k2 k4 g2 z2 ?_
    rw [Nat.add_assoc]
    exact hc.sub z1 (fun z4 z5 => by
      show (List.all (y :: ys) (pcE mX)) = true
      rw [List.all_cons, z3 z4]
      exact z5)
theorem u_cc (hl : l.length ≤ 130) (hp : uX q P T l K (ePc eX) (sPc P sX) (pcE mX) (vPc mX vX)) {Q : List Nat → Nat → Nat → List (Nat × Nat) → Prop} {O : List Nat} (hQ : qC Q) {lo hi d nx : Nat} : ∀ (rs : Cc X) (e p : Nat) (c : Cd) (x0 : Nat), (∀ r ∈ rs, ∀ y ∈ r, vPc mX vX d y) → rs ≠ [] → eCc eX q lo hi rs nx e → sCc P sX rs c → sgm l p c → x0 ≤ T.length → ct q P T l K (Q O) (ccE mX rs) nx (p + c.length) x0 → JE q P T l K (Q O) e p x0
  | [], e, p, c, x0, hv, h0, he, hs, hg, hx, hc => absurd rfl h0
  | [r], e, p, c, x0, hv, h0, he, hs, hg, hx, hc => by
    refine u_rw hp hQ r e p c x0 (hv r List.mem_cons_self) he hs hg hx (hc.sub (Nat.le_refl _) (fun _ z => ?_))
    show List.any [r] (rwE mX) = true
    simp [z]
  | r :: r' :: rs, e, p, c, x0, hv, h0, he, hs, hg, hx, hc => by
    obtain ⟨a, b, k1, k2, k3⟩ := he
    obtain ⟨c1, c2, k4, k5, rfl⟩ := hs
    have hg0 := hg.1
    simp only [List.length_cons, List.length_append] at hc hg0
    obtain ⟨g0, g1⟩ := hg.hd
    obtain ⟨g2, g3⟩ := g1.app
    obtain ⟨g4, g5⟩ := g3.hd
    have h1 : (nI p + 1).toNatClampNeg = p + 1 := ad_pos (k := 1) (by omega)
    have h2 : (nI p + nI (c1.length + 2)).toNatClampNeg = p + (c1.length + 2) := ad_pos (by omega)
    refine je_fk (acC_5 k1) (acM_6 g0) ?_ ?_
    · rw [h1]
      refine u_rw hp hQ r a (p + 1) c1 x0 (hv r List.mem_cons_self) k2 k4 g2 hx (fun x z1 z2 z3 => ?_)
      refine je_j (acM_7 g4) ?_
      rw [ad_pos (by omega)]
      have := hc x z1 z2 (fun z => by
        show List.any (r :: r' :: rs) (rwE mX) = true
        rw [List.any_cons, z3 z]; rfl)
      rw [show p + (c1.length + (c2.length + 1) + 1) = p + 1 + c1.length + (c2.length + 1) by omega] at this
      exact this
    · rw [h2]
      rw [show p + 1 + c1.length + 1 = p + (c1.length + 2) by omega] at g5
      refine u_cc hl hp hQ (r' :: rs) b (p + (c1.length + 2)) c2 x0 (fun r'' hr => hv r'' (List.mem_cons_of_mem _ hr)) (by simp) k3 k5 g5 hx ?_
      rw [show p + (c1.length + 2) + c2.length = p + (c1.length + (c2.length + 1) + 1) by omega]
      exact hc.sub (Nat.le_refl _) (fun _ z => by
        show List.any (r :: r' :: rs) (rwE mX) = true
        rw [List.any_cons]
        have z : List.any (r' :: rs) (rwE mX) = true := z
        rw [z, Bool.or_true])
theorem uT_ok (hl : l.length ≤ 130) (hS : ∀ x ∈ T, isSg x = true) : ∀ n, uX q P T l K (eT n) (sT P n) (emT n) (vT n)
  | 0 => fun Q O lo hi nx e p c x0 d x hQ hv => hv.elim
  | n + 1 => by
    intro Q O lo hi nx e p c x0 d x hQ hv he hs hg hx hc
    have hp := u_pc hl (u_at hl hS (uT_ok hl hS n))
    exact u_cc hl hp hQ (d := d) x e p c x0 hv.2 hv.1 he hs hg hx hc
theorem u_all (hl : l.length ≤ 130) (hS : ∀ x ∈ T, isSg x = true) {Q : List Nat → Nat → Nat → List (Nat × Nat) → Prop} {O : List Nat} (hQ : qC Q) (hQ0 : ∀ x, x ≤ T.length → Q O x x []) {n d lo hi fi nx : Nat} {x : Ch n} {c : Cd} (hv : vT n d x) (he : eT n q lo hi x nx fi) (h0 : q.2.1 nx = 0) (hs : sT P n x c) (hcl : l = c ++ [(8, 0, 0)]) {x0 : Nat} (hx : x0 ≤ T.length) : JE q P T l K (Q O) fi 0 x0 := by
  refine uT_ok hl hS n Q O lo hi nx fi 0 c x0 d x hQ hv he hs ⟨by rw [hcl, List.length_append]; omega, [(8, 0, 0)], hcl⟩ hx (fun y _ hy _ => ?_)
  have h8 : cIn l (0 + c.length) = (8, 0, 0) := by rw [Nat.zero_add, hcl, cIn, List.getD_eq_getElem?_getD, List.getElem?_append_right (Nat.le_refl _), Nat.sub_self]; rfl
  have hA : acC q T K (nx, y) = .inl (if K y = true then some y else none) := by simp [acC, h0]
  refine ⟨_, 0, 0, Ev.fin hA rfl, Ev.fin (acM_8 h8) rfl, fun en ms hr => ?_⟩
  by_cases hk : K y = true
  · rw [if_pos hk] at hr; cases hr; exact hQ0 y hy
  · rw [if_neg hk] at hr; cases hr
end JJ
