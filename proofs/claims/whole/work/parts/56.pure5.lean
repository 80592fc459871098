abbrev LI : Type := Nat × Nat × Bool
def insA (P : List Int32) (i : Nat) : Ins := (kdI (pat P i), if pat P i = 91 then nI i else pat P i, 0)
def rpK (P : List Int32) (i q0 : Nat) (y : Rp) : Prop := (pat P i = 63 ∧ y.1 = 0 ∧ y.2.1 = 1 ∧ y.2.2.1 = false) ∨ (pat P i = 42 ∧ y.1 = 0 ∧ y.2.1 = 1 ∧ y.2.2.1 = true) ∨ (pat P i = 43 ∧ y.1 = 1 ∧ y.2.1 = 1 ∧ y.2.2.1 = true) ∨ (pat P i = 123 ∧ y.1 = (pat P (i + 1) - 48).toNatClampNeg ∧ y.2.1 = (pat P (q0 - 2) - 48).toNatClampNeg ∧ y.2.2.1 = false ∧ y.1 ≤ y.2.1 ∧ 1 ≤ y.2.1 ∧ y.2.1 ≤ 6)
def lRpt (P : List Int32) (s : LI) (e : Bool) (y : Rp) (s' : LI) : Prop := s'.2 = (s.2.1, s.2.2 || (y.2.2.1 && e)) ∧ ((y = (1, 1, false, false) ∧ s'.1 = s.1) ∨ (isB (pat P s.1) 42 43 63 123 = true ∧ ∃ q, mRq P s.1 = .inr q ∧ y.2.2.2 = decide (pat P q.1 = 63) ∧ s'.1 = (if pat P q.1 = 63 then q.1 + 1 else q.1) ∧ s.1 + (if pat P s.1 = 123 then 3 else 1) ≤ q.1 ∧ rpK P s.1 q.1 y))
section LN
variable {X : Type} (P : List Int32) (mX : X → Bool) (iX : LI → X → LI → Prop)
def lAtm (s : LI) : At X → LI → Prop
  | .inl l, s' => s.1 < P.length ∧ isB (pat P s.1) 42 43 63 123 = false ∧ pat P s.1 ≠ 124 ∧ pat P s.1 ≠ 40 ∧ pat P s.1 ≠ 41 ∧ atN P s.1 = .inr s'.1 ∧ s'.2 = s.2 ∧ lfO P l (insA P s.1)
  | .inr g, s' => pat P s.1 = 40 ∧ s.2.1 < 6 ∧ g.1 = s.2.1 + 1 ∧ ∃ t, iX (s.1 + 1, s.2.1 + 1, s.2.2) g.2 t ∧ pat P t.1 = 41 ∧ s' = (t.1 + 1, t.2)
def lPce (s : LI) (y : Pc X) (s' : LI) : Prop := ∃ t, lAtm P iX s y.1 t ∧ lRpt P t (atE mX y.1) y.2 s'
def lRow : LI → List (Pc X) → LI → Prop
  | s, [], s' => s' = s
  | s, y :: ys, s' => ∃ t, lPce P mX iX s y t ∧ lRow t ys s'
def lChc : LI → Cc X → LI → Prop
  | _, [], _ => False
  | s, [r], s' => lRow P mX iX s r s'
  | s, r :: rs, s' => ∃ t, lRow P mX iX s r t ∧ pat P t.1 = 124 ∧ lChc (t.1 + 1, t.2) rs s'
end LN
def lT (P : List Int32) : (n : Nat) → LI → Ch n → LI → Prop
  | 0 => fun _ _ _ => False
  | n + 1 => fun s x s' => lChc P (emT n) (lT P n) s x s'
theorem pat_lt {P : List Int32} {i : Nat} {c : Int32} (h : pat P i = c) (hc : c ≠ -1) : i < P.length := by
  rcases Nat.lt_or_ge i P.length with z | z
  · exact z
  · rw [pat, List.getD_eq_getElem?_getD, List.getElem?_eq_none z] at h
    exact absurd h.symm hc
def altC : List Cd → Cd
  | [] => []
  | [c] => c
  | c :: cs => (6, 1, nI (c.length + 2)) :: (c ++ (7, nI ((altC cs).length + 1), 0) :: altC cs)
def preC : List Cd → Cd
  | [] => []
  | c :: cs => (6, 1, nI (c.length + 2)) :: (c ++ (7, 0, 0) :: preC cs)
theorem preC_app (cs : List Cd) (c : Cd) : preC (cs ++ [c]) = preC cs ++ (6, 1, nI (c.length + 2)) :: (c ++ [(7, 0, 0)]) := by
  induction cs with
  | nil => rfl
  | cons a cs ih => simp [preC, ih]
theorem altC_len (cs : List Cd) (c : Cd) : (altC (cs ++ [c])).length = (preC cs).length + c.length := by
  induction cs with
  | nil => simp [altC, preC]
  | cons a cs ih =>
    have : altC (a :: cs ++ [c]) = (6, 1, nI (a.length + 2)) :: (a ++ (7, nI ((altC (cs ++ [c])).length + 1), 0) :: altC (cs ++ [c])) := by
      cases cs <;> rfl
    rw [this]
    simp only [List.length_cons, List.length_append, preC, ih]
    omega
def jOK (ju : Nat → Nat) : Nat → Nat → List Cd → Prop
  | _, _, [] => True
  | j, p, c :: cs => ju j = p + c.length + 1 ∧ jOK ju (j + 1) (p + c.length + 2) cs
theorem jOK.app {ju : Nat → Nat} {c : Cd} : ∀ {cs : List Cd} {j p : Nat}, jOK ju j p cs → ju (j + cs.length) = p + (preC cs).length + c.length + 1 → jOK ju j p (cs ++ [c])
  | [], j, p, _, h => ⟨by simpa [preC] using h, trivial⟩
  | a :: cs, j, p, h1, h => by
    refine ⟨h1.1, jOK.app h1.2 ?_⟩
    simp only [preC, List.length_cons, List.length_append] at h
    rw [show j + 1 + cs.length = j + (cs.length + 1) by omega, h]
    omega
theorem jOK.cg {ju ju' : Nat → Nat} : ∀ {cs : List Cd} {j p : Nat}, (∀ k, j ≤ k → k < j + cs.length → ju' k = ju k) → jOK ju j p cs → jOK ju' j p cs
  | [], _, _, _, _ => trivial
  | a :: cs, j, p, hj, h => ⟨(hj j (Nat.le_refl _) (by simp)).trans h.1, jOK.cg (fun k z1 z2 => hj k (by omega) (by simp only [List.length_cons]; omega)) h.2⟩
theorem jOK.lt {ju : Nat → Nat} : ∀ {cs : List Cd} {j p : Nat}, jOK ju j p cs → ∀ k, j ≤ k → k < j + cs.length → ju k < p + (preC cs).length
  | [], j, p, _, k, z1, z2 => by simp at z2; omega
  | a :: cs, j, p, h, k, z1, z2 => by
    simp only [preC, List.length_cons, List.length_append] at z2 ⊢
    by_cases hk : k = j
    · rw [hk, h.1]; omega
    · have := jOK.lt h.2 k (by omega) (by omega); omega
theorem cMd_mid (A B : Cd) (x : Ins) (v : Int32) {p : Nat} (hp : p = A.length) : cMd p v (A ++ x :: B) = A ++ (x.1, v, x.2.2) :: B := by
  subst hp
  rw [cMd]
  induction A with
  | nil => rfl
  | cons a A ih => simp only [List.cons_append, List.length_cons, List.modify_succ_cons, ih]
theorem clJ_alt {ju : Nat → Nat} (cl : Cd) : ∀ (cs : List Cd) (j : Nat) (L : Cd), jOK ju j L.length cs → clJ ju cs.length j (L ++ (preC cs ++ cl)) = L ++ altC (cs ++ [cl])
  | [], j, L, _ => rfl
  | c :: cs, j, L, h => by
    have e1 : altC (c :: cs ++ [cl]) = (6, 1, nI (c.length + 2)) :: (c ++ (7, nI ((altC (cs ++ [cl])).length + 1), 0) :: altC (cs ++ [cl])) := by
      cases cs <;> rfl
    have e2 : L ++ (preC (c :: cs) ++ cl) = (L ++ (6, 1, nI (c.length + 2)) :: c) ++ (7, 0, 0) :: (preC cs ++ cl) := by simp [preC]
    show clJ ju cs.length (j + 1) (cMd (ju j) (nI ((L ++ (preC (c :: cs) ++ cl)).length - ju j)) (L ++ (preC (c :: cs) ++ cl))) = _
    rw [e2, cMd_mid _ _ _ _ (by rw [h.1]; simp; omega), e1]
    have e3 : ((L ++ (6, 1, nI (c.length + 2)) :: c) ++ (7, 0, 0) :: (preC cs ++ cl)).length - ju j = (altC (cs ++ [cl])).length + 1 := by
      rw [h.1, altC_len]
      simp only [List.length_append, List.length_cons]
      omega
    rw [e3]
    have ih := clJ_alt cl cs (j + 1) (L ++ (6, 1, nI (c.length + 2)) :: (c ++ [(7, nI ((altC (cs ++ [cl])).length + 1), 0)])) (by
      have e4 : (L ++ (6, 1, nI (c.length + 2)) :: (c ++ [((7 : Int32), nI ((altC (cs ++ [cl])).length + 1), (0 : Int32))])).length = L.length + c.length + 2 := by simp; omega
      rw [e4]; exact h.2)
    simp only [List.append_assoc, List.cons_append, List.nil_append] at ih ⊢
    exact ih
theorem cIns_app (L a : Cd) (x : Ins) : cInsert L.length x (L ++ a) = L ++ x :: a := by simp [cInsert]
theorem cpF_at (Y : Cd) (fr : Nat) (a : Cd) (h : (Y.drop fr).take a.length = a) : cpF fr a.length Y = Y ++ a := by rw [cpF, h]
theorem seg_app {Y Z a : Cd} {fr : Nat} (h : (Y.drop fr).take a.length = a) (hf : fr + a.length ≤ Y.length) : ((Y ++ Z).drop fr).take a.length = a := by
  rw [List.drop_append_of_le_length (by omega), List.take_append_of_le_length (by rw [List.length_drop]; omega), h]
theorem tmB_op (a : Cd) (sp : Bool) (fr : Nat) : ∀ (r : Nat) (Y : Cd), (Y.drop fr).take a.length = a → fr + a.length ≤ Y.length → tmB fr a.length sp r Y = Y ++ opC a sp r
  | 0, Y, _, _ => by simp [tmB, opC]
  | r + 1, Y, h, hf => by
    rw [tmB, cpF_at _ _ _ (seg_app h hf), tmB_op a sp fr r _ (seg_app (seg_app h hf) (by simp only [List.length_append, List.length_cons, List.length_nil]; omega)) (by simp only [List.length_append, List.length_cons, List.length_nil]; omega), opC]
    simp
theorem tmA_tm (a L : Cd) : ∀ (k : Nat) (Y : Cd), ((L ++ Y).drop L.length).take a.length = a → a.length ≤ Y.length → tmA L.length a.length k (L ++ Y) = L ++ Y ++ tmC a k
  | 0, Y, _, _ => by simp [tmA, tmC]
  | k + 1, Y, h, hf => by
    rw [tmA, cpF_at _ _ _ h, List.append_assoc, tmA_tm a L k (Y ++ a) (by rw [← List.append_assoc]; exact seg_app h (by simp only [List.length_append, List.length_cons, List.length_nil]; omega)) (by simp only [List.length_append, List.length_cons, List.length_nil]; omega), tmC]
    simp
theorem tmC_len (a : Cd) : ∀ k, (tmC a k).length = k * a.length
  | 0 => by simp [tmC]
  | k + 1 => by rw [tmC, List.length_append, tmC_len a k, Nat.add_mul]; omega
theorem wRp_c {P : List Int32} {i q0 : Nat} {y : Rp} (hy : rpK P i q0 y) (hsp : y.2.2.2 = decide (pat P q0 = 63)) (L a : Cd) : wRp P i L.length q0 (L ++ a) = L ++ rpC y a := by
  obtain ⟨m, n, ub, sp⟩ := y
  have hsp : sp = decide (pat P q0 = 63) := hsp
  have el : (L ++ a).length - L.length = a.length := by simp
  have hd : ((L ++ a).drop L.length).take a.length = a := by simp
  rcases hy with ⟨k1, k2, k3, k4⟩ | ⟨k1, k2, k3, k4⟩ | ⟨k1, k2, k3, k4⟩ | ⟨k1, k2, k3, k4, k5, k6, k7⟩
  · have k2 : m = 0 := k2; have k3 : n = 1 := k3; have k4 : ub = false := k4
    subst k2; subst k3; subst k4
    rw [wRp, if_pos k1, el, ← hsp, cIns_app]
    show _ = L ++ (tmC a 0 ++ opC a sp 1)
    simp [tmC, opC]
  · have k2 : m = 0 := k2; have k3 : n = 1 := k3; have k4 : ub = true := k4
    subst k2; subst k3; subst k4
    rw [wRp, if_neg (by rw [k1]; decide), if_pos k1, el, ← hsp, cIns_app]
    show _ = L ++ (if (0 : Nat) = 0 then fkE sp (a.length + 2) :: (a ++ [(7, -nI a.length - 1, 0)]) else a ++ [if sp = true then (6, 1, -nI a.length) else (6, -nI a.length, 1)])
    rw [if_pos rfl]
    simp
  · have k2 : m = 1 := k2; have k3 : n = 1 := k3; have k4 : ub = true := k4
    subst k2; subst k3; subst k4
    rw [wRp, if_neg (by rw [k1]; decide), if_neg (by rw [k1]; decide), if_pos k1, el]
    show _ = L ++ (if (1 : Nat) = 0 then fkE sp (a.length + 2) :: (a ++ [(7, -nI a.length - 1, 0)]) else a ++ [if sp = true then (6, 1, -nI a.length) else (6, -nI a.length, 1)])
    rw [if_neg (show ¬ (1 : Nat) = 0 by decide)]
    have hsp : sp = decide (pat P q0 = 63) := hsp
    by_cases hq : pat P q0 = 63
    · simp [hq, hsp]
    · simp [hq, hsp]
  · have k4 : ub = false := k4
    have k5 : m ≤ n := k5
    have k6 : 1 ≤ n := k6
    have k2 : m = (pat P (i + 1) - 48).toNatClampNeg := k2
    have k3 : n = (pat P (q0 - 2) - 48).toNatClampNeg := k3
    subst k4
    rw [wRp, if_neg (by rw [k1]; decide), if_neg (by rw [k1]; decide), if_neg (by rw [k1]; decide), ← k2, ← k3, ← hsp, tmW, el]
    show _ = L ++ (tmC a m ++ opC a sp (n - m))
    by_cases hm : m = 0
    · subst hm
      rw [if_pos rfl, cIns_app, tmB_op _ _ _ _ _ (by rw [← List.drop_drop, List.drop_left]; simp) (by simp only [List.length_append, List.length_cons, List.length_nil]; omega)]
      obtain ⟨n', rfl⟩ : ∃ n', n = n' + 1 := ⟨n - 1, by omega⟩
      show _ = L ++ ([] ++ opC a sp (n' + 1))
      rw [opC]
      simp
    · obtain ⟨m', rfl⟩ : ∃ m', m = m' + 1 := ⟨m - 1, by omega⟩
      rw [if_neg hm, show m' + 1 - 1 = m' from rfl, tmA_tm a L m' a hd (Nat.le_refl _), tmB_op _ _ _ _ _ (seg_app hd (by simp)) (by simp only [List.length_append, List.length_cons, List.length_nil]; omega), tmC]
      simp
def wS (P : List Int32) (st st' : WSt) : Prop := ∀ f, P.length ≤ st.1 + f → ∃ f', P.length ≤ st'.1 + f' ∧ (wrV P f' st' → wrV P f st) ∧ wrR P f st = wrR P f' st'
theorem wS.rf {P : List Int32} {st : WSt} : wS P st st := fun f h => ⟨f, h, id, rfl⟩
theorem wS.tr {P : List Int32} {a b c : WSt} (h1 : wS P a b) (h2 : wS P b c) : wS P a c := fun f h => by
  obtain ⟨f1, k1, k2, k3⟩ := h1 f h
  obtain ⟨f2, k4, k5, k6⟩ := h2 f1 k1
  exact ⟨f2, k4, fun z => k2 (k5 z), k3.trans k6⟩
theorem wS.one {P : List Int32} {st st' : WSt} (hi : st.1 < P.length) (hg : wrG P st) (he : wr1 P st = st') (hl : st.1 < st'.1) : wS P st st' := fun f h => by
  obtain ⟨f0, rfl⟩ : ∃ f0, f = f0 + 1 := ⟨f - 1, by omega⟩
  refine ⟨f0, by omega, fun z => ?_, ?_⟩
  · rw [wrV, if_neg (by omega), he]; exact ⟨hg, z⟩
  · rw [wrR, if_neg (by omega), he]
def wK (d : Nat) (w w' : WS) : Prop := (∀ j, j ≤ d → w'.2.1 j = w.2.1 j ∧ w'.2.2.1 j = w.2.2.1 j ∧ w'.2.2.2.1 j = w.2.2.2.1 j ∧ w'.2.2.2.2.1 j = w.2.2.2.2.1 j) ∧ (∀ j, j < w.2.2.2.2.2.2 → w'.2.2.2.2.2.1 j = w.2.2.2.2.2.1 j) ∧ w'.2.2.2.2.2.2 = w.2.2.2.2.2.2
theorem wK.rf {d : Nat} {w : WS} : wK d w w := ⟨fun _ _ => ⟨rfl, rfl, rfl, rfl⟩, fun _ _ => rfl, rfl⟩
theorem wK.tr {d : Nat} {a b c : WS} (h1 : wK d a b) (h2 : wK d b c) : wK d a c :=
  ⟨fun j hj => ⟨(h2.1 j hj).1.trans (h1.1 j hj).1, (h2.1 j hj).2.1.trans (h1.1 j hj).2.1, (h2.1 j hj).2.2.1.trans (h1.1 j hj).2.2.1, (h2.1 j hj).2.2.2.trans (h1.1 j hj).2.2.2⟩, fun j hj => (h2.2.1 j (by rw [h1.2.2]; exact hj)).trans (h1.2.1 j hj), h2.2.2.trans h1.2.2⟩
def wC (P : List Int32) {X : Type} (sX : X → Cd → Prop) (x : X) (sz d : Nat) (w w' : WS) (s' : Nat) : Prop := ∃ c, sX x c ∧ c.length ≤ sz ∧ clE d w' = w.1 ++ c ∧ w'.1.length = w.1.length + c.length ∧
  (∀ j, j ≤ d → w'.2.1 j = w.2.1 j ∧ w'.2.2.2.1 j = w.2.2.2.1 j ∧ w'.2.2.2.2.1 j = w.2.2.2.2.1 j) ∧ (∀ j, j < d → w'.2.2.1 j = w.2.2.1 j) ∧ (∀ j, j < w.2.2.2.2.2.2 → w'.2.2.2.2.2.1 j = w.2.2.2.2.2.1 j) ∧ w.2.2.2.2.2.2 ≤ w'.2.2.2.2.2.2 ∧ w'.2.2.2.2.2.2 ≤ s' ∧ (∀ j, w.2.2.2.2.2.2 ≤ j → j < w'.2.2.2.2.2.2 → w'.2.2.2.2.2.1 j < w'.1.length)
def wX (P : List Int32) {X : Type} (szX : X → Nat) (sX : X → Cd → Prop) (iX : LI → X → LI → Prop) : Prop := ∀ (s : LI) (x : X) (s' : LI) (d sI : Nat) (w : WS), iX s x s' → P.length ≤ 28 → s'.1 ≤ P.length → w.2.2.1 d = w.1.length → w.2.2.2.2.1 d = w.2.2.2.2.2.2 → w.2.2.2.2.2.2 ≤ s.1 → w.1.length + szX x ≤ 121 → sI ≤ 1000 → d ≤ s.2.1 → s.2.1 ≤ 6 →
  ∃ w' sI', wS P (s.1, d, s.2.1, sI, w) (s'.1, d, s'.2.1, sI', w') ∧ sI' ≤ 1000 ∧ s.1 ≤ s'.1 ∧ s.2.1 ≤ s'.2.1 ∧ s'.2.1 ≤ 6 ∧ wC P sX x (szX x) d w w' s'.1
section LE
variable {P : List Int32} {X : Type} {mX : X → Bool} {iX : LI → X → LI → Prop}
def iLe (iX : LI → X → LI → Prop) : Prop := ∀ s x s', iX s x s' → s.1 ≤ s'.1
theorem lAtm_le (hi : iLe iX) {s s' : LI} {a : At X} (h : lAtm P iX s a s') : s.1 ≤ s'.1 := by
  cases a with
  | inl l =>
    obtain ⟨-, -, -, -, -, k6, -⟩ := h
    rw [atN] at k6
    by_cases h91 : pat P s.1 = 91
    · rw [if_pos h91] at k6; exact Nat.le_of_lt (mPC_gt k6)
    · rw [if_neg h91] at k6; have := Sum.inr.inj k6; omega
  | inr g =>
    obtain ⟨-, -, -, t, k4, -, rfl⟩ := h
    have := hi _ _ _ k4
    have this : s.1 + 1 ≤ t.1 := this
    show s.1 ≤ t.1 + 1
    omega
theorem lRpt_le {s s' : LI} {e : Bool} {y : Rp} (h : lRpt P s e y s') : s.1 ≤ s'.1 := by
  rcases h.2 with ⟨-, k⟩ | ⟨-, q, -, -, k, k2, -⟩
  · omega
  · rw [k]; split at k2 <;> split <;> omega
theorem lPce_le (hi : iLe iX) {s s' : LI} {y : Pc X} (h : lPce P mX iX s y s') : s.1 ≤ s'.1 := by
  obtain ⟨t, k1, k2⟩ := h
  exact Nat.le_trans (lAtm_le hi k1) (lRpt_le k2)
theorem lRow_le (hi : iLe iX) : ∀ {ys : List (Pc X)} {s s' : LI}, lRow P mX iX s ys s' → s.1 ≤ s'.1
  | [], s, s', h => by rw [show s' = s from h]; exact Nat.le_refl _
  | y :: ys, s, s', h => by
    obtain ⟨t, k1, k2⟩ := h
    exact Nat.le_trans (lPce_le hi k1) (lRow_le hi k2)
theorem lChc_le (hi : iLe iX) : ∀ {rs : Cc X} {s s' : LI}, lChc P mX iX s rs s' → s.1 ≤ s'.1
  | [], s, s', h => h.elim
  | [r], s, s', h => lRow_le hi h
  | r :: r' :: rs, s, s', h => by
    obtain ⟨t, k1, -, k2⟩ := h
    have h1 := lRow_le hi k1
    have h2 : t.1 + 1 ≤ s'.1 := lChc_le hi k2
    omega
end LE
theorem lT_le {P : List Int32} : ∀ n, iLe (lT P n)
  | 0 => fun _ _ _ h => h.elim
  | n + 1 => fun _ _ _ h => lChc_le (lT_le n) h
section WW
variable {P : List Int32} {X : Type} {szX : X → Nat} {mX : X → Bool} {sX : X → Cd → Prop} {iX : LI → X → LI → Prop}
theorem lfO_ne {l : Lf} {x : Ins} (h : lfO P l x) : x.1 ≠ 5 := by
  rcases h.2 with ⟨-, h | h | h, -⟩ | ⟨-, h⟩ | ⟨-, h⟩ <;> rw [h] <;> decide
theorem w_at (ih : wX P szX sX iX) (hP : P.length ≤ 28) {s s' : LI} {a : At X} {d sI : Nat} {w : WS} (hl : lAtm P iX s a s') (hp : s'.1 ≤ P.length) (hj : w.2.2.2.2.2.2 ≤ s.1) (hs : w.1.length + atS szX a ≤ 121) (hI : sI ≤ 1000) (hd : d ≤ s.2.1) (h6 : s.2.1 ≤ 6) :
    ∃ w' c, wS P (s.1, d, s.2.1, sI, w) (s'.1, d, s'.2.1, w.1.length, w') ∧ s.1 < s'.1 ∧ s.2.1 ≤ s'.2.1 ∧ s'.2.1 ≤ 6 ∧ w'.1 = w.1 ++ c ∧ sAt P sX a c ∧ c.length ≤ atS szX a ∧ wK d w w' := by
  cases a with
  | inl l =>
    obtain ⟨k1, k2, k3, k4, k5, k6, k7, k8⟩ := hl
    have hs : w.1.length + 1 ≤ 121 := hs
    have hgt : s.1 < s'.1 := by
      rw [atN] at k6
      by_cases h91 : pat P s.1 = 91
      · rw [if_pos h91] at k6; exact mPC_gt k6
      · rw [if_neg h91] at k6; have := Sum.inr.inj k6; omega
    refine ⟨(w.1 ++ [insA P s.1], w.2), [insA P s.1], wS.one k1 ?_ ?_ hgt, hgt, ?_, ?_, rfl, ⟨_, rfl, k8⟩, by simp [atS], wK.rf⟩
    · exact ⟨by show d ≤ 7; omega, hI, fun z => (by rw [k2] at z; cases z), fun z => absurd z k3, fun z => absurd z k4, fun z => absurd z k5, fun _ _ _ _ => ⟨by show w.1.length < 130; omega, _, k6⟩⟩
    · have e : wr1 P (s.1, d, s.2.1, sI, w) = (sN (atN P s.1), d, s.2.1, w.1.length, w.1 ++ [insA P s.1], w.2) := by
        simp only [wr1]
        rw [if_neg (by rw [k2]; decide), if_neg k3, if_neg k4, if_neg k5]
        rfl
      rw [e, k6, k7]
      rfl
    · rw [k7]; exact Nat.le_refl _
    · rw [k7]; exact h6
  | inr g =>
    obtain ⟨k1, k2, k3, t, k4, k5, k6⟩ := hl
    have hs : w.1.length + (szX g.2 + 2) ≤ 121 := hs
    have hi := pat_lt k1 (by decide)
    subst k6
    have hi2 := pat_lt k5 (by decide)
    have hop : wOp (d + 1) (s.2.1 + 1) w = (w.1 ++ [(5, nI (2 * (s.2.1 + 1)), 0)], va_up w.2.1 (d + 1) w.1.length, va_up w.2.2.1 (d + 1) (w.1.length + 1), va_up w.2.2.2.1 (d + 1) (s.2.1 + 1), va_up w.2.2.2.2.1 (d + 1) w.2.2.2.2.2.2, w.2.2.2.2.2) := by
      simp only [wOp]
      rw [if_pos (by omega)]
      simp
    have h1 : wS P (s.1, d, s.2.1, sI, w) (s.1 + 1, d + 1, s.2.1 + 1, sI, wOp (d + 1) (s.2.1 + 1) w) := by
      refine wS.one hi ?_ ?_ (Nat.lt_succ_self _)
      · exact ⟨by show d ≤ 7; omega, hI, fun z => (by rw [show pat P s.1 = 40 from k1] at z; cases z), fun z => (by rw [show pat P s.1 = 40 from k1] at z; cases z), fun _ => ⟨by show d < 7; omega, by show w.1.length < 130; omega, by show s.2.1 < 100; omega⟩, fun z => (by rw [show pat P s.1 = 40 from k1] at z; cases z), fun _ _ z => absurd k1 z⟩
      · simp only [wr1]
        rw [if_neg (by rw [k1]; decide), if_neg (by rw [k1]; decide), if_pos k1]
    obtain ⟨w', sI', j1, j2, j3, j33, j4, c, j5, j6, j7, j8, j9, j10, j11, j12, j13, j14⟩ := ih (s.1 + 1, s.2.1 + 1, s.2.2) g.2 t (d + 1) sI (wOp (d + 1) (s.2.1 + 1) w) k4 hP (by omega) (by rw [hop]; show va_up _ _ _ _ = _; rw [va_up_self]; simp) (by rw [hop]; show va_up _ _ _ _ = _; rw [va_up_self]) (by rw [hop]; show w.2.2.2.2.2.2 ≤ s.1 + 1; omega) (by rw [hop]; simp; omega) hI (by show d + 1 ≤ s.2.1 + 1; omega) (by show s.2.1 + 1 ≤ 6; omega)
    have j3 : s.1 + 1 ≤ t.1 := j3
    rw [hop] at j7 j8 j9 j10 j11 j12 j14
    have hA : w'.2.1 (d + 1) = w.1.length := (j9 (d + 1) (Nat.le_refl _)).1.trans (va_up_self _ _ _)
    have hB : w'.2.2.2.1 (d + 1) = s.2.1 + 1 := (j9 (d + 1) (Nat.le_refl _)).2.1.trans (va_up_self _ _ _)
    have hC : w'.2.2.2.2.1 (d + 1) = w.2.2.2.2.2.2 := (j9 (d + 1) (Nat.le_refl _)).2.2.trans (va_up_self _ _ _)
    have j8 : w'.1.length = (w.1 ++ [((5 : Int32), nI (2 * (s.2.1 + 1)), (0 : Int32))]).length + c.length := j8
    rw [List.length_append] at j8
    simp only [List.length_cons, List.length_nil] at j8
    have hcl : wCl (d + 1) w' = (w.1 ++ (5, nI (2 * (s.2.1 + 1)), 0) :: (c ++ [(5, nI (2 * (s.2.1 + 1) + 1), 0)]), w'.2.1, w'.2.2.1, w'.2.2.2.1, w'.2.2.2.2.1, w'.2.2.2.2.2.1, w.2.2.2.2.2.2) := by
      simp only [wCl]
      rw [hB, if_pos (by omega), j7, hC]
      simp
    have h2 : wS P (t.1, d + 1, t.2.1, sI', w') (t.1 + 1, d, t.2.1, w.1.length, wCl (d + 1) w') := by
      refine wS.one hi2 ?_ ?_ (Nat.lt_succ_self _)
      · refine ⟨by show d + 1 ≤ 7; omega, j2, fun z => (by rw [show pat P t.1 = 41 from k5] at z; cases z), fun z => (by rw [show pat P t.1 = 41 from k5] at z; cases z), fun z => (by rw [show pat P t.1 = 41 from k5] at z; cases z), fun _ => ⟨by show 0 < d + 1; omega, ?_⟩, fun _ _ _ z => absurd k5 z⟩
        refine ⟨by show w'.1.length < 130; omega, ?_, ?_, ?_, ?_⟩
        · show w'.2.2.2.2.1 (d + 1) ≤ w'.2.2.2.2.2.2
          rw [hC]; exact j12
        · show w'.2.2.2.2.2.2 ≤ 30
          omega
        · intro j z1 z2
          exact j14 j (by have z1 : w'.2.2.2.2.1 (d + 1) ≤ j := z1; rw [hC] at z1; exact z1) z2
        · show w'.2.2.2.1 (d + 1) ≤ 100
          rw [hB]; omega
      · simp only [wr1]
        rw [if_neg (by rw [k5]; decide), if_neg (by rw [k5]; decide), if_neg (by rw [k5]; decide), if_pos k5, hA]
        rfl
    refine ⟨wCl (d + 1) w', (5, nI (2 * (s.2.1 + 1)), 0) :: (c ++ [(5, nI (2 * (s.2.1 + 1) + 1), 0)]), (h1.tr j1).tr h2, by show s.1 < t.1 + 1; omega, ?_, j4, by rw [hcl], ⟨c, j5, by rw [k3]⟩, by simp only [List.length_cons, List.length_append, List.length_nil, atS]; omega, ?_⟩
    · have j33 : s.2.1 + 1 ≤ t.2.1 := j33
      show s.2.1 ≤ t.2.1; omega
    · rw [hcl]
      refine ⟨fun j hj => ⟨?_, ?_, ?_, ?_⟩, fun j hj => ?_, rfl⟩
      · exact (j9 j (by omega)).1.trans (va_up_ne _ _ (by omega))
      · exact (j10 j (by omega)).trans (va_up_ne _ _ (by omega))
      · exact (j9 j (by omega)).2.1.trans (va_up_ne _ _ (by omega))
      · exact (j9 j (by omega)).2.2.trans (va_up_ne _ _ (by omega))
      · exact j11 j hj
theorem isB_c {c : Int32} (h : isB c 42 43 63 123 = true) : c = 42 ∨ c = 43 ∨ c = 63 ∨ c = 123 := by
  simp only [isB, Bool.or_eq_true, decide_eq_true_eq] at h
  rcases h with ((h | h) | h) | h
  · exact Or.inl h
  · exact Or.inr (Or.inl h)
  · exact Or.inr (Or.inr (Or.inl h))
  · exact Or.inr (Or.inr (Or.inr h))
theorem rpC_1 (a : Cd) : rpC (1, 1, false, false) a = a := by
  show tmC a 1 ++ opC a false 0 = a
  simp [tmC, opC]
theorem rpC_len {P : List Int32} {i q0 : Nat} {y : Rp} (hy : rpK P i q0 y) {a : Cd} {z : Nat} (h : a.length ≤ z) : (rpC y a).length ≤ (if y.2.2.1 then z + 2 else y.2.1 * z + 2 * (y.2.1 - y.1)) := by
  obtain ⟨m, n, ub, sp⟩ := y
  cases ub with
  | true =>
    show _ ≤ z + 2
    show (if m = 0 then fkE sp (a.length + 2) :: (a ++ [(7, -nI a.length - 1, 0)]) else a ++ [if sp = true then (6, 1, -nI a.length) else (6, -nI a.length, 1)]).length ≤ z + 2
    split
    · simp; omega
    · simp; omega
  | false =>
    have hmn : m ≤ n := by
      rcases hy with ⟨k1, k2, k3, k4⟩ | ⟨k1, k2, k3, k4⟩ | ⟨k1, k2, k3, k4⟩ | ⟨k1, k2, k3, k4, k5, k6, k7⟩
      · have k2 : m = 0 := k2; omega
      · cases k4
      · cases k4
      · exact k5
    show (tmC a m ++ opC a sp (n - m)).length ≤ n * z + 2 * (n - m)
    rw [List.length_append, tmC_len, opC_len, Nat.mul_add, Nat.mul_one]
    have e1 : m * a.length + (n - m) * a.length = n * a.length := by rw [← Nat.add_mul, Nat.add_sub_cancel' hmn]
    have e2 := Nat.mul_le_mul_left n h
    omega
theorem w_pc (ih : wX P szX sX iX) (hP : P.length ≤ 28) {s s' : LI} {y : Pc X} {d sI : Nat} {w : WS} (hl : lPce P mX iX s y s') (hp : s'.1 ≤ P.length) (hj : w.2.2.2.2.2.2 ≤ s.1) (hs : w.1.length + pcS szX y ≤ 121) (hI : sI ≤ 1000) (hd : d ≤ s.2.1) (h6 : s.2.1 ≤ 6) :
    ∃ w' sI' c, wS P (s.1, d, s.2.1, sI, w) (s'.1, d, s'.2.1, sI', w') ∧ sI' ≤ 1000 ∧ s.1 < s'.1 ∧ s.2.1 ≤ s'.2.1 ∧ s'.2.1 ≤ 6 ∧ w'.1 = w.1 ++ c ∧ sPc P sX y c ∧ c.length ≤ pcS szX y ∧ wK d w w' := by
  obtain ⟨t, k1, k2, k3⟩ := hl
  obtain ⟨a, y⟩ := y
  have hg : s'.2.1 = t.2.1 := by rw [k2]
  have hs : w.1.length + (if y.2.2.1 then atS szX a + 2 else y.2.1 * atS szX a + 2 * (y.2.1 - y.1)) ≤ 121 := hs
  rcases k3 with ⟨k3, k4⟩ | ⟨k3, q, k4, k5, k6, k60, k7⟩
  · have k3 : y = (1, 1, false, false) := k3
    subst k3
    have hs : w.1.length + (1 * atS szX a + 2 * 0) ≤ 121 := hs
    obtain ⟨w', c, j1, j2, j3, j4, j5, j6, j7, j8⟩ := w_at ih hP (a := a) (sI := sI) k1 (by omega) hj (by omega) hI hd h6
    refine ⟨w', w.1.length, c, ?_, by omega, by omega, by omega, by omega, j5, ⟨c, j6, (rpC_1 c).symm⟩, ?_, j8⟩
    · rw [k4, hg]; exact j1
    · show c.length ≤ 1 * atS szX a + 2 * 0; omega
  · have k5 : y.2.2.2 = decide (pat P q.1 = 63) := k5
    have k7 : rpK P t.1 q.1 y := k7
    have hm : atS szX a ≤ (if y.2.2.1 then atS szX a + 2 else y.2.1 * atS szX a + 2 * (y.2.1 - y.1)) := by
      split
      · omega
      · have : 1 ≤ y.2.1 := by
          rcases k7 with ⟨-, -, z, -⟩ | ⟨-, -, z, -⟩ | ⟨-, -, z, -⟩ | ⟨-, -, -, -, -, z, -⟩ <;> omega
        have := Nat.mul_le_mul_right (atS szX a) this
        omega
    have ht : t.1 < P.length := by
      rcases isB_c k3 with z | z | z | z <;> exact pat_lt z (by decide)
    obtain ⟨w', c, j1, j2, j3, j4, j5, j6, j7, j8⟩ := w_at ih hP (a := a) (sI := sI) k1 (by omega) hj (by omega) hI hd h6
    have hlen : w'.1.length = w.1.length + c.length := by rw [j5, List.length_append]
    have hq0 : t.1 < q.1 := by split at k60 <;> omega
    have hs' : t.1 < s'.1 := by rw [k6]; split <;> omega
    have hR := wRp_c k7 k5 w.1 c
    have h2 : wS P (t.1, d, t.2.1, w.1.length, w') (s'.1, d, s'.2.1, w.1.length, (w.1 ++ rpC y c, w'.2)) := by
      refine wS.one ht ?_ ?_ hs'
      · refine ⟨by show d ≤ 7; omega, by show w.1.length ≤ 1000; omega, fun _ => ⟨q, k4, ?_⟩, fun z => ?_, fun z => ?_, fun z => ?_, fun z => ?_⟩
        · refine ⟨by show w.1.length ≤ w'.1.length; omega, by show w'.1.length + 2 ≤ 130; omega, fun z => ?_⟩
          have z : pat P t.1 = 123 := z
          rcases k7 with ⟨z1, -⟩ | ⟨z1, -⟩ | ⟨z1, -⟩ | ⟨-, z2, z3, z4, z5, z6, z7⟩
          · rw [z] at z1; cases z1
          · rw [z] at z1; cases z1
          · rw [z] at z1; cases z1
          · show w.1.length + (pat P (q.1 - 2) - 48).toNatClampNeg * (w'.1.length - w.1.length) + ((pat P (q.1 - 2) - 48).toNatClampNeg - (pat P (t.1 + 1) - 48).toNatClampNeg) ≤ 130
            rw [← z2, ← z3]
            rw [z4] at hs
            have hs : w.1.length + (y.2.1 * atS szX a + 2 * (y.2.1 - y.1)) ≤ 121 := hs
            have e1 : w'.1.length - w.1.length = c.length := by omega
            rw [e1]
            have := Nat.mul_le_mul_left y.2.1 j7
            omega
        · have z : pat P t.1 = 124 := z
          rw [z] at k3; cases k3
        · have z : pat P t.1 = 40 := z
          rw [z] at k3; cases k3
        · have z : pat P t.1 = 41 := z
          rw [z] at k3; cases k3
        · have z : isB (pat P t.1) 42 43 63 123 = false := z
          rw [z] at k3; cases k3
      · have e : wr1 P (t.1, d, t.2.1, w.1.length, w') = ((if pat P q.1 = 63 then q.1 + 1 else q.1), d, t.2.1, w.1.length, wRp P t.1 w.1.length q.1 w'.1, w'.2) := by
          simp only [wr1]
          rw [if_pos k3, k4]
        rw [e, j5, hR, k6, hg]
    refine ⟨(w.1 ++ rpC y c, w'.2), w.1.length, rpC y c, j1.tr h2, by omega, by omega, by omega, by omega, rfl, ⟨c, j6, rfl⟩, rpC_len k7 j7, j8⟩
theorem w_rw (hi : iLe iX) (ih : wX P szX sX iX) (hP : P.length ≤ 28) {d : Nat} : ∀ (ys : List (Pc X)) (s s' : LI) (sI : Nat) (w : WS), lRow P mX iX s ys s' → s'.1 ≤ P.length → w.2.2.2.2.2.2 ≤ s.1 → w.1.length + rwS szX ys ≤ 121 → sI ≤ 1000 → d ≤ s.2.1 → s.2.1 ≤ 6 →
    ∃ w' sI' c, wS P (s.1, d, s.2.1, sI, w) (s'.1, d, s'.2.1, sI', w') ∧ sI' ≤ 1000 ∧ s.1 ≤ s'.1 ∧ s.2.1 ≤ s'.2.1 ∧ s'.2.1 ≤ 6 ∧ w'.1 = w.1 ++ c ∧ sRw P sX ys c ∧ c.length ≤ rwS szX ys ∧ wK d w w'
  | [], s, s', sI, w, hl, hp, hj, hs, hI, hd, h6 => by
    have hl : s' = s := hl
    subst hl
    exact ⟨w, sI, [], wS.rf, hI, Nat.le_refl _, Nat.le_refl _, h6, by simp, rfl, by simp, wK.rf⟩
  | y :: ys, s, s', sI, w, hl, hp, hj, hs, hI, hd, h6 => by
    obtain ⟨t, k1, k2⟩ := hl
    have hsz : rwS szX (y :: ys) = pcS szX y + rwS szX ys := by simp [rwS]
    rw [hsz] at hs
    have hts : t.1 ≤ s'.1 := lRow_le hi k2
    obtain ⟨w1, sI1, c1, j1, j2, j3, j4, j5, j6, j7, j8, j9⟩ := w_pc ih hP (sI := sI) k1 (by omega) hj (by omega) hI hd h6
    have hl1 : w1.1.length = w.1.length + c1.length := by rw [j6, List.length_append]
    obtain ⟨w2, sI2, c2, i1, i2, i3, i4, i5, i6, i7, i8, i9⟩ := w_rw hi ih hP (d := d) ys t s' sI1 w1 k2 hp (by rw [j9.2.2]; omega) (by omega) j2 (by omega) j5
    exact ⟨w2, sI2, c1 ++ c2, j1.tr i1, i2, by omega, by omega, i5, by rw [i6, j6, List.append_assoc], ⟨c1, c2, j7, i7, rfl⟩, by rw [hsz, List.length_append]; omega, j9.tr i9⟩
def sLs (P : List Int32) {X : Type} (sX : X → Cd → Prop) : Cc X → List Cd → Prop
  | [], [] => True
  | r :: rs, c :: cs => sRw P sX r c ∧ sLs P sX rs cs
  | _, _ => False
theorem sLs_cc : ∀ {rs : Cc X} {cs : List Cd}, sLs P sX rs cs → sCc P sX rs (altC cs)
  | [], [], _ => rfl
  | [r], [c], h => h.1
  | [r], _ :: _ :: _, h => h.2.elim
  | r :: r' :: rs, [c], h => h.2.elim
  | r :: r' :: rs, c :: c' :: cs, h => ⟨c, altC (c' :: cs), h.1, sLs_cc h.2, rfl⟩
theorem w_cc (hi : iLe iX) (ih : wX P szX sX iX) (hP : P.length ≤ 28) {d j0 : Nat} {L : Cd} : ∀ (rs : Cc X) (s s' : LI) (sI : Nat) (w : WS) (cs : List Cd), lChc P mX iX s rs s' → s'.1 ≤ P.length → w.1 = L ++ preC cs → w.2.2.1 d = w.1.length → w.2.2.2.2.2.2 = j0 + cs.length → jOK w.2.2.2.2.2.1 j0 L.length cs → w.2.2.2.2.2.2 ≤ s.1 → w.1.length + ccS szX rs ≤ 121 → sI ≤ 1000 → d ≤ s.2.1 → s.2.1 ≤ 6 →
    ∃ w' sI' cs' cl, wS P (s.1, d, s.2.1, sI, w) (s'.1, d, s'.2.1, sI', w') ∧ sI' ≤ 1000 ∧ s.1 ≤ s'.1 ∧ s.2.1 ≤ s'.2.1 ∧ s'.2.1 ≤ 6 ∧ sLs P sX rs (cs' ++ [cl]) ∧ w'.1 = L ++ (preC (cs ++ cs') ++ cl) ∧ w'.1.length ≤ w.1.length + ccS szX rs ∧ w'.2.2.2.2.2.2 = j0 + (cs ++ cs').length ∧ jOK w'.2.2.2.2.2.1 j0 L.length (cs ++ cs') ∧ w'.2.2.2.2.2.2 ≤ s'.1 ∧
      (∀ j, j ≤ d → w'.2.1 j = w.2.1 j ∧ w'.2.2.2.1 j = w.2.2.2.1 j ∧ w'.2.2.2.2.1 j = w.2.2.2.2.1 j) ∧ (∀ j, j < d → w'.2.2.1 j = w.2.2.1 j) ∧ (∀ j, j < j0 → w'.2.2.2.2.2.1 j = w.2.2.2.2.2.1 j)
  | [], s, s', sI, w, cs, hl, hp, h1, h2, h3, h4, h5, hs, hI, hd, h6 => hl.elim
  | [r], s, s', sI, w, cs, hl, hp, h1, h2, h3, h4, h5, hs, hI, hd, h6 => by
    have hsz : ccS szX [r] = rwS szX r := by simp [ccS]
    rw [hsz] at hs
    obtain ⟨w', sI', c, j1, j2, j3, j4, j5, j6, j7, j8, j9⟩ := w_rw hi ih hP r s s' sI w hl hp h5 hs hI hd h6
    refine ⟨w', sI', [], c, j1, j2, j3, j4, j5, ⟨j7, trivial⟩, by rw [List.append_nil, j6, h1, List.append_assoc], by rw [j6, hsz, List.length_append]; omega, by rw [List.append_nil, j9.2.2, h3], ?_, by rw [j9.2.2]; omega, fun j hj => ⟨(j9.1 j hj).1, (j9.1 j hj).2.2.1, (j9.1 j hj).2.2.2⟩, fun j hj => (j9.1 j (by omega)).2.1, fun j hj => j9.2.1 j (by omega)⟩
    rw [List.append_nil]
    exact jOK.cg (fun k z1 z2 => j9.2.1 k (by omega)) h4
  | r :: r' :: rs, s, s', sI, w, cs, hl, hp, h1, h2, h3, h4, h5, hs, hI, hd, h6 => by
    obtain ⟨t, k1, k2, k3⟩ := hl
    have hsz : ccS szX (r :: r' :: rs) = rwS szX r + 2 + ccS szX (r' :: rs) := by
      simp only [ccS, List.map_cons, List.sum_cons, List.length_cons]; omega
    rw [hsz] at hs
    have hts : t.1 + 1 ≤ s'.1 := lChc_le hi k3
    obtain ⟨w1, sI1, c, j1, j2, j3, j4, j5, j6, j7, j8, j9⟩ := w_rw hi ih hP r s t sI w k1 (by omega) h5 (by omega) hI hd h6
    have hl1 : w1.1.length = w.1.length + c.length := by rw [j6, List.length_append]
    have hrow : w1.2.2.1 d = w.1.length := (j9.1 d (Nat.le_refl _)).2.1.trans h2
    have e1 : cNx (w1.2.2.1 d) w1.1 = w.1 ++ (6, 1, nI (c.length + 2)) :: c := by
      rw [cNx, hrow, j6, cIns_app]; simp
    have e2 : (cNx (w1.2.2.1 d) w1.1).length = w.1.length + c.length + 1 := by rw [e1]; simp; omega
    have e3 : cNx (w1.2.2.1 d) w1.1 ++ [(7, 0, 0)] = L ++ preC (cs ++ [c]) := by rw [e1, preC_app, h1]; simp
    have hlw : w.1.length = L.length + (preC cs).length := by rw [h1, List.length_append]
    have hst : wS P (t.1, d, t.2.1, sI1, w1) (t.1 + 1, d, t.2.1, sI1, wNx d w1) := by
      refine wS.one (pat_lt k2 (by decide)) ?_ ?_ (Nat.lt_succ_self _)
      · refine ⟨by show d ≤ 7; omega, j2, fun z => ?_, fun _ => ?_, fun z => ?_, fun z => ?_, fun _ z => absurd k2 z⟩
        · have z : isB (pat P t.1) 42 43 63 123 = true := z
          rw [k2] at z; cases z
        · refine ⟨by show w1.2.2.1 d ≤ w1.1.length; omega, by show w1.1.length + 2 ≤ 130; omega, ?_⟩
          show w1.2.2.2.2.2.2 < 30
          rw [j9.2.2]; omega
        · have z : pat P t.1 = 40 := z
          rw [k2] at z; cases z
        · have z : pat P t.1 = 41 := z
          rw [k2] at z; cases z
      · simp only [wr1]
        rw [if_neg (by rw [k2]; decide), if_pos k2]
    have hnx : wNx d w1 = (L ++ preC (cs ++ [c]), w1.2.1, va_up w1.2.2.1 d (L ++ preC (cs ++ [c])).length, w1.2.2.2.1, w1.2.2.2.2.1, va_up w1.2.2.2.2.2.1 w1.2.2.2.2.2.2 (w.1.length + c.length + 1), w1.2.2.2.2.2.2 + 1) := by
      simp only [wNx]; rw [e3, e2]
    have hlp : (L ++ preC (cs ++ [c])).length = w.1.length + c.length + 2 := by
      rw [← e3, List.length_append, e2]; rfl
    obtain ⟨w2, sI2, cs', cl, i1, i2, i3, i4, i5, i6, i7, i8, i9, i10, i11, i12, i13, i14⟩ := w_cc hi ih hP (r' :: rs) (t.1 + 1, t.2) s' sI1 (wNx d w1) (cs ++ [c]) k3 hp (by rw [hnx]) (by rw [hnx]; exact va_up_self _ _ _) (by rw [hnx]; show w1.2.2.2.2.2.2 + 1 = _; rw [j9.2.2, h3, List.length_append]; rfl) (by
        rw [hnx]
        show jOK (va_up w1.2.2.2.2.2.1 w1.2.2.2.2.2.2 (w.1.length + c.length + 1)) j0 L.length (cs ++ [c])
        rw [j9.2.2, h3]
        refine jOK.app (jOK.cg (fun k z1 z2 => ?_) h4) ?_
        · rw [va_up_ne _ _ (by omega)]; exact j9.2.1 k (by omega)
        · rw [va_up_self]; omega) (by rw [hnx]; show w1.2.2.2.2.2.2 + 1 ≤ t.1 + 1; rw [j9.2.2]; omega) (by rw [hnx]; show (L ++ preC (cs ++ [c])).length + _ ≤ 121; rw [hlp]; omega) j2 (by show d ≤ t.2.1; omega) j5
    have i4 : t.2.1 ≤ s'.2.1 := i4
    rw [hnx] at i8 i12 i13 i14
    have i8 : w2.1.length ≤ (L ++ preC (cs ++ [c])).length + ccS szX (r' :: rs) := i8
    refine ⟨w2, sI2, c :: cs', cl, (j1.tr hst).tr i1, i2, by omega, by omega, i5, ⟨j7, i6⟩, by rw [i7]; simp, by omega, by rw [i9]; simp, by have := i10; simp only [List.append_assoc, List.cons_append, List.nil_append] at this; exact this, i11, fun j hj => ?_, fun j hj => ?_, fun j hj => ?_⟩
    · obtain ⟨z1, z2, z3⟩ := i12 j hj
      obtain ⟨y1, y2, y3, y4⟩ := j9.1 j hj
      exact ⟨z1.trans y1, z2.trans y3, z3.trans y4⟩
    · exact ((i13 j hj).trans (va_up_ne _ _ (by omega))).trans (j9.1 j (by omega)).2.1
    · exact ((i14 j hj).trans (va_up_ne _ _ (by have := j9.2.2; omega))).trans (j9.2.1 j (by omega))
theorem w_ch (hi : iLe iX) (ih : wX P szX sX iX) : wX P (ccS szX) (fun x c => sCc P sX x c) (fun s x s' => lChc P mX iX s x s') := by
  intro s rs s' d sI w hl hP hp h1 h2 h3 hs hI hd h6
  obtain ⟨w', sI', cs', cl, i1, i2, i3, i4, i5, i6, i7, i8, i9, i10, i11, i12, i13, i14⟩ := w_cc hi ih hP (d := d) (j0 := w.2.2.2.2.2.2) (L := w.1) rs s s' sI w [] hl hp (by simp [preC]) h1 (by simp) trivial h3 hs hI hd h6
  rw [List.nil_append] at i7 i9 i10
  have hcl : clE d w' = w.1 ++ altC (cs' ++ [cl]) := by
    rw [clE, (i12 d (Nat.le_refl _)).2.2, h2, i9, Nat.add_sub_cancel_left, i7]
    exact clJ_alt cl cs' _ _ i10
  have hlen : w'.1.length = w.1.length + (altC (cs' ++ [cl])).length := by rw [i7, altC_len]; simp
  refine ⟨w', sI', i1, i2, i3, i4, i5, altC (cs' ++ [cl]), sLs_cc i6, by omega, hcl, hlen, i12, i13, i14, by omega, i11, fun j z1 z2 => ?_⟩
  have := jOK.lt i10 j z1 (by omega)
  rw [i7]; simp; omega
end WW
theorem w_T {P : List Int32} : ∀ n, wX P (szT n) (sT P n) (lT P n)
  | 0 => fun _ _ _ _ _ _ h => h.elim
  | n + 1 => w_ch (lT_le n) (w_T n)
theorem wr_all {P : List Int32} (hP : P.length ≤ 28) {n : Nat} {x : Ch n} {s' : LI} (hl : lT P n (0, 0, false) x s') (he : s'.1 = P.length) (hs : szT n x ≤ 120) (w : WS) : wrV P 28 (wrI w) ∧ ∃ c, sT P n x c ∧ c.length ≤ 120 ∧ (wrZ (wrR P 28 (wrI w))).1 = c ++ [(8, 0, 0)] := by
  have hw : wOp 0 0 ([], w.2.1, w.2.2.1, w.2.2.2.1, w.2.2.2.2.1, w.2.2.2.2.2.1, 0) = ([], va_up w.2.1 0 0, va_up w.2.2.1 0 0, va_up w.2.2.2.1 0 0, va_up w.2.2.2.2.1 0 0, w.2.2.2.2.2.1, 0) := by
    simp [wOp]
  obtain ⟨w', sI', i1, i2, i3, i33, i4, c, j1, j2, j3, j4, j5, j6, j7, j8, j9, j10⟩ := w_T n (0, 0, false) x s' 0 0 (wOp 0 0 ([], w.2.1, w.2.2.1, w.2.2.2.1, w.2.2.2.2.1, w.2.2.2.2.2.1, 0)) hl hP (by omega) (by rw [hw]; exact va_up_self w.2.2.1 0 0) (by rw [hw]; exact va_up_self w.2.2.2.2.1 0 0) (by rw [hw]; exact Nat.le_refl _) (by rw [hw]; show 0 + szT n x ≤ 121; omega) (Nat.zero_le _) (Nat.le_refl _) (Nat.zero_le _)
  rw [hw] at j3 j4 j5 j8 j10
  have j3 : clE 0 w' = c := j3
  have j4 : w'.1.length = 0 + c.length := j4
  have hG : w'.2.2.2.1 0 = 0 := (j5 0 (Nat.le_refl _)).2.1.trans (va_up_self w.2.2.2.1 0 0)
  have hJ : w'.2.2.2.2.1 0 = 0 := (j5 0 (Nat.le_refl _)).2.2.trans (va_up_self w.2.2.2.2.1 0 0)
  have hC : (wCl 0 w').1 = c := by
    simp only [wCl]
    rw [hG, if_neg (by omega), j3]
  obtain ⟨f', k1, k2, k3⟩ := i1 28 (by show P.length ≤ 0 + 28; omega)
  have hF : wrF (s'.1, 0, s'.2.1, sI', w') := by
    refine ⟨⟨by show w'.1.length < 130; omega, by show w'.2.2.2.2.1 0 ≤ w'.2.2.2.2.2.2; omega, by show w'.2.2.2.2.2.2 ≤ 30; omega, fun j z1 z2 => j10 j (Nat.zero_le _) z2, by show w'.2.2.2.1 0 ≤ 100; omega⟩, by show (wCl 0 w').1.length < 130; rw [hC]; omega, by show (0 : Nat) ≤ 7; omega⟩
  have hV : wrV P f' (s'.1, 0, s'.2.1, sI', w') := by
    cases f' with
    | zero => exact ⟨by show P.length ≤ s'.1; omega, hF⟩
    | succ f => rw [wrV, if_pos (by show P.length ≤ s'.1; omega)]; exact hF
  have hR : wrR P f' (s'.1, 0, s'.2.1, sI', w') = (s'.1, 0, s'.2.1, sI', w') := by
    cases f' with
    | zero => rfl
    | succ f => rw [wrR, if_pos (by show P.length ≤ s'.1; omega)]
  refine ⟨k2 hV, c, j1, by omega, ?_⟩
  show (wCl 0 (wrR P 28 (wrI w)).2.2.2.2).1 ++ [(8, 0, 0)] = _
  have : wrR P 28 (wrI w) = (s'.1, 0, s'.2.1, sI', w') := k3.trans hR
  rw [this]
  show (wCl 0 w').1 ++ _ = _
  rw [hC]
