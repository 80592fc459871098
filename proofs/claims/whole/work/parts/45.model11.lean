abbrev SE : Type := (Nat × Nat) ⊕ (Nat × Nat)
def seI : SE → Int32
  | .inl q => nI (q.1 * 32 + q.2)
  | .inr q => -1 - nI (q.1 * 64 + q.2)
def seOK (n tl : Nat) : SE → Prop
  | .inl q => q.1 < n ∧ q.2 ≤ tl
  | .inr q => q.1 ≤ 13 ∧ q.2 ≤ 31
def stF (f : Nat → Int32) : List SE → Prop
  | [] => True
  | e :: r => f r.length = seI e ∧ stF f r
theorem stF.up {f : Nat → Int32} {v : Int32} : ∀ {st : List SE} {j : Nat}, stF f st → st.length ≤ j → stF (upd f j v) st
  | [], _, _, _ => trivial
  | e :: r, j, h, hj => by
    have hj : r.length + 1 ≤ j := hj
    exact ⟨by rw [pk_un (by omega)]; exact h.1, h.2.up (by omega)⟩
def cuN (tr : Nat → Bool) : Nat → Nat
  | 0 => 0
  | n + 1 => cuN tr n + (if tr n then 0 else 1)
theorem cuN_le (tr : Nat → Bool) : ∀ n, cuN tr n ≤ n
  | 0 => Nat.le_refl _
  | n + 1 => by
    have := cuN_le tr n
    rw [cuN]
    split <;> omega
theorem cuN_eq {tr tr' : Nat → Bool} : ∀ {n : Nat}, (∀ j, j < n → tr j = tr' j) → cuN tr n = cuN tr' n
  | 0, _ => rfl
  | n + 1, h => by rw [cuN, cuN, h n (by omega), cuN_eq (fun j hj => h j (by omega))]
theorem cuN_up {tr : Nat → Bool} {j : Nat} (h0 : tr j = false) : ∀ {n : Nat}, j < n → cuN (va_up tr j true) n + 1 = cuN tr n
  | 0, h => absurd h (by omega)
  | n + 1, h => by
    rw [cuN, cuN]
    by_cases e : j = n
    · subst e
      rw [cuN_eq (tr := va_up tr j true) (tr' := tr) (fun i hi => by rw [va_up, if_neg (by omega)])]
      simp [va_up, h0]
    · have := cuN_up h0 (n := n) (by omega)
      rw [show va_up tr j true n = tr n from by rw [va_up, if_neg (fun z => e z.symm)]]
      omega
theorem vaup_same {α : Type} {f : Nat → α} {j : Nat} {v : α} (h : f j = v) : va_up f j v = f := by
  funext k
  rw [va_up]
  split
  · rename_i e; rw [e, h]
  · rfl
def mkF (M : Nat → Int32) (mk : Nat → Nat) : Prop := ∀ j, j < 14 → M j = nI (mk j) - 1
theorem mkF.up {M : Nat → Int32} {mk : Nat → Nat} (h : mkF M mk) {j v : Nat} {x : Int32} (hx : x = nI v - 1) : mkF (upd M j x) (va_up mk j v) := by
  intro i hi
  by_cases e : i = j
  · subst e; rw [pk_us, hx]; simp [va_up]
  · rw [pk_un e, h i hi, va_up, if_neg e]
def cN1 (l : Cd) (p : Nat) : Nat := (nI p + (cIn l p).2.1).toNatClampNeg
def cN2 (l : Cd) (p : Nat) : Nat := (nI p + (cIn l p).2.2).toNatClampNeg
def cMk (l : Cd) (p : Nat) : Nat := (cIn l p).2.1.toNatClampNeg
def cdOK (P : List Int32) (l : Cd) : Prop := 0 < l.length ∧ l.length ≤ 130 ∧ ∀ p, p < l.length → clOK P (cIn l p) ∧
  ((cIn l p).1 = 5 → (∃ m, m ≤ 13 ∧ (cIn l p).2.1 = nI m) ∧ p + 1 < l.length) ∧
  ((cIn l p).1 = 6 → (∃ t, t < l.length ∧ nI p + (cIn l p).2.1 = nI t) ∧ (∃ t, t < l.length ∧ nI p + (cIn l p).2.2 = nI t)) ∧
  ((cIn l p).1 = 7 → ∃ t, t < l.length ∧ nI p + (cIn l p).2.1 = nI t) ∧
  (¬ (cIn l p).1 = 5 → ¬ (cIn l p).1 = 6 → ¬ (cIn l p).1 = 7 → ¬ (cIn l p).1 = 8 → p + 1 < l.length)
def toB (to : Int32) (x : Nat) : Bool := decide (to < 0) || decide (nI x = to)
def dfs (P T : List Int32) (l : Cd) (to : Int32) : Nat → Option (Nat × Nat) → List SE → (Nat → Bool) → (Nat → Nat) → Option Nat × (Nat → Nat)
  | 0, _, _, _, ma => (none, ma)
  | f + 1, none, st, tr, ma => (match st with
    | [] => (none, ma)
    | .inr q :: st' => dfs P T l to f none st' tr (va_up ma q.1 q.2)
    | .inl q :: st' => dfs P T l to f (some q) st' tr ma)
  | f + 1, some q, st, tr, ma =>
    if tr (q.1 * 31 + q.2) = true then dfs P T l to f none st tr ma
    else if (cIn l q.1).1 = 8 then (if toB to q.2 = true then (some q.2, ma) else dfs P T l to f none st (va_up tr (q.1 * 31 + q.2) true) ma)
    else if (cIn l q.1).1 = 5 then dfs P T l to f (some (q.1 + 1, q.2)) (.inr (cMk l q.1, ma (cMk l q.1)) :: st) (va_up tr (q.1 * 31 + q.2) true) (va_up ma (cMk l q.1) (q.2 + 1))
    else if (cIn l q.1).1 = 6 then dfs P T l to f (some (cN1 l q.1, q.2)) (.inl (cN2 l q.1, q.2) :: st) (va_up tr (q.1 * 31 + q.2) true) ma
    else if (cIn l q.1).1 = 7 then dfs P T l to f (some (cN1 l q.1, q.2)) st (va_up tr (q.1 * 31 + q.2) true) ma
    else if ¬ (cIn l q.1).1 < 3 then (if (if (cIn l q.1).1 = 3 then q.2 = 0 else q.2 = T.length) then dfs P T l to f (some (q.1 + 1, q.2)) st (va_up tr (q.1 * 31 + q.2) true) ma else dfs P T l to f none st (va_up tr (q.1 * 31 + q.2) true) ma)
    else (if q.2 < T.length ∧ tkI P (cIn l q.1) (pat T q.2) = true then dfs P T l to f (some (q.1 + 1, q.2 + 1)) st (va_up tr (q.1 * 31 + q.2) true) ma else dfs P T l to f none st (va_up tr (q.1 * 31 + q.2) true) ma)
section M11
variable {E : xE} {g : xH} {A : MA3} {B : MB} {w : WS} {D : MD} {Post : Option Value → xH → Prop} {fr to e : Int32} {ht p x : Nat}
abbrev yL (E : xE) (fr to : Int32) (ht : Nat) : List (Nat × Value) := [(0, .ref (xb E + 21)), (1, .int fr), (2, .int to), (3, .int (nI ht))]
abbrev iL (E : xE) (fr to : Int32) (ht : Nat) (e : Int32) (p x : Nat) (gg : Bool) : List (Nat × Value) := [(0, .ref (xb E + 21)), (1, .int fr), (2, .int to), (3, .int (nI ht)), (4, .int e), (5, .int (nI p)), (6, .int (nI x)), (7, .int (bI gg))]
theorem wy_out (k : wp E 3 m_MO_way 52 (yL E fr to ht) [] g Post) : wp E 3 m_MO_way 115 (iL E fr to ht e p x false) [] g Post := by
  refine wp_iload d_MO_way_115 rfl ?_
  refine wp_if_eq (tgt := 462) d_MO_way_117 (by decide) (fun hc => ?_) (fun hc => ?_)
  rotate_left
  · exact absurd rfl hc
  refine wp_goto (tgt := 52) d_MO_way_462 (by decide) ?_
  exact wp_lo (fun z hz => List.mem_append_left ([(4, .int e), (5, .int (nI p)), (6, .int (nI x)), (7, .int (bI false))] : List (Nat × Value)) hz) k
theorem wy_skip (k : wp E 3 m_MO_way 52 (yL E fr to ht) [] g Post) : wp E 3 m_MO_way 157 (iL E fr to ht e p x false) [] g Post := by
  refine wp_iload d_MO_way_157 rfl ?_
  refine wp_if_eq (tgt := 193) d_MO_way_159 (by decide) (fun h1 => ?_) (fun h1 => ?_)
  rotate_left
  · exact absurd rfl h1
  refine wp_iload d_MO_way_193 rfl ?_
  refine wp_if_eq (tgt := 265) d_MO_way_195 (by decide) (fun h2 => ?_) (fun h2 => ?_)
  rotate_left
  · exact absurd rfl h2
  refine wp_iload d_MO_way_265 rfl ?_
  refine wp_if_eq (tgt := 322) d_MO_way_267 (by decide) (fun h3 => ?_) (fun h3 => ?_)
  rotate_left
  · exact absurd rfl h3
  refine wp_iload d_MO_way_322 rfl ?_
  refine wp_if_eq (tgt := 354) d_MO_way_324 (by decide) (fun h4 => ?_) (fun h4 => ?_)
  rotate_left
  · exact absurd rfl h4
  refine wp_iload d_MO_way_354 rfl ?_
  refine wp_if_eq (tgt := 416) d_MO_way_356 (by decide) (fun h5 => ?_) (fun h5 => ?_)
  rotate_left
  · exact absurd rfl h5
  refine wp_iload d_MO_way_416 rfl ?_
  refine wp_if_eq (tgt := 115) d_MO_way_418 (by decide) (fun h6 => ?_) (fun h6 => ?_)
  rotate_left
  · exact absurd rfl h6
  exact wy_out k
theorem wy_ix {p x : Nat} : nI p * 31 + nI x = nI (p * 31 + x) := by rw [show nI p * 31 = nI (p * 31) from pk_mul p 31, nI_add]
theorem wy_tr (hE : xOK E) (mg : MoW E g A B w D) (hp0 : p < 130) (hx : x ≤ 30) (k : ∀ g', mfr E g g' → MoW E g' A B w (va_up D.1 (p * 31 + x) true, D.2) → wp E 3 m_MO_way 157 (iL E fr to ht e p x (!D.1 (p * 31 + x))) [] g' Post) : wp E 3 m_MO_way 115 (iL E fr to ht e p x true) [] g Post := by
  obtain ⟨s, o, t, hc, hl0, hm1⟩ := mg
  obtain ⟨fp, ft, fo, qq, o21, a22, a23, a24, a25, a26, a27, a28, a29, a30, a31, a32, a33, a34, a35, a36, a37, a38, a39, a40⟩ := hm1
  have fin : ∀ b : Bool, b = (!D.1 (p * 31 + x)) → wp E 3 m_MO_way 141 (iL E fr to ht e p x true) [.int (bI b)] g Post := by
    intro b hb
    refine wp_istore d_MO_way_141 (by decide) rfl ?_
    refine wp_aload_n d_MO_way_143 rfl rfl ?_
    refine wp_get xf_MO_59 d_MO_way_144 (by repeat first | exact xg_eq | exact xn_eq (by first | rfl | omega) | refine xg_ne (by first | omega | assumption | (simp only [xput, xnew]; omega)) ?_ | refine xn_ne (by first | omega | assumption | (simp only [xput, xnew]; omega)) ?_ | assumption | exact rfl) (by rfl) ?_
    refine wp_iload d_MO_way_147 rfl ?_
    refine wp_bipush (v := 31) d_MO_way_149 (by rfl) ?_
    refine wp_imul d_MO_way_151 ?_
    refine wp_iload d_MO_way_152 rfl ?_
    refine wp_iadd d_MO_way_154 ?_
    refine wp_iconst (v := 1) d_MO_way_155 (by rfl) ?_
    rw [wy_ix]
    refine wp_zast d_MO_way_156 (by repeat first | exact xg_eq | exact xn_eq (by first | rfl | omega) | refine xg_ne (by first | omega | assumption | (simp only [xput, xnew]; omega)) ?_ | refine xn_ne (by first | omega | assumption | (simp only [xput, xnew]; omega)) ?_ | assumption | exact rfl) hE.z (vp_in_nI (by omega) (by omega)) (by first | exact bI_01 _ | exact Or.inl rfl | exact Or.inr rfl | assumption) ?_
    rw [show (1 : Int32) = bI true from rfl, upd_bI (by omega), hb]
    exact k _ (mfr.rf.put (by omega)) ⟨s, o, t, hc, hl0, ⟨fp, ft, fo, qq, (by first | (repeat (refine xg_ne (by omega) ?_)); first | exact xg_eq | exact o21), (by first | (repeat (refine xg_ne (by omega) ?_)); first | exact xg_eq | exact a22), (by first | (repeat (refine xg_ne (by omega) ?_)); first | exact xg_eq | exact a23), (by first | (repeat (refine xg_ne (by omega) ?_)); first | exact xg_eq | exact a24), (by first | (repeat (refine xg_ne (by omega) ?_)); first | exact xg_eq | exact a25), (by first | (repeat (refine xg_ne (by omega) ?_)); first | exact xg_eq | exact a26), (by first | (repeat (refine xg_ne (by omega) ?_)); first | exact xg_eq | exact a27), (by first | (repeat (refine xg_ne (by omega) ?_)); first | exact xg_eq | exact a28), (by first | (repeat (refine xg_ne (by omega) ?_)); first | exact xg_eq | exact a29), (by first | (repeat (refine xg_ne (by omega) ?_)); first | exact xg_eq | exact a30), (by first | (repeat (refine xg_ne (by omega) ?_)); first | exact xg_eq | exact a31), (by first | (repeat (refine xg_ne (by omega) ?_)); first | exact xg_eq | exact a32), (by first | (repeat (refine xg_ne (by omega) ?_)); first | exact xg_eq | exact a33), (by first | (repeat (refine xg_ne (by omega) ?_)); first | exact xg_eq | exact a34), (by first | (repeat (refine xg_ne (by omega) ?_)); first | exact xg_eq | exact a35), (by first | (repeat (refine xg_ne (by omega) ?_)); first | exact xg_eq | exact a36), (by first | (repeat (refine xg_ne (by omega) ?_)); first | exact xg_eq | exact a37), (by first | (repeat (refine xg_ne (by omega) ?_)); first | exact xg_eq | exact a38), (by first | (repeat (refine xg_ne (by omega) ?_)); first | exact xg_eq | exact a39), (by first | (repeat (refine xg_ne (by omega) ?_)); first | exact xg_eq | exact a40)⟩⟩
  refine wp_iload d_MO_way_115 rfl ?_
  refine wp_if_eq (tgt := 462) d_MO_way_117 (by decide) (fun h0 => ?_) (fun h0 => ?_)
  · exact absurd h0 (by decide)
  refine wp_aload_n d_MO_way_120 rfl rfl ?_
  refine wp_get xf_MO_59 d_MO_way_121 (by repeat first | exact xg_eq | exact xn_eq (by first | rfl | omega) | refine xg_ne (by first | omega | assumption | (simp only [xput, xnew]; omega)) ?_ | refine xn_ne (by first | omega | assumption | (simp only [xput, xnew]; omega)) ?_ | assumption | exact rfl) (by rfl) ?_
  refine wp_iload d_MO_way_124 rfl ?_
  refine wp_bipush (v := 31) d_MO_way_126 (by rfl) ?_
  refine wp_imul d_MO_way_128 ?_
  refine wp_iload d_MO_way_129 rfl ?_
  refine wp_iadd d_MO_way_131 ?_
  rw [wy_ix]
  refine wp_zald d_MO_way_132 (by repeat first | exact xg_eq | exact xn_eq (by first | rfl | omega) | refine xg_ne (by first | omega | assumption | (simp only [xput, xnew]; omega)) ?_ | refine xn_ne (by first | omega | assumption | (simp only [xput, xnew]; omega)) ?_ | assumption | exact rfl) hE.z (vp_in_nI (by omega) (by omega)) ?_
  rw [nI_clamp (by omega)]
  refine wp_if_ne (tgt := 140) d_MO_way_133 (by decide) (fun h1 => ?_) (fun h1 => ?_)
  · refine wp_iconst (v := 0) d_MO_way_140 (by rfl) ?_
    exact fin false (by rw [b_t (fun z => h1 (bI_0.mpr z))]; rfl)
  · refine wp_iconst (v := 1) d_MO_way_136 (by rfl) ?_
    refine wp_goto (tgt := 141) d_MO_way_137 (by decide) ?_
    exact fin true (by rw [bI_0.mp h1]; rfl)
theorem wy_8 (hE : xOK E) (mg : MoW E g A B w D) (hp0 : p < w.1.length) (h8 : (cIn w.1 p).1 = 8) (hx : x ≤ 30) (k1 : toB to x = true → Post (some (.int (nI x))) g) (k2 : toB to x = false → wp E 3 m_MO_way 52 (yL E fr to ht) [] g Post) : wp E 3 m_MO_way 157 (iL E fr to ht e p x true) [] g Post := by
  obtain ⟨s, o, t, hc, hl0, hm1⟩ := mg
  obtain ⟨fp, ft, fo, qq, o21, a22, a23, a24, a25, a26, a27, a28, a29, a30, a31, a32, a33, a34, a35, a36, a37, a38, a39, a40⟩ := hm1
  have h1 : s p = (cIn w.1 p).1 := by rw [← hc p hp0]
  have ret : toB to x = true → wp E 3 m_MO_way 184 (iL E fr to ht e p x true) [] g Post := by
    intro hb
    refine wp_iload d_MO_way_184 rfl ?_
    refine wp_ireturn d_MO_way_186 rfl (by first | rfl | assumption) ?_
    exact k1 hb
  refine wp_iload d_MO_way_157 rfl ?_
  refine wp_if_eq (tgt := 193) d_MO_way_159 (by decide) (fun h0 => ?_) (fun h0 => ?_)
  · exact absurd h0 (by decide)
  refine wp_aload_n d_MO_way_162 rfl rfl ?_
  refine wp_get xf_MO_35 d_MO_way_163 (by repeat first | exact xg_eq | exact xn_eq (by first | rfl | omega) | refine xg_ne (by first | omega | assumption | (simp only [xput, xnew]; omega)) ?_ | refine xn_ne (by first | omega | assumption | (simp only [xput, xnew]; omega)) ?_ | assumption | exact rfl) (by rfl) ?_
  refine wp_iload d_MO_way_166 rfl ?_
  refine wp_iald d_MO_way_168 (by repeat first | exact xg_eq | exact xn_eq (by first | rfl | omega) | refine xg_ne (by first | omega | assumption | (simp only [xput, xnew]; omega)) ?_ | refine xn_ne (by first | omega | assumption | (simp only [xput, xnew]; omega)) ?_ | assumption | exact rfl) hE.i (vp_in_nI (by omega) (by omega)) ?_
  rw [nI_clamp (by omega), show (s, o, t, w.1.length, w.2).1 p = 8 from h1.trans h8]
  refine wp_bipush (v := 8) d_MO_way_169 (by rfl) ?_
  refine wp_icmp_ne (tgt := 193) d_MO_way_171 (by decide) (fun h2 => ?_) (fun h2 => ?_)
  · exact absurd rfl h2
  refine wp_iload_n d_MO_way_174 rfl rfl ?_
  refine wp_if_lt (tgt := 184) d_MO_way_175 (by decide) (fun h3 => ?_) (fun h3 => ?_)
  · exact ret (by rw [toB, decide_eq_true h3]; rfl)
  refine wp_iload d_MO_way_178 rfl ?_
  refine wp_iload_n d_MO_way_180 rfl rfl ?_
  refine wp_icmp_ne (tgt := 187) d_MO_way_181 (by decide) (fun h4 => ?_) (fun h4 => ?_)
  · refine wp_iconst (v := 0) d_MO_way_187 (by rfl) ?_
    refine wp_istore d_MO_way_188 (by decide) rfl ?_
    refine wp_goto (tgt := 115) d_MO_way_190 (by decide) ?_
    exact wy_out (k2 (by rw [toB, decide_eq_false h3, decide_eq_false h4]; rfl))
  · exact ret (by rw [toB, decide_eq_true h4, Bool.or_true])
theorem wy_n8 (hE : xOK E) (mg : MoW E g A B w D) (hp0 : p < w.1.length) (h8 : ¬ (cIn w.1 p).1 = 8) (k : wp E 3 m_MO_way 198 (iL E fr to ht e p x true) [] g Post) : wp E 3 m_MO_way 157 (iL E fr to ht e p x true) [] g Post := by
  obtain ⟨s, o, t, hc, hl0, hm1⟩ := mg
  obtain ⟨fp, ft, fo, qq, o21, a22, a23, a24, a25, a26, a27, a28, a29, a30, a31, a32, a33, a34, a35, a36, a37, a38, a39, a40⟩ := hm1
  have h1 : s p = (cIn w.1 p).1 := by rw [← hc p hp0]
  refine wp_iload d_MO_way_157 rfl ?_
  refine wp_if_eq (tgt := 193) d_MO_way_159 (by decide) (fun h0 => ?_) (fun h0 => ?_)
  · exact absurd h0 (by decide)
  refine wp_aload_n d_MO_way_162 rfl rfl ?_
  refine wp_get xf_MO_35 d_MO_way_163 (by repeat first | exact xg_eq | exact xn_eq (by first | rfl | omega) | refine xg_ne (by first | omega | assumption | (simp only [xput, xnew]; omega)) ?_ | refine xn_ne (by first | omega | assumption | (simp only [xput, xnew]; omega)) ?_ | assumption | exact rfl) (by rfl) ?_
  refine wp_iload d_MO_way_166 rfl ?_
  refine wp_iald d_MO_way_168 (by repeat first | exact xg_eq | exact xn_eq (by first | rfl | omega) | refine xg_ne (by first | omega | assumption | (simp only [xput, xnew]; omega)) ?_ | refine xn_ne (by first | omega | assumption | (simp only [xput, xnew]; omega)) ?_ | assumption | exact rfl) hE.i (vp_in_nI (by omega) (by omega)) ?_
  rw [nI_clamp (by omega), show (s, o, t, w.1.length, w.2).1 p = (cIn w.1 p).1 from h1]
  refine wp_bipush (v := 8) d_MO_way_169 (by rfl) ?_
  refine wp_icmp_ne (tgt := 193) d_MO_way_171 (by decide) (fun h2 => ?_) (fun h2 => ?_)
  rotate_left
  · exact absurd h2 h8
  refine wp_iload d_MO_way_193 rfl ?_
  refine wp_if_eq (tgt := 265) d_MO_way_195 (by decide) (fun h3 => ?_) (fun h3 => ?_)
  · exact absurd h3 (by decide)
  exact k
theorem wy_5 (hE : xOK E) (mg : MoW E g A B w D) (hp0 : p < w.1.length) (h5 : (cIn w.1 p).1 = 5) (hx : x ≤ 30) {m o : Nat} (hm : (cIn w.1 p).2.1 = nI m) (hm13 : m ≤ 13) (ho : D.2.2.1 m = nI o - 1) (ho31 : o ≤ 31) (hht : ht < 4030) (k : ∀ g', mfr E g g' → MoW E g' A B w (D.1, upd D.2.1 ht (seI (.inr (m, o))), upd D.2.2.1 m (nI x), D.2.2.2) → wp E 3 m_MO_way 115 (iL E fr to (ht + 1) e (p + 1) x true) [] g' Post) : wp E 3 m_MO_way 198 (iL E fr to ht e p x true) [] g Post := by
  obtain ⟨s, oo, t, hc, hl0, hm1⟩ := mg
  obtain ⟨fp, ft, fo, qq, o21, a22, a23, a24, a25, a26, a27, a28, a29, a30, a31, a32, a33, a34, a35, a36, a37, a38, a39, a40⟩ := hm1
  have h1 : s p = (cIn w.1 p).1 := by rw [← hc p hp0]
  have h2 : oo p = nI m := by rw [← hm, ← hc p hp0]
  refine wp_aload_n d_MO_way_198 rfl rfl ?_
  refine wp_get xf_MO_35 d_MO_way_199 (by repeat first | exact xg_eq | exact xn_eq (by first | rfl | omega) | refine xg_ne (by first | omega | assumption | (simp only [xput, xnew]; omega)) ?_ | refine xn_ne (by first | omega | assumption | (simp only [xput, xnew]; omega)) ?_ | assumption | exact rfl) (by rfl) ?_
  refine wp_iload d_MO_way_202 rfl ?_
  refine wp_iald d_MO_way_204 (by repeat first | exact xg_eq | exact xn_eq (by first | rfl | omega) | refine xg_ne (by first | omega | assumption | (simp only [xput, xnew]; omega)) ?_ | refine xn_ne (by first | omega | assumption | (simp only [xput, xnew]; omega)) ?_ | assumption | exact rfl) hE.i (vp_in_nI (by omega) (by omega)) ?_
  rw [nI_clamp (by omega), show (s, oo, t, w.1.length, w.2).1 p = 5 from h1.trans h5]
  refine wp_iconst (v := 5) d_MO_way_205 (by rfl) ?_
  refine wp_icmp_ne (tgt := 265) d_MO_way_206 (by decide) (fun h3 => ?_) (fun h3 => ?_)
  · exact absurd rfl h3
  refine wp_aload_n d_MO_way_209 rfl rfl ?_
  refine wp_get xf_MO_62 d_MO_way_210 (by repeat first | exact xg_eq | exact xn_eq (by first | rfl | omega) | refine xg_ne (by first | omega | assumption | (simp only [xput, xnew]; omega)) ?_ | refine xn_ne (by first | omega | assumption | (simp only [xput, xnew]; omega)) ?_ | assumption | exact rfl) (by rfl) ?_
  refine wp_iload_n d_MO_way_213 rfl rfl ?_
  refine wp_iconst (v := (-1)) d_MO_way_214 (by rfl) ?_
  refine wp_aload_n d_MO_way_215 rfl rfl ?_
  refine wp_get xf_MO_38 d_MO_way_216 (by repeat first | exact xg_eq | exact xn_eq (by first | rfl | omega) | refine xg_ne (by first | omega | assumption | (simp only [xput, xnew]; omega)) ?_ | refine xn_ne (by first | omega | assumption | (simp only [xput, xnew]; omega)) ?_ | assumption | exact rfl) (by rfl) ?_
  refine wp_iload d_MO_way_219 rfl ?_
  refine wp_iald d_MO_way_221 (by repeat first | exact xg_eq | exact xn_eq (by first | rfl | omega) | refine xg_ne (by first | omega | assumption | (simp only [xput, xnew]; omega)) ?_ | refine xn_ne (by first | omega | assumption | (simp only [xput, xnew]; omega)) ?_ | assumption | exact rfl) hE.i (vp_in_nI (by omega) (by omega)) ?_
  rw [nI_clamp (by omega), show (s, oo, t, w.1.length, w.2).2.1 p = nI m from h2]
  refine wp_bipush (v := 64) d_MO_way_222 (by rfl) ?_
  refine wp_imul d_MO_way_224 ?_
  refine wp_aload_n d_MO_way_225 rfl rfl ?_
  refine wp_get xf_MO_65 d_MO_way_226 (by repeat first | exact xg_eq | exact xn_eq (by first | rfl | omega) | refine xg_ne (by first | omega | assumption | (simp only [xput, xnew]; omega)) ?_ | refine xn_ne (by first | omega | assumption | (simp only [xput, xnew]; omega)) ?_ | assumption | exact rfl) (by rfl) ?_
  refine wp_aload_n d_MO_way_229 rfl rfl ?_
  refine wp_get xf_MO_38 d_MO_way_230 (by repeat first | exact xg_eq | exact xn_eq (by first | rfl | omega) | refine xg_ne (by first | omega | assumption | (simp only [xput, xnew]; omega)) ?_ | refine xn_ne (by first | omega | assumption | (simp only [xput, xnew]; omega)) ?_ | assumption | exact rfl) (by rfl) ?_
  refine wp_iload d_MO_way_233 rfl ?_
  refine wp_iald d_MO_way_235 (by repeat first | exact xg_eq | exact xn_eq (by first | rfl | omega) | refine xg_ne (by first | omega | assumption | (simp only [xput, xnew]; omega)) ?_ | refine xn_ne (by first | omega | assumption | (simp only [xput, xnew]; omega)) ?_ | assumption | exact rfl) hE.i (vp_in_nI (by omega) (by omega)) ?_
  rw [nI_clamp (by omega), show (s, oo, t, w.1.length, w.2).2.1 p = nI m from h2]
  refine wp_iald d_MO_way_236 (by repeat first | exact xg_eq | exact xn_eq (by first | rfl | omega) | refine xg_ne (by first | omega | assumption | (simp only [xput, xnew]; omega)) ?_ | refine xn_ne (by first | omega | assumption | (simp only [xput, xnew]; omega)) ?_ | assumption | exact rfl) hE.i (vp_in_nI (by omega) (by omega)) ?_
  rw [nI_clamp (by omega), ho]
  refine wp_iadd d_MO_way_237 ?_
  refine wp_iconst (v := 1) d_MO_way_238 (by rfl) ?_
  refine wp_iadd d_MO_way_239 ?_
  refine wp_isub d_MO_way_240 ?_
  rw [show (-1 : Int32) - (nI m * 64 + (nI o - 1) + 1) = seI (.inr (m, o)) from by
    rw [seI, show nI m * 64 = nI (m * 64) from pk_mul m 64]
    show _ = -1 - nI (m * 64 + o)
    rw [← nI_add]
    generalize nI (m * 64) = a
    generalize nI o = b
    grind]
  refine wp_iast d_MO_way_241 (by repeat first | exact xg_eq | exact xn_eq (by first | rfl | omega) | refine xg_ne (by first | omega | assumption | (simp only [xput, xnew]; omega)) ?_ | refine xn_ne (by first | omega | assumption | (simp only [xput, xnew]; omega)) ?_ | assumption | exact rfl) hE.i (vp_in_nI hht (by omega)) ?_
  rw [nI_clamp (by omega)]
  refine wp_iinc d_MO_way_242 rfl rfl (by decide) rfl ?_
  refine wp_aload_n d_MO_way_245 rfl rfl ?_
  refine wp_get xf_MO_65 d_MO_way_246 (by repeat first | exact xg_eq | exact xn_eq (by first | rfl | omega) | refine xg_ne (by first | omega | assumption | (simp only [xput, xnew]; omega)) ?_ | refine xn_ne (by first | omega | assumption | (simp only [xput, xnew]; omega)) ?_ | assumption | exact rfl) (by rfl) ?_
  refine wp_aload_n d_MO_way_249 rfl rfl ?_
  refine wp_get xf_MO_38 d_MO_way_250 (by repeat first | exact xg_eq | exact xn_eq (by first | rfl | omega) | refine xg_ne (by first | omega | assumption | (simp only [xput, xnew]; omega)) ?_ | refine xn_ne (by first | omega | assumption | (simp only [xput, xnew]; omega)) ?_ | assumption | exact rfl) (by rfl) ?_
  refine wp_iload d_MO_way_253 rfl ?_
  rw [show nI ht + Int32.ofInt 1 = nI (ht + 1) from (nI_succ ht).symm]
  refine wp_iald d_MO_way_255 (by repeat first | exact xg_eq | exact xn_eq (by first | rfl | omega) | refine xg_ne (by first | omega | assumption | (simp only [xput, xnew]; omega)) ?_ | refine xn_ne (by first | omega | assumption | (simp only [xput, xnew]; omega)) ?_ | assumption | exact rfl) hE.i (vp_in_nI (by omega) (by omega)) ?_
  rw [nI_clamp (by omega), show (s, oo, t, w.1.length, w.2).2.1 p = nI m from h2]
  refine wp_iload d_MO_way_256 rfl ?_
  refine wp_iast d_MO_way_258 (by repeat first | exact xg_eq | exact xn_eq (by first | rfl | omega) | refine xg_ne (by first | omega | assumption | (simp only [xput, xnew]; omega)) ?_ | refine xn_ne (by first | omega | assumption | (simp only [xput, xnew]; omega)) ?_ | assumption | exact rfl) hE.i (vp_in_nI (by omega) (by omega)) ?_
  rw [nI_clamp (by omega)]
  refine wp_iinc d_MO_way_259 rfl rfl (by decide) rfl ?_
  refine wp_goto (tgt := 115) d_MO_way_262 (by decide) ?_
  rw [show nI p + Int32.ofInt 1 = nI (p + 1) from (nI_succ p).symm]
  exact k _ ((mfr.rf.put (by omega)).put (by omega)) ⟨s, oo, t, hc, hl0, ⟨fp, ft, fo, qq, (by first | (repeat (refine xg_ne (by omega) ?_)); first | exact xg_eq | exact o21), (by first | (repeat (refine xg_ne (by omega) ?_)); first | exact xg_eq | exact a22), (by first | (repeat (refine xg_ne (by omega) ?_)); first | exact xg_eq | exact a23), (by first | (repeat (refine xg_ne (by omega) ?_)); first | exact xg_eq | exact a24), (by first | (repeat (refine xg_ne (by omega) ?_)); first | exact xg_eq | exact a25), (by first | (repeat (refine xg_ne (by omega) ?_)); first | exact xg_eq | exact a26), (by first | (repeat (refine xg_ne (by omega) ?_)); first | exact xg_eq | exact a27), (by first | (repeat (refine xg_ne (by omega) ?_)); first | exact xg_eq | exact a28), (by first | (repeat (refine xg_ne (by omega) ?_)); first | exact xg_eq | exact a29), (by first | (repeat (refine xg_ne (by omega) ?_)); first | exact xg_eq | exact a30), (by first | (repeat (refine xg_ne (by omega) ?_)); first | exact xg_eq | exact a31), (by first | (repeat (refine xg_ne (by omega) ?_)); first | exact xg_eq | exact a32), (by first | (repeat (refine xg_ne (by omega) ?_)); first | exact xg_eq | exact a33), (by first | (repeat (refine xg_ne (by omega) ?_)); first | exact xg_eq | exact a34), (by first | (repeat (refine xg_ne (by omega) ?_)); first | exact xg_eq | exact a35), (by first | (repeat (refine xg_ne (by omega) ?_)); first | exact xg_eq | exact a36), (by first | (repeat (refine xg_ne (by omega) ?_)); first | exact xg_eq | exact a37), (by first | (repeat (refine xg_ne (by omega) ?_)); first | exact xg_eq | exact a38), (by first | (repeat (refine xg_ne (by omega) ?_)); first | exact xg_eq | exact a39), (by first | (repeat (refine xg_ne (by omega) ?_)); first | exact xg_eq | exact a40)⟩⟩
theorem wy_n5 (hE : xOK E) (mg : MoW E g A B w D) (hp0 : p < w.1.length) (h5 : ¬ (cIn w.1 p).1 = 5) (k : wp E 3 m_MO_way 270 (iL E fr to ht e p x true) [] g Post) : wp E 3 m_MO_way 198 (iL E fr to ht e p x true) [] g Post := by
  obtain ⟨s, o, t, hc, hl0, hm1⟩ := mg
  obtain ⟨fp, ft, fo, qq, o21, a22, a23, a24, a25, a26, a27, a28, a29, a30, a31, a32, a33, a34, a35, a36, a37, a38, a39, a40⟩ := hm1
  have h1 : s p = (cIn w.1 p).1 := by rw [← hc p hp0]
  refine wp_aload_n d_MO_way_198 rfl rfl ?_
  refine wp_get xf_MO_35 d_MO_way_199 (by repeat first | exact xg_eq | exact xn_eq (by first | rfl | omega) | refine xg_ne (by first | omega | assumption | (simp only [xput, xnew]; omega)) ?_ | refine xn_ne (by first | omega | assumption | (simp only [xput, xnew]; omega)) ?_ | assumption | exact rfl) (by rfl) ?_
  refine wp_iload d_MO_way_202 rfl ?_
  refine wp_iald d_MO_way_204 (by repeat first | exact xg_eq | exact xn_eq (by first | rfl | omega) | refine xg_ne (by first | omega | assumption | (simp only [xput, xnew]; omega)) ?_ | refine xn_ne (by first | omega | assumption | (simp only [xput, xnew]; omega)) ?_ | assumption | exact rfl) hE.i (vp_in_nI (by omega) (by omega)) ?_
  rw [nI_clamp (by omega), show (s, o, t, w.1.length, w.2).1 p = (cIn w.1 p).1 from h1]
  refine wp_iconst (v := 5) d_MO_way_205 (by rfl) ?_
  refine wp_icmp_ne (tgt := 265) d_MO_way_206 (by decide) (fun h2 => ?_) (fun h2 => ?_)
  rotate_left
  · exact absurd h2 h5
  refine wp_iload d_MO_way_265 rfl ?_
  refine wp_if_eq (tgt := 322) d_MO_way_267 (by decide) (fun h3 => ?_) (fun h3 => ?_)
  · exact absurd h3 (by decide)
  exact k
theorem wy_6 (hE : xOK E) (mg : MoW E g A B w D) (hp0 : p < w.1.length) (h6 : (cIn w.1 p).1 = 6) (hx : x ≤ 30) {t1 t2 : Nat} (ht1 : nI p + (cIn w.1 p).2.1 = nI t1) (ht2 : nI p + (cIn w.1 p).2.2 = nI t2) (l2 : t2 < 130) (hht : ht < 4030) (k : ∀ g', mfr E g g' → MoW E g' A B w (D.1, upd D.2.1 ht (seI (.inl (t2, x))), D.2.2) → wp E 3 m_MO_way 115 (iL E fr to (ht + 1) e t1 x true) [] g' Post) : wp E 3 m_MO_way 270 (iL E fr to ht e p x true) [] g Post := by
  obtain ⟨s, oo, t, hc, hl0, hm1⟩ := mg
  obtain ⟨fp, ft, fo, qq, o21, a22, a23, a24, a25, a26, a27, a28, a29, a30, a31, a32, a33, a34, a35, a36, a37, a38, a39, a40⟩ := hm1
  have h1 : s p = (cIn w.1 p).1 := by rw [← hc p hp0]
  have h2 : nI p + oo p = nI t1 := by rw [← ht1, ← hc p hp0]
  have h2' : nI p + t p = nI t2 := by rw [← ht2, ← hc p hp0]
  refine wp_aload_n d_MO_way_270 rfl rfl ?_
  refine wp_get xf_MO_35 d_MO_way_271 (by repeat first | exact xg_eq | exact xn_eq (by first | rfl | omega) | refine xg_ne (by first | omega | assumption | (simp only [xput, xnew]; omega)) ?_ | refine xn_ne (by first | omega | assumption | (simp only [xput, xnew]; omega)) ?_ | assumption | exact rfl) (by rfl) ?_
  refine wp_iload d_MO_way_274 rfl ?_
  refine wp_iald d_MO_way_276 (by repeat first | exact xg_eq | exact xn_eq (by first | rfl | omega) | refine xg_ne (by first | omega | assumption | (simp only [xput, xnew]; omega)) ?_ | refine xn_ne (by first | omega | assumption | (simp only [xput, xnew]; omega)) ?_ | assumption | exact rfl) hE.i (vp_in_nI (by omega) (by omega)) ?_
  rw [nI_clamp (by omega), show (s, oo, t, w.1.length, w.2).1 p = 6 from h1.trans h6]
  refine wp_bipush (v := 6) d_MO_way_277 (by rfl) ?_
  refine wp_icmp_ne (tgt := 322) d_MO_way_279 (by decide) (fun h3 => ?_) (fun h3 => ?_)
  · exact absurd rfl h3
  refine wp_aload_n d_MO_way_282 rfl rfl ?_
  refine wp_get xf_MO_62 d_MO_way_283 (by repeat first | exact xg_eq | exact xn_eq (by first | rfl | omega) | refine xg_ne (by first | omega | assumption | (simp only [xput, xnew]; omega)) ?_ | refine xn_ne (by first | omega | assumption | (simp only [xput, xnew]; omega)) ?_ | assumption | exact rfl) (by rfl) ?_
  refine wp_iload_n d_MO_way_286 rfl rfl ?_
  refine wp_iload d_MO_way_287 rfl ?_
  refine wp_aload_n d_MO_way_289 rfl rfl ?_
  refine wp_get xf_MO_41 d_MO_way_290 (by repeat first | exact xg_eq | exact xn_eq (by first | rfl | omega) | refine xg_ne (by first | omega | assumption | (simp only [xput, xnew]; omega)) ?_ | refine xn_ne (by first | omega | assumption | (simp only [xput, xnew]; omega)) ?_ | assumption | exact rfl) (by rfl) ?_
  refine wp_iload d_MO_way_293 rfl ?_
  refine wp_iald d_MO_way_295 (by repeat first | exact xg_eq | exact xn_eq (by first | rfl | omega) | refine xg_ne (by first | omega | assumption | (simp only [xput, xnew]; omega)) ?_ | refine xn_ne (by first | omega | assumption | (simp only [xput, xnew]; omega)) ?_ | assumption | exact rfl) hE.i (vp_in_nI (by omega) (by omega)) ?_
  rw [nI_clamp (by omega)]
  refine wp_iadd d_MO_way_296 ?_
  rw [show nI p + (s, oo, t, w.1.length, w.2).2.2.1 p = nI t2 from h2']
  refine wp_bipush (v := 32) d_MO_way_297 (by rfl) ?_
  refine wp_imul d_MO_way_299 ?_
  refine wp_iload d_MO_way_300 rfl ?_
  refine wp_iadd d_MO_way_302 ?_
  rw [show nI t2 * 32 + nI x = seI (.inl (t2, x)) from by rw [show nI t2 * 32 = nI (t2 * 32) from pk_mul t2 32, nI_add]; rfl]
  refine wp_iast d_MO_way_303 (by repeat first | exact xg_eq | exact xn_eq (by first | rfl | omega) | refine xg_ne (by first | omega | assumption | (simp only [xput, xnew]; omega)) ?_ | refine xn_ne (by first | omega | assumption | (simp only [xput, xnew]; omega)) ?_ | assumption | exact rfl) hE.i (vp_in_nI hht (by omega)) ?_
  rw [nI_clamp (by omega)]
  refine wp_iinc d_MO_way_304 rfl rfl (by decide) rfl ?_
  refine wp_iload d_MO_way_307 rfl ?_
  refine wp_aload_n d_MO_way_309 rfl rfl ?_
  refine wp_get xf_MO_38 d_MO_way_310 (by repeat first | exact xg_eq | exact xn_eq (by first | rfl | omega) | refine xg_ne (by first | omega | assumption | (simp only [xput, xnew]; omega)) ?_ | refine xn_ne (by first | omega | assumption | (simp only [xput, xnew]; omega)) ?_ | assumption | exact rfl) (by rfl) ?_
  refine wp_iload d_MO_way_313 rfl ?_
  rw [show nI ht + Int32.ofInt 1 = nI (ht + 1) from (nI_succ ht).symm]
  refine wp_iald d_MO_way_315 (by repeat first | exact xg_eq | exact xn_eq (by first | rfl | omega) | refine xg_ne (by first | omega | assumption | (simp only [xput, xnew]; omega)) ?_ | refine xn_ne (by first | omega | assumption | (simp only [xput, xnew]; omega)) ?_ | assumption | exact rfl) hE.i (vp_in_nI (by omega) (by omega)) ?_
  rw [nI_clamp (by omega)]
  refine wp_iadd d_MO_way_316 ?_
  rw [show nI p + (s, oo, t, w.1.length, w.2).2.1 p = nI t1 from h2]
  refine wp_istore d_MO_way_317 (by decide) rfl ?_
  refine wp_goto (tgt := 115) d_MO_way_319 (by decide) ?_
  exact k _ (mfr.rf.put (by omega)) ⟨s, oo, t, hc, hl0, ⟨fp, ft, fo, qq, (by first | (repeat (refine xg_ne (by omega) ?_)); first | exact xg_eq | exact o21), (by first | (repeat (refine xg_ne (by omega) ?_)); first | exact xg_eq | exact a22), (by first | (repeat (refine xg_ne (by omega) ?_)); first | exact xg_eq | exact a23), (by first | (repeat (refine xg_ne (by omega) ?_)); first | exact xg_eq | exact a24), (by first | (repeat (refine xg_ne (by omega) ?_)); first | exact xg_eq | exact a25), (by first | (repeat (refine xg_ne (by omega) ?_)); first | exact xg_eq | exact a26), (by first | (repeat (refine xg_ne (by omega) ?_)); first | exact xg_eq | exact a27), (by first | (repeat (refine xg_ne (by omega) ?_)); first | exact xg_eq | exact a28), (by first | (repeat (refine xg_ne (by omega) ?_)); first | exact xg_eq | exact a29), (by first | (repeat (refine xg_ne (by omega) ?_)); first | exact xg_eq | exact a30), (by first | (repeat (refine xg_ne (by omega) ?_)); first | exact xg_eq | exact a31), (by first | (repeat (refine xg_ne (by omega) ?_)); first | exact xg_eq | exact a32), (by first | (repeat (refine xg_ne (by omega) ?_)); first | exact xg_eq | exact a33), (by first | (repeat (refine xg_ne (by omega) ?_)); first | exact xg_eq | exact a34), (by first | (repeat (refine xg_ne (by omega) ?_)); first | exact xg_eq | exact a35), (by first | (repeat (refine xg_ne (by omega) ?_)); first | exact xg_eq | exact a36), (by first | (repeat (refine xg_ne (by omega) ?_)); first | exact xg_eq | exact a37), (by first | (repeat (refine xg_ne (by omega) ?_)); first | exact xg_eq | exact a38), (by first | (repeat (refine xg_ne (by omega) ?_)); first | exact xg_eq | exact a39), (by first | (repeat (refine xg_ne (by omega) ?_)); first | exact xg_eq | exact a40)⟩⟩
theorem wy_n6 (hE : xOK E) (mg : MoW E g A B w D) (hp0 : p < w.1.length) (h5 : ¬ (cIn w.1 p).1 = 6) (k : wp E 3 m_MO_way 327 (iL E fr to ht e p x true) [] g Post) : wp E 3 m_MO_way 270 (iL E fr to ht e p x true) [] g Post := by
  obtain ⟨s, o, t, hc, hl0, hm1⟩ := mg
  obtain ⟨fp, ft, fo, qq, o21, a22, a23, a24, a25, a26, a27, a28, a29, a30, a31, a32, a33, a34, a35, a36, a37, a38, a39, a40⟩ := hm1
  have h1 : s p = (cIn w.1 p).1 := by rw [← hc p hp0]
  refine wp_aload_n d_MO_way_270 rfl rfl ?_
  refine wp_get xf_MO_35 d_MO_way_271 (by repeat first | exact xg_eq | exact xn_eq (by first | rfl | omega) | refine xg_ne (by first | omega | assumption | (simp only [xput, xnew]; omega)) ?_ | refine xn_ne (by first | omega | assumption | (simp only [xput, xnew]; omega)) ?_ | assumption | exact rfl) (by rfl) ?_
  refine wp_iload d_MO_way_274 rfl ?_
  refine wp_iald d_MO_way_276 (by repeat first | exact xg_eq | exact xn_eq (by first | rfl | omega) | refine xg_ne (by first | omega | assumption | (simp only [xput, xnew]; omega)) ?_ | refine xn_ne (by first | omega | assumption | (simp only [xput, xnew]; omega)) ?_ | assumption | exact rfl) hE.i (vp_in_nI (by omega) (by omega)) ?_
  rw [nI_clamp (by omega), show (s, o, t, w.1.length, w.2).1 p = (cIn w.1 p).1 from h1]
  refine wp_bipush (v := 6) d_MO_way_277 (by rfl) ?_
  refine wp_icmp_ne (tgt := 322) d_MO_way_279 (by decide) (fun h2 => ?_) (fun h2 => ?_)
  rotate_left
  · exact absurd h2 h5
  refine wp_iload d_MO_way_322 rfl ?_
  refine wp_if_eq (tgt := 354) d_MO_way_324 (by decide) (fun h3 => ?_) (fun h3 => ?_)
  · exact absurd h3 (by decide)
  exact k
theorem wy_7 (hE : xOK E) (mg : MoW E g A B w D) (hp0 : p < w.1.length) (h6 : (cIn w.1 p).1 = 7) {t1 : Nat} (ht1 : nI p + (cIn w.1 p).2.1 = nI t1) (k : wp E 3 m_MO_way 115 (iL E fr to ht e t1 x true) [] g Post) : wp E 3 m_MO_way 327 (iL E fr to ht e p x true) [] g Post := by
  obtain ⟨s, oo, t, hc, hl0, hm1⟩ := mg
  obtain ⟨fp, ft, fo, qq, o21, a22, a23, a24, a25, a26, a27, a28, a29, a30, a31, a32, a33, a34, a35, a36, a37, a38, a39, a40⟩ := hm1
  have h1 : s p = (cIn w.1 p).1 := by rw [← hc p hp0]
  have h2 : nI p + oo p = nI t1 := by rw [← ht1, ← hc p hp0]
  refine wp_aload_n d_MO_way_327 rfl rfl ?_
  refine wp_get xf_MO_35 d_MO_way_328 (by repeat first | exact xg_eq | exact xn_eq (by first | rfl | omega) | refine xg_ne (by first | omega | assumption | (simp only [xput, xnew]; omega)) ?_ | refine xn_ne (by first | omega | assumption | (simp only [xput, xnew]; omega)) ?_ | assumption | exact rfl) (by rfl) ?_
  refine wp_iload d_MO_way_331 rfl ?_
  refine wp_iald d_MO_way_333 (by repeat first | exact xg_eq | exact xn_eq (by first | rfl | omega) | refine xg_ne (by first | omega | assumption | (simp only [xput, xnew]; omega)) ?_ | refine xn_ne (by first | omega | assumption | (simp only [xput, xnew]; omega)) ?_ | assumption | exact rfl) hE.i (vp_in_nI (by omega) (by omega)) ?_
  rw [nI_clamp (by omega), show (s, oo, t, w.1.length, w.2).1 p = 7 from h1.trans h6]
  refine wp_bipush (v := 7) d_MO_way_334 (by rfl) ?_
  refine wp_icmp_ne (tgt := 354) d_MO_way_336 (by decide) (fun h3 => ?_) (fun h3 => ?_)
  · exact absurd rfl h3
  refine wp_iload d_MO_way_339 rfl ?_
  refine wp_aload_n d_MO_way_341 rfl rfl ?_
  refine wp_get xf_MO_38 d_MO_way_342 (by repeat first | exact xg_eq | exact xn_eq (by first | rfl | omega) | refine xg_ne (by first | omega | assumption | (simp only [xput, xnew]; omega)) ?_ | refine xn_ne (by first | omega | assumption | (simp only [xput, xnew]; omega)) ?_ | assumption | exact rfl) (by rfl) ?_
  refine wp_iload d_MO_way_345 rfl ?_
  refine wp_iald d_MO_way_347 (by repeat first | exact xg_eq | exact xn_eq (by first | rfl | omega) | refine xg_ne (by first | omega | assumption | (simp only [xput, xnew]; omega)) ?_ | refine xn_ne (by first | omega | assumption | (simp only [xput, xnew]; omega)) ?_ | assumption | exact rfl) hE.i (vp_in_nI (by omega) (by omega)) ?_
  rw [nI_clamp (by omega)]
  refine wp_iadd d_MO_way_348 ?_
  rw [show nI p + (s, oo, t, w.1.length, w.2).2.1 p = nI t1 from h2]
  refine wp_istore d_MO_way_349 (by decide) rfl ?_
  refine wp_goto (tgt := 115) d_MO_way_351 (by decide) ?_
  exact k
theorem wy_n7 (hE : xOK E) (mg : MoW E g A B w D) (hp0 : p < w.1.length) (h5 : ¬ (cIn w.1 p).1 = 7) (k : wp E 3 m_MO_way 359 (iL E fr to ht e p x true) [] g Post) : wp E 3 m_MO_way 327 (iL E fr to ht e p x true) [] g Post := by
  obtain ⟨s, o, t, hc, hl0, hm1⟩ := mg
  obtain ⟨fp, ft, fo, qq, o21, a22, a23, a24, a25, a26, a27, a28, a29, a30, a31, a32, a33, a34, a35, a36, a37, a38, a39, a40⟩ := hm1
  have h1 : s p = (cIn w.1 p).1 := by rw [← hc p hp0]
  refine wp_aload_n d_MO_way_327 rfl rfl ?_
  refine wp_get xf_MO_35 d_MO_way_328 (by repeat first | exact xg_eq | exact xn_eq (by first | rfl | omega) | refine xg_ne (by first | omega | assumption | (simp only [xput, xnew]; omega)) ?_ | refine xn_ne (by first | omega | assumption | (simp only [xput, xnew]; omega)) ?_ | assumption | exact rfl) (by rfl) ?_
  refine wp_iload d_MO_way_331 rfl ?_
  refine wp_iald d_MO_way_333 (by repeat first | exact xg_eq | exact xn_eq (by first | rfl | omega) | refine xg_ne (by first | omega | assumption | (simp only [xput, xnew]; omega)) ?_ | refine xn_ne (by first | omega | assumption | (simp only [xput, xnew]; omega)) ?_ | assumption | exact rfl) hE.i (vp_in_nI (by omega) (by omega)) ?_
  rw [nI_clamp (by omega), show (s, o, t, w.1.length, w.2).1 p = (cIn w.1 p).1 from h1]
  refine wp_bipush (v := 7) d_MO_way_334 (by rfl) ?_
  refine wp_icmp_ne (tgt := 354) d_MO_way_336 (by decide) (fun h2 => ?_) (fun h2 => ?_)
  rotate_left
  · exact absurd h2 h5
  refine wp_iload d_MO_way_354 rfl ?_
  refine wp_if_eq (tgt := 416) d_MO_way_356 (by decide) (fun h3 => ?_) (fun h3 => ?_)
  · exact absurd h3 (by decide)
  exact k
theorem wy_34 (hE : xOK E) (mg : MoW E g A B w D) (hp0 : p < w.1.length) (h3 : ¬ (cIn w.1 p).1 < 3) (hx : x ≤ 30) (k1 : (if (cIn w.1 p).1 = 3 then x = 0 else x = A.2.1.length) → wp E 3 m_MO_way 115 (iL E fr to ht e (p + 1) x true) [] g Post) (k2 : ¬ (if (cIn w.1 p).1 = 3 then x = 0 else x = A.2.1.length) → wp E 3 m_MO_way 52 (yL E fr to ht) [] g Post) : wp E 3 m_MO_way 359 (iL E fr to ht e p x true) [] g Post := by
  obtain ⟨s, oo, t, hc, hl0, hm1⟩ := mg
  have hl := hm1.len
  obtain ⟨fp, ft, fo, qq, o21, a22, a23, a24, a25, a26, a27, a28, a29, a30, a31, a32, a33, a34, a35, a36, a37, a38, a39, a40⟩ := hm1
  have h1 : s p = (cIn w.1 p).1 := by rw [← hc p hp0]
  have go1 : (if (cIn w.1 p).1 = 3 then x = 0 else x = A.2.1.length) → wp E 3 m_MO_way 408 (iL E fr to ht e p x true) [.int 1] g Post := by
    intro hh
    refine wp_istore d_MO_way_408 (by decide) rfl ?_
    refine wp_iinc d_MO_way_410 rfl rfl (by decide) rfl ?_
    refine wp_goto (tgt := 115) d_MO_way_413 (by decide) ?_
    rw [show nI p + Int32.ofInt 1 = nI (p + 1) from (nI_succ p).symm]
    exact k1 hh
  have go2 : ¬ (if (cIn w.1 p).1 = 3 then x = 0 else x = A.2.1.length) → wp E 3 m_MO_way 408 (iL E fr to ht e p x true) [.int 0] g Post := by
    intro hh
    refine wp_istore d_MO_way_408 (by decide) rfl ?_
    refine wp_iinc d_MO_way_410 rfl rfl (by decide) rfl ?_
    refine wp_goto (tgt := 115) d_MO_way_413 (by decide) ?_
    rw [show nI p + Int32.ofInt 1 = nI (p + 1) from (nI_succ p).symm]
    exact wy_out (k2 hh)
  refine wp_aload_n d_MO_way_359 rfl rfl ?_
  refine wp_get xf_MO_35 d_MO_way_360 (by repeat first | exact xg_eq | exact xn_eq (by first | rfl | omega) | refine xg_ne (by first | omega | assumption | (simp only [xput, xnew]; omega)) ?_ | refine xn_ne (by first | omega | assumption | (simp only [xput, xnew]; omega)) ?_ | assumption | exact rfl) (by rfl) ?_
  refine wp_iload d_MO_way_363 rfl ?_
  refine wp_iald d_MO_way_365 (by repeat first | exact xg_eq | exact xn_eq (by first | rfl | omega) | refine xg_ne (by first | omega | assumption | (simp only [xput, xnew]; omega)) ?_ | refine xn_ne (by first | omega | assumption | (simp only [xput, xnew]; omega)) ?_ | assumption | exact rfl) hE.i (vp_in_nI (by omega) (by omega)) ?_
  rw [nI_clamp (by omega), show (s, oo, t, w.1.length, w.2).1 p = (cIn w.1 p).1 from h1]
  refine wp_iconst (v := 3) d_MO_way_366 (by rfl) ?_
  refine wp_icmp_lt (tgt := 416) d_MO_way_367 (by decide) (fun h4 => ?_) (fun h4 => ?_)
  · exact absurd h4 h3
  refine wp_aload_n d_MO_way_370 rfl rfl ?_
  refine wp_get xf_MO_35 d_MO_way_371 (by repeat first | exact xg_eq | exact xn_eq (by first | rfl | omega) | refine xg_ne (by first | omega | assumption | (simp only [xput, xnew]; omega)) ?_ | refine xn_ne (by first | omega | assumption | (simp only [xput, xnew]; omega)) ?_ | assumption | exact rfl) (by rfl) ?_
  refine wp_iload d_MO_way_374 rfl ?_
  refine wp_iald d_MO_way_376 (by repeat first | exact xg_eq | exact xn_eq (by first | rfl | omega) | refine xg_ne (by first | omega | assumption | (simp only [xput, xnew]; omega)) ?_ | refine xn_ne (by first | omega | assumption | (simp only [xput, xnew]; omega)) ?_ | assumption | exact rfl) hE.i (vp_in_nI (by omega) (by omega)) ?_
  rw [nI_clamp (by omega), show (s, oo, t, w.1.length, w.2).1 p = (cIn w.1 p).1 from h1]
  refine wp_iconst (v := 3) d_MO_way_377 (by rfl) ?_
  refine wp_icmp_ne (tgt := 394) d_MO_way_378 (by decide) (fun h5 => ?_) (fun h5 => ?_)
  · rw [if_neg h5] at go1 go2
    refine wp_iload d_MO_way_394 rfl ?_
    refine wp_aload_n d_MO_way_396 rfl rfl ?_
    refine wp_get xf_MO_164 d_MO_way_397 (by repeat first | exact xg_eq | exact xn_eq (by first | rfl | omega) | refine xg_ne (by first | omega | assumption | (simp only [xput, xnew]; omega)) ?_ | refine xn_ne (by first | omega | assumption | (simp only [xput, xnew]; omega)) ?_ | assumption | exact rfl) (by rfl) ?_
    refine wp_icmp_ne (tgt := 407) d_MO_way_400 (by decide) (fun h6 => ?_) (fun h6 => ?_)
    · refine wp_iconst (v := 0) d_MO_way_407 (by rfl) ?_
      exact go2 (fun z => h6 (by rw [z]))
    · refine wp_iconst (v := 1) d_MO_way_403 (by rfl) ?_
      refine wp_goto (tgt := 408) d_MO_way_404 (by decide) ?_
      exact go1 ((nI_eq (by omega) (by omega)).mp h6)
  · rw [if_pos h5] at go1 go2
    refine wp_iload d_MO_way_381 rfl ?_
    refine wp_if_ne (tgt := 390) d_MO_way_383 (by decide) (fun h6 => ?_) (fun h6 => ?_)
    · refine wp_iconst (v := 0) d_MO_way_390 (by rfl) ?_
      refine wp_goto (tgt := 408) d_MO_way_391 (by decide) ?_
      exact go2 (fun z => h6 (by rw [z]; rfl))
    · refine wp_iconst (v := 1) d_MO_way_386 (by rfl) ?_
      refine wp_goto (tgt := 408) d_MO_way_387 (by decide) ?_
      exact go1 ((nI_eq (b := 0) (by omega) (by omega)).mp h6)
theorem wy_02 (hE : xOK E) (mg : MoW E g A B w D) (hp0 : p < w.1.length) (h3 : (cIn w.1 p).1 < 3) (hx : x ≤ 30) (hcl : clOK A.1 (cIn w.1 p)) (k1 : (x < A.2.1.length ∧ tkI A.1 (cIn w.1 p) (pat A.2.1 x) = true) → wp E 3 m_MO_way 115 (iL E fr to ht e (p + 1) (x + 1) true) [] g Post) (k2 : ¬ (x < A.2.1.length ∧ tkI A.1 (cIn w.1 p) (pat A.2.1 x) = true) → wp E 3 m_MO_way 52 (yL E fr to ht) [] g Post) : wp E 3 m_MO_way 359 (iL E fr to ht e p x true) [] g Post := by
  obtain ⟨s, oo, t, hc, hl0, hm1⟩ := id mg
  have hl := hm1.len
  obtain ⟨fp, ft, fo, qq, o21, a22, a23, a24, a25, a26, a27, a28, a29, a30, a31, a32, a33, a34, a35, a36, a37, a38, a39, a40⟩ := hm1
  have h1 : s p = (cIn w.1 p).1 := by rw [← hc p hp0]
  have go1 : (x < A.2.1.length ∧ tkI A.1 (cIn w.1 p) (pat A.2.1 x) = true) → wp E 3 m_MO_way 451 (iL E fr to ht e p x true) [.int 1] g Post := by
    intro hh
    refine wp_istore d_MO_way_451 (by decide) rfl ?_
    refine wp_iinc d_MO_way_453 rfl rfl (by decide) rfl ?_
    refine wp_iinc d_MO_way_456 rfl rfl (by decide) rfl ?_
    refine wp_goto (tgt := 115) d_MO_way_459 (by decide) ?_
    rw [show nI p + Int32.ofInt 1 = nI (p + 1) from (nI_succ p).symm, show nI x + Int32.ofInt 1 = nI (x + 1) from (nI_succ x).symm]
    exact k1 hh
  have go2 : ¬ (x < A.2.1.length ∧ tkI A.1 (cIn w.1 p) (pat A.2.1 x) = true) → wp E 3 m_MO_way 451 (iL E fr to ht e p x true) [.int 0] g Post := by
    intro hh
    refine wp_istore d_MO_way_451 (by decide) rfl ?_
    refine wp_iinc d_MO_way_453 rfl rfl (by decide) rfl ?_
    refine wp_iinc d_MO_way_456 rfl rfl (by decide) rfl ?_
    refine wp_goto (tgt := 115) d_MO_way_459 (by decide) ?_
    rw [show nI p + Int32.ofInt 1 = nI (p + 1) from (nI_succ p).symm, show nI x + Int32.ofInt 1 = nI (x + 1) from (nI_succ x).symm]
    exact wy_out (k2 hh)
  refine wp_aload_n d_MO_way_359 rfl rfl ?_
  refine wp_get xf_MO_35 d_MO_way_360 (by repeat first | exact xg_eq | exact xn_eq (by first | rfl | omega) | refine xg_ne (by first | omega | assumption | (simp only [xput, xnew]; omega)) ?_ | refine xn_ne (by first | omega | assumption | (simp only [xput, xnew]; omega)) ?_ | assumption | exact rfl) (by rfl) ?_
  refine wp_iload d_MO_way_363 rfl ?_
  refine wp_iald d_MO_way_365 (by repeat first | exact xg_eq | exact xn_eq (by first | rfl | omega) | refine xg_ne (by first | omega | assumption | (simp only [xput, xnew]; omega)) ?_ | refine xn_ne (by first | omega | assumption | (simp only [xput, xnew]; omega)) ?_ | assumption | exact rfl) hE.i (vp_in_nI (by omega) (by omega)) ?_
  rw [nI_clamp (by omega), show (s, oo, t, w.1.length, w.2).1 p = (cIn w.1 p).1 from h1]
  refine wp_iconst (v := 3) d_MO_way_366 (by rfl) ?_
  refine wp_icmp_lt (tgt := 416) d_MO_way_367 (by decide) (fun h4 => ?_) (fun h4 => ?_)
  rotate_left
  · exact absurd h3 h4
  refine wp_iload d_MO_way_416 rfl ?_
  refine wp_if_eq (tgt := 115) d_MO_way_418 (by decide) (fun h5 => ?_) (fun h5 => ?_)
  · exact absurd h5 (by decide)
  refine wp_iload d_MO_way_421 rfl ?_
  refine wp_aload_n d_MO_way_423 rfl rfl ?_
  refine wp_get xf_MO_164 d_MO_way_424 (by repeat first | exact xg_eq | exact xn_eq (by first | rfl | omega) | refine xg_ne (by first | omega | assumption | (simp only [xput, xnew]; omega)) ?_ | refine xn_ne (by first | omega | assumption | (simp only [xput, xnew]; omega)) ?_ | assumption | exact rfl) (by rfl) ?_
  refine wp_icmp_ge (tgt := 450) d_MO_way_427 (by decide) (fun h6 => ?_) (fun h6 => ?_)
  · refine wp_iconst (v := 0) d_MO_way_450 (by rfl) ?_
    exact go2 (fun z => absurd ((nI_leI (by omega) (by omega)).mp h6) (by omega))
  have h6 : ¬ A.2.1.length ≤ x := fun z => h6 ((nI_leI (by omega) (by omega)).mpr z)
  refine wp_aload_n d_MO_way_430 rfl rfl ?_
  refine wp_iload d_MO_way_431 rfl ?_
  refine wp_aload_n d_MO_way_433 rfl rfl ?_
  refine wp_get xf_MO_13 d_MO_way_434 (by repeat first | exact xg_eq | exact xn_eq (by first | rfl | omega) | refine xg_ne (by first | omega | assumption | (simp only [xput, xnew]; omega)) ?_ | refine xn_ne (by first | omega | assumption | (simp only [xput, xnew]; omega)) ?_ | assumption | exact rfl) (by rfl) ?_
  refine wp_iload d_MO_way_437 rfl ?_
  refine wp_iald d_MO_way_439 (by repeat first | exact xg_eq | exact xn_eq (by first | rfl | omega) | refine xg_ne (by first | omega | assumption | (simp only [xput, xnew]; omega)) ?_ | refine xn_ne (by first | omega | assumption | (simp only [xput, xnew]; omega)) ?_ | assumption | exact rfl) hE.i (vp_in_nI (by omega) (by omega)) ?_
  rw [nI_clamp (by omega), qq.2.1 x (by omega)]
  refine wp_callV2 xc_MO_167 d_MO_way_440 (Nat.le_of_ble_eq_true rfl) (by repeat first | exact xg_eq | exact xn_eq (by first | rfl | omega) | refine xg_ne (by first | omega | assumption | (simp only [xput, xnew]; omega)) ?_ | refine xn_ne (by first | omega | assumption | (simp only [xput, xnew]; omega)) ?_ | assumption | exact rfl) (c_MO_takes hE mg hp0 (pat A.2.1 x) hcl) (by omega) (fun r hh hp => ?_)
  obtain ⟨rfl, hz0⟩ := hp; have hz0 := hz0.symm; subst hz0
  refine wp_if_eq (tgt := 450) d_MO_way_443 (by decide) (fun h7 => ?_) (fun h7 => ?_)
  · refine wp_iconst (v := 0) d_MO_way_450 (by rfl) ?_
    exact go2 (fun z => by rw [bI_0.mp h7] at z; exact absurd z.2 (by decide))
  · refine wp_iconst (v := 1) d_MO_way_446 (by rfl) ?_
    refine wp_goto (tgt := 451) d_MO_way_447 (by decide) ?_
    exact go1 ⟨by omega, b_t (fun z => h7 (bI_0.mpr z))⟩
end M11
