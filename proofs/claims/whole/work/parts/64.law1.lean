section LW
variable {E : xE} {b L : Nat} {xs : Nat → Int32}
abbrev lwL (E : xE) (b i : Nat) : List (Nat × Value) := [(0, .ref b), (1, .ref (xb E)), (2, .ref (xb E + 21)), (3, .int (nI i))]
def xScr (E : xE) (b L : Nat) (xs : Nat → Int32) : Prop := va_X b L xs E.1 E.1.heap ∧ b < xb E
theorem wp_sld {d : Nat} {M : xM} {pc : Nat} {lo : List (Nat × Value)} {st : List Value} {h : xH} {P : Option Value → xH → Prop} {x : Int32} {k : Nat} (hX : xScr E b L xs) (hx : x = nI k) (hk : k < L) (hL : L < 2 ^ 31) (hd : decode M.2.1 pc = .ok (.iaload, 1)) (kk : wp E d M (pc + 1) lo (.int (xs k) :: st) h P) : wp E d M pc lo (.int x :: .ref b :: st) h P := by
  refine wp_go (fun p l e R s m args below meth c Q cells slots H locs ls C _ _ hR hl kk => ?_) kk
  obtain ⟨scr, h1, h2, h3, h4, h5⟩ := va_X.moved C.2.2.2.2.2.2.1.2.1.alike hX.1
  subst hx
  refine W.iald (v := .int (xs k)) C.1 C.2.1 (by rw [hR.2.2 b hX.2]; exact h1) h2 h3 (by rw [h4]; exact nI_in hk hL) (by rw [nI_clamp (by omega)]; exact h5 k hk) rfl rfl hd (kk ls hl)
theorem wp_slen {d : Nat} {M : xM} {pc : Nat} {lo : List (Nat × Value)} {st : List Value} {h : xH} {P : Option Value → xH → Prop} (hX : xScr E b L xs) (hd : decode M.2.1 pc = .ok (.arraylength, 1)) (kk : wp E d M (pc + 1) lo (.int (nI L) :: st) h P) : wp E d M pc lo (.ref b :: st) h P := by
  refine wp_go (fun p l e R s m args below meth c Q cells slots H locs ls C _ _ hR hl kk => ?_) kk
  obtain ⟨scr, h1, h2, h3, h4, h5⟩ := va_X.moved C.2.2.2.2.2.2.1.2.1.alike hX.1
  exact W.alen (n := Int32.ofNat L) C.1 C.2.1 (by rw [hR.2.2 b hX.2]; exact h1) h2 (by rw [h4] <;> rfl) rfl rfl hd (kk ls hl)
def lwK (E : xE) (b i : Nat) (h : xH) (P : Option Value → xH → Prop) : Prop := ∀ h2, Jt E h2 → cO E h2 → h2.1 ≤ h.1 + 115 → h2.2.1 ≤ h.2.1 + 690 → wp E 46 m_law 385 (lwL E b i) [] h2 P
variable {i : Nat} {h : xH} {P : Option Value → xH → Prop}
theorem lwK.go {h1 h2 : xH} (hk : lwK E b i h P) (b1 : bnd 115 h h1) (b2 : bnd 0 h1 h2) (hJ : Jt E h2 ∧ cO E h2) : wp E 46 m_law 385 (lwL E b i) [] h2 P :=
  hk h2 hJ.1 hJ.2 (by have := b1.2.1; have := b2.2.1; omega) (by have := b1.2.2.2; have := b2.2.2.2; omega)
theorem lw_pattern (hE : xOK E) (hX : xScr E b L xs) (hL : L ≤ 1536) (hi : i + 3 ≤ L) (hJ : Jt E h) (hc : cO E h) (hk : lwK E b i h P) : wp E 46 m_law 100 (lwL E b i) [] h P := by
  obtain ⟨fs, hc⟩ := hc
  refine wp_aload_n d_law_100 rfl rfl ?_
  refine wp_aload_n d_law_101 rfl rfl ?_
  refine wp_iload_n d_law_102 rfl rfl ?_
  refine wp_iconst (v := 1) d_law_103 (by rfl) ?_
  refine wp_iadd d_law_104 ?_
  refine wp_sld (k := i + 1) hX (nI_1 i) (by omega) (by omega) d_law_105 ?_
  refine wp_callV1 xc_LA_13 d_law_106 (Nat.le_of_ble_eq_true rfl) hc (j_pattern hE hJ (xs (i + 1))) (by omega) (fun r h1 hp => ?_)
  obtain ⟨v, rfl, b1, ⟨fs2, hm⟩, hw⟩ := hp
  refine wp_aload_n d_law_109 rfl rfl ?_
  refine wp_aload_n d_law_110 rfl rfl ?_
  refine wp_iload_n d_law_111 rfl rfl ?_
  refine wp_iconst (v := 1) d_law_112 (by rfl) ?_
  refine wp_iadd d_law_113 ?_
  refine wp_sld (k := i + 1) hX (nI_1 i) (by omega) (by omega) d_law_114 ?_
  refine wp_callV1 xc_LA_17 d_law_115 (Nat.le_of_ble_eq_true rfl) hm hw (by omega) (fun r2 h2 hp2 => ?_)
  obtain ⟨rfl, b2, hJ2⟩ := hp2
  refine wp_icmp_eq (tgt := 385) d_law_118 (by decide) (fun _ => hk.go b1 b2 hJ2) (fun hn => absurd rfl hn)
theorem lw_newPattern (hE : xOK E) (hX : xScr E b L xs) (hL : L ≤ 1536) (hi : i + 3 ≤ L) (hJ : Jt E h) (hc : cO E h) (hk : lwK E b i h P) : wp E 46 m_law 123 (lwL E b i) [] h P := by
  obtain ⟨fs, hc⟩ := hc
  refine wp_aload_n d_law_123 rfl rfl ?_
  refine wp_callV0 xc_LA_18 d_law_124 (Nat.le_of_ble_eq_true rfl) hc (j_newPattern hE hJ) (by omega) (fun r h1 hp => ?_)
  obtain ⟨v, rfl, b1, ⟨fs2, hm⟩, hw⟩ := hp
  refine wp_aload_n d_law_127 rfl rfl ?_
  refine wp_callV0 xc_LA_22 d_law_128 (Nat.le_of_ble_eq_true rfl) hm hw (by omega) (fun r2 h2 hp2 => ?_)
  obtain ⟨rfl, b2, hJ2⟩ := hp2
  refine wp_icmp_eq (tgt := 385) d_law_131 (by decide) (fun _ => hk.go b1 b2 hJ2) (fun hn => absurd rfl hn)
theorem lw_compile (hE : xOK E) {kA kV : Nat → Nat} (hX2 : xStr E kA kV) (hX : xScr E b L xs) (hL : L ≤ 1536) (hi : i + 3 ≤ L) (hJ : Jt E h) (hc : cO E h) (hk : lwK E b i h P) : wp E 46 m_law 136 (lwL E b i) [] h P := by
  obtain ⟨fs, hc⟩ := hc
  refine wp_aload_n d_law_136 rfl rfl ?_
  refine wp_callV0 xc_LA_23 d_law_137 (Nat.le_of_ble_eq_true rfl) hc (j_compile hE hX2 hJ) (by omega) (fun r h1 hp => ?_)
  obtain ⟨v, rfl, b1, ⟨fs2, hm⟩, hw⟩ := hp
  refine wp_aload_n d_law_140 rfl rfl ?_
  refine wp_callV0 xc_LA_26 d_law_141 (Nat.le_of_ble_eq_true rfl) hm hw (by omega) (fun r2 h2 hp2 => ?_)
  obtain ⟨rfl, b2, hJ2⟩ := hp2
  refine wp_icmp_eq (tgt := 385) d_law_144 (by decide) (fun _ => hk.go b1 b2 hJ2) (fun hn => absurd rfl hn)
theorem lw_fault (hE : xOK E) {kA kV : Nat → Nat} (hX2 : xStr E kA kV) (hX : xScr E b L xs) (hL : L ≤ 1536) (hi : i + 3 ≤ L) (hJ : Jt E h) (hc : cO E h) (hk : lwK E b i h P) : wp E 46 m_law 149 (lwL E b i) [] h P := by
  obtain ⟨fs, hc⟩ := hc
  refine wp_aload_n d_law_149 rfl rfl ?_
  refine wp_callV0 xc_LA_27 d_law_150 (Nat.le_of_ble_eq_true rfl) hc (j_fault hE hX2 hJ) (by omega) (fun r h1 hp => ?_)
  obtain ⟨v, rfl, b1, ⟨fs2, hm⟩, hw⟩ := hp
  refine wp_aload_n d_law_153 rfl rfl ?_
  refine wp_callV0 xc_LA_30 d_law_154 (Nat.le_of_ble_eq_true rfl) hm hw (by omega) (fun r2 h2 hp2 => ?_)
  obtain ⟨rfl, b2, hJ2⟩ := hp2
  refine wp_icmp_eq (tgt := 385) d_law_157 (by decide) (fun _ => hk.go b1 b2 hJ2) (fun hn => absurd rfl hn)
theorem lw_text (hE : xOK E) (hX : xScr E b L xs) (hL : L ≤ 1536) (hi : i + 3 ≤ L) (hJ : Jt E h) (hc : cO E h) (hk : lwK E b i h P) : wp E 46 m_law 162 (lwL E b i) [] h P := by
  obtain ⟨fs, hc⟩ := hc
  refine wp_aload_n d_law_162 rfl rfl ?_
  refine wp_aload_n d_law_163 rfl rfl ?_
  refine wp_iload_n d_law_164 rfl rfl ?_
  refine wp_iconst (v := 1) d_law_165 (by rfl) ?_
  refine wp_iadd d_law_166 ?_
  refine wp_sld (k := i + 1) hX (nI_1 i) (by omega) (by omega) d_law_167 ?_
  refine wp_callV1 xc_LA_31 d_law_168 (Nat.le_of_ble_eq_true rfl) hc (j_text hE hJ (xs (i + 1))) (by omega) (fun r h1 hp => ?_)
  obtain ⟨v, rfl, b1, ⟨fs2, hm⟩, hw⟩ := hp
  refine wp_aload_n d_law_171 rfl rfl ?_
  refine wp_aload_n d_law_172 rfl rfl ?_
  refine wp_iload_n d_law_173 rfl rfl ?_
  refine wp_iconst (v := 1) d_law_174 (by rfl) ?_
  refine wp_iadd d_law_175 ?_
  refine wp_sld (k := i + 1) hX (nI_1 i) (by omega) (by omega) d_law_176 ?_
  refine wp_callV1 xc_LA_34 d_law_177 (Nat.le_of_ble_eq_true rfl) hm hw (by omega) (fun r2 h2 hp2 => ?_)
  obtain ⟨rfl, b2, hJ2⟩ := hp2
  refine wp_icmp_eq (tgt := 385) d_law_180 (by decide) (fun _ => hk.go b1 b2 hJ2) (fun hn => absurd rfl hn)
theorem lw_newText (hE : xOK E) (hX : xScr E b L xs) (hL : L ≤ 1536) (hi : i + 3 ≤ L) (hJ : Jt E h) (hc : cO E h) (hk : lwK E b i h P) : wp E 46 m_law 185 (lwL E b i) [] h P := by
  obtain ⟨fs, hc⟩ := hc
  refine wp_aload_n d_law_185 rfl rfl ?_
  refine wp_callV0 xc_LA_35 d_law_186 (Nat.le_of_ble_eq_true rfl) hc (j_newText hE hJ) (by omega) (fun r h1 hp => ?_)
  obtain ⟨v, rfl, b1, ⟨fs2, hm⟩, hw⟩ := hp
  refine wp_aload_n d_law_189 rfl rfl ?_
  refine wp_callV0 xc_LA_38 d_law_190 (Nat.le_of_ble_eq_true rfl) hm hw (by omega) (fun r2 h2 hp2 => ?_)
  obtain ⟨rfl, b2, hJ2⟩ := hp2
  refine wp_icmp_eq (tgt := 385) d_law_193 (by decide) (fun _ => hk.go b1 b2 hJ2) (fun hn => absurd rfl hn)
theorem lw_find (hE : xOK E) (hX : xScr E b L xs) (hL : L ≤ 1536) (hi : i + 3 ≤ L) (hJ : Jt E h) (hc : cO E h) (hk : lwK E b i h P) : wp E 46 m_law 198 (lwL E b i) [] h P := by
  obtain ⟨fs, hc⟩ := hc
  refine wp_aload_n d_law_198 rfl rfl ?_
  refine wp_aload_n d_law_199 rfl rfl ?_
  refine wp_iload_n d_law_200 rfl rfl ?_
  refine wp_iconst (v := 1) d_law_201 (by rfl) ?_
  refine wp_iadd d_law_202 ?_
  refine wp_sld (k := i + 1) hX (nI_1 i) (by omega) (by omega) d_law_203 ?_
  refine wp_callV1 xc_LA_39 d_law_204 (Nat.le_of_ble_eq_true rfl) hc (j_find hE hJ (xs (i + 1))) (by omega) (fun r h1 hp => ?_)
  obtain ⟨v, rfl, b1, ⟨fs2, hm⟩, hw⟩ := hp
  refine wp_aload_n d_law_207 rfl rfl ?_
  refine wp_aload_n d_law_208 rfl rfl ?_
  refine wp_iload_n d_law_209 rfl rfl ?_
  refine wp_iconst (v := 1) d_law_210 (by rfl) ?_
  refine wp_iadd d_law_211 ?_
  refine wp_sld (k := i + 1) hX (nI_1 i) (by omega) (by omega) d_law_212 ?_
  refine wp_callV1 xc_LA_42 d_law_213 (Nat.le_of_ble_eq_true rfl) hm hw (by omega) (fun r2 h2 hp2 => ?_)
  obtain ⟨rfl, b2, hJ2⟩ := hp2
  refine wp_icmp_eq (tgt := 385) d_law_216 (by decide) (fun _ => hk.go b1 b2 hJ2) (fun hn => absurd rfl hn)
theorem lw_group (hE : xOK E) (hX : xScr E b L xs) (hL : L ≤ 1536) (hi : i + 3 ≤ L) (hJ : Jt E h) (hc : cO E h) (hk : lwK E b i h P) : wp E 46 m_law 221 (lwL E b i) [] h P := by
  obtain ⟨fs, hc⟩ := hc
  refine wp_aload_n d_law_221 rfl rfl ?_
  refine wp_aload_n d_law_222 rfl rfl ?_
  refine wp_iload_n d_law_223 rfl rfl ?_
  refine wp_iconst (v := 1) d_law_224 (by rfl) ?_
  refine wp_iadd d_law_225 ?_
  refine wp_sld (k := i + 1) hX (nI_1 i) (by omega) (by omega) d_law_226 ?_
  refine wp_aload_n d_law_227 rfl rfl ?_
  refine wp_iload_n d_law_228 rfl rfl ?_
  refine wp_iconst (v := 2) d_law_229 (by rfl) ?_
  refine wp_iadd d_law_230 ?_
  refine wp_sld (k := i + 2) hX (nI_add i 2) (by omega) (by omega) d_law_231 ?_
  refine wp_if_eq (tgt := 239) d_law_232 (by decide) (fun he => ?_) (fun he => ?_)
  · refine wp_iconst (v := 0) d_law_239 (by rfl) ?_
    refine wp_callV2 xc_LA_43 d_law_240 (Nat.le_of_ble_eq_true rfl) hc (j_group hE hJ (xs (i + 1)) false) (by omega) (fun r h1 hp => ?_)
    obtain ⟨v, rfl, b1, ⟨fs2, hm⟩, hw⟩ := hp
    refine wp_aload_n d_law_243 rfl rfl ?_
    refine wp_aload_n d_law_244 rfl rfl ?_
    refine wp_iload_n d_law_245 rfl rfl ?_
    refine wp_iconst (v := 1) d_law_246 (by rfl) ?_
    refine wp_iadd d_law_247 ?_
    refine wp_sld (k := i + 1) hX (nI_1 i) (by omega) (by omega) d_law_248 ?_
    refine wp_aload_n d_law_249 rfl rfl ?_
    refine wp_iload_n d_law_250 rfl rfl ?_
    refine wp_iconst (v := 2) d_law_251 (by rfl) ?_
    refine wp_iadd d_law_252 ?_
    refine wp_sld (k := i + 2) hX (nI_add i 2) (by omega) (by omega) d_law_253 ?_
    refine wp_if_eq (tgt := 261) d_law_254 (by decide) (fun he2 => ?_) (fun he2 => ?_)
    · refine wp_iconst (v := 0) d_law_261 (by rfl) ?_
      refine wp_callV2 xc_LA_47 d_law_262 (Nat.le_of_ble_eq_true rfl) hm hw (by omega) (fun r2 h2 hp2 => ?_)
      obtain ⟨rfl, b2, hJ2⟩ := hp2
      refine wp_icmp_eq (tgt := 385) d_law_265 (by decide) (fun _ => hk.go b1 b2 hJ2) (fun hn => absurd rfl hn)
    · exact absurd he he2
  · refine wp_iconst (v := 1) d_law_235 (by rfl) ?_
    refine wp_goto (tgt := 240) d_law_236 (by decide) ?_
    refine wp_callV2 xc_LA_43 d_law_240 (Nat.le_of_ble_eq_true rfl) hc (j_group hE hJ (xs (i + 1)) true) (by omega) (fun r h1 hp => ?_)
    obtain ⟨v, rfl, b1, ⟨fs2, hm⟩, hw⟩ := hp
    refine wp_aload_n d_law_243 rfl rfl ?_
    refine wp_aload_n d_law_244 rfl rfl ?_
    refine wp_iload_n d_law_245 rfl rfl ?_
    refine wp_iconst (v := 1) d_law_246 (by rfl) ?_
    refine wp_iadd d_law_247 ?_
    refine wp_sld (k := i + 1) hX (nI_1 i) (by omega) (by omega) d_law_248 ?_
    refine wp_aload_n d_law_249 rfl rfl ?_
    refine wp_iload_n d_law_250 rfl rfl ?_
    refine wp_iconst (v := 2) d_law_251 (by rfl) ?_
    refine wp_iadd d_law_252 ?_
    refine wp_sld (k := i + 2) hX (nI_add i 2) (by omega) (by omega) d_law_253 ?_
    refine wp_if_eq (tgt := 261) d_law_254 (by decide) (fun he2 => ?_) (fun he2 => ?_)
    · exact absurd he2 he
    · refine wp_iconst (v := 1) d_law_257 (by rfl) ?_
      refine wp_goto (tgt := 262) d_law_258 (by decide) ?_
      refine wp_callV2 xc_LA_47 d_law_262 (Nat.le_of_ble_eq_true rfl) hm hw (by omega) (fun r2 h2 hp2 => ?_)
      obtain ⟨rfl, b2, hJ2⟩ := hp2
      refine wp_icmp_eq (tgt := 385) d_law_265 (by decide) (fun _ => hk.go b1 b2 hJ2) (fun hn => absurd rfl hn)
theorem lw_whole (hE : xOK E) (hX : xScr E b L xs) (hL : L ≤ 1536) (hi : i + 3 ≤ L) (hJ : Jt E h) (hc : cO E h) (hk : lwK E b i h P) : wp E 46 m_law 270 (lwL E b i) [] h P := by
  obtain ⟨fs, hc⟩ := hc
  refine wp_aload_n d_law_270 rfl rfl ?_
  refine wp_aload_n d_law_271 rfl rfl ?_
  refine wp_iload_n d_law_272 rfl rfl ?_
  refine wp_iconst (v := 1) d_law_273 (by rfl) ?_
  refine wp_iadd d_law_274 ?_
  refine wp_sld (k := i + 1) hX (nI_1 i) (by omega) (by omega) d_law_275 ?_
  refine wp_aload_n d_law_276 rfl rfl ?_
  refine wp_iload_n d_law_277 rfl rfl ?_
  refine wp_iconst (v := 2) d_law_278 (by rfl) ?_
  refine wp_iadd d_law_279 ?_
  refine wp_sld (k := i + 2) hX (nI_add i 2) (by omega) (by omega) d_law_280 ?_
  refine wp_callV2 xc_LA_48 d_law_281 (Nat.le_of_ble_eq_true rfl) hc (j_whole hE hJ (xs (i + 1)) (xs (i + 2))) (by omega) (fun r h1 hp => ?_)
  obtain ⟨v, rfl, b1, ⟨fs2, hm⟩, hw⟩ := hp
  refine wp_aload_n d_law_284 rfl rfl ?_
  refine wp_aload_n d_law_285 rfl rfl ?_
  refine wp_iload_n d_law_286 rfl rfl ?_
  refine wp_iconst (v := 1) d_law_287 (by rfl) ?_
  refine wp_iadd d_law_288 ?_
  refine wp_sld (k := i + 1) hX (nI_1 i) (by omega) (by omega) d_law_289 ?_
  refine wp_aload_n d_law_290 rfl rfl ?_
  refine wp_iload_n d_law_291 rfl rfl ?_
  refine wp_iconst (v := 2) d_law_292 (by rfl) ?_
  refine wp_iadd d_law_293 ?_
  refine wp_sld (k := i + 2) hX (nI_add i 2) (by omega) (by omega) d_law_294 ?_
  refine wp_callV2 xc_LA_52 d_law_295 (Nat.le_of_ble_eq_true rfl) hm hw (by omega) (fun r2 h2 hp2 => ?_)
  obtain ⟨rfl, b2, hJ2⟩ := hp2
  refine wp_icmp_eq (tgt := 385) d_law_298 (by decide) (fun _ => hk.go b1 b2 hJ2) (fun hn => absurd rfl hn)
theorem lw_matches (hE : xOK E) (hX : xScr E b L xs) (hL : L ≤ 1536) (hi : i + 3 ≤ L) (hJ : Jt E h) (hc : cO E h) (hk : lwK E b i h P) : wp E 46 m_law 303 (lwL E b i) [] h P := by
  obtain ⟨fs, hc⟩ := hc
  refine wp_aload_n d_law_303 rfl rfl ?_
  refine wp_callV0 xc_LA_53 d_law_304 (Nat.le_of_ble_eq_true rfl) hc (j_matches hE hJ) (by omega) (fun r h1 hp => ?_)
  obtain ⟨v, rfl, b1, ⟨fs2, hm⟩, hw⟩ := hp
  refine wp_aload_n d_law_307 rfl rfl ?_
  refine wp_callV0 xc_LA_56 d_law_308 (Nat.le_of_ble_eq_true rfl) hm hw (by omega) (fun r2 h2 hp2 => ?_)
  obtain ⟨rfl, b2, hJ2⟩ := hp2
  refine wp_icmp_eq (tgt := 385) d_law_311 (by decide) (fun _ => hk.go b1 b2 hJ2) (fun hn => absurd rfl hn)
theorem lw_replace (hE : xOK E) (hX : xScr E b L xs) (hL : L ≤ 1536) (hi : i + 3 ≤ L) (hJ : Jt E h) (hc : cO E h) (hk : lwK E b i h P) : wp E 46 m_law 316 (lwL E b i) [] h P := by
  obtain ⟨fs, hc⟩ := hc
  refine wp_aload_n d_law_316 rfl rfl ?_
  refine wp_aload_n d_law_317 rfl rfl ?_
  refine wp_iload_n d_law_318 rfl rfl ?_
  refine wp_iconst (v := 1) d_law_319 (by rfl) ?_
  refine wp_iadd d_law_320 ?_
  refine wp_sld (k := i + 1) hX (nI_1 i) (by omega) (by omega) d_law_321 ?_
  refine wp_callV1 xc_LA_57 d_law_322 (Nat.le_of_ble_eq_true rfl) hc (j_replace hE hJ (xs (i + 1))) (by omega) (fun r h1 hp => ?_)
  obtain ⟨v, rfl, b1, ⟨fs2, hm⟩, hw⟩ := hp
  refine wp_aload_n d_law_325 rfl rfl ?_
  refine wp_aload_n d_law_326 rfl rfl ?_
  refine wp_iload_n d_law_327 rfl rfl ?_
  refine wp_iconst (v := 1) d_law_328 (by rfl) ?_
  refine wp_iadd d_law_329 ?_
  refine wp_sld (k := i + 1) hX (nI_1 i) (by omega) (by omega) d_law_330 ?_
  refine wp_callV1 xc_LA_60 d_law_331 (Nat.le_of_ble_eq_true rfl) hm hw (by omega) (fun r2 h2 hp2 => ?_)
  obtain ⟨rfl, b2, hJ2⟩ := hp2
  refine wp_icmp_eq (tgt := 385) d_law_334 (by decide) (fun _ => hk.go b1 b2 hJ2) (fun hn => absurd rfl hn)
theorem lw_output (hE : xOK E) (hX : xScr E b L xs) (hL : L ≤ 1536) (hi : i + 3 ≤ L) (hJ : Jt E h) (hc : cO E h) (hk : lwK E b i h P) : wp E 46 m_law 339 (lwL E b i) [] h P := by
  obtain ⟨fs, hc⟩ := hc
  refine wp_aload_n d_law_339 rfl rfl ?_
  refine wp_aload_n d_law_340 rfl rfl ?_
  refine wp_iload_n d_law_341 rfl rfl ?_
  refine wp_iconst (v := 1) d_law_342 (by rfl) ?_
  refine wp_iadd d_law_343 ?_
  refine wp_sld (k := i + 1) hX (nI_1 i) (by omega) (by omega) d_law_344 ?_
  refine wp_callV1 xc_LA_61 d_law_345 (Nat.le_of_ble_eq_true rfl) hc (j_output hE hJ (xs (i + 1))) (by omega) (fun r h1 hp => ?_)
  obtain ⟨v, rfl, b1, ⟨fs2, hm⟩, hw⟩ := hp
  refine wp_aload_n d_law_348 rfl rfl ?_
  refine wp_aload_n d_law_349 rfl rfl ?_
  refine wp_iload_n d_law_350 rfl rfl ?_
  refine wp_iconst (v := 1) d_law_351 (by rfl) ?_
  refine wp_iadd d_law_352 ?_
  refine wp_sld (k := i + 1) hX (nI_1 i) (by omega) (by omega) d_law_353 ?_
  refine wp_callV1 xc_LA_64 d_law_354 (Nat.le_of_ble_eq_true rfl) hm hw (by omega) (fun r2 h2 hp2 => ?_)
  obtain ⟨rfl, b2, hJ2⟩ := hp2
  refine wp_icmp_eq (tgt := 385) d_law_357 (by decide) (fun _ => hk.go b1 b2 hJ2) (fun hn => absurd rfl hn)
theorem lw_state (hE : xOK E) (hX : xScr E b L xs) (hL : L ≤ 1536) (hi : i + 3 ≤ L) (hJ : Jt E h) (hc : cO E h) (hk : lwK E b i h P) : wp E 46 m_law 362 (lwL E b i) [] h P := by
  obtain ⟨fs, hc⟩ := hc
  refine wp_aload_n d_law_362 rfl rfl ?_
  refine wp_aload_n d_law_363 rfl rfl ?_
  refine wp_iload_n d_law_364 rfl rfl ?_
  refine wp_iconst (v := 1) d_law_365 (by rfl) ?_
  refine wp_iadd d_law_366 ?_
  refine wp_sld (k := i + 1) hX (nI_1 i) (by omega) (by omega) d_law_367 ?_
  refine wp_callV1 xc_LA_65 d_law_368 (Nat.le_of_ble_eq_true rfl) hc (j_state hE hJ (xs (i + 1))) (by omega) (fun r h1 hp => ?_)
  obtain ⟨v, rfl, b1, ⟨fs2, hm⟩, hw⟩ := hp
  refine wp_aload_n d_law_371 rfl rfl ?_
  refine wp_aload_n d_law_372 rfl rfl ?_
  refine wp_iload_n d_law_373 rfl rfl ?_
  refine wp_iconst (v := 1) d_law_374 (by rfl) ?_
  refine wp_iadd d_law_375 ?_
  refine wp_sld (k := i + 1) hX (nI_1 i) (by omega) (by omega) d_law_376 ?_
  refine wp_callV1 xc_LA_68 d_law_377 (Nat.le_of_ble_eq_true rfl) hm hw (by omega) (fun r2 h2 hp2 => ?_)
  obtain ⟨rfl, b2, hJ2⟩ := hp2
  refine wp_icmp_eq (tgt := 385) d_law_380 (by decide) (fun _ => hk.go b1 b2 hJ2) (fun hn => absurd rfl hn)
theorem lw_loop (hE : xOK E) {kA kV : Nat → Nat} (hX2 : xStr E kA kV) (hX : xScr E b L xs) (hL : L ≤ 1536) : ∀ (n i : Nat) (h : xH), i ≤ L + 3 → L ≤ i + 3 * n + 2 → Jt E h → cO E h → wp E 46 m_law 18 (lwL E b i) [] h (fun r h' => r = some (.int 1) ∧ h'.1 ≤ h.1 + 115 * n ∧ h'.2.1 ≤ h.2.1 + 690 * n) := by
  intro n
  induction n with
  | zero =>
    intro i h hi hn hJ hc
    refine wp_iload_n d_law_18 rfl rfl ?_
    refine wp_aload_n d_law_19 rfl rfl ?_
    refine wp_slen hX d_law_20 ?_
    refine wp_iconst (v := 3) d_law_21 (by rfl) ?_
    refine wp_isub d_law_22 ?_
    refine wp_icmp_gt (tgt := 391) d_law_23 (by decide) (fun hg => ?_) (fun hg => ?_)
    · refine wp_iconst (v := 1) d_law_391 (by rfl) ?_
      refine wp_ireturn d_law_392 rfl (by first | rfl | assumption) ?_
      exact ⟨rfl, Nat.le_refl _, Nat.le_refl _⟩
    · exfalso
      refine hg ?_
      by_cases h3 : L < 3
      · exact Int32.lt_of_lt_of_le (pk_sneg (b := 3) (by decide) h3) (nI_pos' (by omega))
      · rw [show nI L - 3 = nI (L - 3) from pk_sub (b := 3) (by omega)]
        exact nI_lt (by omega) (by omega)
  | succ n ih =>
    intro i h hi hn hJ hc
    refine wp_iload_n d_law_18 rfl rfl ?_
    refine wp_aload_n d_law_19 rfl rfl ?_
    refine wp_slen hX d_law_20 ?_
    refine wp_iconst (v := 3) d_law_21 (by rfl) ?_
    refine wp_isub d_law_22 ?_
    refine wp_icmp_gt (tgt := 391) d_law_23 (by decide) (fun hg => ?_) (fun hg => ?_)
    · refine wp_iconst (v := 1) d_law_391 (by rfl) ?_
      refine wp_ireturn d_law_392 rfl (by first | rfl | assumption) ?_
      exact ⟨rfl, by omega, by omega⟩
    · have hi3 : i + 3 ≤ L := by
        by_cases h3 : L < 3
        · exact absurd (Int32.lt_of_lt_of_le (pk_sneg (b := 3) (by decide) h3) (nI_pos' (by omega))) hg
        · rw [show nI L - 3 = nI (L - 3) from pk_sub (b := 3) (by omega)] at hg
          rcases Nat.lt_or_ge (L - 3) i with z | z
          · exact absurd (nI_lt z (by omega)) hg
          · omega
      have hk : lwK E b i h (fun r h' => r = some (.int 1) ∧ h'.1 ≤ h.1 + 115 * (n + 1) ∧ h'.2.1 ≤ h.2.1 + 690 * (n + 1)) := by
        intro h2 hJ2 hc2 z1 z2
        refine wp_iinc (v := nI (i + 3)) d_law_385 rfl (nI_add i 3) (by decide) rfl ?_
        refine wp_goto (tgt := 18) d_law_388 (by decide) ?_
        refine (ih (i + 3) h2 (by omega) (by omega) hJ2 hc2).mono (fun r h' hp => ?_)
        obtain ⟨p1, p2, p3⟩ := hp
        exact ⟨p1, by omega, by omega⟩
      refine wp_aload_n d_law_26 rfl rfl ?_
      refine wp_iload_n d_law_27 rfl rfl ?_
      refine wp_sld (k := i) hX rfl (by omega) (by omega) d_law_28 ?_
      refine wp_bipush (v := 15) d_law_29 (by rfl) ?_
      refine wp_iand d_law_31 ?_
      obtain ⟨j, hj, e⟩ := pk_andE (xs i) (m := 15) 4 (by decide)
      rw [e]
      have hj : j < 16 := hj
      by_cases hj0 : j = 0
      · subst hj0
        refine wp_tableIn (tgt := 100) (off := 68) d_law_32 (by decide) (by decide) (by rfl) (by decide) ?_
        exact lw_pattern hE hX hL hi3 hJ hc hk
      by_cases hj1 : j = 1
      · subst hj1
        refine wp_tableIn (tgt := 123) (off := 91) d_law_32 (by decide) (by decide) (by rfl) (by decide) ?_
        exact lw_newPattern hE hX hL hi3 hJ hc hk
      by_cases hj2 : j = 2
      · subst hj2
        refine wp_tableIn (tgt := 136) (off := 104) d_law_32 (by decide) (by decide) (by rfl) (by decide) ?_
        exact lw_compile hE hX2 hX hL hi3 hJ hc hk
      by_cases hj3 : j = 3
      · subst hj3
        refine wp_tableIn (tgt := 149) (off := 117) d_law_32 (by decide) (by decide) (by rfl) (by decide) ?_
        exact lw_fault hE hX2 hX hL hi3 hJ hc hk
      by_cases hj4 : j = 4
      · subst hj4
        refine wp_tableIn (tgt := 162) (off := 130) d_law_32 (by decide) (by decide) (by rfl) (by decide) ?_
        exact lw_text hE hX hL hi3 hJ hc hk
      by_cases hj5 : j = 5
      · subst hj5
        refine wp_tableIn (tgt := 185) (off := 153) d_law_32 (by decide) (by decide) (by rfl) (by decide) ?_
        exact lw_newText hE hX hL hi3 hJ hc hk
      by_cases hj6 : j = 6
      · subst hj6
        refine wp_tableIn (tgt := 198) (off := 166) d_law_32 (by decide) (by decide) (by rfl) (by decide) ?_
        exact lw_find hE hX hL hi3 hJ hc hk
      by_cases hj7 : j = 7
      · subst hj7
        refine wp_tableIn (tgt := 221) (off := 189) d_law_32 (by decide) (by decide) (by rfl) (by decide) ?_
        exact lw_group hE hX hL hi3 hJ hc hk
      by_cases hj8 : j = 8
      · subst hj8
        refine wp_tableIn (tgt := 270) (off := 238) d_law_32 (by decide) (by decide) (by rfl) (by decide) ?_
        exact lw_whole hE hX hL hi3 hJ hc hk
      by_cases hj9 : j = 9
      · subst hj9
        refine wp_tableIn (tgt := 303) (off := 271) d_law_32 (by decide) (by decide) (by rfl) (by decide) ?_
        exact lw_matches hE hX hL hi3 hJ hc hk
      by_cases hj10 : j = 10
      · subst hj10
        refine wp_tableIn (tgt := 316) (off := 284) d_law_32 (by decide) (by decide) (by rfl) (by decide) ?_
        exact lw_replace hE hX hL hi3 hJ hc hk
      by_cases hj11 : j = 11
      · subst hj11
        refine wp_tableIn (tgt := 339) (off := 307) d_law_32 (by decide) (by decide) (by rfl) (by decide) ?_
        exact lw_output hE hX hL hi3 hJ hc hk
      by_cases hj12 : j = 12
      · subst hj12
        refine wp_tableIn (tgt := 362) (off := 330) d_law_32 (by decide) (by decide) (by rfl) (by decide) ?_
        exact lw_state hE hX hL hi3 hJ hc hk
      refine wp_tableOut (tgt := 385) d_law_32 (Or.inr ?_) (by decide) ?_
      · rw [nI_toInt (by omega)]; omega
      · exact hk h hJ hc (by omega) (by omega)
theorem mb0_ok : bOk mB0 := ⟨fun _ => Nat.zero_le _, fun _ => Nat.zero_le _, Nat.zero_le _, Nat.zero_le _⟩
theorem lw_body (hE : xOK E) {kA kV : Nat → Nat} (hX2 : xStr E kA kV) (hX : xScr E b L xs) (hL : L ≤ 1536) : wp E 46 m_law 0 [(0, .ref b)] [] (0, 0, fun _ => none) (fun r h' => r = some (.int 1) ∧ h'.1 ≤ 600000 ∧ h'.2.1 ≤ 7302250) := by
  refine wp_new xw_LA_7 d_law_0 ?_
  refine wp_dup d_law_3 rfl ?_
  generalize hh1 : xnew E (0, 0, fun _ => none) 8 _ = g1
  have e1 : g1.1 = 1 := by rw [← hh1]; rfl
  have e1s : g1.2.1 = 8 := by rw [← hh1]; rfl
  have c1 : g1.2.2 (xb E) = some (ob 9 [.null, .null, .null, .null, .null, .null, .int 0, .int 0]) := by rw [← hh1]; exact xn_eq rfl
  refine wp_callI0 xc_LA_9 d_law_4 (Nat.le_of_ble_eq_true rfl) (c_PS_init hE e1 c1) (by omega) (fun r g2 hp => ?_)
  obtain ⟨rfl, e2, e2s, hC⟩ := hp
  refine wp_astore_n d_law_7 rfl (by decide) rfl ?_
  refine wp_new xw_LA_10 d_law_8 ?_
  refine wp_dup d_law_11 rfl ?_
  generalize hh3 : xnew E g2 31 _ = g3
  have e3 : g3.1 = 22 := by rw [← hh3]; show g2.1 + 1 = 22; omega
  have e3s : g3.2.1 = g2.2.1 + 31 := by rw [← hh3]; rfl
  have ead : xb E + g2.1 = xb E + 21 := by rw [e2]
  have c3 : g3.2.2 (xb E + 21) = some (ob 10 [.null, .int 0, .null, .int 0, .null, .int 0, .int 0, .int 0, .null, .null, .null, .null, .null, .int 0, .int 0, .int 0, .int 0, .int 0, .null, .null, .null, .int 0, .null, .null, .null, .null, .null, .int 0, .null, .null, .null]) := by rw [← hh3]; exact xn_eq ead.symm
  have hC3 : Cl E g3 csNew := hC.mv (fun z z1 z2 => by rw [← hh3]; exact xn_ne (by omega) rfl)
  rw [ead]
  refine wp_callI0 xc_LA_12 d_law_12 (Nat.le_of_ble_eq_true rfl) (c_MO_init hE e3 c3) (by omega) (fun r g4 hp => ?_)
  obtain ⟨rfl, e4, e4s, f4, hM⟩ := hp
  have hC4 : Cl E g4 csNew := hC3.mv (fun z z1 z2 => f4 z (by omega))
  refine wp_astore_n d_law_15 rfl (by decide) rfl ?_
  refine wp_iconst (v := 0) d_law_16 (by rfl) ?_
  refine wp_istore_n d_law_17 rfl (by decide) rfl ?_
  have hJ : Jt E g4 := ⟨csNew, ([], [], []), mB0, mW0, mD0, hC4, hM, ⟨rfl, ⟨fun y hy => (by cases hy), Nat.zero_le _⟩, fun y hy => (by cases hy), Nat.zero_le _, mb0_ok, rfl, fun z => (by cases z)⟩, by omega⟩
  refine (lw_loop hE hX2 hX hL 512 0 g4 (by omega) (by omega) hJ hC4.o).mono (fun r h' hp => ?_)
  obtain ⟨p1, p2, p3⟩ := hp
  exact ⟨p1, by omega, by omega⟩
end LW
