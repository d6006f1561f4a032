/-! the law: what both objects keep, the calls with an entry -/
abbrev mL_law : xM := (yL_law, cL_law, 4, some (.boolean))
def LJ (xs : List Int32) (h : xH) : Prop := h.2 1 = some (.inl (5, xs.map Value.int)) ∧ h.2 0 = none ∧ xN h ∧ 199 ≤ h.1
def LI (xs : List Int32) (h : xH) (S : Tr) (tk : Nat) (q : qW) (cv : xE) (cb : Bool) (hv : xE) (ks : Nat) : Prop := LJ xs h ∧ CL h S tk q cv cb hv ∧ MR h S tk q ks (od cv + (if cb then 1 else 0) + 1) hv
theorem LJ.cg {xs : List Int32} {h h' : xH} (a : LJ xs h) (b : x_cg h h') : LJ xs h' := by
  obtain ⟨a1, a2, a3, a4⟩ := a
  obtain ⟨b1, b2, b3, b4⟩ := b
  exact ⟨(b3 1 (Or.inl (by omega)) (by omega)).trans a1, (b3 0 (Or.inl (by omega)) (by omega)).trans a2, b4, by omega⟩
theorem LJ.mf {xs : List Int32} {h h' : xH} (a : LJ xs h) (b : x_mf 187 h h') : LJ xs h' := by
  obtain ⟨a1, a2, a3, a4⟩ := a
  obtain ⟨b1, b2⟩ := b
  exact ⟨(b2 1 (by omega)).trans a1, (b2 0 (by omega)).trans a2, fun q hq => (b2 q (by omega)).trans (a3 q (by omega)), by omega⟩
theorem x_mm.fr {h h' : xH} {m : Nat} {A : xA} {s : xS} (hm : x_mm h m A s) (hf : ∀ a : Nat, m ≤ a → a < m + 12 → h'.2 a = h.2 a) : x_mm h' m A s := by
  obtain ⟨kv, it, il, lw, ll, ow, cm⟩ := A
  obtain ⟨m0, m1, m2, m3, m4, m5, m6, m7, m8, m9, m10, m11⟩ := hm
  exact ⟨(hf _ (by omega) (by omega)).trans m0, (hf _ (by omega) (by omega)).trans m1, (hf _ (by omega) (by omega)).trans m2, (hf _ (by omega) (by omega)).trans m3, (hf _ (by omega) (by omega)).trans m4, (hf _ (by omega) (by omega)).trans m5, (hf _ (by omega) (by omega)).trans m6, (hf _ (by omega) (by omega)).trans m7, (hf _ (by omega) (by omega)).trans m8, (hf _ (by omega) (by omega)).trans m9, (hf _ (by omega) (by omega)).trans m10, (hf _ (by omega) (by omega)).trans m11⟩
section LF
variable {h h' : xH} {S S' : Tr} {tk tk' : Nat} {q q' : qW} {cv : xE} {cb : Bool} {hv hv' : xE} {ks K : Nat}
theorem MR.cg (hM : MR h S tk q ks K hv) (h199 : 199 ≤ h.1) (b : x_cg h h') : MR h' S tk q ks K hv := by
  obtain ⟨kv, cm, sd, ck, cb, hn, ⟨it, il, lw, ll, ow, ni, nl, hm, hR⟩, e1, e2, e3, e4⟩ := hM
  exact ⟨kv, cm, sd, ck, cb, hn, ⟨it, il, lw, ll, ow, ni, nl, hm.fr (fun a h1 h2 => b.2.2.1 a (Or.inr h1) (by omega)), hR⟩, e1, e2, e3, e4⟩
theorem MR.obj (hM : MR h S tk q ks K hv) : ∃ fs, h.2 187 = some (.inr (3, fs)) := by
  obtain ⟨kv, cm, sd, ck, cb, hn, ⟨it, il, lw, ll, ow, ni, nl, hm, hR⟩, -⟩ := hM
  exact ⟨_, hm.1⟩
theorem MR.kind (hM : MR h S tk q ks K hv) {a : Nat} (h1 : 187 ≤ a) (h2 : a < 199) : (∃ z, h.2 a = some (.inl z)) ∨ ∃ fs, h.2 a = some (.inr (3, fs)) := by
  obtain ⟨kv, cm, sd, ck, cb, hn, ⟨it, il, lw, ll, ow, ni, nl, hm, hR⟩, -⟩ := hM
  obtain ⟨m0, m1, m2, m3, m4, m5, m6, m7, m8, m9, m10, m11⟩ := hm
  have : a = 187 ∨ a = 188 ∨ a = 189 ∨ a = 190 ∨ a = 191 ∨ a = 192 ∨ a = 193 ∨ a = 194 ∨ a = 195 ∨ a = 196 ∨ a = 197 ∨ a = 198 := by omega
  rcases this with rfl | rfl | rfl | rfl | rfl | rfl | rfl | rfl | rfl | rfl | rfl | rfl
  · exact Or.inr ⟨_, m0⟩
  · exact Or.inl ⟨_, m1⟩
  · exact Or.inl ⟨_, m2⟩
  · exact Or.inl ⟨_, m3⟩
  · exact Or.inl ⟨_, m4⟩
  · exact Or.inl ⟨_, m5⟩
  · exact Or.inl ⟨_, m6⟩
  · exact Or.inl ⟨_, m7⟩
  · exact Or.inl ⟨_, m8⟩
  · exact Or.inl ⟨_, m9⟩
  · exact Or.inl ⟨_, m10⟩
  · exact Or.inl ⟨_, m11⟩
theorem CL.mf (hL : CL h S tk q cv cb hv) (hM : MR h S' tk' q' ks K hv') (b : x_mf 187 h h') : CL h' S tk q cv cb hv := by
  obtain ⟨ch, D, fu, ca, ha, ⟨s1, s2, s3, s4, s5, s6⟩, hI, hT, hcv, hok, hhv⟩ := hL
  have keep : ∀ (a : Nat) (k : Nat) (fs : List Value), k ≠ 3 → h.2 a = some (.inr (k, fs)) → h'.2 a = some (.inr (k, fs)) := fun a k fs hk ha => by
    by_cases z : a < 187 ∨ 187 + 12 ≤ a
    · exact (b.2 a z).trans ha
    · rcases hM.kind (a := a) (by omega) (by omega) with ⟨y, hy⟩ | ⟨y, hy⟩
      · rw [hy] at ha
        cases ha
      · rw [hy] at ha
        have := Sum.inr.inj (Option.some.inj ha)
        exact absurd (congrArg Prod.fst this).symm hk
  have en : ∀ a v, h.2 a = some (eC v) → h'.2 a = some (eC v) := fun a v ha => keep a 0 _ (by omega) ha
  have lo : ∀ (a : Nat) c, a < 187 → h.2 a = some c → h'.2 a = some c := fun a c hlt ha => (b.2 a (Or.inl hlt)).trans ha
  refine ⟨ch, D, fu, ca, ha, ⟨lo _ _ (by omega) s1, en _ _ s2, en _ _ s3, lo _ _ (by omega) s4, ?_, s6⟩, hI, hT, en _ _ hcv, hok, en _ _ hhv⟩
  refine CP_of [] s5 en (fun b' hb => ?_) (fun j hj _ P hP => ?_) (fun j _ _ l c k hc hk => ⟨rfl, c, k, hc, hk, rfl⟩) (fun j hj => by cases hj)
  · rcases hb with z | ⟨Z, hZ⟩
    · exact Or.inl z
    · exact Or.inr ⟨Z, keep b' 1 _ (by omega) hZ⟩
  · have := pa_lt hj
    exact ⟨lo _ _ (by omega) hP.1, lo _ _ (by omega) hP.2.1, lo _ _ (by omega) hP.2.2⟩
theorem CL.obj (hL : CL h S tk q cv cb hv) : ∃ fs, h.2 2 = some (.inr (2, fs)) := by
  obtain ⟨ch, D, fu, ca, ha, ⟨s1, -⟩, -⟩ := hL
  exact ⟨_, s1⟩
end LF
theorem e_bud {y : xM} {d kc ks0 kc' ks' pc : Nat} {l : List (Nat × Value)} {st : List Value} {h : xH} {Q : List Value → xH → Prop} (h1 : kc ≤ kc') (h2 : ks0 ≤ ks') (k : x_E y d kc ks0 pc l st h Q) : x_E y d kc' ks' pc l st h Q :=
  fun G p la e R s m args below meth c Fin mc ms C rt hmc hms H locs cells slots ls ho hl hq q1 q2 => k G p la e R s m args below meth c Fin mc ms C rt hmc hms H locs cells slots ls ho hl hq (by omega) (by omega)
def ww (xs : List Int32) (j : Nat) : Int64 := ((xs.getD j 0).toInt64 <<< ((32 : Int32).toInt64 &&& 63)) ||| ((xs.getD (j + 1) 0).toInt64 &&& 4294967295)
def wE (xs : List Int32) (i : Nat) : xE := (ww xs (i + 1), ww xs (i + 3), ww xs (i + 5), ww xs (i + 7), xs.getD (i + 9) 0)
section LW
variable {d n k5 : Nat} {xs : List Int32} {i : Nat} {h : xH} {Q : List Value → xH → Prop} {Qc : Int32 → xH → Prop} {Qr : xH → Prop} {fs : List Value}
theorem law_add (hi : i + 10 ≤ xs.length) (hs : h.2 1 = some (.inl (5, xs.map Value.int))) (ho : h.2 2 = some (.inr (2, fs)))
    (hc : x_Con mX2_add (d + 79) 1 5 [.ref 2, .long (wE xs i).1, .long (wE xs i).2.1, .long (wE xs i).2.2.1, .long (wE xs i).2.2.2.1, .int (wE xs i).2.2.2.2] h (fun rv h1 => ∃ v, rv = [.int v] ∧ Qc v h1))
    (hr : ∀ v h1, Qc v h1 → h1.2 1 = some (.inl (5, xs.map Value.int)) ∧ (∃ fs, h1.2 187 = some (.inr (3, fs))) ∧ x_Con mX3_add (d + 79) 0 0 [.ref 187, .long (wE xs i).1, .long (wE xs i).2.1, .long (wE xs i).2.2.1, .long (wE xs i).2.2.2.1, .int (wE xs i).2.2.2.2] h1 (fun rv h2 => rv = [.int v] ∧ Qr h2))
    (kont : ∀ h2, Qr h2 → x_E mL_law (d + 80) n k5 1029 [(3, .int (nI i)), (2, .ref 187), (1, .ref 2), (0, .ref 1)] [] h2 Q) : x_E mL_law (d + 80) (n + 1) (k5 + 5) 104 [(3, .int (nI i)), (2, .ref 187), (1, .ref 2), (0, .ref 1)] [] h Q := by
  refine e_aload_n dL_law_104 rfl ?_
  refine e_aload_n dL_law_105 rfl ?_
  refine e_iload_n dL_law_106 rfl ?_
  refine e_iconst (v := 1) dL_law_107 (by decide) ?_
  refine e_iadd dL_law_108 ?_
  refine e_sld dL_law_109 hs (nI_add i 1) (by omega) ?_
  refine e_i2l dL_law_110 rfl ?_
  refine e_bipush (v := 32) dL_law_111 (by decide) ?_
  refine e_lshl dL_law_113 rfl ?_
  refine e_aload_n dL_law_114 rfl ?_
  refine e_iload_n dL_law_115 rfl ?_
  refine e_iconst (v := 2) dL_law_116 (by decide) ?_
  refine e_iadd dL_law_117 ?_
  refine e_sld dL_law_118 hs (nI_add i 2) (by omega) ?_
  refine e_i2l dL_law_119 rfl ?_
  refine e_ldc2 dL_law_120 vL_13 ?_
  refine e_land dL_law_123 ?_
  refine e_lor dL_law_124 ?_
  refine e_aload_n dL_law_125 rfl ?_
  refine e_iload_n dL_law_126 rfl ?_
  refine e_iconst (v := 3) dL_law_127 (by decide) ?_
  refine e_iadd dL_law_128 ?_
  refine e_sld dL_law_129 hs (nI_add i 3) (by omega) ?_
  refine e_i2l dL_law_130 rfl ?_
  refine e_bipush (v := 32) dL_law_131 (by decide) ?_
  refine e_lshl dL_law_133 rfl ?_
  refine e_aload_n dL_law_134 rfl ?_
  refine e_iload_n dL_law_135 rfl ?_
  refine e_iconst (v := 4) dL_law_136 (by decide) ?_
  refine e_iadd dL_law_137 ?_
  refine e_sld dL_law_138 hs (nI_add i 4) (by omega) ?_
  refine e_i2l dL_law_139 rfl ?_
  refine e_ldc2 dL_law_140 vL_13 ?_
  refine e_land dL_law_143 ?_
  refine e_lor dL_law_144 ?_
  refine e_aload_n dL_law_145 rfl ?_
  refine e_iload_n dL_law_146 rfl ?_
  refine e_iconst (v := 5) dL_law_147 (by decide) ?_
  refine e_iadd dL_law_148 ?_
  refine e_sld dL_law_149 hs (nI_add i 5) (by omega) ?_
  refine e_i2l dL_law_150 rfl ?_
  refine e_bipush (v := 32) dL_law_151 (by decide) ?_
  refine e_lshl dL_law_153 rfl ?_
  refine e_aload_n dL_law_154 rfl ?_
  refine e_iload_n dL_law_155 rfl ?_
  refine e_bipush (v := 6) dL_law_156 (by decide) ?_
  refine e_iadd dL_law_158 ?_
  refine e_sld dL_law_159 hs (nI_add i 6) (by omega) ?_
  refine e_i2l dL_law_160 rfl ?_
  refine e_ldc2 dL_law_161 vL_13 ?_
  refine e_land dL_law_164 ?_
  refine e_lor dL_law_165 ?_
  refine e_aload_n dL_law_166 rfl ?_
  refine e_iload_n dL_law_167 rfl ?_
  refine e_bipush (v := 7) dL_law_168 (by decide) ?_
  refine e_iadd dL_law_170 ?_
  refine e_sld dL_law_171 hs (nI_add i 7) (by omega) ?_
  refine e_i2l dL_law_172 rfl ?_
  refine e_bipush (v := 32) dL_law_173 (by decide) ?_
  refine e_lshl dL_law_175 rfl ?_
  refine e_aload_n dL_law_176 rfl ?_
  refine e_iload_n dL_law_177 rfl ?_
  refine e_bipush (v := 8) dL_law_178 (by decide) ?_
  refine e_iadd dL_law_180 ?_
  refine e_sld dL_law_181 hs (nI_add i 8) (by omega) ?_
  refine e_i2l dL_law_182 rfl ?_
  refine e_ldc2 dL_law_183 vL_13 ?_
  refine e_land dL_law_186 ?_
  refine e_lor dL_law_187 ?_
  refine e_aload_n dL_law_188 rfl ?_
  refine e_iload_n dL_law_189 rfl ?_
  refine e_bipush (v := 9) dL_law_190 (by decide) ?_
  refine e_iadd dL_law_192 ?_
  refine e_sld dL_law_193 hs (nI_add i 9) (by omega) ?_
  refine e_V5 dL_law_194 gL_15 ho rfl (by omega) (Nat.le_of_ble_eq_true rfl) rfl rfl (hc) ?_
  rintro _ h1 ⟨v, rfl, hq⟩
  obtain ⟨hs, ⟨fs', ho'⟩, hcr⟩ := hr v h1 hq
  refine e_aload_n dL_law_197 rfl ?_
  refine e_aload_n dL_law_198 rfl ?_
  refine e_iload_n dL_law_199 rfl ?_
  refine e_iconst (v := 1) dL_law_200 (by decide) ?_
  refine e_iadd dL_law_201 ?_
  refine e_sld dL_law_202 hs (nI_add i 1) (by omega) ?_
  refine e_i2l dL_law_203 rfl ?_
  refine e_bipush (v := 32) dL_law_204 (by decide) ?_
  refine e_lshl dL_law_206 rfl ?_
  refine e_aload_n dL_law_207 rfl ?_
  refine e_iload_n dL_law_208 rfl ?_
  refine e_iconst (v := 2) dL_law_209 (by decide) ?_
  refine e_iadd dL_law_210 ?_
  refine e_sld dL_law_211 hs (nI_add i 2) (by omega) ?_
  refine e_i2l dL_law_212 rfl ?_
  refine e_ldc2 dL_law_213 vL_13 ?_
  refine e_land dL_law_216 ?_
  refine e_lor dL_law_217 ?_
  refine e_aload_n dL_law_218 rfl ?_
  refine e_iload_n dL_law_219 rfl ?_
  refine e_iconst (v := 3) dL_law_220 (by decide) ?_
  refine e_iadd dL_law_221 ?_
  refine e_sld dL_law_222 hs (nI_add i 3) (by omega) ?_
  refine e_i2l dL_law_223 rfl ?_
  refine e_bipush (v := 32) dL_law_224 (by decide) ?_
  refine e_lshl dL_law_226 rfl ?_
  refine e_aload_n dL_law_227 rfl ?_
  refine e_iload_n dL_law_228 rfl ?_
  refine e_iconst (v := 4) dL_law_229 (by decide) ?_
  refine e_iadd dL_law_230 ?_
  refine e_sld dL_law_231 hs (nI_add i 4) (by omega) ?_
  refine e_i2l dL_law_232 rfl ?_
  refine e_ldc2 dL_law_233 vL_13 ?_
  refine e_land dL_law_236 ?_
  refine e_lor dL_law_237 ?_
  refine e_aload_n dL_law_238 rfl ?_
  refine e_iload_n dL_law_239 rfl ?_
  refine e_iconst (v := 5) dL_law_240 (by decide) ?_
  refine e_iadd dL_law_241 ?_
  refine e_sld dL_law_242 hs (nI_add i 5) (by omega) ?_
  refine e_i2l dL_law_243 rfl ?_
  refine e_bipush (v := 32) dL_law_244 (by decide) ?_
  refine e_lshl dL_law_246 rfl ?_
  refine e_aload_n dL_law_247 rfl ?_
  refine e_iload_n dL_law_248 rfl ?_
  refine e_bipush (v := 6) dL_law_249 (by decide) ?_
  refine e_iadd dL_law_251 ?_
  refine e_sld dL_law_252 hs (nI_add i 6) (by omega) ?_
  refine e_i2l dL_law_253 rfl ?_
  refine e_ldc2 dL_law_254 vL_13 ?_
  refine e_land dL_law_257 ?_
  refine e_lor dL_law_258 ?_
  refine e_aload_n dL_law_259 rfl ?_
  refine e_iload_n dL_law_260 rfl ?_
  refine e_bipush (v := 7) dL_law_261 (by decide) ?_
  refine e_iadd dL_law_263 ?_
  refine e_sld dL_law_264 hs (nI_add i 7) (by omega) ?_
  refine e_i2l dL_law_265 rfl ?_
  refine e_bipush (v := 32) dL_law_266 (by decide) ?_
  refine e_lshl dL_law_268 rfl ?_
  refine e_aload_n dL_law_269 rfl ?_
  refine e_iload_n dL_law_270 rfl ?_
  refine e_bipush (v := 8) dL_law_271 (by decide) ?_
  refine e_iadd dL_law_273 ?_
  refine e_sld dL_law_274 hs (nI_add i 8) (by omega) ?_
  refine e_i2l dL_law_275 rfl ?_
  refine e_ldc2 dL_law_276 vL_13 ?_
  refine e_land dL_law_279 ?_
  refine e_lor dL_law_280 ?_
  refine e_aload_n dL_law_281 rfl ?_
  refine e_iload_n dL_law_282 rfl ?_
  refine e_bipush (v := 9) dL_law_283 (by decide) ?_
  refine e_iadd dL_law_285 ?_
  refine e_sld dL_law_286 hs (nI_add i 9) (by omega) ?_
  refine e_V5 dL_law_287 gL_19 ho' rfl (by omega) (Nat.le_of_ble_eq_true rfl) rfl rfl (hcr) ?_
  rintro _ h2 ⟨rfl, hq2⟩
  exact e_icmp_eq (tgt := 1029) dL_law_290 (by decide) (fun _ => kont h2 hq2) (fun z => absurd rfl z)
theorem law_remove (hi : i + 10 ≤ xs.length) (hs : h.2 1 = some (.inl (5, xs.map Value.int))) (ho : h.2 2 = some (.inr (2, fs)))
    (hc : x_Con mX2_remove (d + 79) 1 5 [.ref 2, .long (wE xs i).1, .long (wE xs i).2.1, .long (wE xs i).2.2.1, .long (wE xs i).2.2.2.1, .int (wE xs i).2.2.2.2] h (fun rv h1 => ∃ v, rv = [.int v] ∧ Qc v h1))
    (hr : ∀ v h1, Qc v h1 → h1.2 1 = some (.inl (5, xs.map Value.int)) ∧ (∃ fs, h1.2 187 = some (.inr (3, fs))) ∧ x_Con mX3_remove (d + 79) 0 0 [.ref 187, .long (wE xs i).1, .long (wE xs i).2.1, .long (wE xs i).2.2.1, .long (wE xs i).2.2.2.1, .int (wE xs i).2.2.2.2] h1 (fun rv h2 => rv = [.int v] ∧ Qr h2))
    (kont : ∀ h2, Qr h2 → x_E mL_law (d + 80) n k5 1029 [(3, .int (nI i)), (2, .ref 187), (1, .ref 2), (0, .ref 1)] [] h2 Q) : x_E mL_law (d + 80) (n + 1) (k5 + 5) 295 [(3, .int (nI i)), (2, .ref 187), (1, .ref 2), (0, .ref 1)] [] h Q := by
  refine e_aload_n dL_law_295 rfl ?_
  refine e_aload_n dL_law_296 rfl ?_
  refine e_iload_n dL_law_297 rfl ?_
  refine e_iconst (v := 1) dL_law_298 (by decide) ?_
  refine e_iadd dL_law_299 ?_
  refine e_sld dL_law_300 hs (nI_add i 1) (by omega) ?_
  refine e_i2l dL_law_301 rfl ?_
  refine e_bipush (v := 32) dL_law_302 (by decide) ?_
  refine e_lshl dL_law_304 rfl ?_
  refine e_aload_n dL_law_305 rfl ?_
  refine e_iload_n dL_law_306 rfl ?_
  refine e_iconst (v := 2) dL_law_307 (by decide) ?_
  refine e_iadd dL_law_308 ?_
  refine e_sld dL_law_309 hs (nI_add i 2) (by omega) ?_
  refine e_i2l dL_law_310 rfl ?_
  refine e_ldc2 dL_law_311 vL_13 ?_
  refine e_land dL_law_314 ?_
  refine e_lor dL_law_315 ?_
  refine e_aload_n dL_law_316 rfl ?_
  refine e_iload_n dL_law_317 rfl ?_
  refine e_iconst (v := 3) dL_law_318 (by decide) ?_
  refine e_iadd dL_law_319 ?_
  refine e_sld dL_law_320 hs (nI_add i 3) (by omega) ?_
  refine e_i2l dL_law_321 rfl ?_
  refine e_bipush (v := 32) dL_law_322 (by decide) ?_
  refine e_lshl dL_law_324 rfl ?_
  refine e_aload_n dL_law_325 rfl ?_
  refine e_iload_n dL_law_326 rfl ?_
  refine e_iconst (v := 4) dL_law_327 (by decide) ?_
  refine e_iadd dL_law_328 ?_
  refine e_sld dL_law_329 hs (nI_add i 4) (by omega) ?_
  refine e_i2l dL_law_330 rfl ?_
  refine e_ldc2 dL_law_331 vL_13 ?_
  refine e_land dL_law_334 ?_
  refine e_lor dL_law_335 ?_
  refine e_aload_n dL_law_336 rfl ?_
  refine e_iload_n dL_law_337 rfl ?_
  refine e_iconst (v := 5) dL_law_338 (by decide) ?_
  refine e_iadd dL_law_339 ?_
  refine e_sld dL_law_340 hs (nI_add i 5) (by omega) ?_
  refine e_i2l dL_law_341 rfl ?_
  refine e_bipush (v := 32) dL_law_342 (by decide) ?_
  refine e_lshl dL_law_344 rfl ?_
  refine e_aload_n dL_law_345 rfl ?_
  refine e_iload_n dL_law_346 rfl ?_
  refine e_bipush (v := 6) dL_law_347 (by decide) ?_
  refine e_iadd dL_law_349 ?_
  refine e_sld dL_law_350 hs (nI_add i 6) (by omega) ?_
  refine e_i2l dL_law_351 rfl ?_
  refine e_ldc2 dL_law_352 vL_13 ?_
  refine e_land dL_law_355 ?_
  refine e_lor dL_law_356 ?_
  refine e_aload_n dL_law_357 rfl ?_
  refine e_iload_n dL_law_358 rfl ?_
  refine e_bipush (v := 7) dL_law_359 (by decide) ?_
  refine e_iadd dL_law_361 ?_
  refine e_sld dL_law_362 hs (nI_add i 7) (by omega) ?_
  refine e_i2l dL_law_363 rfl ?_
  refine e_bipush (v := 32) dL_law_364 (by decide) ?_
  refine e_lshl dL_law_366 rfl ?_
  refine e_aload_n dL_law_367 rfl ?_
  refine e_iload_n dL_law_368 rfl ?_
  refine e_bipush (v := 8) dL_law_369 (by decide) ?_
  refine e_iadd dL_law_371 ?_
  refine e_sld dL_law_372 hs (nI_add i 8) (by omega) ?_
  refine e_i2l dL_law_373 rfl ?_
  refine e_ldc2 dL_law_374 vL_13 ?_
  refine e_land dL_law_377 ?_
  refine e_lor dL_law_378 ?_
  refine e_aload_n dL_law_379 rfl ?_
  refine e_iload_n dL_law_380 rfl ?_
  refine e_bipush (v := 9) dL_law_381 (by decide) ?_
  refine e_iadd dL_law_383 ?_
  refine e_sld dL_law_384 hs (nI_add i 9) (by omega) ?_
  refine e_V5 dL_law_385 gL_20 ho rfl (by omega) (Nat.le_of_ble_eq_true rfl) rfl rfl (hc) ?_
  rintro _ h1 ⟨v, rfl, hq⟩
  obtain ⟨hs, ⟨fs', ho'⟩, hcr⟩ := hr v h1 hq
  refine e_aload_n dL_law_388 rfl ?_
  refine e_aload_n dL_law_389 rfl ?_
  refine e_iload_n dL_law_390 rfl ?_
  refine e_iconst (v := 1) dL_law_391 (by decide) ?_
  refine e_iadd dL_law_392 ?_
  refine e_sld dL_law_393 hs (nI_add i 1) (by omega) ?_
  refine e_i2l dL_law_394 rfl ?_
  refine e_bipush (v := 32) dL_law_395 (by decide) ?_
  refine e_lshl dL_law_397 rfl ?_
  refine e_aload_n dL_law_398 rfl ?_
  refine e_iload_n dL_law_399 rfl ?_
  refine e_iconst (v := 2) dL_law_400 (by decide) ?_
  refine e_iadd dL_law_401 ?_
  refine e_sld dL_law_402 hs (nI_add i 2) (by omega) ?_
  refine e_i2l dL_law_403 rfl ?_
  refine e_ldc2 dL_law_404 vL_13 ?_
  refine e_land dL_law_407 ?_
  refine e_lor dL_law_408 ?_
  refine e_aload_n dL_law_409 rfl ?_
  refine e_iload_n dL_law_410 rfl ?_
  refine e_iconst (v := 3) dL_law_411 (by decide) ?_
  refine e_iadd dL_law_412 ?_
  refine e_sld dL_law_413 hs (nI_add i 3) (by omega) ?_
  refine e_i2l dL_law_414 rfl ?_
  refine e_bipush (v := 32) dL_law_415 (by decide) ?_
  refine e_lshl dL_law_417 rfl ?_
  refine e_aload_n dL_law_418 rfl ?_
  refine e_iload_n dL_law_419 rfl ?_
  refine e_iconst (v := 4) dL_law_420 (by decide) ?_
  refine e_iadd dL_law_421 ?_
  refine e_sld dL_law_422 hs (nI_add i 4) (by omega) ?_
  refine e_i2l dL_law_423 rfl ?_
  refine e_ldc2 dL_law_424 vL_13 ?_
  refine e_land dL_law_427 ?_
  refine e_lor dL_law_428 ?_
  refine e_aload_n dL_law_429 rfl ?_
  refine e_iload_n dL_law_430 rfl ?_
  refine e_iconst (v := 5) dL_law_431 (by decide) ?_
  refine e_iadd dL_law_432 ?_
  refine e_sld dL_law_433 hs (nI_add i 5) (by omega) ?_
  refine e_i2l dL_law_434 rfl ?_
  refine e_bipush (v := 32) dL_law_435 (by decide) ?_
  refine e_lshl dL_law_437 rfl ?_
  refine e_aload_n dL_law_438 rfl ?_
  refine e_iload_n dL_law_439 rfl ?_
  refine e_bipush (v := 6) dL_law_440 (by decide) ?_
  refine e_iadd dL_law_442 ?_
  refine e_sld dL_law_443 hs (nI_add i 6) (by omega) ?_
  refine e_i2l dL_law_444 rfl ?_
  refine e_ldc2 dL_law_445 vL_13 ?_
  refine e_land dL_law_448 ?_
  refine e_lor dL_law_449 ?_
  refine e_aload_n dL_law_450 rfl ?_
  refine e_iload_n dL_law_451 rfl ?_
  refine e_bipush (v := 7) dL_law_452 (by decide) ?_
  refine e_iadd dL_law_454 ?_
  refine e_sld dL_law_455 hs (nI_add i 7) (by omega) ?_
  refine e_i2l dL_law_456 rfl ?_
  refine e_bipush (v := 32) dL_law_457 (by decide) ?_
  refine e_lshl dL_law_459 rfl ?_
  refine e_aload_n dL_law_460 rfl ?_
  refine e_iload_n dL_law_461 rfl ?_
  refine e_bipush (v := 8) dL_law_462 (by decide) ?_
  refine e_iadd dL_law_464 ?_
  refine e_sld dL_law_465 hs (nI_add i 8) (by omega) ?_
  refine e_i2l dL_law_466 rfl ?_
  refine e_ldc2 dL_law_467 vL_13 ?_
  refine e_land dL_law_470 ?_
  refine e_lor dL_law_471 ?_
  refine e_aload_n dL_law_472 rfl ?_
  refine e_iload_n dL_law_473 rfl ?_
  refine e_bipush (v := 9) dL_law_474 (by decide) ?_
  refine e_iadd dL_law_476 ?_
  refine e_sld dL_law_477 hs (nI_add i 9) (by omega) ?_
  refine e_V5 dL_law_478 gL_23 ho' rfl (by omega) (Nat.le_of_ble_eq_true rfl) rfl rfl (hcr) ?_
  rintro _ h2 ⟨rfl, hq2⟩
  exact e_icmp_eq (tgt := 1029) dL_law_481 (by decide) (fun _ => kont h2 hq2) (fun z => absurd rfl z)
theorem law_has (hi : i + 10 ≤ xs.length) (hs : h.2 1 = some (.inl (5, xs.map Value.int))) (ho : h.2 2 = some (.inr (2, fs)))
    (hc : x_Con mX2_has (d + 79) 1 5 [.ref 2, .long (wE xs i).1, .long (wE xs i).2.1, .long (wE xs i).2.2.1, .long (wE xs i).2.2.2.1, .int (wE xs i).2.2.2.2] h (fun rv h1 => ∃ v, rv = [.int v] ∧ Qc v h1))
    (hr : ∀ v h1, Qc v h1 → h1.2 1 = some (.inl (5, xs.map Value.int)) ∧ (∃ fs, h1.2 187 = some (.inr (3, fs))) ∧ x_Con mX3_has (d + 79) 0 0 [.ref 187, .long (wE xs i).1, .long (wE xs i).2.1, .long (wE xs i).2.2.1, .long (wE xs i).2.2.2.1, .int (wE xs i).2.2.2.2] h1 (fun rv h2 => rv = [.int v] ∧ Qr h2))
    (kont : ∀ h2, Qr h2 → x_E mL_law (d + 80) n k5 1029 [(3, .int (nI i)), (2, .ref 187), (1, .ref 2), (0, .ref 1)] [] h2 Q) : x_E mL_law (d + 80) (n + 1) (k5 + 5) 486 [(3, .int (nI i)), (2, .ref 187), (1, .ref 2), (0, .ref 1)] [] h Q := by
  refine e_aload_n dL_law_486 rfl ?_
  refine e_aload_n dL_law_487 rfl ?_
  refine e_iload_n dL_law_488 rfl ?_
  refine e_iconst (v := 1) dL_law_489 (by decide) ?_
  refine e_iadd dL_law_490 ?_
  refine e_sld dL_law_491 hs (nI_add i 1) (by omega) ?_
  refine e_i2l dL_law_492 rfl ?_
  refine e_bipush (v := 32) dL_law_493 (by decide) ?_
  refine e_lshl dL_law_495 rfl ?_
  refine e_aload_n dL_law_496 rfl ?_
  refine e_iload_n dL_law_497 rfl ?_
  refine e_iconst (v := 2) dL_law_498 (by decide) ?_
  refine e_iadd dL_law_499 ?_
  refine e_sld dL_law_500 hs (nI_add i 2) (by omega) ?_
  refine e_i2l dL_law_501 rfl ?_
  refine e_ldc2 dL_law_502 vL_13 ?_
  refine e_land dL_law_505 ?_
  refine e_lor dL_law_506 ?_
  refine e_aload_n dL_law_507 rfl ?_
  refine e_iload_n dL_law_508 rfl ?_
  refine e_iconst (v := 3) dL_law_509 (by decide) ?_
  refine e_iadd dL_law_510 ?_
  refine e_sld dL_law_511 hs (nI_add i 3) (by omega) ?_
  refine e_i2l dL_law_512 rfl ?_
  refine e_bipush (v := 32) dL_law_513 (by decide) ?_
  refine e_lshl dL_law_515 rfl ?_
  refine e_aload_n dL_law_516 rfl ?_
  refine e_iload_n dL_law_517 rfl ?_
  refine e_iconst (v := 4) dL_law_518 (by decide) ?_
  refine e_iadd dL_law_519 ?_
  refine e_sld dL_law_520 hs (nI_add i 4) (by omega) ?_
  refine e_i2l dL_law_521 rfl ?_
  refine e_ldc2 dL_law_522 vL_13 ?_
  refine e_land dL_law_525 ?_
  refine e_lor dL_law_526 ?_
  refine e_aload_n dL_law_527 rfl ?_
  refine e_iload_n dL_law_528 rfl ?_
  refine e_iconst (v := 5) dL_law_529 (by decide) ?_
  refine e_iadd dL_law_530 ?_
  refine e_sld dL_law_531 hs (nI_add i 5) (by omega) ?_
  refine e_i2l dL_law_532 rfl ?_
  refine e_bipush (v := 32) dL_law_533 (by decide) ?_
  refine e_lshl dL_law_535 rfl ?_
  refine e_aload_n dL_law_536 rfl ?_
  refine e_iload_n dL_law_537 rfl ?_
  refine e_bipush (v := 6) dL_law_538 (by decide) ?_
  refine e_iadd dL_law_540 ?_
  refine e_sld dL_law_541 hs (nI_add i 6) (by omega) ?_
  refine e_i2l dL_law_542 rfl ?_
  refine e_ldc2 dL_law_543 vL_13 ?_
  refine e_land dL_law_546 ?_
  refine e_lor dL_law_547 ?_
  refine e_aload_n dL_law_548 rfl ?_
  refine e_iload_n dL_law_549 rfl ?_
  refine e_bipush (v := 7) dL_law_550 (by decide) ?_
  refine e_iadd dL_law_552 ?_
  refine e_sld dL_law_553 hs (nI_add i 7) (by omega) ?_
  refine e_i2l dL_law_554 rfl ?_
  refine e_bipush (v := 32) dL_law_555 (by decide) ?_
  refine e_lshl dL_law_557 rfl ?_
  refine e_aload_n dL_law_558 rfl ?_
  refine e_iload_n dL_law_559 rfl ?_
  refine e_bipush (v := 8) dL_law_560 (by decide) ?_
  refine e_iadd dL_law_562 ?_
  refine e_sld dL_law_563 hs (nI_add i 8) (by omega) ?_
  refine e_i2l dL_law_564 rfl ?_
  refine e_ldc2 dL_law_565 vL_13 ?_
  refine e_land dL_law_568 ?_
  refine e_lor dL_law_569 ?_
  refine e_aload_n dL_law_570 rfl ?_
  refine e_iload_n dL_law_571 rfl ?_
  refine e_bipush (v := 9) dL_law_572 (by decide) ?_
  refine e_iadd dL_law_574 ?_
  refine e_sld dL_law_575 hs (nI_add i 9) (by omega) ?_
  refine e_V5 dL_law_576 gL_24 ho rfl (by omega) (Nat.le_of_ble_eq_true rfl) rfl rfl (hc) ?_
  rintro _ h1 ⟨v, rfl, hq⟩
  obtain ⟨hs, ⟨fs', ho'⟩, hcr⟩ := hr v h1 hq
  refine e_aload_n dL_law_579 rfl ?_
  refine e_aload_n dL_law_580 rfl ?_
  refine e_iload_n dL_law_581 rfl ?_
  refine e_iconst (v := 1) dL_law_582 (by decide) ?_
  refine e_iadd dL_law_583 ?_
  refine e_sld dL_law_584 hs (nI_add i 1) (by omega) ?_
  refine e_i2l dL_law_585 rfl ?_
  refine e_bipush (v := 32) dL_law_586 (by decide) ?_
  refine e_lshl dL_law_588 rfl ?_
  refine e_aload_n dL_law_589 rfl ?_
  refine e_iload_n dL_law_590 rfl ?_
  refine e_iconst (v := 2) dL_law_591 (by decide) ?_
  refine e_iadd dL_law_592 ?_
  refine e_sld dL_law_593 hs (nI_add i 2) (by omega) ?_
  refine e_i2l dL_law_594 rfl ?_
  refine e_ldc2 dL_law_595 vL_13 ?_
  refine e_land dL_law_598 ?_
  refine e_lor dL_law_599 ?_
  refine e_aload_n dL_law_600 rfl ?_
  refine e_iload_n dL_law_601 rfl ?_
  refine e_iconst (v := 3) dL_law_602 (by decide) ?_
  refine e_iadd dL_law_603 ?_
  refine e_sld dL_law_604 hs (nI_add i 3) (by omega) ?_
  refine e_i2l dL_law_605 rfl ?_
  refine e_bipush (v := 32) dL_law_606 (by decide) ?_
  refine e_lshl dL_law_608 rfl ?_
  refine e_aload_n dL_law_609 rfl ?_
  refine e_iload_n dL_law_610 rfl ?_
  refine e_iconst (v := 4) dL_law_611 (by decide) ?_
  refine e_iadd dL_law_612 ?_
  refine e_sld dL_law_613 hs (nI_add i 4) (by omega) ?_
  refine e_i2l dL_law_614 rfl ?_
  refine e_ldc2 dL_law_615 vL_13 ?_
  refine e_land dL_law_618 ?_
  refine e_lor dL_law_619 ?_
  refine e_aload_n dL_law_620 rfl ?_
  refine e_iload_n dL_law_621 rfl ?_
  refine e_iconst (v := 5) dL_law_622 (by decide) ?_
  refine e_iadd dL_law_623 ?_
  refine e_sld dL_law_624 hs (nI_add i 5) (by omega) ?_
  refine e_i2l dL_law_625 rfl ?_
  refine e_bipush (v := 32) dL_law_626 (by decide) ?_
  refine e_lshl dL_law_628 rfl ?_
  refine e_aload_n dL_law_629 rfl ?_
  refine e_iload_n dL_law_630 rfl ?_
  refine e_bipush (v := 6) dL_law_631 (by decide) ?_
  refine e_iadd dL_law_633 ?_
  refine e_sld dL_law_634 hs (nI_add i 6) (by omega) ?_
  refine e_i2l dL_law_635 rfl ?_
  refine e_ldc2 dL_law_636 vL_13 ?_
  refine e_land dL_law_639 ?_
  refine e_lor dL_law_640 ?_
  refine e_aload_n dL_law_641 rfl ?_
  refine e_iload_n dL_law_642 rfl ?_
  refine e_bipush (v := 7) dL_law_643 (by decide) ?_
  refine e_iadd dL_law_645 ?_
  refine e_sld dL_law_646 hs (nI_add i 7) (by omega) ?_
  refine e_i2l dL_law_647 rfl ?_
  refine e_bipush (v := 32) dL_law_648 (by decide) ?_
  refine e_lshl dL_law_650 rfl ?_
  refine e_aload_n dL_law_651 rfl ?_
  refine e_iload_n dL_law_652 rfl ?_
  refine e_bipush (v := 8) dL_law_653 (by decide) ?_
  refine e_iadd dL_law_655 ?_
  refine e_sld dL_law_656 hs (nI_add i 8) (by omega) ?_
  refine e_i2l dL_law_657 rfl ?_
  refine e_ldc2 dL_law_658 vL_13 ?_
  refine e_land dL_law_661 ?_
  refine e_lor dL_law_662 ?_
  refine e_aload_n dL_law_663 rfl ?_
  refine e_iload_n dL_law_664 rfl ?_
  refine e_bipush (v := 9) dL_law_665 (by decide) ?_
  refine e_iadd dL_law_667 ?_
  refine e_sld dL_law_668 hs (nI_add i 9) (by omega) ?_
  refine e_V5 dL_law_669 gL_28 ho' rfl (by omega) (Nat.le_of_ble_eq_true rfl) rfl rfl (hcr) ?_
  rintro _ h2 ⟨rfl, hq2⟩
  exact e_icmp_eq (tgt := 1029) dL_law_672 (by decide) (fun _ => kont h2 hq2) (fun z => absurd rfl z)
theorem law_seek {Qc : xH → Prop} (hi : i + 10 ≤ xs.length) (hs : h.2 1 = some (.inl (5, xs.map Value.int))) (ho : h.2 2 = some (.inr (2, fs)))
    (hc : x_Con mX2_seek (d + 79) 1 5 [.ref 2, .long (wE xs i).1, .long (wE xs i).2.1, .long (wE xs i).2.2.1, .long (wE xs i).2.2.2.1] h (fun rv h1 => rv = [] ∧ Qc h1))
    (hr : ∀ h1, Qc h1 → h1.2 1 = some (.inl (5, xs.map Value.int)) ∧ (∃ fs, h1.2 187 = some (.inr (3, fs))) ∧ x_Con mX3_seek (d + 79) 0 0 [.ref 187, .long (wE xs i).1, .long (wE xs i).2.1, .long (wE xs i).2.2.1, .long (wE xs i).2.2.2.1] h1 (fun rv h2 => rv = [] ∧ Qr h2))
    (kont : ∀ h2, Qr h2 → x_E mL_law (d + 80) n k5 1029 [(3, .int (nI i)), (2, .ref 187), (1, .ref 2), (0, .ref 1)] [] h2 Q) : x_E mL_law (d + 80) (n + 1) (k5 + 5) 677 [(3, .int (nI i)), (2, .ref 187), (1, .ref 2), (0, .ref 1)] [] h Q := by
  refine e_aload_n dL_law_677 rfl ?_
  refine e_aload_n dL_law_678 rfl ?_
  refine e_iload_n dL_law_679 rfl ?_
  refine e_iconst (v := 1) dL_law_680 (by decide) ?_
  refine e_iadd dL_law_681 ?_
  refine e_sld dL_law_682 hs (nI_add i 1) (by omega) ?_
  refine e_i2l dL_law_683 rfl ?_
  refine e_bipush (v := 32) dL_law_684 (by decide) ?_
  refine e_lshl dL_law_686 rfl ?_
  refine e_aload_n dL_law_687 rfl ?_
  refine e_iload_n dL_law_688 rfl ?_
  refine e_iconst (v := 2) dL_law_689 (by decide) ?_
  refine e_iadd dL_law_690 ?_
  refine e_sld dL_law_691 hs (nI_add i 2) (by omega) ?_
  refine e_i2l dL_law_692 rfl ?_
  refine e_ldc2 dL_law_693 vL_13 ?_
  refine e_land dL_law_696 ?_
  refine e_lor dL_law_697 ?_
  refine e_aload_n dL_law_698 rfl ?_
  refine e_iload_n dL_law_699 rfl ?_
  refine e_iconst (v := 3) dL_law_700 (by decide) ?_
  refine e_iadd dL_law_701 ?_
  refine e_sld dL_law_702 hs (nI_add i 3) (by omega) ?_
  refine e_i2l dL_law_703 rfl ?_
  refine e_bipush (v := 32) dL_law_704 (by decide) ?_
  refine e_lshl dL_law_706 rfl ?_
  refine e_aload_n dL_law_707 rfl ?_
  refine e_iload_n dL_law_708 rfl ?_
  refine e_iconst (v := 4) dL_law_709 (by decide) ?_
  refine e_iadd dL_law_710 ?_
  refine e_sld dL_law_711 hs (nI_add i 4) (by omega) ?_
  refine e_i2l dL_law_712 rfl ?_
  refine e_ldc2 dL_law_713 vL_13 ?_
  refine e_land dL_law_716 ?_
  refine e_lor dL_law_717 ?_
  refine e_aload_n dL_law_718 rfl ?_
  refine e_iload_n dL_law_719 rfl ?_
  refine e_iconst (v := 5) dL_law_720 (by decide) ?_
  refine e_iadd dL_law_721 ?_
  refine e_sld dL_law_722 hs (nI_add i 5) (by omega) ?_
  refine e_i2l dL_law_723 rfl ?_
  refine e_bipush (v := 32) dL_law_724 (by decide) ?_
  refine e_lshl dL_law_726 rfl ?_
  refine e_aload_n dL_law_727 rfl ?_
  refine e_iload_n dL_law_728 rfl ?_
  refine e_bipush (v := 6) dL_law_729 (by decide) ?_
  refine e_iadd dL_law_731 ?_
  refine e_sld dL_law_732 hs (nI_add i 6) (by omega) ?_
  refine e_i2l dL_law_733 rfl ?_
  refine e_ldc2 dL_law_734 vL_13 ?_
  refine e_land dL_law_737 ?_
  refine e_lor dL_law_738 ?_
  refine e_aload_n dL_law_739 rfl ?_
  refine e_iload_n dL_law_740 rfl ?_
  refine e_bipush (v := 7) dL_law_741 (by decide) ?_
  refine e_iadd dL_law_743 ?_
  refine e_sld dL_law_744 hs (nI_add i 7) (by omega) ?_
  refine e_i2l dL_law_745 rfl ?_
  refine e_bipush (v := 32) dL_law_746 (by decide) ?_
  refine e_lshl dL_law_748 rfl ?_
  refine e_aload_n dL_law_749 rfl ?_
  refine e_iload_n dL_law_750 rfl ?_
  refine e_bipush (v := 8) dL_law_751 (by decide) ?_
  refine e_iadd dL_law_753 ?_
  refine e_sld dL_law_754 hs (nI_add i 8) (by omega) ?_
  refine e_i2l dL_law_755 rfl ?_
  refine e_ldc2 dL_law_756 vL_13 ?_
  refine e_land dL_law_759 ?_
  refine e_lor dL_law_760 ?_
  refine e_V4 dL_law_761 gL_29 ho rfl (by omega) (Nat.le_of_ble_eq_true rfl) rfl rfl (hc) ?_
  rintro _ h1 ⟨rfl, hq⟩
  obtain ⟨hs, ⟨fs', ho'⟩, hcr⟩ := hr h1 hq
  refine e_aload_n dL_law_764 rfl ?_
  refine e_aload_n dL_law_765 rfl ?_
  refine e_iload_n dL_law_766 rfl ?_
  refine e_iconst (v := 1) dL_law_767 (by decide) ?_
  refine e_iadd dL_law_768 ?_
  refine e_sld dL_law_769 hs (nI_add i 1) (by omega) ?_
  refine e_i2l dL_law_770 rfl ?_
  refine e_bipush (v := 32) dL_law_771 (by decide) ?_
  refine e_lshl dL_law_773 rfl ?_
  refine e_aload_n dL_law_774 rfl ?_
  refine e_iload_n dL_law_775 rfl ?_
  refine e_iconst (v := 2) dL_law_776 (by decide) ?_
  refine e_iadd dL_law_777 ?_
  refine e_sld dL_law_778 hs (nI_add i 2) (by omega) ?_
  refine e_i2l dL_law_779 rfl ?_
  refine e_ldc2 dL_law_780 vL_13 ?_
  refine e_land dL_law_783 ?_
  refine e_lor dL_law_784 ?_
  refine e_aload_n dL_law_785 rfl ?_
  refine e_iload_n dL_law_786 rfl ?_
  refine e_iconst (v := 3) dL_law_787 (by decide) ?_
  refine e_iadd dL_law_788 ?_
  refine e_sld dL_law_789 hs (nI_add i 3) (by omega) ?_
  refine e_i2l dL_law_790 rfl ?_
  refine e_bipush (v := 32) dL_law_791 (by decide) ?_
  refine e_lshl dL_law_793 rfl ?_
  refine e_aload_n dL_law_794 rfl ?_
  refine e_iload_n dL_law_795 rfl ?_
  refine e_iconst (v := 4) dL_law_796 (by decide) ?_
  refine e_iadd dL_law_797 ?_
  refine e_sld dL_law_798 hs (nI_add i 4) (by omega) ?_
  refine e_i2l dL_law_799 rfl ?_
  refine e_ldc2 dL_law_800 vL_13 ?_
  refine e_land dL_law_803 ?_
  refine e_lor dL_law_804 ?_
  refine e_aload_n dL_law_805 rfl ?_
  refine e_iload_n dL_law_806 rfl ?_
  refine e_iconst (v := 5) dL_law_807 (by decide) ?_
  refine e_iadd dL_law_808 ?_
  refine e_sld dL_law_809 hs (nI_add i 5) (by omega) ?_
  refine e_i2l dL_law_810 rfl ?_
  refine e_bipush (v := 32) dL_law_811 (by decide) ?_
  refine e_lshl dL_law_813 rfl ?_
  refine e_aload_n dL_law_814 rfl ?_
  refine e_iload_n dL_law_815 rfl ?_
  refine e_bipush (v := 6) dL_law_816 (by decide) ?_
  refine e_iadd dL_law_818 ?_
  refine e_sld dL_law_819 hs (nI_add i 6) (by omega) ?_
  refine e_i2l dL_law_820 rfl ?_
  refine e_ldc2 dL_law_821 vL_13 ?_
  refine e_land dL_law_824 ?_
  refine e_lor dL_law_825 ?_
  refine e_aload_n dL_law_826 rfl ?_
  refine e_iload_n dL_law_827 rfl ?_
  refine e_bipush (v := 7) dL_law_828 (by decide) ?_
  refine e_iadd dL_law_830 ?_
  refine e_sld dL_law_831 hs (nI_add i 7) (by omega) ?_
  refine e_i2l dL_law_832 rfl ?_
  refine e_bipush (v := 32) dL_law_833 (by decide) ?_
  refine e_lshl dL_law_835 rfl ?_
  refine e_aload_n dL_law_836 rfl ?_
  refine e_iload_n dL_law_837 rfl ?_
  refine e_bipush (v := 8) dL_law_838 (by decide) ?_
  refine e_iadd dL_law_840 ?_
  refine e_sld dL_law_841 hs (nI_add i 8) (by omega) ?_
  refine e_i2l dL_law_842 rfl ?_
  refine e_ldc2 dL_law_843 vL_13 ?_
  refine e_land dL_law_846 ?_
  refine e_lor dL_law_847 ?_
  refine e_V4 dL_law_848 gL_33 ho' rfl (by omega) (Nat.le_of_ble_eq_true rfl) rfl rfl (hcr) ?_
  rintro _ h2 ⟨rfl, hq2⟩
  refine e_goto (tgt := 1029) dL_law_851 (by decide) ?_
  exact kont h2 hq2
end LW
