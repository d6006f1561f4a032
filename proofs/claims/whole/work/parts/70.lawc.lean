/-! the law: its loop, and all of it -/
theorem and15 (a : Int32) : ∃ v, v < 16 ∧ a &&& 15 = nI v := by
  refine ⟨(a.toBitVec &&& 15#32).toNat, ?_, ?_⟩
  · rw [BitVec.toNat_and]
    have : a.toBitVec.toNat &&& (15#32).toNat ≤ 15 := Nat.and_le_right
    omega
  · refine Int32.toBitVec_inj.mp ?_
    show a.toBitVec &&& 15#32 = BitVec.ofNat 32 (a.toBitVec &&& 15#32).toNat
    rw [BitVec.ofNat_toNat]
    simp
section LC
variable {d n k5 : Nat} {xs : List Int32} {i ks : Nat} {h : xH} {Q : List Value → xH → Prop} {S : Tr} {tk : Nat} {q : qW} {cv : xE} {cb : Bool} {hv : xE}
theorem law_step (hi : i + 10 ≤ xs.length) (hks : ks ≤ 512) (hL : LI xs h S tk q cv cb hv ks) (kt : KT d n k5 xs i ks Q) : x_E mL_law (d + 80) (n + 1) (k5 + 5) 27 (lwL i) [] h Q := by
  have hs := hL.1.1
  refine e_aload_n dL_law_27 rfl ?_
  refine e_iload_n dL_law_28 rfl ?_
  refine e_sld dL_law_29 hs rfl (by omega) ?_
  refine e_bipush (v := 15) dL_law_30 (by decide) ?_
  refine e_iand dL_law_32 ?_
  obtain ⟨v, hv1, hv2⟩ := and15 (xs.getD i 0)
  rw [hv2]
  have hv : v = 0 ∨ v = 1 ∨ v = 2 ∨ v = 3 ∨ v = 4 ∨ v = 5 ∨ v = 6 ∨ v = 7 ∨ v = 8 ∨ v = 9 ∨ v = 10 ∨ v = 11 ∨ v = 12 ∨ v = 13 ∨ v = 14 ∨ v = 15 := by omega
  rcases hv with rfl | rfl | rfl | rfl | rfl | rfl | rfl | rfl | rfl | rfl | rfl | rfl | rfl | rfl | rfl | rfl
  · exact e_tableIn (tgt := 104) dL_law_33 (by decide) (by decide) rfl (by decide) (law_c0 hi hks hL kt)
  · exact e_tableIn (tgt := 295) dL_law_33 (by decide) (by decide) rfl (by decide) (law_c1 hi hks hL kt)
  · exact e_tableIn (tgt := 486) dL_law_33 (by decide) (by decide) rfl (by decide) (law_c2 hi hks hL kt)
  · exact e_tableIn (tgt := 677) dL_law_33 (by decide) (by decide) rfl (by decide) (law_c3 hi hks hL kt)
  · exact e_tableIn (tgt := 854) dL_law_33 (by decide) (by decide) rfl (by decide) (law_c4 hL kt)
  · exact e_tableIn (tgt := 865) dL_law_33 (by decide) (by decide) rfl (by decide) (law_c5 hL kt)
  · exact e_tableIn (tgt := 876) dL_law_33 (by decide) (by decide) rfl (by decide) (law_c6 hks hL kt)
  · exact e_tableIn (tgt := 889) dL_law_33 (by decide) (by decide) rfl (by decide) (law_c7 hks hL kt)
  · exact e_tableIn (tgt := 902) dL_law_33 (by decide) (by decide) rfl (by decide) (law_c8 hi hks hL kt)
  · exact e_tableIn (tgt := 926) dL_law_33 (by decide) (by decide) rfl (by decide) (law_c9 hks hL kt)
  · exact e_tableIn (tgt := 939) dL_law_33 (by decide) (by decide) rfl (by decide) (law_c10 hL kt)
  · exact e_tableIn (tgt := 950) dL_law_33 (by decide) (by decide) rfl (by decide) (law_c11 hi hL kt)
  · exact e_tableIn (tgt := 973) dL_law_33 (by decide) (by decide) rfl (by decide) (law_c12 hi hks hL kt)
  · exact e_tableIn (tgt := 996) dL_law_33 (by decide) (by decide) rfl (by decide) (law_c13 hi hks hL kt)
  · exact e_tableOut (tgt := 1029) dL_law_33 (Or.inr (by decide)) (by decide) (e_bud (Nat.le_succ n) (Nat.le_add_right k5 5) (kt _ _ _ _ _ _ _ _ hL (by omega)))
  · exact e_tableOut (tgt := 1029) dL_law_33 (Or.inr (by decide)) (by decide) (e_bud (Nat.le_succ n) (Nat.le_add_right k5 5) (kt _ _ _ _ _ _ _ _ hL (by omega)))
end LC
theorem len10 {a b : Nat} (ha : a < 5121) (hb : b < 5121) : nI a - 10 < nI b ↔ a < b + 10 := by
  rcases Nat.lt_or_ge a 10 with z | z
  · have h1 : nI a - 10 < 0 := by
      have : a = 0 ∨ a = 1 ∨ a = 2 ∨ a = 3 ∨ a = 4 ∨ a = 5 ∨ a = 6 ∨ a = 7 ∨ a = 8 ∨ a = 9 := by omega
      rcases this with rfl | rfl | rfl | rfl | rfl | rfl | rfl | rfl | rfl | rfl <;> decide
    have h2 : (0 : Int32) ≤ nI b := Int32.not_lt.mp (nI_pos (by omega))
    exact ⟨fun _ => by omega, fun _ => Int32.lt_of_lt_of_le h1 h2⟩
  · have e : nI a - 10 = nI (a - 10) := pk_sub (b := 10) z
    rw [e]
    constructor
    · intro y
      rcases Nat.lt_or_ge (a - 10) b with w | w
      · omega
      · exact absurd y (nI_nlt w (by omega))
    · intro y
      exact nI_lt (by omega) (by omega)
theorem law_loop (d : Nat) (xs : List Int32) (hlen : xs.length ≤ 5120) : ∀ (n i : Nat) (h : xH) (S : Tr) (tk : Nat) (q : qW) (cv : xE) (cb : Bool) (hv : xE) (ks : Nat), i + 10 * n ≤ xs.length → xs.length < i + 10 * n + 10 → 10 * ks ≤ i + 10 → LI xs h S tk q cv cb hv ks → x_E mL_law (d + 80) n (5 * n) 18 (lwL i) [] h (fun rv _ => rv = [.int 1]) := by
  intro n
  induction n with
  | zero =>
    intro i h S tk q cv cb hv ks h1 h2 h3 hL
    have hs := hL.1.1
    refine e_iload_n dL_law_18 rfl ?_
    refine e_aload_n dL_law_19 rfl ?_
    refine e_slen dL_law_20 hs rfl ?_
    refine e_bipush (v := 10) dL_law_21 (by decide) ?_
    refine e_isub dL_law_23 ?_
    refine e_icmp_gt (tgt := 1035) dL_law_24 (by decide) (fun _ => ?_) (fun z => absurd ((len10 (by omega) (by omega)).mpr (by omega)) z)
    refine e_iconst (v := 1) dL_law_1035 (by decide) ?_
    exact e_iret dL_law_1036 rfl rfl rfl
  | succ n ih =>
    intro i h S tk q cv cb hv ks h1 h2 h3 hL
    have hs := hL.1.1
    rw [Nat.mul_succ]
    refine e_iload_n dL_law_18 rfl ?_
    refine e_aload_n dL_law_19 rfl ?_
    refine e_slen dL_law_20 hs rfl ?_
    refine e_bipush (v := 10) dL_law_21 (by decide) ?_
    refine e_isub dL_law_23 ?_
    refine e_icmp_gt (tgt := 1035) dL_law_24 (by decide) (fun z => absurd ((len10 (by omega) (by omega)).mp z) (by omega)) (fun _ => ?_)
    refine law_step (by omega) (by omega) hL (fun h' S' tk' q' cv' cb' hv' ks' hL' hk' => ?_)
    refine e_iinc dL_law_1029 rfl rfl (by decide) rfl ?_
    refine e_goto (tgt := 18) dL_law_1032 (by decide) ?_
    have hk := ih (i + 10) h' S' tk' q' cv' cb' hv' ks' (by omega) (by omega) (by omega) hL'
    rw [lwL, ← nI_add i 10] at hk
    exact e_loc [3, 2, 1, 0] rfl hk
def h0L (xs : List Int32) : xH := (2, fun a => if a = 1 then some (.inl (5, xs.map Value.int)) else none)
theorem CL.ext {h h' : xH} {S : Tr} {tk : Nat} {q : qW} {cv : xE} {cb : Bool} {hv : xE} (hx : x_ext h h') (hL : CL h S tk q cv cb hv) : CL h' S tk q cv cb hv := by
  obtain ⟨ch, D, fu, ca, ha, hS, hI, hT, hcv, hok, hhv⟩ := hL
  exact ⟨ch, D, fu, ca, ha, hS.ext hx, hI, hT, hx _ _ hcv, hok, hx _ _ hhv⟩
theorem law_all (d : Nat) (xs : List Int32) (hlen : xs.length ≤ 5120) : x_E mL_law (d + 80) (xs.length / 10 + 197) (5 * (xs.length / 10) + 5706) 0 [(0, .ref 1)] [] (h0L xs) (fun rv _ => rv = [.int 1]) := by
  have hN0 : xN (h0L xs) := fun a ha => by
    have ha : 2 ≤ a := ha
    show (if a = 1 then _ else none) = none
    rw [if_neg (by omega)]
  refine e_new (kc' := xs.length / 10 + 196) (ks' := 5 * (xs.length / 10) + 5695) dL_law_0 nL_7 rfl rfl ?_
  refine e_dup dL_law_3 rfl ?_
  refine e_I0 (kc' := xs.length / 10 + 12) (ks' := 5 * (xs.length / 10) + 4000) dL_law_4 gL_9 (x_nw_s _ _) (by omega) (Nat.le_of_ble_eq_true rfl) rfl rfl (con_init d _ rfl (x_nw_s _ _) hN0.nw) ?_
  rintro _ h1 ⟨rfl, z1, z2, z3, z4⟩
  have a1 : h1.2 1 = some (.inl (5, xs.map Value.int)) := z2 1 (by omega)
  have a0 : h1.2 0 = none := z2 0 (by omega)
  refine e_astore_n dL_law_7 (by decide) rfl ?_
  refine e_new (kc' := xs.length / 10 + 11) (ks' := 5 * (xs.length / 10) + 3977) dL_law_8 nL_10 rfl rfl ?_
  rw [z1]
  have hs187 : ∀ c : xC, (x_nw h1 c).2 187 = some c := fun c => by rw [← z1]; exact x_nw_s _ _
  refine e_dup dL_law_11 rfl ?_
  refine e_I0 (kc' := xs.length / 10) (ks' := 5 * (xs.length / 10)) dL_law_12 gL_12 (hs187 _) (by omega) (Nat.le_of_ble_eq_true rfl) rfl rfl (con_minit d _ 187 (by show h1.1 + 1 = _; omega) (hs187 _)) ?_
  rintro _ h2 ⟨rfl, y1, y2, y3⟩
  have keep : ∀ (a : Nat) o, (a < 187 ∨ 199 ≤ a) → h1.2 a = o → h2.2 a = o := fun a o ha ho => (y2 a ha).trans (x_nw_n ho (by omega))
  have hx : x_ext h1 h2 := fun a c ha => by
    rcases Nat.lt_or_ge a 187 with w | w
    · exact keep a _ (Or.inl w) ha
    · rw [z3 a (by omega)] at ha
      cases ha
  refine e_astore_n dL_law_15 (by decide) rfl ?_
  refine e_iconst (v := 0) dL_law_16 (by decide) ?_
  refine e_istore_n dL_law_17 (by decide) rfl ?_
  refine e_loc [3, 2, 1, 0] rfl (law_loop d xs hlen (xs.length / 10) 0 h2 S0 1 (3, 0, true) lowE false (0, 0, 0, 0, 0) 1 (by omega) (by omega) (by omega) ⟨⟨keep 1 _ (by omega) a1, keep 0 _ (by omega) a0, fun a ha => keep a _ (by omega) (z3 a (by omega)), by omega⟩, z4.ext hx, _, _, _, _, _, _, y3, rfl, by omega, by omega, ?_⟩)
  have := cu_first (fun _ => (0, 0, 0, 0, 0)) 0 false
  rw [if_neg Bool.false_ne_true, Nat.add_zero]
  exact this
