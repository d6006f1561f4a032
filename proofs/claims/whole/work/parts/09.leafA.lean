/-! leaves: JDK compares, Entry -/
-- out of kit/laws/BITS.to-paste.lean.txt (a text for pasting): Int64 as an unsigned number
def uN (x : Int64) : Nat := x.toUInt64.toNat
theorem uN_lt (x : Int64) : uN x < 18446744073709551616 := x.toUInt64.toNat_lt
theorem uN_inj {x y : Int64} (h : uN x = uN y) : x = y := congrArg UInt64.toInt64 (UInt64.toNat_inj.mp h)
theorem uN_add (x y : Int64) : uN (x + y) = (uN x + uN y) % 18446744073709551616 := by
  show (x.toUInt64 + y.toUInt64).toNat = _
  exact UInt64.toNat_add _ _
theorem nat_xor {a : Nat} (h : a < 18446744073709551616) : a ^^^ 2 ^ 63 = (a + 9223372036854775808) % 18446744073709551616 := by
  have h1 : (a ^^^ 2 ^ 63) % 2 ^ 63 = a % 2 ^ 63 := by rw [Nat.xor_mod_two_pow, Nat.mod_self, Nat.xor_zero]
  have h2 : (a ^^^ 2 ^ 63) / 2 ^ 63 = (a / 2 ^ 63) ^^^ 1 := by rw [Nat.xor_div_two_pow, Nat.div_self (Nat.two_pow_pos 63)]
  have h3 : a / 2 ^ 63 = 0 ∨ a / 2 ^ 63 = 1 := by omega
  generalize a ^^^ 2 ^ 63 = t at h1 h2
  rcases h3 with h3 | h3
  · rw [h3] at h2
    have h2 : t / 2 ^ 63 = 1 := h2
    omega
  · rw [h3] at h2
    have h2 : t / 2 ^ 63 = 0 := h2
    omega
theorem uN_xor (x : Int64) : uN (x ^^^ (-9223372036854775808)) = (uN x + 9223372036854775808) % 18446744073709551616 := by
  rw [← nat_xor (uN_lt x)]
  exact UInt64.toNat_xor _ _
theorem uN_int (x : Int64) : x.toInt = if 2 * uN x < 18446744073709551616 then (uN x : Int) else (uN x : Int) - 18446744073709551616 := BitVec.toInt_eq_toNat_cond _
-- own rows
def c3 (a b : Int) : Int32 := if a < b then -1 else if a = b then 0 else 1
theorem con_icmp (d : Nat) (h : xH) (x z : Int32) : x_D mJ6_compare_7cf53 d 0 0 [.int x, .int z] h [.int (c3 x.toInt z.toInt)] h := by
  refine e_enter (by decide) (Nat.le_of_ble_eq_true rfl) ?_
  refine e_iload_n dJ6_compare_7cf53_0 rfl ?_
  refine e_iload_n dJ6_compare_7cf53_1 rfl ?_
  refine e_icmp_ge (tgt := 9) dJ6_compare_7cf53_2 (by decide) (fun c1 => ?_) (fun c1 => ?_)
  · refine e_iload_n dJ6_compare_7cf53_9 rfl ?_
    refine e_iload_n dJ6_compare_7cf53_10 rfl ?_
    refine e_icmp_ne (tgt := 18) dJ6_compare_7cf53_11 (by decide) (fun c2 => ?_) (fun c2 => ?_)
    · refine e_iconst (v := 1) dJ6_compare_7cf53_18 (by decide) ?_
      refine e_iret dJ6_compare_7cf53_19 rfl rfl ⟨?_, rfl⟩
      have h1 : ¬ x.toInt < z.toInt := fun q => absurd (Int32.lt_iff_toInt_lt.mpr q) (Int32.not_lt.mpr c1)
      have h2 : ¬ x.toInt = z.toInt := fun q => c2 (Int32.toInt_inj.mp q)
      simp [c3, h1, h2]
    · refine e_iconst (v := 0) dJ6_compare_7cf53_14 (by decide) ?_
      refine e_goto (tgt := 19) dJ6_compare_7cf53_15 (by decide) ?_
      refine e_iret dJ6_compare_7cf53_19 rfl rfl ⟨?_, rfl⟩
      subst c2
      simp [c3]
  · refine e_iconst (v := (-1)) dJ6_compare_7cf53_5 (by decide) ?_
    refine e_goto (tgt := 19) dJ6_compare_7cf53_6 (by decide) ?_
    refine e_iret dJ6_compare_7cf53_19 rfl rfl ⟨?_, rfl⟩
    have h1 : x.toInt < z.toInt := Int32.lt_iff_toInt_lt.mp (Int32.not_le.mp c1)
    simp [c3, h1]

theorem c3_ge (x z : Int64) : (0 ≤ lg_cmp x z) ↔ ¬ x.toInt < z.toInt := by
  rw [lg_cmp_ge, Int64.le_iff_toInt_le]
  omega
theorem con_lcmp (d : Nat) (h : xH) (x z : Int64) : x_D mJ13_compare_74951 d 0 0 [.long x, .long z] h [.int (c3 x.toInt z.toInt)] h := by
  refine e_enter (by decide) (Nat.le_of_ble_eq_true rfl) ?_
  refine e_lload_n dJ13_compare_74951_0 rfl ?_
  refine e_lload_n dJ13_compare_74951_1 rfl ?_
  refine e_lcmp dJ13_compare_74951_2 ?_
  refine e_if_ge (tgt := 10) dJ13_compare_74951_3 (by decide) (fun c1 => ?_) (fun c1 => ?_)
  · refine e_lload_n dJ13_compare_74951_10 rfl ?_
    refine e_lload_n dJ13_compare_74951_11 rfl ?_
    refine e_lcmp dJ13_compare_74951_12 ?_
    refine e_if_ne (tgt := 20) dJ13_compare_74951_13 (by decide) (fun c2 => ?_) (fun c2 => ?_)
    · refine e_iconst (v := 1) dJ13_compare_74951_20 (by decide) ?_
      refine e_iret dJ13_compare_74951_21 rfl rfl ⟨?_, rfl⟩
      have h1 := (c3_ge x z).mp c1
      have h2 : ¬ x.toInt = z.toInt := fun q => c2 ((lg_cmp_eq x z).mpr (Int64.toInt_inj.mp q))
      simp [c3, h1, h2]
    · refine e_iconst (v := 0) dJ13_compare_74951_16 (by decide) ?_
      refine e_goto (tgt := 21) dJ13_compare_74951_17 (by decide) ?_
      refine e_iret dJ13_compare_74951_21 rfl rfl ⟨?_, rfl⟩
      have c2 := (lg_cmp_eq x z).mp c2
      subst c2
      simp [c3]
  · refine e_iconst (v := (-1)) dJ13_compare_74951_6 (by decide) ?_
    refine e_goto (tgt := 21) dJ13_compare_74951_7 (by decide) ?_
    refine e_iret dJ13_compare_74951_21 rfl rfl ⟨?_, rfl⟩
    have h1 : x.toInt < z.toInt := by
      by_cases q : x.toInt < z.toInt
      · exact q
      · exact absurd ((c3_ge x z).mpr q) c1
    simp [c3, h1]
theorem uN_off (x : Int64) : (x + (-9223372036854775808)).toInt = (uN x : Int) - 9223372036854775808 := by
  have hx := uN_lt x
  rw [uN_int, uN_add]
  have e : uN (-9223372036854775808) = 9223372036854775808 := by decide +kernel
  rw [e]
  omega
theorem uN_offx (x : Int64) : (x ^^^ (-9223372036854775808)).toInt = (uN x : Int) - 9223372036854775808 := by
  have hx := uN_lt x
  rw [uN_int, uN_xor]
  omega
theorem c3_sh (a b k : Int) : c3 (a - k) (b - k) = c3 a b := by
  unfold c3
  by_cases h : a < b
  · rw [if_pos h, if_pos (by omega)]
  · rw [if_neg h, if_neg (by omega)]
    by_cases h2 : a = b
    · rw [if_pos h2, if_pos (by omega)]
    · rw [if_neg h2, if_neg (by omega)]
theorem con_ucmp (d : Nat) (h : xH) (x z : Int64) : x_D mJ13_compareUnsigned_74951 (d + 1) 0 0 [.long x, .long z] h [.int (c3 (uN x) (uN z))] h := by
  refine e_enter (by decide) (Nat.le_of_ble_eq_true rfl) ?_
  refine e_lload_n dJ13_compareUnsigned_74951_0 rfl ?_
  refine e_ldc2 dJ13_compareUnsigned_74951_1 vJ13_168 ?_
  refine e_ladd dJ13_compareUnsigned_74951_4 ?_
  refine e_lload_n dJ13_compareUnsigned_74951_5 rfl ?_
  refine e_ldc2 dJ13_compareUnsigned_74951_6 vJ13_168 ?_
  refine e_ladd dJ13_compareUnsigned_74951_9 ?_
  refine e_S2d dJ13_compareUnsigned_74951_10 gJ13_302 (by omega) (Nat.le_of_ble_eq_true rfl) rfl rfl (con_lcmp d h _ _) ?_
  refine e_iret dJ13_compareUnsigned_74951_13 rfl rfl ⟨?_, rfl⟩
  rw [uN_off, uN_off, c3_sh]
/-! keys: a tuple is a number -/
abbrev xE : Type := Int64 × Int64 × Int64 × Int64 × Int32
def pl (e : xE) : Nat := (e.2.2.2.2.toInt + 2147483648).toNat
def od (e : xE) : Nat := (((uN e.1 * 18446744073709551616 + uN e.2.1) * 18446744073709551616 + uN e.2.2.1) * 18446744073709551616 + uN e.2.2.2.1) * 4294967296 + pl e
theorem pl_lt (e : xE) : pl e < 4294967296 ∧ (pl e : Int) = e.2.2.2.2.toInt + 2147483648 := by
  have h1 := Int32.le_toInt e.2.2.2.2
  have h2 := Int32.toInt_lt e.2.2.2.2
  unfold pl
  omega
def eC (e : xE) : xC := .inr (0, [.long e.1, .long e.2.1, .long e.2.2.1, .long e.2.2.2.1, .int e.2.2.2.2])
theorem c3_lt {a b : Int} (h : a < b) : c3 a b = -1 := by unfold c3; rw [if_pos h]
theorem c3_gt {a b : Int} (h : b < a) : c3 a b = 1 := by unfold c3; rw [if_neg (by omega), if_neg (by omega)]
theorem c3_rf (a : Int) : c3 a a = 0 := by unfold c3; rw [if_neg (by omega), if_pos rfl]
theorem c3_lex {a b a' b' M : Nat} (hb : b < M) (hb' : b' < M) : c3 ((a * M + b : Nat) : Int) ((a' * M + b' : Nat) : Int) = if c3 a a' = 0 then c3 b b' else c3 a a' := by
  have key : ∀ p q : Nat, p < q → p * M + M ≤ q * M := fun p q h => by
    have := Nat.mul_le_mul_right M (Nat.succ_le_of_lt h)
    rw [Nat.succ_mul] at this
    exact this
  rcases Nat.lt_trichotomy a a' with h | h | h
  · have := key a a' h
    rw [c3_lt (show ((a * M + b : Nat) : Int) < ((a' * M + b' : Nat) : Int) by omega), c3_lt (show (a : Int) < (a' : Int) by omega), if_neg (by decide)]
  · subst h
    rw [c3_rf, if_pos rfl]
    rcases Nat.lt_trichotomy b b' with h2 | h2 | h2
    · rw [c3_lt (show ((a * M + b : Nat) : Int) < ((a * M + b' : Nat) : Int) by omega), c3_lt (show (b : Int) < (b' : Int) by omega)]
    · subst h2
      rw [c3_rf, c3_rf]
    · rw [c3_gt (show ((a * M + b' : Nat) : Int) < ((a * M + b : Nat) : Int) by omega), c3_gt (show (b' : Int) < (b : Int) by omega)]
  · have := key a' a h
    rw [c3_gt (show ((a' * M + b' : Nat) : Int) < ((a * M + b : Nat) : Int) by omega), c3_gt (show (a' : Int) < (a : Int) by omega), if_neg (by decide)]
theorem c3_z {a b : Int} : c3 a b = 0 ↔ a = b := by
  unfold c3
  by_cases h : a < b
  · rw [if_pos h]; constructor
    · intro q; exact absurd q (by decide)
    · intro q; omega
  · rw [if_neg h]
    by_cases h2 : a = b
    · rw [if_pos h2]; exact ⟨fun _ => h2, fun _ => rfl⟩
    · rw [if_neg h2]; constructor
      · intro q; exact absurd q (by decide)
      · intro q; exact absurd q h2
theorem c3_p {a b : Int} : 0 < c3 a b ↔ b < a := by
  unfold c3
  by_cases h : a < b
  · rw [if_pos h]; constructor
    · intro q; exact absurd q (by decide)
    · intro q; omega
  · rw [if_neg h]
    by_cases h2 : a = b
    · rw [if_pos h2]; constructor
      · intro q; exact absurd q (by decide)
      · intro q; omega
    · rw [if_neg h2]; constructor
      · intro q; omega
      · intro q; decide
theorem c3_n {a b : Int} : c3 a b < 0 ↔ a < b := by
  unfold c3
  by_cases h : a < b
  · rw [if_pos h]; exact ⟨fun _ => h, fun _ => by decide⟩
  · rw [if_neg h]
    by_cases h2 : a = b
    · rw [if_pos h2]; constructor
      · intro q; exact absurd q (by decide)
      · intro q; omega
    · rw [if_neg h2]; constructor
      · intro q; exact absurd q (by decide)
      · intro q; omega
theorem od_c3 (e f : xE) : c3 (od e) (od f) = if c3 (uN e.1) (uN f.1) = 0 then (if c3 (uN e.2.1) (uN f.2.1) = 0 then (if c3 (uN e.2.2.1) (uN f.2.2.1) = 0 then (if c3 (uN e.2.2.2.1) (uN f.2.2.2.1) = 0 then c3 e.2.2.2.2.toInt f.2.2.2.2.toInt else c3 (uN e.2.2.2.1) (uN f.2.2.2.1)) else c3 (uN e.2.2.1) (uN f.2.2.1)) else c3 (uN e.2.1) (uN f.2.1)) else c3 (uN e.1) (uN f.1) := by
  unfold od
  obtain ⟨p1, p2⟩ := pl_lt e
  obtain ⟨p3, p4⟩ := pl_lt f
  rw [c3_lex p1 p3, c3_lex (uN_lt _) (uN_lt _), c3_lex (uN_lt _) (uN_lt _), c3_lex (uN_lt _) (uN_lt _)]
  have hp : c3 (pl e) (pl f) = c3 e.2.2.2.2.toInt f.2.2.2.2.toInt := by
    rw [p2, p4, ← c3_sh _ _ 2147483648]
    congr 1 <;> omega
  rw [hp]
  by_cases h1 : c3 (uN e.1) (uN f.1) = 0
  · simp only [h1, if_true]
    by_cases h2 : c3 (uN e.2.1) (uN f.2.1) = 0
    · simp only [h2, if_true]
      by_cases h3 : c3 (uN e.2.2.1) (uN f.2.2.1) = 0
      · simp only [h3, if_true]
      · simp only [h3, if_false]
    · simp only [h2, if_false]
  · simp only [h1, if_false]
theorem od_inj {e f : xE} (h : od e = od f) : e = f := by
  have h0 : c3 (od e) (od f) = 0 := c3_z.mpr (by rw [h])
  rw [od_c3] at h0
  by_cases h1 : c3 (uN e.1) (uN f.1) = 0
  · simp only [h1, if_true] at h0
    by_cases h2 : c3 (uN e.2.1) (uN f.2.1) = 0
    · simp only [h2, if_true] at h0
      by_cases h3 : c3 (uN e.2.2.1) (uN f.2.2.1) = 0
      · simp only [h3, if_true] at h0
        by_cases h4 : c3 (uN e.2.2.2.1) (uN f.2.2.2.1) = 0
        · simp only [h4, if_true] at h0
          have a1 := uN_inj (Int.ofNat.inj (c3_z.mp h1))
          have a2 := uN_inj (Int.ofNat.inj (c3_z.mp h2))
          have a3 := uN_inj (Int.ofNat.inj (c3_z.mp h3))
          have a4 := uN_inj (Int.ofNat.inj (c3_z.mp h4))
          have a5 := Int32.toInt_inj.mp (c3_z.mp h0)
          obtain ⟨e1, e2, e3, e4, e5⟩ := e
          obtain ⟨f1, f2, f3, f4, f5⟩ := f
          simp only at a1 a2 a3 a4 a5
          subst a1 a2 a3 a4 a5
          rfl
        · simp only [h4, if_false] at h0
      · simp only [h3, if_false] at h0
    · simp only [h2, if_false] at h0
  · simp only [h1, if_false] at h0
