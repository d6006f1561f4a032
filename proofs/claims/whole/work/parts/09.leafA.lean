/-! leaves: JDK compares, Entry -/
def c3 (a b : Int) : Int32 := if a < b then -1 else if a = b then 0 else 1
theorem con_icmp (d : Nat) (h : xH) (x z : Int32) : x_D mJ6_compare_7cf53 d 0 0 [.int x, .int z] h [.int (c3 x.toInt z.toInt)] h := by
  refine e_enter (by decide) (Nat.le_of_ble_eq_true rfl) ?_
  refine e_iload_n dJ6_compare_7cf53_0 rfl ?_
  refine e_iload_n dJ6_compare_7cf53_1 rfl ?_
  refine e_icmp_ge (tgt := 9) dJ6_compare_7cf53_2 (by decide) (fun c1 => ?_) (fun c1 => ?_)
  · refine e_iload_n dJ6_compare_7cf53_9 rfl ?_
    refine e_iload_n dJ6_compare_7cf53_10 rfl ?_
    refine e_icmp_ne (tgt := 18) dJ6_compare_7cf53_11 (by decide) (fun c2 => ?_) (fun c2 => ?_)
    · refine e_iconst (v := 1) dJ6_compare_7cf53_18 (by decide) ?_
      refine e_iret dJ6_compare_7cf53_19 rfl rfl ⟨?_, rfl⟩
      have h1 : ¬ x.toInt < z.toInt := fun q => absurd (Int32.lt_iff_toInt_lt.mpr q) (Int32.not_lt.mpr c1)
      have h2 : ¬ x.toInt = z.toInt := fun q => c2 (Int32.toInt_inj.mp q)
      simp [c3, h1, h2]
    · refine e_iconst (v := 0) dJ6_compare_7cf53_14 (by decide) ?_
      refine e_goto (tgt := 19) dJ6_compare_7cf53_15 (by decide) ?_
      refine e_iret dJ6_compare_7cf53_19 rfl rfl ⟨?_, rfl⟩
      subst c2
      simp [c3]
  · refine e_iconst (v := (-1)) dJ6_compare_7cf53_5 (by decide) ?_
    refine e_goto (tgt := 19) dJ6_compare_7cf53_6 (by decide) ?_
    refine e_iret dJ6_compare_7cf53_19 rfl rfl ⟨?_, rfl⟩
    have h1 : x.toInt < z.toInt := Int32.lt_iff_toInt_lt.mp (Int32.not_le.mp c1)
    simp [c3, h1]
