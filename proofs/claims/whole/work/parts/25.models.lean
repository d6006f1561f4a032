/-! the reference: split, enter, level, the constructor -/
theorem ifp {b : Bool} {p q : Prop} (h : b = true) (x : p) : if b then p else q := by rw [if_pos h]; exact x
theorem ifn {b : Bool} {p q : Prop} (h : b = false) (x : q) : if b then p else q := by rw [if_neg (by rw [h]; exact Bool.false_ne_true)]; exact x
theorem con_splitT (d : Nat) (h : xH) (m level page num : Nat) {kv : Nat → xE} {it il lw ll : Nat → Nat} {ow : Nat → Bool} {cm : Nat → Nat} {ks ni nl lv tk : Nat} {se lf : Int32} {ub : Bool} {sd : Int32} {ck : Nat} {cb : Bool} {hn : Nat} (hm : x_mm h m (kv, it, il, lw, ll, ow, cm) (ks, ni, nl, lv, tk, se, lf, ub, sd, ck, cb, hn)) (hlv : lv = level + 1) (hl64 : level < 64) (hnl : nl + 1 < 60) (hni : ni + 1 < 600) : x_Con mX3_split (d + 1) 0 0 [.ref m, .int (nI level), .int (nI page), .int (nI num)] h (fun rv h' => x_mf m h h' ∧ (if (sW 145 (se, lf, ub)).1 then rv = [.int 1] ∧ x_mm h' m (kv, fu (fu it ni 0) (ni + 1) num, fu (fu il ni (level + 1)) (ni + 1) (level + 1), fu (fu lw nl num) (nl + 1) 0, fu (fu ll nl level) (nl + 1) (level + 1), (fun q => if q = nl + 1 then false else if q = nl then false else ow q), cm) (ks, ni + 1 + 1, nl + 1 + 1, lv + 1, tk, (sW 145 (se, lf, ub)).2.1, (sW 145 (se, lf, ub)).2.2.1, (sW 145 (se, lf, ub)).2.2.2, sd, ck, cb, hn)
    else rv = [.int 0] ∧ x_mm h' m (kv, it, il, lw, ll, ow, cm) (ks, ni, nl, lv, tk, (sW 145 (se, lf, ub)).2.1, (sW 145 (se, lf, ub)).2.2.1, (sW 145 (se, lf, ub)).2.2.2, sd, ck, cb, hn))) := by
  have m0 := hm.1
  refine e_enter (by decide) (Nat.le_of_ble_eq_true rfl) ?_
  refine e_iload_n dX3_split_0 rfl ?_
  refine e_aload_n dX3_split_1 rfl ?_
  refine e_get dX3_split_2 fX3_88 m0 rfl ?_
  refine e_iconst (v := 1) dX3_split_5 (by decide) ?_
  refine e_isub dX3_split_6 ?_
  refine e_icmp_ne (tgt := 64) dX3_split_7 (by decide) (fun c => absurd (by rw [hlv]; exact (nI_pred level).symm) c) (fun _ => ?_)
  refine e_aload_n dX3_split_10 rfl ?_
  refine e_sipush (v := 145) dX3_split_11 (by decide) ?_
  refine e_V1 dX3_split_14 gX3_94 m0 rfl (by omega) (Nat.le_of_ble_eq_true rfl) rfl rfl (con_set d h m 145 hm) ?_
  rintro _ h2 ⟨rfl, hm2, hf2⟩
  refine e_if_ne (tgt := 22) dX3_split_17 (by decide) (fun c => ?_) (fun c => ?_)
  · have hT := bI_nz c
    refine e_aload_n dX3_split_22 rfl ?_
    refine e_iload_n dX3_split_23 rfl ?_
    refine e_iload_n dX3_split_24 rfl ?_
    refine e_V2 dX3_split_25 gX3_98 hm2.1 rfl (by omega) (Nat.le_of_ble_eq_true rfl) rfl rfl (con_addPage d h2 m level num hm2 (by omega)) ?_
    rintro _ h3 ⟨rfl, hm3, hf3⟩
    have m0 := hm3.1
    refine e_aload_n dX3_split_28 rfl ?_
    refine e_dup dX3_split_29 rfl ?_
    refine e_get dX3_split_30 fX3_88 m0 rfl ?_
    refine e_iconst (v := 1) dX3_split_33 (by decide) ?_
    refine e_iadd dX3_split_34 ?_
    refine e_putM (s' := (ks, ni, nl + 1, lv + 1, tk, (sW 145 (se, lf, ub)).2.1, (sW 145 (se, lf, ub)).2.2.1, (sW 145 (se, lf, ub)).2.2.2, sd, ck, cb, hn)) dX3_split_35 fX3_88 m0 (by exact ⟨rfl, rfl⟩) (congrArg Value.int (nI_1 lv)) rfl ?_
    have hm4 := hm3.s (ks, ni, nl + 1, lv + 1, tk, (sW 145 (se, lf, ub)).2.1, (sW 145 (se, lf, ub)).2.2.1, (sW 145 (se, lf, ub)).2.2.2, sd, ck, cb, hn)
    refine e_aload_n dX3_split_38 rfl ?_
    refine e_iload_n dX3_split_39 rfl ?_
    refine e_iconst (v := 1) dX3_split_40 (by decide) ?_
    refine e_iadd dX3_split_41 ?_
    refine e_iconst (v := 0) dX3_split_42 (by decide) ?_
    rw [nI_1]
    refine e_V2 dX3_split_43 gX3_98 hm4.1 rfl (by omega) (Nat.le_of_ble_eq_true rfl) rfl rfl (con_addPage d _ m (level + 1) 0 hm4 (by omega)) ?_
    rintro _ h5 ⟨rfl, hm5, hf5⟩
    refine e_aload_n dX3_split_46 rfl ?_
    refine e_iload_n dX3_split_47 rfl ?_
    refine e_iconst (v := 1) dX3_split_48 (by decide) ?_
    refine e_iadd dX3_split_49 ?_
    refine e_iconst (v := 0) dX3_split_50 (by decide) ?_
    rw [nI_1]
    refine e_V2 dX3_split_51 gX3_102 hm5.1 rfl (by omega) (Nat.le_of_ble_eq_true rfl) rfl rfl (con_addItem d h5 m (level + 1) 0 hm5 (by omega)) ?_
    rintro _ h6 ⟨rfl, hm6, hf6⟩
    refine e_aload_n dX3_split_54 rfl ?_
    refine e_iload_n dX3_split_55 rfl ?_
    refine e_iconst (v := 1) dX3_split_56 (by decide) ?_
    refine e_iadd dX3_split_57 ?_
    refine e_iload_n dX3_split_58 rfl ?_
    rw [nI_1]
    refine e_V2 dX3_split_59 gX3_102 hm6.1 rfl (by omega) (Nat.le_of_ble_eq_true rfl) rfl rfl (con_addItem d h6 m (level + 1) num hm6 (by omega)) ?_
    rintro _ h7 ⟨rfl, hm7, hf7⟩
    refine e_iconst (v := 1) dX3_split_62 (by decide) ?_
    exact e_iret dX3_split_63 rfl rfl ⟨((((hf2.tr hf3).up0).tr hf5).tr hf6).tr hf7, ifp hT ⟨rfl, hm7⟩⟩
  · have hT := bI_z c
    refine e_iconst (v := 0) dX3_split_20 (by decide) ?_
    exact e_iret dX3_split_21 rfl rfl ⟨hf2, ifn hT ⟨rfl, hm2⟩⟩
theorem con_splitN (d : Nat) (h : xH) (m level page num : Nat) {kv : Nat → xE} {it il lw ll : Nat → Nat} {ow : Nat → Bool} {cm : Nat → Nat} {ks ni nl lv tk : Nat} {se lf : Int32} {ub : Bool} {sd : Int32} {ck : Nat} {cb : Bool} {hn : Nat} (hm : x_mm h m (kv, it, il, lw, ll, ow, cm) (ks, ni, nl, lv, tk, se, lf, ub, sd, ck, cb, hn)) (hlv : level + 1 < lv) (hl64 : lv < 64) (hnl : nl < 60) (hpg : page < 60) (q1 q2 : Bool × (Int32 × Int32 × Bool)) (e1 : q1 = sW 63 (se, lf, ub)) (e2 : q2 = sW 1 q1.2) : x_Con mX3_split (d + 1) 0 0 [.ref m, .int (nI level), .int (nI page), .int (nI num)] h (fun rv h' => x_mf m h h' ∧ (if q1.1 then (if q2.1 then rv = [.int 1] ∧ x_mm h' m (kv, it, il, fu lw nl num, fu ll nl level, (fun q => if q = nl then false else ow q), cm) (ks, ni, nl + 1, lv, tk, q2.2.1, q2.2.2.1, q2.2.2.2, sd, ck, cb, hn) else rv = [.int 0] ∧ x_mm h' m (kv, it, il, fu lw nl num, fu ll nl level, (fun q => if q = page then true else if q = nl then false else ow q), cm) (ks, ni, nl + 1, lv, tk, q2.2.1, q2.2.2.1, q2.2.2.2, sd, ck, cb, hn))
    else rv = [.int 0] ∧ x_mm h' m (kv, it, il, lw, ll, ow, cm) (ks, ni, nl, lv, tk, q1.2.1, q1.2.2.1, q1.2.2.2, sd, ck, cb, hn))) := by
  subst e1
  have m0 := hm.1
  obtain ⟨n', hn'⟩ : ∃ n', lv = n' + 1 := ⟨lv - 1, by omega⟩
  refine e_enter (by decide) (Nat.le_of_ble_eq_true rfl) ?_
  refine e_iload_n dX3_split_0 rfl ?_
  refine e_aload_n dX3_split_1 rfl ?_
  refine e_get dX3_split_2 fX3_88 m0 rfl ?_
  refine e_iconst (v := 1) dX3_split_5 (by decide) ?_
  refine e_isub dX3_split_6 ?_
  refine e_icmp_ne (tgt := 64) dX3_split_7 (by decide) (fun _ => ?_) (fun c => ?_)
  · refine e_aload_n dX3_split_64 rfl ?_
    refine e_bipush (v := 63) dX3_split_65 (by decide) ?_
    refine e_V1 dX3_split_67 gX3_94 m0 rfl (by omega) (Nat.le_of_ble_eq_true rfl) rfl rfl (con_set d h m 63 hm) ?_
    rintro _ h2 ⟨rfl, hm2, hf2⟩
    refine e_if_ne (tgt := 75) dX3_split_70 (by decide) (fun c => ?_) (fun c => ?_)
    · have hT := bI_nz c
      refine e_aload_n dX3_split_75 rfl ?_
      refine e_iload_n dX3_split_76 rfl ?_
      refine e_iload_n dX3_split_77 rfl ?_
      refine e_V2 dX3_split_78 gX3_98 hm2.1 rfl (by omega) (Nat.le_of_ble_eq_true rfl) rfl rfl (con_addPage d h2 m level num hm2 (by omega)) ?_
      rintro _ h3 ⟨rfl, hm3, hf3⟩
      refine e_aload_n dX3_split_81 rfl ?_
      refine e_iconst (v := 1) dX3_split_82 (by decide) ?_
      refine e_V1 dX3_split_83 gX3_94 hm3.1 rfl (by omega) (Nat.le_of_ble_eq_true rfl) rfl rfl (con_set d h3 m 1 hm3) ?_
      rintro _ h4 ⟨rfl, hm4, hf4⟩
      have hq : q2 = sW 1 ((sW 63 (se, lf, ub)).2.1, (sW 63 (se, lf, ub)).2.2.1, (sW 63 (se, lf, ub)).2.2.2) := e2
      rw [← hq] at hm4 ⊢
      refine e_if_eq (tgt := 91) dX3_split_86 (by decide) (fun c => ?_) (fun c => ?_)
      · have hT2 := bI_z c
        have m0 := hm4.1
        refine e_aload_n dX3_split_91 rfl ?_
        refine e_get dX3_split_92 fX3_42 m0 rfl ?_
        refine e_iload_n dX3_split_95 rfl ?_
        refine e_iconst (v := 1) dX3_split_96 (by decide) ?_
        refine e_zastF (z := true) dX3_split_97 hm4.2.2.2.2.2.2.2.2.2.2.1 rfl hpg rfl ?_
        refine e_iconst (v := 0) dX3_split_98 (by decide) ?_
        exact e_iret dX3_split_99 rfl rfl ⟨((hf2.tr hf3).tr hf4).up (by omega), ifp hT (ifn hT2 ⟨rfl, hm4.ow _⟩)⟩
      · have hT2 := bI_nz c
        refine e_iconst (v := 1) dX3_split_89 (by decide) ?_
        exact e_iret dX3_split_90 rfl rfl ⟨(hf2.tr hf3).tr hf4, ifp hT (ifp hT2 ⟨rfl, hm4⟩)⟩
    · have hT := bI_z c
      refine e_iconst (v := 0) dX3_split_73 (by decide) ?_
      exact e_iret dX3_split_74 rfl rfl ⟨hf2, ifn hT ⟨rfl, hm2⟩⟩
  · rw [hn', nI_pred] at c
    exact absurd ((nI_c (by omega) (by omega)).mp c) (by omega)
theorem ow_id {ow : Nat → Bool} {p : Nat} (h : ow p = false) : (fun q => if q = p then false else ow q) = ow := by
  funext q
  by_cases e : q = p
  · subst e; simp [h]
  · simp [e]
theorem con_enter (d : Nat) (h : xH) (m level num p0 : Nat) {kv : Nat → xE} {it il lw ll : Nat → Nat} {ow : Nat → Bool} {cm : Nat → Nat} {ks ni nl lv tk : Nat} {se lf : Int32} {ub : Bool} {sd : Int32} {ck : Nat} {cb : Bool} {hn : Nat} (hm : x_mm h m (kv, it, il, lw, ll, ow, cm) (ks, ni, nl, lv, tk, se, lf, ub, sd, ck, cb, hn)) (hB : mB it il lw ll ni nl) (hni : ni < 600) (hnum : num < 513) (hlev : level < 64) (hC : isC kv lw ll nl level num p0) (q1 q2 : Bool × (Int32 × Int32 × Bool)) (e1 : q1 = if ow p0 then sW 1 (se, lf, ub) else (true, se, lf, ub)) (e2 : q2 = sW 11 q1.2) : x_Con mX3_enter (d + 3) 0 0 [.ref m, .int (nI level), .int (nI num)] h (fun rv h' => x_mf m h h' ∧ (if q1.1 then (if q2.1 then rv = [.int 1] ∧ x_mm h' m (kv, fu it ni num, fu il ni level, lw, ll, (fun q => if q = p0 then false else ow q), cm) (ks, ni + 1, nl, lv, tk, q2.2.1, q2.2.2.1, q2.2.2.2, sd, ck, cb, hn) else rv = [.int 0] ∧ x_mm h' m (kv, it, il, lw, ll, (fun q => if q = p0 then false else ow q), cm) (ks, ni, nl, lv, tk, q2.2.1, q2.2.2.1, q2.2.2.2, sd, ck, cb, hn))
    else rv = [.int 0] ∧ x_mm h' m (kv, it, il, lw, ll, ow, cm) (ks, ni, nl, lv, tk, q1.2.1, q1.2.2.1, q1.2.2.2, sd, ck, cb, hn))) := by
  have m0 := hm.1
  have hp60 : p0 < 60 := by have := hC.1; have := hB.2.1; omega
  refine e_enter (by decide) (Nat.le_of_ble_eq_true rfl) ?_
  refine e_aload_n dX3_enter_0 rfl ?_
  refine e_iload_n dX3_enter_1 rfl ?_
  refine e_iload_n dX3_enter_2 rfl ?_
  refine e_V2d dX3_enter_3 gX3_75 m0 rfl (by omega) (Nat.le_of_ble_eq_true rfl) rfl rfl (con_inCharge (d := d) h m level num p0 hm hB hnum hlev hC) ?_
  have m10 := hm.2.2.2.2.2.2.2.2.2.2.1
  refine e_istore_n dX3_enter_6 (by decide) rfl ?_
  refine e_aload_n dX3_enter_7 rfl ?_
  refine e_get dX3_enter_8 fX3_42 m0 rfl ?_
  refine e_iload_n dX3_enter_11 rfl ?_
  refine e_zald dX3_enter_12 m10 rfl rfl (af_get _ hp60) ?_
  have rest : ∀ (l : List (Nat × Value)) (h2 : xH), x_lk l 0 = some (.ref m) → x_lk l 1 = some (.int (nI level)) → x_lk l 2 = some (.int (nI num)) → q1.1 = true → x_mm h2 m (kv, it, il, lw, ll, (fun q => if q = p0 then false else ow q), cm) (ks, ni, nl, lv, tk, q1.2.1, q1.2.2.1, q1.2.2.2, sd, ck, cb, hn) → x_mf m h h2 →
      x_E mX3_enter (d + 3) 0 0 33 l [] h2 (fun rv h' => x_mf m h h' ∧ (if q1.1 then (if q2.1 then rv = [.int 1] ∧ x_mm h' m (kv, fu it ni num, fu il ni level, lw, ll, (fun q => if q = p0 then false else ow q), cm) (ks, ni + 1, nl, lv, tk, q2.2.1, q2.2.2.1, q2.2.2.2, sd, ck, cb, hn) else rv = [.int 0] ∧ x_mm h' m (kv, it, il, lw, ll, (fun q => if q = p0 then false else ow q), cm) (ks, ni, nl, lv, tk, q2.2.1, q2.2.2.1, q2.2.2.2, sd, ck, cb, hn))
        else rv = [.int 0] ∧ x_mm h' m (kv, it, il, lw, ll, ow, cm) (ks, ni, nl, lv, tk, q1.2.1, q1.2.2.1, q1.2.2.2, sd, ck, cb, hn))) := by
    intro l h2 l0 l1 l2 hq1 hm2 hf2
    refine e_aload_n dX3_enter_33 l0 ?_
    refine e_bipush (v := 11) dX3_enter_34 (by decide) ?_
    refine e_V1 dX3_enter_36 gX3_94 hm2.1 rfl (by omega) (Nat.le_of_ble_eq_true rfl) rfl rfl (con_set (d + 2) h2 m 11 hm2) ?_
    rintro _ h3 ⟨rfl, hm3, hf3⟩
    have hq : q2 = sW 11 (q1.2.1, q1.2.2.1, q1.2.2.2) := e2
    rw [← hq] at hm3 ⊢
    refine e_if_ne (tgt := 44) dX3_enter_39 (by decide) (fun c => ?_) (fun c => ?_)
    · have hT := bI_nz c
      refine e_aload_n dX3_enter_44 l0 ?_
      refine e_iload_n dX3_enter_45 l1 ?_
      refine e_iload_n dX3_enter_46 l2 ?_
      refine e_V2 dX3_enter_47 gX3_102 hm3.1 rfl (by omega) (Nat.le_of_ble_eq_true rfl) rfl rfl (con_addItem (d + 2) h3 m level num hm3 hni) ?_
      rintro _ h4 ⟨rfl, hm4, hf4⟩
      refine e_iconst (v := 1) dX3_enter_50 (by decide) ?_
      exact e_iret dX3_enter_51 rfl rfl ⟨(hf2.tr hf3).tr hf4, ifp hq1 (ifp hT ⟨rfl, hm4⟩)⟩
    · have hT := bI_z c
      refine e_iconst (v := 0) dX3_enter_42 (by decide) ?_
      exact e_iret dX3_enter_43 rfl rfl ⟨hf2.tr hf3, ifp hq1 (ifn hT ⟨rfl, hm3⟩)⟩
  refine e_if_eq (tgt := 33) dX3_enter_13 (by decide) (fun c => ?_) (fun c => ?_)
  · have hO : ow p0 = false := bI_z c
    rw [hO, if_neg Bool.false_ne_true] at e1
    refine rest _ h rfl rfl rfl (by rw [e1]) ?_ x_mf.rf
    rw [ow_id hO, e1]
    exact hm
  · have hO : ow p0 = true := bI_nz c
    rw [hO, if_pos rfl] at e1
    refine e_aload_n dX3_enter_16 rfl ?_
    refine e_iconst (v := 1) dX3_enter_17 (by decide) ?_
    refine e_V1 dX3_enter_18 gX3_94 m0 rfl (by omega) (Nat.le_of_ble_eq_true rfl) rfl rfl (con_set (d + 2) h m 1 hm) ?_
    rintro _ h2 ⟨rfl, hm2, hf2⟩
    rw [← e1] at hm2 ⊢
    refine e_if_ne (tgt := 26) dX3_enter_21 (by decide) (fun c => ?_) (fun c => ?_)
    · have hT := bI_nz c
      have m0 := hm2.1
      refine e_aload_n dX3_enter_26 rfl ?_
      refine e_get dX3_enter_27 fX3_42 m0 rfl ?_
      refine e_iload_n dX3_enter_30 rfl ?_
      refine e_iconst (v := 0) dX3_enter_31 (by decide) ?_
      refine e_zastF (z := false) dX3_enter_32 hm2.2.2.2.2.2.2.2.2.2.2.1 rfl hp60 rfl ?_
      exact rest _ _ rfl rfl rfl hT (hm2.ow _) (hf2.up (by omega))
    · have hT := bI_z c
      refine e_iconst (v := 0) dX3_enter_24 (by decide) ?_
      exact e_iret dX3_enter_25 rfl rfl ⟨hf2, ifn hT ⟨rfl, hm2⟩⟩
