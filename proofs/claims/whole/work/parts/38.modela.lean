/-! the reference: plan, perform, add -/
section MA
variable {kv : Nat → xE} {it il lw ll : Nat → Nat} {ow : Nat → Bool} {cm : Nat → Nat} {ks ni nl tk : Nat} {sd : Int32} {ck : Nat} {cb : Bool} {hn : Nat} {q : qW} {S : Tr} {h : xH}
theorem con_filledS (d m l p0 : Nat) {s : xS} {c1 c2 : List Pg} {g : Pg} (hs : ∃ lv tk se lf ub, s = (ks, ni, nl, lv, tk, se, lf, ub, sd, ck, cb, hn)) (hm : x_mm h m (kv, it, il, lw, ll, ow, cm) s) (hR : RR S kv it il lw ll ow ks ni nl) (hT : trK S) (h60 : nPg S ≤ 60) (hks : ks ≤ 513) (hl : S[l]? = some (c1 ++ g :: c2)) (hp0 : p0 < nl) (hp1 : ll p0 = l) (hp2 : rk kv (lw p0) = g.1) : x_D mX3_filled (d + 3) 0 0 [.ref m, .int (nI p0)] h [.int (nI g.2.2.length)] h := by
  obtain ⟨lv, tk, se, lf, ub, rfl⟩ := hs
  obtain ⟨hB, h30⟩ := hR.mB hT h60 hks
  obtain ⟨ic, hic⟩ := rr_ic hR hT
  have k := con_filled d h m p0 ic hm hB hp0 (fun i hi e => by have := hic i hi; rw [e] at this; exact this)
  rw [hp1, rr_filled hR hT hic hl rfl hp0 hp1 hp2] at k
  exact k
theorem con_sixthS (d m l p0 x : Nat) {s : xS} {c1 c2 : List Pg} {g : Pg} (hs : ∃ lv tk se lf ub, s = (ks, ni, nl, lv, tk, se, lf, ub, sd, ck, cb, hn)) (hm : x_mm h m (kv, it, il, lw, ll, ow, cm) s) (hR : RR S kv it il lw ll ow ks ni nl) (hT : trK S) (h60 : nPg S ≤ 60) (hks : ks ≤ 513) (hl : S[l]? = some (c1 ++ g :: c2)) (hp0 : p0 < nl) (hp1 : ll p0 = l) (hp2 : rk kv (lw p0) = g.1) (hx : g.2.2[5]? = some x) : ∃ num, num < ks ∧ rk kv num = x ∧ x_D mX3_sixth (d + 3) 0 0 [.ref m, .int (nI p0)] h [.int (nI num)] h := by
  obtain ⟨lv, tk, se, lf, ub, rfl⟩ := hs
  obtain ⟨hB, h30⟩ := hR.mB hT h60 hks
  obtain ⟨ic, hic⟩ := rr_ic hR hT
  obtain ⟨i0, i1, i2, i3, i4, i5⟩ := rr_sixth hR hT hic hl rfl hp0 hp1 hp2 hx
  refine ⟨it i0, (hR.1 i0 i1).2, i2, con_sixth d h m p0 i0 ic hm hB hp0 (fun i hi e => by have := hic i hi; rw [e] at this; exact this) i1 ?_ ?_ ?_⟩
  · rw [hp1]; exact i3
  · rw [hp1]; exact i4
  · rw [hp1]; exact i5
end MA
section MA2
variable {kv : Nat → xE} {ks tk : Nat} {sd : Int32} {ck : Nat} {cb : Bool} {hn : Nat} {q : qW} {S : Tr}
theorem plan_lo (d m num top : Nat) (w : Nat → Nat) (rs : Bool) (h0 : xH) (hT : trK S) (h60 : nPg S ≤ 60) (hks : ks < 513) (hP : pth S w 0 top rs) :
    ∀ (k j : Nat) (x : Int32) (h : xH) (cm : Nat → Nat), x = nI j → j + k = top → x_mf m h0 h → MS h m S q kv cm ks tk sd ck cb hn → (∀ i, i ≤ j → rk kv (cm i) = w i ∧ cm i ≤ ks) →
    x_E mX3_plan (d + 4) 0 0 11 [(3, .int x), (2, .int x), (0, .ref m), (1, .int (nI num))] [] h (fun rv h' => rv = [.int (nI top)] ∧ x_mf m h0 h' ∧ ∃ cm', MS h' m S q kv cm' ks tk sd ck cb hn ∧ ∀ i, i ≤ top → rk kv (cm' i) = w i ∧ cm' i ≤ ks) := by
  intro k
  induction k with
  | zero =>
    intro j x h cm hx hj hf hM hc
    have ej : j = top := by omega
    subst ej
    obtain ⟨c1, g, c2, a1, a2, a3, a4, a5, a6⟩ := hP.2 j (by omega) (Nat.le_refl _)
    have a7 := a6 rfl
    have hM' := hM
    obtain ⟨it, il, lw, ll, ow, ni, nl, hm, hR⟩ := hM
    obtain ⟨hB, h30⟩ := hR.mB hT h60 (by omega)
    have hP1 := hP.1
    obtain ⟨e1, e2⟩ := hc j (Nat.le_refl _)
    obtain ⟨p0, hI, hp2, hpo⟩ := rr_isC hR hT (num := cm j) a1 (by rw [e1]; exact a2)
    have m0 := hm.1
    have m11 := hm.2.2.2.2.2.2.2.2.2.2.2
    refine e_iload_n dX3_plan_11 rfl ?_
    refine e_bipush (v := 31) dX3_plan_12 (by decide) ?_
    refine e_icmp_ge (tgt := 76) dX3_plan_14 (by decide) (fun c => absurd c (by rw [hx]; exact nI_ge (b := 31) (by omega) (by decide))) (fun _ => ?_)
    subst hx
    refine e_aload_n dX3_plan_17 rfl ?_
    refine e_iload_n dX3_plan_18 rfl ?_
    refine e_aload_n dX3_plan_19 rfl ?_
    refine e_get dX3_plan_20 fX3_46 m0 rfl ?_
    refine e_iload_n dX3_plan_23 rfl ?_
    refine e_iald dX3_plan_24 m11 rfl rfl (af_get _ (show j < 32 by omega)) ?_
    refine e_V2d dX3_plan_25 gX3_75 m0 rfl (by omega) (Nat.le_of_ble_eq_true rfl) rfl rfl (con_inCharge (d + 1) h m j (cm j) p0 hm hB (by omega) (by omega) hI) ?_
    refine e_istore dX3_plan_28 (by decide) rfl ?_
    refine e_aload_n dX3_plan_30 rfl ?_
    refine e_iload dX3_plan_31 rfl ?_
    refine e_V1d dX3_plan_33 gX3_84 m0 rfl (by omega) (Nat.le_of_ble_eq_true rfl) rfl rfl (con_filledS d m j p0 ⟨_, _, _, _, _, rfl⟩ hm hR hT h60 (by omega) a1 hI.1 hI.2.1 hp2) ?_
    refine e_bipush (v := 10) dX3_plan_36 (by decide) ?_
    have fin : x_E mX3_plan (d + 4) 0 0 51 [(2, .int (nI j))] [] h (fun rv h' => rv = [.int (nI j)] ∧ x_mf m h0 h' ∧ ∃ cm', MS h' m S q kv cm' ks tk sd ck cb hn ∧ ∀ i, i ≤ j → rk kv (cm' i) = w i ∧ cm' i ≤ ks) := by
      refine e_iload_n dX3_plan_51 rfl ?_
      exact e_iret dX3_plan_52 rfl rfl ⟨rfl, hf, cm, hM', hc⟩
    cases rs with
    | false =>
      have a8 : g.2.2.length < 10 := a7
      refine e_icmp_lt (tgt := 51) dX3_plan_38 (by decide) (fun _ => ?_) (fun c => absurd (nI_lt (b := 10) a8 (by decide)) c)
      exact e_loc [2] rfl fin
    | true =>
      have a8 : g.2.2.length = 10 ∧ j + 1 = S.length := a7
      refine e_icmp_lt (tgt := 51) dX3_plan_38 (by decide) (fun c => absurd c (by rw [a8.1]; decide)) (fun _ => ?_)
      refine e_iload_n dX3_plan_41 rfl ?_
      refine e_aload_n dX3_plan_42 rfl ?_
      refine e_get dX3_plan_43 fX3_88 m0 rfl ?_
      refine e_iconst (v := 1) dX3_plan_46 (by decide) ?_
      refine e_isub dX3_plan_47 ?_
      refine e_icmp_ne (tgt := 53) dX3_plan_48 (by decide) (fun c => absurd (by rw [← a8.2]; exact (nI_pred j).symm) c) (fun _ => ?_)
      exact e_loc [2] rfl fin
  | succ k ih =>
    intro j x h cm hx hj hf hM hc
    obtain ⟨c1, g, c2, a1, a2, a3, a4, a5, a6⟩ := hP.2 j (by omega) (by omega)
    obtain ⟨b1, b2⟩ := a5 (by omega)
    obtain ⟨it, il, lw, ll, ow, ni, nl, hm, hR⟩ := hM
    obtain ⟨hB, h30⟩ := hR.mB hT h60 (by omega)
    have hP1 := hP.1
    obtain ⟨e1, e2⟩ := hc j (Nat.le_refl _)
    obtain ⟨p0, hI, hp2, hpo⟩ := rr_isC hR hT (num := cm j) a1 (by rw [e1]; exact a2)
    obtain ⟨x5, hx1, hx2, hx3, hx4⟩ := full5 b1
    obtain ⟨num6, n1, n2, n3⟩ := con_sixthS (d := d) (h := h) (m := m) (l := j) (p0 := p0) (x := x5) ⟨_, _, _, _, _, rfl⟩ hm hR hT h60 (by omega) a1 hI.1 hI.2.1 hp2 hx1
    have m0 := hm.1
    have m11 := hm.2.2.2.2.2.2.2.2.2.2.2
    refine e_iload_n dX3_plan_11 rfl ?_
    refine e_bipush (v := 31) dX3_plan_12 (by decide) ?_
    refine e_icmp_ge (tgt := 76) dX3_plan_14 (by decide) (fun c => absurd c (by rw [hx]; exact nI_ge (b := 31) (by omega) (by decide))) (fun _ => ?_)
    subst hx
    refine e_aload_n dX3_plan_17 rfl ?_
    refine e_iload_n dX3_plan_18 rfl ?_
    refine e_aload_n dX3_plan_19 rfl ?_
    refine e_get dX3_plan_20 fX3_46 m0 rfl ?_
    refine e_iload_n dX3_plan_23 rfl ?_
    refine e_iald dX3_plan_24 m11 rfl rfl (af_get _ (show j < 32 by omega)) ?_
    refine e_V2d dX3_plan_25 gX3_75 m0 rfl (by omega) (Nat.le_of_ble_eq_true rfl) rfl rfl (con_inCharge (d + 1) h m j (cm j) p0 hm hB (by omega) (by omega) hI) ?_
    refine e_istore dX3_plan_28 (by decide) rfl ?_
    refine e_aload_n dX3_plan_30 rfl ?_
    refine e_iload dX3_plan_31 rfl ?_
    refine e_V1d dX3_plan_33 gX3_84 m0 rfl (by omega) (Nat.le_of_ble_eq_true rfl) rfl rfl (con_filledS d m j p0 ⟨_, _, _, _, _, rfl⟩ hm hR hT h60 (by omega) a1 hI.1 hI.2.1 hp2) ?_
    refine e_bipush (v := 10) dX3_plan_36 (by decide) ?_
    refine e_icmp_lt (tgt := 51) dX3_plan_38 (by decide) (fun c => absurd c (by rw [b1]; decide)) (fun _ => ?_)
    refine e_iload_n dX3_plan_41 rfl ?_
    refine e_aload_n dX3_plan_42 rfl ?_
    refine e_get dX3_plan_43 fX3_88 m0 rfl ?_
    refine e_iconst (v := 1) dX3_plan_46 (by decide) ?_
    refine e_isub dX3_plan_47 ?_
    obtain ⟨n', hn'⟩ : ∃ n', S.length = n' + 1 := ⟨S.length - 1, by omega⟩
    refine e_icmp_ne (tgt := 53) dX3_plan_48 (by decide) (fun _ => ?_) (fun c => ?_)
    · refine e_aload_n dX3_plan_53 rfl ?_
      refine e_get dX3_plan_54 fX3_46 m0 rfl ?_
      refine e_iload_n dX3_plan_57 rfl ?_
      refine e_iconst (v := 1) dX3_plan_58 (by decide) ?_
      refine e_iadd dX3_plan_59 ?_
      refine e_aload_n dX3_plan_60 rfl ?_
      refine e_iload dX3_plan_61 rfl ?_
      refine e_V1d dX3_plan_63 gX3_91 m0 rfl (by omega) (Nat.le_of_ble_eq_true rfl) rfl rfl (n3) ?_
      refine e_iastI dX3_plan_66 m11 (nI_1 j) (show j + 1 < 32 by omega) rfl ?_
      have hm2 := hm.cm (fu cm (j + 1) num6)
      refine e_iinc dX3_plan_67 rfl rfl (by decide) rfl ?_
      refine e_iinc dX3_plan_70 rfl rfl (by decide) rfl ?_
      refine e_goto (tgt := 11) dX3_plan_73 (by decide) ?_
      refine e_loc [3, 2, 0, 1] rfl (ih (j + 1) _ _ (fu cm (j + 1) num6) (nI_1 j) (by omega) (hf.up (by omega)) ⟨it, il, lw, ll, ow, ni, nl, hm2, hR⟩ (fun i hi => ?_))
      by_cases ei : i = j + 1
      · subst ei
        rw [fu_s]
        exact ⟨by rw [n2, b2, hx2], by omega⟩
      · rw [fu_n ei]
        exact hc i (by omega)
    · rw [hn', nI_pred] at c
      exact absurd ((nI_c (by omega) (by omega)).mp c) (by omega)
theorem con_plan (d m num top : Nat) (w : Nat → Nat) (rs : Bool) (h : xH) (cm : Nat → Nat) (hT : trK S) (h60 : nPg S ≤ 60) (hks : ks < 513) (hP : pth S w 0 top rs) (hM : MS h m S q kv cm ks tk sd ck cb hn) (hw : rk kv num = w 0) (hnum : num ≤ ks) : x_Con mX3_plan (d + 4) 0 0 [.ref m, .int (nI num)] h (fun rv h' => rv = [.int (nI top)] ∧ x_mf m h h' ∧ ∃ cm', MS h' m S q kv cm' ks tk sd ck cb hn ∧ ∀ i, i ≤ top → rk kv (cm' i) = w i ∧ cm' i ≤ ks) := by
  refine e_enter (by decide) (Nat.le_of_ble_eq_true rfl) ?_
  obtain ⟨it, il, lw, ll, ow, ni, nl, hm, hR⟩ := hM
  have m0 := hm.1
  have m11 := hm.2.2.2.2.2.2.2.2.2.2.2
  refine e_aload_n dX3_plan_0 rfl ?_
  refine e_get dX3_plan_1 fX3_46 m0 rfl ?_
  refine e_iconst (v := 0) dX3_plan_4 (by decide) ?_
  refine e_iload_n dX3_plan_5 rfl ?_
  refine e_iastI dX3_plan_6 m11 (j := 0) rfl (by omega) rfl ?_
  have hm2 := hm.cm (fu cm 0 num)
  refine e_iconst (v := 0) dX3_plan_7 (by decide) ?_
  refine e_istore_n dX3_plan_8 (by decide) rfl ?_
  refine e_iconst (v := 0) dX3_plan_9 (by decide) ?_
  refine e_istore_n dX3_plan_10 (by decide) rfl ?_
  refine e_loc [3, 2, 0, 1] rfl (plan_lo d m num top w rs h hT h60 hks hP top 0 0 _ (fu cm 0 num) rfl (by omega) (x_mf.rf.up (by omega)) ⟨it, il, lw, ll, ow, ni, nl, hm2, hR⟩ (fun i hi => ?_))
  have : i = 0 := by omega
  subst this
  rw [fu_s]
  exact ⟨hw, hnum⟩
end MA2
