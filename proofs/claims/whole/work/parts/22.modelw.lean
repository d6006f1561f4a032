/-! the reference: more that reads, and what writes -/
theorem bI_z {b : Bool} (h : bI b = 0) : b = false := by
  cases b with
  | false => rfl
  | true => exact absurd h (by decide)
theorem bI_nz {b : Bool} (h : ¬ bI b = 0) : b = true := by
  cases b with
  | false => exact absurd rfl h
  | true => rfl
def mCl (m : Nat) (s : xS) : List Value := match s with
  | (ks, ni, nl, lv, tk, se, lf, ub, sd, ck, cb, hn) => [.ref (m + 1), .ref (m + 2), .ref (m + 3), .ref (m + 4), .ref (m + 5), .int (nI ks), .ref (m + 6), .ref (m + 7), .int (nI ni), .ref (m + 8), .ref (m + 9), .ref (m + 10), .int (nI nl), .int (nI lv), .int (nI tk), .int se, .int lf, .int (bI ub), .ref (m + 11), .int sd, .int (nI ck), .int (bI cb), .int (nI hn)]
theorem mC_l (m : Nat) (s : xS) : mC m s = .inr (3, mCl m s) := rfl
theorem e_putM {y : xM} {d kc ks0 pc : Nat} {l : List (Nat × Value)} {st : List Value} {h : xH} {Q : List Value → xH → Prop} {idx k m : Nat} {ty : FieldType} {s s' : xS} {v v' : Value} (hd : decode y.2.1 pc = .ok (.putfield idx, 3)) (hF : x_Fd y.1.cls idx 3 k ty false) (hm : h.2 m = some (mC m s)) (hv : x_ok ty v') (e : v = v') (he : (mCl m s).set k v' = mCl m s') (kk : x_E y d kc ks0 (pc + 3) l st (x_up h m (mC m s')) Q) : x_E y d kc ks0 pc l (v :: .ref m :: st) h Q := by
  subst e
  refine e_put (fs := mCl m s) hd hF hm hv ?_
  rw [he]
  exact kk
theorem x_mm.s {h : xH} {m : Nat} {A : xA} {s : xS} (hm : x_mm h m A s) (s' : xS) : x_mm (x_up h m (mC m s')) m A s' := by
  obtain ⟨kv, it, il, lw, ll, ow, cm⟩ := A
  obtain ⟨m0, m1, m2, m3, m4, m5, m6, m7, m8, m9, m10, m11⟩ := hm
  exact ⟨x_up_s _ _ _, x_up_n m1 (by omega), x_up_n m2 (by omega), x_up_n m3 (by omega), x_up_n m4 (by omega), x_up_n m5 (by omega), x_up_n m6 (by omega), x_up_n m7 (by omega), x_up_n m8 (by omega), x_up_n m9 (by omega), x_up_n m10 (by omega), x_up_n m11 (by omega)⟩
theorem x_mm.it {h : xH} {m : Nat} {s : xS} {kv : Nat → xE} {it il lw ll cm : Nat → Nat} {ow : Nat → Bool} (hm : x_mm h m (kv, it, il, lw, ll, ow, cm) s) (it' : Nat → Nat) : x_mm (x_up h (m + 6) (aI 600 it')) m (kv, it', il, lw, ll, ow, cm) s := by
  obtain ⟨m0, m1, m2, m3, m4, m5, m6, m7, m8, m9, m10, m11⟩ := hm
  exact ⟨x_up_n m0 (by omega), x_up_n m1 (by omega), x_up_n m2 (by omega), x_up_n m3 (by omega), x_up_n m4 (by omega), x_up_n m5 (by omega), x_up_s _ _ _, x_up_n m7 (by omega), x_up_n m8 (by omega), x_up_n m9 (by omega), x_up_n m10 (by omega), x_up_n m11 (by omega)⟩
theorem x_mm.il {h : xH} {m : Nat} {s : xS} {kv : Nat → xE} {it il lw ll cm : Nat → Nat} {ow : Nat → Bool} (hm : x_mm h m (kv, it, il, lw, ll, ow, cm) s) (il' : Nat → Nat) : x_mm (x_up h (m + 7) (aI 600 il')) m (kv, it, il', lw, ll, ow, cm) s := by
  obtain ⟨m0, m1, m2, m3, m4, m5, m6, m7, m8, m9, m10, m11⟩ := hm
  exact ⟨x_up_n m0 (by omega), x_up_n m1 (by omega), x_up_n m2 (by omega), x_up_n m3 (by omega), x_up_n m4 (by omega), x_up_n m5 (by omega), x_up_n m6 (by omega), x_up_s _ _ _, x_up_n m8 (by omega), x_up_n m9 (by omega), x_up_n m10 (by omega), x_up_n m11 (by omega)⟩
theorem x_mm.lw {h : xH} {m : Nat} {s : xS} {kv : Nat → xE} {it il lw ll cm : Nat → Nat} {ow : Nat → Bool} (hm : x_mm h m (kv, it, il, lw, ll, ow, cm) s) (lw' : Nat → Nat) : x_mm (x_up h (m + 8) (aI 60 lw')) m (kv, it, il, lw', ll, ow, cm) s := by
  obtain ⟨m0, m1, m2, m3, m4, m5, m6, m7, m8, m9, m10, m11⟩ := hm
  exact ⟨x_up_n m0 (by omega), x_up_n m1 (by omega), x_up_n m2 (by omega), x_up_n m3 (by omega), x_up_n m4 (by omega), x_up_n m5 (by omega), x_up_n m6 (by omega), x_up_n m7 (by omega), x_up_s _ _ _, x_up_n m9 (by omega), x_up_n m10 (by omega), x_up_n m11 (by omega)⟩
theorem x_mm.ll {h : xH} {m : Nat} {s : xS} {kv : Nat → xE} {it il lw ll cm : Nat → Nat} {ow : Nat → Bool} (hm : x_mm h m (kv, it, il, lw, ll, ow, cm) s) (ll' : Nat → Nat) : x_mm (x_up h (m + 9) (aI 60 ll')) m (kv, it, il, lw, ll', ow, cm) s := by
  obtain ⟨m0, m1, m2, m3, m4, m5, m6, m7, m8, m9, m10, m11⟩ := hm
  exact ⟨x_up_n m0 (by omega), x_up_n m1 (by omega), x_up_n m2 (by omega), x_up_n m3 (by omega), x_up_n m4 (by omega), x_up_n m5 (by omega), x_up_n m6 (by omega), x_up_n m7 (by omega), x_up_n m8 (by omega), x_up_s _ _ _, x_up_n m10 (by omega), x_up_n m11 (by omega)⟩
theorem x_mm.ow {h : xH} {m : Nat} {s : xS} {kv : Nat → xE} {it il lw ll cm : Nat → Nat} {ow : Nat → Bool} (hm : x_mm h m (kv, it, il, lw, ll, ow, cm) s) (ow' : Nat → Bool) : x_mm (x_up h (m + 10) (aZ 60 ow')) m (kv, it, il, lw, ll, ow', cm) s := by
  obtain ⟨m0, m1, m2, m3, m4, m5, m6, m7, m8, m9, m10, m11⟩ := hm
  exact ⟨x_up_n m0 (by omega), x_up_n m1 (by omega), x_up_n m2 (by omega), x_up_n m3 (by omega), x_up_n m4 (by omega), x_up_n m5 (by omega), x_up_n m6 (by omega), x_up_n m7 (by omega), x_up_n m8 (by omega), x_up_n m9 (by omega), x_up_s _ _ _, x_up_n m11 (by omega)⟩
theorem x_mm.cm {h : xH} {m : Nat} {s : xS} {kv : Nat → xE} {it il lw ll cm : Nat → Nat} {ow : Nat → Bool} (hm : x_mm h m (kv, it, il, lw, ll, ow, cm) s) (cm' : Nat → Nat) : x_mm (x_up h (m + 11) (aI 32 cm')) m (kv, it, il, lw, ll, ow, cm') s := by
  obtain ⟨m0, m1, m2, m3, m4, m5, m6, m7, m8, m9, m10, m11⟩ := hm
  exact ⟨x_up_n m0 (by omega), x_up_n m1 (by omega), x_up_n m2 (by omega), x_up_n m3 (by omega), x_up_n m4 (by omega), x_up_n m5 (by omega), x_up_n m6 (by omega), x_up_n m7 (by omega), x_up_n m8 (by omega), x_up_n m9 (by omega), x_up_n m10 (by omega), x_up_s _ _ _⟩
def kvu (kv : Nat → xE) (k : Nat) (e : xE) : Nat → xE := fun q => if q = k then e else kv q
theorem con_numbered (d : Nat) (h : xH) (m : Nat) (e : xE) {kv : Nat → xE} {it il lw ll : Nat → Nat} {ow : Nat → Bool} {cm : Nat → Nat} {ks ni nl lv tk : Nat} {se lf : Int32} {ub : Bool} {sd : Int32} {ck : Nat} {cb : Bool} {hn : Nat} (hm : x_mm h m (kv, it, il, lw, ll, ow, cm) (ks, ni, nl, lv, tk, se, lf, ub, sd, ck, cb, hn)) (hks : ks < 513) : x_Con mX3_numbered d 0 0 [.ref m, .long e.1, .long e.2.1, .long e.2.2.1, .long e.2.2.2.1, .int e.2.2.2.2] h (fun rv h' => rv = [.int (nI ks)] ∧ x_mm h' m (kvu kv ks e, it, il, lw, ll, ow, cm) (ks, ni, nl, lv, tk, se, lf, ub, sd, ck, cb, hn) ∧ x_mf m h h') := by
  obtain ⟨m0, m1, m2, m3, m4, m5, m6, m7, m8, m9, m10, m11⟩ := hm
  refine e_enter (by decide) (Nat.le_of_ble_eq_true rfl) ?_
  refine e_aload_n dX3_numbered_0 rfl ?_
  refine e_get dX3_numbered_1 fX3_7 m0 rfl ?_
  refine e_aload_n dX3_numbered_4 rfl ?_
  refine e_get dX3_numbered_5 fX3_26 m0 rfl ?_
  refine e_lload_n dX3_numbered_8 rfl ?_
  refine e_lastF dX3_numbered_9 m1 rfl hks ?_
  have m0 := x_up_n (a := m + 1) (c := aL 513 (fun q => if q = ks then e.1 else (kv q).1)) m0 (by omega)
  refine e_aload_n dX3_numbered_10 rfl ?_
  refine e_get dX3_numbered_11 fX3_13 m0 rfl ?_
  refine e_aload_n dX3_numbered_14 rfl ?_
  refine e_get dX3_numbered_15 fX3_26 m0 rfl ?_
  refine e_lload_n dX3_numbered_18 rfl ?_
  refine e_lastF dX3_numbered_19 (x_up_n m2 (by omega)) rfl hks ?_
  have m0 := x_up_n (a := m + 2) (c := aL 513 (fun q => if q = ks then e.2.1 else (kv q).2.1)) m0 (by omega)
  refine e_aload_n dX3_numbered_20 rfl ?_
  refine e_get dX3_numbered_21 fX3_16 m0 rfl ?_
  refine e_aload_n dX3_numbered_24 rfl ?_
  refine e_get dX3_numbered_25 fX3_26 m0 rfl ?_
  refine e_lload dX3_numbered_28 rfl ?_
  refine e_lastF dX3_numbered_30 (x_up_n (x_up_n m3 (by omega)) (by omega)) rfl hks ?_
  have m0 := x_up_n (a := m + 3) (c := aL 513 (fun q => if q = ks then e.2.2.1 else (kv q).2.2.1)) m0 (by omega)
  refine e_aload_n dX3_numbered_31 rfl ?_
  refine e_get dX3_numbered_32 fX3_19 m0 rfl ?_
  refine e_aload_n dX3_numbered_35 rfl ?_
  refine e_get dX3_numbered_36 fX3_26 m0 rfl ?_
  refine e_lload dX3_numbered_39 rfl ?_
  refine e_lastF dX3_numbered_41 (x_up_n (x_up_n (x_up_n m4 (by omega)) (by omega)) (by omega)) rfl hks ?_
  have m0 := x_up_n (a := m + 4) (c := aL 513 (fun q => if q = ks then e.2.2.2.1 else (kv q).2.2.2.1)) m0 (by omega)
  refine e_aload_n dX3_numbered_42 rfl ?_
  refine e_get dX3_numbered_43 fX3_22 m0 rfl ?_
  refine e_aload_n dX3_numbered_46 rfl ?_
  refine e_get dX3_numbered_47 fX3_26 m0 rfl ?_
  refine e_iload dX3_numbered_50 rfl ?_
  refine e_iastJ dX3_numbered_52 (x_up_n (x_up_n (x_up_n (x_up_n m5 (by omega)) (by omega)) (by omega)) (by omega)) rfl hks ?_
  have m0 := x_up_n (a := m + 5) (c := aJ 513 (fun q => if q = ks then e.2.2.2.2 else (kv q).2.2.2.2)) m0 (by omega)
  refine e_aload_n dX3_numbered_53 rfl ?_
  refine e_get dX3_numbered_54 fX3_26 m0 rfl ?_
  refine e_iret dX3_numbered_57 rfl rfl ⟨rfl, ⟨m0, ?_, ?_, ?_, ?_, ?_, ?_, ?_, ?_, ?_, ?_, ?_⟩, ?_⟩
  · rw [x_up_n (x_up_n (x_up_n (x_up_n (x_up_s _ _ _) (by omega)) (by omega)) (by omega)) (by omega)]
    congr 2; funext q; unfold kvu; by_cases hq : q = ks <;> simp [hq]
  · rw [x_up_n (x_up_n (x_up_n (x_up_s _ _ _) (by omega)) (by omega)) (by omega)]
    congr 2; funext q; unfold kvu; by_cases hq : q = ks <;> simp [hq]
  · rw [x_up_n (x_up_n (x_up_s _ _ _) (by omega)) (by omega)]
    congr 2; funext q; unfold kvu; by_cases hq : q = ks <;> simp [hq]
  · rw [x_up_n (x_up_s _ _ _) (by omega)]
    congr 2; funext q; unfold kvu; by_cases hq : q = ks <;> simp [hq]
  · rw [x_up_s]
    congr 2; funext q; unfold kvu; by_cases hq : q = ks <;> simp [hq]
  · exact x_up_n (x_up_n (x_up_n (x_up_n (x_up_n m6 (by omega)) (by omega)) (by omega)) (by omega)) (by omega)
  · exact x_up_n (x_up_n (x_up_n (x_up_n (x_up_n m7 (by omega)) (by omega)) (by omega)) (by omega)) (by omega)
  · exact x_up_n (x_up_n (x_up_n (x_up_n (x_up_n m8 (by omega)) (by omega)) (by omega)) (by omega)) (by omega)
  · exact x_up_n (x_up_n (x_up_n (x_up_n (x_up_n m9 (by omega)) (by omega)) (by omega)) (by omega)) (by omega)
  · exact x_up_n (x_up_n (x_up_n (x_up_n (x_up_n m10 (by omega)) (by omega)) (by omega)) (by omega)) (by omega)
  · exact x_up_n (x_up_n (x_up_n (x_up_n (x_up_n m11 (by omega)) (by omega)) (by omega)) (by omega)) (by omega)
  · exact ((((x_mf.rf.up (by omega)).up (by omega)).up (by omega)).up (by omega)).up (by omega)
theorem con_addPage (d : Nat) (h : xH) (m level num : Nat) {kv : Nat → xE} {it il lw ll : Nat → Nat} {ow : Nat → Bool} {cm : Nat → Nat} {ks ni nl lv tk : Nat} {se lf : Int32} {ub : Bool} {sd : Int32} {ck : Nat} {cb : Bool} {hn : Nat} (hm : x_mm h m (kv, it, il, lw, ll, ow, cm) (ks, ni, nl, lv, tk, se, lf, ub, sd, ck, cb, hn)) (hnl : nl < 60) : x_Con mX3_addPage d 0 0 [.ref m, .int (nI level), .int (nI num)] h (fun rv h' => rv = [] ∧ x_mm h' m (kv, it, il, fu lw nl num, fu ll nl level, (fun q => if q = nl then false else ow q), cm) (ks, ni, nl + 1, lv, tk, se, lf, ub, sd, ck, cb, hn) ∧ x_mf m h h') := by
  have m0 := hm.1
  refine e_enter (by decide) (Nat.le_of_ble_eq_true rfl) ?_
  refine e_aload_n dX3_addPage_0 rfl ?_
  refine e_get dX3_addPage_1 fX3_36 m0 rfl ?_
  refine e_aload_n dX3_addPage_4 rfl ?_
  refine e_get dX3_addPage_5 fX3_65 m0 rfl ?_
  refine e_iload_n dX3_addPage_8 rfl ?_
  refine e_iastI dX3_addPage_9 hm.2.2.2.2.2.2.2.2.1 rfl hnl rfl ?_
  have hm := hm.lw (fu lw nl num)
  have m0 := hm.1
  refine e_aload_n dX3_addPage_10 rfl ?_
  refine e_get dX3_addPage_11 fX3_39 m0 rfl ?_
  refine e_aload_n dX3_addPage_14 rfl ?_
  refine e_get dX3_addPage_15 fX3_65 m0 rfl ?_
  refine e_iload_n dX3_addPage_18 rfl ?_
  refine e_iastI dX3_addPage_19 hm.2.2.2.2.2.2.2.2.2.1 rfl hnl rfl ?_
  have hm := hm.ll (fu ll nl level)
  have m0 := hm.1
  refine e_aload_n dX3_addPage_20 rfl ?_
  refine e_get dX3_addPage_21 fX3_42 m0 rfl ?_
  refine e_aload_n dX3_addPage_24 rfl ?_
  refine e_get dX3_addPage_25 fX3_65 m0 rfl ?_
  refine e_iconst (v := 0) dX3_addPage_28 (by decide) ?_
  refine e_zastF (z := false) dX3_addPage_29 hm.2.2.2.2.2.2.2.2.2.2.1 rfl hnl rfl ?_
  have hm := hm.ow (fun q => if q = nl then false else ow q)
  have m0 := hm.1
  refine e_aload_n dX3_addPage_30 rfl ?_
  refine e_dup dX3_addPage_31 rfl ?_
  refine e_get dX3_addPage_32 fX3_65 m0 rfl ?_
  refine e_iconst (v := 1) dX3_addPage_35 (by decide) ?_
  refine e_iadd dX3_addPage_36 ?_
  refine e_putM (s' := (ks, ni, nl + 1, lv, tk, se, lf, ub, sd, ck, cb, hn)) dX3_addPage_37 fX3_65 m0 (by exact ⟨rfl, rfl⟩) (congrArg Value.int (nI_1 nl)) rfl ?_
  exact e_ret dX3_addPage_40 rfl ⟨rfl, hm.s _, (((x_mf.rf.up (by omega)).up (by omega)).up (by omega)).up0⟩
theorem con_addItem (d : Nat) (h : xH) (m level num : Nat) {kv : Nat → xE} {it il lw ll : Nat → Nat} {ow : Nat → Bool} {cm : Nat → Nat} {ks ni nl lv tk : Nat} {se lf : Int32} {ub : Bool} {sd : Int32} {ck : Nat} {cb : Bool} {hn : Nat} (hm : x_mm h m (kv, it, il, lw, ll, ow, cm) (ks, ni, nl, lv, tk, se, lf, ub, sd, ck, cb, hn)) (hni : ni < 600) : x_Con mX3_addItem d 0 0 [.ref m, .int (nI level), .int (nI num)] h (fun rv h' => rv = [] ∧ x_mm h' m (kv, fu it ni num, fu il ni level, lw, ll, ow, cm) (ks, ni + 1, nl, lv, tk, se, lf, ub, sd, ck, cb, hn) ∧ x_mf m h h') := by
  have m0 := hm.1
  refine e_enter (by decide) (Nat.le_of_ble_eq_true rfl) ?_
  refine e_aload_n dX3_addItem_0 rfl ?_
  refine e_get dX3_addItem_1 fX3_30 m0 rfl ?_
  refine e_aload_n dX3_addItem_4 rfl ?_
  refine e_get dX3_addItem_5 fX3_72 m0 rfl ?_
  refine e_iload_n dX3_addItem_8 rfl ?_
  refine e_iastI dX3_addItem_9 hm.2.2.2.2.2.2.1 rfl hni rfl ?_
  have hm := hm.it (fu it ni num)
  have m0 := hm.1
  refine e_aload_n dX3_addItem_10 rfl ?_
  refine e_get dX3_addItem_11 fX3_33 m0 rfl ?_
  refine e_aload_n dX3_addItem_14 rfl ?_
  refine e_get dX3_addItem_15 fX3_72 m0 rfl ?_
  refine e_iload_n dX3_addItem_18 rfl ?_
  refine e_iastI dX3_addItem_19 hm.2.2.2.2.2.2.2.1 rfl hni rfl ?_
  have hm := hm.il (fu il ni level)
  have m0 := hm.1
  refine e_aload_n dX3_addItem_20 rfl ?_
  refine e_dup dX3_addItem_21 rfl ?_
  refine e_get dX3_addItem_22 fX3_72 m0 rfl ?_
  refine e_iconst (v := 1) dX3_addItem_25 (by decide) ?_
  refine e_iadd dX3_addItem_26 ?_
  refine e_putM (s' := (ks, ni + 1, nl, lv, tk, se, lf, ub, sd, ck, cb, hn)) dX3_addItem_27 fX3_72 m0 (by exact ⟨rfl, rfl⟩) (congrArg Value.int (nI_1 ni)) rfl ?_
  exact e_ret dX3_addItem_30 rfl ⟨rfl, hm.s _, ((x_mf.rf.up (by omega)).up (by omega)).up0⟩
/-- words are set: (sets, left, unbounded) behind it, and whether all were -/
def sW (n : Int32) (q : Int32 × Int32 × Bool) : Bool × (Int32 × Int32 × Bool) := if q.2.2 then (true, q.1 + n, q.2.1, true) else if n ≤ q.2.1 then (true, q.1 + n, q.2.1 - n, false) else (false, q.1 + q.2.1, q.2.1, true)
theorem con_set (d : Nat) (h : xH) (m : Nat) (n : Int32) {kv : Nat → xE} {it il lw ll : Nat → Nat} {ow : Nat → Bool} {cm : Nat → Nat} {ks ni nl lv tk : Nat} {se lf : Int32} {ub : Bool} {sd : Int32} {ck : Nat} {cb : Bool} {hn : Nat} (hm : x_mm h m (kv, it, il, lw, ll, ow, cm) (ks, ni, nl, lv, tk, se, lf, ub, sd, ck, cb, hn)) : x_Con mX3_set d 0 0 [.ref m, .int n] h (fun rv h' => rv = [.int (bI (sW n (se, lf, ub)).1)] ∧ x_mm h' m (kv, it, il, lw, ll, ow, cm) (ks, ni, nl, lv, tk, (sW n (se, lf, ub)).2.1, (sW n (se, lf, ub)).2.2.1, (sW n (se, lf, ub)).2.2.2, sd, ck, cb, hn) ∧ x_mf m h h') := by
  have m0 := hm.1
  refine e_enter (by decide) (Nat.le_of_ble_eq_true rfl) ?_
  refine e_aload_n dX3_set_0 rfl ?_
  refine e_get dX3_set_1 fX3_49 m0 rfl ?_
  refine e_if_eq (tgt := 19) dX3_set_4 (by decide) (fun c1 => ?_) (fun c1 => ?_)
  · have hub : ub = false := bI_z c1
    subst hub
    refine e_iload_n dX3_set_19 rfl ?_
    refine e_aload_n dX3_set_20 rfl ?_
    refine e_get dX3_set_21 fX3_81 m0 rfl ?_
    refine e_icmp_gt (tgt := 49) dX3_set_24 (by decide) (fun c2 => ?_) (fun c2 => ?_)
    · have e0 : sW n (se, lf, false) = (false, se + lf, lf, true) := by unfold sW; rw [if_neg Bool.false_ne_true, if_neg (Int32.not_le.mpr c2)]
      rw [e0]
      refine e_aload_n dX3_set_49 rfl ?_
      refine e_dup dX3_set_50 rfl ?_
      refine e_get dX3_set_51 fX3_78 m0 rfl ?_
      refine e_aload_n dX3_set_54 rfl ?_
      refine e_get dX3_set_55 fX3_81 m0 rfl ?_
      refine e_iadd dX3_set_58 ?_
      refine e_putM (s' := (ks, ni, nl, lv, tk, se + lf, lf, false, sd, ck, cb, hn)) dX3_set_59 fX3_78 m0 (by exact ⟨rfl, rfl⟩) rfl rfl ?_
      have hm := hm.s (ks, ni, nl, lv, tk, se + lf, lf, false, sd, ck, cb, hn)
      have m0 := hm.1
      refine e_aload_n dX3_set_62 rfl ?_
      refine e_iconst (v := 1) dX3_set_63 (by decide) ?_
      refine e_putM (s' := (ks, ni, nl, lv, tk, se + lf, lf, true, sd, ck, cb, hn)) dX3_set_64 fX3_49 m0 (by exact ⟨rfl, rfl⟩) rfl rfl ?_
      refine e_iconst (v := 0) dX3_set_67 (by decide) ?_
      exact e_iret dX3_set_68 rfl rfl ⟨rfl, hm.s _, x_mf.rf.up0.up0⟩
    · have e0 : sW n (se, lf, false) = (true, se + n, lf - n, false) := by unfold sW; rw [if_neg Bool.false_ne_true, if_pos (Int32.not_lt.mp c2)]
      rw [e0]
      refine e_aload_n dX3_set_27 rfl ?_
      refine e_dup dX3_set_28 rfl ?_
      refine e_get dX3_set_29 fX3_78 m0 rfl ?_
      refine e_iload_n dX3_set_32 rfl ?_
      refine e_iadd dX3_set_33 ?_
      refine e_putM (s' := (ks, ni, nl, lv, tk, se + n, lf, false, sd, ck, cb, hn)) dX3_set_34 fX3_78 m0 (by exact ⟨rfl, rfl⟩) rfl rfl ?_
      have hm := hm.s (ks, ni, nl, lv, tk, se + n, lf, false, sd, ck, cb, hn)
      have m0 := hm.1
      refine e_aload_n dX3_set_37 rfl ?_
      refine e_dup dX3_set_38 rfl ?_
      refine e_get dX3_set_39 fX3_81 m0 rfl ?_
      refine e_iload_n dX3_set_42 rfl ?_
      refine e_isub dX3_set_43 ?_
      refine e_putM (s' := (ks, ni, nl, lv, tk, se + n, lf - n, false, sd, ck, cb, hn)) dX3_set_44 fX3_81 m0 (by exact ⟨rfl, rfl⟩) rfl rfl ?_
      refine e_iconst (v := 1) dX3_set_47 (by decide) ?_
      exact e_iret dX3_set_48 rfl rfl ⟨rfl, hm.s _, x_mf.rf.up0.up0⟩
  · have hub : ub = true := bI_nz c1
    subst hub
    have e0 : sW n (se, lf, true) = (true, se + n, lf, true) := by unfold sW; rw [if_pos rfl]
    rw [e0]
    refine e_aload_n dX3_set_7 rfl ?_
    refine e_dup dX3_set_8 rfl ?_
    refine e_get dX3_set_9 fX3_78 m0 rfl ?_
    refine e_iload_n dX3_set_12 rfl ?_
    refine e_iadd dX3_set_13 ?_
    refine e_putM (s' := (ks, ni, nl, lv, tk, se + n, lf, true, sd, ck, cb, hn)) dX3_set_14 fX3_78 m0 (by exact ⟨rfl, rfl⟩) rfl rfl ?_
    refine e_iconst (v := 1) dX3_set_17 (by decide) ?_
    exact e_iret dX3_set_18 rfl rfl ⟨rfl, hm.s _, x_mf.rf.up0⟩
