/-! the reference: the cursor -/
theorem con_mcharge (d : Nat) (h : xH) (m : Nat) (n : Int32) {kv : Nat → xE} {it il lw ll : Nat → Nat} {ow : Nat → Bool} {cm : Nat → Nat} {ks ni nl lv tk : Nat} {se lf : Int32} {ub : Bool} {sd : Int32} {ck : Nat} {cb : Bool} {hn : Nat} (hm : x_mm h m (kv, it, il, lw, ll, ow, cm) (ks, ni, nl, lv, tk, se, lf, ub, sd, ck, cb, hn)) : x_Con mX3_charge d 0 0 [.ref m, .int n] h (fun rv h' => x_mf m h h' ∧ (if n < 0 ∨ 999 < n then rv = [.int 0] ∧ h' = h else rv = [.int 1] ∧ x_mm h' m (kv, it, il, lw, ll, ow, cm) (ks, ni, nl, lv, tk, se, n, false, sd, ck, cb, hn))) := by
  have m0 := hm.1
  refine e_enter (by decide) (Nat.le_of_ble_eq_true rfl) ?_
  refine e_iload_n dX3_charge_0 rfl ?_
  refine e_if_lt (tgt := 11) dX3_charge_1 (by decide) (fun c1 => ?_) (fun c1 => ?_)
  · refine e_iconst (v := 0) dX3_charge_11 (by decide) ?_
    exact e_iret dX3_charge_12 rfl rfl ⟨x_mf.rf, by rw [if_pos (Or.inl c1)]; exact ⟨rfl, rfl⟩⟩
  · refine e_iload_n dX3_charge_4 rfl ?_
    refine e_sipush (v := 999) dX3_charge_5 (by decide) ?_
    refine e_icmp_le (tgt := 13) dX3_charge_8 (by decide) (fun c2 => ?_) (fun c2 => ?_)
    · refine e_aload_n dX3_charge_13 rfl ?_
      refine e_iload_n dX3_charge_14 rfl ?_
      refine e_putM (s' := (ks, ni, nl, lv, tk, se, n, ub, sd, ck, cb, hn)) dX3_charge_15 fX3_81 m0 (by exact ⟨rfl, rfl⟩) rfl rfl ?_
      have hm := hm.s (ks, ni, nl, lv, tk, se, n, ub, sd, ck, cb, hn)
      have m0 := hm.1
      refine e_aload_n dX3_charge_18 rfl ?_
      refine e_iconst (v := 0) dX3_charge_19 (by decide) ?_
      refine e_putM (s' := (ks, ni, nl, lv, tk, se, n, false, sd, ck, cb, hn)) dX3_charge_20 fX3_49 m0 (by exact ⟨rfl, rfl⟩) rfl rfl ?_
      refine e_iconst (v := 1) dX3_charge_23 (by decide) ?_
      refine e_iret dX3_charge_24 rfl rfl ⟨x_mf.rf.up0.up0, ?_⟩
      rw [if_neg (fun q => q.elim c1 (fun q => absurd c2 (Int32.not_le.mpr q)))]
      exact ⟨rfl, hm.s _⟩
    · refine e_iconst (v := 0) dX3_charge_11 (by decide) ?_
      exact e_iret dX3_charge_12 rfl rfl ⟨x_mf.rf, by rw [if_pos (Or.inr (Int32.not_le.mp c2))]; exact ⟨rfl, rfl⟩⟩
theorem con_stand (d : Nat) (h : xH) (m num : Nat) (b : Bool) {kv : Nat → xE} {it il lw ll : Nat → Nat} {ow : Nat → Bool} {cm : Nat → Nat} {ks ni nl lv tk : Nat} {se lf : Int32} {ub : Bool} {sd : Int32} {ck : Nat} {cb : Bool} {hn : Nat} (hm : x_mm h m (kv, it, il, lw, ll, ow, cm) (ks, ni, nl, lv, tk, se, lf, ub, sd, ck, cb, hn)) : x_Con mX3_stand d 0 0 [.ref m, .int (nI num), .int (bI b)] h (fun rv h' => rv = [] ∧ x_mm h' m (kv, it, il, lw, ll, ow, cm) (ks, ni, nl, lv, tk, se, lf, ub, 0, num, b, hn) ∧ x_mf m h h') := by
  have m0 := hm.1
  refine e_enter (by decide) (Nat.le_of_ble_eq_true rfl) ?_
  refine e_aload_n dX3_stand_0 rfl ?_
  refine e_iconst (v := 0) dX3_stand_1 (by decide) ?_
  refine e_putM (s' := (ks, ni, nl, lv, tk, se, lf, ub, 0, ck, cb, hn)) dX3_stand_2 fX3_137 m0 (by exact ⟨rfl, rfl⟩) rfl rfl ?_
  have hm := hm.s (ks, ni, nl, lv, tk, se, lf, ub, 0, ck, cb, hn)
  have m0 := hm.1
  refine e_aload_n dX3_stand_5 rfl ?_
  refine e_iload_n dX3_stand_6 rfl ?_
  refine e_putM (s' := (ks, ni, nl, lv, tk, se, lf, ub, 0, num, cb, hn)) dX3_stand_7 fX3_140 m0 (by exact ⟨rfl, rfl⟩) rfl rfl ?_
  have hm := hm.s (ks, ni, nl, lv, tk, se, lf, ub, 0, num, cb, hn)
  have m0 := hm.1
  refine e_aload_n dX3_stand_10 rfl ?_
  refine e_iload_n dX3_stand_11 rfl ?_
  refine e_putM (s' := (ks, ni, nl, lv, tk, se, lf, ub, 0, num, b, hn)) dX3_stand_12 fX3_143 m0 (by cases b <;> exact ⟨rfl, rfl⟩) rfl rfl ?_
  exact e_ret dX3_stand_15 rfl ⟨rfl, hm.s _, x_mf.rf.up0.up0.up0⟩
theorem con_mfirst (d : Nat) (h : xH) (m : Nat) {kv : Nat → xE} {it il lw ll : Nat → Nat} {ow : Nat → Bool} {cm : Nat → Nat} {ks ni nl lv tk : Nat} {se lf : Int32} {ub : Bool} {sd : Int32} {ck : Nat} {cb : Bool} {hn : Nat} (hm : x_mm h m (kv, it, il, lw, ll, ow, cm) (ks, ni, nl, lv, tk, se, lf, ub, sd, ck, cb, hn)) : x_Con mX3_first d 0 0 [.ref m] h (fun rv h' => rv = [] ∧ x_mm h' m (kv, it, il, lw, ll, ow, cm) (ks, ni, nl, lv, tk, se, lf, ub, -1, ck, cb, hn) ∧ x_mf m h h') := by
  have m0 := hm.1
  refine e_enter (by decide) (Nat.le_of_ble_eq_true rfl) ?_
  refine e_aload_n dX3_first_0 rfl ?_
  refine e_iconst (v := (-1)) dX3_first_1 (by decide) ?_
  refine e_putM (s' := (ks, ni, nl, lv, tk, se, lf, ub, -1, ck, cb, hn)) dX3_first_2 fX3_137 m0 (by exact ⟨rfl, rfl⟩) rfl rfl ?_
  exact e_ret dX3_first_5 rfl ⟨rfl, hm.s _, x_mf.rf.up0⟩
theorem con_mlast (d : Nat) (h : xH) (m : Nat) {kv : Nat → xE} {it il lw ll : Nat → Nat} {ow : Nat → Bool} {cm : Nat → Nat} {ks ni nl lv tk : Nat} {se lf : Int32} {ub : Bool} {sd : Int32} {ck : Nat} {cb : Bool} {hn : Nat} (hm : x_mm h m (kv, it, il, lw, ll, ow, cm) (ks, ni, nl, lv, tk, se, lf, ub, sd, ck, cb, hn)) : x_Con mX3_last d 0 0 [.ref m] h (fun rv h' => rv = [] ∧ x_mm h' m (kv, it, il, lw, ll, ow, cm) (ks, ni, nl, lv, tk, se, lf, ub, 1, ck, cb, hn) ∧ x_mf m h h') := by
  have m0 := hm.1
  refine e_enter (by decide) (Nat.le_of_ble_eq_true rfl) ?_
  refine e_aload_n dX3_last_0 rfl ?_
  refine e_iconst (v := 1) dX3_last_1 (by decide) ?_
  refine e_putM (s' := (ks, ni, nl, lv, tk, se, lf, ub, 1, ck, cb, hn)) dX3_last_2 fX3_137 m0 (by exact ⟨rfl, rfl⟩) rfl rfl ?_
  exact e_ret dX3_last_5 rfl ⟨rfl, hm.s _, x_mf.rf.up0⟩
/-- is the key behind the cursor -/
def bh (kv : Nat → xE) (sd : Int32) (ck : Nat) (cb : Bool) (num : Nat) : Bool := if sd = 0 then decide (rk kv ck + (if cb then 1 else 0) ≤ rk kv num) else decide (sd < 0)
theorem con_behind (d : Nat) (h : xH) (m num : Nat) {kv : Nat → xE} {it il lw ll : Nat → Nat} {ow : Nat → Bool} {cm : Nat → Nat} {ks ni nl lv tk : Nat} {se lf : Int32} {ub : Bool} {sd : Int32} {ck : Nat} {cb : Bool} {hn : Nat} (hm : x_mm h m (kv, it, il, lw, ll, ow, cm) (ks, ni, nl, lv, tk, se, lf, ub, sd, ck, cb, hn)) (hnum : num < 513) (hck : ck < 513) : x_D mX3_behind (d + 2) 0 0 [.ref m, .int (nI num)] h [.int (bI (bh kv sd ck cb num))] h := by
  have m0 := hm.1
  refine e_enter (by decide) (Nat.le_of_ble_eq_true rfl) ?_
  refine e_aload_n dX3_behind_0 rfl ?_
  refine e_get dX3_behind_1 fX3_137 m0 rfl ?_
  refine e_if_eq (tgt := 20) dX3_behind_4 (by decide) (fun c1 => ?_) (fun c1 => ?_)
  · refine e_aload_n dX3_behind_20 rfl ?_
    refine e_iload_n dX3_behind_21 rfl ?_
    refine e_aload_n dX3_behind_22 rfl ?_
    refine e_get dX3_behind_23 fX3_140 m0 rfl ?_
    refine e_V2d dX3_behind_26 gX3_68 m0 rfl (by omega) (Nat.le_of_ble_eq_true rfl) rfl rfl (con_order d h m num ck hm hnum hck) ?_
    refine e_istore_n dX3_behind_29 (by decide) rfl ?_
    refine e_iload_n dX3_behind_30 rfl ?_
    refine e_if_gt (tgt := 45) dX3_behind_31 (by decide) (fun c2 => ?_) (fun c2 => ?_)
    · refine e_iconst (v := 1) dX3_behind_45 (by decide) ?_
      refine e_goto (tgt := 50) dX3_behind_46 (by decide) ?_
      refine e_iret dX3_behind_50 rfl rfl ⟨?_, rfl⟩
      have := c3_p.mp c2
      unfold bh
      rw [if_pos c1, decide_eq_true (by split <;> omega)]
      rfl
    · have hle : rk kv num ≤ rk kv ck := by
        rcases Nat.lt_or_ge (rk kv ck) (rk kv num) with q | q
        · exact absurd (c3_p.mpr (by omega)) c2
        · exact q
      refine e_iload_n dX3_behind_34 rfl ?_
      refine e_if_ne (tgt := 49) dX3_behind_35 (by decide) (fun c4 => ?_) (fun c4 => ?_)
      · refine e_iconst (v := 0) dX3_behind_49 (by decide) ?_
        refine e_iret dX3_behind_50 rfl rfl ⟨?_, rfl⟩
        have : rk kv num ≠ rk kv ck := fun q => c4 (c3_z.mpr (by rw [q]))
        unfold bh
        rw [if_pos c1, decide_eq_false (by split <;> omega)]
        rfl
      · have := c3_z.mp c4
        refine e_aload_n dX3_behind_38 rfl ?_
        refine e_get dX3_behind_39 fX3_143 m0 rfl ?_
        refine e_if_ne (tgt := 49) dX3_behind_42 (by decide) (fun c5 => ?_) (fun c5 => ?_)
        · have hcb := bI_nz c5
          refine e_iconst (v := 0) dX3_behind_49 (by decide) ?_
          refine e_iret dX3_behind_50 rfl rfl ⟨?_, rfl⟩
          unfold bh
          rw [if_pos c1, hcb, decide_eq_false (by rw [if_pos rfl]; omega)]
          rfl
        · have hcb := bI_z c5
          refine e_iconst (v := 1) dX3_behind_45 (by decide) ?_
          refine e_goto (tgt := 50) dX3_behind_46 (by decide) ?_
          refine e_iret dX3_behind_50 rfl rfl ⟨?_, rfl⟩
          unfold bh
          rw [if_pos c1, hcb, decide_eq_true (by rw [if_neg Bool.false_ne_true]; omega)]
          rfl
  · refine e_aload_n dX3_behind_7 rfl ?_
    refine e_get dX3_behind_8 fX3_137 m0 rfl ?_
    refine e_if_ge (tgt := 18) dX3_behind_11 (by decide) (fun c2 => ?_) (fun c2 => ?_)
    · refine e_iconst (v := 0) dX3_behind_18 (by decide) ?_
      refine e_iret dX3_behind_19 rfl rfl ⟨?_, rfl⟩
      unfold bh
      rw [if_neg c1, decide_eq_false (Int32.not_lt.mpr c2)]
      rfl
    · refine e_iconst (v := 1) dX3_behind_14 (by decide) ?_
      refine e_goto (tgt := 19) dX3_behind_15 (by decide) ?_
      refine e_iret dX3_behind_19 rfl rfl ⟨?_, rfl⟩
      unfold bh
      rw [if_neg c1, decide_eq_true (Int32.not_le.mp c2)]
      rfl

def is_next (kv : Nat → xE) (it il : Nat → Nat) (ni : Nat) (sd : Int32) (ck : Nat) (cb : Bool) (i0 : Nat) : Prop := i0 < ni ∧ il i0 = 0 ∧ bh kv sd ck cb (it i0) = true ∧ ∀ i, i < ni → il i = 0 → bh kv sd ck cb (it i) = true → i ≠ i0 → rk kv (it i0) < rk kv (it i)
theorem next_lo (d : Nat) (h : xH) (m : Nat) (o : Option Nat) {kv : Nat → xE} {it il lw ll : Nat → Nat} {ow : Nat → Bool} {cm : Nat → Nat} {ks ni nl lv tk : Nat} {se lf : Int32} {ub : Bool} {sd : Int32} {ck : Nat} {cb : Bool} {hn : Nat} (hm : x_mm h m (kv, it, il, lw, ll, ow, cm) (ks, ni, nl, lv, tk, se, lf, ub, sd, ck, cb, hn)) (hB : mB it il lw ll ni nl) (hck : ck < 513) (ho : ∀ i0, o = some i0 → is_next kv it il ni sd ck cb i0) (hno : o = none → ∀ i, i < ni → il i = 0 → ¬ (bh kv sd ck cb (it i) = true)) (Q : List Value → xH → Prop)
    (fin : ∀ l b, x_lk l 0 = some (.ref m) → x_lk l 1 = some (.int b) → (∀ i0, o = some i0 → b = nI (it i0)) → (o = none → b = -1) → x_E mX3_next (d + 3) 0 0 65 l [] h Q) :
    ∀ (k i : Nat) (x b : Int32), x = nI i → i + k = ni → (∀ i0, o = some i0 → i0 < i → b = nI (it i0)) → ((∀ i0, o = some i0 → ¬ i0 < i) → b = -1 ∨ ∃ q, q < i ∧ b = nI (it q) ∧ il q = 0 ∧ bh kv sd ck cb (it q) = true) →
    x_E mX3_next (d + 3) 0 0 4 [(2, .int x), (1, .int b), (0, .ref m)] [] h Q := by
  have hm' := hm
  have hB' := hB
  obtain ⟨m0, m1, m2, m3, m4, m5, m6, m7, m8, m9, m10, m11⟩ := hm
  obtain ⟨b1, b2, b3, b4⟩ := hB
  intro k
  induction k with
  | zero =>
    intro i x b hx hi i1 i2
    refine e_iload_n dX3_next_4 rfl ?_
    refine e_aload_n dX3_next_5 rfl ?_
    refine e_get dX3_next_6 fX3_72 m0 rfl ?_
    refine e_icmp_ge (tgt := 65) dX3_next_9 (by decide) (fun _ => ?_) (fun c => absurd (by rw [hx]; exact nI_le (by omega) (by omega)) c)
    refine fin _ b rfl rfl (fun i0 e => i1 i0 e ?_) (fun e => ?_)
    · have := (ho i0 e).1
      omega
    · rcases i2 (fun i0 q => by rw [e] at q; cases q) with r | ⟨q, q1, q2, q3, q4⟩
      · exact r
      · exact absurd q4 (hno e q (by omega) q3)
  | succ k ih =>
    intro i x b hx hi i1 i2
    obtain ⟨g1, g2⟩ := b3 i (by omega)
    have nxt : ∀ b', (∀ i0, o = some i0 → i0 < i + 1 → b' = nI (it i0)) → ((∀ i0, o = some i0 → ¬ i0 < i + 1) → b' = -1 ∨ ∃ q, q < i + 1 ∧ b' = nI (it q) ∧ il q = 0 ∧ bh kv sd ck cb (it q) = true) → x_E mX3_next (d + 3) 0 0 59 [(2, .int x), (1, .int b'), (0, .ref m)] [] h Q := by
      intro b' j1 j2
      refine e_iinc dX3_next_59 rfl rfl (by decide) rfl ?_
      refine e_goto (tgt := 4) dX3_next_62 (by decide) ?_
      exact e_loc [2, 1, 0] rfl (ih (i + 1) _ b' (by rw [hx]; exact nI_1 i) (by omega) j1 j2)
    have keep : ¬ (il i = 0 ∧ bh kv sd ck cb (it i) = true) → x_E mX3_next (d + 3) 0 0 59 [(2, .int x), (1, .int b), (0, .ref m)] [] h Q := by
      intro hn
      refine nxt b (fun i0 e q => i1 i0 e ?_) (fun q => ?_)
      · have : i ≠ i0 := fun e2 => hn (by rw [e2]; exact ⟨(ho i0 e).2.1, (ho i0 e).2.2.1⟩)
        omega
      · rcases i2 (fun i0 e r => q i0 e (by omega)) with r | ⟨r, r1, r2⟩
        · exact Or.inl r
        · exact Or.inr ⟨r, by omega, r2⟩
    refine e_iload_n dX3_next_4 rfl ?_
    refine e_aload_n dX3_next_5 rfl ?_
    refine e_get dX3_next_6 fX3_72 m0 rfl ?_
    refine e_icmp_ge (tgt := 65) dX3_next_9 (by decide) (fun c => absurd c (by rw [hx]; exact nI_ge (by omega) (by omega))) (fun _ => ?_)
    refine e_aload_n dX3_next_12 rfl ?_
    refine e_get dX3_next_13 fX3_33 m0 rfl ?_
    refine e_iload_n dX3_next_16 rfl ?_
    refine e_iald dX3_next_17 m7 rfl hx (af_get _ (show i < 600 by omega)) ?_
    refine e_if_ne (tgt := 59) dX3_next_18 (by decide) (fun d1 => ?_) (fun d1 => ?_)
    · exact e_loc [2, 1, 0] rfl (keep (fun q => d1 (by rw [q.1]; rfl)))
    have e1 : il i = 0 := (nI_c (b := 0) (by omega) (by omega)).mp d1
    refine e_aload_n dX3_next_21 rfl ?_
    refine e_aload_n dX3_next_22 rfl ?_
    refine e_get dX3_next_23 fX3_30 m0 rfl ?_
    refine e_iload_n dX3_next_26 rfl ?_
    refine e_iald dX3_next_27 m6 rfl hx (af_get _ (show i < 600 by omega)) ?_
    refine e_V1d dX3_next_28 gX3_146 m0 rfl (by omega) (Nat.le_of_ble_eq_true rfl) rfl rfl (con_behind d h m (it i) hm' g1 hck) ?_
    refine e_if_eq (tgt := 59) dX3_next_31 (by decide) (fun d2 => ?_) (fun d2 => ?_)
    · exact e_loc [2, 1, 0] rfl (keep (fun q => by have := q.2; rw [this] at d2; exact absurd d2 (by decide)))
    have e2 : bh kv sd ck cb (it i) = true := bI_nz d2
    have take : (∀ i0, o = some i0 → i0 < i → False) → x_E mX3_next (d + 3) 0 0 52 [(2, .int x), (1, .int b), (0, .ref m)] [] h Q := by
      intro hn
      refine e_aload_n dX3_next_52 rfl ?_
      refine e_get dX3_next_53 fX3_30 m0 rfl ?_
      refine e_iload_n dX3_next_56 rfl ?_
      refine e_iald dX3_next_57 m6 rfl hx (af_get _ (show i < 600 by omega)) ?_
      refine e_istore_n dX3_next_58 (by decide) rfl ?_
      refine e_loc [2, 1, 0] rfl (nxt _ (fun i0 e q => ?_) (fun q => Or.inr ⟨i, by omega, rfl, e1, e2⟩))
      have : i = i0 := by
        rcases Nat.lt_or_ge i0 i with r | r
        · exact absurd r (hn i0 e)
        · omega
      rw [this]
    refine e_iload_n dX3_next_34 rfl ?_
    refine e_if_lt (tgt := 52) dX3_next_35 (by decide) (fun d3 => ?_) (fun d3 => ?_)
    · refine e_loc [2, 1, 0] rfl (take (fun i0 e q => ?_))
      rw [i1 i0 e q] at d3
      exact absurd d3 (nI_pos (by have := (b3 i0 (ho i0 e).1).1; omega))
    · by_cases hq : ∃ i0, o = some i0 ∧ i0 < i
      · obtain ⟨i0, ho0, hlt⟩ := hq
        have hb : b = nI (it i0) := i1 i0 ho0 hlt
        subst hb
        have hI := ho i0 ho0
        refine e_aload_n dX3_next_38 rfl ?_
        refine e_aload_n dX3_next_39 rfl ?_
        refine e_get dX3_next_40 fX3_30 m0 rfl ?_
        refine e_iload_n dX3_next_43 rfl ?_
        refine e_iald dX3_next_44 m6 rfl hx (af_get _ (show i < 600 by omega)) ?_
        refine e_iload_n dX3_next_45 rfl ?_
        refine e_V2d dX3_next_46 gX3_68 m0 rfl (by omega) (Nat.le_of_ble_eq_true rfl) rfl rfl (con_order (d + 1) h m (it i) (it i0) hm' g1 (b3 i0 hI.1).1) ?_
        have := hI.2.2.2 i (by omega) e1 e2 (by omega)
        refine e_if_ge (tgt := 59) dX3_next_49 (by decide) (fun _ => ?_) (fun c => ?_)
        · exact e_loc [2, 1, 0] rfl (nxt _ (fun i1 e _ => by rw [ho0] at e; cases e; rfl) (fun q => absurd (by omega) (q i0 ho0)))
        · refine absurd ?_ c
          rw [c3_gt (by omega)]
          decide
      · rcases i2 (fun i0 e r => hq ⟨i0, e, r⟩) with r | ⟨r, r1, r2, r3, r4⟩
        · exact absurd (by rw [r]; decide) d3
        · subst r2
          refine e_aload_n dX3_next_38 rfl ?_
          refine e_aload_n dX3_next_39 rfl ?_
          refine e_get dX3_next_40 fX3_30 m0 rfl ?_
          refine e_iload_n dX3_next_43 rfl ?_
          refine e_iald dX3_next_44 m6 rfl hx (af_get _ (show i < 600 by omega)) ?_
          refine e_iload_n dX3_next_45 rfl ?_
          refine e_V2d dX3_next_46 gX3_68 m0 rfl (by omega) (Nat.le_of_ble_eq_true rfl) rfl rfl (con_order (d + 1) h m (it i) (it r) hm' g1 (b3 r (by omega)).1) ?_
          refine e_if_ge (tgt := 59) dX3_next_49 (by decide) (fun c => ?_) (fun _ => ?_)
          · refine e_loc [2, 1, 0] rfl (nxt _ (fun i0 e q => ?_) (fun q => Or.inr ⟨r, by omega, rfl, r3, r4⟩))
            have hii : i = i0 := by
              rcases Nat.lt_or_ge i0 i with z | z
              · exact absurd ⟨i0, e, z⟩ hq
              · omega
            have := (ho i0 e).2.2.2 r (by omega) r3 r4 (by omega)
            rw [hii, c3_lt (by omega)] at c
            exact absurd c (by decide)
          · exact e_loc [2, 1, 0] rfl (take (fun i0 e q => hq ⟨i0, e, q⟩))
theorem con_mnext (d : Nat) (h : xH) (m : Nat) (o : Option Nat) {kv : Nat → xE} {it il lw ll : Nat → Nat} {ow : Nat → Bool} {cm : Nat → Nat} {ks ni nl lv tk : Nat} {se lf : Int32} {ub : Bool} {sd : Int32} {ck : Nat} {cb : Bool} {hn : Nat} (hm : x_mm h m (kv, it, il, lw, ll, ow, cm) (ks, ni, nl, lv, tk, se, lf, ub, sd, ck, cb, hn)) (hB : mB it il lw ll ni nl) (hck : ck < 513) (ho : ∀ i0, o = some i0 → is_next kv it il ni sd ck cb i0) (hno : o = none → ∀ i, i < ni → il i = 0 → ¬ (bh kv sd ck cb (it i) = true)) : x_Con mX3_next (d + 3) 0 0 [.ref m] h (fun rv h' => x_mf m h h' ∧ (match o with
    | none => rv = [.int 0] ∧ h' = h
    | some i0 => rv = [.int 1] ∧ x_mm h' m (kv, it, il, lw, ll, ow, cm) (ks, ni, nl, lv, tk, se, lf, ub, 0, it i0, true, it i0))) := by
  refine e_enter (by decide) (Nat.le_of_ble_eq_true rfl) ?_
  refine e_iconst (v := (-1)) dX3_next_0 (by decide) ?_
  refine e_istore_n dX3_next_1 (by decide) rfl ?_
  refine e_iconst (v := 0) dX3_next_2 (by decide) ?_
  refine e_istore_n dX3_next_3 (by decide) rfl ?_
  refine e_loc [2, 1, 0] rfl (next_lo d h m o hm hB hck ho hno _ (fun l b l0 l1 f1 f2 => ?_) ni 0 0 (-1) rfl (by omega) (fun i0 _ q => absurd q (by omega)) (fun _ => Or.inl rfl))
  refine e_iload_n dX3_next_65 l1 ?_
  cases o with
  | none =>
    have hb := f2 rfl
    subst hb
    refine e_if_ge (tgt := 71) dX3_next_66 (by decide) (fun c => absurd c (by decide)) (fun _ => ?_)
    refine e_iconst (v := 0) dX3_next_69 (by decide) ?_
    exact e_iret dX3_next_70 rfl rfl ⟨x_mf.rf, rfl, rfl⟩
  | some i0 =>
    have hb := f1 i0 rfl
    subst hb
    have hlt := (hB.2.2.1 i0 (ho i0 rfl).1).1
    have m0 := hm.1
    refine e_if_ge (tgt := 71) dX3_next_66 (by decide) (fun _ => ?_) (fun c => absurd (nI_pos' (by omega)) c)
    refine e_aload_n dX3_next_71 l0 ?_
    refine e_iload_n dX3_next_72 l1 ?_
    refine e_putM (s' := (ks, ni, nl, lv, tk, se, lf, ub, sd, ck, cb, it i0)) dX3_next_73 fX3_53 m0 (by exact ⟨rfl, rfl⟩) rfl rfl ?_
    have hm2 := hm.s (ks, ni, nl, lv, tk, se, lf, ub, sd, ck, cb, it i0)
    refine e_aload_n dX3_next_76 l0 ?_
    refine e_iload_n dX3_next_77 l1 ?_
    refine e_iconst (v := 1) dX3_next_78 (by decide) ?_
    refine e_V2 dX3_next_79 gX3_133 hm2.1 rfl (by omega) (Nat.le_of_ble_eq_true rfl) rfl rfl (con_stand (d + 2) _ m (it i0) true hm2) ?_
    rintro _ h2 ⟨rfl, hm3, hf3⟩
    refine e_iconst (v := 1) dX3_next_82 (by decide) ?_
    exact e_iret dX3_next_83 rfl rfl ⟨x_mf.rf.up0.tr hf3, rfl, hm3⟩

def is_back (kv : Nat → xE) (it il : Nat → Nat) (ni : Nat) (sd : Int32) (ck : Nat) (cb : Bool) (i0 : Nat) : Prop := i0 < ni ∧ il i0 = 0 ∧ ¬ bh kv sd ck cb (it i0) = true ∧ ∀ i, i < ni → il i = 0 → ¬ bh kv sd ck cb (it i) = true → i ≠ i0 → rk kv (it i) < rk kv (it i0)
theorem back_lo (d : Nat) (h : xH) (m : Nat) (o : Option Nat) {kv : Nat → xE} {it il lw ll : Nat → Nat} {ow : Nat → Bool} {cm : Nat → Nat} {ks ni nl lv tk : Nat} {se lf : Int32} {ub : Bool} {sd : Int32} {ck : Nat} {cb : Bool} {hn : Nat} (hm : x_mm h m (kv, it, il, lw, ll, ow, cm) (ks, ni, nl, lv, tk, se, lf, ub, sd, ck, cb, hn)) (hB : mB it il lw ll ni nl) (hck : ck < 513) (ho : ∀ i0, o = some i0 → is_back kv it il ni sd ck cb i0) (hno : o = none → ∀ i, i < ni → il i = 0 → ¬ (¬ bh kv sd ck cb (it i) = true)) (Q : List Value → xH → Prop)
    (fin : ∀ l b, x_lk l 0 = some (.ref m) → x_lk l 1 = some (.int b) → (∀ i0, o = some i0 → b = nI (it i0)) → (o = none → b = -1) → x_E mX3_back (d + 3) 0 0 65 l [] h Q) :
    ∀ (k i : Nat) (x b : Int32), x = nI i → i + k = ni → (∀ i0, o = some i0 → i0 < i → b = nI (it i0)) → ((∀ i0, o = some i0 → ¬ i0 < i) → b = -1 ∨ ∃ q, q < i ∧ b = nI (it q) ∧ il q = 0 ∧ ¬ bh kv sd ck cb (it q) = true) →
    x_E mX3_back (d + 3) 0 0 4 [(2, .int x), (1, .int b), (0, .ref m)] [] h Q := by
  have hm' := hm
  have hB' := hB
  obtain ⟨m0, m1, m2, m3, m4, m5, m6, m7, m8, m9, m10, m11⟩ := hm
  obtain ⟨b1, b2, b3, b4⟩ := hB
  intro k
  induction k with
  | zero =>
    intro i x b hx hi i1 i2
    refine e_iload_n dX3_back_4 rfl ?_
    refine e_aload_n dX3_back_5 rfl ?_
    refine e_get dX3_back_6 fX3_72 m0 rfl ?_
    refine e_icmp_ge (tgt := 65) dX3_back_9 (by decide) (fun _ => ?_) (fun c => absurd (by rw [hx]; exact nI_le (by omega) (by omega)) c)
    refine fin _ b rfl rfl (fun i0 e => i1 i0 e ?_) (fun e => ?_)
    · have := (ho i0 e).1
      omega
    · rcases i2 (fun i0 q => by rw [e] at q; cases q) with r | ⟨q, q1, q2, q3, q4⟩
      · exact r
      · exact absurd q4 (hno e q (by omega) q3)
  | succ k ih =>
    intro i x b hx hi i1 i2
    obtain ⟨g1, g2⟩ := b3 i (by omega)
    have nxt : ∀ b', (∀ i0, o = some i0 → i0 < i + 1 → b' = nI (it i0)) → ((∀ i0, o = some i0 → ¬ i0 < i + 1) → b' = -1 ∨ ∃ q, q < i + 1 ∧ b' = nI (it q) ∧ il q = 0 ∧ ¬ bh kv sd ck cb (it q) = true) → x_E mX3_back (d + 3) 0 0 59 [(2, .int x), (1, .int b'), (0, .ref m)] [] h Q := by
      intro b' j1 j2
      refine e_iinc dX3_back_59 rfl rfl (by decide) rfl ?_
      refine e_goto (tgt := 4) dX3_back_62 (by decide) ?_
      exact e_loc [2, 1, 0] rfl (ih (i + 1) _ b' (by rw [hx]; exact nI_1 i) (by omega) j1 j2)
    have keep : ¬ (il i = 0 ∧ ¬ bh kv sd ck cb (it i) = true) → x_E mX3_back (d + 3) 0 0 59 [(2, .int x), (1, .int b), (0, .ref m)] [] h Q := by
      intro hn
      refine nxt b (fun i0 e q => i1 i0 e ?_) (fun q => ?_)
      · have : i ≠ i0 := fun e2 => hn (by rw [e2]; exact ⟨(ho i0 e).2.1, (ho i0 e).2.2.1⟩)
        omega
      · rcases i2 (fun i0 e r => q i0 e (by omega)) with r | ⟨r, r1, r2⟩
        · exact Or.inl r
        · exact Or.inr ⟨r, by omega, r2⟩
    refine e_iload_n dX3_back_4 rfl ?_
    refine e_aload_n dX3_back_5 rfl ?_
    refine e_get dX3_back_6 fX3_72 m0 rfl ?_
    refine e_icmp_ge (tgt := 65) dX3_back_9 (by decide) (fun c => absurd c (by rw [hx]; exact nI_ge (by omega) (by omega))) (fun _ => ?_)
    refine e_aload_n dX3_back_12 rfl ?_
    refine e_get dX3_back_13 fX3_33 m0 rfl ?_
    refine e_iload_n dX3_back_16 rfl ?_
    refine e_iald dX3_back_17 m7 rfl hx (af_get _ (show i < 600 by omega)) ?_
    refine e_if_ne (tgt := 59) dX3_back_18 (by decide) (fun d1 => ?_) (fun d1 => ?_)
    · exact e_loc [2, 1, 0] rfl (keep (fun q => d1 (by rw [q.1]; rfl)))
    have e1 : il i = 0 := (nI_c (b := 0) (by omega) (by omega)).mp d1
    refine e_aload_n dX3_back_21 rfl ?_
    refine e_aload_n dX3_back_22 rfl ?_
    refine e_get dX3_back_23 fX3_30 m0 rfl ?_
    refine e_iload_n dX3_back_26 rfl ?_
    refine e_iald dX3_back_27 m6 rfl hx (af_get _ (show i < 600 by omega)) ?_
    refine e_V1d dX3_back_28 gX3_146 m0 rfl (by omega) (Nat.le_of_ble_eq_true rfl) rfl rfl (con_behind d h m (it i) hm' g1 hck) ?_
    refine e_if_ne (tgt := 59) dX3_back_31 (by decide) (fun d2 => ?_) (fun d2 => ?_)
    · exact e_loc [2, 1, 0] rfl (keep (fun q => q.2 (bI_nz d2)))
    have e2 : ¬ bh kv sd ck cb (it i) = true := by rw [bI_z d2]; decide
    have take : (∀ i0, o = some i0 → i0 < i → False) → x_E mX3_back (d + 3) 0 0 52 [(2, .int x), (1, .int b), (0, .ref m)] [] h Q := by
      intro hn
      refine e_aload_n dX3_back_52 rfl ?_
      refine e_get dX3_back_53 fX3_30 m0 rfl ?_
      refine e_iload_n dX3_back_56 rfl ?_
      refine e_iald dX3_back_57 m6 rfl hx (af_get _ (show i < 600 by omega)) ?_
      refine e_istore_n dX3_back_58 (by decide) rfl ?_
      refine e_loc [2, 1, 0] rfl (nxt _ (fun i0 e q => ?_) (fun q => Or.inr ⟨i, by omega, rfl, e1, e2⟩))
      have : i = i0 := by
        rcases Nat.lt_or_ge i0 i with r | r
        · exact absurd r (hn i0 e)
        · omega
      rw [this]
    refine e_iload_n dX3_back_34 rfl ?_
    refine e_if_lt (tgt := 52) dX3_back_35 (by decide) (fun d3 => ?_) (fun d3 => ?_)
    · refine e_loc [2, 1, 0] rfl (take (fun i0 e q => ?_))
      rw [i1 i0 e q] at d3
      exact absurd d3 (nI_pos (by have := (b3 i0 (ho i0 e).1).1; omega))
    · by_cases hq : ∃ i0, o = some i0 ∧ i0 < i
      · obtain ⟨i0, ho0, hlt⟩ := hq
        have hb : b = nI (it i0) := i1 i0 ho0 hlt
        subst hb
        have hI := ho i0 ho0
        refine e_aload_n dX3_back_38 rfl ?_
        refine e_aload_n dX3_back_39 rfl ?_
        refine e_get dX3_back_40 fX3_30 m0 rfl ?_
        refine e_iload_n dX3_back_43 rfl ?_
        refine e_iald dX3_back_44 m6 rfl hx (af_get _ (show i < 600 by omega)) ?_
        refine e_iload_n dX3_back_45 rfl ?_
        refine e_V2d dX3_back_46 gX3_68 m0 rfl (by omega) (Nat.le_of_ble_eq_true rfl) rfl rfl (con_order (d + 1) h m (it i) (it i0) hm' g1 (b3 i0 hI.1).1) ?_
        have := hI.2.2.2 i (by omega) e1 e2 (by omega)
        refine e_if_le (tgt := 59) dX3_back_49 (by decide) (fun _ => ?_) (fun c => ?_)
        · exact e_loc [2, 1, 0] rfl (nxt _ (fun i1 e _ => by rw [ho0] at e; cases e; rfl) (fun q => absurd (by omega) (q i0 ho0)))
        · refine absurd ?_ c
          rw [c3_lt (by omega)]
          decide
      · rcases i2 (fun i0 e r => hq ⟨i0, e, r⟩) with r | ⟨r, r1, r2, r3, r4⟩
        · exact absurd (by rw [r]; decide) d3
        · subst r2
          refine e_aload_n dX3_back_38 rfl ?_
          refine e_aload_n dX3_back_39 rfl ?_
          refine e_get dX3_back_40 fX3_30 m0 rfl ?_
          refine e_iload_n dX3_back_43 rfl ?_
          refine e_iald dX3_back_44 m6 rfl hx (af_get _ (show i < 600 by omega)) ?_
          refine e_iload_n dX3_back_45 rfl ?_
          refine e_V2d dX3_back_46 gX3_68 m0 rfl (by omega) (Nat.le_of_ble_eq_true rfl) rfl rfl (con_order (d + 1) h m (it i) (it r) hm' g1 (b3 r (by omega)).1) ?_
          refine e_if_le (tgt := 59) dX3_back_49 (by decide) (fun c => ?_) (fun _ => ?_)
          · refine e_loc [2, 1, 0] rfl (nxt _ (fun i0 e q => ?_) (fun q => Or.inr ⟨r, by omega, rfl, r3, r4⟩))
            have hii : i = i0 := by
              rcases Nat.lt_or_ge i0 i with z | z
              · exact absurd ⟨i0, e, z⟩ hq
              · omega
            have := (ho i0 e).2.2.2 r (by omega) r3 r4 (by omega)
            rw [hii, c3_gt (by omega)] at c
            exact absurd c (by decide)
          · exact e_loc [2, 1, 0] rfl (take (fun i0 e q => hq ⟨i0, e, q⟩))
theorem con_mback (d : Nat) (h : xH) (m : Nat) (o : Option Nat) {kv : Nat → xE} {it il lw ll : Nat → Nat} {ow : Nat → Bool} {cm : Nat → Nat} {ks ni nl lv tk : Nat} {se lf : Int32} {ub : Bool} {sd : Int32} {ck : Nat} {cb : Bool} {hn : Nat} (hm : x_mm h m (kv, it, il, lw, ll, ow, cm) (ks, ni, nl, lv, tk, se, lf, ub, sd, ck, cb, hn)) (hB : mB it il lw ll ni nl) (hck : ck < 513) (ho : ∀ i0, o = some i0 → is_back kv it il ni sd ck cb i0) (hno : o = none → ∀ i, i < ni → il i = 0 → ¬ (¬ bh kv sd ck cb (it i) = true)) : x_Con mX3_back (d + 3) 0 0 [.ref m] h (fun rv h' => x_mf m h h' ∧ (match o with
    | none => rv = [.int 0] ∧ h' = h
    | some i0 => rv = [.int 1] ∧ x_mm h' m (kv, it, il, lw, ll, ow, cm) (ks, ni, nl, lv, tk, se, lf, ub, 0, it i0, false, it i0))) := by
  refine e_enter (by decide) (Nat.le_of_ble_eq_true rfl) ?_
  refine e_iconst (v := (-1)) dX3_back_0 (by decide) ?_
  refine e_istore_n dX3_back_1 (by decide) rfl ?_
  refine e_iconst (v := 0) dX3_back_2 (by decide) ?_
  refine e_istore_n dX3_back_3 (by decide) rfl ?_
  refine e_loc [2, 1, 0] rfl (back_lo d h m o hm hB hck ho hno _ (fun l b l0 l1 f1 f2 => ?_) ni 0 0 (-1) rfl (by omega) (fun i0 _ q => absurd q (by omega)) (fun _ => Or.inl rfl))
  refine e_iload_n dX3_back_65 l1 ?_
  cases o with
  | none =>
    have hb := f2 rfl
    subst hb
    refine e_if_ge (tgt := 71) dX3_back_66 (by decide) (fun c => absurd c (by decide)) (fun _ => ?_)
    refine e_iconst (v := 0) dX3_back_69 (by decide) ?_
    exact e_iret dX3_back_70 rfl rfl ⟨x_mf.rf, rfl, rfl⟩
  | some i0 =>
    have hb := f1 i0 rfl
    subst hb
    have hlt := (hB.2.2.1 i0 (ho i0 rfl).1).1
    have m0 := hm.1
    refine e_if_ge (tgt := 71) dX3_back_66 (by decide) (fun _ => ?_) (fun c => absurd (nI_pos' (by omega)) c)
    refine e_aload_n dX3_back_71 l0 ?_
    refine e_iload_n dX3_back_72 l1 ?_
    refine e_putM (s' := (ks, ni, nl, lv, tk, se, lf, ub, sd, ck, cb, it i0)) dX3_back_73 fX3_53 m0 (by exact ⟨rfl, rfl⟩) rfl rfl ?_
    have hm2 := hm.s (ks, ni, nl, lv, tk, se, lf, ub, sd, ck, cb, it i0)
    refine e_aload_n dX3_back_76 l0 ?_
    refine e_iload_n dX3_back_77 l1 ?_
    refine e_iconst (v := 0) dX3_back_78 (by decide) ?_
    refine e_V2 dX3_back_79 gX3_133 hm2.1 rfl (by omega) (Nat.le_of_ble_eq_true rfl) rfl rfl (con_stand (d + 2) _ m (it i0) false hm2) ?_
    rintro _ h2 ⟨rfl, hm3, hf3⟩
    refine e_iconst (v := 1) dX3_back_82 (by decide) ?_
    exact e_iret dX3_back_83 rfl rfl ⟨x_mf.rf.up0.tr hf3, rfl, hm3⟩
