/-! the reference: what only reads -/
def mB (it il lw ll : Nat → Nat) (ni nl : Nat) : Prop := ni ≤ 600 ∧ nl ≤ 60 ∧ (∀ i, i < ni → it i < 513 ∧ il i < 64) ∧ (∀ p, p < nl → lw p < 513 ∧ ll p < 64)
def isC (kv : Nat → xE) (lw ll : Nat → Nat) (nl level num p : Nat) : Prop := p < nl ∧ ll p = level ∧ rk kv (lw p) ≤ rk kv num ∧ ∀ q, q < nl → ll q = level → rk kv (lw q) ≤ rk kv num → q ≠ p → rk kv (lw q) < rk kv (lw p)
theorem nI_c {a b : Nat} (ha : a < 2000) (hb : b < 2000) : nI a = nI b ↔ a = b := nI_eq (by omega) (by omega)
theorem ic_lo (d : Nat) (h : xH) (m level num p0 : Nat) {kv : Nat → xE} {it il lw ll : Nat → Nat} {ow : Nat → Bool} {cm : Nat → Nat} {ks ni nl lv tk : Nat} {se lf : Int32} {ub : Bool} {sd : Int32} {ck : Nat} {cb : Bool} {hn : Nat} (hm : x_mm h m (kv, it, il, lw, ll, ow, cm) (ks, ni, nl, lv, tk, se, lf, ub, sd, ck, cb, hn)) (hB : mB it il lw ll ni nl) (hnum : num < 513) (hlev : level < 64) (hC : isC kv lw ll nl level num p0) :
    ∀ (k p : Nat) (x b : Int32), x = nI p → p + k = nl → (p0 < p → b = nI p0) → (¬ p0 < p → b = -1 ∨ ∃ q, q < p ∧ b = nI q ∧ ll q = level ∧ rk kv (lw q) ≤ rk kv num) →
    x_E mX3_inCharge (d + 2) 0 0 5 [(4, .int x), (3, .int b), (0, .ref m), (1, .int (nI level)), (2, .int (nI num))] [] h (fun rv h' => rv = [.int (nI p0)] ∧ h' = h) := by
  obtain ⟨c1, c2, c3', c4⟩ := hC
  have hm' := hm
  obtain ⟨m0, m1, m2, m3, m4, m5, m6, m7, m8, m9, m10, m11⟩ := hm
  obtain ⟨b1, b2, b3, b4⟩ := hB
  intro k
  induction k with
  | zero =>
    intro p x b hx hp i1 i2
    refine e_iload dX3_inCharge_5 rfl ?_
    refine e_aload_n dX3_inCharge_7 rfl ?_
    refine e_get dX3_inCharge_8 fX3_65 m0 rfl ?_
    refine e_icmp_ge (tgt := 73) dX3_inCharge_11 (by decide) (fun _ => ?_) (fun c => absurd (by rw [hx]; exact nI_le (by omega) (by omega)) c)
    refine e_iload_n dX3_inCharge_73 rfl ?_
    exact e_iret dX3_inCharge_74 rfl rfl ⟨by rw [i1 (by omega)], rfl⟩
  | succ k ih =>
    intro p x b hx hp i1 i2
    obtain ⟨g1, g2⟩ := b4 p (by omega)
    have nxt : ∀ b', (p0 < p + 1 → b' = nI p0) → (¬ p0 < p + 1 → b' = -1 ∨ ∃ q, q < p + 1 ∧ b' = nI q ∧ ll q = level ∧ rk kv (lw q) ≤ rk kv num) → x_E mX3_inCharge (d + 2) 0 0 67 [(4, .int x), (3, .int b'), (0, .ref m), (1, .int (nI level)), (2, .int (nI num))] [] h (fun rv h' => rv = [.int (nI p0)] ∧ h' = h) := by
      intro b' j1 j2
      refine e_iinc dX3_inCharge_67 rfl rfl (by decide) rfl ?_
      refine e_goto (tgt := 5) dX3_inCharge_70 (by decide) ?_
      exact e_loc [4, 3, 0, 1, 2] rfl (ih (p + 1) _ b' (by rw [hx]; exact nI_1 p) (by omega) j1 j2)
    have keep : ¬ (ll p = level ∧ rk kv (lw p) ≤ rk kv num) → x_E mX3_inCharge (d + 2) 0 0 67 [(4, .int x), (3, .int b), (0, .ref m), (1, .int (nI level)), (2, .int (nI num))] [] h (fun rv h' => rv = [.int (nI p0)] ∧ h' = h) := by
      intro hn
      refine nxt b (fun q => i1 ?_) (fun q => ?_)
      · have : p ≠ p0 := fun e => hn (by rw [e]; exact ⟨c2, c3'⟩)
        omega
      · rcases i2 (by omega) with r | ⟨r, r1, r2⟩
        · exact Or.inl r
        · exact Or.inr ⟨r, by omega, r2⟩
    refine e_iload dX3_inCharge_5 rfl ?_
    refine e_aload_n dX3_inCharge_7 rfl ?_
    refine e_get dX3_inCharge_8 fX3_65 m0 rfl ?_
    refine e_icmp_ge (tgt := 73) dX3_inCharge_11 (by decide) (fun c => absurd c (by rw [hx]; exact nI_ge (by omega) (by omega))) (fun _ => ?_)
    refine e_aload_n dX3_inCharge_14 rfl ?_
    refine e_get dX3_inCharge_15 fX3_39 m0 rfl ?_
    refine e_iload dX3_inCharge_18 rfl ?_
    refine e_iald dX3_inCharge_20 m9 rfl hx (af_get _ (show p < 60 by omega)) ?_
    refine e_iload_n dX3_inCharge_21 rfl ?_
    refine e_icmp_ne (tgt := 67) dX3_inCharge_22 (by decide) (fun d1 => ?_) (fun d1 => ?_)
    · exact e_loc [4, 3, 0, 1, 2] rfl (keep (fun q => d1 (by rw [q.1])))
    have e1 : ll p = level := (nI_c (by omega) (by omega)).mp d1
    refine e_aload_n dX3_inCharge_25 rfl ?_
    refine e_aload_n dX3_inCharge_26 rfl ?_
    refine e_get dX3_inCharge_27 fX3_36 m0 rfl ?_
    refine e_iload dX3_inCharge_30 rfl ?_
    refine e_iald dX3_inCharge_32 m8 rfl hx (af_get _ (show p < 60 by omega)) ?_
    refine e_iload_n dX3_inCharge_33 rfl ?_
    refine e_V2d dX3_inCharge_34 gX3_68 m0 rfl (by omega) (Nat.le_of_ble_eq_true rfl) rfl rfl (con_order d h m (lw p) num hm' g1 hnum) ?_
    refine e_if_gt (tgt := 67) dX3_inCharge_37 (by decide) (fun d2 => ?_) (fun d2 => ?_)
    · have := c3_p.mp d2
      exact e_loc [4, 3, 0, 1, 2] rfl (keep (fun q => by omega))
    have e2 : rk kv (lw p) ≤ rk kv num := by
      rcases Nat.lt_or_ge (rk kv num) (rk kv (lw p)) with q | q
      · exact absurd (c3_p.mpr (by omega)) d2
      · exact q
    have take : (p0 < p → False) → x_E mX3_inCharge (d + 2) 0 0 64 [(4, .int x), (3, .int b), (0, .ref m), (1, .int (nI level)), (2, .int (nI num))] [] h (fun rv h' => rv = [.int (nI p0)] ∧ h' = h) := by
      intro hn
      refine e_iload dX3_inCharge_64 rfl ?_
      refine e_istore_n dX3_inCharge_66 (by decide) rfl ?_
      refine e_loc [4, 3, 0, 1, 2] rfl (nxt x (fun q => ?_) (fun q => Or.inr ⟨p, by omega, hx, e1, e2⟩))
      have : p = p0 := by
        rcases Nat.lt_or_ge p0 p with r | r
        · exact absurd r hn
        · omega
      rw [hx, this]
    refine e_iload_n dX3_inCharge_40 rfl ?_
    refine e_if_lt (tgt := 64) dX3_inCharge_41 (by decide) (fun d3 => ?_) (fun d3 => ?_)
    · refine e_loc [4, 3, 0, 1, 2] rfl (take (fun q => ?_))
      rw [i1 q] at d3
      exact absurd d3 (nI_pos (by omega))
    · by_cases hq : p0 < p
      · have hb : b = nI p0 := i1 hq
        refine e_aload_n dX3_inCharge_44 rfl ?_
        refine e_aload_n dX3_inCharge_45 rfl ?_
        refine e_get dX3_inCharge_46 fX3_36 m0 rfl ?_
        refine e_iload dX3_inCharge_49 rfl ?_
        refine e_iald dX3_inCharge_51 m8 rfl hx (af_get _ (show p < 60 by omega)) ?_
        refine e_aload_n dX3_inCharge_52 rfl ?_
        refine e_get dX3_inCharge_53 fX3_36 m0 rfl ?_
        refine e_iload_n dX3_inCharge_56 rfl ?_
        refine e_iald dX3_inCharge_57 m8 rfl hb (af_get _ (show p0 < 60 by omega)) ?_
        refine e_V2d dX3_inCharge_58 gX3_68 m0 rfl (by omega) (Nat.le_of_ble_eq_true rfl) rfl rfl (con_order d h m (lw p) (lw p0) hm' g1 (b4 p0 c1).1) ?_
        have := c4 p (by omega) e1 e2 (by omega)
        refine e_if_le (tgt := 67) dX3_inCharge_61 (by decide) (fun _ => ?_) (fun c => ?_)
        · exact e_loc [4, 3, 0, 1, 2] rfl (nxt b (fun _ => hb) (fun q => absurd q (by omega)))
        · refine absurd ?_ c
          rw [c3_lt (by omega)]
          decide
      · rcases i2 hq with r | ⟨r, r1, r2, r3, r4⟩
        · exact absurd (by rw [r]; decide) d3
        · refine e_aload_n dX3_inCharge_44 rfl ?_
          refine e_aload_n dX3_inCharge_45 rfl ?_
          refine e_get dX3_inCharge_46 fX3_36 m0 rfl ?_
          refine e_iload dX3_inCharge_49 rfl ?_
          refine e_iald dX3_inCharge_51 m8 rfl hx (af_get _ (show p < 60 by omega)) ?_
          refine e_aload_n dX3_inCharge_52 rfl ?_
          refine e_get dX3_inCharge_53 fX3_36 m0 rfl ?_
          refine e_iload_n dX3_inCharge_56 rfl ?_
          refine e_iald dX3_inCharge_57 m8 rfl r2 (af_get _ (show r < 60 by omega)) ?_
          refine e_V2d dX3_inCharge_58 gX3_68 m0 rfl (by omega) (Nat.le_of_ble_eq_true rfl) rfl rfl (con_order d h m (lw p) (lw r) hm' g1 (b4 r (by omega)).1) ?_
          refine e_if_le (tgt := 67) dX3_inCharge_61 (by decide) (fun c => ?_) (fun _ => ?_)
          · refine e_loc [4, 3, 0, 1, 2] rfl (nxt b (fun q => ?_) (fun q => Or.inr ⟨r, by omega, r2, r3, r4⟩))
            have hpp : p = p0 := by omega
            have := c4 r (by omega) r3 r4 (by omega)
            rw [hpp, c3_gt (by omega)] at c
            exact absurd c (by decide)
          · exact e_loc [4, 3, 0, 1, 2] rfl (take hq)
theorem con_inCharge (d : Nat) (h : xH) (m level num p0 : Nat) {kv : Nat → xE} {it il lw ll : Nat → Nat} {ow : Nat → Bool} {cm : Nat → Nat} {ks ni nl lv tk : Nat} {se lf : Int32} {ub : Bool} {sd : Int32} {ck : Nat} {cb : Bool} {hn : Nat} (hm : x_mm h m (kv, it, il, lw, ll, ow, cm) (ks, ni, nl, lv, tk, se, lf, ub, sd, ck, cb, hn)) (hB : mB it il lw ll ni nl) (hnum : num < 513) (hlev : level < 64) (hC : isC kv lw ll nl level num p0) : x_D mX3_inCharge (d + 2) 0 0 [.ref m, .int (nI level), .int (nI num)] h [.int (nI p0)] h := by
  refine e_enter (by decide) (Nat.le_of_ble_eq_true rfl) ?_
  refine e_iconst (v := (-1)) dX3_inCharge_0 (by decide) ?_
  refine e_istore_n dX3_inCharge_1 (by decide) rfl ?_
  refine e_iconst (v := 0) dX3_inCharge_2 (by decide) ?_
  refine e_istore dX3_inCharge_3 (by decide) rfl ?_
  exact e_loc [4, 3, 0, 1, 2] rfl (ic_lo d h m level num p0 hm hB hnum hlev hC nl 0 0 (-1) rfl (by omega) (fun q => absurd q (by omega)) (fun _ => Or.inl rfl))
/-- how many below n -/
def cT (P : Nat → Bool) : Nat → Nat
  | 0 => 0
  | n + 1 => cT P n + (if P n then 1 else 0)
theorem cT_le (P : Nat → Bool) (n : Nat) : cT P n ≤ n := by
  induction n with
  | zero => exact Nat.le_refl _
  | succ n ih => unfold cT; split <;> omega
theorem cT_cg {P P' : Nat → Bool} {n : Nat} (h : ∀ i, i < n → P i = P' i) : cT P n = cT P' n := by
  induction n with
  | zero => rfl
  | succ n ih => unfold cT; rw [ih (fun i hi => h i (by omega)), h n (by omega)]
theorem cT_s (P : Nat → Bool) {i : Nat} {x : Int32} (hx : x = nI (cT P i)) (hp : P i = true) : x + 1 = nI (cT P (i + 1)) := by
  rw [hx, show cT P (i + 1) = cT P i + 1 by simp [cT, hp]]; exact nI_1 _
theorem cT_n (P : Nat → Bool) {i : Nat} {x : Int32} (hx : x = nI (cT P i)) (hp : ¬ P i = true) : x = nI (cT P (i + 1)) := by
  rw [hx, show cT P (i + 1) = cT P i by simp [cT, hp]]
/-- the item i is of the page's level, and the page is in charge of it -/
def inP (il ic : Nat → Nat) (lvl page : Nat) (i : Nat) : Bool := decide (il i = lvl) && decide (ic i = page)
theorem fi_lo (d : Nat) (h : xH) (m page : Nat) (ic : Nat → Nat) {kv : Nat → xE} {it il lw ll : Nat → Nat} {ow : Nat → Bool} {cm : Nat → Nat} {ks ni nl lv tk : Nat} {se lf : Int32} {ub : Bool} {sd : Int32} {ck : Nat} {cb : Bool} {hn : Nat} (hm : x_mm h m (kv, it, il, lw, ll, ow, cm) (ks, ni, nl, lv, tk, se, lf, ub, sd, ck, cb, hn)) (hB : mB it il lw ll ni nl) (hpg : page < nl) (hic : ∀ i, i < ni → il i = ll page → isC kv lw ll nl (ll page) (it i) (ic i)) :
    ∀ (k i : Nat) (x n : Int32), x = nI i → i + k = ni → n = nI (cT (inP il ic (ll page) page) i) →
    x_E mX3_filled (d + 3) 0 0 4 [(3, .int x), (2, .int n), (0, .ref m), (1, .int (nI page))] [] h (fun rv h' => rv = [.int (nI (cT (inP il ic (ll page) page) ni))] ∧ h' = h) := by
  have hm' := hm
  have hB' := hB
  obtain ⟨m0, m1, m2, m3, m4, m5, m6, m7, m8, m9, m10, m11⟩ := hm
  obtain ⟨b1, b2, b3, b4⟩ := hB
  intro k
  induction k with
  | zero =>
    intro i x n hx hi hn
    refine e_iload_n dX3_filled_4 rfl ?_
    refine e_aload_n dX3_filled_5 rfl ?_
    refine e_get dX3_filled_6 fX3_72 m0 rfl ?_
    refine e_icmp_ge (tgt := 56) dX3_filled_9 (by decide) (fun _ => ?_) (fun c => absurd (by rw [hx]; exact nI_le (by omega) (by omega)) c)
    refine e_iload_n dX3_filled_56 rfl ?_
    exact e_iret dX3_filled_57 rfl rfl ⟨by rw [hn, show i = ni by omega], rfl⟩
  | succ k ih =>
    intro i x n hx hi hn
    obtain ⟨g1, g2⟩ := b3 i (by omega)
    obtain ⟨g3, g4⟩ := b4 page hpg
    have nxt : ∀ n', n' = nI (cT (inP il ic (ll page) page) (i + 1)) → x_E mX3_filled (d + 3) 0 0 50 [(3, .int x), (2, .int n'), (0, .ref m), (1, .int (nI page))] [] h (fun rv h' => rv = [.int (nI (cT (inP il ic (ll page) page) ni))] ∧ h' = h) := by
      intro n' hn'
      refine e_iinc dX3_filled_50 rfl rfl (by decide) rfl ?_
      refine e_goto (tgt := 4) dX3_filled_53 (by decide) ?_
      exact e_loc [3, 2, 0, 1] rfl (ih (i + 1) _ n' (by rw [hx]; exact nI_1 i) (by omega) hn')
    refine e_iload_n dX3_filled_4 rfl ?_
    refine e_aload_n dX3_filled_5 rfl ?_
    refine e_get dX3_filled_6 fX3_72 m0 rfl ?_
    refine e_icmp_ge (tgt := 56) dX3_filled_9 (by decide) (fun c => absurd c (by rw [hx]; exact nI_ge (by omega) (by omega))) (fun _ => ?_)
    refine e_aload_n dX3_filled_12 rfl ?_
    refine e_get dX3_filled_13 fX3_33 m0 rfl ?_
    refine e_iload_n dX3_filled_16 rfl ?_
    refine e_iald dX3_filled_17 m7 rfl hx (af_get _ (show i < 600 by omega)) ?_
    refine e_aload_n dX3_filled_18 rfl ?_
    refine e_get dX3_filled_19 fX3_39 m0 rfl ?_
    refine e_iload_n dX3_filled_22 rfl ?_
    refine e_iald dX3_filled_23 m9 rfl rfl (af_get _ (show page < 60 by omega)) ?_
    refine e_icmp_ne (tgt := 50) dX3_filled_24 (by decide) (fun d1 => ?_) (fun d1 => ?_)
    · refine e_loc [3, 2, 0, 1] rfl (nxt n (cT_n _ hn ?_))
      have : ¬ il i = ll page := fun q => d1 (by rw [q])
      simp [inP, this]
    have e1 : il i = ll page := (nI_c (by omega) (by omega)).mp d1
    have hC := hic i (by omega) e1
    refine e_aload_n dX3_filled_27 rfl ?_
    refine e_aload_n dX3_filled_28 rfl ?_
    refine e_get dX3_filled_29 fX3_33 m0 rfl ?_
    refine e_iload_n dX3_filled_32 rfl ?_
    refine e_iald dX3_filled_33 m7 rfl hx (af_get _ (show i < 600 by omega)) ?_
    refine e_aload_n dX3_filled_34 rfl ?_
    refine e_get dX3_filled_35 fX3_30 m0 rfl ?_
    refine e_iload_n dX3_filled_38 rfl ?_
    refine e_iald dX3_filled_39 m6 rfl hx (af_get _ (show i < 600 by omega)) ?_
    rw [e1]
    refine e_V2d dX3_filled_40 gX3_75 m0 rfl (by omega) (Nat.le_of_ble_eq_true rfl) rfl rfl (con_inCharge d h m (ll page) (it i) (ic i) hm' hB' g1 g4 hC) ?_
    have hcp := hC.1
    refine e_iload_n dX3_filled_43 rfl ?_
    refine e_icmp_ne (tgt := 50) dX3_filled_44 (by decide) (fun d2 => ?_) (fun d2 => ?_)
    · refine e_loc [3, 2, 0, 1] rfl (nxt n (cT_n _ hn ?_))
      have : ¬ ic i = page := fun q => d2 (by rw [q])
      simp [inP, this]
    · have e2 : ic i = page := (nI_c (by omega) (by omega)).mp d2
      refine e_iinc dX3_filled_47 rfl rfl (by decide) rfl ?_
      exact e_loc [3, 2, 0, 1] rfl (nxt _ (cT_s _ hn (by simp [inP, e1, e2])))
theorem con_filled (d : Nat) (h : xH) (m page : Nat) (ic : Nat → Nat) {kv : Nat → xE} {it il lw ll : Nat → Nat} {ow : Nat → Bool} {cm : Nat → Nat} {ks ni nl lv tk : Nat} {se lf : Int32} {ub : Bool} {sd : Int32} {ck : Nat} {cb : Bool} {hn : Nat} (hm : x_mm h m (kv, it, il, lw, ll, ow, cm) (ks, ni, nl, lv, tk, se, lf, ub, sd, ck, cb, hn)) (hB : mB it il lw ll ni nl) (hpg : page < nl) (hic : ∀ i, i < ni → il i = ll page → isC kv lw ll nl (ll page) (it i) (ic i)) : x_D mX3_filled (d + 3) 0 0 [.ref m, .int (nI page)] h [.int (nI (cT (inP il ic (ll page) page) ni))] h := by
  refine e_enter (by decide) (Nat.le_of_ble_eq_true rfl) ?_
  refine e_iconst (v := 0) dX3_filled_0 (by decide) ?_
  refine e_istore_n dX3_filled_1 (by decide) rfl ?_
  refine e_iconst (v := 0) dX3_filled_2 (by decide) ?_
  refine e_istore_n dX3_filled_3 (by decide) rfl ?_
  exact e_loc [3, 2, 0, 1] rfl (fi_lo d h m page ic hm hB hpg hic ni 0 0 0 rfl (by omega) rfl)
/-- the item j of the page stands before the item i -/
def inL (kv : Nat → xE) (it il ic : Nat → Nat) (lvl page i : Nat) (j : Nat) : Bool := inP il ic lvl page j && decide (rk kv (it j) < rk kv (it i))
theorem sx_in (d : Nat) (h : xH) (m page i : Nat) (ic : Nat → Nat) {kv : Nat → xE} {it il lw ll : Nat → Nat} {ow : Nat → Bool} {cm : Nat → Nat} {ks ni nl lv tk : Nat} {se lf : Int32} {ub : Bool} {sd : Int32} {ck : Nat} {cb : Bool} {hn : Nat} (hm : x_mm h m (kv, it, il, lw, ll, ow, cm) (ks, ni, nl, lv, tk, se, lf, ub, sd, ck, cb, hn)) (hB : mB it il lw ll ni nl) (hpg : page < nl) (hic : ∀ i, i < ni → il i = ll page → isC kv lw ll nl (ll page) (it i) (ic i)) (hi : i < ni) (hil : il i = ll page) (Q : List Value → xH → Prop)
    (fin : ∀ l, x_lk l 0 = some (.ref m) → x_lk l 1 = some (.int (nI page)) → x_lk l 2 = some (.int (nI i)) → x_lk l 3 = some (.int (nI (cT (inL kv it il ic (ll page) page i) ni))) → x_E mX3_sixth (d + 3) 0 0 126 l [] h Q) :
    ∀ (k j : Nat) (x n : Int32), x = nI j → j + k = ni → n = nI (cT (inL kv it il ic (ll page) page i) j) →
    x_E mX3_sixth (d + 3) 0 0 50 [(4, .int x), (3, .int n), (2, .int (nI i)), (0, .ref m), (1, .int (nI page))] [] h Q := by
  have hm' := hm
  have hB' := hB
  obtain ⟨m0, m1, m2, m3, m4, m5, m6, m7, m8, m9, m10, m11⟩ := hm
  obtain ⟨b1, b2, b3, b4⟩ := hB
  intro k
  induction k with
  | zero =>
    intro j x n hx hj hn
    refine e_iload dX3_sixth_50 rfl ?_
    refine e_aload_n dX3_sixth_52 rfl ?_
    refine e_get dX3_sixth_53 fX3_72 m0 rfl ?_
    refine e_icmp_ge (tgt := 126) dX3_sixth_56 (by decide) (fun _ => ?_) (fun c => absurd (by rw [hx]; exact nI_le (by omega) (by omega)) c)
    refine fin _ rfl rfl rfl ?_
    rw [hn, show j = ni by omega]
    rfl
  | succ k ih =>
    intro j x n hx hj hn
    obtain ⟨g1, g2⟩ := b3 j (by omega)
    obtain ⟨g3, g4⟩ := b4 page hpg
    obtain ⟨g5, g6⟩ := b3 i hi
    have nxt : ∀ n', n' = nI (cT (inL kv it il ic (ll page) page i) (j + 1)) → x_E mX3_sixth (d + 3) 0 0 120 [(4, .int x), (3, .int n'), (2, .int (nI i)), (0, .ref m), (1, .int (nI page))] [] h Q := by
      intro n' hn'
      refine e_iinc dX3_sixth_120 rfl rfl (by decide) rfl ?_
      refine e_goto (tgt := 50) dX3_sixth_123 (by decide) ?_
      exact e_loc [4, 3, 2, 0, 1] rfl (ih (j + 1) _ n' (by rw [hx]; exact nI_1 j) (by omega) hn')
    refine e_iload dX3_sixth_50 rfl ?_
    refine e_aload_n dX3_sixth_52 rfl ?_
    refine e_get dX3_sixth_53 fX3_72 m0 rfl ?_
    refine e_icmp_ge (tgt := 126) dX3_sixth_56 (by decide) (fun c => absurd c (by rw [hx]; exact nI_ge (by omega) (by omega))) (fun _ => ?_)
    refine e_aload_n dX3_sixth_59 rfl ?_
    refine e_get dX3_sixth_60 fX3_33 m0 rfl ?_
    refine e_iload dX3_sixth_63 rfl ?_
    refine e_iald dX3_sixth_65 m7 rfl hx (af_get _ (show j < 600 by omega)) ?_
    refine e_aload_n dX3_sixth_66 rfl ?_
    refine e_get dX3_sixth_67 fX3_33 m0 rfl ?_
    refine e_iload_n dX3_sixth_70 rfl ?_
    refine e_iald dX3_sixth_71 m7 rfl rfl (af_get _ (show i < 600 by omega)) ?_
    refine e_icmp_ne (tgt := 120) dX3_sixth_72 (by decide) (fun d1 => ?_) (fun d1 => ?_)
    · refine e_loc [4, 3, 2, 0, 1] rfl (nxt n (cT_n _ hn ?_))
      have : ¬ il j = ll page := fun q => d1 (by rw [q, hil])
      simp [inL, inP, this]
    have e1 : il j = ll page := hil ▸ (nI_c (by omega) (by omega)).mp d1
    have hC := hic j (by omega) e1
    refine e_aload_n dX3_sixth_75 rfl ?_
    refine e_aload_n dX3_sixth_76 rfl ?_
    refine e_get dX3_sixth_77 fX3_33 m0 rfl ?_
    refine e_iload dX3_sixth_80 rfl ?_
    refine e_iald dX3_sixth_82 m7 rfl hx (af_get _ (show j < 600 by omega)) ?_
    refine e_aload_n dX3_sixth_83 rfl ?_
    refine e_get dX3_sixth_84 fX3_30 m0 rfl ?_
    refine e_iload dX3_sixth_87 rfl ?_
    refine e_iald dX3_sixth_89 m6 rfl hx (af_get _ (show j < 600 by omega)) ?_
    rw [e1]
    refine e_V2d dX3_sixth_90 gX3_75 m0 rfl (by omega) (Nat.le_of_ble_eq_true rfl) rfl rfl (con_inCharge d h m (ll page) (it j) (ic j) hm' hB' g1 g4 hC) ?_
    have hcp := hC.1
    refine e_iload_n dX3_sixth_93 rfl ?_
    refine e_icmp_ne (tgt := 120) dX3_sixth_94 (by decide) (fun d2 => ?_) (fun d2 => ?_)
    · refine e_loc [4, 3, 2, 0, 1] rfl (nxt n (cT_n _ hn ?_))
      have : ¬ ic j = page := fun q => d2 (by rw [q])
      simp [inL, inP, this]
    have e2 : ic j = page := (nI_c (by omega) (by omega)).mp d2
    refine e_aload_n dX3_sixth_97 rfl ?_
    refine e_aload_n dX3_sixth_98 rfl ?_
    refine e_get dX3_sixth_99 fX3_30 m0 rfl ?_
    refine e_iload dX3_sixth_102 rfl ?_
    refine e_iald dX3_sixth_104 m6 rfl hx (af_get _ (show j < 600 by omega)) ?_
    refine e_aload_n dX3_sixth_105 rfl ?_
    refine e_get dX3_sixth_106 fX3_30 m0 rfl ?_
    refine e_iload_n dX3_sixth_109 rfl ?_
    refine e_iald dX3_sixth_110 m6 rfl rfl (af_get _ (show i < 600 by omega)) ?_
    refine e_V2d dX3_sixth_111 gX3_68 m0 rfl (by omega) (Nat.le_of_ble_eq_true rfl) rfl rfl (con_order (d + 1) h m (it j) (it i) hm' g1 g5) ?_
    refine e_if_ge (tgt := 120) dX3_sixth_114 (by decide) (fun d3 => ?_) (fun d3 => ?_)
    · refine e_loc [4, 3, 2, 0, 1] rfl (nxt n (cT_n _ hn ?_))
      have : ¬ rk kv (it j) < rk kv (it i) := fun q => absurd d3 (by rw [c3_lt (by omega)]; decide)
      simp [inL, inP, this]
    · have e3 : rk kv (it j) < rk kv (it i) := by
        have := c3_n.mp (Int32.not_le.mp d3)
        omega
      refine e_iinc dX3_sixth_117 rfl rfl (by decide) rfl ?_
      exact e_loc [4, 3, 2, 0, 1] rfl (nxt _ (cT_s _ hn (by simp [inL, inP, e1, e2, e3])))
theorem sx_lo (d : Nat) (h : xH) (m page i0 : Nat) (ic : Nat → Nat) {kv : Nat → xE} {it il lw ll : Nat → Nat} {ow : Nat → Bool} {cm : Nat → Nat} {ks ni nl lv tk : Nat} {se lf : Int32} {ub : Bool} {sd : Int32} {ck : Nat} {cb : Bool} {hn : Nat} (hm : x_mm h m (kv, it, il, lw, ll, ow, cm) (ks, ni, nl, lv, tk, se, lf, ub, sd, ck, cb, hn)) (hB : mB it il lw ll ni nl) (hpg : page < nl) (hic : ∀ i, i < ni → il i = ll page → isC kv lw ll nl (ll page) (it i) (ic i)) (hi0 : i0 < ni) (hs : inP il ic (ll page) page i0 = true) (hs5 : cT (inL kv it il ic (ll page) page i0) ni = 5) (hun : ∀ i, i < i0 → inP il ic (ll page) page i = true → cT (inL kv it il ic (ll page) page i) ni ≠ 5) :
    ∀ (k i : Nat) (x : Int32), x = nI i → i + k = i0 →
    x_E mX3_sixth (d + 3) 0 0 2 [(2, .int x), (0, .ref m), (1, .int (nI page))] [] h (fun rv h' => rv = [.int (nI (it i0))] ∧ h' = h) := by
  have hm' := hm
  have hB' := hB
  obtain ⟨m0, m1, m2, m3, m4, m5, m6, m7, m8, m9, m10, m11⟩ := hm
  obtain ⟨b1, b2, b3, b4⟩ := hB
  obtain ⟨g3, g4⟩ := b4 page hpg
  intro k
  induction k with
  | zero =>
    intro i x hx hi
    have e0 : i = i0 := by omega
    subst e0
    have hs' : il i = ll page ∧ ic i = page := by simpa [inP] using hs
    obtain ⟨g1, g2⟩ := b3 i hi0
    have hC := hic i hi0 hs'.1
    refine e_iload_n dX3_sixth_2 rfl ?_
    refine e_aload_n dX3_sixth_3 rfl ?_
    refine e_get dX3_sixth_4 fX3_72 m0 rfl ?_
    refine e_icmp_ge (tgt := 144) dX3_sixth_7 (by decide) (fun c => absurd c (by rw [hx]; exact nI_ge (by omega) (by omega))) (fun _ => ?_)
    refine e_aload_n dX3_sixth_10 rfl ?_
    refine e_get dX3_sixth_11 fX3_33 m0 rfl ?_
    refine e_iload_n dX3_sixth_14 rfl ?_
    refine e_iald dX3_sixth_15 m7 rfl hx (af_get _ (show i < 600 by omega)) ?_
    refine e_aload_n dX3_sixth_16 rfl ?_
    refine e_get dX3_sixth_17 fX3_39 m0 rfl ?_
    refine e_iload_n dX3_sixth_20 rfl ?_
    refine e_iald dX3_sixth_21 m9 rfl rfl (af_get _ (show page < 60 by omega)) ?_
    refine e_icmp_ne (tgt := 138) dX3_sixth_22 (by decide) (fun c => absurd (by rw [hs'.1]) c) (fun _ => ?_)
    refine e_aload_n dX3_sixth_25 rfl ?_
    refine e_aload_n dX3_sixth_26 rfl ?_
    refine e_get dX3_sixth_27 fX3_33 m0 rfl ?_
    refine e_iload_n dX3_sixth_30 rfl ?_
    refine e_iald dX3_sixth_31 m7 rfl hx (af_get _ (show i < 600 by omega)) ?_
    refine e_aload_n dX3_sixth_32 rfl ?_
    refine e_get dX3_sixth_33 fX3_30 m0 rfl ?_
    refine e_iload_n dX3_sixth_36 rfl ?_
    refine e_iald dX3_sixth_37 m6 rfl hx (af_get _ (show i < 600 by omega)) ?_
    rw [hs'.1]
    refine e_V2d dX3_sixth_38 gX3_75 m0 rfl (by omega) (Nat.le_of_ble_eq_true rfl) rfl rfl (con_inCharge d h m (ll page) (it i) (ic i) hm' hB' g1 g4 hC) ?_
    refine e_iload_n dX3_sixth_41 rfl ?_
    refine e_icmp_ne (tgt := 138) dX3_sixth_42 (by decide) (fun c => absurd (by rw [hs'.2]) c) (fun _ => ?_)
    refine e_iconst (v := 0) dX3_sixth_45 (by decide) ?_
    refine e_istore_n dX3_sixth_46 (by decide) rfl ?_
    refine e_iconst (v := 0) dX3_sixth_47 (by decide) ?_
    refine e_istore dX3_sixth_48 (by decide) rfl ?_
    subst hx
    refine e_loc [4, 3, 2, 0, 1] rfl (sx_in d h m page i ic hm' hB' hpg hic hi0 hs'.1 _ (fun l l0 l1 l2 l3 => ?_) ni 0 0 0 rfl (by omega) rfl)
    rw [hs5] at l3
    refine e_iload_n dX3_sixth_126 l3 ?_
    refine e_iconst (v := 5) dX3_sixth_127 (by decide) ?_
    refine e_icmp_ne (tgt := 138) dX3_sixth_128 (by decide) (fun c => absurd rfl c) (fun _ => ?_)
    refine e_aload_n dX3_sixth_131 l0 ?_
    refine e_get dX3_sixth_132 fX3_30 m0 rfl ?_
    refine e_iload_n dX3_sixth_135 l2 ?_
    refine e_iald dX3_sixth_136 m6 rfl rfl (af_get _ (show i < 600 by omega)) ?_
    exact e_iret dX3_sixth_137 rfl rfl ⟨rfl, rfl⟩
  | succ k ih =>
    intro i x hx hi
    obtain ⟨g1, g2⟩ := b3 i (by omega)
    have nxt : x_E mX3_sixth (d + 3) 0 0 138 [(2, .int x), (0, .ref m), (1, .int (nI page))] [] h (fun rv h' => rv = [.int (nI (it i0))] ∧ h' = h) := by
      refine e_iinc dX3_sixth_138 rfl rfl (by decide) rfl ?_
      refine e_goto (tgt := 2) dX3_sixth_141 (by decide) ?_
      exact e_loc [2, 0, 1] rfl (ih (i + 1) _ (by rw [hx]; exact nI_1 i) (by omega))
    refine e_iload_n dX3_sixth_2 rfl ?_
    refine e_aload_n dX3_sixth_3 rfl ?_
    refine e_get dX3_sixth_4 fX3_72 m0 rfl ?_
    refine e_icmp_ge (tgt := 144) dX3_sixth_7 (by decide) (fun c => absurd c (by rw [hx]; exact nI_ge (by omega) (by omega))) (fun _ => ?_)
    refine e_aload_n dX3_sixth_10 rfl ?_
    refine e_get dX3_sixth_11 fX3_33 m0 rfl ?_
    refine e_iload_n dX3_sixth_14 rfl ?_
    refine e_iald dX3_sixth_15 m7 rfl hx (af_get _ (show i < 600 by omega)) ?_
    refine e_aload_n dX3_sixth_16 rfl ?_
    refine e_get dX3_sixth_17 fX3_39 m0 rfl ?_
    refine e_iload_n dX3_sixth_20 rfl ?_
    refine e_iald dX3_sixth_21 m9 rfl rfl (af_get _ (show page < 60 by omega)) ?_
    refine e_icmp_ne (tgt := 138) dX3_sixth_22 (by decide) (fun d1 => ?_) (fun d1 => ?_)
    · exact e_loc [2, 0, 1] rfl nxt
    have e1 : il i = ll page := (nI_c (by omega) (by omega)).mp d1
    have hC := hic i (by omega) e1
    refine e_aload_n dX3_sixth_25 rfl ?_
    refine e_aload_n dX3_sixth_26 rfl ?_
    refine e_get dX3_sixth_27 fX3_33 m0 rfl ?_
    refine e_iload_n dX3_sixth_30 rfl ?_
    refine e_iald dX3_sixth_31 m7 rfl hx (af_get _ (show i < 600 by omega)) ?_
    refine e_aload_n dX3_sixth_32 rfl ?_
    refine e_get dX3_sixth_33 fX3_30 m0 rfl ?_
    refine e_iload_n dX3_sixth_36 rfl ?_
    refine e_iald dX3_sixth_37 m6 rfl hx (af_get _ (show i < 600 by omega)) ?_
    rw [e1]
    refine e_V2d dX3_sixth_38 gX3_75 m0 rfl (by omega) (Nat.le_of_ble_eq_true rfl) rfl rfl (con_inCharge d h m (ll page) (it i) (ic i) hm' hB' g1 g4 hC) ?_
    have hcp := hC.1
    refine e_iload_n dX3_sixth_41 rfl ?_
    refine e_icmp_ne (tgt := 138) dX3_sixth_42 (by decide) (fun d2 => ?_) (fun d2 => ?_)
    · exact e_loc [2, 0, 1] rfl nxt
    have e2 : ic i = page := (nI_c (by omega) (by omega)).mp d2
    have hn5 := hun i (by omega) (by simp [inP, e1, e2])
    have hle := cT_le (inL kv it il ic (ll page) page i) ni
    refine e_iconst (v := 0) dX3_sixth_45 (by decide) ?_
    refine e_istore_n dX3_sixth_46 (by decide) rfl ?_
    refine e_iconst (v := 0) dX3_sixth_47 (by decide) ?_
    refine e_istore dX3_sixth_48 (by decide) rfl ?_
    subst hx
    refine e_loc [4, 3, 2, 0, 1] rfl (sx_in d h m page i ic hm' hB' hpg hic (by omega) e1 _ (fun l l0 l1 l2 l3 => ?_) ni 0 0 0 rfl (by omega) rfl)
    refine e_iload_n dX3_sixth_126 l3 ?_
    refine e_iconst (v := 5) dX3_sixth_127 (by decide) ?_
    refine e_icmp_ne (tgt := 138) dX3_sixth_128 (by decide) (fun _ => ?_) (fun c => absurd ((nI_c (b := 5) (by omega) (by omega)).mp c) hn5)
    refine e_loc [2, 0, 1] ?_ nxt
    simp only [x_sel, List.filterMap_cons, List.filterMap_nil, l0, l1, l2, Option.map_some]
theorem con_sixth (d : Nat) (h : xH) (m page i0 : Nat) (ic : Nat → Nat) {kv : Nat → xE} {it il lw ll : Nat → Nat} {ow : Nat → Bool} {cm : Nat → Nat} {ks ni nl lv tk : Nat} {se lf : Int32} {ub : Bool} {sd : Int32} {ck : Nat} {cb : Bool} {hn : Nat} (hm : x_mm h m (kv, it, il, lw, ll, ow, cm) (ks, ni, nl, lv, tk, se, lf, ub, sd, ck, cb, hn)) (hB : mB it il lw ll ni nl) (hpg : page < nl) (hic : ∀ i, i < ni → il i = ll page → isC kv lw ll nl (ll page) (it i) (ic i)) (hi0 : i0 < ni) (hs : inP il ic (ll page) page i0 = true) (hs5 : cT (inL kv it il ic (ll page) page i0) ni = 5) (hun : ∀ i, i < i0 → inP il ic (ll page) page i = true → cT (inL kv it il ic (ll page) page i) ni ≠ 5) : x_D mX3_sixth (d + 3) 0 0 [.ref m, .int (nI page)] h [.int (nI (it i0))] h := by
  refine e_enter (by decide) (Nat.le_of_ble_eq_true rfl) ?_
  refine e_iconst (v := 0) dX3_sixth_0 (by decide) ?_
  refine e_istore_n dX3_sixth_1 (by decide) rfl ?_
  exact e_loc [2, 0, 1] rfl (sx_lo d h m page i0 ic hm hB hpg hic hi0 hs hs5 hun i0 0 0 rfl (by omega))
