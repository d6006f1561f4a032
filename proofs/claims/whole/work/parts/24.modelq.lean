/-! the reference: questions, seek, clear, has, remove -/
def hit (kv : Nat → xE) (it il : Nat → Nat) (num i : Nat) : Prop := il i = 0 ∧ rk kv (it i) = rk kv num
def isI (kv : Nat → xE) (it il : Nat → Nat) (ni num : Nat) (o : Option Nat) : Prop := match o with
  | none => ∀ i, i < ni → ¬ hit kv it il num i
  | some i0 => i0 < ni ∧ hit kv it il num i0 ∧ ∀ i, i < i0 → ¬ hit kv it il num i
def oI (o : Option Nat) : Int32 := match o with
  | none => -1
  | some i => nI i
theorem io_lo (d : Nat) (h : xH) (m num : Nat) (o : Option Nat) {kv : Nat → xE} {it il lw ll : Nat → Nat} {ow : Nat → Bool} {cm : Nat → Nat} {ks ni nl lv tk : Nat} {se lf : Int32} {ub : Bool} {sd : Int32} {ck : Nat} {cb : Bool} {hn : Nat} (hm : x_mm h m (kv, it, il, lw, ll, ow, cm) (ks, ni, nl, lv, tk, se, lf, ub, sd, ck, cb, hn)) (hB : mB it il lw ll ni nl) (hnum : num < 513) (ho : isI kv it il ni num o) :
    ∀ (k i : Nat) (x : Int32), x = nI i → i + k = o.getD ni → x_E mX3_itemOf (d + 2) 0 0 2 [(2, .int x), (0, .ref m), (1, .int (nI num))] [] h (fun rv h' => rv = [.int (oI o)] ∧ h' = h) := by
  have hm' := hm
  obtain ⟨m0, m1, m2, m3, m4, m5, m6, m7, m8, m9, m10, m11⟩ := hm
  obtain ⟨b1, b2, b3, b4⟩ := hB
  intro k
  induction k with
  | zero =>
    intro i x hx hi
    cases o with
    | none =>
      simp only [Option.getD_none] at hi
      refine e_iload_n dX3_itemOf_2 rfl ?_
      refine e_aload_n dX3_itemOf_3 rfl ?_
      refine e_get dX3_itemOf_4 fX3_72 m0 rfl ?_
      refine e_icmp_ge (tgt := 41) dX3_itemOf_7 (by decide) (fun _ => ?_) (fun c => absurd (by rw [hx]; exact nI_le (by omega) (by omega)) c)
      refine e_iconst (v := (-1)) dX3_itemOf_41 (by decide) ?_
      exact e_iret dX3_itemOf_42 rfl rfl ⟨rfl, rfl⟩
    | some i0 =>
      simp only [Option.getD_some] at hi
      have e0 : i = i0 := by omega
      subst e0
      obtain ⟨o1, ⟨o2, o3⟩, o4⟩ := ho
      refine e_iload_n dX3_itemOf_2 rfl ?_
      refine e_aload_n dX3_itemOf_3 rfl ?_
      refine e_get dX3_itemOf_4 fX3_72 m0 rfl ?_
      refine e_icmp_ge (tgt := 41) dX3_itemOf_7 (by decide) (fun c => absurd c (by rw [hx]; exact nI_ge (by omega) (by omega))) (fun _ => ?_)
      refine e_aload_n dX3_itemOf_10 rfl ?_
      refine e_get dX3_itemOf_11 fX3_33 m0 rfl ?_
      refine e_iload_n dX3_itemOf_14 rfl ?_
      refine e_iald dX3_itemOf_15 m7 rfl hx (af_get _ (show i < 600 by omega)) ?_
      refine e_if_ne (tgt := 35) dX3_itemOf_16 (by decide) (fun c => absurd (by rw [o2]; rfl) c) (fun _ => ?_)
      refine e_aload_n dX3_itemOf_19 rfl ?_
      refine e_aload_n dX3_itemOf_20 rfl ?_
      refine e_get dX3_itemOf_21 fX3_30 m0 rfl ?_
      refine e_iload_n dX3_itemOf_24 rfl ?_
      refine e_iald dX3_itemOf_25 m6 rfl hx (af_get _ (show i < 600 by omega)) ?_
      refine e_iload_n dX3_itemOf_26 rfl ?_
      refine e_V2d dX3_itemOf_27 gX3_68 m0 rfl (by omega) (Nat.le_of_ble_eq_true rfl) rfl rfl (con_order d h m (it i) num hm' (b3 i o1).1 hnum) ?_
      refine e_if_ne (tgt := 35) dX3_itemOf_30 (by decide) (fun c => absurd (c3_z.mpr (by rw [o3])) c) (fun _ => ?_)
      refine e_iload_n dX3_itemOf_33 rfl ?_
      exact e_iret dX3_itemOf_34 rfl rfl ⟨by rw [hx]; rfl, rfl⟩
  | succ k ih =>
    intro i x hx hi
    have hni : i < ni ∧ ¬ hit kv it il num i := by
      cases o with
      | none => simp only [Option.getD_none] at hi; exact ⟨by omega, ho i (by omega)⟩
      | some i0 => simp only [Option.getD_some] at hi; exact ⟨by have := ho.1; omega, ho.2.2 i (by omega)⟩
    have nxt : x_E mX3_itemOf (d + 2) 0 0 35 [(2, .int x), (0, .ref m), (1, .int (nI num))] [] h (fun rv h' => rv = [.int (oI o)] ∧ h' = h) := by
      refine e_iinc dX3_itemOf_35 rfl rfl (by decide) rfl ?_
      refine e_goto (tgt := 2) dX3_itemOf_38 (by decide) ?_
      exact e_loc [2, 0, 1] rfl (ih (i + 1) _ (by rw [hx]; exact nI_1 i) (by omega))
    refine e_iload_n dX3_itemOf_2 rfl ?_
    refine e_aload_n dX3_itemOf_3 rfl ?_
    refine e_get dX3_itemOf_4 fX3_72 m0 rfl ?_
    refine e_icmp_ge (tgt := 41) dX3_itemOf_7 (by decide) (fun c => absurd c (by rw [hx]; exact nI_ge (by omega) (by omega))) (fun _ => ?_)
    refine e_aload_n dX3_itemOf_10 rfl ?_
    refine e_get dX3_itemOf_11 fX3_33 m0 rfl ?_
    refine e_iload_n dX3_itemOf_14 rfl ?_
    refine e_iald dX3_itemOf_15 m7 rfl hx (af_get _ (show i < 600 by omega)) ?_
    refine e_if_ne (tgt := 35) dX3_itemOf_16 (by decide) (fun d1 => ?_) (fun d1 => ?_)
    · exact e_loc [2, 0, 1] rfl nxt
    have e1 : il i = 0 := (nI_c (b := 0) (by have := (b3 i hni.1).2; omega) (by omega)).mp d1
    refine e_aload_n dX3_itemOf_19 rfl ?_
    refine e_aload_n dX3_itemOf_20 rfl ?_
    refine e_get dX3_itemOf_21 fX3_30 m0 rfl ?_
    refine e_iload_n dX3_itemOf_24 rfl ?_
    refine e_iald dX3_itemOf_25 m6 rfl hx (af_get _ (show i < 600 by omega)) ?_
    refine e_iload_n dX3_itemOf_26 rfl ?_
    refine e_V2d dX3_itemOf_27 gX3_68 m0 rfl (by omega) (Nat.le_of_ble_eq_true rfl) rfl rfl (con_order d h m (it i) num hm' (b3 i hni.1).1 hnum) ?_
    refine e_if_ne (tgt := 35) dX3_itemOf_30 (by decide) (fun d2 => ?_) (fun d2 => ?_)
    · exact e_loc [2, 0, 1] rfl nxt
    · exact absurd ⟨e1, by have := c3_z.mp d2; omega⟩ hni.2
theorem con_itemOf (d : Nat) (h : xH) (m num : Nat) (o : Option Nat) {kv : Nat → xE} {it il lw ll : Nat → Nat} {ow : Nat → Bool} {cm : Nat → Nat} {ks ni nl lv tk : Nat} {se lf : Int32} {ub : Bool} {sd : Int32} {ck : Nat} {cb : Bool} {hn : Nat} (hm : x_mm h m (kv, it, il, lw, ll, ow, cm) (ks, ni, nl, lv, tk, se, lf, ub, sd, ck, cb, hn)) (hB : mB it il lw ll ni nl) (hnum : num < 513) (ho : isI kv it il ni num o) : x_D mX3_itemOf (d + 2) 0 0 [.ref m, .int (nI num)] h [.int (oI o)] h := by
  refine e_enter (by decide) (Nat.le_of_ble_eq_true rfl) ?_
  refine e_iconst (v := 0) dX3_itemOf_0 (by decide) ?_
  refine e_istore_n dX3_itemOf_1 (by decide) rfl ?_
  exact e_loc [2, 0, 1] rfl (io_lo d h m num o hm hB hnum ho (o.getD ni) 0 0 rfl (by omega))
theorem eo_lo (d : Nat) (h : xH) (m L : Nat) {kv : Nat → xE} {it il lw ll : Nat → Nat} {ow : Nat → Bool} {cm : Nat → Nat} {ks ni nl lv tk : Nat} {se lf : Int32} {ub : Bool} {sd : Int32} {ck : Nat} {cb : Bool} {hn : Nat} (hm : x_mm h m (kv, it, il, lw, ll, ow, cm) (ks, ni, nl, lv, tk, se, lf, ub, sd, ck, cb, hn)) (hB : mB it il lw ll ni nl) (hL : L < 64) :
    ∀ (k i : Nat) (x n : Int32), x = nI i → i + k = ni → n = nI (cT (fun i => decide (il i = L)) i) →
    x_E mX3_entriesOf d 0 0 4 [(3, .int x), (2, .int n), (0, .ref m), (1, .int (nI L))] [] h (fun rv h' => rv = [.int (nI (cT (fun i => decide (il i = L)) ni))] ∧ h' = h) := by
  obtain ⟨m0, m1, m2, m3, m4, m5, m6, m7, m8, m9, m10, m11⟩ := hm
  obtain ⟨b1, b2, b3, b4⟩ := hB
  intro k
  induction k with
  | zero =>
    intro i x n hx hi hn
    refine e_iload_n dX3_entriesOf_4 rfl ?_
    refine e_aload_n dX3_entriesOf_5 rfl ?_
    refine e_get dX3_entriesOf_6 fX3_72 m0 rfl ?_
    refine e_icmp_ge (tgt := 31) dX3_entriesOf_9 (by decide) (fun _ => ?_) (fun c => absurd (by rw [hx]; exact nI_le (by omega) (by omega)) c)
    refine e_iload_n dX3_entriesOf_31 rfl ?_
    exact e_iret dX3_entriesOf_32 rfl rfl ⟨by rw [hn, show i = ni by omega], rfl⟩
  | succ k ih =>
    intro i x n hx hi hn
    obtain ⟨g1, g2⟩ := b3 i (by omega)
    have nxt : ∀ n', n' = nI (cT (fun i => decide (il i = L)) (i + 1)) → x_E mX3_entriesOf d 0 0 25 [(3, .int x), (2, .int n'), (0, .ref m), (1, .int (nI L))] [] h (fun rv h' => rv = [.int (nI (cT (fun i => decide (il i = L)) ni))] ∧ h' = h) := by
      intro n' hn'
      refine e_iinc dX3_entriesOf_25 rfl rfl (by decide) rfl ?_
      refine e_goto (tgt := 4) dX3_entriesOf_28 (by decide) ?_
      exact e_loc [3, 2, 0, 1] rfl (ih (i + 1) _ n' (by rw [hx]; exact nI_1 i) (by omega) hn')
    refine e_iload_n dX3_entriesOf_4 rfl ?_
    refine e_aload_n dX3_entriesOf_5 rfl ?_
    refine e_get dX3_entriesOf_6 fX3_72 m0 rfl ?_
    refine e_icmp_ge (tgt := 31) dX3_entriesOf_9 (by decide) (fun c => absurd c (by rw [hx]; exact nI_ge (by omega) (by omega))) (fun _ => ?_)
    refine e_aload_n dX3_entriesOf_12 rfl ?_
    refine e_get dX3_entriesOf_13 fX3_33 m0 rfl ?_
    refine e_iload_n dX3_entriesOf_16 rfl ?_
    refine e_iald dX3_entriesOf_17 m7 rfl hx (af_get _ (show i < 600 by omega)) ?_
    refine e_iload_n dX3_entriesOf_18 rfl ?_
    refine e_icmp_ne (tgt := 25) dX3_entriesOf_19 (by decide) (fun d1 => ?_) (fun d1 => ?_)
    · refine e_loc [3, 2, 0, 1] rfl (nxt n (cT_n _ hn ?_))
      have : ¬ il i = L := fun q => d1 (by rw [q])
      simp [this]
    · have e1 : il i = L := (nI_c (by omega) (by omega)).mp d1
      refine e_iinc dX3_entriesOf_22 rfl rfl (by decide) rfl ?_
      exact e_loc [3, 2, 0, 1] rfl (nxt _ (cT_s _ hn (by simp [e1])))
theorem con_entriesOf (d : Nat) (h : xH) (m L : Nat) {kv : Nat → xE} {it il lw ll : Nat → Nat} {ow : Nat → Bool} {cm : Nat → Nat} {ks ni nl lv tk : Nat} {se lf : Int32} {ub : Bool} {sd : Int32} {ck : Nat} {cb : Bool} {hn : Nat} (hm : x_mm h m (kv, it, il, lw, ll, ow, cm) (ks, ni, nl, lv, tk, se, lf, ub, sd, ck, cb, hn)) (hB : mB it il lw ll ni nl) (hL : L < 64) : x_D mX3_entriesOf d 0 0 [.ref m, .int (nI L)] h [.int (nI (cT (fun i => decide (il i = L)) ni))] h := by
  refine e_enter (by decide) (Nat.le_of_ble_eq_true rfl) ?_
  refine e_iconst (v := 0) dX3_entriesOf_0 (by decide) ?_
  refine e_istore_n dX3_entriesOf_1 (by decide) rfl ?_
  refine e_iconst (v := 0) dX3_entriesOf_2 (by decide) ?_
  refine e_istore_n dX3_entriesOf_3 (by decide) rfl ?_
  exact e_loc [3, 2, 0, 1] rfl (eo_lo d h m L hm hB hL ni 0 0 0 rfl (by omega) rfl)
/-- the page q stands left of the page p -/
def lft (kv : Nat → xE) (lw ll : Nat → Nat) (p q : Nat) : Bool := decide (ll q = ll p) && decide (rk kv (lw q) < rk kv (lw p))
theorem lo_lo (d : Nat) (h : xH) (m p : Nat) {kv : Nat → xE} {it il lw ll : Nat → Nat} {ow : Nat → Bool} {cm : Nat → Nat} {ks ni nl lv tk : Nat} {se lf : Int32} {ub : Bool} {sd : Int32} {ck : Nat} {cb : Bool} {hn : Nat} (hm : x_mm h m (kv, it, il, lw, ll, ow, cm) (ks, ni, nl, lv, tk, se, lf, ub, sd, ck, cb, hn)) (hB : mB it il lw ll ni nl) (hp : p < nl) :
    ∀ (k i : Nat) (x n : Int32), x = nI i → i + k = nl → n = nI (cT (lft kv lw ll p) i) →
    x_E mX3_leftOf (d + 2) 0 0 4 [(3, .int x), (2, .int n), (0, .ref m), (1, .int (nI p))] [] h (fun rv h' => rv = [.int (nI (cT (lft kv lw ll p) nl))] ∧ h' = h) := by
  have hm' := hm
  obtain ⟨m0, m1, m2, m3, m4, m5, m6, m7, m8, m9, m10, m11⟩ := hm
  obtain ⟨b1, b2, b3, b4⟩ := hB
  intro k
  induction k with
  | zero =>
    intro i x n hx hi hn
    refine e_iload_n dX3_leftOf_4 rfl ?_
    refine e_aload_n dX3_leftOf_5 rfl ?_
    refine e_get dX3_leftOf_6 fX3_65 m0 rfl ?_
    refine e_icmp_ge (tgt := 55) dX3_leftOf_9 (by decide) (fun _ => ?_) (fun c => absurd (by rw [hx]; exact nI_le (by omega) (by omega)) c)
    refine e_iload_n dX3_leftOf_55 rfl ?_
    exact e_iret dX3_leftOf_56 rfl rfl ⟨by rw [hn, show i = nl by omega], rfl⟩
  | succ k ih =>
    intro i x n hx hi hn
    obtain ⟨g1, g2⟩ := b4 i (by omega)
    obtain ⟨g3, g4⟩ := b4 p hp
    have nxt : ∀ n', n' = nI (cT (lft kv lw ll p) (i + 1)) → x_E mX3_leftOf (d + 2) 0 0 49 [(3, .int x), (2, .int n'), (0, .ref m), (1, .int (nI p))] [] h (fun rv h' => rv = [.int (nI (cT (lft kv lw ll p) nl))] ∧ h' = h) := by
      intro n' hn'
      refine e_iinc dX3_leftOf_49 rfl rfl (by decide) rfl ?_
      refine e_goto (tgt := 4) dX3_leftOf_52 (by decide) ?_
      exact e_loc [3, 2, 0, 1] rfl (ih (i + 1) _ n' (by rw [hx]; exact nI_1 i) (by omega) hn')
    refine e_iload_n dX3_leftOf_4 rfl ?_
    refine e_aload_n dX3_leftOf_5 rfl ?_
    refine e_get dX3_leftOf_6 fX3_65 m0 rfl ?_
    refine e_icmp_ge (tgt := 55) dX3_leftOf_9 (by decide) (fun c => absurd c (by rw [hx]; exact nI_ge (by omega) (by omega))) (fun _ => ?_)
    refine e_aload_n dX3_leftOf_12 rfl ?_
    refine e_get dX3_leftOf_13 fX3_39 m0 rfl ?_
    refine e_iload_n dX3_leftOf_16 rfl ?_
    refine e_iald dX3_leftOf_17 m9 rfl hx (af_get _ (show i < 60 by omega)) ?_
    refine e_aload_n dX3_leftOf_18 rfl ?_
    refine e_get dX3_leftOf_19 fX3_39 m0 rfl ?_
    refine e_iload_n dX3_leftOf_22 rfl ?_
    refine e_iald dX3_leftOf_23 m9 rfl rfl (af_get _ (show p < 60 by omega)) ?_
    refine e_icmp_ne (tgt := 49) dX3_leftOf_24 (by decide) (fun d1 => ?_) (fun d1 => ?_)
    · refine e_loc [3, 2, 0, 1] rfl (nxt n (cT_n _ hn ?_))
      have : ¬ ll i = ll p := fun q => d1 (by rw [q])
      simp [lft, this]
    have e1 : ll i = ll p := (nI_c (by omega) (by omega)).mp d1
    refine e_aload_n dX3_leftOf_27 rfl ?_
    refine e_aload_n dX3_leftOf_28 rfl ?_
    refine e_get dX3_leftOf_29 fX3_36 m0 rfl ?_
    refine e_iload_n dX3_leftOf_32 rfl ?_
    refine e_iald dX3_leftOf_33 m8 rfl hx (af_get _ (show i < 60 by omega)) ?_
    refine e_aload_n dX3_leftOf_34 rfl ?_
    refine e_get dX3_leftOf_35 fX3_36 m0 rfl ?_
    refine e_iload_n dX3_leftOf_38 rfl ?_
    refine e_iald dX3_leftOf_39 m8 rfl rfl (af_get _ (show p < 60 by omega)) ?_
    refine e_V2d dX3_leftOf_40 gX3_68 m0 rfl (by omega) (Nat.le_of_ble_eq_true rfl) rfl rfl (con_order d h m (lw i) (lw p) hm' g1 g3) ?_
    refine e_if_ge (tgt := 49) dX3_leftOf_43 (by decide) (fun d3 => ?_) (fun d3 => ?_)
    · refine e_loc [3, 2, 0, 1] rfl (nxt n (cT_n _ hn ?_))
      have : ¬ rk kv (lw i) < rk kv (lw p) := fun q => absurd d3 (by rw [c3_lt (by omega)]; decide)
      simp [lft, this]
    · have e3 : rk kv (lw i) < rk kv (lw p) := by
        have := c3_n.mp (Int32.not_le.mp d3)
        omega
      refine e_iinc dX3_leftOf_46 rfl rfl (by decide) rfl ?_
      exact e_loc [3, 2, 0, 1] rfl (nxt _ (cT_s _ hn (by simp [lft, e1, e3])))
theorem con_leftOf (d : Nat) (h : xH) (m p : Nat) {kv : Nat → xE} {it il lw ll : Nat → Nat} {ow : Nat → Bool} {cm : Nat → Nat} {ks ni nl lv tk : Nat} {se lf : Int32} {ub : Bool} {sd : Int32} {ck : Nat} {cb : Bool} {hn : Nat} (hm : x_mm h m (kv, it, il, lw, ll, ow, cm) (ks, ni, nl, lv, tk, se, lf, ub, sd, ck, cb, hn)) (hB : mB it il lw ll ni nl) (hp : p < nl) : x_D mX3_leftOf (d + 2) 0 0 [.ref m, .int (nI p)] h [.int (nI (cT (lft kv lw ll p) nl))] h := by
  refine e_enter (by decide) (Nat.le_of_ble_eq_true rfl) ?_
  refine e_iconst (v := 0) dX3_leftOf_0 (by decide) ?_
  refine e_istore_n dX3_leftOf_1 (by decide) rfl ?_
  refine e_iconst (v := 0) dX3_leftOf_2 (by decide) ?_
  refine e_istore_n dX3_leftOf_3 (by decide) rfl ?_
  exact e_loc [3, 2, 0, 1] rfl (lo_lo d h m p hm hB hp nl 0 0 0 rfl (by omega) rfl)
theorem con_mplace (d : Nat) (h : xH) (m : Nat) {kv : Nat → xE} {it il lw ll : Nat → Nat} {ow : Nat → Bool} {cm : Nat → Nat} {ks ni nl lv tk : Nat} {se lf : Int32} {ub : Bool} {sd : Int32} {ck : Nat} {cb : Bool} {hn : Nat} (hm : x_mm h m (kv, it, il, lw, ll, ow, cm) (ks, ni, nl, lv, tk, se, lf, ub, sd, ck, cb, hn)) (hhn : hn < 513) : x_D mX3_place d 0 0 [.ref m] h [.int (kv hn).2.2.2.2] h := by
  have m0 := hm.1
  have m5 := hm.2.2.2.2.2.1
  refine e_enter (by decide) (Nat.le_of_ble_eq_true rfl) ?_
  refine e_aload_n dX3_place_0 rfl ?_
  refine e_get dX3_place_1 fX3_22 m0 rfl ?_
  refine e_aload_n dX3_place_4 rfl ?_
  refine e_get dX3_place_5 fX3_53 m0 rfl ?_
  refine e_iald dX3_place_8 m5 rfl rfl (af_get _ hhn) ?_
  exact e_iret dX3_place_9 rfl rfl ⟨rfl, rfl⟩
def wd (e : xE) (k : Int32) : Int64 := if k = 0 then e.1 else if k = 1 then e.2.1 else if k = 2 then e.2.2.1 else if k = 3 then e.2.2.2.1 else 0
theorem k03 {k : Int32} (h0 : ¬ k = 0) (h1 : ¬ k = 1) (h2 : ¬ k = 2) (h3 : ¬ k = 3) : k.toInt < 0 ∨ 3 < k.toInt := by
  have e0 : k.toInt ≠ 0 := fun q => h0 (Int32.toInt_inj.mp q)
  have e1 : k.toInt ≠ 1 := fun q => h1 (Int32.toInt_inj.mp q)
  have e2 : k.toInt ≠ 2 := fun q => h2 (Int32.toInt_inj.mp q)
  have e3 : k.toInt ≠ 3 := fun q => h3 (Int32.toInt_inj.mp q)
  omega
theorem con_mword (d : Nat) (h : xH) (m : Nat) (k : Int32) {kv : Nat → xE} {it il lw ll : Nat → Nat} {ow : Nat → Bool} {cm : Nat → Nat} {ks ni nl lv tk : Nat} {se lf : Int32} {ub : Bool} {sd : Int32} {ck : Nat} {cb : Bool} {hn : Nat} (hm : x_mm h m (kv, it, il, lw, ll, ow, cm) (ks, ni, nl, lv, tk, se, lf, ub, sd, ck, cb, hn)) (hhn : hn < 513) : x_D mX3_word d 0 0 [.ref m, .int k] h [.long (wd (kv hn) k)] h := by
  obtain ⟨m0, m1, m2, m3, m4, -⟩ := hm
  refine e_enter (by decide) (Nat.le_of_ble_eq_true rfl) ?_
  refine e_iload_n dX3_word_0 rfl ?_
  by_cases h0 : k = 0
  · subst h0
    refine e_tableIn (tgt := 32) dX3_word_1 (by decide) (by decide) rfl (by decide) ?_
    refine e_aload_n dX3_word_32 rfl ?_
    refine e_get dX3_word_33 fX3_7 m0 rfl ?_
    refine e_aload_n dX3_word_36 rfl ?_
    refine e_get dX3_word_37 fX3_53 m0 rfl ?_
    refine e_lald dX3_word_40 m1 rfl rfl (af_get _ hhn) ?_
    exact e_lret dX3_word_41 rfl ⟨by simp [wd], rfl⟩
  by_cases h1 : k = 1
  · subst h1
    refine e_tableIn (tgt := 42) dX3_word_1 (by decide) (by decide) rfl (by decide) ?_
    refine e_aload_n dX3_word_42 rfl ?_
    refine e_get dX3_word_43 fX3_13 m0 rfl ?_
    refine e_aload_n dX3_word_46 rfl ?_
    refine e_get dX3_word_47 fX3_53 m0 rfl ?_
    refine e_lald dX3_word_50 m2 rfl rfl (af_get _ hhn) ?_
    exact e_lret dX3_word_51 rfl ⟨by simp [wd], rfl⟩
  by_cases h2 : k = 2
  · subst h2
    refine e_tableIn (tgt := 52) dX3_word_1 (by decide) (by decide) rfl (by decide) ?_
    refine e_aload_n dX3_word_52 rfl ?_
    refine e_get dX3_word_53 fX3_16 m0 rfl ?_
    refine e_aload_n dX3_word_56 rfl ?_
    refine e_get dX3_word_57 fX3_53 m0 rfl ?_
    refine e_lald dX3_word_60 m3 rfl rfl (af_get _ hhn) ?_
    exact e_lret dX3_word_61 rfl ⟨by simp [wd], rfl⟩
  by_cases h3 : k = 3
  · subst h3
    refine e_tableIn (tgt := 62) dX3_word_1 (by decide) (by decide) rfl (by decide) ?_
    refine e_aload_n dX3_word_62 rfl ?_
    refine e_get dX3_word_63 fX3_19 m0 rfl ?_
    refine e_aload_n dX3_word_66 rfl ?_
    refine e_get dX3_word_67 fX3_53 m0 rfl ?_
    refine e_lald dX3_word_70 m4 rfl rfl (af_get _ hhn) ?_
    exact e_lret dX3_word_71 rfl ⟨by simp [wd], rfl⟩
  · refine e_tableOut (tgt := 72) dX3_word_1 (k03 h0 h1 h2 h3) (by decide) ?_
    refine e_lconst (v := 0) dX3_word_72 (by decide) ?_
    exact e_lret dX3_word_73 rfl ⟨by simp [wd, h0, h1, h2, h3], rfl⟩
theorem con_mcount (d : Nat) (h : xH) (m : Nat) (k : Int32) {kv : Nat → xE} {it il lw ll : Nat → Nat} {ow : Nat → Bool} {cm : Nat → Nat} {ks ni nl lv tk : Nat} {se lf : Int32} {ub : Bool} {sd : Int32} {ck : Nat} {cb : Bool} {hn : Nat} (hm : x_mm h m (kv, it, il, lw, ll, ow, cm) (ks, ni, nl, lv, tk, se, lf, ub, sd, ck, cb, hn)) (hB : mB it il lw ll ni nl) : x_D mX3_count (d + 1) 0 0 [.ref m, .int k] h [.int (if k = 0 then nI lv else if k = 1 then nI tk else if k = 2 then se else if k = 3 then nI (cT (fun i => decide (il i = 0)) ni) else -1)] h := by
  have m0 := hm.1
  refine e_enter (by decide) (Nat.le_of_ble_eq_true rfl) ?_
  refine e_iload_n dX3_count_0 rfl ?_
  by_cases h0 : k = 0
  · subst h0
    refine e_tableIn (tgt := 32) dX3_count_1 (by decide) (by decide) rfl (by decide) ?_
    refine e_aload_n dX3_count_32 rfl ?_
    refine e_get dX3_count_33 fX3_88 m0 rfl ?_
    exact e_iret dX3_count_36 rfl rfl ⟨by simp, rfl⟩
  by_cases h1 : k = 1
  · subst h1
    refine e_tableIn (tgt := 37) dX3_count_1 (by decide) (by decide) rfl (by decide) ?_
    refine e_aload_n dX3_count_37 rfl ?_
    refine e_get dX3_count_38 fX3_123 m0 rfl ?_
    exact e_iret dX3_count_41 rfl rfl ⟨by simp, rfl⟩
  by_cases h2 : k = 2
  · subst h2
    refine e_tableIn (tgt := 42) dX3_count_1 (by decide) (by decide) rfl (by decide) ?_
    refine e_aload_n dX3_count_42 rfl ?_
    refine e_get dX3_count_43 fX3_78 m0 rfl ?_
    exact e_iret dX3_count_46 rfl rfl ⟨by simp, rfl⟩
  by_cases h3 : k = 3
  · subst h3
    refine e_tableIn (tgt := 47) dX3_count_1 (by decide) (by decide) rfl (by decide) ?_
    refine e_aload_n dX3_count_47 rfl ?_
    refine e_iconst (v := 0) dX3_count_48 (by decide) ?_
    refine e_V1d dX3_count_49 gX3_149 m0 rfl (by omega) (Nat.le_of_ble_eq_true rfl) rfl rfl (con_entriesOf d h m 0 hm hB (by omega)) ?_
    exact e_iret dX3_count_52 rfl rfl ⟨by simp, rfl⟩
  · refine e_tableOut (tgt := 53) dX3_count_1 (k03 h0 h1 h2 h3) (by decide) ?_
    refine e_iconst (v := (-1)) dX3_count_53 (by decide) ?_
    exact e_iret dX3_count_54 rfl rfl ⟨by simp [h0, h1, h2, h3], rfl⟩
theorem con_mseek (d : Nat) (h : xH) (m : Nat) (e : xE) (he : e.2.2.2.2 = 0) {kv : Nat → xE} {it il lw ll : Nat → Nat} {ow : Nat → Bool} {cm : Nat → Nat} {ks ni nl lv tk : Nat} {se lf : Int32} {ub : Bool} {sd : Int32} {ck : Nat} {cb : Bool} {hn : Nat} (hm : x_mm h m (kv, it, il, lw, ll, ow, cm) (ks, ni, nl, lv, tk, se, lf, ub, sd, ck, cb, hn)) (hks : ks < 513) : x_Con mX3_seek (d + 1) 0 0 [.ref m, .long e.1, .long e.2.1, .long e.2.2.1, .long e.2.2.2.1] h (fun rv h' => rv = [] ∧ x_mm h' m (kvu kv ks e, it, il, lw, ll, ow, cm) (ks + 1, ni, nl, lv, tk, se, lf, ub, 0, ks, false, hn) ∧ x_mf m h h') := by
  have m0 := hm.1
  refine e_enter (by decide) (Nat.le_of_ble_eq_true rfl) ?_
  refine e_aload_n dX3_seek_0 rfl ?_
  refine e_aload_n dX3_seek_1 rfl ?_
  refine e_lload_n dX3_seek_2 rfl ?_
  refine e_lload_n dX3_seek_3 rfl ?_
  refine e_lload dX3_seek_4 rfl ?_
  refine e_lload dX3_seek_6 rfl ?_
  refine e_iconst (v := 0) dX3_seek_8 (by decide) ?_
  refine e_V5 dX3_seek_9 gX3_113 m0 rfl (by omega) (Nat.le_of_ble_eq_true rfl) rfl rfl (he ▸ con_numbered d h m e hm hks) ?_
  rintro _ h2 ⟨rfl, hm2, hf2⟩
  refine e_iconst (v := 0) dX3_seek_12 (by decide) ?_
  refine e_V2 dX3_seek_13 gX3_133 hm2.1 rfl (by omega) (Nat.le_of_ble_eq_true rfl) rfl rfl (con_stand d h2 m ks false hm2) ?_
  rintro _ h3 ⟨rfl, hm3, hf3⟩
  have m0 := hm3.1
  refine e_aload_n dX3_seek_16 rfl ?_
  refine e_dup dX3_seek_17 rfl ?_
  refine e_get dX3_seek_18 fX3_26 m0 rfl ?_
  refine e_iconst (v := 1) dX3_seek_21 (by decide) ?_
  refine e_iadd dX3_seek_22 ?_
  refine e_putM (s' := (ks + 1, ni, nl, lv, tk, se, lf, ub, 0, ks, false, hn)) dX3_seek_23 fX3_26 m0 (by exact ⟨rfl, rfl⟩) (congrArg Value.int (nI_1 ks)) rfl ?_
  exact e_ret dX3_seek_26 rfl ⟨rfl, hm3.s _, (hf2.tr hf3).up0⟩
theorem con_mclear (d : Nat) (h : xH) (m : Nat) {kv : Nat → xE} {it il lw ll : Nat → Nat} {ow : Nat → Bool} {cm : Nat → Nat} {ks ni nl lv tk : Nat} {se lf : Int32} {ub : Bool} {sd : Int32} {ck : Nat} {cb : Bool} {hn : Nat} (hm : x_mm h m (kv, it, il, lw, ll, ow, cm) (ks, ni, nl, lv, tk, se, lf, ub, sd, ck, cb, hn)) : x_Con mX3_clear (d + 1) 0 0 [.ref m] h (fun rv h' => rv = [] ∧ x_mm h' m (kv, it, il, fu lw 0 0, fu ll 0 0, (fun q => if q = 0 then false else ow q), cm) (ks, 0, 1, 1, 1, se + 3, lf, ub, -1, ck, cb, hn) ∧ x_mf m h h') := by
  have m0 := hm.1
  refine e_enter (by decide) (Nat.le_of_ble_eq_true rfl) ?_
  refine e_aload_n dX3_clear_0 rfl ?_
  refine e_iconst (v := 0) dX3_clear_1 (by decide) ?_
  refine e_putM (s' := (ks, 0, nl, lv, tk, se, lf, ub, sd, ck, cb, hn)) dX3_clear_2 fX3_72 m0 (by exact ⟨rfl, rfl⟩) rfl rfl ?_
  have hm := hm.s (ks, 0, nl, lv, tk, se, lf, ub, sd, ck, cb, hn)
  have m0 := hm.1
  refine e_aload_n dX3_clear_5 rfl ?_
  refine e_iconst (v := 0) dX3_clear_6 (by decide) ?_
  refine e_putM (s' := (ks, 0, 0, lv, tk, se, lf, ub, sd, ck, cb, hn)) dX3_clear_7 fX3_65 m0 (by exact ⟨rfl, rfl⟩) rfl rfl ?_
  have hm := hm.s (ks, 0, 0, lv, tk, se, lf, ub, sd, ck, cb, hn)
  refine e_aload_n dX3_clear_10 rfl ?_
  refine e_iconst (v := 0) dX3_clear_11 (by decide) ?_
  refine e_iconst (v := 0) dX3_clear_12 (by decide) ?_
  refine e_V2 dX3_clear_13 gX3_98 hm.1 rfl (by omega) (Nat.le_of_ble_eq_true rfl) rfl rfl (con_addPage d _ m 0 0 hm (by omega)) ?_
  rintro _ h3 ⟨rfl, hm3, hf3⟩
  have m0 := hm3.1
  refine e_aload_n dX3_clear_16 rfl ?_
  refine e_iconst (v := 1) dX3_clear_17 (by decide) ?_
  refine e_putM (s' := (ks, 0, 0 + 1, 1, tk, se, lf, ub, sd, ck, cb, hn)) dX3_clear_18 fX3_88 m0 (by exact ⟨rfl, rfl⟩) rfl rfl ?_
  have hm := hm3.s (ks, 0, 0 + 1, 1, tk, se, lf, ub, sd, ck, cb, hn)
  have m0 := hm.1
  refine e_aload_n dX3_clear_21 rfl ?_
  refine e_iconst (v := 1) dX3_clear_22 (by decide) ?_
  refine e_putM (s' := (ks, 0, 0 + 1, 1, 1, se, lf, ub, sd, ck, cb, hn)) dX3_clear_23 fX3_123 m0 (by exact ⟨rfl, rfl⟩) rfl rfl ?_
  have hm := hm.s (ks, 0, 0 + 1, 1, 1, se, lf, ub, sd, ck, cb, hn)
  have m0 := hm.1
  refine e_aload_n dX3_clear_26 rfl ?_
  refine e_dup dX3_clear_27 rfl ?_
  refine e_get dX3_clear_28 fX3_78 m0 rfl ?_
  refine e_iconst (v := 3) dX3_clear_31 (by decide) ?_
  refine e_iadd dX3_clear_32 ?_
  refine e_putM (s' := (ks, 0, 0 + 1, 1, 1, se + 3, lf, ub, sd, ck, cb, hn)) dX3_clear_33 fX3_78 m0 (by exact ⟨rfl, rfl⟩) rfl rfl ?_
  have hm := hm.s (ks, 0, 0 + 1, 1, 1, se + 3, lf, ub, sd, ck, cb, hn)
  refine e_aload_n dX3_clear_36 rfl ?_
  refine e_V0 dX3_clear_37 gX3_130 hm.1 rfl (by omega) (Nat.le_of_ble_eq_true rfl) rfl rfl (con_mfirst d _ m hm) ?_
  rintro _ h4 ⟨rfl, hm4, hf4⟩
  exact e_ret dX3_clear_40 rfl ⟨rfl, hm4, ((x_mf.rf.up0.up0.tr hf3).up0.up0.up0).tr hf4⟩
theorem con_mhas (d : Nat) (h : xH) (m : Nat) (e : xE) (o : Option Nat) {kv : Nat → xE} {it il lw ll : Nat → Nat} {ow : Nat → Bool} {cm : Nat → Nat} {ks ni nl lv tk : Nat} {se lf : Int32} {ub : Bool} {sd : Int32} {ck : Nat} {cb : Bool} {hn : Nat} (hm : x_mm h m (kv, it, il, lw, ll, ow, cm) (ks, ni, nl, lv, tk, se, lf, ub, sd, ck, cb, hn)) (hB : mB it il lw ll ni nl) (hks : ks < 513) (ho : isI (kvu kv ks e) it il ni ks o) : x_Con mX3_has (d + 3) 0 0 [.ref m, .long e.1, .long e.2.1, .long e.2.2.1, .long e.2.2.2.1, .int e.2.2.2.2] h (fun rv h' => rv = [.int (bI o.isSome)] ∧ x_mm h' m (kvu kv ks e, it, il, lw, ll, ow, cm) (ks, ni, nl, lv, tk, se, lf, ub, sd, ck, cb, hn) ∧ x_mf m h h') := by
  have m0 := hm.1
  refine e_enter (by decide) (Nat.le_of_ble_eq_true rfl) ?_
  refine e_aload_n dX3_has_0 rfl ?_
  refine e_aload_n dX3_has_1 rfl ?_
  refine e_lload_n dX3_has_2 rfl ?_
  refine e_lload_n dX3_has_3 rfl ?_
  refine e_lload dX3_has_4 rfl ?_
  refine e_lload dX3_has_6 rfl ?_
  refine e_iload dX3_has_8 rfl ?_
  refine e_V5 dX3_has_10 gX3_113 m0 rfl (by omega) (Nat.le_of_ble_eq_true rfl) rfl rfl (con_numbered (d + 2) h m e hm hks) ?_
  rintro _ h2 ⟨rfl, hm2, hf2⟩
  refine e_V1d dX3_has_13 gX3_117 hm2.1 rfl (by omega) (Nat.le_of_ble_eq_true rfl) rfl rfl (con_itemOf d h2 m ks o hm2 hB hks ho) ?_
  cases o with
  | none =>
    refine e_if_lt (tgt := 23) dX3_has_16 (by decide) (fun _ => ?_) (fun c => absurd (by decide) c)
    refine e_iconst (v := 0) dX3_has_23 (by decide) ?_
    exact e_iret dX3_has_24 rfl rfl ⟨rfl, hm2, hf2⟩
  | some i0 =>
    have hi0 : i0 < ni := ho.1
    have := hB.1
    refine e_if_lt (tgt := 23) dX3_has_16 (by decide) (fun c => absurd c (nI_pos (by omega))) (fun _ => ?_)
    refine e_iconst (v := 1) dX3_has_19 (by decide) ?_
    refine e_goto (tgt := 24) dX3_has_20 (by decide) ?_
    exact e_iret dX3_has_24 rfl rfl ⟨rfl, hm2, hf2⟩
theorem con_mremove (d : Nat) (h : xH) (m p0 : Nat) (e : xE) (o : Option Nat) {kv : Nat → xE} {it il lw ll : Nat → Nat} {ow : Nat → Bool} {cm : Nat → Nat} {ks ni nl lv tk : Nat} {se lf : Int32} {ub : Bool} {sd : Int32} {ck : Nat} {cb : Bool} {hn : Nat} (hm : x_mm h m (kv, it, il, lw, ll, ow, cm) (ks, ni, nl, lv, tk, se, lf, ub, sd, ck, cb, hn)) (hB : mB it il lw ll ni nl) (hks : ks < 513) (ho : isI (kvu kv ks e) it il ni ks o) (hC : o.isSome = true → isC (kvu kv ks e) lw ll nl 0 ks p0) : x_Con mX3_remove (d + 3) 0 0 [.ref m, .long e.1, .long e.2.1, .long e.2.2.1, .long e.2.2.2.1, .int e.2.2.2.2] h (fun rv h' => x_mf m h h' ∧ (match o with
    | none => rv = [.int 0] ∧ x_mm h' m (kvu kv ks e, it, il, lw, ll, ow, cm) (ks, ni, nl, lv, tk, se, lf, ub, sd, ck, cb, hn)
    | some i0 => if (sW 1 (se, lf, ub)).1 then rv = [.int 1] ∧ x_mm h' m (kvu kv ks e, fu it i0 (it (ni - 1)), fu il i0 (il (ni - 1)), lw, ll, (fun q => if q = p0 then false else ow q), cm) (ks, ni - 1, nl, lv, tk, (sW 1 (se, lf, ub)).2.1, (sW 1 (se, lf, ub)).2.2.1, (sW 1 (se, lf, ub)).2.2.2, sd, ck, cb, hn)
      else rv = [.int (-2)] ∧ x_mm h' m (kvu kv ks e, it, il, lw, ll, ow, cm) (ks, ni, nl, lv, tk, (sW 1 (se, lf, ub)).2.1, (sW 1 (se, lf, ub)).2.2.1, (sW 1 (se, lf, ub)).2.2.2, sd, ck, cb, hn))) := by
  have m0 := hm.1
  refine e_enter (by decide) (Nat.le_of_ble_eq_true rfl) ?_
  refine e_aload_n dX3_remove_0 rfl ?_
  refine e_lload_n dX3_remove_1 rfl ?_
  refine e_lload_n dX3_remove_2 rfl ?_
  refine e_lload dX3_remove_3 rfl ?_
  refine e_lload dX3_remove_5 rfl ?_
  refine e_iload dX3_remove_7 rfl ?_
  refine e_V5 dX3_remove_9 gX3_113 m0 rfl (by omega) (Nat.le_of_ble_eq_true rfl) rfl rfl (con_numbered (d + 2) h m e hm hks) ?_
  rintro _ h2 ⟨rfl, hm2, hf2⟩
  refine e_istore dX3_remove_12 (by decide) rfl ?_
  refine e_aload_n dX3_remove_14 rfl ?_
  refine e_iload dX3_remove_15 rfl ?_
  refine e_V1d dX3_remove_17 gX3_117 hm2.1 rfl (by omega) (Nat.le_of_ble_eq_true rfl) rfl rfl (con_itemOf d h2 m ks o hm2 hB hks ho) ?_
  refine e_istore dX3_remove_20 (by decide) rfl ?_
  refine e_iload dX3_remove_22 rfl ?_
  cases o with
  | none =>
    refine e_if_ge (tgt := 29) dX3_remove_24 (by decide) (fun c => absurd c (by decide)) (fun _ => ?_)
    refine e_iconst (v := 0) dX3_remove_27 (by decide) ?_
    exact e_iret dX3_remove_28 rfl rfl ⟨hf2, rfl, hm2⟩
  | some i0 =>
    have hi0 : i0 < ni := ho.1
    have hn6 := hB.1
    have hn60 := hB.2.1
    have hp0 := (hC rfl).1
    obtain ⟨n', hn'⟩ : ∃ n', ni = n' + 1 := ⟨ni - 1, by omega⟩
    refine e_if_ge (tgt := 29) dX3_remove_24 (by decide) (fun _ => ?_) (fun c => absurd (nI_pos' (by omega)) c)
    refine e_aload_n dX3_remove_29 rfl ?_
    refine e_iconst (v := 1) dX3_remove_30 (by decide) ?_
    refine e_V1 dX3_remove_31 gX3_94 hm2.1 rfl (by omega) (Nat.le_of_ble_eq_true rfl) rfl rfl (con_set (d + 2) h2 m 1 hm2) ?_
    rintro _ h3 ⟨rfl, hm3, hf3⟩
    refine e_if_ne (tgt := 40) dX3_remove_34 (by decide) (fun c => ?_) (fun c => ?_)
    · have hT := bI_nz c
      have m0 := hm3.1
      refine e_aload_n dX3_remove_40 rfl ?_
      refine e_get dX3_remove_41 fX3_42 m0 rfl ?_
      refine e_aload_n dX3_remove_44 rfl ?_
      refine e_iconst (v := 0) dX3_remove_45 (by decide) ?_
      refine e_iload dX3_remove_46 rfl ?_
      refine e_V2d dX3_remove_48 gX3_75 m0 rfl (by omega) (Nat.le_of_ble_eq_true rfl) rfl rfl (con_inCharge (d := d) h3 m 0 ks p0 hm3 hB hks (by omega) (hC rfl)) ?_
      refine e_iconst (v := 0) dX3_remove_51 (by decide) ?_
      refine e_zastF (z := false) dX3_remove_52 hm3.2.2.2.2.2.2.2.2.2.2.1 rfl (show p0 < 60 by omega) rfl ?_
      have hm4 := hm3.ow (fun q => if q = p0 then false else ow q)
      have m0 := hm4.1
      refine e_aload_n dX3_remove_53 rfl ?_
      refine e_dup dX3_remove_54 rfl ?_
      refine e_get dX3_remove_55 fX3_72 m0 rfl ?_
      refine e_iconst (v := 1) dX3_remove_58 (by decide) ?_
      refine e_isub dX3_remove_59 ?_
      refine e_putM (s' := (ks, ni - 1, nl, lv, tk, (sW 1 (se, lf, ub)).2.1, (sW 1 (se, lf, ub)).2.2.1, (sW 1 (se, lf, ub)).2.2.2, sd, ck, cb, hn)) dX3_remove_60 fX3_72 m0 (by exact ⟨rfl, rfl⟩) (congrArg Value.int (by rw [hn']; exact nI_pred n')) rfl ?_
      have hm5 := hm4.s (ks, ni - 1, nl, lv, tk, (sW 1 (se, lf, ub)).2.1, (sW 1 (se, lf, ub)).2.2.1, (sW 1 (se, lf, ub)).2.2.2, sd, ck, cb, hn)
      have m0 := hm5.1
      have m6 := hm5.2.2.2.2.2.2.1
      refine e_aload_n dX3_remove_63 rfl ?_
      refine e_get dX3_remove_64 fX3_30 m0 rfl ?_
      refine e_iload dX3_remove_67 rfl ?_
      refine e_aload_n dX3_remove_69 rfl ?_
      refine e_get dX3_remove_70 fX3_30 m0 rfl ?_
      refine e_aload_n dX3_remove_73 rfl ?_
      refine e_get dX3_remove_74 fX3_72 m0 rfl ?_
      refine e_iald dX3_remove_77 m6 rfl rfl (af_get _ (show ni - 1 < 600 by omega)) ?_
      refine e_iastI dX3_remove_78 m6 rfl (show i0 < 600 by omega) rfl ?_
      have hm6 := hm5.it (fu it i0 (it (ni - 1)))
      have m0 := hm6.1
      have m7 := hm6.2.2.2.2.2.2.2.1
      refine e_aload_n dX3_remove_79 rfl ?_
      refine e_get dX3_remove_80 fX3_33 m0 rfl ?_
      refine e_iload dX3_remove_83 rfl ?_
      refine e_aload_n dX3_remove_85 rfl ?_
      refine e_get dX3_remove_86 fX3_33 m0 rfl ?_
      refine e_aload_n dX3_remove_89 rfl ?_
      refine e_get dX3_remove_90 fX3_72 m0 rfl ?_
      refine e_iald dX3_remove_93 m7 rfl rfl (af_get _ (show ni - 1 < 600 by omega)) ?_
      refine e_iastI dX3_remove_94 m7 rfl (show i0 < 600 by omega) rfl ?_
      refine e_iconst (v := 1) dX3_remove_95 (by decide) ?_
      refine e_iret dX3_remove_96 rfl rfl ⟨(((hf2.tr hf3).up (by omega)).up0.up (by omega)).up (by omega), ?_⟩
      dsimp only
      rw [if_pos hT]
      exact ⟨rfl, hm6.il _⟩
    · have hT := bI_z c
      refine e_bipush (v := (-2)) dX3_remove_37 (by decide) ?_
      refine e_iret dX3_remove_39 rfl rfl ⟨hf2.tr hf3, ?_⟩
      dsimp only
      rw [if_neg (by rw [hT]; exact Bool.false_ne_true)]
      exact ⟨rfl, hm3⟩
