/-! the reference's object: its cells -/
def bI (b : Bool) : Int32 := if b then 1 else 0
def af (n : Nat) (g : Nat → Value) : List Value := (List.range n).map g
theorem af_len (n : Nat) (g : Nat → Value) : (af n g).length = n := by simp [af]
theorem af_get {n j : Nat} (g : Nat → Value) (hj : j < n) : (af n g)[j]? = some (g j) := by simp [af, hj]
theorem af_cg {n : Nat} {f g : Nat → Value} (h : ∀ j, j < n → f j = g j) : af n f = af n g := by
  unfold af
  exact List.map_congr_left fun j hj => h j (List.mem_range.mp hj)
theorem af_set (n : Nat) (g : Nat → Value) (k : Nat) (z : Value) : (af n g).set k z = af n (fun j => if j = k then z else g j) := by
  refine List.ext_getElem? fun j => ?_
  rw [List.getElem?_set]
  by_cases hj : j < n
  · rw [af_get _ hj, af_get _ hj, af_len]
    by_cases e : k = j
    · subst e; simp [hj]
    · rw [if_neg e]; simp [Ne.symm e]
  · have e1 : ∀ g : Nat → Value, (af n g)[j]? = none := fun g => List.getElem?_eq_none (by rw [af_len]; omega)
    rw [e1, e1, af_len]
    by_cases e : k = j
    · subst e; simp [hj]
    · rw [if_neg e]
theorem af_rep (n : Nat) (v : Value) : List.replicate n v = af n (fun _ => v) := by
  refine List.ext_getElem? fun j => ?_
  by_cases hj : j < n
  · rw [af_get _ hj]; simp [hj]
  · rw [List.getElem?_eq_none (by simp; omega), List.getElem?_eq_none (by rw [af_len]; omega)]
abbrev xA : Type := (Nat → xE) × (Nat → Nat) × (Nat → Nat) × (Nat → Nat) × (Nat → Nat) × (Nat → Bool) × (Nat → Nat)
abbrev xS : Type := Nat × Nat × Nat × Nat × Nat × Int32 × Int32 × Bool × Int32 × Nat × Bool × Nat
def mC (m : Nat) (s : xS) : xC := match s with
  | (ks, ni, nl, lv, tk, se, lf, ub, sd, ck, cb, hn) => .inr (3, [.ref (m + 1), .ref (m + 2), .ref (m + 3), .ref (m + 4), .ref (m + 5), .int (nI ks), .ref (m + 6), .ref (m + 7), .int (nI ni), .ref (m + 8), .ref (m + 9), .ref (m + 10), .int (nI nl), .int (nI lv), .int (nI tk), .int se, .int lf, .int (bI ub), .ref (m + 11), .int sd, .int (nI ck), .int (bI cb), .int (nI hn)])
def aL (n : Nat) (f : Nat → Int64) : xC := .inl (2, af n (fun j => .long (f j)))
def aJ (n : Nat) (f : Nat → Int32) : xC := .inl (3, af n (fun j => .int (f j)))
def aI (n : Nat) (f : Nat → Nat) : xC := .inl (3, af n (fun j => .int (nI (f j))))
def aZ (n : Nat) (f : Nat → Bool) : xC := .inl (4, af n (fun j => .int (bI (f j))))
/-- the reference's cells, twelve from m on -/
def x_mm (h : xH) (m : Nat) (A : xA) (s : xS) : Prop := match A with
  | (kv, it, il, lw, ll, ow, cm) => h.2 m = some (mC m s) ∧ h.2 (m + 1) = some (aL 513 (fun j => (kv j).1)) ∧ h.2 (m + 2) = some (aL 513 (fun j => (kv j).2.1)) ∧ h.2 (m + 3) = some (aL 513 (fun j => (kv j).2.2.1)) ∧ h.2 (m + 4) = some (aL 513 (fun j => (kv j).2.2.2.1)) ∧ h.2 (m + 5) = some (aJ 513 (fun j => (kv j).2.2.2.2)) ∧
    h.2 (m + 6) = some (aI 600 it) ∧ h.2 (m + 7) = some (aI 600 il) ∧ h.2 (m + 8) = some (aI 60 lw) ∧ h.2 (m + 9) = some (aI 60 ll) ∧ h.2 (m + 10) = some (aZ 60 ow) ∧ h.2 (m + 11) = some (aI 32 cm)
/-- nothing but the reference's cells has changed -/
def x_mf (m : Nat) (h h' : xH) : Prop := h'.1 = h.1 ∧ ∀ a : Nat, (a < m ∨ m + 12 ≤ a) → h'.2 a = h.2 a
theorem x_mf.rf {m : Nat} {h : xH} : x_mf m h h := ⟨rfl, fun _ _ => rfl⟩
theorem x_mf.tr {m : Nat} {h h' h'' : xH} (a : x_mf m h h') (b : x_mf m h' h'') : x_mf m h h'' := ⟨b.1.trans a.1, fun q hq => (b.2 q hq).trans (a.2 q hq)⟩
theorem x_mf.up {m k : Nat} {h h' : xH} {c : xC} (a : x_mf m h h') (hk : k < 12) : x_mf m h (x_up h' (m + k) c) := ⟨a.1, fun q hq => (x_up_n rfl (by omega)).trans (a.2 q hq)⟩
theorem x_mf.up0 {m : Nat} {h h' : xH} {c : xC} (a : x_mf m h h') : x_mf m h (x_up h' m c) := a.up (k := 0) (by omega)
section MW
variable {y : xM} {d kc ks0 pc : Nat} {l : List (Nat × Value)} {st : List Value} {h : xH} {Q : List Value → xH → Prop} {a j n : Nat} {i : Int32}
theorem e_lastF {f : Nat → Int64} {x : Int64} (hd : decode y.2.1 pc = .ok (.lastore, 1)) (ha : h.2 a = some (aL n f)) (hi : i = nI j) (hj : j < n) (kk : x_E y d kc ks0 (pc + 1) l st (x_up h a (aL n (fun q => if q = j then x else f q))) Q) : x_E y d kc ks0 pc l (.long x :: .int i :: .ref a :: st) h Q := by
  refine e_last hd ha rfl hi (by rw [af_len]; exact hj) ?_
  rw [af_set]
  refine e_heq ?_ kk
  unfold aL
  rw [af_cg (fun q _ => ?_)]
  by_cases hq : q = j <;> simp [hq]
theorem e_iastJ {f : Nat → Int32} {x : Int32} (hd : decode y.2.1 pc = .ok (.iastore, 1)) (ha : h.2 a = some (aJ n f)) (hi : i = nI j) (hj : j < n) (kk : x_E y d kc ks0 (pc + 1) l st (x_up h a (aJ n (fun q => if q = j then x else f q))) Q) : x_E y d kc ks0 pc l (.int x :: .int i :: .ref a :: st) h Q := by
  refine e_iast hd ha rfl hi (by rw [af_len]; exact hj) ?_
  rw [af_set]
  refine e_heq ?_ kk
  unfold aJ
  rw [af_cg (fun q _ => ?_)]
  by_cases hq : q = j <;> simp [hq]
theorem e_iastI {f : Nat → Nat} {x : Int32} {z : Nat} (hd : decode y.2.1 pc = .ok (.iastore, 1)) (ha : h.2 a = some (aI n f)) (hi : i = nI j) (hj : j < n) (hx : x = nI z) (kk : x_E y d kc ks0 (pc + 1) l st (x_up h a (aI n (fu f j z))) Q) : x_E y d kc ks0 pc l (.int x :: .int i :: .ref a :: st) h Q := by
  refine e_iast hd ha rfl hi (by rw [af_len]; exact hj) ?_
  rw [af_set]
  refine e_heq ?_ kk
  unfold aI
  rw [af_cg (fun q _ => ?_)]
  unfold fu
  rw [hx]
  by_cases hq : q = j <;> simp [hq]
theorem e_zastF {f : Nat → Bool} {x : Int32} {z : Bool} (hd : decode y.2.1 pc = .ok (.bastore, 1)) (ha : h.2 a = some (aZ n f)) (hi : i = nI j) (hj : j < n) (hx : x = bI z) (kk : x_E y d kc ks0 (pc + 1) l st (x_up h a (aZ n (fun q => if q = j then z else f q))) Q) : x_E y d kc ks0 pc l (.int x :: .int i :: .ref a :: st) h Q := by
  refine e_zast hd ha rfl hi (by rw [af_len]; exact hj) (by rw [hx]; cases z <;> rfl) ?_
  rw [af_set]
  refine e_heq ?_ kk
  unfold aZ
  rw [af_cg (fun q _ => ?_)]
  rw [hx]
  by_cases hq : q = j <;> simp [hq]
end MW
theorem con_unsigned (d : Nat) (h : xH) (x z : Int64) : x_D mX3_unsigned d 0 0 [.long x, .long z] h [.int (c3 (uN x) (uN z))] h := by
  refine e_enter (by decide) (Nat.le_of_ble_eq_true rfl) ?_
  refine e_lload_n dX3_unsigned_0 rfl ?_
  refine e_lload_n dX3_unsigned_1 rfl ?_
  refine e_lcmp dX3_unsigned_2 ?_
  refine e_if_ne (tgt := 10) dX3_unsigned_3 (by decide) (fun c1 => ?_) (fun c1 => ?_)
  · have hne : ¬ uN x = uN z := fun q => c1 ((lg_cmp_eq x z).mpr (uN_inj q))
    refine e_lload_n dX3_unsigned_10 rfl ?_
    refine e_ldc2 dX3_unsigned_11 vX3_59 ?_
    refine e_lxor dX3_unsigned_14 ?_
    refine e_lload_n dX3_unsigned_15 rfl ?_
    refine e_ldc2 dX3_unsigned_16 vX3_59 ?_
    refine e_lxor dX3_unsigned_19 ?_
    refine e_lcmp dX3_unsigned_20 ?_
    refine e_if_ge (tgt := 28) dX3_unsigned_21 (by decide) (fun c2 => ?_) (fun c2 => ?_)
    · refine e_iconst (v := 1) dX3_unsigned_28 (by decide) ?_
      refine e_iret dX3_unsigned_29 rfl rfl ⟨?_, rfl⟩
      rw [lg_cmp_ge, Int64.le_iff_toInt_le, uN_offx, uN_offx] at c2
      rw [c3_gt (by omega)]
    · refine e_iconst (v := (-1)) dX3_unsigned_24 (by decide) ?_
      refine e_goto (tgt := 29) dX3_unsigned_25 (by decide) ?_
      refine e_iret dX3_unsigned_29 rfl rfl ⟨?_, rfl⟩
      rw [lg_cmp_ge, Int64.le_iff_toInt_le, uN_offx, uN_offx] at c2
      rw [c3_lt (by omega)]
  · have e : x = z := (lg_cmp_eq x z).mp c1
    subst e
    refine e_iconst (v := 0) dX3_unsigned_6 (by decide) ?_
    refine e_goto (tgt := 29) dX3_unsigned_7 (by decide) ?_
    refine e_iret dX3_unsigned_29 rfl rfl ⟨?_, rfl⟩
    rw [c3_rf]
/-- the number of a key number: 0 stands before all -/
def rk (kv : Nat → xE) (i : Nat) : Nat := if i = 0 then 0 else od (kv i) + 1
theorem con_order (d : Nat) (h : xH) (m i j : Nat) {kv : Nat → xE} {it il lw ll : Nat → Nat} {ow : Nat → Bool} {cm : Nat → Nat} {ks ni nl lv tk : Nat} {se lf : Int32} {ub : Bool} {sd : Int32} {ck : Nat} {cb : Bool} {hn : Nat} (hm : x_mm h m (kv, it, il, lw, ll, ow, cm) (ks, ni, nl, lv, tk, se, lf, ub, sd, ck, cb, hn)) (hi : i < 513) (hj : j < 513) : x_D mX3_order (d + 1) 0 0 [.ref m, .int (nI i), .int (nI j)] h [.int (c3 (rk kv i) (rk kv j))] h := by
  obtain ⟨m0, m1, m2, m3, m4, m5, -⟩ := hm
  refine e_enter (by decide) (Nat.le_of_ble_eq_true rfl) ?_
  by_cases hz : i = 0 ∨ j = 0
  · have go : x_E mX3_order (d + 1) 0 0 8 (lv_args 0 [.ref m, .int (nI i), .int (nI j)]) [] h (fun rv h' => rv = [.int (c3 (rk kv i) (rk kv j))] ∧ h' = h) := by
      refine e_iload_n dX3_order_8 rfl ?_
      refine e_iload_n dX3_order_9 rfl ?_
      refine e_icmp_ne (tgt := 17) dX3_order_10 (by decide) (fun c1 => ?_) (fun c1 => ?_)
      · have hne : i ≠ j := fun q => c1 (by rw [q])
        refine e_iload_n dX3_order_17 rfl ?_
        refine e_if_ne (tgt := 25) dX3_order_18 (by decide) (fun c2 => ?_) (fun c2 => ?_)
        · have hi0 : i ≠ 0 := fun q => c2 (by rw [q]; rfl)
          refine e_iconst (v := 1) dX3_order_25 (by decide) ?_
          refine e_iret dX3_order_26 rfl rfl ⟨?_, rfl⟩
          have hj0 : j = 0 := by omega
          unfold rk
          rw [if_neg hi0, if_pos hj0, c3_gt (by omega)]
        · have hi0 : i = 0 := (nI_eq (by omega) (by omega)).mp c2
          refine e_iconst (v := (-1)) dX3_order_21 (by decide) ?_
          refine e_goto (tgt := 26) dX3_order_22 (by decide) ?_
          refine e_iret dX3_order_26 rfl rfl ⟨?_, rfl⟩
          unfold rk
          rw [if_pos hi0, if_neg (by omega), c3_lt (by omega)]
      · have e : i = j := (nI_eq (by omega) (by omega)).mp c1
        refine e_iconst (v := 0) dX3_order_13 (by decide) ?_
        refine e_goto (tgt := 26) dX3_order_14 (by decide) ?_
        refine e_iret dX3_order_26 rfl rfl ⟨?_, rfl⟩
        rw [e, c3_rf]
    refine e_iload_n dX3_order_0 rfl ?_
    refine e_if_eq (tgt := 8) dX3_order_1 (by decide) (fun c0 => ?_) (fun c0 => ?_)
    · exact go
    · refine e_iload_n dX3_order_4 rfl ?_
      refine e_if_ne (tgt := 27) dX3_order_5 (by decide) (fun c => ?_) (fun _ => go)
      rcases hz with q | q
      · exact absurd (by rw [q]; rfl) c0
      · exact absurd (by rw [q]; rfl) c
  · have hi0 : i ≠ 0 := fun q => hz (Or.inl q)
    have hj0 : j ≠ 0 := fun q => hz (Or.inr q)
    have hr : c3 (rk kv i) (rk kv j) = c3 (od (kv i)) (od (kv j)) := by
      unfold rk
      rw [if_neg hi0, if_neg hj0, ← c3_sh _ _ 1]
      congr 1 <;> omega
    rw [hr, od_c3]
    refine e_iload_n dX3_order_0 rfl ?_
    refine e_if_eq (tgt := 8) dX3_order_1 (by decide) (fun c => absurd ((nI_eq (a := i) (b := 0) (by omega) (by omega)).mp c) hi0) (fun _ => ?_)
    refine e_iload_n dX3_order_4 rfl ?_
    refine e_if_ne (tgt := 27) dX3_order_5 (by decide) (fun _ => ?_) (fun c => absurd ((nI_eq (a := j) (b := 0) (by omega) (by omega)).mp c) hj0)
    refine e_aload_n dX3_order_27 rfl ?_
    refine e_get dX3_order_28 fX3_7 m0 rfl ?_
    refine e_iload_n dX3_order_31 rfl ?_
    refine e_lald dX3_order_32 m1 rfl rfl (af_get _ hi) ?_
    refine e_aload_n dX3_order_33 rfl ?_
    refine e_get dX3_order_34 fX3_7 m0 rfl ?_
    refine e_iload_n dX3_order_37 rfl ?_
    refine e_lald dX3_order_38 m1 rfl rfl (af_get _ hj) ?_
    refine e_S2d dX3_order_39 gX3_61 (by omega) (Nat.le_of_ble_eq_true rfl) rfl rfl (con_unsigned d h _ _) ?_
    refine e_istore_n dX3_order_42 (by decide) rfl ?_
    refine e_iload_n dX3_order_43 rfl ?_
    refine e_if_ne (tgt := 63) dX3_order_44 (by decide) (fun c1 => ?_) (fun c1 => ?_)
    · refine e_iload_n dX3_order_63 rfl ?_
      refine e_if_ne (tgt := 83) dX3_order_64 (by decide) (fun _ => ?_) (fun c => absurd c c1)
      refine e_iload_n dX3_order_83 rfl ?_
      refine e_if_ne (tgt := 103) dX3_order_84 (by decide) (fun _ => ?_) (fun c => absurd c c1)
      refine e_iload_n dX3_order_103 rfl ?_
      refine e_if_ne (tgt := 147) dX3_order_104 (by decide) (fun _ => ?_) (fun c => absurd c c1)
      refine e_iload_n dX3_order_147 rfl ?_
      refine e_iret dX3_order_148 rfl rfl ⟨?_, rfl⟩
      rw [if_neg c1]
    · rw [if_pos c1]
      refine e_aload_n dX3_order_47 rfl ?_
      refine e_get dX3_order_48 fX3_13 m0 rfl ?_
      refine e_iload_n dX3_order_51 rfl ?_
      refine e_lald dX3_order_52 m2 rfl rfl (af_get _ hi) ?_
      refine e_aload_n dX3_order_53 rfl ?_
      refine e_get dX3_order_54 fX3_13 m0 rfl ?_
      refine e_iload_n dX3_order_57 rfl ?_
      refine e_lald dX3_order_58 m2 rfl rfl (af_get _ hj) ?_
      refine e_S2d dX3_order_59 gX3_61 (by omega) (Nat.le_of_ble_eq_true rfl) rfl rfl (con_unsigned d h _ _) ?_
      refine e_istore_n dX3_order_62 (by decide) rfl ?_
      refine e_iload_n dX3_order_63 rfl ?_
      refine e_if_ne (tgt := 83) dX3_order_64 (by decide) (fun c2 => ?_) (fun c2 => ?_)
      · refine e_iload_n dX3_order_83 rfl ?_
        refine e_if_ne (tgt := 103) dX3_order_84 (by decide) (fun _ => ?_) (fun c => absurd c c2)
        refine e_iload_n dX3_order_103 rfl ?_
        refine e_if_ne (tgt := 147) dX3_order_104 (by decide) (fun _ => ?_) (fun c => absurd c c2)
        refine e_iload_n dX3_order_147 rfl ?_
        refine e_iret dX3_order_148 rfl rfl ⟨?_, rfl⟩
        rw [if_neg c2]
      · rw [if_pos c2]
        refine e_aload_n dX3_order_67 rfl ?_
        refine e_get dX3_order_68 fX3_16 m0 rfl ?_
        refine e_iload_n dX3_order_71 rfl ?_
        refine e_lald dX3_order_72 m3 rfl rfl (af_get _ hi) ?_
        refine e_aload_n dX3_order_73 rfl ?_
        refine e_get dX3_order_74 fX3_16 m0 rfl ?_
        refine e_iload_n dX3_order_77 rfl ?_
        refine e_lald dX3_order_78 m3 rfl rfl (af_get _ hj) ?_
        refine e_S2d dX3_order_79 gX3_61 (by omega) (Nat.le_of_ble_eq_true rfl) rfl rfl (con_unsigned d h _ _) ?_
        refine e_istore_n dX3_order_82 (by decide) rfl ?_
        refine e_iload_n dX3_order_83 rfl ?_
        refine e_if_ne (tgt := 103) dX3_order_84 (by decide) (fun c5 => ?_) (fun c5 => ?_)
        · refine e_iload_n dX3_order_103 rfl ?_
          refine e_if_ne (tgt := 147) dX3_order_104 (by decide) (fun _ => ?_) (fun c => absurd c c5)
          refine e_iload_n dX3_order_147 rfl ?_
          refine e_iret dX3_order_148 rfl rfl ⟨?_, rfl⟩
          rw [if_neg c5]
        · rw [if_pos c5]
          refine e_aload_n dX3_order_87 rfl ?_
          refine e_get dX3_order_88 fX3_19 m0 rfl ?_
          refine e_iload_n dX3_order_91 rfl ?_
          refine e_lald dX3_order_92 m4 rfl rfl (af_get _ hi) ?_
          refine e_aload_n dX3_order_93 rfl ?_
          refine e_get dX3_order_94 fX3_19 m0 rfl ?_
          refine e_iload_n dX3_order_97 rfl ?_
          refine e_lald dX3_order_98 m4 rfl rfl (af_get _ hj) ?_
          refine e_S2d dX3_order_99 gX3_61 (by omega) (Nat.le_of_ble_eq_true rfl) rfl rfl (con_unsigned d h _ _) ?_
          refine e_istore_n dX3_order_102 (by decide) rfl ?_
          refine e_iload_n dX3_order_103 rfl ?_
          refine e_if_ne (tgt := 147) dX3_order_104 (by decide) (fun c4 => ?_) (fun c4 => ?_)
          · refine e_iload_n dX3_order_147 rfl ?_
            refine e_iret dX3_order_148 rfl rfl ⟨?_, rfl⟩
            rw [if_neg c4]
          · rw [if_pos c4]
            refine e_aload_n dX3_order_107 rfl ?_
            refine e_get dX3_order_108 fX3_22 m0 rfl ?_
            refine e_iload_n dX3_order_111 rfl ?_
            refine e_iald dX3_order_112 m5 rfl rfl (af_get _ hi) ?_
            refine e_aload_n dX3_order_113 rfl ?_
            refine e_get dX3_order_114 fX3_22 m0 rfl ?_
            refine e_iload_n dX3_order_117 rfl ?_
            refine e_iald dX3_order_118 m5 rfl rfl (af_get _ hj) ?_
            refine e_icmp_ne (tgt := 126) dX3_order_119 (by decide) (fun c6 => ?_) (fun c6 => ?_)
            · refine e_aload_n dX3_order_126 rfl ?_
              refine e_get dX3_order_127 fX3_22 m0 rfl ?_
              refine e_iload_n dX3_order_130 rfl ?_
              refine e_iald dX3_order_131 m5 rfl rfl (af_get _ hi) ?_
              refine e_aload_n dX3_order_132 rfl ?_
              refine e_get dX3_order_133 fX3_22 m0 rfl ?_
              refine e_iload_n dX3_order_136 rfl ?_
              refine e_iald dX3_order_137 m5 rfl rfl (af_get _ hj) ?_
              refine e_icmp_ge (tgt := 145) dX3_order_138 (by decide) (fun c7 => ?_) (fun c7 => ?_)
              · refine e_iconst (v := 1) dX3_order_145 (by decide) ?_
                refine e_istore_n dX3_order_146 (by decide) rfl ?_
                refine e_iload_n dX3_order_147 rfl ?_
                refine e_iret dX3_order_148 rfl rfl ⟨?_, rfl⟩
                have g1 : (kv j).2.2.2.2.toInt ≤ (kv i).2.2.2.2.toInt := Int32.le_iff_toInt_le.mp c7
                have g2 : ¬ (kv i).2.2.2.2.toInt = (kv j).2.2.2.2.toInt := fun q => c6 (Int32.toInt_inj.mp q)
                rw [c3_gt (by omega)]
              · refine e_iconst (v := (-1)) dX3_order_141 (by decide) ?_
                refine e_goto (tgt := 146) dX3_order_142 (by decide) ?_
                refine e_istore_n dX3_order_146 (by decide) rfl ?_
                refine e_iload_n dX3_order_147 rfl ?_
                refine e_iret dX3_order_148 rfl rfl ⟨?_, rfl⟩
                have g1 : ¬ (kv j).2.2.2.2.toInt ≤ (kv i).2.2.2.2.toInt := fun q => c7 (Int32.le_iff_toInt_le.mpr q)
                rw [c3_lt (by omega)]
            · refine e_iconst (v := 0) dX3_order_122 (by decide) ?_
              refine e_goto (tgt := 146) dX3_order_123 (by decide) ?_
              refine e_istore_n dX3_order_146 (by decide) rfl ?_
              refine e_iload_n dX3_order_147 rfl ?_
              refine e_iret dX3_order_148 rfl rfl ⟨?_, rfl⟩
              have c6 : (kv i).2.2.2.2 = (kv j).2.2.2.2 := c6
              rw [c6, c3_rf]
