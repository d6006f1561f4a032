/-! the reference: level, and the rest on the tree -/
def sLev (S : Tr) (l what : Int32) : Int32 := if l < 0 ∨ nI S.length ≤ l ∨ what < 0 then -1 else if what = 0 then nI (lvl S l.toNatClampNeg).length else if what = 1 then nI (nC (lvl S l.toNatClampNeg)) else match (lvl S l.toNatClampNeg)[what.toNatClampNeg - 2]? with
  | some g => nI g.2.2.length
  | none => -1
theorem sub2 {a b : Nat} (ha : a < 2147483648) (hb : b < 1000) : nI b = nI a - 2 ↔ b + 2 = a := by
  have e : nI (b + 2) = nI b + 2 := (nI_add b 2).symm
  constructor
  · intro q
    refine (nI_eq (by omega) ha).mp ?_
    rw [e, q, Int32.sub_add_cancel]
  · intro q
    rw [← q, e, Int32.add_sub_cancel]
section ML
variable {kv : Nat → xE} {cm : Nat → Nat} {ks tk : Nat} {sd : Int32} {ck : Nat} {cb : Bool} {hn : Nat} {q : qW} {S : Tr} {h : xH}
theorem lev_lo (d m L W : Nat) {kv : Nat → xE} {it il lw ll : Nat → Nat} {ow : Nat → Bool} {cm : Nat → Nat} {ks ni nl lv tk : Nat} {se lf : Int32} {ub : Bool} {sd : Int32} {ck : Nat} {cb : Bool} {hn : Nat} (hm : x_mm h m (kv, it, il, lw, ll, ow, cm) (ks, ni, nl, lv, tk, se, lf, ub, sd, ck, cb, hn)) (hR : RR S kv it il lw ll ow ks ni nl) (hT : trK S) (hB : mB it il lw ll ni nl) (hL : L < 64) (hW : W < 2147483648) {c : List Pg} (hc : S[L]? = some c) (Q : List Value → xH → Prop)
    (fin : ∀ b, (∀ g c1 c2, c = c1 ++ g :: c2 → c1.length + 2 = W → ∃ p0, p0 < nl ∧ ll p0 = L ∧ rk kv (lw p0) = g.1 ∧ b = nI p0) → ((∀ g c1 c2, c = c1 ++ g :: c2 → c1.length + 2 ≠ W) → b = -1) → x_E mX3_level (d + 4) 0 0 82 [(4, .int b), (3, .int (nI c.length)), (2, .int (nI W)), (0, .ref m)] [] h Q) :
    ∀ (k p : Nat) (x n b : Int32), x = nI p → p + k = nl → n = nI (cT (fun p => decide (ll p = L)) p) → ((∃ p0, p0 < p ∧ ll p0 = L ∧ cT (lft kv lw ll p0) nl + 2 = W ∧ b = nI p0) ∨ (b = -1 ∧ ∀ p0, p0 < p → ll p0 = L → cT (lft kv lw ll p0) nl + 2 ≠ W)) →
    x_E mX3_level (d + 4) 0 0 37 [(5, .int x), (4, .int b), (3, .int n), (2, .int (nI W)), (1, .int (nI L)), (0, .ref m)] [] h Q := by
  have hm' := hm
  obtain ⟨m0, m1, m2, m3, m4, m5, m6, m7, m8, m9, m10, m11⟩ := hm
  have hB' := hB
  obtain ⟨b1, b2, b3, b4⟩ := hB
  -- a page's place is its own
  have plc : ∀ p0, p0 < nl → ll p0 = L → ∃ c1 g c2, c = c1 ++ g :: c2 ∧ rk kv (lw p0) = g.1 ∧ cT (lft kv lw ll p0) nl = c1.length := by
    intro p0 hp hl
    obtain ⟨⟨c', g, hc', hg, e1, -⟩, -⟩ := hR.2.2.2.1 p0 hp
    rw [hl, hc] at hc'
    cases hc'
    obtain ⟨c1, c2, e⟩ := List.append_of_mem hg
    exact ⟨c1, g, c2, e, e1.symm, rr_left hR hT hc e hl e1.symm⟩
  have same : ∀ p0 p1, p0 < nl → p1 < nl → ll p0 = L → ll p1 = L → cT (lft kv lw ll p0) nl = cT (lft kv lw ll p1) nl → p0 = p1 := by
    intro p0 p1 h0 h1 l0 l1 e
    obtain ⟨c1, g, c2, a1, a2, a3⟩ := plc p0 h0 l0
    obtain ⟨d1, g', d2, c1', c2', c3'⟩ := plc p1 h1 l1
    have hh := List.append_inj (a1.symm.trans c1') (by rw [← a3, ← c3', e])
    have hg : g = g' := (List.cons.inj hh.2).1
    exact hR.2.2.2.2.2.1 p0 p1 h0 h1 (l0.trans l1.symm) (by rw [a2, c2', hg])
  intro k
  induction k with
  | zero =>
    intro p x n b hx hp hn hb
    refine e_iload dX3_level_37 rfl ?_
    refine e_aload_n dX3_level_39 rfl ?_
    refine e_get dX3_level_40 fX3_65 m0 rfl ?_
    refine e_icmp_ge (tgt := 82) dX3_level_43 (by decide) (fun _ => ?_) (fun c => absurd (by rw [hx]; exact nI_le (by omega) (by omega)) c)
    have e0 : p = nl := by omega
    subst e0
    rw [rr_npages hR hT hc] at hn
    subst hn
    refine e_loc [4, 3, 2, 0] rfl (fin b (fun g c1 c2 e e2 => ?_) (fun hno => ?_))
    · obtain ⟨p0, q1, q2, q3⟩ := hR.2.2.2.2.1 L c g hc (by rw [e]; exact List.mem_append_right _ List.mem_cons_self)
      have q4 := rr_left hR hT hc e q2 q3
      rcases hb with ⟨p1, r1, r2, r3, r4⟩ | ⟨-, r⟩
      · have := same p0 p1 q1 r1 q2 r2 (by omega)
        subst this
        exact ⟨p0, q1, q2, q3, r4⟩
      · exact absurd (by omega) (r p0 q1 q2)
    · rcases hb with ⟨p1, r1, r2, r3, r4⟩ | ⟨r, -⟩
      · obtain ⟨c1, g, c2, a1, a2, a3⟩ := plc p1 r1 r2
        exact absurd (by omega) (hno g c1 c2 a1)
      · exact r
  | succ k ih =>
    intro p x n b hx hp hn hb
    obtain ⟨g1, g2⟩ := b4 p (by omega)
    have nxt : ∀ n' b', n' = nI (cT (fun p => decide (ll p = L)) (p + 1)) → ((∃ p0, p0 < p + 1 ∧ ll p0 = L ∧ cT (lft kv lw ll p0) nl + 2 = W ∧ b' = nI p0) ∨ (b' = -1 ∧ ∀ p0, p0 < p + 1 → ll p0 = L → cT (lft kv lw ll p0) nl + 2 ≠ W)) → x_E mX3_level (d + 4) 0 0 76 [(5, .int x), (4, .int b'), (3, .int n'), (2, .int (nI W)), (1, .int (nI L)), (0, .ref m)] [] h Q := by
      intro n' b' hn' hb'
      refine e_iinc dX3_level_76 rfl rfl (by decide) rfl ?_
      refine e_goto (tgt := 37) dX3_level_79 (by decide) ?_
      exact e_loc [5, 4, 3, 2, 1, 0] rfl (ih (p + 1) _ n' b' (by rw [hx]; exact nI_1 p) (by omega) hn' hb')
    refine e_iload dX3_level_37 rfl ?_
    refine e_aload_n dX3_level_39 rfl ?_
    refine e_get dX3_level_40 fX3_65 m0 rfl ?_
    refine e_icmp_ge (tgt := 82) dX3_level_43 (by decide) (fun c => absurd c (by rw [hx]; exact nI_ge (by omega) (by omega))) (fun _ => ?_)
    refine e_aload_n dX3_level_46 rfl ?_
    refine e_get dX3_level_47 fX3_39 m0 rfl ?_
    refine e_iload dX3_level_50 rfl ?_
    refine e_iald dX3_level_52 m9 rfl hx (af_get _ (show p < 60 by omega)) ?_
    refine e_iload_n dX3_level_53 rfl ?_
    refine e_icmp_ne (tgt := 76) dX3_level_54 (by decide) (fun d1 => ?_) (fun d1 => ?_)
    · have hne : ¬ ll p = L := fun z => d1 (by rw [z])
      refine e_loc [5, 4, 3, 2, 1, 0] rfl (nxt n b (cT_n _ hn (by simp [hne])) ?_)
      rcases hb with ⟨p1, r1, r2⟩ | ⟨r1, r2⟩
      · exact Or.inl ⟨p1, by omega, r2⟩
      · refine Or.inr ⟨r1, fun p0 z1 z2 => ?_⟩
        by_cases e : p0 = p
        · subst e; exact absurd z2 hne
        · exact r2 p0 (by omega) z2
    have e1 : ll p = L := (nI_c (by omega) (by omega)).mp d1
    have hlf := cT_le (lft kv lw ll p) nl
    subst hx
    refine e_iinc dX3_level_57 rfl rfl (by decide) rfl ?_
    refine e_aload_n dX3_level_60 rfl ?_
    refine e_iload dX3_level_61 rfl ?_
    refine e_V1d dX3_level_63 gX3_152 m0 rfl (by omega) (Nat.le_of_ble_eq_true rfl) rfl rfl (con_leftOf (d + 1) h m p hm' hB' (by omega)) ?_
    refine e_iload_n dX3_level_66 rfl ?_
    refine e_iconst (v := 2) dX3_level_67 (by decide) ?_
    refine e_isub dX3_level_68 ?_
    have hn' := cT_s _ hn (show decide (ll p = L) = true by simp [e1])
    refine e_icmp_ne (tgt := 76) dX3_level_69 (by decide) (fun d2 => ?_) (fun d2 => ?_)
    · have hne : cT (lft kv lw ll p) nl + 2 ≠ W := fun z => d2 ((sub2 hW (by omega)).mpr z)
      refine e_loc [5, 4, 3, 2, 1, 0] rfl (nxt _ b hn' ?_)
      rcases hb with ⟨p1, r1, r2⟩ | ⟨r1, r2⟩
      · exact Or.inl ⟨p1, by omega, r2⟩
      · refine Or.inr ⟨r1, fun p0 z1 z2 => ?_⟩
        by_cases e : p0 = p
        · subst e; exact hne
        · exact r2 p0 (by omega) z2
    · have heq : cT (lft kv lw ll p) nl + 2 = W := (sub2 hW (by omega)).mp d2
      refine e_iload dX3_level_72 rfl ?_
      refine e_istore dX3_level_74 (by decide) rfl ?_
      exact e_loc [5, 4, 3, 2, 1, 0] rfl (nxt _ (nI p) hn' (Or.inl ⟨p, by omega, e1, heq, rfl⟩))
theorem con_mlevel (d m : Nat) (l what : Int32) (hM : MS h m S q kv cm ks tk sd ck cb hn) (hT : trK S) (h60 : nPg S ≤ 60) (hks : ks ≤ 513) : x_D mX3_level (d + 4) 0 0 [.ref m, .int l, .int what] h [.int (sLev S l what)] h := by
  refine e_enter (by decide) (Nat.le_of_ble_eq_true rfl) ?_
  obtain ⟨it, il, lw, ll, ow, ni, nl, hm, hR⟩ := hM
  obtain ⟨hB, h30⟩ := hR.mB hT h60 hks
  have m0 := hm.1
  have bad : (l < 0 ∨ nI S.length ≤ l ∨ what < 0) → x_E mX3_level (d + 4) 0 0 16 [] [] h (fun rv h' => rv = [.int (sLev S l what)] ∧ h' = h) := by
    intro z
    refine e_iconst (v := (-1)) dX3_level_16 (by decide) ?_
    exact e_iret dX3_level_17 rfl rfl ⟨by unfold sLev; rw [if_pos z], rfl⟩
  refine e_iload_n dX3_level_0 rfl ?_
  refine e_if_lt (tgt := 16) dX3_level_1 (by decide) (fun c1 => ?_) (fun c1 => ?_)
  · exact e_loc [] rfl (bad (Or.inl c1))
  refine e_iload_n dX3_level_4 rfl ?_
  refine e_aload_n dX3_level_5 rfl ?_
  refine e_get dX3_level_6 fX3_88 m0 rfl ?_
  refine e_icmp_ge (tgt := 16) dX3_level_9 (by decide) (fun c2 => ?_) (fun c2 => ?_)
  · exact e_loc [] rfl (bad (Or.inr (Or.inl c2)))
  refine e_iload_n dX3_level_12 rfl ?_
  refine e_if_ge (tgt := 18) dX3_level_13 (by decide) (fun c3 => ?_) (fun c3 => e_loc [] rfl (bad (Or.inr (Or.inr (Int32.not_le.mp c3)))))
  obtain ⟨L, hL1, hL2⟩ := nI_of c1
  obtain ⟨W, hW1, hW2⟩ := nI_of (Int32.not_lt.mpr c3)
  subst hL2
  subst hW2
  have hLS : L < S.length := by
    rcases Nat.lt_or_ge L S.length with z | z
    · exact z
    · exact absurd (nI_le z hL1) c2
  obtain ⟨c, hc⟩ : ∃ c, S[L]? = some c := ⟨_, List.getElem?_eq_getElem hLS⟩
  have hz : sLev S (nI L) (nI W) = if nI W = 0 then nI c.length else if nI W = 1 then nI (nC c) else match c[W - 2]? with
    | some g => nI g.2.2.length
    | none => -1 := by
    unfold sLev
    rw [if_neg (fun z => z.elim c1 (fun z => z.elim c2 (fun z => absurd c3 (Int32.not_le.mpr z)))), nI_clamp hL1, nI_clamp hW1, lvl_at hc]
  rw [hz]
  refine e_iload_n dX3_level_18 rfl ?_
  refine e_iconst (v := 1) dX3_level_19 (by decide) ?_
  refine e_icmp_ne (tgt := 29) dX3_level_20 (by decide) (fun c4 => ?_) (fun c4 => ?_)
  · refine e_iconst (v := 0) dX3_level_29 (by decide) ?_
    refine e_istore_n dX3_level_30 (by decide) rfl ?_
    refine e_iconst (v := (-1)) dX3_level_31 (by decide) ?_
    refine e_istore dX3_level_32 (by decide) rfl ?_
    refine e_iconst (v := 0) dX3_level_34 (by decide) ?_
    refine e_istore dX3_level_35 (by decide) rfl ?_
    refine e_loc [5, 4, 3, 2, 1, 0] rfl (lev_lo d m L W hm hR hT hB (by omega) hW1 hc _ (fun b f1 f2 => ?_) nl 0 0 0 (-1) rfl (by omega) rfl (Or.inr ⟨rfl, fun p0 z => absurd z (by omega)⟩))
    refine e_iload_n dX3_level_82 rfl ?_
    refine e_if_ne (tgt := 88) dX3_level_83 (by decide) (fun c5 => ?_) (fun c5 => ?_)
    · rw [if_neg c5, if_neg c4]
      have hW2' : 2 ≤ W := by
        rcases Nat.lt_or_ge W 2 with z | z
        · have : W = 0 ∨ W = 1 := by omega
          rcases this with rfl | rfl
          · exact absurd rfl c5
          · exact absurd rfl c4
        · exact z
      refine e_iload dX3_level_88 rfl ?_
      cases hg : c[W - 2]? with
      | none =>
        have hb := f2 (fun g c1 c2 e e2 => by
          have : c[W - 2]? = some g := by rw [e, List.getElem?_append_right (by omega), show W - 2 - c1.length = 0 by omega]; rfl
          rw [hg] at this; cases this)
        subst hb
        refine e_if_ge (tgt := 97) dX3_level_90 (by decide) (fun z => absurd z (by decide)) (fun _ => ?_)
        refine e_iconst (v := (-1)) dX3_level_93 (by decide) ?_
        refine e_goto (tgt := 103) dX3_level_94 (by decide) ?_
        exact e_iret dX3_level_103 rfl rfl ⟨rfl, rfl⟩
      | some g =>
        have hlt := (List.getElem?_eq_some_iff.mp hg).1
        have hgx := (List.getElem?_eq_some_iff.mp hg).2
        have e : c = c.take (W - 2) ++ g :: c.drop (W - 2 + 1) := by rw [← hgx, List.getElem_cons_drop, List.take_append_drop]
        obtain ⟨p0, q1, q2, q3, hb⟩ := f1 g (c.take (W - 2)) (c.drop (W - 2 + 1)) e (by rw [List.length_take]; omega)
        subst hb
        have hc' := hc
        rw [e] at hc'
        have := hB.2.1
        refine e_if_ge (tgt := 97) dX3_level_90 (by decide) (fun _ => ?_) (fun z => absurd (nI_pos' (by omega)) z)
        refine e_aload_n dX3_level_97 rfl ?_
        refine e_iload dX3_level_98 rfl ?_
        refine e_V1d dX3_level_100 gX3_84 m0 rfl (by omega) (Nat.le_of_ble_eq_true rfl) rfl rfl (con_filledS d m L p0 ⟨_, _, _, _, _, rfl⟩ hm hR hT h60 hks hc' q1 q2 q3) ?_
        exact e_iret dX3_level_103 rfl rfl ⟨rfl, rfl⟩
    · rw [if_pos c5]
      refine e_iload_n dX3_level_86 rfl ?_
      exact e_iret dX3_level_87 rfl rfl ⟨rfl, rfl⟩
  · refine e_aload_n dX3_level_23 rfl ?_
    refine e_iload_n dX3_level_24 rfl ?_
    refine e_V1d dX3_level_25 gX3_149 m0 rfl (by omega) (Nat.le_of_ble_eq_true rfl) rfl rfl (con_entriesOf (d + 3) h m L hm hB (by omega)) ?_
    refine e_iret dX3_level_28 rfl rfl ⟨?_, rfl⟩
    rw [rr_entries hR hT hc, if_neg (by rw [c4]; decide), if_pos c4]
end ML
