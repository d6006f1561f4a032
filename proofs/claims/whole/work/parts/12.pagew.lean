/-! Page: what writes -/
/-- a page or none -/
def x_pn (h : xH) (b : Nat) : Prop := b = 0 ∨ ∃ Z, h.2 b = some (pgC b Z)
def x_fe (h : xH) (f : Nat → Nat) : Prop := ∀ j, j < 10 → ∃ v, h.2 (f j) = some (eC v)
def x_fb (h : xH) (f : Nat → Nat) : Prop := ∀ j, j < 10 → x_pn h (f j)
theorem e_aastE {y : xM} {d kc ks pc : Nat} {l : List (Nat × Value)} {st : List Value} {h : xH} {Q : List Value → xH → Prop} {a z j : Nat} {f : Nat → Nat} {v : xE} {i : Int32} (hd : decode y.2.1 pc = .ok (.aastore, 1)) (ha : h.2 a = some (arE f)) (hi : i = nI j) (hj : j < 10) (hz : h.2 z = some (eC v)) (kk : x_E y d kc ks (pc + 1) l st (x_up h a (arE (fu f j z))) Q) : x_E y d kc ks pc l (.ref z :: .int i :: .ref a :: st) h Q := by
  refine e_aast hd ha rfl hi (by rw [ar_len]; exact hj) hz rfl ?_
  rw [ar_set]
  exact kk
theorem e_aastB {y : xM} {d kc ks pc : Nat} {l : List (Nat × Value)} {st : List Value} {h : xH} {Q : List Value → xH → Prop} {a z j : Nat} {f : Nat → Nat} {i : Int32} (hd : decode y.2.1 pc = .ok (.aastore, 1)) (ha : h.2 a = some (arB f)) (hi : i = nI j) (hj : j < 10) (hz : x_pn h z) (kk : x_E y d kc ks (pc + 1) l st (x_up h a (arB (fu f j z))) Q) : x_E y d kc ks pc l (.ref z :: .int i :: .ref a :: st) h Q := by
  rcases hz with rfl | ⟨Z, hz⟩
  · refine e_aastN hd ha rfl hi (by rw [ar_len]; exact hj) ?_
    rw [ar_set]
    exact kk
  · refine e_aast hd ha rfl hi (by rw [ar_len]; exact hj) hz rfl ?_
    rw [ar_set]
    exact kk
theorem x_pn_up {h : xH} {a b : Nat} {q : Nat × List Value} {c : xC} (ha : h.2 a = some (.inl q)) (hb : x_pn h b) : x_pn (x_up h a c) b := by
  rcases hb with rfl | ⟨Z, hZ⟩
  · exact Or.inl rfl
  · refine Or.inr ⟨Z, x_up_n hZ (fun e => ?_)⟩
    subst e
    have := ha.symm.trans hZ
    cases this
theorem x_en_up {h : xH} {a b : Nat} {q : Nat × List Value} {c : xC} {v : xE} (ha : h.2 a = some (.inl q)) (hb : h.2 b = some (eC v)) : (x_up h a c).2 b = some (eC v) := by
  refine x_up_n hb (fun e => ?_)
  subst e
  have := ha.symm.trans hb
  cases this
/-- a page's two rows are changed -/
def x_p2 (h : xH) (a : Nat) (E B : Nat → Nat) : xH := x_up (x_up h (a + 1) (arE E)) (a + 2) (arB B)
theorem x_p2_0 {h : xH} {a : Nat} {E B : Nat → Nat} {o : Option xC} {b : Nat} (hb : h.2 b = o) (n1 : b ≠ a + 1) (n2 : b ≠ a + 2) : (x_p2 h a E B).2 b = o := x_up_n (x_up_n hb n1) n2
theorem x_p2_1 (h : xH) (a : Nat) (E B : Nat → Nat) : (x_p2 h a E B).2 (a + 1) = some (arE E) := x_up_n (x_up_s _ _ _) (by omega)
theorem x_p2_2 (h : xH) (a : Nat) (E B : Nat → Nat) : (x_p2 h a E B).2 (a + 2) = some (arB B) := x_up_s _ _ _
theorem x_p2_e (h : xH) (a : Nat) (E B E' : Nat → Nat) : x_up (x_p2 h a E B) (a + 1) (arE E') = x_p2 h a E' B := by
  unfold x_p2
  rw [x_up_cm (a := a + 2) (b := a + 1) (by omega), x_up_up]
theorem x_p2_b (h : xH) (a : Nat) (E B B' : Nat → Nat) : x_up (x_p2 h a E B) (a + 2) (arB B') = x_p2 h a E B' := by
  unfold x_p2
  rw [x_up_up]
theorem x_p2_id {h : xH} {a : Nat} {P : xP} (hp : x_pg h a P) : x_p2 h a P.2.1 P.2.2 = h := by
  unfold x_p2
  rw [x_up_id hp.2.1, x_up_id hp.2.2]
theorem x_p2_cg (h : xH) (a : Nat) {E E' B B' : Nat → Nat} (he : ∀ j, j < 10 → E j = E' j) (hb : ∀ j, j < 10 → B j = B' j) : x_p2 h a E B = x_p2 h a E' B' := by
  unfold x_p2 arE arB
  rw [ar_cg he, ar_cg hb]
theorem x_p2_en {h : xH} {a b : Nat} {P : xP} {E B : Nat → Nat} {v : xE} (hp : x_pg h a P) (hb : h.2 b = some (eC v)) : (x_p2 h a E B).2 b = some (eC v) := by
  obtain ⟨-, n1, n2⟩ := x_en_ne hp hb
  exact x_p2_0 hb n1 n2
theorem x_p2_pn {h : xH} {a b : Nat} {P : xP} {E B : Nat → Nat} (hp : x_pg h a P) (hb : x_pn h b) : x_pn (x_p2 h a E B) b := by
  unfold x_p2
  refine x_pn_up (q := (1, ar P.2.2)) ?_ (x_pn_up (q := (0, ar P.2.1)) hp.2.1 hb)
  exact x_up_n hp.2.2 (by omega)
/-- the rows while they are moved to make room -/
def shr (f : Nat → Nat) (i n : Nat) : Nat → Nat := fun j => if i < j ∧ j ≤ n then f (j - 1) else f j
def ins (f : Nat → Nat) (i n z : Nat) : Nat → Nat := fun j => if j = i then z else if i < j ∧ j ≤ n then f (j - 1) else f j
theorem ins_lo (d : Nat) (h : xH) (a e pb : Nat) (v : xE) (P : xP) (at' n : Nat) (hn : n < 10) (hp : x_pg h a P) (hfe : x_fe h P.2.1) (hfb : x_fb h P.2.2) (he : h.2 e = some (eC v)) (hpb : x_pn h pb) (hat : at' ≤ n) (hs : P.1.1 = n) :
    ∀ (k i : Nat) (x : Int32), x = nI i → i = at' + k → i ≤ n →
    x_E mX1_insert d 0 0 30 [(4, .int x), (3, .int (nI at')), (0, .ref a), (1, .ref e), (2, .ref pb)] [] (x_p2 h a (shr P.2.1 i n) (shr P.2.2 i n)) (fun rv h' => rv = [] ∧ h' = x_ps h a ((n + 1, P.1.2), ins P.2.1 at' n e, ins P.2.2 at' n pb)) := by
  have h0 : ∀ E B, (x_p2 h a E B).2 a = some (pgC a P.1) := fun E B => x_p2_0 hp.1 (by omega) (by omega)
  intro k
  induction k with
  | zero =>
    intro i x hx hi hin
    have e1 : i = at' := by omega
    subst e1
    refine e_iload dX1_insert_30 rfl ?_
    refine e_iload_n dX1_insert_32 rfl ?_
    refine e_icmp_le (tgt := 74) dX1_insert_33 (by decide) (fun _ => ?_) (fun c => absurd (by rw [hx]; exact nI_le (Nat.le_refl _) (by omega)) c)
    refine e_aload_n dX1_insert_74 rfl ?_
    refine e_get dX1_insert_75 fX1_11 (h0 _ _) rfl ?_
    refine e_iload_n dX1_insert_78 rfl ?_
    refine e_aload_n dX1_insert_79 rfl ?_
    refine e_aastE dX1_insert_80 (x_p2_1 _ _ _ _) rfl (by omega) (x_p2_en hp he) ?_
    rw [x_p2_e]
    refine e_aload_n dX1_insert_81 rfl ?_
    refine e_get dX1_insert_82 fX1_17 (h0 _ _) rfl ?_
    refine e_iload_n dX1_insert_85 rfl ?_
    refine e_aload_n dX1_insert_86 rfl ?_
    refine e_aastB dX1_insert_87 (x_p2_2 _ _ _ _) rfl (by omega) (x_p2_pn hp hpb) ?_
    rw [x_p2_b]
    refine e_aload_n dX1_insert_88 rfl ?_
    refine e_dup dX1_insert_89 rfl ?_
    refine e_get dX1_insert_90 fX1_25 (h0 _ _) rfl ?_
    refine e_iconst (v := 1) dX1_insert_93 (by decide) ?_
    refine e_iadd dX1_insert_94 ?_
    refine e_put dX1_insert_95 fX1_25 (h0 _ _) ⟨rfl, rfl⟩ ?_
    refine e_ret dX1_insert_98 rfl ⟨rfl, ?_⟩
    unfold x_ps
    have e2 : x_p2 h a (fu (shr P.2.1 i n) i e) (fu (shr P.2.2 i n) i pb) = x_p2 h a (ins P.2.1 i n e) (ins P.2.2 i n pb) := x_p2_cg h a (fun j _ => rfl) (fun j _ => rfl)
    rw [e2]
    show x_up _ a (.inr (1, [.ref (a + 1), .ref (a + 2), .int (nI P.1.1 + 1), _, _, _, _])) = x_up _ a (pgC a (n + 1, P.1.2))
    rw [hs, nI_1]
    rfl
  | succ k ih =>
    intro i x hx hi hin
    refine e_iload dX1_insert_30 rfl ?_
    refine e_iload_n dX1_insert_32 rfl ?_
    refine e_icmp_le (tgt := 74) dX1_insert_33 (by decide) (fun c => absurd c (by rw [hx]; exact nI_ge (by omega) (by omega))) (fun _ => ?_)
    obtain ⟨m, rfl⟩ : ∃ m, i = m + 1 := ⟨i - 1, by omega⟩
    have hm : x - 1 = nI m := by rw [hx]; exact nI_pred m
    have f1 : shr P.2.1 (m + 1) n m = P.2.1 m := by simp only [shr]; rw [if_neg (by omega)]
    have f2 : shr P.2.2 (m + 1) n m = P.2.2 m := by simp only [shr]; rw [if_neg (by omega)]
    obtain ⟨w, hw⟩ := hfe m (by omega)
    refine e_aload_n dX1_insert_36 rfl ?_
    refine e_get dX1_insert_37 fX1_11 (h0 _ _) rfl ?_
    refine e_iload dX1_insert_40 rfl ?_
    refine e_aload_n dX1_insert_42 rfl ?_
    refine e_get dX1_insert_43 fX1_11 (h0 _ _) rfl ?_
    refine e_iload dX1_insert_46 rfl ?_
    refine e_iconst (v := 1) dX1_insert_48 (by decide) ?_
    refine e_isub dX1_insert_49 ?_
    refine e_aald dX1_insert_50 (x_p2_1 _ _ _ _) rfl rfl hm (ar_get _ (show m < 10 by omega)) ?_
    refine e_aastE (v := w) dX1_insert_51 (x_p2_1 _ _ _ _) hx (by omega) (by rw [f1]; exact x_p2_en hp hw) ?_
    rw [x_p2_e]
    refine e_aload_n dX1_insert_52 rfl ?_
    refine e_get dX1_insert_53 fX1_17 (h0 _ _) rfl ?_
    refine e_iload dX1_insert_56 rfl ?_
    refine e_aload_n dX1_insert_58 rfl ?_
    refine e_get dX1_insert_59 fX1_17 (h0 _ _) rfl ?_
    refine e_iload dX1_insert_62 rfl ?_
    refine e_iconst (v := 1) dX1_insert_64 (by decide) ?_
    refine e_isub dX1_insert_65 ?_
    refine e_aald dX1_insert_66 (x_p2_2 _ _ _ _) rfl rfl hm (ar_get _ (show m < 10 by omega)) ?_
    refine e_aastB dX1_insert_67 (x_p2_2 _ _ _ _) hx (by omega) (by rw [f2]; exact x_p2_pn hp (hfb m (by omega))) ?_
    rw [x_p2_b]
    have st : ∀ f : Nat → Nat, ∀ j, j < 10 → fu (shr f (m + 1) n) (m + 1) (shr f (m + 1) n m) j = shr f m n j := by
      intro f j _
      unfold fu
      by_cases q : j = m + 1
      · subst q
        rw [if_pos rfl]
        simp only [shr]
        rw [if_neg (by omega), if_pos (by omega)]
        rfl
      · rw [if_neg q]
        simp only [shr]
        by_cases q2 : m + 1 < j ∧ j ≤ n
        · rw [if_pos q2, if_pos (by omega)]
        · rw [if_neg q2, if_neg (by omega)]
    rw [x_p2_cg h a (st P.2.1) (st P.2.2)]
    refine e_iinc dX1_insert_68 rfl rfl (by decide) rfl ?_
    refine e_goto (tgt := 30) dX1_insert_71 (by decide) ?_
    exact e_loc [4, 3, 0, 1, 2] rfl (ih m _ (by rw [hx]; exact pk_m1 m) (by omega) (by omega))
theorem con_insert (d : Nat) (h : xH) (a e pb : Nat) (v : xE) (P : xP) (vs : List xE) (hl : vs.length < 10) (hp : x_pg h a P) (hs : P.1.1 = vs.length) (hvs : x_es h P.2.1 vs) (hfe : x_fe h P.2.1) (hfb : x_fb h P.2.2) (he : h.2 e = some (eC v)) (hpb : x_pn h pb) :
    x_D mX1_insert (d + 5) 0 0 [.ref a, .ref e, .ref pb] h [] (x_ps h a ((vs.length + 1, P.1.2), ins P.2.1 (cnt (od v) vs) vs.length e, ins P.2.2 (cnt (od v) vs) vs.length pb)) := by
  refine e_enter (by decide) (Nat.le_of_ble_eq_true rfl) ?_
  have b1 := cnt_le (od v) vs
  have hp0 := hp.1
  refine e_aload_n dX1_insert_0 rfl ?_
  refine e_get dX1_insert_1 fX1_25 hp0 rfl ?_
  refine e_if_lt (tgt := 16) dX1_insert_4 (by decide) (fun c => absurd c (by rw [hs]; exact nI_pos (by omega))) (fun _ => ?_)
  refine e_aload_n dX1_insert_7 rfl ?_
  refine e_get dX1_insert_8 fX1_25 hp0 rfl ?_
  refine e_bipush (v := 10) dX1_insert_11 (by decide) ?_
  refine e_icmp_lt (tgt := 17) dX1_insert_13 (by decide) (fun _ => ?_) (fun c => absurd (by rw [hs]; exact nI_lt (b := 10) hl (by decide)) c)
  refine e_aload_n dX1_insert_17 rfl ?_
  refine e_aload_n dX1_insert_18 rfl ?_
  refine e_iconst (v := 0) dX1_insert_19 (by decide) ?_
  refine e_V2d dX1_insert_20 gX1_44 hp.1 rfl (by omega) (Nat.le_of_ble_eq_true rfl) rfl rfl (con_cp0 d h a e v P vs hp hs hvs (by omega) he) ?_
  refine e_istore_n dX1_insert_23 (by decide) rfl ?_
  refine e_aload_n dX1_insert_24 rfl ?_
  refine e_get dX1_insert_25 fX1_25 hp0 rfl ?_
  refine e_istore dX1_insert_28 (by decide) rfl ?_
  have e0 : x_p2 h a (shr P.2.1 vs.length vs.length) (shr P.2.2 vs.length vs.length) = h := by
    rw [x_p2_cg h a (E' := P.2.1) (B' := P.2.2) (fun j _ => by simp only [shr]; rw [if_neg (by omega)]) (fun j _ => by simp only [shr]; rw [if_neg (by omega)])]
    exact x_p2_id hp
  have hk := ins_lo (d + 5) h a e pb v P (cnt (od v) vs) vs.length (by omega) hp hfe hfb he hpb b1 hs (vs.length - cnt (od v) vs) vs.length (nI P.1.1) (by rw [hs]) (by omega) (Nat.le_refl _)
  rw [e0] at hk
  exact e_loc [4, 3, 0, 1, 2] rfl hk
/-- the rows while they are moved over what is dropped -/
def shl (f : Nat → Nat) (i0 i : Nat) : Nat → Nat := fun j => if i0 ≤ j ∧ j < i then f (j + 1) else f j
theorem drp_lo (d : Nat) (h : xH) (a e : Nat) (P : xP) (i0 n : Nat) (hn : n < 10) (hp : x_pg h a P) (hfe : x_fe h P.2.1) (hfb : x_fb h P.2.2) (hs : P.1.1 = n + 1) :
    ∀ (k i : Nat) (x : Int32), x = nI i → i + k = n → i0 ≤ i →
    x_E mX1_drop d 0 0 16 [(2, .int x), (0, .ref a), (1, .ref e)] [] (x_p2 h a (shl P.2.1 i0 i) (shl P.2.2 i0 i)) (fun rv h' => rv = [] ∧ h' = x_ps h a ((n, P.1.2), shl P.2.1 i0 n, shl P.2.2 i0 n)) := by
  have h0 : ∀ E B, (x_p2 h a E B).2 a = some (pgC a P.1) := fun E B => x_p2_0 hp.1 (by omega) (by omega)
  have hn1 : nI P.1.1 - 1 = nI n := by rw [hs]; exact nI_pred n
  intro k
  induction k with
  | zero =>
    intro i x hx hi hin
    have e1 : i = n := by omega
    subst e1
    refine e_iload_n dX1_drop_16 rfl ?_
    refine e_aload_n dX1_drop_17 rfl ?_
    refine e_get dX1_drop_18 fX1_25 (h0 _ _) rfl ?_
    refine e_iconst (v := 1) dX1_drop_21 (by decide) ?_
    refine e_isub dX1_drop_22 ?_
    refine e_icmp_ge (tgt := 60) dX1_drop_23 (by decide) (fun _ => ?_) (fun c => absurd (by rw [hx]; exact hn1 ▸ Int32.le_refl _) c)
    refine e_aload_n dX1_drop_60 rfl ?_
    refine e_dup dX1_drop_61 rfl ?_
    refine e_get dX1_drop_62 fX1_25 (h0 _ _) rfl ?_
    refine e_iconst (v := 1) dX1_drop_65 (by decide) ?_
    refine e_isub dX1_drop_66 ?_
    refine e_put dX1_drop_67 fX1_25 (h0 _ _) ⟨rfl, rfl⟩ ?_
    refine e_ret dX1_drop_70 rfl ⟨rfl, ?_⟩
    unfold x_ps
    show x_up _ a (.inr (1, [.ref (a + 1), .ref (a + 2), .int (nI P.1.1 - 1), _, _, _, _])) = x_up _ a (pgC a (i, P.1.2))
    rw [hn1]
    rfl
  | succ k ih =>
    intro i x hx hi hin
    refine e_iload_n dX1_drop_16 rfl ?_
    refine e_aload_n dX1_drop_17 rfl ?_
    refine e_get dX1_drop_18 fX1_25 (h0 _ _) rfl ?_
    refine e_iconst (v := 1) dX1_drop_21 (by decide) ?_
    refine e_isub dX1_drop_22 ?_
    refine e_icmp_ge (tgt := 60) dX1_drop_23 (by decide) (fun c => absurd c (by rw [hx, hn1]; exact nI_ge (by omega) (by omega))) (fun _ => ?_)
    have hm : x + 1 = nI (i + 1) := by rw [hx]; exact nI_1 i
    have f1 : shl P.2.1 i0 i (i + 1) = P.2.1 (i + 1) := by simp only [shl]; rw [if_neg (by omega)]
    have f2 : shl P.2.2 i0 i (i + 1) = P.2.2 (i + 1) := by simp only [shl]; rw [if_neg (by omega)]
    obtain ⟨w, hw⟩ := hfe (i + 1) (by omega)
    refine e_aload_n dX1_drop_26 rfl ?_
    refine e_get dX1_drop_27 fX1_11 (h0 _ _) rfl ?_
    refine e_iload_n dX1_drop_30 rfl ?_
    refine e_aload_n dX1_drop_31 rfl ?_
    refine e_get dX1_drop_32 fX1_11 (h0 _ _) rfl ?_
    refine e_iload_n dX1_drop_35 rfl ?_
    refine e_iconst (v := 1) dX1_drop_36 (by decide) ?_
    refine e_iadd dX1_drop_37 ?_
    refine e_aald dX1_drop_38 (x_p2_1 _ _ _ _) rfl rfl hm (ar_get _ (show i + 1 < 10 by omega)) ?_
    refine e_aastE (v := w) dX1_drop_39 (x_p2_1 _ _ _ _) hx (by omega) (by rw [f1]; exact x_p2_en hp hw) ?_
    rw [x_p2_e]
    refine e_aload_n dX1_drop_40 rfl ?_
    refine e_get dX1_drop_41 fX1_17 (h0 _ _) rfl ?_
    refine e_iload_n dX1_drop_44 rfl ?_
    refine e_aload_n dX1_drop_45 rfl ?_
    refine e_get dX1_drop_46 fX1_17 (h0 _ _) rfl ?_
    refine e_iload_n dX1_drop_49 rfl ?_
    refine e_iconst (v := 1) dX1_drop_50 (by decide) ?_
    refine e_iadd dX1_drop_51 ?_
    refine e_aald dX1_drop_52 (x_p2_2 _ _ _ _) rfl rfl hm (ar_get _ (show i + 1 < 10 by omega)) ?_
    refine e_aastB dX1_drop_53 (x_p2_2 _ _ _ _) hx (by omega) (by rw [f2]; exact x_p2_pn hp (hfb (i + 1) (by omega))) ?_
    rw [x_p2_b]
    have st : ∀ f : Nat → Nat, ∀ j, j < 10 → fu (shl f i0 i) i (shl f i0 i (i + 1)) j = shl f i0 (i + 1) j := by
      intro f j _
      unfold fu
      by_cases q : j = i
      · subst q
        rw [if_pos rfl]
        simp only [shl]
        rw [if_neg (by omega), if_pos (by omega)]
      · rw [if_neg q]
        simp only [shl]
        by_cases q2 : i0 ≤ j ∧ j < i
        · rw [if_pos q2, if_pos (by omega)]
        · rw [if_neg q2, if_neg (by omega)]
    rw [x_p2_cg h a (st P.2.1) (st P.2.2)]
    refine e_iinc dX1_drop_54 rfl rfl (by decide) rfl ?_
    refine e_goto (tgt := 16) dX1_drop_57 (by decide) ?_
    exact e_loc [2, 0, 1] rfl (ih (i + 1) _ (by rw [hx]; exact nI_1 i) (by omega) (by omega))
theorem con_drop (d : Nat) (h : xH) (a e : Nat) (v : xE) (P : xP) (vs : List xE) (n : Nat) (hl : vs.length = n + 1) (hl10 : n < 10) (hp : x_pg h a P) (hs : P.1.1 = vs.length) (hvs : x_es h P.2.1 vs) (hfe : x_fe h P.2.1) (hfb : x_fb h P.2.2) (he : h.2 e = some (eC v)) (hin : cnt (od v) vs < cnt (od v + 1) vs) :
    x_D mX1_drop (d + 6) 0 0 [.ref a, .ref e] h [] (x_ps h a ((n, P.1.2), shl P.2.1 (cnt (od v) vs) n, shl P.2.2 (cnt (od v) vs) n)) := by
  refine e_enter (by decide) (Nat.le_of_ble_eq_true rfl) ?_
  have b2 := cnt_le (od v + 1) vs
  refine e_aload_n dX1_drop_0 rfl ?_
  refine e_aload_n dX1_drop_1 rfl ?_
  refine e_V1d dX1_drop_2 gX1_48 hp.1 rfl (by omega) (Nat.le_of_ble_eq_true rfl) rfl rfl (con_holds d h a e v P vs hp hs hvs (by omega) he) ?_
  refine e_if_ne (tgt := 9) dX1_drop_5 (by decide) (fun _ => ?_) (fun c => absurd c (by rw [if_pos hin]; decide))
  refine e_aload_n dX1_drop_9 rfl ?_
  refine e_aload_n dX1_drop_10 rfl ?_
  refine e_iconst (v := 0) dX1_drop_11 (by decide) ?_
  refine e_V2d dX1_drop_12 gX1_44 hp.1 rfl (by omega) (Nat.le_of_ble_eq_true rfl) rfl rfl (con_cp0 (d + 1) h a e v P vs hp hs hvs (by omega) he) ?_
  refine e_istore_n dX1_drop_15 (by decide) rfl ?_
  have e0 : x_p2 h a (shl P.2.1 (cnt (od v) vs) (cnt (od v) vs)) (shl P.2.2 (cnt (od v) vs) (cnt (od v) vs)) = h := by
    rw [x_p2_cg h a (E' := P.2.1) (B' := P.2.2) (fun j _ => by simp only [shl]; rw [if_neg (by omega)]) (fun j _ => by simp only [shl]; rw [if_neg (by omega)])]
    exact x_p2_id hp
  have hk := drp_lo (d + 6) h a e P (cnt (od v) vs) n (by omega) hp hfe hfb (hs.trans hl) (n - cnt (od v) vs) (cnt (od v) vs) _ rfl (by omega) (Nat.le_refl _)
  rw [e0] at hk
  exact e_loc [2, 0, 1] rfl hk
