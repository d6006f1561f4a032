/-! Page: a page's three cells as one value -/
def x_sel (l : List (Nat × Value)) (is : List Nat) : List (Nat × Value) := is.filterMap (fun i => (x_lk l i).map (fun v => (i, v)))
theorem e_loc {y : xM} {d kc ks pc : Nat} {l l' : List (Nat × Value)} {st : List Value} {h : xH} {Q : List Value → xH → Prop} (is : List Nat) (hs : x_sel l is = l') (k : x_E y d kc ks pc l' st h Q) : x_E y d kc ks pc l st h Q := by
  intro G p la e R s m args below meth c Fin mc ms C rt hmc hms H locs cells slots ls ho hl hq h1 h2
  refine k G p la e R s m args below meth c Fin mc ms C rt hmc hms H locs cells slots ls ho ⟨hl.1, hl.2.1, fun q hq' => ?_⟩ hq h1 h2
  obtain ⟨q0, hq0, rfl⟩ := List.mem_map.mp hq'
  rw [← hs] at hq0
  obtain ⟨i, -, hi⟩ := List.mem_filterMap.mp hq0
  cases hk : x_lk l i with
  | none => rw [hk] at hi; cases hi
  | some v =>
    rw [hk] at hi
    have e0 : q0 = (i, v) := (Option.some.inj hi).symm
    subst e0
    exact hl.2.2 _ (List.mem_map.mpr ⟨_, x_lk_in hk, rfl⟩)
theorem x_up_id {h : xH} {a : Nat} {c : xC} (ha : h.2 a = some c) : x_up h a c = h := by
  obtain ⟨n, f⟩ := h
  unfold x_up
  congr 1
  funext q
  by_cases e : q = a
  · subst e; simp; exact ha.symm
  · simp [e]
theorem x_up_cm {h : xH} {a b : Nat} {c c' : xC} (hne : a ≠ b) : x_up (x_up h a c) b c' = x_up (x_up h b c') a c := by
  unfold x_up
  congr 1
  funext q
  by_cases e : q = a
  · subst e; simp [hne]
  · by_cases e2 : q = b
    · subst e2; simp [e]
    · simp [e, e2]
/-- a page: (size, level, low, right, lacks), its entries, its pages below (ten each) -/
abbrev xP : Type := (Nat × Nat × Nat × Nat × Int32) × (Nat → Nat) × (Nat → Nat)
def pgC (a : Nat) (P : Nat × Nat × Nat × Nat × Int32) : xC := .inr (1, [.ref (a + 1), .ref (a + 2), .int (nI P.1), .int (nI P.2.1), .ref P.2.2.1, .ref P.2.2.2.1, .int P.2.2.2.2])
def ar (f : Nat → Nat) : List Value := (List.range 10).map (fun j => .ref (f j))
def fu (f : Nat → Nat) (k z : Nat) : Nat → Nat := fun j => if j = k then z else f j
theorem ar_len (f : Nat → Nat) : (ar f).length = 10 := by simp [ar]
theorem ar_get (f : Nat → Nat) {j : Nat} (hj : j < 10) : (ar f)[j]? = some (.ref (f j)) := by simp [ar, hj]
theorem ar_cg {f g : Nat → Nat} (h : ∀ j, j < 10 → f j = g j) : ar f = ar g := by
  unfold ar
  refine List.map_congr_left fun j hj => ?_
  rw [h j (List.mem_range.mp hj)]
theorem ar_set (f : Nat → Nat) (k z : Nat) : (ar f).set k (.ref z) = ar (fu f k z) := by
  refine List.ext_getElem? fun j => ?_
  rw [List.getElem?_set]
  by_cases hj : j < 10
  · rw [ar_get _ hj, ar_get _ hj, ar_len]
    by_cases e : k = j
    · subst e; simp [hj, fu]
    · rw [if_neg e]; simp [fu, Ne.symm e]
  · have e1 : ∀ g : Nat → Nat, (ar g)[j]? = none := fun g => List.getElem?_eq_none (by rw [ar_len]; omega)
    rw [e1, e1, ar_len]
    by_cases e : k = j
    · subst e; simp [hj]
    · rw [if_neg e]
def arE (E : Nat → Nat) : xC := .inl (0, ar E)
def arB (B : Nat → Nat) : xC := .inl (1, ar B)
def x_pg (h : xH) (a : Nat) (P : xP) : Prop := h.2 a = some (pgC a P.1) ∧ h.2 (a + 1) = some (arE P.2.1) ∧ h.2 (a + 2) = some (arB P.2.2)
def x_ps (h : xH) (a : Nat) (P : xP) : xH := x_up (x_up (x_up h (a + 1) (arE P.2.1)) (a + 2) (arB P.2.2)) a (pgC a P.1)
theorem x_ps_pg (h : xH) (a : Nat) (P : xP) : x_pg (x_ps h a P) a P :=
  ⟨x_up_s _ _ _, x_up_n (x_up_n (x_up_s _ _ _) (by omega)) (by omega), x_up_n (x_up_s _ _ _) (by omega)⟩
theorem x_ps_id {h : xH} {a : Nat} {P : xP} (hp : x_pg h a P) : x_ps h a P = h := by
  unfold x_ps
  rw [x_up_id hp.2.1, x_up_id hp.2.2, x_up_id hp.1]
theorem x_ps_n {h : xH} {a b : Nat} {P : xP} {o : Option xC} (hb : h.2 b = o) (n0 : b ≠ a) (n1 : b ≠ a + 1) (n2 : b ≠ a + 2) : (x_ps h a P).2 b = o := x_up_n (x_up_n (x_up_n hb n1) n2) n0
theorem x_ps_1 (h : xH) (a : Nat) (P : xP) : (x_ps h a P).1 = h.1 := rfl
theorem x_ps_ps (h : xH) (a : Nat) (P P' : xP) : x_ps (x_ps h a P) a P' = x_ps h a P' := by
  unfold x_ps
  rw [x_up_cm (a := a) (b := a + 1) (by omega), x_up_cm (a := a + 2) (b := a + 1) (by omega), x_up_up, x_up_cm (a := a) (b := a + 2) (by omega), x_up_up, x_up_up]
/-- entries are apart from pages and rows -/
theorem x_en_ne {h : xH} {a b : Nat} {P : xP} {v : xE} (hp : x_pg h a P) (hb : h.2 b = some (eC v)) : b ≠ a ∧ b ≠ a + 1 ∧ b ≠ a + 2 := by
  refine ⟨fun e => ?_, fun e => ?_, fun e => ?_⟩
  · subst e; have := hp.1.symm.trans hb; cases this
  · subst e; have := hp.2.1.symm.trans hb; cases this
  · subst e; have := hp.2.2.symm.trans hb; cases this
theorem x_en_ps {h : xH} {a b : Nat} {P P' : xP} {v : xE} (hp : x_pg h a P) (hb : h.2 b = some (eC v)) : (x_ps h a P').2 b = some (eC v) := by
  obtain ⟨n0, n1, n2⟩ := x_en_ne hp hb
  exact x_ps_n hb n0 n1 n2
theorem con_reset (d : Nat) (h : xH) (a lv low : Nat) (P : xP) (hp : x_pg h a P) : x_D mX1_reset d 0 0 [.ref a, .int (nI lv), .ref low] h [] (x_ps h a ((0, lv, low, 0, 0), P.2)) := by
  refine e_enter (by decide) (Nat.le_of_ble_eq_true rfl) ?_
  have h0 := hp.1
  refine e_aload_n dX1_reset_0 rfl ?_
  refine e_iconst (v := 0) dX1_reset_1 (by decide) ?_
  refine e_put dX1_reset_2 fX1_25 h0 ⟨rfl, rfl⟩ ?_
  refine e_aload_n dX1_reset_5 rfl ?_
  refine e_iload_n dX1_reset_6 rfl ?_
  refine e_put dX1_reset_7 fX1_29 (x_up_s _ _ _) ⟨rfl, rfl⟩ ?_
  refine e_aload_n dX1_reset_10 rfl ?_
  refine e_aload_n dX1_reset_11 rfl ?_
  refine e_put dX1_reset_12 fX1_21 (x_up_s _ _ _) (Or.inl ⟨_, rfl⟩) ?_
  refine e_aload_n dX1_reset_15 rfl ?_
  refine e_null dX1_reset_16 ?_
  refine e_put dX1_reset_17 fX1_32 (x_up_s _ _ _) (Or.inl ⟨_, rfl⟩) ?_
  refine e_aload_n dX1_reset_20 rfl ?_
  refine e_iconst (v := 0) dX1_reset_21 (by decide) ?_
  refine e_put dX1_reset_22 fX1_36 (x_up_s _ _ _) ⟨rfl, rfl⟩ ?_
  refine e_ret dX1_reset_25 rfl ⟨rfl, ?_⟩
  simp only [x_up_up, x_ps]
  rw [x_up_id hp.2.1, x_up_id hp.2.2]
  rfl
theorem con_entryAt (d : Nat) (h : xH) (a j e : Nat) (P : xP) (hp : x_pg h a P) (hj10 : j < 10) (hj : P.2.1 j = e) : x_D mX1_entryAt d 0 0 [.ref a, .int (nI j)] h [.ref e] h := by
  subst hj
  refine e_enter (by decide) (Nat.le_of_ble_eq_true rfl) ?_
  have h0 := hp.1
  have h1 := hp.2.1
  refine e_iload_n dX1_entryAt_0 rfl ?_
  refine e_if_lt (tgt := 22) dX1_entryAt_1 (by decide) (fun c => absurd c (nI_pos (by omega))) (fun _ => ?_)
  refine e_iload_n dX1_entryAt_4 rfl ?_
  refine e_aload_n dX1_entryAt_5 rfl ?_
  refine e_get dX1_entryAt_6 fX1_11 h0 rfl ?_
  refine e_alen dX1_entryAt_9 h1 (by decide) rfl ?_
  refine e_icmp_ge (tgt := 22) dX1_entryAt_10 (by decide) (fun c => ?_) (fun _ => ?_)
  · rw [ar_len] at c
    exact absurd c (nI_ge hj10 (by omega))
  refine e_aload_n dX1_entryAt_13 rfl ?_
  refine e_get dX1_entryAt_14 fX1_11 h0 rfl ?_
  refine e_iload_n dX1_entryAt_17 rfl ?_
  refine e_aald dX1_entryAt_18 h1 rfl rfl rfl (ar_get _ hj10) ?_
  refine e_goto (tgt := 26) dX1_entryAt_19 (by decide) ?_
  exact e_aret dX1_entryAt_26 rfl (Or.inl ⟨_, rfl⟩) ⟨rfl, rfl⟩
/-- how many of a list stand before a number -/
def cnt (c : Nat) : List xE → Nat
  | [] => 0
  | v :: t => if od v < c then cnt c t + 1 else 0
theorem cnt_eq {c j : Nat} : ∀ {vs : List xE}, (∀ (i : Nat) (v : xE), i < j → vs[i]? = some v → od v < c) → j ≤ vs.length → (∀ v : xE, vs[j]? = some v → ¬ od v < c) → cnt c vs = j := by
  intro vs
  induction vs generalizing j with
  | nil => intro _ h2 _; simp only [List.length_nil] at h2; simp only [cnt]; omega
  | cons x t ih =>
    intro h1 h2 h3
    unfold cnt
    match j with
    | 0 => rw [if_neg (h3 x rfl)]
    | j + 1 =>
      rw [if_pos (h1 0 x (by omega) rfl), ih (j := j) (fun i v hi hv => h1 (i + 1) v (by omega) hv) (by simp only [List.length_cons] at h2; omega) (fun v hv => h3 v hv)]
theorem cnt_le (c : Nat) : ∀ vs : List xE, cnt c vs ≤ vs.length := by
  intro vs
  induction vs with
  | nil => exact Nat.le_refl _
  | cons x t ih =>
    unfold cnt
    split
    · simp only [List.length_cons]; omega
    · exact Nat.zero_le _
/-- the entries of a page that count, as keys -/
def x_es (h : xH) (E : Nat → Nat) (vs : List xE) : Prop := ∀ (j : Nat) (v : xE), vs[j]? = some v → h.2 (E j) = some (eC v)
theorem cp_loop (d : Nat) (h : xH) (a e : Nat) (v : xE) (P : xP) (vs : List xE) (b : Nat) (hb : b ≤ 1) (hp : x_pg h a P) (hs : P.1.1 = vs.length) (hvs : x_es h P.2.1 vs) (hl10 : vs.length ≤ 10) (he : h.2 e = some (eC v)) :
    ∀ (n j : Nat) (x : Int32), x = nI j → j + n = vs.length → (∀ (i : Nat) (w : xE), i < j → vs[i]? = some w → od w < od v + b) →
    x_E mX1_countPassed (d + 4) 0 0 2 [(3, .int x), (0, .ref a), (1, .ref e), (2, .int (nI b))] [] h (fun rv h' => rv = [.int (nI (cnt (od v + b) vs))] ∧ h' = h) := by
  have h0 := hp.1
  have h1 := hp.2.1
  intro n
  induction n with
  | zero =>
    intro j x hx hj hall
    refine e_iload_n dX1_countPassed_2 rfl ?_
    refine e_aload_n dX1_countPassed_3 rfl ?_
    refine e_get dX1_countPassed_4 fX1_25 h0 rfl ?_
    refine e_icmp_ge (tgt := 53) dX1_countPassed_7 (by decide) (fun _ => ?_) (fun c => ?_)
    · refine e_iload_n dX1_countPassed_53 rfl ?_
      refine e_iret dX1_countPassed_54 rfl rfl ⟨?_, rfl⟩
      rw [cnt_eq hall (by omega) (fun w hw => absurd (List.getElem?_eq_some_iff.mp hw).1 (by omega)), hx]
    · exact absurd (by rw [hx, hs]; exact nI_le (by omega) (by omega)) c
  | succ n ih =>
    intro j x hx hj hall
    have hjl : j < vs.length := by omega
    obtain ⟨w, hw⟩ : ∃ w, vs[j]? = some w := ⟨_, List.getElem?_eq_getElem hjl⟩
    have hq2 := hvs j w hw
    refine e_iload_n dX1_countPassed_2 rfl ?_
    refine e_aload_n dX1_countPassed_3 rfl ?_
    refine e_get dX1_countPassed_4 fX1_25 h0 rfl ?_
    refine e_icmp_ge (tgt := 53) dX1_countPassed_7 (by decide) (fun c => ?_) (fun _ => ?_)
    · rw [hx, hs] at c
      exact absurd c (nI_ge hjl (by omega))
    refine e_iload_n dX1_countPassed_10 rfl ?_
    refine e_aload_n dX1_countPassed_11 rfl ?_
    refine e_get dX1_countPassed_12 fX1_11 h0 rfl ?_
    refine e_alen dX1_countPassed_15 h1 (by decide) rfl ?_
    refine e_icmp_ge (tgt := 53) dX1_countPassed_16 (by decide) (fun c => ?_) (fun _ => ?_)
    · rw [ar_len, hx] at c
      exact absurd c (nI_ge (by omega) (by omega))
    refine e_aload_n dX1_countPassed_19 rfl ?_
    refine e_get dX1_countPassed_20 fX1_11 h0 rfl ?_
    refine e_iload_n dX1_countPassed_23 rfl ?_
    refine e_aald dX1_countPassed_24 h1 rfl rfl hx (ar_get _ (show j < 10 by omega)) ?_
    refine e_aload_n dX1_countPassed_25 rfl ?_
    refine e_V1d dX1_countPassed_26 gX1_40 hq2 rfl (by omega) (Nat.le_of_ble_eq_true rfl) rfl rfl (con_cmp d h _ e w v hq2 he) ?_
    refine e_istore dX1_countPassed_29 (by decide) rfl ?_
    refine e_iload dX1_countPassed_31 rfl ?_
    have fin : ¬ od w < od v + b → (nI j = nI (cnt (od v + b) vs)) := fun hn => by
      rw [cnt_eq hall (by omega) (fun w' hw' => by rw [hw] at hw'; cases hw'; exact hn)]
    refine e_if_gt (tgt := 45) dX1_countPassed_33 (by decide) (fun c1 => ?_) (fun c1 => ?_)
    · refine e_iload_n dX1_countPassed_45 rfl ?_
      refine e_iret dX1_countPassed_46 rfl rfl ⟨?_, rfl⟩
      have := c3_p.mp c1
      rw [hx, fin (by omega)]
    · have hle : od w ≤ od v := by
        rcases Nat.lt_or_ge (od v) (od w) with q | q
        · exact absurd (c3_p.mpr (by omega)) c1
        · exact q
      refine e_iload dX1_countPassed_36 rfl ?_
      refine e_if_ne (tgt := 47) dX1_countPassed_38 (by decide) (fun c2 => ?_) (fun c2 => ?_)
      · refine e_iinc dX1_countPassed_47 rfl rfl (by decide) rfl ?_
        refine e_goto (tgt := 2) dX1_countPassed_50 (by decide) ?_
        refine e_loc [3, 0, 1, 2] rfl (ih (j + 1) _ (by rw [hx]; exact nI_1 j) (by omega) (fun i w' hi hw' => ?_))
        by_cases hij : i = j
        · subst hij
          rw [hw] at hw'; cases hw'
          have : ¬ od w = od v := fun q => c2 (c3_z.mpr (by rw [q]))
          omega
        · exact hall i w' (by omega) hw'
      · have heq : od w = od v := by have := c3_z.mp c2; omega
        refine e_iload_n dX1_countPassed_41 rfl ?_
        refine e_if_ne (tgt := 47) dX1_countPassed_42 (by decide) (fun c4 => ?_) (fun c4 => ?_)
        · refine e_iinc dX1_countPassed_47 rfl rfl (by decide) rfl ?_
          refine e_goto (tgt := 2) dX1_countPassed_50 (by decide) ?_
          refine e_loc [3, 0, 1, 2] rfl (ih (j + 1) _ (by rw [hx]; exact nI_1 j) (by omega) (fun i w' hi hw' => ?_))
          by_cases hij : i = j
          · subst hij
            rw [hw] at hw'; cases hw'
            have : b ≠ 0 := fun q => c4 (by rw [q]; rfl)
            omega
          · exact hall i w' (by omega) hw'
        · refine e_iload_n dX1_countPassed_45 rfl ?_
          refine e_iret dX1_countPassed_46 rfl rfl ⟨?_, rfl⟩
          have : b = 0 := (nI_eq (by omega) (by omega)).mp c4
          rw [hx, fin (by omega)]
theorem con_cp (d : Nat) (h : xH) (a e : Nat) (v : xE) (P : xP) (vs : List xE) (b : Nat) (hb : b ≤ 1) (hp : x_pg h a P) (hs : P.1.1 = vs.length) (hvs : x_es h P.2.1 vs) (hl10 : vs.length ≤ 10) (he : h.2 e = some (eC v)) :
    x_D mX1_countPassed (d + 4) 0 0 [.ref a, .ref e, .int (nI b)] h [.int (nI (cnt (od v + b) vs))] h := by
  refine e_enter (by decide) (Nat.le_of_ble_eq_true rfl) ?_
  refine e_iconst (v := 0) dX1_countPassed_0 (by decide) ?_
  refine e_istore_n dX1_countPassed_1 (by decide) rfl ?_
  exact e_loc [3, 0, 1, 2] rfl (cp_loop d h a e v P vs b hb hp hs hvs hl10 he vs.length 0 _ rfl (by omega) (fun i w hi => absurd hi (by omega)))
theorem con_cp0 (d : Nat) (h : xH) (a e : Nat) (v : xE) (P : xP) (vs : List xE) (hp : x_pg h a P) (hs : P.1.1 = vs.length) (hvs : x_es h P.2.1 vs) (hl10 : vs.length ≤ 10) (he : h.2 e = some (eC v)) :
    x_D mX1_countPassed (d + 4) 0 0 [.ref a, .ref e, .int 0] h [.int (nI (cnt (od v) vs))] h := by
  have k := con_cp d h a e v P vs 0 (by omega) hp hs hvs hl10 he
  rw [nI_0, Nat.add_zero (od v)] at k
  exact k
theorem con_holds (d : Nat) (h : xH) (a e : Nat) (v : xE) (P : xP) (vs : List xE) (hp : x_pg h a P) (hs : P.1.1 = vs.length) (hvs : x_es h P.2.1 vs) (hl10 : vs.length ≤ 10) (he : h.2 e = some (eC v)) :
    x_D mX1_holds (d + 5) 0 0 [.ref a, .ref e] h [.int (if cnt (od v) vs < cnt (od v + 1) vs then 1 else 0)] h := by
  refine e_enter (by decide) (Nat.le_of_ble_eq_true rfl) ?_
  have b1 := cnt_le (od v) vs
  have b2 := cnt_le (od v + 1) vs
  refine e_aload_n dX1_holds_0 rfl ?_
  refine e_aload_n dX1_holds_1 rfl ?_
  refine e_iconst (v := 1) dX1_holds_2 (by decide) ?_
  refine e_V2d dX1_holds_3 gX1_44 hp.1 rfl (by omega) (Nat.le_of_ble_eq_true rfl) rfl rfl (con_cp d h a e v P vs 1 (by omega) hp hs hvs hl10 he) ?_
  refine e_aload_n dX1_holds_6 rfl ?_
  refine e_aload_n dX1_holds_7 rfl ?_
  refine e_iconst (v := 0) dX1_holds_8 (by decide) ?_
  refine e_V2d dX1_holds_9 gX1_44 hp.1 rfl (by omega) (Nat.le_of_ble_eq_true rfl) rfl rfl (con_cp0 d h a e v P vs hp hs hvs hl10 he) ?_
  refine e_icmp_le (tgt := 19) dX1_holds_12 (by decide) (fun c1 => ?_) (fun c1 => ?_)
  · have c1 := (nI_leI (by omega) (by omega)).mp c1
    refine e_iconst (v := 0) dX1_holds_19 (by decide) ?_
    exact e_iret dX1_holds_20 rfl rfl ⟨by rw [if_neg (Nat.not_lt.mpr c1)], rfl⟩
  · have c1 : ¬ cnt (od v + 1) vs ≤ cnt (od v) vs := fun q => c1 ((nI_leI (by omega) (by omega)).mpr q)
    refine e_iconst (v := 1) dX1_holds_15 (by decide) ?_
    refine e_goto (tgt := 20) dX1_holds_16 (by decide) ?_
    exact e_iret dX1_holds_20 rfl rfl ⟨by rw [if_pos (Nat.not_le.mp c1)], rfl⟩
theorem con_below (d : Nat) (h : xH) (a e : Nat) (v : xE) (P : xP) (vs : List xE) (hp : x_pg h a P) (hs : P.1.1 = vs.length) (hvs : x_es h P.2.1 vs) (hl10 : vs.length ≤ 10) (he : h.2 e = some (eC v)) (h1 : 0 < cnt (od v + 1) vs) :
    x_D mX1_pageBelow (d + 5) 0 0 [.ref a, .ref e] h [.ref (P.2.2 (cnt (od v + 1) vs - 1))] h := by
  refine e_enter (by decide) (Nat.le_of_ble_eq_true rfl) ?_
  have b2 := cnt_le (od v + 1) vs
  obtain ⟨m, hm⟩ : ∃ m, cnt (od v + 1) vs = m + 1 := ⟨cnt (od v + 1) vs - 1, by omega⟩
  have hp0 := hp.1
  have hp2 := hp.2.2
  refine e_aload_n dX1_pageBelow_0 rfl ?_
  refine e_aload_n dX1_pageBelow_1 rfl ?_
  refine e_iconst (v := 1) dX1_pageBelow_2 (by decide) ?_
  refine e_V2d dX1_pageBelow_3 gX1_44 hp.1 rfl (by omega) (Nat.le_of_ble_eq_true rfl) rfl rfl (con_cp d h a e v P vs 1 (by omega) hp hs hvs hl10 he) ?_
  refine e_iconst (v := 1) dX1_pageBelow_6 (by decide) ?_
  refine e_isub dX1_pageBelow_7 ?_
  refine e_istore_n dX1_pageBelow_8 (by decide) rfl ?_
  refine e_iload_n dX1_pageBelow_9 rfl ?_
  rw [hm, nI_pred]
  refine e_if_lt (tgt := 31) dX1_pageBelow_10 (by decide) (fun c => absurd c (nI_pos (by omega))) (fun _ => ?_)
  refine e_iload_n dX1_pageBelow_13 rfl ?_
  refine e_aload_n dX1_pageBelow_14 rfl ?_
  refine e_get dX1_pageBelow_15 fX1_17 hp0 rfl ?_
  refine e_alen dX1_pageBelow_18 hp2 (by decide) rfl ?_
  refine e_icmp_ge (tgt := 31) dX1_pageBelow_19 (by decide) (fun c => ?_) (fun _ => ?_)
  · rw [ar_len] at c
    exact absurd c (nI_ge (by omega) (by omega))
  refine e_aload_n dX1_pageBelow_22 rfl ?_
  refine e_get dX1_pageBelow_23 fX1_17 hp0 rfl ?_
  refine e_iload_n dX1_pageBelow_26 rfl ?_
  refine e_aald dX1_pageBelow_27 hp2 rfl rfl rfl (ar_get _ (show m < 10 by omega)) ?_
  refine e_goto (tgt := 32) dX1_pageBelow_28 (by decide) ?_
  exact e_aret dX1_pageBelow_32 rfl (Or.inl ⟨_, rfl⟩) ⟨rfl, rfl⟩
