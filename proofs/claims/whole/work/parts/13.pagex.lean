/-! Page: append, and the constructor -/
theorem e_heq {y : xM} {d kc ks pc : Nat} {l : List (Nat × Value)} {st : List Value} {h h' : xH} {Q : List Value → xH → Prop} (e : h = h') (k : x_E y d kc ks pc l st h' Q) : x_E y d kc ks pc l st h Q := e ▸ k
theorem x_ps_e (h : xH) (a : Nat) (P : xP) (E : Nat → Nat) : x_up (x_ps h a P) (a + 1) (arE E) = x_ps h a (P.1, E, P.2.2) := by
  unfold x_ps
  rw [x_up_cm (a := a) (b := a + 1) (by omega), x_up_cm (a := a + 2) (b := a + 1) (by omega), x_up_up]
theorem x_ps_b (h : xH) (a : Nat) (P : xP) (B : Nat → Nat) : x_up (x_ps h a P) (a + 2) (arB B) = x_ps h a (P.1, P.2.1, B) := by
  unfold x_ps
  rw [x_up_cm (a := a) (b := a + 2) (by omega), x_up_up]
theorem x_ps_c (h : xH) (a : Nat) (P : xP) (c : Nat × Nat × Nat × Nat × Int32) : x_up (x_ps h a P) a (pgC a c) = x_ps h a (c, P.2) := by
  unfold x_ps
  rw [x_up_up]
theorem x_ps_cg (h : xH) (a : Nat) (c : Nat × Nat × Nat × Nat × Int32) {E E' B B' : Nat → Nat} (he : ∀ j, j < 10 → E j = E' j) (hb : ∀ j, j < 10 → B j = B' j) : x_ps h a (c, E, B) = x_ps h a (c, E', B') := by
  unfold x_ps arE arB
  rw [ar_cg he, ar_cg hb]
theorem x_pg_ps {h : xH} {a b : Nat} {P P' Pb : xP} (hp : x_pg h a P) (hb : x_pg h b Pb) (hne : b ≠ a) : x_pg (x_ps h a P') b Pb := by
  obtain ⟨p0, p1, p2⟩ := hp
  obtain ⟨b0, b1, b2⟩ := hb
  refine ⟨x_ps_n b0 hne (fun e => ?_) (fun e => ?_), x_ps_n b1 (fun e => ?_) (by omega) (fun e => ?_), x_ps_n b2 (fun e => ?_) (fun e => ?_) (by omega)⟩
  · rw [e] at b0; have := b0.symm.trans p1; cases this
  · rw [e] at b0; have := b0.symm.trans p2; cases this
  · rw [e] at b1; have := b1.symm.trans p0; cases this
  · rw [e] at b1; have := b1.symm.trans p2; cases this
  · rw [e] at b2; have := b2.symm.trans p0; cases this
  · rw [e] at b2; have := b2.symm.trans p1; cases this
theorem x_pn_ps {h : xH} {a b : Nat} {P P' : xP} (hp : x_pg h a P) (hb : x_pn h b) : x_pn (x_ps h a P') b := by
  rcases hb with rfl | ⟨Z, hZ⟩
  · exact Or.inl rfl
  · by_cases e : b = a
    · subst e
      exact Or.inr ⟨_, (x_ps_pg h b P').1⟩
    · refine Or.inr ⟨Z, x_ps_n hZ e (fun e => ?_) (fun e => ?_)⟩
      · rw [e] at hZ; have := hZ.symm.trans hp.2.1; cases this
      · rw [e] at hZ; have := hZ.symm.trans hp.2.2; cases this
/-- n of g from s on, ahead of f's -/
def cpy (f g : Nat → Nat) (s n : Nat) : Nat → Nat := fun j => if j < n then g (s + j) else f j
theorem app_lo (d : Nat) (h : xH) (a b : Nat) (P Pb : xP) (s n : Nat) (hsn : s + n ≤ 10) (hp : x_pg h a P) (hb : x_pg h b Pb) (hne : b ≠ a) (hfe : x_fe h Pb.2.1) (hfb : x_fb h Pb.2.2) (hbs : Pb.1.1 = 10) :
    ∀ (k m : Nat) (x : Int32), x = nI (s + m) → m + k = n →
    x_E mX1_append d 0 0 3 [(4, .int x), (0, .ref a), (1, .ref b), (2, .int (nI s)), (3, .int (nI (s + n)))] [] (x_ps h a ((m, P.1.2), cpy P.2.1 Pb.2.1 s m, cpy P.2.2 Pb.2.2 s m)) (fun rv h' => rv = [] ∧ h' = x_ps h a ((n, P.1.2), cpy P.2.1 Pb.2.1 s n, cpy P.2.2 Pb.2.2 s n)) := by
  intro k
  induction k with
  | zero =>
    intro m x hx hm
    have e1 : m = n := by omega
    subst e1
    refine e_iload dX1_append_3 rfl ?_
    refine e_iload_n dX1_append_5 rfl ?_
    refine e_icmp_ge (tgt := 75) dX1_append_6 (by decide) (fun _ => ?_) (fun c => absurd (by rw [hx]; exact Int32.le_refl _) c)
    exact e_ret dX1_append_75 rfl ⟨rfl, rfl⟩
  | succ k ih =>
    intro m x hx hm
    have a0 := fun P' => (x_ps_pg h a P').1
    have a1 := fun P' => (x_ps_pg h a P').2.1
    have a2 := fun P' => (x_ps_pg h a P').2.2
    have b0 := fun P' => (x_pg_ps (P' := P') hp hb hne).1
    have b1 := fun P' => (x_pg_ps (P' := P') hp hb hne).2.1
    have b2 := fun P' => (x_pg_ps (P' := P') hp hb hne).2.2
    refine e_iload dX1_append_3 rfl ?_
    refine e_iload_n dX1_append_5 rfl ?_
    refine e_icmp_ge (tgt := 75) dX1_append_6 (by decide) (fun c => absurd c (by rw [hx]; exact nI_ge (by omega) (by omega))) (fun _ => ?_)
    refine e_iload dX1_append_9 rfl ?_
    refine e_aload_n dX1_append_11 rfl ?_
    refine e_get dX1_append_12 fX1_25 (b0 _) rfl ?_
    refine e_icmp_ge (tgt := 75) dX1_append_15 (by decide) (fun c => absurd c (by rw [hx, hbs]; exact nI_ge (by omega) (by omega))) (fun _ => ?_)
    refine e_aload_n dX1_append_18 rfl ?_
    refine e_get dX1_append_19 fX1_25 (a0 _) rfl ?_
    refine e_bipush (v := 10) dX1_append_22 (by decide) ?_
    refine e_icmp_ge (tgt := 75) dX1_append_24 (by decide) (fun c => absurd c (nI_ge (b := 10) (show m < 10 by omega) (by omega))) (fun _ => ?_)
    obtain ⟨w, hw⟩ := hfe (s + m) (by omega)
    refine e_aload_n dX1_append_27 rfl ?_
    refine e_get dX1_append_28 fX1_11 (a0 _) rfl ?_
    refine e_aload_n dX1_append_31 rfl ?_
    refine e_get dX1_append_32 fX1_25 (a0 _) rfl ?_
    refine e_aload_n dX1_append_35 rfl ?_
    refine e_get dX1_append_36 fX1_11 (b0 _) rfl ?_
    refine e_iload dX1_append_39 rfl ?_
    refine e_aald dX1_append_41 (b1 _) rfl rfl hx (ar_get _ (show s + m < 10 by omega)) ?_
    refine e_aastE (v := w) dX1_append_42 (a1 _) rfl (show m < 10 by omega) (x_en_ps hp hw) ?_
    rw [x_ps_e]
    refine e_aload_n dX1_append_43 rfl ?_
    refine e_get dX1_append_44 fX1_17 (a0 _) rfl ?_
    refine e_aload_n dX1_append_47 rfl ?_
    refine e_get dX1_append_48 fX1_25 (a0 _) rfl ?_
    refine e_aload_n dX1_append_51 rfl ?_
    refine e_get dX1_append_52 fX1_17 (b0 _) rfl ?_
    refine e_iload dX1_append_55 rfl ?_
    refine e_aald dX1_append_57 (b2 _) rfl rfl hx (ar_get _ (show s + m < 10 by omega)) ?_
    refine e_aastB dX1_append_58 (a2 _) rfl (show m < 10 by omega) (x_pn_ps hp (hfb (s + m) (by omega))) ?_
    rw [x_ps_b]
    refine e_aload_n dX1_append_59 rfl ?_
    refine e_dup dX1_append_60 rfl ?_
    refine e_get dX1_append_61 fX1_25 (a0 _) rfl ?_
    refine e_iconst (v := 1) dX1_append_64 (by decide) ?_
    refine e_iadd dX1_append_65 ?_
    refine e_put dX1_append_66 fX1_25 (a0 _) ⟨rfl, rfl⟩ ?_
    have st : ∀ f g : Nat → Nat, ∀ j, j < 10 → fu (cpy f g s m) m (g (s + m)) j = cpy f g s (m + 1) j := by
      intro f g j _
      unfold fu
      by_cases q : j = m
      · subst q
        rw [if_pos rfl]
        simp only [cpy]
        rw [if_pos (by omega)]
      · rw [if_neg q]
        simp only [cpy]
        by_cases q2 : j < m
        · rw [if_pos q2, if_pos (by omega)]
        · rw [if_neg q2, if_neg (by omega)]
    have e2 : x_up (x_ps h a ((m, P.1.2), fu (cpy P.2.1 Pb.2.1 s m) m (Pb.2.1 (s + m)), fu (cpy P.2.2 Pb.2.2 s m) m (Pb.2.2 (s + m)))) a (.inr (1, ([.ref (a + 1), .ref (a + 2), .int (nI m), .int (nI P.1.2.1), .ref P.1.2.2.1, .ref P.1.2.2.2.1, .int P.1.2.2.2.2] : List Value).set 2 (.int (nI m + 1)))) = x_ps h a ((m + 1, P.1.2), cpy P.2.1 Pb.2.1 s (m + 1), cpy P.2.2 Pb.2.2 s (m + 1)) := by
      rw [nI_1]
      refine (x_ps_c h a _ (m + 1, P.1.2)).trans ?_
      exact x_ps_cg h a _ (st P.2.1 Pb.2.1) (st P.2.2 Pb.2.2)
    refine e_heq e2 ?_
    refine e_iinc dX1_append_69 rfl rfl (by decide) rfl ?_
    refine e_goto (tgt := 3) dX1_append_72 (by decide) ?_
    exact e_loc [4, 0, 1, 2, 3] rfl (ih (m + 1) _ (by rw [hx]; exact nI_1 (s + m)) (by omega))
theorem con_append (d : Nat) (h : xH) (a b : Nat) (P Pb : xP) (s n : Nat) (hsn : s + n ≤ 10) (hp : x_pg h a P) (hb : x_pg h b Pb) (hne : b ≠ a) (hfe : x_fe h Pb.2.1) (hfb : x_fb h Pb.2.2) (hbs : Pb.1.1 = 10) (h0 : P.1.1 = 0) :
    x_D mX1_append d 0 0 [.ref a, .ref b, .int (nI s), .int (nI (s + n))] h [] (x_ps h a ((n, P.1.2), cpy P.2.1 Pb.2.1 s n, cpy P.2.2 Pb.2.2 s n)) := by
  refine e_enter (by decide) (Nat.le_of_ble_eq_true rfl) ?_
  refine e_iload_n dX1_append_0 rfl ?_
  refine e_istore dX1_append_1 (by decide) rfl ?_
  have hk := app_lo d h a b P Pb s n hsn hp hb hne hfe hfb hbs n 0 (nI s) (by rw [Nat.add_zero]) (by omega)
  have e0 : x_ps h a ((0, P.1.2), cpy P.2.1 Pb.2.1 s 0, cpy P.2.2 Pb.2.2 s 0) = h := by
    have : (0, P.1.2) = P.1 := by rw [← h0]
    rw [this, x_ps_cg h a P.1 (E' := P.2.1) (B' := P.2.2) (fun j _ => by simp only [cpy]; rw [if_neg (by omega)]) (fun j _ => by simp only [cpy]; rw [if_neg (by omega)])]
    exact x_ps_id hp
  rw [e0] at hk
  exact e_loc [4, 0, 1, 2, 3] rfl hk
/-- more addresses are taken -/
def x_gr (h : xH) (n : Nat) : xH := (h.1 + n, h.2)
theorem x_nw_gr (h : xH) (c : xC) : x_nw h c = x_up (x_gr h 1) h.1 c := rfl
theorem x_gr_up (h : xH) (a n : Nat) (c : xC) : x_gr (x_up h a c) n = x_up (x_gr h n) a c := rfl
theorem x_gr_gr (h : xH) (n m : Nat) : x_gr (x_gr h n) m = x_gr h (n + m) := by simp [x_gr, Nat.add_assoc]
theorem ar_0 : List.replicate 10 (Value.ref 0) = ar (fun _ => 0) := by decide +kernel
theorem ne_1 (a : Nat) : a ≠ a + 1 := by omega
theorem ne_2 (a : Nat) : a ≠ a + 1 + 1 := by omega
theorem init_lo (d : Nat) (h : xH) (a e : Nat) (v : xE) (he : h.2 e = some (eC v)) (n0 : e ≠ a) (n1 : e ≠ a + 1) (n2 : e ≠ a + 2) :
    ∀ (k i : Nat) (x : Int32), x = nI i → i + k = 10 →
    x_E mX1_init d 0 0 24 [(2, .int x), (0, .ref a), (1, .ref e)] [] (x_ps h a ((0, 0, 0, 0, 0), cpy (fun _ => 0) (fun _ => e) 0 i, fun _ => 0)) (fun rv h' => rv = [] ∧ h' = x_ps h a ((0, 0, e, 0, 0), fun _ => e, fun _ => 0)) := by
  intro k
  induction k with
  | zero =>
    intro i x hx hi
    have e1 : i = 10 := by omega
    subst e1
    have a0 := fun P' => (x_ps_pg h a P').1
    refine e_iload_n dX1_init_24 rfl ?_
    refine e_bipush (v := 10) dX1_init_25 (by decide) ?_
    refine e_icmp_ge (tgt := 43) dX1_init_27 (by decide) (fun _ => ?_) (fun c => absurd (by rw [hx]; exact Int32.le_refl _) c)
    refine e_aload_n dX1_init_43 rfl ?_
    refine e_aload_n dX1_init_44 rfl ?_
    refine e_put dX1_init_45 fX1_21 (a0 _) (Or.inl ⟨_, rfl⟩) ?_
    refine e_ret dX1_init_48 rfl ⟨rfl, ?_⟩
    refine (x_ps_c h a _ (0, 0, e, 0, 0)).trans ?_
    exact x_ps_cg h a _ (fun j hj => by simp only [cpy]; rw [if_pos hj]) (fun j _ => rfl)
  | succ k ih =>
    intro i x hx hi
    have a0 := fun P' => (x_ps_pg h a P').1
    have a1 := fun P' => (x_ps_pg h a P').2.1
    refine e_iload_n dX1_init_24 rfl ?_
    refine e_bipush (v := 10) dX1_init_25 (by decide) ?_
    refine e_icmp_ge (tgt := 43) dX1_init_27 (by decide) (fun c => absurd c (by rw [hx]; exact nI_ge (b := 10) (by omega) (by decide))) (fun _ => ?_)
    refine e_aload_n dX1_init_30 rfl ?_
    refine e_get dX1_init_31 fX1_11 (a0 _) rfl ?_
    refine e_iload_n dX1_init_34 rfl ?_
    refine e_aload_n dX1_init_35 rfl ?_
    refine e_aastE (v := v) dX1_init_36 (a1 _) hx (by omega) (x_ps_n he n0 n1 n2) ?_
    rw [x_ps_e]
    rw [x_ps_cg h a (0, 0, 0, 0, 0) (E' := cpy (fun _ => 0) (fun _ => e) 0 (i + 1)) (B' := fun _ => 0) (fun j _ => by
      simp only [fu, cpy]
      by_cases q : j = i
      · rw [if_pos q, if_pos (by omega)]
      · rw [if_neg q]
        by_cases q2 : j < i
        · rw [if_pos q2, if_pos (by omega)]
        · rw [if_neg q2, if_neg (by omega)]) (fun j _ => rfl)]
    refine e_iinc dX1_init_37 rfl rfl (by decide) rfl ?_
    refine e_goto (tgt := 24) dX1_init_40 (by decide) ?_
    exact e_loc [2, 0, 1] rfl (ih (i + 1) _ (by rw [hx]; exact nI_1 i) (by omega))
theorem con_Page_init (d : Nat) (h : xH) (a e : Nat) (v : xE) (ha : h.2 a = some (.inr (1, [.ref 0, .ref 0, .int 0, .int 0, .ref 0, .ref 0, .int 0]))) (h1 : h.1 = a + 1) (he : h.2 e = some (eC v)) (hlt : e < a) :
    x_D mX1_init (d + 1) 2 20 [.ref a, .ref e] h [] (x_ps (x_gr h 2) a ((0, 0, e, 0, 0), fun _ => e, fun _ => 0)) := by
  refine e_enter (by decide) (Nat.le_of_ble_eq_true rfl) ?_
  obtain ⟨hn, hf⟩ := h
  dsimp only at h1 ha he
  subst h1
  have ha : ((a + 1, hf) : xH).2 a = some (.inr (1, [.ref 0, .ref 0, .int 0, .int 0, .ref 0, .ref 0, .int 0])) := ha
  refine e_aload_n dX1_init_0 rfl ?_
  refine e_obj dX1_init_1 ha ojX1_3 ojI ojC (by omega) (Nat.le_of_ble_eq_true rfl) ?_
  refine e_aload_n dX1_init_4 rfl ?_
  refine e_bipush (v := 10) dX1_init_5 (by decide) ?_
  refine e_newq (k := 0) dX1_init_7 rfl kX1_9 rfl (by decide) rfl rfl ?_
  refine e_putF dX1_init_10 fX1_11 rfl rfl (x_nw_n ha (ne_1 a)) (Or.inr ⟨_, rfl⟩) ?_
  refine e_aload_n dX1_init_13 rfl ?_
  refine e_bipush (v := 10) dX1_init_14 (by decide) ?_
  refine e_newq (k := 1) dX1_init_16 rfl kX1_12 rfl (by decide) rfl rfl ?_
  refine e_putF dX1_init_19 fX1_17 rfl rfl (x_nw_n (x_up_s _ _ _) (ne_2 a)) (Or.inr ⟨_, rfl⟩) ?_
  refine e_iconst (v := 0) dX1_init_22 (by decide) ?_
  refine e_istore_n dX1_init_23 (by decide) rfl ?_
  refine e_loc [2, 0, 1] rfl ?_
  have e0 : x_up (x_nw (x_up (x_nw (a + 1, hf) (.inl (0, List.replicate 10 (.ref 0)))) a (.inr (1, ([.ref 0, .ref 0, .int 0, .int 0, .ref 0, .ref 0, .int 0] : List Value).set 0 (.ref (a + 1))))) (.inl (1, List.replicate 10 (.ref 0)))) a (.inr (1, (([.ref 0, .ref 0, .int 0, .int 0, .ref 0, .ref 0, .int 0] : List Value).set 0 (.ref (a + 1))).set 1 (.ref (a + 2)))) = x_ps (x_gr (a + 1, hf) 2) a ((0, 0, 0, 0, 0), cpy (fun _ => 0) (fun _ => e) 0 0, fun _ => 0) := by
    rw [ar_0]
    unfold x_ps
    simp only [x_nw_gr, x_gr_up, x_gr_gr]
    rw [x_up_cm (a := a) (b := (x_up (x_up (x_gr (a + 1, hf) 1) (a + 1, hf).1 (.inl (0, ar fun _ => 0))) a (.inr (1, ([.ref 0, .ref 0, .int 0, .int 0, .ref 0, .ref 0, .int 0] : List Value).set 0 (.ref (a + 1))))).1) (by show a ≠ a + 2; omega), x_up_up]
    rfl
  have hk := init_lo (d + 1) (x_gr (a + 1, hf) 2) a e v he (by omega) (by omega) (by omega) 10 0 0 rfl (by omega)
  rw [← e0] at hk
  exact hk
