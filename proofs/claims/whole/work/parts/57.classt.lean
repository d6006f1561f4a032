/-! the class: splitPage -/
theorem CPi_up2 {h : xH} {ch : List (List Nat)} {D : cD} {i : Nat} {P : xP} {fs : List Value} {c : xC} (hp : CPi h ch D i P) (ht : h.2 2 = some (.inr (2, fs))) : CPi (x_up h 2 c) ch D i P := by
  have en : ∀ a v, h.2 a = some (eC v) → (x_up h 2 c).2 a = some (eC v) := fun a v ha => x_up_n ha (fun e => by rw [e, ht] at ha; cases ha)
  have pn : ∀ b, x_pn h b → x_pn (x_up h 2 c) b := fun b hb => by
    rcases hb with rfl | ⟨Z, hZ⟩
    · exact Or.inl rfl
    · exact Or.inr ⟨Z, x_up_n hZ (fun e => by rw [e, ht] at hZ; cases hZ)⟩
  obtain ⟨p1, p2, p3, p4⟩ := hp
  have g := pa_ge i
  refine ⟨⟨x_up_n p1.1 (by omega), x_up_n p1.2.1 (by omega), x_up_n p1.2.2 (by omega)⟩, fun j hj => ?_, fun j hj => pn _ (p3 j hj), fun l c' k hc hk => ?_⟩
  · obtain ⟨v, hv⟩ := p2 j hj
    exact ⟨v, en _ v hv⟩
  · obtain ⟨q1, q2, q3, q4, q5, q6, q7⟩ := p4 l c' k hc hk
    exact ⟨q1, q2, en _ _ q3, q4, q5, fun j v hv => en _ v (q6 j v hv), q7⟩
section CT
variable {h : xH} {ch : List (List Nat)} {D : cD} {tk fu l i : Nat} {q : qW} {ca : Nat} {cb : Bool} {ha : Nat} {c1 c2 : List Nat}
theorem CP_free {f : Nat} {P P' : xP} (hCP : CP h ch D) (hfn : ∀ (l' : Nat) c, ch[l']? = some c → f ∉ c) (hp : x_pg h (pa f) P) (hfe : x_fe h P'.2.1) (hfb : x_fb h P'.2.2) : CP (x_ps h (pa f) P') ch D := by
  refine CP_of [f] hCP (fun a v => x_en_ps hp) (fun b => x_pn_ps hp) (fun j hj hn R hR => x_pg_ps hp hR (fun z => hn (by rw [pa_inj z]; simp))) (fun j hj hn l c k hc hk => ⟨rfl, c, k, hc, hk, rfl⟩) (fun j hj hj60 => ?_)
  have e := List.mem_singleton.mp hj
  subst e
  refine ⟨P', x_ps_pg _ _ _, fun k hk => ?_, fun k hk => x_pn_ps hp (hfb k hk), fun l c k hc hk => absurd (List.mem_of_getElem? hk) (hfn l c hc)⟩
  obtain ⟨v, hv⟩ := hfe k hk
  exact ⟨v, x_en_ps hp hv⟩
theorem CPi_free {f : Nat} {P P' : xP} (hfn : ∀ (l' : Nat) c, ch[l']? = some c → f ∉ c) (hp : x_pg h (pa f) P) (hfe : x_fe h P'.2.1) (hfb : x_fb h P'.2.2) : CPi (x_ps h (pa f) P') ch D f P' := by
  refine ⟨x_ps_pg _ _ _, fun k hk => ?_, fun k hk => x_pn_ps hp (hfb k hk), fun l c k hc hk => absurd (List.mem_of_getElem? hk) (hfn l c hc)⟩
  obtain ⟨v, hv⟩ := hfe k hk
  exact ⟨v, x_en_ps hp hv⟩
theorem cpy_fe {E F : Nat → Nat} {s n : Nat} (h1 : x_fe h E) (h2 : x_fe h F) (hs : s + n ≤ 10) : x_fe h (cpy E F s n) := fun j hj => by
  unfold cpy
  split
  · exact h2 _ (by omega)
  · exact h1 _ hj
theorem cpy_fb {E F : Nat → Nat} {s n : Nat} (h1 : x_fb h E) (h2 : x_fb h F) (hs : s + n ≤ 10) : x_fb h (cpy E F s n) := fun j hj => by
  unfold cpy
  split
  · exact h2 _ (by omega)
  · exact h1 _ hj
theorem con_splitPage (d : Nat) (hS : CSt h ch D tk fu q ca cb ha) (hI : CI ch D fu) (htk : tk ≤ 60) (hfu : fu < tk) (hc : ch[l]? = some (c1 ++ i :: c2)) (hsz : (D i).2.2.1.length = 10) (R : List Value → xH → Prop) (hR : ∀ rv h', R rv h' → ∃ b : Bool, rv = [.int (bI b)])
    (ra : ∀ h', x_cf h h' → (sW 63 q).1 = false → CSt h' ch D tk (fu + 1) (sW 63 q).2 ca cb ha → R [.int 0] h')
    (rb : ∀ h', x_cf h h' → (sW 63 q).1 = true → (sW 1 (sW 63 q).2).1 = false → CSt h' (spC ch l c1 i fu c2) (spD D i fu true) tk (fu + 1) (sW 1 (sW 63 q).2).2 ca cb ha → R [.int 0] h')
    (rc : ∀ h' e5, x_cf h h' → (sW 63 q).1 = true → (sW 1 (sW 63 q).2).1 = true → h'.2 e5 = some (eC ((D i).2.2.1.getD 5 lowE)) → CSt h' (spC ch l c1 i fu c2) (spD D i fu (D i).2.1) tk (fu + 1) (sW 1 (sW 63 q).2).2 ca cb ha → x_Con mX2_put (d + 1) 0 0 [.ref 2, .int (nI (l + 1)), .ref e5, .ref (pa fu)] h' R) :
    x_Con mX2_splitPage (d + 2) 0 0 [.ref 2, .ref (pa i)] h R := by
  have him : i ∈ c1 ++ i :: c2 := List.mem_append_right _ List.mem_cons_self
  have hpos : (c1 ++ i :: c2)[c1.length]? = some i := by rw [List.getElem?_append_right (Nat.le_refl _), Nat.sub_self]; rfl
  have hi60 : i < 60 := by have := hI.2.2.2.1 _ _ hc i him; omega
  have hf60 : fu < 60 := by omega
  have hfn : ∀ (l' : Nat) c, ch[l']? = some c → fu ∉ c := fun l' c hc' z => absurd (hI.2.2.2.1 l' c hc' fu z) (by omega)
  have hne : fu ≠ i := fun e => hfn l _ hc (e ▸ him)
  have hpne : pa i ≠ pa fu := fun z => hne (pa_inj z).symm
  obtain ⟨s1, s2, s3, s4, s5, s6⟩ := id hS
  obtain ⟨P0, hp0⟩ := s5 i hi60
  obtain ⟨-, q20, -⟩ := hp0.2.2.2 l _ _ hc hpos
  obtain ⟨Pf, hpf⟩ := s5 fu hf60
  have p00 := hp0.1.1
  refine e_enter (by decide) (Nat.le_of_ble_eq_true rfl) ?_
  refine e_aload_n dX2_splitPage_0 rfl ?_
  refine e_aload_n dX2_splitPage_1 rfl ?_
  refine e_get dX2_splitPage_2 fX2_131 p00 rfl ?_
  rw [q20]
  refine e_V1d dX2_splitPage_5 gX2_167 s1 rfl (by omega) (Nat.le_of_ble_eq_true rfl) rfl rfl (con_useTaken d l s1 s4 htk hfu hpf.1) ?_
  have hS1 := hS.up2 (tk' := tk) (fu' := fu + 1) (q' := q) (ca' := ca) (cb' := cb) (ha' := ha) s6
  have hf1 := x_cf.up2 (c := tC tk (fu + 1) q.1 (clQ q) ca cb ha) s1
  have hpf1 := CPi_up2 (c := tC tk (fu + 1) q.1 (clQ q) ca cb ha) hpf s1
  have hS2 := hS1.ps hpf1.1 hf60 (CP_free (P' := ((0, l, 3, 0, 0), Pf.2)) hS1.2.2.2.2.1 hfn hpf1.1 hpf1.2.1 hpf1.2.2.1)
  have hpf2 : CPi _ ch D fu ((0, l, 3, 0, 0), Pf.2) := CPi_free (P' := ((0, l, 3, 0, 0), Pf.2)) hfn hpf1.1 hpf1.2.1 hpf1.2.2.1
  have hf2 := hf1.tr (x_cf.ps (P' := ((0, l, 3, 0, 0), Pf.2)) hpf1.1 hf60)
  generalize x_ps (x_up h 2 (tC tk (fu + 1) q.1 (clQ q) ca cb ha)) (pa fu) ((0, l, 3, 0, 0), Pf.2) = h2 at hS2 hpf2 hf2 ⊢
  refine e_astore_n dX2_splitPage_8 (by decide) rfl ?_
  refine e_aload_n dX2_splitPage_9 rfl ?_
  refine e_ifnull (tgt := 22) dX2_splitPage_10 (by decide) (fun z => absurd z (pa_ne fu)) (fun _ => ?_)
  refine e_aload_n dX2_splitPage_13 rfl ?_
  refine e_bipush (v := 63) dX2_splitPage_14 (by decide) ?_
  refine e_V1d dX2_splitPage_16 gX2_80 hS2.1 rfl (by omega) (Nat.le_of_ble_eq_true rfl) rfl rfl (con_setWords d 2 63 hS2.1 hS2.2.2.2.2.2) ?_
  have hS3 := hS2.up2 (tk' := tk) (fu' := fu + 1) (q' := (sW 63 q).2) (ca' := ca) (cb' := cb) (ha' := ha) (qok_sW s6 (by decide))
  have hf3 := hf2.tr (x_cf.up2 (c := tC tk (fu + 1) (sW 63 q).2.1 (clQ (sW 63 q).2) ca cb ha) hS2.1)
  have hpf3 := CPi_up2 (c := tC tk (fu + 1) (sW 63 q).2.1 (clQ (sW 63 q).2) ca cb ha) hpf2 hS2.1
  generalize x_up h2 2 (tC tk (fu + 1) (sW 63 q).2.1 (clQ (sW 63 q).2) ca cb ha) = h3 at hS3 hpf3 hf3 ⊢
  by_cases e1 : (sW 63 q).1 = true
  · refine e_if_ne (tgt := 24) dX2_splitPage_19 (by decide) (fun _ => ?_) (fun z => absurd z (by rw [e1]; decide))
    obtain ⟨P, hp⟩ := hS3.2.2.2.2.1 i hi60
    obtain ⟨q1, q2, q3, q4, q5, q6, q7⟩ := hp.2.2.2 l _ _ hc hpos
    have hcf := cpy_fe (s := 5) (n := 5) hpf3.2.1 hp.2.1 (by omega)
    have hcb := cpy_fb (s := 5) (n := 5) hpf3.2.2.1 hp.2.2.1 (by omega)
    refine e_aload_n dX2_splitPage_24 rfl ?_
    refine e_aload_n dX2_splitPage_25 rfl ?_
    refine e_iconst (v := 5) dX2_splitPage_26 (by decide) ?_
    refine e_bipush (v := 10) dX2_splitPage_27 (by decide) ?_
    refine e_V3d dX2_splitPage_29 gX2_170 hpf3.1.1 rfl (by omega) (Nat.le_of_ble_eq_true rfl) rfl rfl (con_append (d + 1) h3 (pa fu) (pa i) ((0, l, 3, 0, 0), Pf.2) P 5 5 (by omega) hpf3.1 hp.1 hpne hp.2.1 hp.2.2.1 (q1.trans hsz) rfl) ?_
    refine e_aload_n dX2_splitPage_32 rfl ?_
    refine e_aload_n dX2_splitPage_33 rfl ?_
    refine e_iconst (v := 0) dX2_splitPage_34 (by decide) ?_
    refine e_V1d dX2_splitPage_35 gX2_103 (x_ps_pg _ _ _).1 rfl (by omega) (Nat.le_of_ble_eq_true rfl) rfl rfl (con_entryAt (d + 1) _ (pa fu) 0 (P.2.1 5) _ (x_ps_pg _ _ _) (by decide) rfl) ?_
    refine e_putP (c' := (5, l, P.2.1 5, 0, 0)) dX2_splitPage_38 fX2_145 (x_ps_pg _ _ _) (by exact Or.inl ⟨_, rfl⟩) rfl rfl ?_
    rw [x_ps_ps]
    have r1 : ∀ Z, x_pg (x_ps h3 (pa fu) Z) (pa i) P := fun Z => x_pg_ps hpf3.1 hp.1 hpne
    refine e_aload_n dX2_splitPage_41 rfl ?_
    refine e_aload_n dX2_splitPage_42 rfl ?_
    refine e_get dX2_splitPage_43 fX2_100 (r1 _).1 rfl ?_
    refine e_putP (c' := (5, l, P.2.1 5, P.1.2.2.2.1, 0)) dX2_splitPage_46 fX2_100 (x_ps_pg _ _ _) (by exact Or.inl ⟨_, rfl⟩) rfl rfl ?_
    rw [x_ps_ps]
    refine e_aload_n dX2_splitPage_49 rfl ?_
    refine e_aload_n dX2_splitPage_50 rfl ?_
    refine e_putP (c' := (P.1.1, P.1.2.1, P.1.2.2.1, pa fu, P.1.2.2.2.2)) dX2_splitPage_51 fX2_100 (r1 _) (by exact Or.inl ⟨_, rfl⟩) rfl rfl ?_
    refine e_aload_n dX2_splitPage_54 rfl ?_
    refine e_iconst (v := 5) dX2_splitPage_55 (by decide) ?_
    refine e_putP (c' := (5, P.1.2.1, P.1.2.2.1, pa fu, P.1.2.2.2.2)) dX2_splitPage_56 fX2_97 (x_ps_pg _ _ _) (by exact ⟨rfl, rfl⟩) rfl rfl ?_
    rw [x_ps_ps, q5]
    have hS4 := hS3.ps hpf3.1 hf60 (CP_free (P' := ((5, l, P.2.1 5, P.1.2.2.2.1, 0), cpy Pf.2.1 P.2.1 5 5, cpy Pf.2.2 P.2.2 5 5)) hS3.2.2.2.2.1 hfn hpf3.1 hcf hcb)
    have hS5 := hS4.ps (r1 _) hi60 (CP_split (Pf := ((0, l, 3, 0, 0), Pf.2)) (D i).2.1 hS3.2.2.2.2.1 hI.2.2.1 hc hi60 hf60 hfn hsz hp hpf3)
    have hf5 := (hf3.tr (x_cf.ps (P' := ((5, l, P.2.1 5, P.1.2.2.2.1, 0), cpy Pf.2.1 P.2.1 5 5, cpy Pf.2.2 P.2.2 5 5)) hpf3.1 hf60)).tr (x_cf.ps (P' := ((5, P.1.2.1, P.1.2.2.1, pa fu, bI (D i).2.1), P.2)) (r1 _) hi60)
    have e2 : ∀ z : xH, z = x_ps (x_ps h3 (pa fu) ((5, l, P.2.1 5, P.1.2.2.2.1, 0), cpy Pf.2.1 P.2.1 5 5, cpy Pf.2.2 P.2.2 5 5)) (pa i) ((5, P.1.2.1, P.1.2.2.1, pa fu, bI (D i).2.1), P.2) → CSt z (spC ch l c1 i fu c2) (spD D i fu (D i).2.1) tk (fu + 1) (sW 63 q).2 ca cb ha → x_cf h z → x_E mX2_splitPage (d + 2) 0 0 59 [(2, .ref (pa fu)), (1, .ref (pa i)), (0, .ref 2)] [] z R := by
      intro h5 _ hS5 hf5
      refine e_aload_n dX2_splitPage_59 rfl ?_
      refine e_iconst (v := 1) dX2_splitPage_60 (by decide) ?_
      refine e_V1d dX2_splitPage_61 gX2_80 hS5.1 rfl (by omega) (Nat.le_of_ble_eq_true rfl) rfl rfl (con_setWords (d + 1) 2 1 hS5.1 hS5.2.2.2.2.2) ?_
      have hS6 := hS5.up2 (tk' := tk) (fu' := fu + 1) (q' := (sW 1 (sW 63 q).2).2) (ca' := ca) (cb' := cb) (ha' := ha) (qok_sW hS5.2.2.2.2.2 (by decide))
      have hf6 := hf5.tr (x_cf.up2 (c := tC tk (fu + 1) (sW 1 (sW 63 q).2).2.1 (clQ (sW 1 (sW 63 q).2).2) ca cb ha) hS5.1)
      generalize x_up h5 2 (tC tk (fu + 1) (sW 1 (sW 63 q).2).2.1 (clQ (sW 1 (sW 63 q).2).2) ca cb ha) = h6 at hS6 hf6 ⊢
      have hcS : (spC ch l c1 i fu c2)[l]? = some (c1 ++ i :: fu :: c2) := by unfold spC; rw [ch_at hc, if_pos rfl]
      have hposS : (c1 ++ i :: fu :: c2)[c1.length]? = some i := by rw [List.getElem?_append_right (Nat.le_refl _), Nat.sub_self]; rfl
      have hposF : (c1 ++ i :: fu :: c2)[c1.length + 1]? = some fu := by rw [List.getElem?_append_right (by omega), show c1.length + 1 - c1.length = 1 by omega]; rfl
      obtain ⟨P6, hp6⟩ := hS6.2.2.2.2.1 i hi60
      obtain ⟨z1, z2, z3, z4, z5, z6, z7⟩ := hp6.2.2.2 l _ _ hcS hposS
      obtain ⟨F6, hF6⟩ := hS6.2.2.2.2.1 fu hf60
      obtain ⟨y1, y2, y3, y4, y5, y6, y7⟩ := hF6.2.2.2 l _ _ hcS hposF
      by_cases e2 : (sW 1 (sW 63 q).2).1 = true
      · refine e_if_ne (tgt := 74) dX2_splitPage_64 (by decide) (fun _ => ?_) (fun z => absurd z (by rw [e2]; decide))
        have u1 := hp6.1.1
        have u2 := hF6.1.1
        refine e_aload_n dX2_splitPage_74 rfl ?_
        refine e_aload_n dX2_splitPage_75 rfl ?_
        refine e_get dX2_splitPage_76 fX2_131 u1 rfl ?_
        refine e_iconst (v := 1) dX2_splitPage_79 (by decide) ?_
        refine e_iadd dX2_splitPage_80 ?_
        refine e_aload_n dX2_splitPage_81 rfl ?_
        refine e_get dX2_splitPage_82 fX2_145 u2 rfl ?_
        refine e_aload_n dX2_splitPage_85 rfl ?_
        rw [z2, nI_1]
        rw [spD_f _ hne] at y3
        refine e_V3 dX2_splitPage_86 gX2_76 hS6.1 rfl (by omega) (Nat.le_of_ble_eq_true rfl) rfl rfl (rc h6 _ hf6 e1 e2 y3 hS6) ?_
        rintro rv h7 hRR
        obtain ⟨b, rfl⟩ := hR _ _ hRR
        cases b <;> exact e_iret dX2_splitPage_89 rfl rfl hRR
      · refine e_if_ne (tgt := 74) dX2_splitPage_64 (by decide) (fun z => absurd (by rw [Bool.not_eq_true] at e2; rw [e2]; rfl) z) (fun _ => ?_)
        refine e_aload_n dX2_splitPage_67 rfl ?_
        refine e_iconst (v := 1) dX2_splitPage_68 (by decide) ?_
        refine e_putP (c' := (P6.1.1, P6.1.2.1, P6.1.2.2.1, P6.1.2.2.2.1, bI true)) dX2_splitPage_69 fX2_86 hp6.1 (by exact ⟨rfl, rfl⟩) rfl rfl ?_
        refine e_iconst (v := 0) dX2_splitPage_72 (by decide) ?_
        have hCP' := CP_set hS6.2.2.2.2.1 hi60 hp6 (n' := P6.1.1) (b' := true) (E' := P6.2.1) (B' := P6.2.2) (its' := (spD D i fu (D i).2.1 i).2.2.1) (bls' := (spD D i fu (D i).2.1 i).2.2.2) z1 hp6.2.1 hp6.2.2.1 z6 z7
        have eD : Du (spD D i fu (D i).2.1) i ((spD D i fu (D i).2.1 i).1, true, (spD D i fu (D i).2.1 i).2.2.1, (spD D i fu (D i).2.1 i).2.2.2) = spD D i fu true := by
          rw [spD_i]
          funext j
          unfold spD Du
          by_cases e : j = i
          · rw [if_pos e, if_pos e]
          · rw [if_neg e, if_neg e, if_neg e]
        rw [eD] at hCP'
        exact e_iret dX2_splitPage_73 rfl rfl (rb _ (hf6.tr (x_cf.ps hp6.1 hi60)) e1 (by simpa using e2) (hS6.ps hp6.1 hi60 hCP'))
    exact e_loc [2, 1, 0] rfl (e2 _ rfl hS5 hf5)
  · refine e_if_ne (tgt := 24) dX2_splitPage_19 (by decide) (fun z => absurd (by rw [Bool.not_eq_true] at e1; rw [e1]; rfl) z) (fun _ => ?_)
    refine e_iconst (v := 0) dX2_splitPage_22 (by decide) ?_
    exact e_iret dX2_splitPage_23 rfl rfl (ra _ hf3 (by simpa using e1) hS3)
end CT
