/-! the class: splitRoot's steps -/
def Fr (F : List Nat) (h H : xH) : Prop := x_cf h H ∧ (∀ b, x_pn h b → x_pn H b) ∧ (∀ j, j < 60 → j ∉ F → ∀ P, x_pg h (pa j) P → x_pg H (pa j) P) ∧ H.2 2 = h.2 2 ∧ H.2 8 = h.2 8
theorem Fr.rf (F : List Nat) (h : xH) : Fr F h h := ⟨x_cf.rf, fun _ z => z, fun _ _ _ _ z => z, rfl, rfl⟩
theorem Fr.ps {F : List Nat} {h H : xH} (hF : Fr F h H) {f : Nat} {P P' : xP} (hf : f ∈ F) (h60 : f < 60) (hp : x_pg H (pa f) P) : Fr F h (x_ps H (pa f) P') := by
  obtain ⟨a1, a2, a3, a4, a5⟩ := hF
  have n8 : pa f ≠ 8 ∧ pa f + 1 ≠ 8 ∧ pa f + 2 ≠ 8 := by unfold pa; split <;> omega
  have := pa_ge f
  exact ⟨a1.tr (x_cf.ps hp h60), fun b hb => x_pn_ps hp (a2 b hb), fun j hj hn R hR => x_pg_ps hp (a3 j hj hn R hR) (fun z => hn (by rw [pa_inj z]; exact hf)), x_ps_n a4 (by omega) (by omega) (by omega), x_ps_n a5 (Ne.symm n8.1) (Ne.symm n8.2.1) (Ne.symm n8.2.2)⟩
theorem CPi_ps {h : xH} {ch : List (List Nat)} {D : cD} {i f : Nat} {P R R' : xP} (hp : CPi h ch D i P) (hr : x_pg h (pa f) R) (hne : i ≠ f) : CPi (x_ps h (pa f) R') ch D i P := by
  obtain ⟨p1, p2, p3, p4⟩ := hp
  refine ⟨x_pg_ps hr p1 (fun z => hne (pa_inj z)), fun j hj => ?_, fun j hj => x_pn_ps hr (p3 j hj), fun l c' k hc hk => ?_⟩
  · obtain ⟨v, hv⟩ := p2 j hj
    exact ⟨v, x_en_ps hr hv⟩
  · obtain ⟨q1, q2, q3, q4, q5, q6, q7⟩ := p4 l c' k hc hk
    exact ⟨q1, q2, x_en_ps hr q3, q4, q5, fun j v hv => x_en_ps hr (q6 j v hv), q7⟩
theorem x_fe.cf {h H : xH} {E : Nat → Nat} (hE : x_fe h E) (hF : x_cf h H) : x_fe H E := fun j hj => by
  obtain ⟨v, hv⟩ := hE j hj
  exact ⟨v, hF.2.1 _ v hv⟩
theorem x_es.cf {h H : xH} {E : Nat → Nat} {vs : List xE} (hE : x_es h E vs) (hF : x_cf h H) : x_es H E vs := fun j v hv => hF.2.1 _ v (hE j v hv)
theorem ins_fe {h : xH} {E : Nat → Nat} {k n e : Nat} {v : xE} (hE : x_fe h E) (he : h.2 e = some (eC v)) : x_fe h (ins E k n e) := fun j hj => by
  unfold ins
  split
  · exact ⟨v, he⟩
  · split
    · exact hE _ (by omega)
    · exact hE _ hj
theorem ins_fb {h : xH} {E : Nat → Nat} {k n e : Nat} (hE : x_fb h E) (he : x_pn h e) : x_fb h (ins E k n e) := fun j hj => by
  unfold ins
  split
  · exact he
  · split
    · exact hE _ (by omega)
    · exact hE _ hj
section CO
variable {h : xH} {ch : List (List Nat)} {D : cD} {tk fu n : Nat} {q : qW} {ca : Nat} {cb : Bool} {ha : Nat}
theorem CP_root {H : xH} {PL PR PZ PL' PR' PZ' : xP} {fu0 : Nat} (hS : CSt h ch D tk fu0 q ca cb ha) (hI : CI ch D fu) (hf60 : fu + 2 ≤ 60) (hn : ch.length = n + 1) (hr : ch[n]? = some [0]) (hsz : (D 0).2.2.1.length = 10) (hF : Fr [0, fu, fu + 1] h H) (hL : CPi h ch D fu PL) (hR : CPi h ch D (fu + 1) PR) (hZ : CPi h ch D 0 PZ) (gL : x_pg H (pa fu) PL') (gR : x_pg H (pa (fu + 1)) PR') (gZ : x_pg H (pa 0) PZ')
    (eL : PL' = ((5, n, 3, pa (fu + 1), 0), cpy PL.2.1 PZ.2.1 0 5, cpy PL.2.2 PZ.2.2 0 5)) (eR : PR' = ((5, n, PZ.2.1 5, 0, 0), cpy PR.2.1 PZ.2.1 5 5, cpy PR.2.2 PZ.2.2 5 5)) (eZ : PZ' = ((2, n + 1, 3, 0, 0), ins (ins PZ.2.1 0 0 3) 1 1 (PZ.2.1 5), ins (ins PZ.2.2 0 0 (pa fu)) 1 1 (pa (fu + 1)))) : CP H (roC ch n fu) (roD D fu) := by
  have h00 : 0 < fu := hI.2.2.2.1 n _ hr 0 List.mem_cons_self
  have h0 : fu ≠ 0 := by omega
  obtain ⟨f1, f2, f3, f4, f5⟩ := hF
  have en := f1.2.1
  have h5 := in5 hsz
  obtain ⟨q1, q2, q3, q4, q5, q6, q7⟩ := hZ.2.2.2 n _ 0 hr rfl
  have lowH : H.2 3 = some (eC lowE) := en _ _ hS.2.1
  have x5H : H.2 (PZ.2.1 5) = some (eC ((D 0).2.2.1.getD 5 lowE)) := en _ _ (q6 5 _ h5)
  have hfn : ∀ (l' : Nat) c, ch[l']? = some c → ∀ j ∈ c, j < fu := fun l' c hc' j hj => hI.2.2.2.1 l' c hc' j hj
  have ro : ∀ (l' : Nat) c, ch[l']? = some c → l' < n → 0 ∉ c := fun l' c hc' hl' hj => by
    have := (root_only hI hc').mp hj
    omega
  have pnL : x_pn H (pa fu) := Or.inr ⟨_, gL.1⟩
  have pnR : x_pn H (pa (fu + 1)) := Or.inr ⟨_, gR.1⟩
  refine CP_of [0, fu, fu + 1] hS.2.2.2.2.1 en f2 f3 ?_ ?_
  · intro j hj hn' l c k hc hk
    have n0 : j ≠ 0 := fun z => hn' (by rw [z]; simp)
    have n1 : j ≠ fu := fun z => hn' (by rw [z]; simp)
    have n2 : j ≠ fu + 1 := fun z => hn' (by rw [z]; simp)
    refine ⟨roD_n n0 n1 n2, ?_⟩
    rcases roC_at hn hc with ⟨z1, z⟩ | ⟨z1, z⟩ | ⟨z1, z⟩
    · exact ⟨c, k, z, hk, rfl⟩
    · exact absurd (List.mem_of_getElem? hk) (by rw [z]; simp [n1, n2])
    · exact absurd (List.mem_of_getElem? hk) (by rw [z]; simp [n0])
  · intro j hj hj60
    by_cases e0 : j = 0
    · subst e0
      refine ⟨PZ', gZ, ?_, ?_, fun l c k hc hk => ?_⟩
      · rw [eZ]
        exact ins_fe (ins_fe (hZ.2.1.cf f1) lowH) x5H
      · rw [eZ]
        exact ins_fb (ins_fb (fun k hk => f2 _ (hZ.2.2.1 k hk)) pnL) pnR
      · rcases roC_at hn hc with ⟨z1, z⟩ | ⟨z1, z⟩ | ⟨z1, z⟩
        · exact absurd (List.mem_of_getElem? hk) (ro _ _ z z1)
        · have := List.mem_of_getElem? hk
          rw [z] at this
          rcases List.mem_cons.mp this with y | y
          · omega
          · have := List.mem_singleton.mp y; omega
        · subst z
          have hk0 : k = 0 := by
            cases k with
            | zero => rfl
            | succ k => simp at hk
          subst hk0
          rw [roD_0, eZ]
          refine ⟨rfl, z1.symm, lowH, rfl, rfl, fun k' v hv => ?_, fun k' b hb => ?_⟩
          · have hv : [lowE, (D 0).2.2.1.getD 5 lowE][k']? = some v := hv
            match k', hv with
            | 0, hv =>
              have e1 : lowE = v := Option.some.inj hv
              rw [← e1]
              exact lowH
            | 1, hv =>
              have e1 : (D 0).2.2.1.getD 5 lowE = v := Option.some.inj hv
              rw [← e1]
              exact x5H
            | k' + 2, hv => simp at hv
          · have hb : [fu, fu + 1][k']? = some b := hb
            match k', hb with
            | 0, hb =>
              have e1 : fu = b := Option.some.inj hb
              rw [← e1]
              rfl
            | 1, hb =>
              have e1 : fu + 1 = b := Option.some.inj hb
              rw [← e1]
              rfl
            | k' + 2, hb => simp at hb
    · by_cases e1 : j = fu
      · subst e1
        refine ⟨PL', gL, ?_, ?_, fun l c k hc hk => ?_⟩
        · rw [eL]
          exact cpy_fe (hL.2.1.cf f1) (hZ.2.1.cf f1) (by omega)
        · rw [eL]
          exact cpy_fb (fun k hk => f2 _ (hL.2.2.1 k hk)) (fun k hk => f2 _ (hZ.2.2.1 k hk)) (by omega)
        · rcases roC_at hn hc with ⟨z1, z⟩ | ⟨z1, z⟩ | ⟨z1, z⟩
          · exact absurd (hfn _ _ z j (List.mem_of_getElem? hk)) (by omega)
          · subst z
            have hk0 : k = 0 := by
              match k, hk with
              | 0, _ => rfl
              | 1, hk => have : j + 1 = j := Option.some.inj hk; omega
              | k + 2, hk => simp at hk
            subst hk0
            rw [roD_l h0, eL]
            refine ⟨by show 5 = ((D 0).2.2.1.take 5).length; rw [List.length_take]; omega, z1.symm, lowH, rfl, rfl, fun k' v hv => ?_, fun k' b hb => ?_⟩
            · have hv : ((D 0).2.2.1.take 5)[k']? = some v := hv
              rw [List.getElem?_take] at hv
              split at hv
              · rename_i k5
                have e3 : cpy PL.2.1 PZ.2.1 0 5 k' = PZ.2.1 k' := by unfold cpy; rw [if_pos k5, Nat.zero_add]
                show H.2 (cpy PL.2.1 PZ.2.1 0 5 k') = _
                rw [e3]
                exact en _ v (q6 k' v hv)
              · cases hv
            · have hb : ((D 0).2.2.2.take 5)[k']? = some b := hb
              rw [List.getElem?_take] at hb
              split at hb
              · rename_i k5
                have e3 : cpy PL.2.2 PZ.2.2 0 5 k' = PZ.2.2 k' := by unfold cpy; rw [if_pos k5, Nat.zero_add]
                show cpy PL.2.2 PZ.2.2 0 5 k' = _
                rw [e3]
                exact q7 k' b hb
              · cases hb
          · have := List.mem_of_getElem? hk
            rw [z] at this
            exact absurd (List.mem_singleton.mp this) e0
      · have e2 : j = fu + 1 := by
          rcases List.mem_cons.mp hj with y | y
          · exact absurd y e0
          · rcases List.mem_cons.mp y with y | y
            · exact absurd y e1
            · exact List.mem_singleton.mp y
        subst e2
        refine ⟨PR', gR, ?_, ?_, fun l c k hc hk => ?_⟩
        · rw [eR]
          exact cpy_fe (hR.2.1.cf f1) (hZ.2.1.cf f1) (by omega)
        · rw [eR]
          exact cpy_fb (fun k hk => f2 _ (hR.2.2.1 k hk)) (fun k hk => f2 _ (hZ.2.2.1 k hk)) (by omega)
        · rcases roC_at hn hc with ⟨z1, z⟩ | ⟨z1, z⟩ | ⟨z1, z⟩
          · exact absurd (hfn _ _ z _ (List.mem_of_getElem? hk)) (by omega)
          · subst z
            have hk0 : k = 1 := by
              match k, hk with
              | 0, hk => have : fu = fu + 1 := Option.some.inj hk; omega
              | 1, _ => rfl
              | k + 2, hk => simp at hk
            subst hk0
            rw [roD_r, eR]
            refine ⟨by show 5 = ((D 0).2.2.1.drop 5).length; rw [List.length_drop]; omega, z1.symm, x5H, rfl, rfl, fun k' v hv => ?_, fun k' b hb => ?_⟩
            · have hv : ((D 0).2.2.1.drop 5)[k']? = some v := hv
              rw [List.getElem?_drop] at hv
              have := (List.getElem?_eq_some_iff.mp hv).1
              have e3 : cpy PR.2.1 PZ.2.1 5 5 k' = PZ.2.1 (5 + k') := by unfold cpy; rw [if_pos (by omega)]
              show H.2 (cpy PR.2.1 PZ.2.1 5 5 k') = _
              rw [e3]
              exact en _ v (q6 _ v hv)
            · have hb : (((D 0).2.2.2.drop 5).take 5)[k']? = some b := hb
              rw [List.getElem?_take] at hb
              split at hb
              · rename_i k5
                rw [List.getElem?_drop] at hb
                have e3 : cpy PR.2.2 PZ.2.2 5 5 k' = PZ.2.2 (5 + k') := by unfold cpy; rw [if_pos k5]
                show cpy PR.2.2 PZ.2.2 5 5 k' = _
                rw [e3]
                exact q7 _ b hb
              · cases hb
          · have := List.mem_of_getElem? hk
            rw [z] at this
            exact absurd (List.mem_singleton.mp this) e0
theorem con_splitRoot (d : Nat) (hS : CSt h ch D tk fu q ca cb ha) (hI : CI ch D fu) (htk : tk ≤ 60) (hfu : fu + 2 ≤ tk) (hn : ch.length = n + 1) (hr : ch[n]? = some [0]) (hsz : (D 0).2.2.1.length = 10) :
    x_Con mX2_splitRoot (d + 6) 0 0 [.ref 2] h (fun rv h' => rv = [.int (bI (sW 145 q).1)] ∧ x_cf h h' ∧ CSt h' (if (sW 145 q).1 then roC ch n fu else ch) (if (sW 145 q).1 then roD D fu else D) tk (fu + 2) (sW 145 q).2 ca cb ha) := by
  have h00 : 0 < fu := hI.2.2.2.1 n _ hr 0 List.mem_cons_self
  have hfn : ∀ (l' : Nat) c, ch[l']? = some c → fu ∉ c := fun l' c hc' z => absurd (hI.2.2.2.1 l' c hc' fu z) (by omega)
  have hfn' : ∀ (l' : Nat) c, ch[l']? = some c → fu + 1 ∉ c := fun l' c hc' z => absurd (hI.2.2.2.1 l' c hc' _ z) (by omega)
  have hlow := hI.root_low hr
  obtain ⟨s1, s2, s3, s4, s5, s6⟩ := id hS
  obtain ⟨P0, hp0⟩ := s5 0 (by omega)
  have q20 := (hp0.2.2.2 n _ 0 hr rfl).2.1
  have p00 : h.2 5 = some (pgC 5 P0.1) := hp0.1.1
  obtain ⟨Pf, hpf⟩ := s5 fu (by omega)
  refine e_enter (by decide) (Nat.le_of_ble_eq_true rfl) ?_
  refine e_aload_n dX2_splitRoot_0 rfl ?_
  refine e_aload_n dX2_splitRoot_1 rfl ?_
  refine e_get dX2_splitRoot_2 fX2_29 s1 rfl ?_
  refine e_get dX2_splitRoot_5 fX2_131 p00 rfl ?_
  rw [q20]
  refine e_V1d dX2_splitRoot_8 gX2_167 s1 rfl (by omega) (Nat.le_of_ble_eq_true rfl) rfl rfl (con_useTaken (d + 4) n s1 s4 htk (by omega) hpf.1) ?_
  have hS1 := hS.up2 (tk' := tk) (fu' := fu + 1) (q' := q) (ca' := ca) (cb' := cb) (ha' := ha) s6
  have hf1 := x_cf.up2 (c := tC tk (fu + 1) q.1 (clQ q) ca cb ha) s1
  have hpf1 := CPi_up2 (c := tC tk (fu + 1) q.1 (clQ q) ca cb ha) hpf s1
  have hS2 := hS1.ps hpf1.1 (by omega) (CP_free (P' := ((0, n, 3, 0, 0), Pf.2)) hS1.2.2.2.2.1 hfn hpf1.1 hpf1.2.1 hpf1.2.2.1)
  have hpf2 : CPi _ ch D fu ((0, n, 3, 0, 0), Pf.2) := CPi_free (P' := ((0, n, 3, 0, 0), Pf.2)) hfn hpf1.1 hpf1.2.1 hpf1.2.2.1
  have hf2 := hf1.tr (x_cf.ps (P' := ((0, n, 3, 0, 0), Pf.2)) hpf1.1 (by omega))
  generalize x_ps (x_up h 2 (tC tk (fu + 1) q.1 (clQ q) ca cb ha)) (pa fu) ((0, n, 3, 0, 0), Pf.2) = h2 at hS2 hpf2 hf2 ⊢
  clear hS1 hf1 hpf1
  obtain ⟨P2, hp2⟩ := hS2.2.2.2.2.1 0 (by omega)
  have q22 := (hp2.2.2.2 n _ 0 hr rfl).2.1
  have p20 : h2.2 5 = some (pgC 5 P2.1) := hp2.1.1
  obtain ⟨Pg, hpg⟩ := hS2.2.2.2.2.1 (fu + 1) (by omega)
  have t1 := hS2.1
  refine e_astore_n dX2_splitRoot_11 (by decide) rfl ?_
  refine e_aload_n dX2_splitRoot_12 rfl ?_
  refine e_aload_n dX2_splitRoot_13 rfl ?_
  refine e_get dX2_splitRoot_14 fX2_29 t1 rfl ?_
  refine e_get dX2_splitRoot_17 fX2_131 p20 rfl ?_
  rw [q22]
  refine e_V1d dX2_splitRoot_20 gX2_167 t1 rfl (by omega) (Nat.le_of_ble_eq_true rfl) rfl rfl (con_useTaken (d + 4) n t1 hS2.2.2.2.1 htk (by omega) hpg.1) ?_
  have hS3 := hS2.up2 (tk' := tk) (fu' := fu + 1 + 1) (q' := q) (ca' := ca) (cb' := cb) (ha' := ha) s6
  have hf3 := hf2.tr (x_cf.up2 (c := tC tk (fu + 1 + 1) q.1 (clQ q) ca cb ha) t1)
  have hpg3 := CPi_up2 (c := tC tk (fu + 1 + 1) q.1 (clQ q) ca cb ha) hpg t1
  have hpf3 := CPi_up2 (c := tC tk (fu + 1 + 1) q.1 (clQ q) ca cb ha) hpf2 t1
  have hS4 := hS3.ps hpg3.1 (by omega) (CP_free (P' := ((0, n, 3, 0, 0), Pg.2)) hS3.2.2.2.2.1 hfn' hpg3.1 hpg3.2.1 hpg3.2.2.1)
  have hpg4 : CPi _ ch D (fu + 1) ((0, n, 3, 0, 0), Pg.2) := CPi_free (P' := ((0, n, 3, 0, 0), Pg.2)) hfn' hpg3.1 hpg3.2.1 hpg3.2.2.1
  have hpf4 := CPi_ps (R' := ((0, n, 3, 0, 0), Pg.2)) hpf3 hpg3.1 (by omega)
  have hf4 := hf3.tr (x_cf.ps (P' := ((0, n, 3, 0, 0), Pg.2)) hpg3.1 (by omega))
  generalize x_ps (x_up h2 2 (tC tk (fu + 1 + 1) q.1 (clQ q) ca cb ha)) (pa (fu + 1)) ((0, n, 3, 0, 0), Pg.2) = h4 at hS4 hpf4 hpg4 hf4 ⊢
  clear hS3 hf3 hpg3 hpf3
  refine e_astore_n dX2_splitRoot_23 (by decide) rfl ?_
  refine e_aload_n dX2_splitRoot_24 rfl ?_
  refine e_ifnull (tgt := 32) dX2_splitRoot_25 (by decide) (fun z => absurd z (pa_ne fu)) (fun _ => ?_)
  refine e_aload_n dX2_splitRoot_28 rfl ?_
  refine e_ifnonnull (tgt := 34) dX2_splitRoot_29 (by decide) (fun _ => ?_) (fun z => absurd z (pa_ne _))
  refine e_aload_n dX2_splitRoot_34 rfl ?_
  refine e_sipush (v := 145) dX2_splitRoot_35 (by decide) ?_
  refine e_V1d dX2_splitRoot_38 gX2_80 hS4.1 rfl (by omega) (Nat.le_of_ble_eq_true rfl) rfl rfl (con_setWords (d + 5) 2 145 hS4.1 s6) ?_
  have hS5 := hS4.up2 (tk' := tk) (fu' := fu + 2) (q' := (sW 145 q).2) (ca' := ca) (cb' := cb) (ha' := ha) (qok_sW s6 (by decide))
  have hf5 := hf4.tr (x_cf.up2 (c := tC tk (fu + 2) (sW 145 q).2.1 (clQ (sW 145 q).2) ca cb ha) hS4.1)
  have hpf5 := CPi_up2 (c := tC tk (fu + 2) (sW 145 q).2.1 (clQ (sW 145 q).2) ca cb ha) hpf4 hS4.1
  have hpg5 := CPi_up2 (c := tC tk (fu + 2) (sW 145 q).2.1 (clQ (sW 145 q).2) ca cb ha) hpg4 hS4.1
  have hgo : ∀ h5, h5 = x_up h4 2 (tC tk (fu + 2) (sW 145 q).2.1 (clQ (sW 145 q).2) ca cb ha) → CSt h5 ch D tk (fu + 2) (sW 145 q).2 ca cb ha → x_cf h h5 → CPi h5 ch D fu ((0, n, 3, 0, 0), Pf.2) → CPi h5 ch D (fu + 1) ((0, n, 3, 0, 0), Pg.2) → x_E mX2_splitRoot (d + 6) 0 0 41 [(2, .ref (pa (fu + 1))), (1, .ref (pa fu)), (0, .ref 2)] [.int (bI (sW 145 q).1)] h5 (fun rv h' => rv = [.int (bI (sW 145 q).1)] ∧ x_cf h h' ∧ CSt h' (if (sW 145 q).1 then roC ch n fu else ch) (if (sW 145 q).1 then roD D fu else D) tk (fu + 2) (sW 145 q).2 ca cb ha) := by
    intro h5 _ hS5 hf5 hpf5 hpg5
    by_cases e1 : (sW 145 q).1 = true
    · refine e_if_ne (tgt := 46) dX2_splitRoot_41 (by decide) (fun _ => ?_) (fun z => absurd z (by rw [e1]; decide))
      rw [e1]
      obtain ⟨PZ, hZ⟩ := hS5.2.2.2.2.1 0 (by omega)
      obtain ⟨q1, q2, q3, q4, q5, q6, q7⟩ := hZ.2.2.2 n _ 0 hr rfl
      have h5i := in5 hsz
      have c2 := hS5.1
      have nL : pa (fu + 1) ≠ pa fu := fun z => by have := pa_inj z; omega
      have nZ : (5 : Nat) ≠ pa fu := fun z => by have := pa_inj (i := 0) z; omega
      have nZ' : (5 : Nat) ≠ pa (fu + 1) := fun z => by have := pa_inj (i := 0) z; omega
      have F0 := Fr.rf [0, fu, fu + 1] h5
      have hZ1 : x_pg h5 5 PZ := hZ.1
      refine e_aload_n dX2_splitRoot_46 rfl ?_
      refine e_aload_n dX2_splitRoot_47 rfl ?_
      refine e_get dX2_splitRoot_48 fX2_29 c2 rfl ?_
      refine e_iconst (v := 0) dX2_splitRoot_51 (by decide) ?_
      refine e_iconst (v := 5) dX2_splitRoot_52 (by decide) ?_
      refine e_V3d dX2_splitRoot_53 gX2_170 hpf5.1.1 rfl (by omega) (Nat.le_of_ble_eq_true rfl) rfl rfl (con_append (d + 5) h5 (pa fu) 5 ((0, n, 3, 0, 0), Pf.2) PZ 0 5 (by omega) hpf5.1 hZ1 nZ hZ.2.1 hZ.2.2.1 (q1.trans hsz) rfl) ?_
      have F1 := F0.ps (P' := ((5, n, 3, 0, 0), cpy Pf.2.1 PZ.2.1 0 5, cpy Pf.2.2 PZ.2.2 0 5)) (f := fu) (by simp) (by omega) hpf5.1
      have L1 := x_ps_pg h5 (pa fu) ((5, n, 3, 0, 0), cpy Pf.2.1 PZ.2.1 0 5, cpy Pf.2.2 PZ.2.2 0 5)
      have R1 := x_pg_ps (P' := ((5, n, 3, 0, 0), cpy Pf.2.1 PZ.2.1 0 5, cpy Pf.2.2 PZ.2.2 0 5)) hpf5.1 hpg5.1 nL
      have Z1 := x_pg_ps (P' := ((5, n, 3, 0, 0), cpy Pf.2.1 PZ.2.1 0 5, cpy Pf.2.2 PZ.2.2 0 5)) hpf5.1 hZ1 nZ
      generalize x_ps h5 (pa fu) ((5, n, 3, 0, 0), cpy Pf.2.1 PZ.2.1 0 5, cpy Pf.2.2 PZ.2.2 0 5) = H1 at F1 L1 R1 Z1 ⊢
      have c2 := F1.2.2.2.1.trans hS5.1
      refine e_aload_n dX2_splitRoot_56 rfl ?_
      refine e_aload_n dX2_splitRoot_57 rfl ?_
      refine e_get dX2_splitRoot_58 fX2_29 c2 rfl ?_
      refine e_iconst (v := 5) dX2_splitRoot_61 (by decide) ?_
      refine e_bipush (v := 10) dX2_splitRoot_62 (by decide) ?_
      refine e_V3d dX2_splitRoot_64 gX2_170 R1.1 rfl (by omega) (Nat.le_of_ble_eq_true rfl) rfl rfl (con_append (d + 5) H1 (pa (fu + 1)) 5 ((0, n, 3, 0, 0), Pg.2) PZ 5 5 (by omega) R1 Z1 nZ' (hZ.2.1.cf F1.1) (fun k hk => F1.2.1 _ (hZ.2.2.1 k hk)) (q1.trans hsz) rfl) ?_
      refine e_aload_n dX2_splitRoot_67 rfl ?_
      refine e_aload_n dX2_splitRoot_68 rfl ?_
      refine e_iconst (v := 0) dX2_splitRoot_69 (by decide) ?_
      refine e_V1d dX2_splitRoot_70 gX2_103 (x_ps_pg _ _ _).1 rfl (by omega) (Nat.le_of_ble_eq_true rfl) rfl rfl (con_entryAt (d + 5) _ (pa (fu + 1)) 0 (PZ.2.1 5) _ (x_ps_pg _ _ _) (by decide) rfl) ?_
      refine e_putP (c' := (5, n, PZ.2.1 5, 0, 0)) dX2_splitRoot_73 fX2_145 (x_ps_pg _ _ _) (by exact Or.inl ⟨_, rfl⟩) rfl rfl ?_
      rw [x_ps_ps]
      have F2 := F1.ps (P' := ((5, n, PZ.2.1 5, 0, 0), cpy Pg.2.1 PZ.2.1 5 5, cpy Pg.2.2 PZ.2.2 5 5)) (f := fu + 1) (by simp) (by omega) R1
      have R2 := x_ps_pg H1 (pa (fu + 1)) ((5, n, PZ.2.1 5, 0, 0), cpy Pg.2.1 PZ.2.1 5 5, cpy Pg.2.2 PZ.2.2 5 5)
      have L2 := x_pg_ps (P' := ((5, n, PZ.2.1 5, 0, 0), cpy Pg.2.1 PZ.2.1 5 5, cpy Pg.2.2 PZ.2.2 5 5)) R1 L1 (Ne.symm nL)
      have Z2 := x_pg_ps (P' := ((5, n, PZ.2.1 5, 0, 0), cpy Pg.2.1 PZ.2.1 5 5, cpy Pg.2.2 PZ.2.2 5 5)) R1 Z1 nZ'
      generalize x_ps H1 (pa (fu + 1)) ((5, n, PZ.2.1 5, 0, 0), cpy Pg.2.1 PZ.2.1 5 5, cpy Pg.2.2 PZ.2.2 5 5) = H2 at F2 L2 R2 Z2 ⊢
      refine e_aload_n dX2_splitRoot_76 rfl ?_
      refine e_aload_n dX2_splitRoot_77 rfl ?_
      refine e_putP (c' := (5, n, 3, pa (fu + 1), 0)) dX2_splitRoot_78 fX2_100 L2 (by exact Or.inl ⟨_, rfl⟩) rfl rfl ?_
      have F3 := F2.ps (P' := ((5, n, 3, pa (fu + 1), 0), cpy Pf.2.1 PZ.2.1 0 5, cpy Pf.2.2 PZ.2.2 0 5)) (f := fu) (by simp) (by omega) L2
      have L3 := x_ps_pg H2 (pa fu) ((5, n, 3, pa (fu + 1), 0), cpy Pf.2.1 PZ.2.1 0 5, cpy Pf.2.2 PZ.2.2 0 5)
      have R3 := x_pg_ps (P' := ((5, n, 3, pa (fu + 1), 0), cpy Pf.2.1 PZ.2.1 0 5, cpy Pf.2.2 PZ.2.2 0 5)) L2 R2 nL
      have Z3 := x_pg_ps (P' := ((5, n, 3, pa (fu + 1), 0), cpy Pf.2.1 PZ.2.1 0 5, cpy Pf.2.2 PZ.2.2 0 5)) L2 Z2 nZ
      show x_E _ _ _ _ _ _ _ (x_ps H2 (pa fu) ((5, n, 3, pa (fu + 1), 0), cpy Pf.2.1 PZ.2.1 0 5, cpy Pf.2.2 PZ.2.2 0 5)) _
      generalize x_ps H2 (pa fu) ((5, n, 3, pa (fu + 1), 0), cpy Pf.2.1 PZ.2.1 0 5, cpy Pf.2.2 PZ.2.2 0 5) = H3 at F3 L3 R3 Z3 ⊢
      have c2 := F3.2.2.2.1.trans hS5.1
      have z0 : H3.2 5 = some (pgC 5 PZ.1) := Z3.1
      refine e_aload_n dX2_splitRoot_81 rfl ?_
      refine e_get dX2_splitRoot_82 fX2_29 c2 rfl ?_
      refine e_aload_n dX2_splitRoot_85 rfl ?_
      refine e_get dX2_splitRoot_86 fX2_29 c2 rfl ?_
      refine e_get dX2_splitRoot_89 fX2_131 z0 rfl ?_
      refine e_iconst (v := 1) dX2_splitRoot_92 (by decide) ?_
      refine e_iadd dX2_splitRoot_93 ?_
      refine e_aload_n dX2_splitRoot_94 rfl ?_
      refine e_get dX2_splitRoot_95 fX2_14 c2 rfl ?_
      rw [q2, nI_1]
      refine e_V2d dX2_splitRoot_98 gX2_127 z0 rfl (by omega) (Nat.le_of_ble_eq_true rfl) rfl rfl (con_reset (d + 5) H3 5 (n + 1) 3 PZ Z3) ?_
      have F4 := F3.ps (P' := ((0, n + 1, 3, 0, 0), PZ.2)) (f := 0) (by simp) (by omega) Z3
      have Z4 := x_ps_pg H3 5 ((0, n + 1, 3, 0, 0), PZ.2)
      have L4 := x_pg_ps (P' := ((0, n + 1, 3, 0, 0), PZ.2)) Z3 L3 (Ne.symm nZ)
      have R4 := x_pg_ps (P' := ((0, n + 1, 3, 0, 0), PZ.2)) Z3 R3 (Ne.symm nZ')
      have F4 : Fr [0, fu, fu + 1] h5 (x_ps H3 5 ((0, n + 1, 3, 0, 0), PZ.2)) := F4
      generalize x_ps H3 5 ((0, n + 1, 3, 0, 0), PZ.2) = H4 at F4 L4 R4 Z4 ⊢
      have c2 := F4.2.2.2.1.trans hS5.1
      have l0 := L4.1
      have low4 : H4.2 3 = some (eC lowE) := F4.1.2.1 _ _ hS5.2.1
      refine e_aload_n dX2_splitRoot_101 rfl ?_
      refine e_get dX2_splitRoot_102 fX2_29 c2 rfl ?_
      refine e_aload_n dX2_splitRoot_105 rfl ?_
      refine e_get dX2_splitRoot_106 fX2_145 l0 rfl ?_
      refine e_aload_n dX2_splitRoot_109 rfl ?_
      refine e_V2d dX2_splitRoot_110 gX2_163 Z4.1 rfl (by omega) (Nat.le_of_ble_eq_true rfl) rfl rfl (con_insert d H4 5 3 (pa fu) lowE ((0, n + 1, 3, 0, 0), PZ.2) [] (by decide) Z4 rfl (fun j v hv => by simp at hv) (hZ.2.1.cf F4.1) (fun k hk => F4.2.1 _ (hZ.2.2.1 k hk)) low4 (Or.inr ⟨_, L4.1⟩)) ?_
      have F5 : Fr [0, fu, fu + 1] h5 (x_ps H4 5 ((1, n + 1, 3, 0, 0), ins PZ.2.1 0 0 3, ins PZ.2.2 0 0 (pa fu))) := F4.ps (f := 0) (by simp) (by omega) Z4
      have Z5 := x_ps_pg H4 5 ((1, n + 1, 3, 0, 0), ins PZ.2.1 0 0 3, ins PZ.2.2 0 0 (pa fu))
      have L5 := x_pg_ps (P' := ((1, n + 1, 3, 0, 0), ins PZ.2.1 0 0 3, ins PZ.2.2 0 0 (pa fu))) Z4 L4 (Ne.symm nZ)
      have R5 := x_pg_ps (P' := ((1, n + 1, 3, 0, 0), ins PZ.2.1 0 0 3, ins PZ.2.2 0 0 (pa fu))) Z4 R4 (Ne.symm nZ')
      show x_E _ _ _ _ _ _ _ (x_ps H4 5 ((1, n + 1, 3, 0, 0), ins PZ.2.1 0 0 3, ins PZ.2.2 0 0 (pa fu))) _
      generalize x_ps H4 5 ((1, n + 1, 3, 0, 0), ins PZ.2.1 0 0 3, ins PZ.2.2 0 0 (pa fu)) = H5 at F5 L5 R5 Z5 ⊢
      have c2 := F5.2.2.2.1.trans hS5.1
      have r0 := R5.1
      have low5 : H5.2 3 = some (eC lowE) := F5.1.2.1 _ _ hS5.2.1
      have x55 : H5.2 (PZ.2.1 5) = some (eC ((D 0).2.2.1.getD 5 lowE)) := F5.1.2.1 _ _ (q6 5 _ h5i)
      have hlt : od lowE < od ((D 0).2.2.1.getD 5 lowE) := by
        have hk := hI.1.1 n _ (trS_at hr)
        have hs := (lvK_split (c1 := []) (c2 := []) (g := pgS D 0) false hk (by simpa [pgS] using hsz)).2
        rw [gd5 hsz] at hs
        have okx := (hI.2.2.2.2.2.1 n _ hr 0 List.mem_cons_self).2 _ (List.mem_of_getElem? h5i)
        refine (sk_lt ok_low okx).mp ?_
        rw [sk_low]
        omega
      have hcnt : cnt (od ((D 0).2.2.1.getD 5 lowE)) [lowE] = 1 := by
        unfold cnt
        rw [if_pos hlt]
        rfl
      refine e_aload_n dX2_splitRoot_113 rfl ?_
      refine e_get dX2_splitRoot_114 fX2_29 c2 rfl ?_
      refine e_aload_n dX2_splitRoot_117 rfl ?_
      refine e_get dX2_splitRoot_118 fX2_145 r0 rfl ?_
      refine e_aload_n dX2_splitRoot_121 rfl ?_
      have ki := con_insert d H5 5 (PZ.2.1 5) (pa (fu + 1)) ((D 0).2.2.1.getD 5 lowE) ((1, n + 1, 3, 0, 0), ins PZ.2.1 0 0 3, ins PZ.2.2 0 0 (pa fu)) [lowE] (by decide) Z5 rfl (fun j v hv => by
        match j, hv with
        | 0, hv =>
          have e1 : lowE = v := Option.some.inj hv
          rw [← e1]
          exact low5
        | j + 1, hv => simp at hv) (ins_fe (hZ.2.1.cf F5.1) low5) (ins_fb (fun k hk => F5.2.1 _ (hZ.2.2.1 k hk)) (Or.inr ⟨_, L5.1⟩)) x55 (Or.inr ⟨_, R5.1⟩)
      rw [hcnt] at ki
      refine e_V2d dX2_splitRoot_122 gX2_163 Z5.1 rfl (by omega) (Nat.le_of_ble_eq_true rfl) rfl rfl (ki) ?_
      have F6 : Fr [0, fu, fu + 1] h5 (x_ps H5 5 ((2, n + 1, 3, 0, 0), ins (ins PZ.2.1 0 0 3) 1 1 (PZ.2.1 5), ins (ins PZ.2.2 0 0 (pa fu)) 1 1 (pa (fu + 1)))) := F5.ps (f := 0) (by simp) (by omega) Z5
      have Z6 := x_ps_pg H5 5 ((2, n + 1, 3, 0, 0), ins (ins PZ.2.1 0 0 3) 1 1 (PZ.2.1 5), ins (ins PZ.2.2 0 0 (pa fu)) 1 1 (pa (fu + 1)))
      have L6 := x_pg_ps (P' := ((2, n + 1, 3, 0, 0), ins (ins PZ.2.1 0 0 3) 1 1 (PZ.2.1 5), ins (ins PZ.2.2 0 0 (pa fu)) 1 1 (pa (fu + 1)))) Z5 L5 (Ne.symm nZ)
      have R6 := x_pg_ps (P' := ((2, n + 1, 3, 0, 0), ins (ins PZ.2.1 0 0 3) 1 1 (PZ.2.1 5), ins (ins PZ.2.2 0 0 (pa fu)) 1 1 (pa (fu + 1)))) Z5 R5 (Ne.symm nZ')
      show x_E _ _ _ _ _ _ _ (x_ps H5 5 ((2, n + 1, 3, 0, 0), ins (ins PZ.2.1 0 0 3) 1 1 (PZ.2.1 5), ins (ins PZ.2.2 0 0 (pa fu)) 1 1 (pa (fu + 1)))) _
      generalize x_ps H5 5 ((2, n + 1, 3, 0, 0), ins (ins PZ.2.1 0 0 3) 1 1 (PZ.2.1 5), ins (ins PZ.2.2 0 0 (pa fu)) 1 1 (pa (fu + 1))) = H6 at F6 L6 R6 Z6 ⊢
      refine e_iconst (v := 1) dX2_splitRoot_125 (by decide) ?_
      refine e_iret dX2_splitRoot_126 rfl rfl ⟨rfl, hf5.tr F6.1, ?_⟩
      rw [if_pos rfl, if_pos rfl]
      exact ⟨F6.2.2.2.1.trans hS5.1, F6.1.2.1 _ _ hS5.2.1, F6.1.2.1 _ _ hS5.2.2.1, F6.2.2.2.2.trans hS5.2.2.2.1, CP_root hS5 hI (by omega) hn hr hsz F6 hpf5 hpg5 hZ L6 R6 Z6 rfl rfl rfl, hS5.2.2.2.2.2⟩
    · refine e_if_ne (tgt := 46) dX2_splitRoot_41 (by decide) (fun z => absurd (by rw [Bool.not_eq_true] at e1; rw [e1]; rfl) z) (fun _ => ?_)
      refine e_iconst (v := 0) dX2_splitRoot_44 (by decide) ?_
      refine e_iret dX2_splitRoot_45 rfl rfl ⟨by rw [Bool.not_eq_true] at e1; rw [e1]; rfl, hf5, ?_⟩
      rw [if_neg e1, if_neg e1]
      exact hS5
  exact e_loc [2, 1, 0] rfl (hgo _ rfl hS5 hf5 hpf5 hpg5)
end CO
