/-! the class: bringInto -/
def CSt (h : xH) (ch : List (List Nat)) (D : cD) (tk fu : Nat) (q : qW) (ca : Nat) (cb : Bool) (ha : Nat) : Prop := h.2 2 = some (tC tk fu q.1 (clQ q) ca cb ha) ∧ h.2 3 = some (eC lowE) ∧ h.2 4 = some (eC highE) ∧ h.2 8 = some pgA ∧ CP h ch D ∧ qok q
/-- what the class's steps leave: entries, and all below 2 and from 187 on -/
def x_cf (h h' : xH) : Prop := h'.1 = h.1 ∧ (∀ a v, h.2 a = some (eC v) → h'.2 a = some (eC v)) ∧ ∀ a : Nat, (a < 2 ∨ 187 ≤ a) → h'.2 a = h.2 a
theorem x_cf.rf {h : xH} : x_cf h h := ⟨rfl, fun _ _ z => z, fun _ _ => rfl⟩
theorem x_cf.tr {h h' h'' : xH} (a : x_cf h h') (b : x_cf h' h'') : x_cf h h'' := ⟨b.1.trans a.1, fun q v z => b.2.1 q v (a.2.1 q v z), fun q hq => (b.2.2 q hq).trans (a.2.2 q hq)⟩
theorem x_cf.up2 {h : xH} {fs : List Value} {c : xC} (ht : h.2 2 = some (.inr (2, fs))) : x_cf h (x_up h 2 c) := ⟨rfl, fun a v z => x_up_n z (fun e => by rw [e, ht] at z; cases z), fun a ha => x_up_n rfl (by omega)⟩
theorem x_cf.ps {h : xH} {i : Nat} {P P' : xP} (hp : x_pg h (pa i) P) (hi : i < 60) : x_cf h (x_ps h (pa i) P') := by
  have := pa_lt hi
  exact ⟨rfl, fun a v z => x_en_ps hp z, fun a ha => by have := pa_ge i; exact x_ps_n rfl (by omega) (by omega) (by omega)⟩
section CB
variable {h : xH} {ch : List (List Nat)} {D : cD} {bd tk fu : Nat} {q : qW} {ca : Nat} {cb : Bool} {ha : Nat}
theorem CSt.up2 (hS : CSt h ch D tk fu q ca cb ha) {tk' fu' : Nat} {q' : qW} {ca' : Nat} {cb' : Bool} {ha' : Nat} (hq : qok q') : CSt (x_up h 2 (tC tk' fu' q'.1 (clQ q') ca' cb' ha')) ch D tk' fu' q' ca' cb' ha' := by
  obtain ⟨s1, s2, s3, s4, s5, s6⟩ := hS
  exact ⟨x_up_s _ _ _, x_up_n s2 (by omega), x_up_n s3 (by omega), x_up_n s4 (by omega), CP_up2 s5 s1, hq⟩
theorem CSt.ps (hS : CSt h ch D tk fu q ca cb ha) {i : Nat} {P' : xP} {ch' : List (List Nat)} {D' : cD} {P : xP} (hp : x_pg h (pa i) P) (hi : i < 60) (hC : CP (x_ps h (pa i) P') ch' D') : CSt (x_ps h (pa i) P') ch' D' tk fu q ca cb ha := by
  obtain ⟨s1, s2, s3, s4, s5, s6⟩ := hS
  have n8 : pa i ≠ 8 ∧ pa i + 1 ≠ 8 ∧ pa i + 2 ≠ 8 := by unfold pa; split <;> omega
  have := pa_ge i
  exact ⟨x_ps_n s1 (by omega) (by omega) (by omega), x_en_ps hp s2, x_en_ps hp s3, x_ps_n s4 (Ne.symm n8.1) (Ne.symm n8.2.1) (Ne.symm n8.2.2), hC, s6⟩
theorem CI_set (hI : CI ch D bd) {l : Nat} {c1 c2 : List Nat} {i : Nat} (hc : ch[l]? = some (c1 ++ i :: c2)) {x : xE × Bool × List xE × List Nat} (h1 : x.1 = (D i).1) (hT : trK (trS ch (Du D i x))) (hok : ∀ y ∈ x.2.2.1, okE y) (hm : ∀ l', l = l' + 1 → x.2.2.2.length = x.2.2.1.length ∧ ∀ (j b : Nat) (y : xE), x.2.2.1[j]? = some y → x.2.2.2[j]? = some b → ∃ c', ch[l']? = some c' ∧ b ∈ c' ∧ sk (D b).1 = sk y) (h0 : l = 0 → ∀ y ∈ x.2.2.1, ¬ y.2.2.2.2 < 0) : CI ch (Du D i x) bd := by
  obtain ⟨t1, t2, t3, t4, t5, t6, t7, t8⟩ := hI
  have him : i ∈ c1 ++ i :: c2 := List.mem_append_right _ List.mem_cons_self
  have low : ∀ j, (Du D i x j).1 = (D j).1 := fun j => by
    by_cases e : j = i
    · rw [e, Du_s, h1]
    · rw [Du_n e]
  refine ⟨hT, t2, t3, t4, t5, fun l' c hc' j hj => ?_, fun l' c hc' j hj => ?_, fun c hc' j hj => ?_⟩
  · rw [low]
    refine ⟨(t6 l' c hc' j hj).1, ?_⟩
    by_cases e : j = i
    · rw [e, Du_s]; exact hok
    · rw [Du_n e]; exact (t6 l' c hc' j hj).2
  · by_cases e : j = i
    · have hll : l = l' + 1 := nd_other t3 hc hc' him (e ▸ hj)
      obtain ⟨m1, m2⟩ := hm l' hll
      rw [e, Du_s]
      exact ⟨m1, fun k b y hy hb => by obtain ⟨c', z1, z2, z3⟩ := m2 k b y hy hb; exact ⟨c', z1, z2, by rw [low]; exact z3⟩⟩
    · obtain ⟨m1, m2⟩ := t7 l' c hc' j hj
      rw [Du_n e]
      exact ⟨m1, fun k b y hy hb => by obtain ⟨c', z1, z2, z3⟩ := m2 k b y hy hb; exact ⟨c', z1, z2, by rw [low]; exact z3⟩⟩
  · by_cases e : j = i
    · have hll : l = 0 := nd_other t3 hc hc' him (e ▸ hj)
      rw [e, Du_s]
      exact h0 hll
    · rw [Du_n e]
      exact t8 c hc' j hj
theorem Du_low {D : cD} {i : Nat} {x : xE × Bool × List xE × List Nat} (h1 : x.1 = (D i).1) (j : Nat) : (Du D i x j).1 = (D j).1 := by
  by_cases e : j = i
  · rw [e, Du_s, h1]
  · rw [Du_n e]
theorem ci_at {l : Nat} {c1 c2 : List Nat} {i : Nat} (hc : ch[l]? = some (c1 ++ i :: c2)) : (trS ch D)[l]? = some (c1.map (pgS D) ++ pgS D i :: c2.map (pgS D)) := by rw [trS_at hc]; simp
theorem con_bring (d e pb l : Nat) (v : xE) {c1 c2 : List Nat} {i : Nat} (hS : CSt h ch D tk fu q ca cb ha) (hI : CI ch D bd) (hc : ch[l]? = some (c1 ++ i :: c2)) (hC : InC ((c1 ++ i :: c2).map (pgS D)) (sk v) (c1.map (pgS D)) (pgS D i) (c2.map (pgS D))) (hsz : (D i).2.2.1.length < 10) (hvn : sk v ∉ (D i).2.2.1.map sk) (hv0 : 0 < sk v) (he : h.2 e = some (eC v)) (hv : okE v) (hpb : (l = 0 ∧ pb = 0 ∧ ¬ v.2.2.2.2 < 0) ∨ ∃ l' b0 c', l = l' + 1 ∧ pb = pa b0 ∧ b0 < 60 ∧ ch[l']? = some c' ∧ b0 ∈ c' ∧ sk (D b0).1 = sk v) :
    x_Con mX2_bringInto (d + 6) 0 0 [.ref 2, .ref (pa i), .ref e, .ref pb] h (fun rv h' => rv = [.int (bI (sEnt l (sk v) (trS ch D) q).1)] ∧ x_cf h h' ∧ ∃ D', CSt h' ch D' tk fu (sEnt l (sk v) (trS ch D) q).2.2 ca cb ha ∧ CI ch D' bd ∧ trS ch D' = (sEnt l (sk v) (trS ch D) q).2.1 ∧ ∀ j, (D' j).1 = (D j).1) := by
  have him : i ∈ c1 ++ i :: c2 := List.mem_append_right _ List.mem_cons_self
  have hi60 : i < 60 := by have := hI.2.2.2.1 _ _ hc i him; have := hI.2.2.2.2.1; omega
  have hpos : (c1 ++ i :: c2)[c1.length]? = some i := by rw [List.getElem?_append_right (Nat.le_refl _), Nat.sub_self]; rfl
  have hl := ci_at (D := D) hc
  have hC' : InC (c1.map (pgS D) ++ pgS D i :: c2.map (pgS D)) (sk v) (c1.map (pgS D)) (pgS D i) (c2.map (pgS D)) := by simpa using hC
  have okc := hI.2.2.2.2.2.1 l _ hc i him
  have hm0 : 0 < l → ∃ c q, (trS ch D)[l - 1]? = some c ∧ q ∈ c ∧ q.1 = sk v := by
    intro h0
    rcases hpb with ⟨z, -⟩ | ⟨l', b0, c', z1, z2, z3, z4, z5, z6⟩
    · omega
    · exact ⟨_, pgS D b0, by rw [z1, Nat.add_sub_cancel]; exact trS_at z4, List.mem_map.mpr ⟨b0, z5, rfl⟩, z6⟩
  have hsz' : (pgS D i).2.2.length < 10 := by simpa [pgS] using hsz
  have hok := sEnt_ok (q := q) hI.1 hl hC' hsz' hvn hv0 hm0
  -- the words
  obtain ⟨w1, hw1⟩ : ∃ w : Bool × qW, w = (if (D i).2.1 then sW 1 q else (true, q)) := ⟨_, rfl⟩
  have hE : sEnt l (sk v) (trS ch D) q = if w1.1 then (if (sW 11 w1.2).1 then (true, sSet (trS ch D) l (c1.map (pgS D)) [((pgS D i).1, false, insK (sk v) (pgS D i).2.2)] (c2.map (pgS D)), (sW 11 w1.2).2) else (false, sSet (trS ch D) l (c1.map (pgS D)) [((pgS D i).1, false, (pgS D i).2.2)] (c2.map (pgS D)), (sW 11 w1.2).2)) else (false, trS ch D, w1.2) := by
    have hz : zp (sk v) (lvl (trS ch D) l) = (c1.map (pgS D), pgS D i, c2.map (pgS D)) := by rw [lvl_at hl]; exact hC'.zp
    have e1 : (pgS D i).2.1 = (D i).2.1 := rfl
    unfold sEnt
    simp only [hz, e1, ← hw1]
  refine e_enter (by decide) (Nat.le_of_ble_eq_true rfl) ?_
  -- from the eleven words on
  have rest : ∀ (ls : List (Nat × Value)) (h2 : xH), x_lk ls 0 = some (.ref 2) → x_lk ls 1 = some (.ref (pa i)) → x_lk ls 2 = some (.ref e) → x_lk ls 3 = some (.ref pb) → w1.1 = true → CSt h2 ch (Du D i ((D i).1, false, (D i).2.2.1, (D i).2.2.2)) tk fu w1.2 ca cb ha → x_cf h h2 →
      x_E mX2_bringInto (d + 6) 0 0 22 ls [] h2 (fun rv h' => rv = [.int (bI (sEnt l (sk v) (trS ch D) q).1)] ∧ x_cf h h' ∧ ∃ D', CSt h' ch D' tk fu (sEnt l (sk v) (trS ch D) q).2.2 ca cb ha ∧ CI ch D' bd ∧ trS ch D' = (sEnt l (sk v) (trS ch D) q).2.1 ∧ ∀ j, (D' j).1 = (D j).1) := by
    intro ls h2 l0 l1 l2 l3 hw hS2 hf2
    obtain ⟨s1, s2, s3, s4, s5, s6⟩ := id hS2
    have hTS0 := trS_set (D := D) hI.2.2.1 hc ((D i).1, false, (D i).2.2.1, (D i).2.2.2)
    refine e_aload_n dX2_bringInto_22 l0 ?_
    refine e_bipush (v := 11) dX2_bringInto_23 (by decide) ?_
    refine e_V1d dX2_bringInto_25 gX2_80 s1 rfl (by omega) (Nat.le_of_ble_eq_true rfl) rfl rfl (con_setWords (d + 5) 2 11 s1 s6) ?_
    have hS3 := hS2.up2 (tk' := tk) (fu' := fu) (q' := (sW 11 w1.2).2) (ca' := ca) (cb' := cb) (ha' := ha) (qok_sW s6 (by decide))
    have hf3 := hf2.tr (x_cf.up2 (c := tC tk fu (sW 11 w1.2).2.1 (clQ (sW 11 w1.2).2) ca cb ha) s1)
    by_cases e2 : (sW 11 w1.2).1 = true
    · rw [hE, if_pos hw, if_pos e2] at hok ⊢
      refine e_if_ne (tgt := 33) dX2_bringInto_28 (by decide) (fun _ => ?_) (fun z => absurd z (by rw [e2]; decide))
      obtain ⟨P, hp⟩ := hS3.2.2.2.2.1 i hi60
      obtain ⟨q1, q2, q3, q4, q5, q6, q7⟩ := hp.2.2.2 l _ _ hc hpos
      rw [Du_s] at q1 q3 q5 q6 q7
      have he3 := hf3.2.1 e v he
      have hpn : x_pn (x_up h2 2 (tC tk fu (sW 11 w1.2).2.1 (clQ (sW 11 w1.2).2) ca cb ha)) pb := by
        rcases hpb with ⟨-, z, -⟩ | ⟨l', b0, c', z1, z2, z3, z4, z5, z6⟩
        · exact Or.inl z
        · obtain ⟨Pb, hb⟩ := hS3.2.2.2.2.1 b0 z3
          exact Or.inr ⟨Pb.1, by rw [z2]; exact hb.1.1⟩
      refine e_aload_n dX2_bringInto_33 l1 ?_
      refine e_aload_n dX2_bringInto_34 l2 ?_
      refine e_aload_n dX2_bringInto_35 l3 ?_
      refine e_V2d dX2_bringInto_36 gX2_163 hp.1.1 rfl (by omega) (Nat.le_of_ble_eq_true rfl) rfl rfl (con_insert d _ (pa i) e pb v P (D i).2.2.1 hsz hp.1 q1 q6 hp.2.1 hp.2.2.1 he3 hpn) ?_
      refine e_iconst (v := 1) dX2_bringInto_39 (by decide) ?_
      have hkle := cnt_le (od v) (D i).2.2.1
      -- the page behind it
      have hbn : ∃ bls' : List Nat, (∀ (j b : Nat), bls'[j]? = some b → ins P.2.2 (cnt (od v) (D i).2.2.1) (D i).2.2.1.length pb j = pa b) ∧ ∀ l', l = l' + 1 → bls'.length = (D i).2.2.1.length + 1 ∧ ∀ (j b : Nat) (y : xE), (insX (cnt (od v) (D i).2.2.1) v (D i).2.2.1)[j]? = some y → bls'[j]? = some b → ∃ c', ch[l']? = some c' ∧ b ∈ c' ∧ sk (D b).1 = sk y := by
        rcases hpb with ⟨z, -⟩ | ⟨l', b0, c', z1, z2, z3, z4, z5, z6⟩
        · exact ⟨[], fun j b hb => by simp at hb, fun l' e3 => by omega⟩
        · subst z1
          obtain ⟨m1, m2⟩ := hI.2.2.2.2.2.2.1 l' _ hc i him
          refine ⟨insX (cnt (od v) (D i).2.2.1) b0 (D i).2.2.2, ?_, fun l'' e3 => ?_⟩
          · rw [z2]
            exact ins_bl m1 hkle q7
          · have e4 : l'' = l' := by omega
            subst e4
            refine ⟨by rw [insX_len, m1], fun j b y hy hb => ?_⟩
            rw [insX_at hkle] at hy
            rw [insX_at (by omega)] at hb
            by_cases u1 : j < cnt (od v) (D i).2.2.1
            · rw [if_pos u1] at hy hb
              exact m2 j b y hy hb
            · rw [if_neg u1] at hy hb
              by_cases u2 : j = cnt (od v) (D i).2.2.1
              · rw [if_pos u2] at hy hb
                cases hy; cases hb
                exact ⟨c', z4, z5, z6⟩
              · rw [if_neg u2] at hy hb
                exact m2 _ b y hy hb
      obtain ⟨bls', hb1, hb2⟩ := hbn
      have hfe' : x_fe (x_up h2 2 (tC tk fu (sW 11 w1.2).2.1 (clQ (sW 11 w1.2).2) ca cb ha)) (ins P.2.1 (cnt (od v) (D i).2.2.1) (D i).2.2.1.length e) := fun j hj => by
        unfold ins
        split
        · exact ⟨v, he3⟩
        · split
          · exact hp.2.1 _ (by omega)
          · exact hp.2.1 _ hj
      have hfb' : x_fb (x_up h2 2 (tC tk fu (sW 11 w1.2).2.1 (clQ (sW 11 w1.2).2) ca cb ha)) (ins P.2.2 (cnt (od v) (D i).2.2.1) (D i).2.2.1.length pb) := fun j hj => by
        unfold ins
        split
        · exact hpn
        · split
          · exact hp.2.2.1 _ (by omega)
          · exact hp.2.2.1 _ hj
      have hCP' := CP_set hS3.2.2.2.2.1 hi60 hp (n' := (D i).2.2.1.length + 1) (b' := false) (its' := insX (cnt (od v) (D i).2.2.1) v (D i).2.2.1) (bls' := bls') (by rw [insX_len]) hfe' hfb' (ins_es hkle q6 he3) hb1
      have eP : (((D i).2.2.1.length + 1, P.1.2.1, P.1.2.2.1, P.1.2.2.2.1, bI false) : Nat × Nat × Nat × Nat × Int32) = ((D i).2.2.1.length + 1, P.1.2) := by
        have : P.1.2.2.2.2 = bI false := q5
        rw [← this]
      rw [eP, Du_s] at hCP'
      have eD : Du (Du D i ((D i).1, false, (D i).2.2.1, (D i).2.2.2)) i ((D i).1, false, insX (cnt (od v) (D i).2.2.1) v (D i).2.2.1, bls') = Du D i ((D i).1, false, insX (cnt (od v) (D i).2.2.1) v (D i).2.2.1, bls') := by
        funext j
        unfold Du
        split <;> rfl
      rw [eD] at hCP'
      have hTS := trS_set (D := D) hI.2.2.1 hc ((D i).1, false, insX (cnt (od v) (D i).2.2.1) v (D i).2.2.1, bls')
      rw [insX_sk hv okc.2] at hTS
      refine e_iret dX2_bringInto_40 rfl rfl ⟨rfl, hf3.tr (x_cf.ps hp.1 hi60), _, hS3.ps hp.1 hi60 hCP', CI_set hI hc rfl (by rw [hTS]; exact hok.1) (fun y hy => ?_) (fun l' e3 => ⟨by rw [insX_len]; exact (hb2 l' e3).1, (hb2 l' e3).2⟩) (fun e3 y hy => ?_), hTS, Du_low rfl⟩
      · rcases List.mem_append.mp hy with z | z
        · exact okc.2 y (List.mem_of_mem_take z)
        · rcases List.mem_cons.mp z with z | z
          · rw [z]; exact hv
          · exact okc.2 y (List.mem_of_mem_drop z)
      · have hc0 := hc
        rw [e3] at hc0
        have h8 := hI.2.2.2.2.2.2.2 _ hc0 i him
        rcases List.mem_append.mp hy with z | z
        · exact h8 y (List.mem_of_mem_take z)
        · rcases List.mem_cons.mp z with z | z
          · rw [z]
            rcases hpb with ⟨-, -, z2⟩ | ⟨l', b0, c', z1, -⟩
            · exact z2
            · omega
          · exact h8 y (List.mem_of_mem_drop z)
    · rw [hE, if_pos hw, if_neg e2] at hok ⊢
      refine e_if_ne (tgt := 33) dX2_bringInto_28 (by decide) (fun z => absurd (by rw [Bool.not_eq_true] at e2; rw [e2]; rfl) z) (fun _ => ?_)
      refine e_iconst (v := 0) dX2_bringInto_31 (by decide) ?_
      refine e_iret dX2_bringInto_32 rfl rfl ⟨rfl, hf3, _, hS3, CI_set hI hc rfl (by rw [hTS0]; exact hok.1) okc.2 (fun l' e3 => ?_) (fun e3 => ?_), hTS0, Du_low rfl⟩
      · rw [e3] at hc
        exact hI.2.2.2.2.2.2.1 l' _ hc i him
      · have hc0 := hc
        rw [e3] at hc0
        exact hI.2.2.2.2.2.2.2 _ hc0 i him
  obtain ⟨P, hp⟩ := hS.2.2.2.2.1 i hi60
  obtain ⟨q1, q2, q3, q4, q5, q6, q7⟩ := hp.2.2.2 l _ _ hc hpos
  have p0 := hp.1.1
  refine e_aload_n dX2_bringInto_0 rfl ?_
  refine e_get dX2_bringInto_1 fX2_86 p0 rfl ?_
  rw [q5]
  refine e_if_eq (tgt := 22) dX2_bringInto_4 (by decide) (fun z => ?_) (fun z => ?_)
  · have hO := bI_z z
    rw [hO, if_neg Bool.false_ne_true] at hw1
    have eD : Du D i ((D i).1, false, (D i).2.2.1, (D i).2.2.2) = D := by
      funext j
      unfold Du
      split
      · rename_i e3
        rw [e3, ← hO]
      · rfl
    refine rest _ h rfl rfl rfl rfl (by rw [hw1]) ?_ x_cf.rf
    rw [eD, hw1]
    exact hS
  · have hO := bI_nz z
    rw [hO, if_pos rfl] at hw1
    refine e_aload_n dX2_bringInto_7 rfl ?_
    refine e_iconst (v := 1) dX2_bringInto_8 (by decide) ?_
    refine e_V1d dX2_bringInto_9 gX2_80 hS.1 rfl (by omega) (Nat.le_of_ble_eq_true rfl) rfl rfl (con_setWords (d + 5) 2 1 hS.1 hS.2.2.2.2.2) ?_
    rw [← hw1]
    have hS3 := hS.up2 (tk' := tk) (fu' := fu) (q' := w1.2) (ca' := ca) (cb' := cb) (ha' := ha) (by rw [hw1]; exact qok_sW hS.2.2.2.2.2 (by decide))
    have hf3 := x_cf.up2 (c := tC tk fu w1.2.1 (clQ w1.2) ca cb ha) hS.1
    by_cases e1 : w1.1 = true
    · refine e_if_ne (tgt := 17) dX2_bringInto_12 (by decide) (fun _ => ?_) (fun z => absurd z (by rw [e1]; decide))
      obtain ⟨P3, hp3⟩ := hS3.2.2.2.2.1 i hi60
      obtain ⟨r1, r2, r3, r4, r5, r6, r7⟩ := hp3.2.2.2 l _ _ hc hpos
      have p30 := hp3.1.1
      refine e_aload_n dX2_bringInto_17 rfl ?_
      refine e_iconst (v := 0) dX2_bringInto_18 (by decide) ?_
      refine e_put dX2_bringInto_19 fX2_86 p30 ⟨rfl, rfl⟩ ?_
      have hCP' := CP_set hS3.2.2.2.2.1 hi60 hp3 (n' := P3.1.1) (b' := false) (E' := P3.2.1) (B' := P3.2.2) (its' := (D i).2.2.1) (bls' := (D i).2.2.2) r1 hp3.2.1 hp3.2.2.1 r6 r7
      refine e_heq (h' := x_ps _ (pa i) ((P3.1.1, P3.1.2.1, P3.1.2.2.1, P3.1.2.2.2.1, bI false), P3.2.1, P3.2.2)) ?_ (rest _ _ rfl rfl rfl rfl e1 (hS3.ps hp3.1 hi60 hCP') (hf3.tr (x_cf.ps hp3.1 hi60)))
      unfold x_ps
      rw [x_up_id hp3.1.2.1, x_up_id hp3.1.2.2]
      rfl
    · refine e_if_ne (tgt := 17) dX2_bringInto_12 (by decide) (fun z => absurd (by rw [Bool.not_eq_true] at e1; rw [e1]; rfl) z) (fun _ => ?_)
      refine e_iconst (v := 0) dX2_bringInto_15 (by decide) ?_
      rw [hE, if_neg e1]
      exact e_iret dX2_bringInto_16 rfl rfl ⟨rfl, hf3, D, hS3, hI, rfl, fun _ => rfl⟩
end CB
