/-! the class: word, clear, count, level -/
section CLV
variable {h : xH} {S : Tr} {tk : Nat} {q : qW} {cv : xE} {cb : Bool} {hv : xE}
theorem con_word (d : Nat) (k : Int32) (hL : CL h S tk q cv cb hv) : x_D mX2_word d 0 0 [.ref 2, .int k] h [.long (wd hv k)] h := by
  obtain ⟨ch, D, fu, ca, ha, hS, hI, hT, hcv, hok, hhv⟩ := hL
  have s1 := hS.1
  refine e_enter (by decide) (Nat.le_of_ble_eq_true rfl) ?_
  refine e_iload_n dX2_word_0 rfl ?_
  by_cases h0 : k = 0
  · subst h0
    refine e_tableIn (tgt := 32) dX2_word_1 (by decide) (by decide) rfl (by decide) ?_
    refine e_aload_n dX2_word_32 rfl ?_
    refine e_get dX2_word_33 fX2_57 s1 rfl ?_
    refine e_get dX2_word_36 fX2_111 hhv rfl ?_
    exact e_lret dX2_word_39 rfl ⟨by simp [wd], rfl⟩
  by_cases h1 : k = 1
  · subst h1
    refine e_tableIn (tgt := 40) dX2_word_1 (by decide) (by decide) rfl (by decide) ?_
    refine e_aload_n dX2_word_40 rfl ?_
    refine e_get dX2_word_41 fX2_57 s1 rfl ?_
    refine e_get dX2_word_44 fX2_115 hhv rfl ?_
    exact e_lret dX2_word_47 rfl ⟨by simp [wd], rfl⟩
  by_cases h2 : k = 2
  · subst h2
    refine e_tableIn (tgt := 48) dX2_word_1 (by decide) (by decide) rfl (by decide) ?_
    refine e_aload_n dX2_word_48 rfl ?_
    refine e_get dX2_word_49 fX2_57 s1 rfl ?_
    refine e_get dX2_word_52 fX2_118 hhv rfl ?_
    exact e_lret dX2_word_55 rfl ⟨by simp [wd], rfl⟩
  by_cases h3 : k = 3
  · subst h3
    refine e_tableIn (tgt := 56) dX2_word_1 (by decide) (by decide) rfl (by decide) ?_
    refine e_aload_n dX2_word_56 rfl ?_
    refine e_get dX2_word_57 fX2_57 s1 rfl ?_
    refine e_get dX2_word_60 fX2_121 hhv rfl ?_
    exact e_lret dX2_word_63 rfl ⟨by simp [wd], rfl⟩
  · refine e_tableOut (tgt := 64) dX2_word_1 (k03 h0 h1 h2 h3) (by decide) ?_
    refine e_lconst (v := 0) dX2_word_64 (by decide) ?_
    exact e_lret dX2_word_65 rfl ⟨by simp [wd, h0, h1, h2, h3], rfl⟩
theorem con_clear (d : Nat) (hL : CL h S tk q cv cb hv) (hN : xN h) (h187 : 187 ≤ h.1) : x_Con mX2_clear (d + 1) 0 0 [.ref 2] h (fun rv h' => rv = [] ∧ x_cg h h' ∧ CL h' S0 1 (q.1 + 3, q.2) lowE false hv) := by
  obtain ⟨ch, D, fu, ca, ha, hS, hI, hT, hcv, hok, hhv⟩ := hL
  obtain ⟨s1, s2, s3, s4, s5, s6⟩ := id hS
  obtain ⟨P, hp⟩ := s5 0 (by omega)
  have hp1 : x_pg h 5 P := hp.1
  refine e_enter (by decide) (Nat.le_of_ble_eq_true rfl) ?_
  refine e_aload_n dX2_clear_0 rfl ?_
  refine e_get dX2_clear_1 fX2_29 s1 rfl ?_
  refine e_iconst (v := 0) dX2_clear_4 (by decide) ?_
  refine e_aload_n dX2_clear_5 rfl ?_
  refine e_get dX2_clear_6 fX2_14 s1 rfl ?_
  refine e_V2d dX2_clear_9 gX2_127 hp1.1 rfl (by omega) (Nat.le_of_ble_eq_true rfl) rfl rfl (con_reset d h 5 0 3 P hp1) ?_
  have hf2 : x_cf h (x_ps h 5 ((0, 0, 3, 0, 0), P.2)) := x_cf.ps (i := 0) hp1 (by omega)
  have en : ∀ a v, h.2 a = some (eC v) → (x_ps h 5 ((0, 0, 3, 0, 0), P.2)).2 a = some (eC v) := fun a v => x_en_ps hp1
  have t1 : (x_ps h 5 ((0, 0, 3, 0, 0), P.2)).2 2 = some (tC tk fu q.1 (clQ q) ca cb ha) := x_ps_n s1 (by omega) (by omega) (by omega)
  have hS2 : CSt (x_ps h 5 ((0, 0, 3, 0, 0), P.2)) [[0]] (Du D 0 (lowE, false, [], [])) tk fu q ca cb ha := by
    refine hS.ps (i := 0) hp1 (by omega) (CP_of [0] s5 en (fun b => x_pn_ps hp1) (fun j hj hn R hR => x_pg_ps hp1 hR (fun z => hn (by rw [pa_inj (j := 0) z]; simp))) (fun j hj hn l c k hc hk => ?_) (fun j hj hj60 => ?_))
    · exfalso
      cases l with
      | zero =>
        have e : [0] = c := Option.some.inj hc
        rw [← e] at hk
        exact hn (List.mem_of_getElem? hk)
      | succ l => simp at hc
    · have e := List.mem_singleton.mp hj
      subst e
      refine ⟨_, x_ps_pg _ _ _, fun k hk => ?_, fun k hk => x_pn_ps hp1 (hp.2.2.1 k hk), fun l c k hc hk => ?_⟩
      · obtain ⟨v, hv⟩ := hp.2.1 k hk
        exact ⟨v, en _ v hv⟩
      · cases l with
        | succ l => simp at hc
        | zero =>
          have e : [0] = c := Option.some.inj hc
          subst e
          have hk0 : k = 0 := by
            cases k with
            | zero => rfl
            | succ k => simp at hk
          subst hk0
          rw [Du_s]
          exact ⟨rfl, rfl, en _ _ s2, rfl, rfl, fun j v hv => by simp at hv, fun j b hb => by simp at hb⟩
  have hT2 : trS [[0]] (Du D 0 (lowE, false, [], [])) = S0 := by
    unfold trS S0 pgS
    simp only [List.map_cons, List.map_nil, Du_s, sk_low]
  have hI2 : CI [[0]] (Du D 0 (lowE, false, [], [])) 1 := by
    refine ⟨by rw [hT2]; exact trK_0, ⟨0, rfl, rfl⟩, by simp, fun l c hc i hi => ?_, by omega, fun l c hc i hi => ?_, fun l c hc => by simp at hc, fun c hc i hi x hx => ?_⟩
    · cases l with
      | succ l => simp at hc
      | zero =>
        have e : [0] = c := Option.some.inj hc
        rw [← e] at hi
        have := List.mem_singleton.mp hi
        omega
    · cases l with
      | succ l => simp at hc
      | zero =>
        have e : [0] = c := Option.some.inj hc
        rw [← e] at hi
        rw [List.mem_singleton.mp hi, Du_s]
        exact ⟨ok_low, fun x hx => by cases hx⟩
    · have e : [0] = c := Option.some.inj hc
      rw [← e] at hi
      rw [List.mem_singleton.mp hi, Du_s] at hx
      cases hx
  have hhv2 := en _ _ hhv
  generalize x_ps h 5 ((0, 0, 3, 0, 0), P.2) = h2 at hf2 t1 hS2 hhv2 ⊢
  refine e_aload_n dX2_clear_12 rfl ?_
  refine e_iconst (v := 1) dX2_clear_13 (by decide) ?_
  refine e_putT (fs' := tL 1 fu q.1 (clQ q) ca cb ha) dX2_clear_14 fX2_37 t1 (by exact ⟨rfl, rfl⟩) rfl rfl ?_
  have t2 := x_up_s h2 2 (.inr (2, tL 1 fu q.1 (clQ q) ca cb ha))
  refine e_aload_n dX2_clear_17 rfl ?_
  refine e_iconst (v := 1) dX2_clear_18 (by decide) ?_
  refine e_putT (fs' := tL 1 1 q.1 (clQ q) ca cb ha) dX2_clear_19 fX2_41 t2 (by exact ⟨rfl, rfl⟩) rfl rfl ?_
  rw [x_up_up]
  have t3 := x_up_s h2 2 (.inr (2, tL 1 1 q.1 (clQ q) ca cb ha))
  refine e_aload_n dX2_clear_22 rfl ?_
  refine e_dup dX2_clear_23 rfl ?_
  refine e_get dX2_clear_24 fX2_44 t3 rfl ?_
  refine e_iconst (v := 3) dX2_clear_27 (by decide) ?_
  refine e_iadd dX2_clear_28 ?_
  refine e_putT (fs' := tL 1 1 (q.1 + 3) (clQ q) ca cb ha) dX2_clear_29 fX2_44 t3 (by exact ⟨rfl, rfl⟩) rfl rfl ?_
  rw [x_up_up]
  have t4 : (x_up h2 2 (.inr (2, tL 1 1 (q.1 + 3) (clQ q) ca cb ha))).2 2 = some (tC 1 1 (q.1 + 3) (clQ q) ca cb ha) := x_up_s _ _ _
  refine e_aload_n dX2_clear_32 rfl ?_
  refine e_aload_n dX2_clear_33 rfl ?_
  refine e_get dX2_clear_34 fX2_14 t4 rfl ?_
  refine e_iconst (v := 0) dX2_clear_37 (by decide) ?_
  refine e_V2d dX2_clear_38 gX2_89 t4 rfl (by omega) (Nat.le_of_ble_eq_true rfl) rfl rfl (con_moveCursor d 2 3 false t4) ?_
  rw [x_up_up]
  have hf5 := x_cf.up2 (c := tC 1 1 (q.1 + 3) (clQ q) 3 false ha) t1
  have hS5 := hS2.up2 (tk' := 1) (fu' := 1) (q' := (q.1 + 3, q.2)) (ca' := 3) (cb' := false) (ha' := ha) s6
  exact e_ret dX2_clear_41 rfl ⟨rfl, ((x_cg.rf hN).cf h187 hf2).cf h187 hf5, [[0]], _, 1, 3, ha, hS5, hI2, hT2, hS5.2.1, ok_low, hf5.2.1 _ _ hhv2⟩
theorem con_leftmost (d l : Nat) {ch : List (List Nat)} {D : cD} {fu ca ha i : Nat} {c2 : List Nat} (hS : CSt h ch D tk fu q ca cb ha) (hI : CI ch D tk) (hc : ch[l]? = some (i :: c2)) : x_D mX2_leftmostPage (d + 7) 0 0 [.ref 2, .int (nI l)] h [.ref (pa i)] h := by
  have s1 := hS.1
  have hk := hI.1.1 l _ (trS_at hc)
  have hC : InC (([] ++ i :: c2).map (pgS D)) (sk lowE) ([].map (pgS D)) (pgS D i) (c2.map (pgS D)) := by
    obtain ⟨p, t', ep, hp0⟩ := hk.1
    have e1 : pgS D i = p := (List.cons.inj ep).1
    refine ⟨rfl, by rw [sk_low, e1, hp0]; exact Nat.le_refl _, fun q hq => (by cases hq), fun q hq => ?_⟩
    have hw := (List.pairwise_cons.mp hk.2.1).1 q hq
    rw [sk_low]
    have := hw.1
    omega
  refine e_enter (by decide) (Nat.le_of_ble_eq_true rfl) ?_
  refine e_aload_n dX2_leftmostPage_0 rfl ?_
  refine e_iload_n dX2_leftmostPage_1 rfl ?_
  refine e_aload_n dX2_leftmostPage_2 rfl ?_
  refine e_get dX2_leftmostPage_3 fX2_14 s1 rfl ?_
  refine e_V2d dX2_leftmostPage_6 gX2_60 s1 rfl (by omega) (Nat.le_of_ble_eq_true rfl) rfl rfl (con_pic d 2 3 l lowE s1 hS.2.2.2.2.1 hI hS.2.1 ok_low (c1 := []) hc hC) ?_
  exact e_aret dX2_leftmostPage_9 rfl (Or.inl ⟨_, rfl⟩) ⟨rfl, rfl⟩
def nxP (c : List Nat) (t : Nat) : Nat := match c[t]? with
  | some j => pa j
  | none => 0
theorem lvc_lo (d l W : Nat) {ch : List (List Nat)} {D : cD} {fu ca ha : Nat} {c : List Nat} (hW : W < 2147483648) (hS : CSt h ch D tk fu q ca cb ha) (hI : CI ch D tk) (hc : ch[l]? = some c) :
    ∀ (k t : Nat), t + k = c.length → (∀ t', t' < t → t' + 2 ≠ W) → x_E mX2_level d 0 0 33 [(5, .ref (nxP c t)), (4, .int (nI (nC ((c.take t).map (pgS D))))), (3, .int (nI t)), (2, .int (nI W))] [] h (fun rv h' => rv = [.int (if nI W = 0 then nI c.length else if nI W = 1 then nI (nC (c.map (pgS D))) else match (c.map (pgS D))[W - 2]? with
      | some g => nI g.2.2.length
      | none => -1)] ∧ h' = h) := by
  have hlen := chain_le hI hc
  intro k
  induction k with
  | zero =>
    intro t ht hno
    have e0 : t = c.length := by omega
    subst e0
    have e1 : c.take c.length = c := List.take_length
    have e2 : nxP c c.length = 0 := by unfold nxP; rw [List.getElem?_eq_none (Nat.le_refl _)]
    rw [e1, e2]
    have fin : x_E mX2_level d 0 0 80 [(4, .int (nI (nC (c.map (pgS D))))), (3, .int (nI c.length)), (2, .int (nI W))] [] h (fun rv h' => rv = [.int (if nI W = 0 then nI c.length else if nI W = 1 then nI (nC (c.map (pgS D))) else match (c.map (pgS D))[W - 2]? with
      | some g => nI g.2.2.length
      | none => -1)] ∧ h' = h) := by
      refine e_iload_n dX2_level_80 rfl ?_
      refine e_if_ne (tgt := 86) dX2_level_81 (by decide) (fun z => ?_) (fun z => ?_)
      · rw [if_neg z]
        refine e_iload_n dX2_level_86 rfl ?_
        refine e_iconst (v := 1) dX2_level_87 (by decide) ?_
        refine e_icmp_ne (tgt := 96) dX2_level_88 (by decide) (fun z2 => ?_) (fun z2 => ?_)
        · rw [if_neg z2]
          have hW2 : 2 ≤ W := by
            rcases Nat.lt_or_ge W 2 with y | y
            · have : W = 0 ∨ W = 1 := by omega
              rcases this with rfl | rfl
              · exact absurd rfl z
              · exact absurd rfl z2
            · exact y
          have hge : c.length ≤ W - 2 := by
            rcases Nat.lt_or_ge (W - 2) c.length with y | y
            · exact absurd (by omega) (hno (W - 2) y)
            · exact y
          rw [List.getElem?_eq_none (by rw [List.length_map]; exact hge)]
          refine e_iconst (v := (-1)) dX2_level_96 (by decide) ?_
          exact e_iret dX2_level_97 rfl rfl ⟨rfl, rfl⟩
        · rw [if_pos z2]
          refine e_iload dX2_level_91 rfl ?_
          refine e_goto (tgt := 97) dX2_level_93 (by decide) ?_
          exact e_iret dX2_level_97 rfl rfl ⟨rfl, rfl⟩
      · rw [if_pos z]
        refine e_iload_n dX2_level_84 rfl ?_
        exact e_iret dX2_level_85 rfl rfl ⟨rfl, rfl⟩
    refine e_iload_n dX2_level_33 rfl ?_
    refine e_bipush (v := 60) dX2_level_34 (by decide) ?_
    refine e_icmp_ge (tgt := 80) dX2_level_36 (by decide) (fun _ => e_loc [4, 3, 2] rfl fin) (fun _ => ?_)
    refine e_aload dX2_level_39 rfl ?_
    exact e_ifnull (tgt := 80) dX2_level_41 (by decide) (fun _ => e_loc [4, 3, 2] rfl fin) (fun z => absurd rfl z)
  | succ k ih =>
    intro t ht hno
    have hlt : t < c.length := by omega
    obtain ⟨j, hj⟩ : ∃ j, c[t]? = some j := ⟨_, List.getElem?_eq_getElem hlt⟩
    have hjm := List.mem_of_getElem? hj
    have hj60 : j < 60 := by have := hI.2.2.2.1 _ _ hc j hjm; have := hI.2.2.2.2.1; omega
    have e2 : nxP c t = pa j := by unfold nxP; rw [hj]
    rw [e2]
    obtain ⟨P, hp⟩ := hS.2.2.2.2.1 j hj60
    obtain ⟨q1, q2, q3, q4, q5, q6, q7⟩ := hp.2.2.2 l _ _ hc hj
    have p0 := hp.1.1
    have hg : (c.map (pgS D))[t]? = some (pgS D j) := by rw [List.getElem?_map, hj]; rfl
    refine e_iload_n dX2_level_33 rfl ?_
    refine e_bipush (v := 60) dX2_level_34 (by decide) ?_
    refine e_icmp_ge (tgt := 80) dX2_level_36 (by decide) (fun z => absurd z (nI_ge (b := 60) (by omega) (by decide))) (fun _ => ?_)
    refine e_aload dX2_level_39 rfl ?_
    refine e_ifnull (tgt := 80) dX2_level_41 (by decide) (fun z => absurd z (pa_ne j)) (fun _ => ?_)
    refine e_iload_n dX2_level_44 rfl ?_
    refine e_iload_n dX2_level_45 rfl ?_
    refine e_iconst (v := 2) dX2_level_46 (by decide) ?_
    refine e_isub dX2_level_47 ?_
    refine e_icmp_ne (tgt := 57) dX2_level_48 (by decide) (fun z => ?_) (fun z => ?_)
    · have hne : t + 2 ≠ W := fun y => z ((sub2 hW (by omega)).mpr y)
      refine e_iinc dX2_level_57 rfl rfl (by decide) rfl ?_
      refine e_iload dX2_level_60 rfl ?_
      refine e_aload dX2_level_62 rfl ?_
      refine e_get dX2_level_64 fX2_97 p0 rfl ?_
      refine e_iadd dX2_level_67 ?_
      refine e_istore dX2_level_68 (by decide) rfl ?_
      refine e_aload dX2_level_70 rfl ?_
      refine e_get dX2_level_72 fX2_100 p0 rfl ?_
      refine e_astore dX2_level_75 (by decide) rfl ?_
      refine e_goto (tgt := 33) dX2_level_77 (by decide) ?_
      have e3 : nxP c (t + 1) = P.1.2.2.2.1 := by rw [q4]; rfl
      have e4 : c.take (t + 1) = c.take t ++ [j] := by rw [List.take_add_one, hj]; rfl
      have hk := ih (t + 1) (by omega) (fun t' ht' => by
        rcases Nat.lt_or_ge t' t with y | y
        · exact hno t' y
        · have : t' = t := by omega
          rw [this]; exact hne)
      have e5 : nC ((c.take (t + 1)).map (pgS D)) = nC ((c.take t).map (pgS D)) + P.1.1 := by
        rw [e4, List.map_append, nC_app, q1]
        simp [nC, pgS]
      rw [e3, e5, ← nI_add, ← nI_1] at hk
      exact e_loc [5, 4, 3, 2] rfl hk
    · have hW2 : t + 2 = W := (sub2 hW (by omega)).mp z
      refine e_aload dX2_level_51 rfl ?_
      refine e_get dX2_level_53 fX2_97 p0 rfl ?_
      refine e_iret dX2_level_56 rfl rfl ⟨?_, rfl⟩
      rw [if_neg (fun y => by have := (nI_eq (b := 0) (by omega) (by omega)).mp y; omega), if_neg (fun y => by have := (nI_eq (b := 1) (by omega) (by omega)).mp y; omega), ← hW2, Nat.add_sub_cancel, hg, q1]
      simp [pgS]
theorem con_level (d : Nat) (l what : Int32) (hL : CL h S tk q cv cb hv) : x_D mX2_level (d + 8) 0 0 [.ref 2, .int l, .int what] h [.int (sLev S l what)] h := by
  obtain ⟨ch, D, fu, ca, ha, hS, hI, hT, hcv, hok, hhv⟩ := hL
  subst hT
  have s1 := hS.1
  obtain ⟨n, hn, hroot⟩ := hI.2.1
  obtain ⟨h30, -, -⟩ := ch_len hI
  obtain ⟨P0, hp0⟩ := hS.2.2.2.2.1 0 (by omega)
  have q02 := (hp0.2.2.2 n _ 0 hroot rfl).2.1
  have p00 : h.2 5 = some (pgC 5 P0.1) := hp0.1.1
  refine e_enter (by decide) (Nat.le_of_ble_eq_true rfl) ?_
  have bad : (l < 0 ∨ nI (trS ch D).length ≤ l ∨ what < 0) → x_E mX2_level (d + 8) 0 0 19 [] [] h (fun rv h' => rv = [.int (sLev (trS ch D) l what)] ∧ h' = h) := by
    intro z
    refine e_iconst (v := (-1)) dX2_level_19 (by decide) ?_
    exact e_iret dX2_level_20 rfl rfl ⟨by unfold sLev; rw [if_pos z], rfl⟩
  refine e_iload_n dX2_level_0 rfl ?_
  refine e_if_lt (tgt := 19) dX2_level_1 (by decide) (fun c1 => e_loc [] rfl (bad (Or.inl c1))) (fun c1 => ?_)
  obtain ⟨L, hL1, hL2⟩ := nI_of c1
  subst hL2
  refine e_iload_n dX2_level_4 rfl ?_
  refine e_aload_n dX2_level_5 rfl ?_
  refine e_get dX2_level_6 fX2_29 s1 rfl ?_
  refine e_get dX2_level_9 fX2_131 p00 rfl ?_
  rw [q02]
  refine e_icmp_gt (tgt := 19) dX2_level_12 (by decide) (fun c2 => e_loc [] rfl (bad (Or.inr (Or.inl ?_)))) (fun c2 => ?_)
  · rw [trS_len, hn]
    rcases Nat.lt_or_ge n L with y | y
    · exact nI_le (by omega) hL1
    · exact absurd c2 (nI_nlt y (by omega))
  have hLn : L ≤ n := by
    rcases Nat.lt_or_ge n L with y | y
    · exact absurd (nI_lt y hL1) c2
    · exact y
  have c2' : ¬ nI (trS ch D).length ≤ nI L := nI_ge (by rw [trS_len]; omega) (by rw [trS_len]; omega)
  refine e_iload_n dX2_level_15 rfl ?_
  refine e_if_ge (tgt := 21) dX2_level_16 (by decide) (fun c3 => ?_) (fun c3 => e_loc [] rfl (bad (Or.inr (Or.inr (Int32.not_le.mp c3)))))
  obtain ⟨W, hW1, hW2⟩ := nI_of (Int32.not_lt.mpr c3)
  subst hW2
  obtain ⟨c, hc⟩ : ∃ c, ch[L]? = some c := ⟨_, List.getElem?_eq_getElem (by omega)⟩
  have hz : sLev (trS ch D) (nI L) (nI W) = if nI W = 0 then nI c.length else if nI W = 1 then nI (nC (c.map (pgS D))) else match (c.map (pgS D))[W - 2]? with
    | some g => nI g.2.2.length
    | none => -1 := by
    unfold sLev
    rw [if_neg (fun z => z.elim c1 (fun z => z.elim c2' (fun z => absurd c3 (Int32.not_le.mpr z)))), nI_clamp hL1, nI_clamp hW1, lvl_at (trS_at hc), List.length_map]
    rfl
  rw [hz]
  obtain ⟨i, c', hcc⟩ : ∃ i c', c = i :: c' := by
    obtain ⟨p, t', ep, -⟩ := (hI.1.1 L _ (trS_at hc)).1
    cases c with
    | nil => simp at ep
    | cons i c' => exact ⟨i, c', rfl⟩
  refine e_iconst (v := 0) dX2_level_21 (by decide) ?_
  refine e_istore_n dX2_level_22 (by decide) rfl ?_
  refine e_iconst (v := 0) dX2_level_23 (by decide) ?_
  refine e_istore dX2_level_24 (by decide) rfl ?_
  refine e_aload_n dX2_level_26 rfl ?_
  refine e_iload_n dX2_level_27 rfl ?_
  refine e_V1d dX2_level_28 gX2_107 s1 rfl (by omega) (Nat.le_of_ble_eq_true rfl) rfl rfl (con_leftmost d L hS hI (by rw [← hcc]; exact hc)) ?_
  refine e_astore dX2_level_31 (by decide) rfl ?_
  have kk := lvc_lo (d + 8) L W hW1 hS hI hc c.length 0 (by omega) (fun t' ht' => absurd ht' (by omega))
  have e1 : nxP c 0 = pa i := by rw [hcc]; rfl
  rw [e1] at kk
  exact e_loc [5, 4, 3, 2] rfl kk
theorem con_count (d : Nat) (k : Int32) (hL : CL h S tk q cv cb hv) : x_D mX2_count (d + 9) 0 0 [.ref 2, .int k] h [.int (if k = 0 then nI S.length else if k = 1 then nI tk else if k = 2 then q.1 else if k = 3 then sLev S 0 1 else -1)] h := by
  have hL0 := hL
  obtain ⟨ch, D, fu, ca, ha, hS, hI, hT, hcv, hok, hhv⟩ := hL
  have s1 := hS.1
  obtain ⟨n, hn, hroot⟩ := hI.2.1
  obtain ⟨P0, hp0⟩ := hS.2.2.2.2.1 0 (by omega)
  have q02 := (hp0.2.2.2 n _ 0 hroot rfl).2.1
  have p00 : h.2 5 = some (pgC 5 P0.1) := hp0.1.1
  refine e_enter (by decide) (Nat.le_of_ble_eq_true rfl) ?_
  refine e_iload_n dX2_count_0 rfl ?_
  by_cases h0 : k = 0
  · subst h0
    refine e_tableIn (tgt := 32) dX2_count_1 (by decide) (by decide) rfl (by decide) ?_
    refine e_aload_n dX2_count_32 rfl ?_
    refine e_get dX2_count_33 fX2_29 s1 rfl ?_
    refine e_get dX2_count_36 fX2_131 p00 rfl ?_
    refine e_iconst (v := 1) dX2_count_39 (by decide) ?_
    refine e_iadd dX2_count_40 ?_
    rw [q02, nI_1]
    exact e_iret dX2_count_41 rfl rfl ⟨by rw [if_pos rfl, ← hT, trS_len, hn], rfl⟩
  by_cases h1 : k = 1
  · subst h1
    refine e_tableIn (tgt := 42) dX2_count_1 (by decide) (by decide) rfl (by decide) ?_
    refine e_aload_n dX2_count_42 rfl ?_
    refine e_get dX2_count_43 fX2_37 s1 rfl ?_
    exact e_iret dX2_count_46 rfl rfl ⟨by simp, rfl⟩
  by_cases h2 : k = 2
  · subst h2
    refine e_tableIn (tgt := 47) dX2_count_1 (by decide) (by decide) rfl (by decide) ?_
    refine e_aload_n dX2_count_47 rfl ?_
    refine e_get dX2_count_48 fX2_44 s1 rfl ?_
    exact e_iret dX2_count_51 rfl rfl ⟨by simp, rfl⟩
  by_cases h3 : k = 3
  · subst h3
    refine e_tableIn (tgt := 52) dX2_count_1 (by decide) (by decide) rfl (by decide) ?_
    refine e_aload_n dX2_count_52 rfl ?_
    refine e_iconst (v := 0) dX2_count_53 (by decide) ?_
    refine e_iconst (v := 1) dX2_count_54 (by decide) ?_
    refine e_V2d dX2_count_55 gX2_134 s1 rfl (by omega) (Nat.le_of_ble_eq_true rfl) rfl rfl (con_level d 0 1 hL0) ?_
    exact e_iret dX2_count_58 rfl rfl ⟨by simp, rfl⟩
  · refine e_tableOut (tgt := 59) dX2_count_1 (k03 h0 h1 h2 h3) (by decide) ?_
    refine e_iconst (v := (-1)) dX2_count_59 (by decide) ?_
    exact e_iret dX2_count_60 rfl rfl ⟨by simp [h0, h1, h2, h3], rfl⟩
end CLV
