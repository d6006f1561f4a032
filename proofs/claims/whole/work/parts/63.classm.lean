/-! the class: remove, seek, first, last, charge, word, place, clear -/
def delX {α : Type} (k : Nat) (l : List α) : List α := l.take k ++ l.drop (k + 1)
theorem delX_len {α : Type} {k : Nat} {l : List α} (hk : k < l.length) : (delX k l).length + 1 = l.length := by
  simp only [delX, List.length_append, List.length_take, List.length_drop]
  omega
theorem delX_at {α : Type} {k : Nat} {l : List α} (hk : k < l.length) (j : Nat) : (delX k l)[j]? = if j < k then l[j]? else l[j + 1]? := by
  unfold delX
  by_cases h1 : j < k
  · rw [if_pos h1, List.getElem?_append_left (by rw [List.length_take]; omega), List.getElem?_take, if_pos h1]
  · rw [if_neg h1, List.getElem?_append_right (by rw [List.length_take]; omega), List.length_take, show min k l.length = k by omega, List.getElem?_drop]
    congr 1
    omega
theorem delX_mem {α : Type} {k : Nat} {l : List α} {x : α} (h : x ∈ delX k l) : x ∈ l := by
  rcases List.mem_append.mp h with z | z
  · exact List.mem_of_mem_take z
  · exact List.mem_of_mem_drop z
theorem delX_sk {v : xE} (hv : okE v) : ∀ {its : List xE}, (∀ x ∈ its, okE x) → its.Pairwise (fun a b => od a < od b) → v ∈ its → (delX (cnt (od v) its) its).map sk = (its.map sk).filter (fun x => decide (x ≠ sk v)) := by
  intro its
  induction its with
  | nil => intro _ _ h; cases h
  | cons a t ih =>
    intro ok hw hm
    have hw' := List.pairwise_cons.mp hw
    have ha := ok a List.mem_cons_self
    unfold cnt
    rcases Nat.lt_trichotomy (od a) (od v) with z | z | z
    · rw [if_pos z]
      have hne : v ≠ a := fun e => by rw [e] at z; omega
      have hm' : v ∈ t := by
        rcases List.mem_cons.mp hm with e | e
        · exact absurd e hne
        · exact e
      have := ih (fun x hx => ok x (List.mem_cons_of_mem _ hx)) hw'.2 hm'
      have hs := (sk_lt ha hv).mpr z
      simp only [delX, List.take_succ_cons, List.drop_succ_cons, List.cons_append, List.map_cons] at this ⊢
      rw [this, List.filter_cons, if_pos (by simp; omega)]
    · have e := od_inj z
      subst e
      rw [if_neg (by omega)]
      simp only [delX, List.take_zero, List.nil_append, List.drop_succ_cons, List.drop_zero, List.map_cons, List.filter_cons]
      rw [if_neg (by simp)]
      symm
      rw [List.filter_eq_self]
      intro x hx
      obtain ⟨y, hy, e⟩ := List.mem_map.mp hx
      have := (sk_lt ha (ok y (List.mem_cons_of_mem _ hy))).mpr (hw'.1 y hy)
      simp
      omega
    · exfalso
      rcases List.mem_cons.mp hm with e | e
      · rw [e] at z; omega
      · have := hw'.1 v e
        omega
section CM
variable {h : xH} {S : Tr} {tk : Nat} {q : qW} {cv : xE} {cb : Bool} {hv : xE}
theorem con_remove_neg (d : Nat) (e : xE) (hneg : e.2.2.2.2 < 0) : x_D mX2_remove d 1 5 [.ref 2, .long e.1, .long e.2.1, .long e.2.2.1, .long e.2.2.2.1, .int e.2.2.2.2] h [.int 0] h := by
  refine e_enter (by decide) (Nat.le_of_ble_eq_true rfl) ?_
  refine e_iload dX2_remove_0 rfl ?_
  refine e_if_ge (tgt := 7) dX2_remove_2 (by decide) (fun c => absurd hneg (Int32.not_lt.mpr c)) (fun _ => ?_)
  refine e_iconst (v := 0) dX2_remove_5 (by decide) ?_
  exact e_iret dX2_remove_6 rfl rfl ⟨rfl, rfl⟩
theorem con_remove_no (d : Nat) (e : xE) (hL : CL h S tk q cv cb hv) (hN : xN h) (h187 : 187 ≤ h.1) (hpos : ¬ e.2.2.2.2 < 0) (hin : ¬ inI S 0 (od e + 1)) : x_Con mX2_remove (d + 8) 1 5 [.ref 2, .long e.1, .long e.2.1, .long e.2.2.1, .long e.2.2.2.1, .int e.2.2.2.2] h (fun rv h' => rv = [.int 0] ∧ x_cg h h' ∧ CL h' S tk q cv cb hv) := by
  obtain ⟨ch, D, fu, ca, ha, hS, hI, hT, hcv, hok, hhv⟩ := hL
  obtain ⟨ok, se⟩ := ok_pos hpos
  have hx := x_ext.nw (c := eC e) hN
  have hS2 := hS.ext hx
  have he : (x_nw h (eC e)).2 h.1 = some (eC e) := x_nw_s _ _
  obtain ⟨c1, i, c2, hc, hC⟩ := hI.ex (l := 0) (by obtain ⟨n, hn, -⟩ := hI.2.1; omega) (sk e)
  have him : i ∈ c1 ++ i :: c2 := List.mem_append_right _ List.mem_cons_self
  have hpos' : (c1 ++ i :: c2)[c1.length]? = some i := by rw [List.getElem?_append_right (Nat.le_refl _), Nat.sub_self]; rfl
  have hi60 : i < 60 := by have := hI.2.2.2.1 _ _ hc i him; have := hI.2.2.2.2.1; omega
  obtain ⟨P, hp⟩ := hS2.2.2.2.2.1 i hi60
  obtain ⟨q1, q2, q3, q4, q5, q6, q7⟩ := hp.2.2.2 0 _ _ hc hpos'
  have hh : ¬ cnt (od e) (D i).2.2.1 < cnt (od e + 1) (D i).2.2.1 := fun z => hin (by have := (hI.has ok hc hC).mp z; rw [hT, se] at this; exact this)
  refine e_enter (by decide) (Nat.le_of_ble_eq_true rfl) ?_
  refine e_iload dX2_remove_0 rfl ?_
  refine e_if_ge (tgt := 7) dX2_remove_2 (by decide) (fun _ => ?_) (fun c => absurd (Int32.not_lt.mp hpos) c)
  refine e_new dX2_remove_7 nX2_7 rfl rfl ?_
  refine e_dup dX2_remove_10 rfl ?_
  refine e_lload_n dX2_remove_11 rfl ?_
  refine e_lload_n dX2_remove_12 rfl ?_
  refine e_lload dX2_remove_13 rfl ?_
  refine e_lload dX2_remove_15 rfl ?_
  refine e_iload dX2_remove_17 rfl ?_
  refine e_I5d dX2_remove_19 gX2_11 (x_nw_s _ _) (by omega) (Nat.le_of_ble_eq_true rfl) rfl rfl (con_Entry_init (d + 1) _ h.1 e (x_nw_s _ _) rfl) ?_
  rw [x_nw_up]
  refine e_astore dX2_remove_22 (by decide) rfl ?_
  refine e_aload_n dX2_remove_24 rfl ?_
  refine e_iconst (v := 0) dX2_remove_25 (by decide) ?_
  refine e_aload dX2_remove_26 rfl ?_
  refine e_V2d dX2_remove_28 gX2_60 hS2.1 rfl (by omega) (Nat.le_of_ble_eq_true rfl) rfl rfl (con_pic d 2 h.1 0 e hS2.1 hS2.2.2.2.2.1 hI he ok hc hC) ?_
  refine e_astore dX2_remove_31 (by decide) rfl ?_
  refine e_aload dX2_remove_33 rfl ?_
  refine e_aload dX2_remove_35 rfl ?_
  refine e_V1d dX2_remove_37 gX2_64 hp.1.1 rfl (by omega) (Nat.le_of_ble_eq_true rfl) rfl rfl (con_holds (d + 1) _ (pa i) h.1 e P (D i).2.2.1 hp.1 q1 q6 (hI.ten hc him) he) ?_
  rw [if_neg hh]
  refine e_if_ne (tgt := 45) dX2_remove_40 (by decide) (fun z => absurd rfl z) (fun _ => ?_)
  refine e_iconst (v := 0) dX2_remove_43 (by decide) ?_
  exact e_iret dX2_remove_44 rfl rfl ⟨rfl, x_cg.nw hN, ch, D, fu, ca, ha, hS2, hI, hT, hx _ _ hcv, hok, hx _ _ hhv⟩
theorem con_remove_yes (d : Nat) (e : xE) {p1 p2 : List Pg} {g : Pg} (hL : CL h S tk q cv cb hv) (hN : xN h) (h187 : 187 ≤ h.1) (hpos : ¬ e.2.2.2.2 < 0) (hin : inI S 0 (od e + 1)) (hl : S[0]? = some (p1 ++ g :: p2)) (hC0 : InC (p1 ++ g :: p2) (od e + 1) p1 g p2) : x_Con mX2_remove (d + 8) 1 5 [.ref 2, .long e.1, .long e.2.1, .long e.2.2.1, .long e.2.2.2.1, .int e.2.2.2.2] h (fun rv h' => x_cg h h' ∧ (if (sW 1 q).1 then rv = [.int 1] ∧ CL h' (sSet S 0 p1 [(g.1, false, g.2.2.filter (fun x => decide (x ≠ od e + 1)))] p2) tk (sW 1 q).2 cv cb hv else rv = [.int (-2)] ∧ CL h' S tk (sW 1 q).2 cv cb hv)) := by
  obtain ⟨ch, D, fu, ca, ha, hS, hI, hT, hcv, hok, hhv⟩ := hL
  subst hT
  obtain ⟨ok, se⟩ := ok_pos hpos
  have hx := x_ext.nw (c := eC e) hN
  have hS2 := hS.ext hx
  have he : (x_nw h (eC e)).2 h.1 = some (eC e) := x_nw_s _ _
  rw [← se] at hC0
  obtain ⟨c1, i, c2, hc, r1, r2, r3, hC⟩ := zp_cls hI hl hC0
  have him : i ∈ c1 ++ i :: c2 := List.mem_append_right _ List.mem_cons_self
  have hpos' : (c1 ++ i :: c2)[c1.length]? = some i := by rw [List.getElem?_append_right (Nat.le_refl _), Nat.sub_self]; rfl
  have hi60 : i < 60 := by have := hI.2.2.2.1 _ _ hc i him; have := hI.2.2.2.2.1; omega
  obtain ⟨P, hp⟩ := hS2.2.2.2.2.1 i hi60
  obtain ⟨q1, q2, q3, q4, q5, q6, q7⟩ := hp.2.2.2 0 _ _ hc hpos'
  have hh := (hI.has ok hc hC).mpr (by rw [se]; exact hin)
  have hsr := hI.sorted hc him
  have hmem := (cnt_has hsr).mp hh
  have okc := (hI.2.2.2.2.2.1 0 _ hc i him)
  have h10 := hI.ten hc him
  refine e_enter (by decide) (Nat.le_of_ble_eq_true rfl) ?_
  refine e_iload dX2_remove_0 rfl ?_
  refine e_if_ge (tgt := 7) dX2_remove_2 (by decide) (fun _ => ?_) (fun c => absurd (Int32.not_lt.mp hpos) c)
  refine e_new dX2_remove_7 nX2_7 rfl rfl ?_
  refine e_dup dX2_remove_10 rfl ?_
  refine e_lload_n dX2_remove_11 rfl ?_
  refine e_lload_n dX2_remove_12 rfl ?_
  refine e_lload dX2_remove_13 rfl ?_
  refine e_lload dX2_remove_15 rfl ?_
  refine e_iload dX2_remove_17 rfl ?_
  refine e_I5d dX2_remove_19 gX2_11 (x_nw_s _ _) (by omega) (Nat.le_of_ble_eq_true rfl) rfl rfl (con_Entry_init (d + 1) _ h.1 e (x_nw_s _ _) rfl) ?_
  rw [x_nw_up]
  refine e_astore dX2_remove_22 (by decide) rfl ?_
  refine e_aload_n dX2_remove_24 rfl ?_
  refine e_iconst (v := 0) dX2_remove_25 (by decide) ?_
  refine e_aload dX2_remove_26 rfl ?_
  refine e_V2d dX2_remove_28 gX2_60 hS2.1 rfl (by omega) (Nat.le_of_ble_eq_true rfl) rfl rfl (con_pic d 2 h.1 0 e hS2.1 hS2.2.2.2.2.1 hI he ok hc hC) ?_
  refine e_astore dX2_remove_31 (by decide) rfl ?_
  refine e_aload dX2_remove_33 rfl ?_
  refine e_aload dX2_remove_35 rfl ?_
  refine e_V1d dX2_remove_37 gX2_64 hp.1.1 rfl (by omega) (Nat.le_of_ble_eq_true rfl) rfl rfl (con_holds (d + 1) _ (pa i) h.1 e P (D i).2.2.1 hp.1 q1 q6 h10 he) ?_
  rw [if_pos hh]
  refine e_if_ne (tgt := 45) dX2_remove_40 (by decide) (fun _ => ?_) (fun z => absurd z (by decide))
  refine e_aload_n dX2_remove_45 rfl ?_
  refine e_iconst (v := 1) dX2_remove_46 (by decide) ?_
  refine e_V1d dX2_remove_47 gX2_80 hS2.1 rfl (by omega) (Nat.le_of_ble_eq_true rfl) rfl rfl (con_setWords d 2 1 hS2.1 hS.2.2.2.2.2) ?_
  have hS3 := hS2.up2 (tk' := tk) (fu' := fu) (q' := (sW 1 q).2) (ca' := ca) (cb' := cb) (ha' := ha) (qok_sW hS.2.2.2.2.2 (by decide))
  have hf3 := x_cf.up2 (c := tC tk fu (sW 1 q).2.1 (clQ (sW 1 q).2) ca cb ha) hS2.1
  have he3 := hf3.2.1 _ _ he
  have hcv3 := hf3.2.1 _ _ (hx _ _ hcv)
  have hhv3 := hf3.2.1 _ _ (hx _ _ hhv)
  generalize x_up (x_nw h (eC e)) 2 (tC tk fu (sW 1 q).2.1 (clQ (sW 1 q).2) ca cb ha) = h3 at hS3 hf3 he3 hcv3 hhv3 ⊢
  by_cases e1 : (sW 1 q).1 = true
  · refine e_if_ne (tgt := 56) dX2_remove_50 (by decide) (fun _ => ?_) (fun z => absurd z (by rw [e1]; decide))
    clear q1 q2 q3 q4 q5 q6 q7
    obtain ⟨P, hp⟩ := hS3.2.2.2.2.1 i hi60
    obtain ⟨q1, q2, q3, q4, q5, q6, q7⟩ := hp.2.2.2 0 _ _ hc hpos'
    have hcl := cnt_le (od e + 1) (D i).2.2.1
    obtain ⟨n, hn⟩ : ∃ n, (D i).2.2.1.length = n + 1 := ⟨(D i).2.2.1.length - 1, by omega⟩
    refine e_aload dX2_remove_56 rfl ?_
    refine e_aload dX2_remove_58 rfl ?_
    refine e_V1d dX2_remove_60 gX2_83 hp.1.1 rfl (by omega) (Nat.le_of_ble_eq_true rfl) rfl rfl (con_drop d _ (pa i) h.1 e P (D i).2.2.1 n hn (by omega) hp.1 q1 q6 hp.2.1 hp.2.2.1 he3 hh) ?_
    refine e_aload dX2_remove_63 rfl ?_
    refine e_iconst (v := 0) dX2_remove_65 (by decide) ?_
    refine e_putP (c' := (n, P.1.2.1, P.1.2.2.1, P.1.2.2.2.1, bI false)) dX2_remove_66 fX2_86 (x_ps_pg _ _ _) (by exact ⟨rfl, rfl⟩) rfl rfl ?_
    rw [x_ps_ps]
    have hlt : cnt (od e) (D i).2.2.1 < (D i).2.2.1.length := by omega
    have hdl := delX_len hlt
    have hCP' := CP_set hS3.2.2.2.2.1 hi60 hp (n' := n) (b' := false) (E' := shl P.2.1 (cnt (od e) (D i).2.2.1) n) (B' := shl P.2.2 (cnt (od e) (D i).2.2.1) n) (its' := delX (cnt (od e) (D i).2.2.1) (D i).2.2.1) (bls' := []) (by omega) (fun j hj => by
        unfold shl
        split
        · exact hp.2.1 _ (by omega)
        · exact hp.2.1 _ hj) (fun j hj => by
        unfold shl
        split
        · exact hp.2.2.1 _ (by omega)
        · exact hp.2.2.1 _ hj) (fun j x hx => by
        rw [delX_at hlt] at hx
        have hjn : j < n := by
          by_cases z : j < cnt (od e) (D i).2.2.1
          · omega
          · rw [if_neg z] at hx
            have := (List.getElem?_eq_some_iff.mp hx).1
            omega
        unfold shl
        by_cases z : j < cnt (od e) (D i).2.2.1
        · rw [if_pos z] at hx
          rw [if_neg (by omega)]
          exact q6 j x hx
        · rw [if_neg z] at hx
          rw [if_pos (by omega)]
          exact q6 _ x hx) (fun j b hb => by simp at hb)
    have hTS := trS_set (D := D) hI.2.2.1 hc ((D i).1, false, delX (cnt (od e) (D i).2.2.1) (D i).2.2.1, [])
    rw [delX_sk ok okc.2 hsr hmem] at hTS
    have hTS : trS ch (Du D i ((D i).1, false, delX (cnt (od e) (D i).2.2.1) (D i).2.2.1, [])) = sSet (trS ch D) 0 p1 [(g.1, false, g.2.2.filter (fun x => decide (x ≠ od e + 1)))] p2 := by
      rw [hTS, r1, r2, r3, se]
      rfl
    have hT' := trK_del (v := od e + 1) hI.1 hl
    refine e_iconst (v := 1) dX2_remove_69 (by decide) ?_
    refine e_iret dX2_remove_70 rfl rfl ⟨((x_cg.nw hN).cf h187 hf3).cf h187 (x_cf.ps hp.1 hi60), ?_⟩
    rw [if_pos e1]
    have hfp := x_cf.ps (P' := ((n, P.1.2.1, P.1.2.2.1, P.1.2.2.2.1, bI false), shl P.2.1 (cnt (od e) (D i).2.2.1) n, shl P.2.2 (cnt (od e) (D i).2.2.1) n)) hp.1 hi60
    refine ⟨rfl, ch, _, fu, ca, ha, hS3.ps hp.1 hi60 hCP', CI_set hI hc rfl (by rw [hTS]; exact hT') (fun y hy => okc.2 y (delX_mem hy)) (fun l' e3 => by omega) (fun _ y hy => hI.2.2.2.2.2.2.2 _ hc i him y (delX_mem hy)), hTS, hfp.2.1 _ _ hcv3, hok, hfp.2.1 _ _ hhv3⟩
  · refine e_if_ne (tgt := 56) dX2_remove_50 (by decide) (fun z => absurd (by rw [Bool.not_eq_true] at e1; rw [e1]; rfl) z) (fun _ => ?_)
    refine e_bipush (v := (-2)) dX2_remove_53 (by decide) ?_
    refine e_iret dX2_remove_55 rfl rfl ⟨(x_cg.nw hN).cf h187 hf3, ?_⟩
    rw [if_neg e1]
    exact ⟨rfl, ch, D, fu, ca, ha, hS3, hI, rfl, hcv3, hok, hhv3⟩
theorem con_seek (d : Nat) (e : xE) (hp1 : e.2.2.2.2 = -1) (hL : CL h S tk q cv cb hv) (hN : xN h) (h187 : 187 ≤ h.1) : x_Con mX2_seek (d + 3) 1 5 [.ref 2, .long e.1, .long e.2.1, .long e.2.2.1, .long e.2.2.2.1] h (fun rv h' => rv = [] ∧ x_cg h h' ∧ CL h' S tk q e false hv) := by
  obtain ⟨ch, D, fu, ca, ha, hS, hI, hT, hcv, hok, hhv⟩ := hL
  have hx := x_ext.nw (c := eC e) hN
  have hS2 := hS.ext hx
  have he : (x_nw h (eC e)).2 h.1 = some (eC e) := x_nw_s _ _
  have oke : okE e := by
    have h1 := (pl_lt e).2
    rw [hp1] at h1
    have h3 : (-1 : Int32).toInt = -1 := by decide
    rw [h3] at h1
    unfold okE od
    omega
  refine e_enter (by decide) (Nat.le_of_ble_eq_true rfl) ?_
  refine e_aload_n dX2_seek_0 rfl ?_
  refine e_new dX2_seek_1 nX2_7 rfl rfl ?_
  refine e_dup dX2_seek_4 rfl ?_
  refine e_lload_n dX2_seek_5 rfl ?_
  refine e_lload_n dX2_seek_6 rfl ?_
  refine e_lload dX2_seek_7 rfl ?_
  refine e_lload dX2_seek_9 rfl ?_
  refine e_iconst (v := (-1)) dX2_seek_11 (by decide) ?_
  rw [← hp1]
  refine e_I5d dX2_seek_12 gX2_11 (x_nw_s _ _) (by omega) (Nat.le_of_ble_eq_true rfl) rfl rfl (con_Entry_init (d + 1) _ h.1 e (x_nw_s _ _) rfl) ?_
  rw [x_nw_up]
  refine e_iconst (v := 0) dX2_seek_15 (by decide) ?_
  refine e_V2d dX2_seek_16 gX2_89 hS2.1 rfl (by omega) (Nat.le_of_ble_eq_true rfl) rfl rfl (con_moveCursor d 2 h.1 false hS2.1) ?_
  have hf3 := x_cf.up2 (c := tC tk fu q.1 (clQ q) h.1 false ha) hS2.1
  exact e_ret dX2_seek_19 rfl ⟨rfl, (x_cg.nw hN).cf h187 hf3, ch, D, fu, h.1, ha, hS2.up2 hS.2.2.2.2.2, hI, hT, hf3.2.1 _ _ he, oke, hf3.2.1 _ _ (hx _ _ hhv)⟩
theorem con_first (d : Nat) (hL : CL h S tk q cv cb hv) (hN : xN h) (h187 : 187 ≤ h.1) : x_Con mX2_first (d + 1) 0 0 [.ref 2] h (fun rv h' => rv = [] ∧ x_cg h h' ∧ CL h' S tk q lowE false hv) := by
  obtain ⟨ch, D, fu, ca, ha, hS, hI, hT, hcv, hok, hhv⟩ := hL
  have s1 := hS.1
  refine e_enter (by decide) (Nat.le_of_ble_eq_true rfl) ?_
  refine e_aload_n dX2_first_0 rfl ?_
  refine e_aload_n dX2_first_1 rfl ?_
  refine e_get dX2_first_2 fX2_14 s1 rfl ?_
  refine e_iconst (v := 0) dX2_first_5 (by decide) ?_
  refine e_V2d dX2_first_6 gX2_89 s1 rfl (by omega) (Nat.le_of_ble_eq_true rfl) rfl rfl (con_moveCursor d 2 3 false s1) ?_
  have hf3 := x_cf.up2 (c := tC tk fu q.1 (clQ q) 3 false ha) s1
  exact e_ret dX2_first_9 rfl ⟨rfl, (x_cg.rf hN).cf h187 hf3, ch, D, fu, 3, ha, hS.up2 hS.2.2.2.2.2, hI, hT, hf3.2.1 _ _ hS.2.1, ok_low, hf3.2.1 _ _ hhv⟩
theorem con_last (d : Nat) (hL : CL h S tk q cv cb hv) (hN : xN h) (h187 : 187 ≤ h.1) : x_Con mX2_last (d + 1) 0 0 [.ref 2] h (fun rv h' => rv = [] ∧ x_cg h h' ∧ CL h' S tk q highE true hv) := by
  obtain ⟨ch, D, fu, ca, ha, hS, hI, hT, hcv, hok, hhv⟩ := hL
  have s1 := hS.1
  refine e_enter (by decide) (Nat.le_of_ble_eq_true rfl) ?_
  refine e_aload_n dX2_last_0 rfl ?_
  refine e_aload_n dX2_last_1 rfl ?_
  refine e_get dX2_last_2 fX2_21 s1 rfl ?_
  refine e_iconst (v := 1) dX2_last_5 (by decide) ?_
  refine e_V2d dX2_last_6 gX2_89 s1 rfl (by omega) (Nat.le_of_ble_eq_true rfl) rfl rfl (con_moveCursor d 2 4 true s1) ?_
  have hf3 := x_cf.up2 (c := tC tk fu q.1 (clQ q) 4 true ha) s1
  exact e_ret dX2_last_9 rfl ⟨rfl, (x_cg.rf hN).cf h187 hf3, ch, D, fu, 4, ha, hS.up2 hS.2.2.2.2.2, hI, hT, hf3.2.1 _ _ hS.2.2.1, (ok_pos (e := highE) (by decide)).1, hf3.2.1 _ _ hhv⟩
theorem con_charge (d : Nat) (n : Int32) (hL : CL h S tk q cv cb hv) (hN : xN h) (h187 : 187 ≤ h.1) : x_Con mX2_charge d 0 0 [.ref 2, .int n] h (fun rv h' => x_cg h h' ∧ (if n < 0 ∨ 999 < n then rv = [.int 0] ∧ CL h' S tk q cv cb hv else rv = [.int 1] ∧ CL h' S tk (q.1, n, false) cv cb hv)) := by
  have hL0 := hL
  obtain ⟨ch, D, fu, ca, ha, hS, hI, hT, hcv, hok, hhv⟩ := hL
  have s1 := hS.1
  refine e_enter (by decide) (Nat.le_of_ble_eq_true rfl) ?_
  refine e_iload_n dX2_charge_0 rfl ?_
  refine e_if_lt (tgt := 11) dX2_charge_1 (by decide) (fun z => ?_) (fun z => ?_)
  · refine e_iconst (v := 0) dX2_charge_11 (by decide) ?_
    refine e_iret dX2_charge_12 rfl rfl ⟨x_cg.rf hN, ?_⟩
    rw [if_pos (Or.inl z)]
    exact ⟨rfl, hL0⟩
  · refine e_iload_n dX2_charge_4 rfl ?_
    refine e_sipush (v := 999) dX2_charge_5 (by decide) ?_
    refine e_icmp_le (tgt := 13) dX2_charge_8 (by decide) (fun z2 => ?_) (fun z2 => ?_)
    · have hno : ¬ (n < 0 ∨ 999 < n) := fun y => y.elim z (fun y => Int32.not_lt.mpr z2 y)
      refine e_aload_n dX2_charge_13 rfl ?_
      refine e_iload_n dX2_charge_14 rfl ?_
      refine e_putT (fs' := tL tk fu q.1 n ca cb ha) dX2_charge_15 fX2_47 s1 (by exact ⟨rfl, rfl⟩) rfl rfl ?_
      refine e_iconst (v := 1) dX2_charge_18 (by decide) ?_
      have hf3 := x_cf.up2 (c := tC tk fu q.1 n ca cb ha) s1
      refine e_iret dX2_charge_19 rfl rfl ⟨(x_cg.rf hN).cf h187 hf3, ?_⟩
      rw [if_neg hno]
      exact ⟨rfl, ch, D, fu, ca, ha, hS.up2 (q' := (q.1, n, false)) (fun _ => z), hI, hT, hf3.2.1 _ _ hcv, hok, hf3.2.1 _ _ hhv⟩
    · refine e_iconst (v := 0) dX2_charge_11 (by decide) ?_
      refine e_iret dX2_charge_12 rfl rfl ⟨x_cg.rf hN, ?_⟩
      rw [if_pos (Or.inr (Int32.not_le.mp z2))]
      exact ⟨rfl, hL0⟩
theorem con_place (d : Nat) (hL : CL h S tk q cv cb hv) : x_D mX2_place d 0 0 [.ref 2] h [.int hv.2.2.2.2] h := by
  obtain ⟨ch, D, fu, ca, ha, hS, hI, hT, hcv, hok, hhv⟩ := hL
  have s1 := hS.1
  refine e_enter (by decide) (Nat.le_of_ble_eq_true rfl) ?_
  refine e_aload_n dX2_place_0 rfl ?_
  refine e_get dX2_place_1 fX2_57 s1 rfl ?_
  refine e_get dX2_place_4 fX2_124 hhv rfl ?_
  exact e_iret dX2_place_7 rfl rfl ⟨rfl, rfl⟩
end CM
