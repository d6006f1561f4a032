/-! the law: one call -/
abbrev lwL (i : Nat) : List (Nat × Value) := [(3, .int (nI i)), (2, .ref 187), (1, .ref 2), (0, .ref 1)]
def KT (d n k5 : Nat) (xs : List Int32) (i ks : Nat) (Q : List Value → xH → Prop) : Prop := ∀ (h' : xH) (S' : Tr) (tk' : Nat) (q' : qW) (cv' : xE) (cb' : Bool) (hv' : xE) (ks' : Nat), LI xs h' S' tk' q' cv' cb' hv' ks' → ks' ≤ ks + 1 → x_E mL_law (d + 80) n k5 1029 (lwL i) [] h' Q
section LB
variable {d n k5 : Nat} {xs : List Int32} {i ks : Nat} {h : xH} {Q : List Value → xH → Prop} {S : Tr} {tk : Nat} {q : qW} {cv : xE} {cb : Bool} {hv : xE}
theorem LI.fin {h1 h2 : xH} {S' : Tr} {tk' : Nat} {q' : qW} {cv' : xE} {cb' : Bool} {hv' : xE} {ks' K' : Nat} (hL : LI xs h S tk q cv cb hv ks) (hcg : x_cg h h1) (hC1 : CL h1 S' tk' q' cv' cb' hv') (hf : x_mf 187 h1 h2) (hM2 : MR h2 S' tk' q' ks' K' hv') (hK : K' = od cv' + (if cb' then 1 else 0) + 1) : LI xs h2 S' tk' q' cv' cb' hv' ks' := by
  subst hK
  exact ⟨(hL.1.cg hcg).mf hf, hC1.mf (hL.2.2.cg hL.1.2.2.2 hcg) hf, hM2⟩
theorem LI.neg (hL : LI xs h S tk q cv cb hv ks) {e : xE} (hn : e.2.2.2.2 < 0) : ¬ inI S 0 (od e + 1) := fun z => by
  obtain ⟨x, hx, e1⟩ := hL.2.1.pos _ z
  have := od_inj (e := e) (f := x) (by omega)
  rw [← this] at hx
  exact hx hn
theorem law_c0 (hi : i + 10 ≤ xs.length) (hks : ks ≤ 512) (hL : LI xs h S tk q cv cb hv ks) (kt : KT d n k5 xs i ks Q) : x_E mL_law (d + 80) (n + 1) (k5 + 5) 104 (lwL i) [] h Q := by
  obtain ⟨fs, ho⟩ := hL.2.1.obj
  obtain ⟨hT, h60, htk, -⟩ := hL.2.1.tr
  have h187 : 187 ≤ h.1 := by have := hL.1.2.2.2; omega
  by_cases hneg : (wE xs i).2.2.2.2 < 0
  · refine law_add (Qc := fun v h1 => v = -1 ∧ h1 = h) (Qr := fun h2 => h2 = h) hi hL.1.1 ho ((con_add_neg (d + 79) (wE xs i) hneg).mono (fun rv h1 z => ⟨-1, z.1, rfl, z.2⟩)) (fun v h1 z => ?_) (fun h2 z => by rw [z]; exact kt _ _ _ _ _ _ _ _ hL (by omega))
    rw [z.1, z.2]
    exact ⟨hL.1.1, hL.2.2.obj, con_madd_neg (d + 79) 187 (wE xs i) hneg⟩
  by_cases hin : inI S 0 (od (wE xs i) + 1)
  · refine law_add (Qc := fun v h1 => v = 0 ∧ x_cg h h1 ∧ CL h1 S tk q cv cb hv) (Qr := fun h2 => LI xs h2 S tk q cv cb hv ks) hi hL.1.1 ho ((con_add_has (d + 72) (wE xs i) hL.2.1 hL.1.2.2.1 h187 hneg hin).mono (fun rv h1 z => ⟨0, z.1, rfl, z.2⟩)) (fun v h1 z => ?_) (fun h2 z => kt _ _ _ _ _ _ _ _ z (by omega))
    obtain ⟨z1, z2, z3⟩ := z
    have M1 := hL.2.2.cg hL.1.2.2.2 z2
    rw [z1]
    exact ⟨(hL.1.cg z2).1, M1.obj, (con_radd_has (d + 74) (wE xs i) M1 hT (by omega) (by omega) hneg hin).mono (fun rv h2 y => ⟨y.1, hL.fin z2 z3 y.2.1 y.2.2 rfl⟩)⟩
  · obtain ⟨m, g, t1, t2, -⟩ := hT.2.1
    obtain ⟨w, top, rs, w0, -, hP⟩ := pth_ex hT m 0 (od (wE xs i) + 1) (by omega) (by omega) hin
    obtain ⟨r, hr⟩ : ∃ r, r = sPut (top + 1) 0 (od (wE xs i) + 1) S q := ⟨_, rfl⟩
    have cc := con_add_new (d + 9) top (wE xs i) w rs hL.2.1 hL.1.2.2.1 h187 hneg hin w0 hP
    by_cases hle : tk + wnt top rs ≤ 60
    · refine law_add (Qc := fun v h1 => v = (if r.1 then 1 else -2) ∧ x_cg h h1 ∧ CL h1 r.2.1 (tk + wnt top rs) r.2.2 cv cb hv) (Qr := fun h2 => LI xs h2 r.2.1 (tk + wnt top rs) r.2.2 cv cb hv (ks + 1)) hi hL.1.1 ho (cc.mono (fun rv h1 z => ?_)) (fun v h1 z => ?_) (fun h2 z => kt _ _ _ _ _ _ _ _ z (by omega))
      · obtain ⟨z1, z2⟩ := z
        rw [if_pos hle, ← hr] at z2
        exact ⟨_, z2.1, rfl, z1, z2.2⟩
      · obtain ⟨z1, z2, z3⟩ := z
        have M1 := hL.2.2.cg hL.1.2.2.2 z2
        rw [z1]
        refine ⟨(hL.1.cg z2).1, M1.obj, (con_radd_new (d + 74) top (wE xs i) w rs M1 hT h60 htk (by omega) hneg hin w0 hP).mono (fun rv h2 y => ?_)⟩
        obtain ⟨y1, y2⟩ := y
        rw [if_pos hle, ← hr] at y2
        exact ⟨y2.1, hL.fin z2 z3 y1 y2.2 rfl⟩
    · refine law_add (Qc := fun v h1 => v = -1 ∧ x_cg h h1 ∧ CL h1 S tk q cv cb hv) (Qr := fun h2 => LI xs h2 S tk q cv cb hv ks) hi hL.1.1 ho (cc.mono (fun rv h1 z => ?_)) (fun v h1 z => ?_) (fun h2 z => kt _ _ _ _ _ _ _ _ z (by omega))
      · obtain ⟨z1, z2⟩ := z
        rw [if_neg hle] at z2
        exact ⟨_, z2.1, rfl, z1, z2.2⟩
      · obtain ⟨z1, z2, z3⟩ := z
        have M1 := hL.2.2.cg hL.1.2.2.2 z2
        rw [z1]
        refine ⟨(hL.1.cg z2).1, M1.obj, (con_radd_new (d + 74) top (wE xs i) w rs M1 hT h60 htk (by omega) hneg hin w0 hP).mono (fun rv h2 y => ?_)⟩
        obtain ⟨y1, y2⟩ := y
        rw [if_neg hle] at y2
        exact ⟨y2.1, hL.fin z2 z3 y1 y2.2 rfl⟩
theorem law_c1 (hi : i + 10 ≤ xs.length) (hks : ks ≤ 512) (hL : LI xs h S tk q cv cb hv ks) (kt : KT d n k5 xs i ks Q) : x_E mL_law (d + 80) (n + 1) (k5 + 5) 295 (lwL i) [] h Q := by
  obtain ⟨fs, ho⟩ := hL.2.1.obj
  obtain ⟨hT, h60, htk, -⟩ := hL.2.1.tr
  have h187 : 187 ≤ h.1 := by have := hL.1.2.2.2; omega
  by_cases hneg : (wE xs i).2.2.2.2 < 0
  · refine law_remove (Qc := fun v h1 => v = 0 ∧ h1 = h) (Qr := fun h2 => LI xs h2 S tk q cv cb hv ks) hi hL.1.1 ho ((con_remove_neg (d + 79) (wE xs i) hneg).mono (fun rv h1 z => ⟨0, z.1, rfl, z.2⟩)) (fun v h1 z => ?_) (fun h2 z => kt _ _ _ _ _ _ _ _ z (by omega))
    rw [z.1, z.2]
    exact ⟨hL.1.1, hL.2.2.obj, (con_rremove_no (d + 76) (wE xs i) hL.2.2 hT (by omega) (by omega) (hL.neg hneg)).mono (fun rv h2 y => ⟨y.1, hL.fin (x_cg.rf hL.1.2.2.1) hL.2.1 y.2.1 y.2.2 rfl⟩)⟩
  by_cases hin : inI S 0 (od (wE xs i) + 1)
  · obtain ⟨c, hc⟩ : ∃ c, S[0]? = some c := ⟨_, List.getElem?_eq_getElem (by obtain ⟨m, g, t1, -⟩ := hT.2.1; omega)⟩
    obtain ⟨p1, g, p2, hC⟩ := (hT.1 0 c hc).ex (od (wE xs i) + 1)
    have hc' := hc
    rw [hC.1] at hc' hC
    have cc := con_remove_yes (d + 71) (wE xs i) hL.2.1 hL.1.2.2.1 h187 hneg hin hc' hC
    by_cases es : (sW 1 q).1 = true
    · refine law_remove (Qc := fun v h1 => v = 1 ∧ x_cg h h1 ∧ CL h1 (sSet S 0 p1 [(g.1, false, g.2.2.filter (fun x => decide (x ≠ od (wE xs i) + 1)))] p2) tk (sW 1 q).2 cv cb hv) (Qr := fun h2 => LI xs h2 (sSet S 0 p1 [(g.1, false, g.2.2.filter (fun x => decide (x ≠ od (wE xs i) + 1)))] p2) tk (sW 1 q).2 cv cb hv ks) hi hL.1.1 ho (cc.mono (fun rv h1 z => ?_)) (fun v h1 z => ?_) (fun h2 z => kt _ _ _ _ _ _ _ _ z (by omega))
      · obtain ⟨z1, z2⟩ := z
        rw [if_pos es] at z2
        exact ⟨_, z2.1, rfl, z1, z2.2⟩
      · obtain ⟨z1, z2, z3⟩ := z
        have M1 := hL.2.2.cg hL.1.2.2.2 z2
        rw [z1]
        refine ⟨(hL.1.cg z2).1, M1.obj, (con_rremove_yes (d + 76) (wE xs i) M1 hT (by omega) (by omega) hin hc' hC).mono (fun rv h2 y => ?_)⟩
        obtain ⟨y1, y2⟩ := y
        rw [if_pos es] at y2
        exact ⟨y2.1, hL.fin z2 z3 y1 y2.2 rfl⟩
    · refine law_remove (Qc := fun v h1 => v = -2 ∧ x_cg h h1 ∧ CL h1 S tk (sW 1 q).2 cv cb hv) (Qr := fun h2 => LI xs h2 S tk (sW 1 q).2 cv cb hv ks) hi hL.1.1 ho (cc.mono (fun rv h1 z => ?_)) (fun v h1 z => ?_) (fun h2 z => kt _ _ _ _ _ _ _ _ z (by omega))
      · obtain ⟨z1, z2⟩ := z
        rw [if_neg es] at z2
        exact ⟨_, z2.1, rfl, z1, z2.2⟩
      · obtain ⟨z1, z2, z3⟩ := z
        have M1 := hL.2.2.cg hL.1.2.2.2 z2
        rw [z1]
        refine ⟨(hL.1.cg z2).1, M1.obj, (con_rremove_yes (d + 76) (wE xs i) M1 hT (by omega) (by omega) hin hc' hC).mono (fun rv h2 y => ?_)⟩
        obtain ⟨y1, y2⟩ := y
        rw [if_neg es] at y2
        exact ⟨y2.1, hL.fin z2 z3 y1 y2.2 rfl⟩
  · refine law_remove (Qc := fun v h1 => v = 0 ∧ x_cg h h1 ∧ CL h1 S tk q cv cb hv) (Qr := fun h2 => LI xs h2 S tk q cv cb hv ks) hi hL.1.1 ho ((con_remove_no (d + 71) (wE xs i) hL.2.1 hL.1.2.2.1 h187 hneg hin).mono (fun rv h1 z => ⟨0, z.1, rfl, z.2⟩)) (fun v h1 z => ?_) (fun h2 z => kt _ _ _ _ _ _ _ _ z (by omega))
    obtain ⟨z1, z2, z3⟩ := z
    have M1 := hL.2.2.cg hL.1.2.2.2 z2
    rw [z1]
    exact ⟨(hL.1.cg z2).1, M1.obj, (con_rremove_no (d + 76) (wE xs i) M1 hT (by omega) (by omega) hin).mono (fun rv h2 y => ⟨y.1, hL.fin z2 z3 y.2.1 y.2.2 rfl⟩)⟩
theorem law_c2 (hi : i + 10 ≤ xs.length) (hks : ks ≤ 512) (hL : LI xs h S tk q cv cb hv ks) (kt : KT d n k5 xs i ks Q) : x_E mL_law (d + 80) (n + 1) (k5 + 5) 486 (lwL i) [] h Q := by
  obtain ⟨fs, ho⟩ := hL.2.1.obj
  obtain ⟨hT, h60, htk, -⟩ := hL.2.1.tr
  have h187 : 187 ≤ h.1 := by have := hL.1.2.2.2; omega
  by_cases hneg : (wE xs i).2.2.2.2 < 0
  · refine law_has (Qc := fun v h1 => v = 0 ∧ h1 = h) (Qr := fun h2 => LI xs h2 S tk q cv cb hv ks) hi hL.1.1 ho ((con_has_neg (d + 79) (wE xs i) hneg).mono (fun rv h1 z => ⟨0, z.1, rfl, z.2⟩)) (fun v h1 z => ?_) (fun h2 z => kt _ _ _ _ _ _ _ _ z (by omega))
    rw [z.1, z.2]
    exact ⟨hL.1.1, hL.2.2.obj, (con_rhas (d + 76) (wE xs i) false hL.2.2 hT (by omega) (by omega) ⟨fun y => absurd y (hL.neg hneg), fun y => by cases y⟩).mono (fun rv h2 y => ⟨y.1, hL.fin (x_cg.rf hL.1.2.2.1) hL.2.1 y.2.1 y.2.2 rfl⟩)⟩
  · obtain ⟨b, hb⟩ : ∃ b : Bool, inI S 0 (od (wE xs i) + 1) ↔ b = true := by
      by_cases hin : inI S 0 (od (wE xs i) + 1)
      · exact ⟨true, fun _ => rfl, fun _ => hin⟩
      · exact ⟨false, fun y => absurd y hin, fun y => by cases y⟩
    refine law_has (Qc := fun v h1 => v = bI b ∧ x_cg h h1 ∧ CL h1 S tk q cv cb hv) (Qr := fun h2 => LI xs h2 S tk q cv cb hv ks) hi hL.1.1 ho ((con_has (d + 72) (wE xs i) b hL.2.1 hL.1.2.2.1 h187 hneg hb).mono (fun rv h1 z => ⟨_, z.1, rfl, z.2⟩)) (fun v h1 z => ?_) (fun h2 z => kt _ _ _ _ _ _ _ _ z (by omega))
    obtain ⟨z1, z2, z3⟩ := z
    have M1 := hL.2.2.cg hL.1.2.2.2 z2
    rw [z1]
    exact ⟨(hL.1.cg z2).1, M1.obj, (con_rhas (d + 76) (wE xs i) b M1 hT (by omega) (by omega) hb).mono (fun rv h2 y => ⟨y.1, hL.fin z2 z3 y.2.1 y.2.2 rfl⟩)⟩
theorem law_c3 (hi : i + 10 ≤ xs.length) (hks : ks ≤ 512) (hL : LI xs h S tk q cv cb hv ks) (kt : KT d n k5 xs i ks Q) : x_E mL_law (d + 80) (n + 1) (k5 + 5) 677 (lwL i) [] h Q := by
  obtain ⟨fs, ho⟩ := hL.2.1.obj
  have h187 : 187 ≤ h.1 := by have := hL.1.2.2.2; omega
  obtain ⟨e, he⟩ : ∃ e : xE, e = ((wE xs i).1, (wE xs i).2.1, (wE xs i).2.2.1, (wE xs i).2.2.2.1, -1) := ⟨_, rfl⟩
  have cc := con_seek (d + 76) e (by rw [he]) hL.2.1 hL.1.2.2.1 h187
  rw [he] at cc
  rw [← he] at cc
  refine law_seek (Qc := fun h1 => x_cg h h1 ∧ CL h1 S tk q e false hv) (Qr := fun h2 => LI xs h2 S tk q e false hv (ks + 1)) hi hL.1.1 ho (by rw [he] at cc ⊢; exact cc) (fun h1 z => ?_) (fun h2 z => kt _ _ _ _ _ _ _ _ z (by omega))
  obtain ⟨z2, z3⟩ := z
  have M1 := hL.2.2.cg hL.1.2.2.2 z2
  have cr := con_rseek (d + 78) e (by rw [he]) M1 (by omega)
  refine ⟨(hL.1.cg z2).1, M1.obj, ?_⟩
  have cr2 : x_Con mX3_seek (d + 78 + 1) 0 0 [.ref 187, .long (wE xs i).1, .long (wE xs i).2.1, .long (wE xs i).2.2.1, .long (wE xs i).2.2.2.1] h1 (fun rv h' => rv = [] ∧ x_mf 187 h1 h' ∧ MR h' S tk q (ks + 1) (od e + 1) hv) := by
    rw [he] at cr ⊢
    exact cr
  exact cr2.mono (fun rv h2 y => ⟨y.1, hL.fin z2 z3 y.2.1 y.2.2 (by rw [if_neg Bool.false_ne_true, Nat.add_zero])⟩)
theorem law_c4 (hL : LI xs h S tk q cv cb hv ks) (kt : KT d n k5 xs i ks Q) : x_E mL_law (d + 80) (n + 1) (k5 + 5) 854 (lwL i) [] h Q := by
  obtain ⟨fs, ho⟩ := hL.2.1.obj
  have h187 : 187 ≤ h.1 := by have := hL.1.2.2.2; omega
  refine e_bud (Nat.le_succ n) (Nat.le_add_right k5 5) ?_
  refine e_aload_n dL_law_854 rfl ?_
  refine e_V0 dL_law_855 gL_34 ho rfl (by omega) (Nat.le_of_ble_eq_true rfl) rfl rfl (con_first d hL.2.1 hL.1.2.2.1 h187) ?_
  rintro _ h1 ⟨rfl, z2, z3⟩
  have M1 := hL.2.2.cg hL.1.2.2.2 z2
  obtain ⟨fs', ho'⟩ := M1.obj
  refine e_aload_n dL_law_858 rfl ?_
  refine e_V0 dL_law_859 gL_37 ho' rfl (by omega) (Nat.le_of_ble_eq_true rfl) rfl rfl (con_rfirst d M1) ?_
  rintro _ h2 ⟨rfl, y1, y2⟩
  refine e_goto (tgt := 1029) dL_law_862 (by decide) ?_
  exact kt _ _ _ _ _ _ _ _ (hL.fin z2 z3 y1 y2 (by rw [if_neg Bool.false_ne_true, Nat.add_zero])) (by omega)
theorem law_c5 (hL : LI xs h S tk q cv cb hv ks) (kt : KT d n k5 xs i ks Q) : x_E mL_law (d + 80) (n + 1) (k5 + 5) 865 (lwL i) [] h Q := by
  obtain ⟨fs, ho⟩ := hL.2.1.obj
  have h187 : 187 ≤ h.1 := by have := hL.1.2.2.2; omega
  refine e_bud (Nat.le_succ n) (Nat.le_add_right k5 5) ?_
  refine e_aload_n dL_law_865 rfl ?_
  refine e_V0 dL_law_866 gL_38 ho rfl (by omega) (Nat.le_of_ble_eq_true rfl) rfl rfl (con_last d hL.2.1 hL.1.2.2.1 h187) ?_
  rintro _ h1 ⟨rfl, z2, z3⟩
  have M1 := hL.2.2.cg hL.1.2.2.2 z2
  obtain ⟨fs', ho'⟩ := M1.obj
  refine e_aload_n dL_law_869 rfl ?_
  refine e_V0 dL_law_870 gL_41 ho' rfl (by omega) (Nat.le_of_ble_eq_true rfl) rfl rfl (con_rlast d M1) ?_
  rintro _ h2 ⟨rfl, y1, y2⟩
  refine e_goto (tgt := 1029) dL_law_873 (by decide) ?_
  exact kt _ _ _ _ _ _ _ _ (hL.fin z2 z3 y1 y2 (by rw [if_pos rfl])) (by omega)
theorem law_c6 (hks : ks ≤ 512) (hL : LI xs h S tk q cv cb hv ks) (kt : KT d n k5 xs i ks Q) : x_E mL_law (d + 80) (n + 1) (k5 + 5) 876 (lwL i) [] h Q := by
  obtain ⟨fs, ho⟩ := hL.2.1.obj
  obtain ⟨hT, h60, htk, -⟩ := hL.2.1.tr
  have h187 : 187 ≤ h.1 := by have := hL.1.2.2.2; omega
  refine e_bud (Nat.le_succ n) (Nat.le_add_right k5 5) ?_
  refine e_aload_n dL_law_876 rfl ?_
  refine e_V0 dL_law_877 gL_42 ho rfl (by omega) (Nat.le_of_ble_eq_true rfl) rfl rfl (con_next d hL.2.1 hL.1.2.2.1 h187) ?_
  rintro rv h1 ⟨z2, o, hQ, hz⟩
  have M1 := hL.2.2.cg hL.1.2.2.2 z2
  obtain ⟨fs', ho'⟩ := M1.obj
  cases o with
  | none =>
    obtain ⟨rfl, z3⟩ := hz
    refine e_aload_n dL_law_880 rfl ?_
    refine e_V0 dL_law_881 gL_46 ho' rfl (by omega) (Nat.le_of_ble_eq_true rfl) rfl rfl (con_rnext d none M1 hT (by omega) (by omega) hL.2.1.pos hQ) ?_
    rintro _ h2 ⟨y1, rfl, y2⟩
    exact e_icmp_eq (tgt := 1029) dL_law_884 (by decide) (fun _ => kt _ _ _ _ _ _ _ _ (hL.fin z2 z3 y1 y2 rfl) (by omega)) (fun z => absurd rfl z)
  | some x =>
    obtain ⟨rfl, z3⟩ := hz
    refine e_aload_n dL_law_880 rfl ?_
    refine e_V0 dL_law_881 gL_46 ho' rfl (by omega) (Nat.le_of_ble_eq_true rfl) rfl rfl (con_rnext d (some x) M1 hT (by omega) (by omega) hL.2.1.pos hQ) ?_
    rintro _ h2 ⟨y1, rfl, y2⟩
    exact e_icmp_eq (tgt := 1029) dL_law_884 (by decide) (fun _ => kt _ _ _ _ _ _ _ _ (hL.fin z2 z3 y1 y2 (by rw [if_pos rfl])) (by omega)) (fun z => absurd rfl z)
theorem law_c7 (hks : ks ≤ 512) (hL : LI xs h S tk q cv cb hv ks) (kt : KT d n k5 xs i ks Q) : x_E mL_law (d + 80) (n + 1) (k5 + 5) 889 (lwL i) [] h Q := by
  obtain ⟨fs, ho⟩ := hL.2.1.obj
  obtain ⟨hT, h60, htk, -⟩ := hL.2.1.tr
  have h187 : 187 ≤ h.1 := by have := hL.1.2.2.2; omega
  refine e_bud (Nat.le_succ n) (Nat.le_add_right k5 5) ?_
  refine e_aload_n dL_law_889 rfl ?_
  refine e_V0 dL_law_890 gL_47 ho rfl (by omega) (Nat.le_of_ble_eq_true rfl) rfl rfl (con_back d hL.2.1 hL.1.2.2.1 h187 hL.1.2.1) ?_
  rintro rv h1 ⟨z2, o, hQ, hz⟩
  have M1 := hL.2.2.cg hL.1.2.2.2 z2
  obtain ⟨fs', ho'⟩ := M1.obj
  cases o with
  | none =>
    obtain ⟨rfl, z3⟩ := hz
    refine e_aload_n dL_law_893 rfl ?_
    refine e_V0 dL_law_894 gL_50 ho' rfl (by omega) (Nat.le_of_ble_eq_true rfl) rfl rfl (con_rback d none M1 hT (by omega) (by omega) hL.2.1.pos hQ) ?_
    rintro _ h2 ⟨y1, rfl, y2⟩
    exact e_icmp_eq (tgt := 1029) dL_law_897 (by decide) (fun _ => kt _ _ _ _ _ _ _ _ (hL.fin z2 z3 y1 y2 rfl) (by omega)) (fun z => absurd rfl z)
  | some x =>
    obtain ⟨rfl, z3⟩ := hz
    refine e_aload_n dL_law_893 rfl ?_
    refine e_V0 dL_law_894 gL_50 ho' rfl (by omega) (Nat.le_of_ble_eq_true rfl) rfl rfl (con_rback d (some x) M1 hT (by omega) (by omega) hL.2.1.pos hQ) ?_
    rintro _ h2 ⟨y1, rfl, y2⟩
    exact e_icmp_eq (tgt := 1029) dL_law_897 (by decide) (fun _ => kt _ _ _ _ _ _ _ _ (hL.fin z2 z3 y1 y2 (by rw [if_neg Bool.false_ne_true, Nat.add_zero])) (by omega)) (fun z => absurd rfl z)
theorem lg_self (x : Int64) : lg_cmp x x = 0 := by
  unfold lg_cmp
  simp
theorem law_c8 (hi : i + 10 ≤ xs.length) (hks : ks ≤ 512) (hL : LI xs h S tk q cv cb hv ks) (kt : KT d n k5 xs i ks Q) : x_E mL_law (d + 80) (n + 1) (k5 + 5) 902 (lwL i) [] h Q := by
  obtain ⟨fs, ho⟩ := hL.2.1.obj
  obtain ⟨fs', ho'⟩ := hL.2.2.obj
  have hs := hL.1.1
  refine e_bud (Nat.le_succ n) (Nat.le_add_right k5 5) ?_
  refine e_aload_n dL_law_902 rfl ?_
  refine e_aload_n dL_law_903 rfl ?_
  refine e_iload_n dL_law_904 rfl ?_
  refine e_iconst (v := 1) dL_law_905 (by decide) ?_
  refine e_iadd dL_law_906 ?_
  refine e_sld dL_law_907 hs (nI_add i 1) (by omega) ?_
  refine e_V1d dL_law_908 gL_51 ho rfl (by omega) (Nat.le_of_ble_eq_true rfl) rfl rfl (con_word d _ hL.2.1) ?_
  refine e_aload_n dL_law_911 rfl ?_
  refine e_aload_n dL_law_912 rfl ?_
  refine e_iload_n dL_law_913 rfl ?_
  refine e_iconst (v := 1) dL_law_914 (by decide) ?_
  refine e_iadd dL_law_915 ?_
  refine e_sld dL_law_916 hs (nI_add i 1) (by omega) ?_
  refine e_V1d dL_law_917 gL_55 ho' rfl (by omega) (Nat.le_of_ble_eq_true rfl) rfl rfl (con_rword d _ hL.2.2 (by omega)) ?_
  refine e_lcmp dL_law_920 ?_
  rw [lg_self]
  exact e_if_eq (tgt := 1029) dL_law_921 (by decide) (fun _ => kt _ _ _ _ _ _ _ _ hL (by omega)) (fun z => absurd rfl z)
theorem law_c9 (hks : ks ≤ 512) (hL : LI xs h S tk q cv cb hv ks) (kt : KT d n k5 xs i ks Q) : x_E mL_law (d + 80) (n + 1) (k5 + 5) 926 (lwL i) [] h Q := by
  obtain ⟨fs, ho⟩ := hL.2.1.obj
  obtain ⟨fs', ho'⟩ := hL.2.2.obj
  refine e_bud (Nat.le_succ n) (Nat.le_add_right k5 5) ?_
  refine e_aload_n dL_law_926 rfl ?_
  refine e_V0d dL_law_927 gL_56 ho rfl (by omega) (Nat.le_of_ble_eq_true rfl) rfl rfl (con_place d hL.2.1) ?_
  refine e_aload_n dL_law_930 rfl ?_
  refine e_V0d dL_law_931 gL_60 ho' rfl (by omega) (Nat.le_of_ble_eq_true rfl) rfl rfl (con_rplace d hL.2.2 (by omega)) ?_
  exact e_icmp_eq (tgt := 1029) dL_law_934 (by decide) (fun _ => kt _ _ _ _ _ _ _ _ hL (by omega)) (fun z => absurd rfl z)
theorem law_c10 (hL : LI xs h S tk q cv cb hv ks) (kt : KT d n k5 xs i ks Q) : x_E mL_law (d + 80) (n + 1) (k5 + 5) 939 (lwL i) [] h Q := by
  obtain ⟨fs, ho⟩ := hL.2.1.obj
  have h187 : 187 ≤ h.1 := by have := hL.1.2.2.2; omega
  refine e_bud (Nat.le_succ n) (Nat.le_add_right k5 5) ?_
  refine e_aload_n dL_law_939 rfl ?_
  refine e_V0 dL_law_940 gL_61 ho rfl (by omega) (Nat.le_of_ble_eq_true rfl) rfl rfl (con_clear d hL.2.1 hL.1.2.2.1 h187) ?_
  rintro _ h1 ⟨rfl, z2, z3⟩
  have M1 := hL.2.2.cg hL.1.2.2.2 z2
  obtain ⟨fs', ho'⟩ := M1.obj
  refine e_aload_n dL_law_943 rfl ?_
  refine e_V0 dL_law_944 gL_64 ho' rfl (by omega) (Nat.le_of_ble_eq_true rfl) rfl rfl (con_rclear d M1) ?_
  rintro _ h2 ⟨rfl, y1, y2⟩
  refine e_goto (tgt := 1029) dL_law_947 (by decide) ?_
  exact kt _ _ _ _ _ _ _ _ (hL.fin z2 z3 y1 y2 (by rw [if_neg Bool.false_ne_true, Nat.add_zero])) (by omega)
theorem law_c11 (hi : i + 10 ≤ xs.length) (hL : LI xs h S tk q cv cb hv ks) (kt : KT d n k5 xs i ks Q) : x_E mL_law (d + 80) (n + 1) (k5 + 5) 950 (lwL i) [] h Q := by
  obtain ⟨fs, ho⟩ := hL.2.1.obj
  have h187 : 187 ≤ h.1 := by have := hL.1.2.2.2; omega
  have hs := hL.1.1
  refine e_bud (Nat.le_succ n) (Nat.le_add_right k5 5) ?_
  refine e_aload_n dL_law_950 rfl ?_
  refine e_aload_n dL_law_951 rfl ?_
  refine e_iload_n dL_law_952 rfl ?_
  refine e_iconst (v := 1) dL_law_953 (by decide) ?_
  refine e_iadd dL_law_954 ?_
  refine e_sld dL_law_955 hs (nI_add i 1) (by omega) ?_
  refine e_V1 dL_law_956 gL_65 ho rfl (by omega) (Nat.le_of_ble_eq_true rfl) rfl rfl (con_charge d (xs.getD (i + 1) 0) hL.2.1 hL.1.2.2.1 h187) ?_
  rintro rv h1 ⟨z2, hz⟩
  have M1 := hL.2.2.cg hL.1.2.2.2 z2
  obtain ⟨fs', ho'⟩ := M1.obj
  have hs := (hL.1.cg z2).1
  by_cases hc : xs.getD (i + 1) 0 < 0 ∨ 999 < xs.getD (i + 1) 0
  · rw [if_pos hc] at hz
    obtain ⟨rfl, z3⟩ := hz
    refine e_aload_n dL_law_959 rfl ?_
    refine e_aload_n dL_law_960 rfl ?_
    refine e_iload_n dL_law_961 rfl ?_
    refine e_iconst (v := 1) dL_law_962 (by decide) ?_
    refine e_iadd dL_law_963 ?_
    refine e_sld dL_law_964 hs (nI_add i 1) (by omega) ?_
    refine e_V1 dL_law_965 gL_69 ho' rfl (by omega) (Nat.le_of_ble_eq_true rfl) rfl rfl (con_rcharge d (xs.getD (i + 1) 0) M1) ?_
    rintro rv h2 ⟨y1, hy⟩
    rw [if_pos hc] at hy
    obtain ⟨rfl, y2⟩ := hy
    exact e_icmp_eq (tgt := 1029) dL_law_968 (by decide) (fun _ => kt _ _ _ _ _ _ _ _ (hL.fin z2 z3 y1 y2 rfl) (by omega)) (fun z => absurd rfl z)
  · rw [if_neg hc] at hz
    obtain ⟨rfl, z3⟩ := hz
    refine e_aload_n dL_law_959 rfl ?_
    refine e_aload_n dL_law_960 rfl ?_
    refine e_iload_n dL_law_961 rfl ?_
    refine e_iconst (v := 1) dL_law_962 (by decide) ?_
    refine e_iadd dL_law_963 ?_
    refine e_sld dL_law_964 hs (nI_add i 1) (by omega) ?_
    refine e_V1 dL_law_965 gL_69 ho' rfl (by omega) (Nat.le_of_ble_eq_true rfl) rfl rfl (con_rcharge d (xs.getD (i + 1) 0) M1) ?_
    rintro rv h2 ⟨y1, hy⟩
    rw [if_neg hc] at hy
    obtain ⟨rfl, y2⟩ := hy
    exact e_icmp_eq (tgt := 1029) dL_law_968 (by decide) (fun _ => kt _ _ _ _ _ _ _ _ (hL.fin z2 z3 y1 y2 rfl) (by omega)) (fun z => absurd rfl z)
theorem law_c12 (hi : i + 10 ≤ xs.length) (hks : ks ≤ 512) (hL : LI xs h S tk q cv cb hv ks) (kt : KT d n k5 xs i ks Q) : x_E mL_law (d + 80) (n + 1) (k5 + 5) 973 (lwL i) [] h Q := by
  obtain ⟨fs, ho⟩ := hL.2.1.obj
  obtain ⟨fs', ho'⟩ := hL.2.2.obj
  obtain ⟨hT, h60, htk, -⟩ := hL.2.1.tr
  have hs := hL.1.1
  refine e_bud (Nat.le_succ n) (Nat.le_add_right k5 5) ?_
  refine e_aload_n dL_law_973 rfl ?_
  refine e_aload_n dL_law_974 rfl ?_
  refine e_iload_n dL_law_975 rfl ?_
  refine e_iconst (v := 1) dL_law_976 (by decide) ?_
  refine e_iadd dL_law_977 ?_
  refine e_sld dL_law_978 hs (nI_add i 1) (by omega) ?_
  refine e_V1d dL_law_979 gL_70 ho rfl (by omega) (Nat.le_of_ble_eq_true rfl) rfl rfl (con_count d _ hL.2.1) ?_
  refine e_aload_n dL_law_982 rfl ?_
  refine e_aload_n dL_law_983 rfl ?_
  refine e_iload_n dL_law_984 rfl ?_
  refine e_iconst (v := 1) dL_law_985 (by decide) ?_
  refine e_iadd dL_law_986 ?_
  refine e_sld dL_law_987 hs (nI_add i 1) (by omega) ?_
  refine e_V1d dL_law_988 gL_74 ho' rfl (by omega) (Nat.le_of_ble_eq_true rfl) rfl rfl (con_rcount d _ hL.2.2 hT (by omega) (by omega)) ?_
  exact e_icmp_eq (tgt := 1029) dL_law_991 (by decide) (fun _ => kt _ _ _ _ _ _ _ _ hL (by omega)) (fun z => absurd rfl z)
theorem law_c13 (hi : i + 10 ≤ xs.length) (hks : ks ≤ 512) (hL : LI xs h S tk q cv cb hv ks) (kt : KT d n k5 xs i ks Q) : x_E mL_law (d + 80) (n + 1) (k5 + 5) 996 (lwL i) [] h Q := by
  obtain ⟨fs, ho⟩ := hL.2.1.obj
  obtain ⟨fs', ho'⟩ := hL.2.2.obj
  obtain ⟨hT, h60, htk, -⟩ := hL.2.1.tr
  have hs := hL.1.1
  refine e_bud (Nat.le_succ n) (Nat.le_add_right k5 5) ?_
  refine e_aload_n dL_law_996 rfl ?_
  refine e_aload_n dL_law_997 rfl ?_
  refine e_iload_n dL_law_998 rfl ?_
  refine e_iconst (v := 1) dL_law_999 (by decide) ?_
  refine e_iadd dL_law_1000 ?_
  refine e_sld dL_law_1001 hs (nI_add i 1) (by omega) ?_
  refine e_aload_n dL_law_1002 rfl ?_
  refine e_iload_n dL_law_1003 rfl ?_
  refine e_iconst (v := 2) dL_law_1004 (by decide) ?_
  refine e_iadd dL_law_1005 ?_
  refine e_sld dL_law_1006 hs (nI_add i 2) (by omega) ?_
  refine e_V2d dL_law_1007 gL_75 ho rfl (by omega) (Nat.le_of_ble_eq_true rfl) rfl rfl (con_level d _ _ hL.2.1) ?_
  refine e_aload_n dL_law_1010 rfl ?_
  refine e_aload_n dL_law_1011 rfl ?_
  refine e_iload_n dL_law_1012 rfl ?_
  refine e_iconst (v := 1) dL_law_1013 (by decide) ?_
  refine e_iadd dL_law_1014 ?_
  refine e_sld dL_law_1015 hs (nI_add i 1) (by omega) ?_
  refine e_aload_n dL_law_1016 rfl ?_
  refine e_iload_n dL_law_1017 rfl ?_
  refine e_iconst (v := 2) dL_law_1018 (by decide) ?_
  refine e_iadd dL_law_1019 ?_
  refine e_sld dL_law_1020 hs (nI_add i 2) (by omega) ?_
  refine e_V2d dL_law_1021 gL_79 ho' rfl (by omega) (Nat.le_of_ble_eq_true rfl) rfl rfl (con_rlevel d _ _ hL.2.2 hT (by omega) (by omega)) ?_
  exact e_icmp_eq (tgt := 1029) dL_law_1024 (by decide) (fun _ => kt _ _ _ _ _ _ _ _ hL (by omega)) (fun z => absurd rfl z)
end LB
