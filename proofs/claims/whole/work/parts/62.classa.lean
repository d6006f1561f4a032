/-! the class: add -/
section CA
variable {h : xH} {S : Tr} {tk : Nat} {q : qW} {cv : xE} {cb : Bool} {hv : xE}
theorem con_add_neg (d : Nat) (e : xE) (hneg : e.2.2.2.2 < 0) : x_D mX2_add d 1 5 [.ref 2, .long e.1, .long e.2.1, .long e.2.2.1, .long e.2.2.2.1, .int e.2.2.2.2] h [.int (-1)] h := by
  refine e_enter (by decide) (Nat.le_of_ble_eq_true rfl) ?_
  refine e_iload dX2_add_0 rfl ?_
  refine e_if_ge (tgt := 7) dX2_add_2 (by decide) (fun c => absurd hneg (Int32.not_lt.mpr c)) (fun _ => ?_)
  refine e_iconst (v := (-1)) dX2_add_5 (by decide) ?_
  exact e_iret dX2_add_6 rfl rfl ⟨rfl, rfl⟩
theorem con_add_has (d : Nat) (e : xE) (hL : CL h S tk q cv cb hv) (hN : xN h) (h187 : 187 ≤ h.1) (hpos : ¬ e.2.2.2.2 < 0) (hin : inI S 0 (od e + 1)) : x_Con mX2_add (d + 7) 1 5 [.ref 2, .long e.1, .long e.2.1, .long e.2.2.1, .long e.2.2.2.1, .int e.2.2.2.2] h (fun rv h' => rv = [.int 0] ∧ x_cg h h' ∧ CL h' S tk q cv cb hv) := by
  obtain ⟨ch, D, fu, ca, ha, hS, hI, hT, hcv, hok, hhv⟩ := hL
  obtain ⟨ok, se⟩ := ok_pos hpos
  have hx := x_ext.nw (c := eC e) hN
  have hS2 := hS.ext hx
  have he : (x_nw h (eC e)).2 h.1 = some (eC e) := x_nw_s _ _
  obtain ⟨c1, i, c2, hc, hC⟩ := hI.ex (l := 0) (by obtain ⟨n, hn, -⟩ := hI.2.1; omega) (sk e)
  have him : i ∈ c1 ++ i :: c2 := List.mem_append_right _ List.mem_cons_self
  have hpos' : (c1 ++ i :: c2)[c1.length]? = some i := by rw [List.getElem?_append_right (Nat.le_refl _), Nat.sub_self]; rfl
  have hi60 : i < 60 := by have := hI.2.2.2.1 _ _ hc i him; have := hI.2.2.2.2.1; omega
  obtain ⟨P, hp⟩ := hS2.2.2.2.2.1 i hi60
  obtain ⟨q1, q2, q3, q4, q5, q6, q7⟩ := hp.2.2.2 0 _ _ hc hpos'
  have hh := (hI.has ok hc hC).mpr (by rw [hT, se]; exact hin)
  refine e_enter (by decide) (Nat.le_of_ble_eq_true rfl) ?_
  refine e_iload dX2_add_0 rfl ?_
  refine e_if_ge (tgt := 7) dX2_add_2 (by decide) (fun _ => ?_) (fun c => absurd (Int32.not_lt.mp hpos) c)
  refine e_new dX2_add_7 nX2_7 rfl rfl ?_
  refine e_dup dX2_add_10 rfl ?_
  refine e_lload_n dX2_add_11 rfl ?_
  refine e_lload_n dX2_add_12 rfl ?_
  refine e_lload dX2_add_13 rfl ?_
  refine e_lload dX2_add_15 rfl ?_
  refine e_iload dX2_add_17 rfl ?_
  refine e_I5d dX2_add_19 gX2_11 (x_nw_s _ _) (by omega) (Nat.le_of_ble_eq_true rfl) rfl rfl (con_Entry_init (d + 1) _ h.1 e (x_nw_s _ _) rfl) ?_
  rw [x_nw_up]
  refine e_astore dX2_add_22 (by decide) rfl ?_
  refine e_aload_n dX2_add_24 rfl ?_
  refine e_iconst (v := 0) dX2_add_25 (by decide) ?_
  refine e_aload dX2_add_26 rfl ?_
  refine e_V2d dX2_add_28 gX2_60 hS2.1 rfl (by omega) (Nat.le_of_ble_eq_true rfl) rfl rfl (con_pic d 2 h.1 0 e hS2.1 hS2.2.2.2.2.1 hI he ok hc hC) ?_
  refine e_aload dX2_add_31 rfl ?_
  refine e_V1d dX2_add_33 gX2_64 hp.1.1 rfl (by omega) (Nat.le_of_ble_eq_true rfl) rfl rfl (con_holds (d + 1) _ (pa i) h.1 e P (D i).2.2.1 hp.1 q1 q6 (hI.ten hc him) he) ?_
  rw [if_pos hh]
  refine e_if_eq (tgt := 41) dX2_add_36 (by decide) (fun z => absurd z (by decide)) (fun _ => ?_)
  refine e_iconst (v := 0) dX2_add_39 (by decide) ?_
  exact e_iret dX2_add_40 rfl rfl ⟨rfl, x_cg.nw hN, ch, D, fu, ca, ha, hS2, hI, hT, hx _ _ hcv, hok, hx _ _ hhv⟩
theorem con_add_new (d top : Nat) (e : xE) (w : Nat → Nat) (rs : Bool) (hL : CL h S tk q cv cb hv) (hN : xN h) (h187 : 187 ≤ h.1) (hpos : ¬ e.2.2.2.2 < 0) (hin : ¬ inI S 0 (od e + 1)) (hw : w 0 = od e + 1) (hP : pth S w 0 top rs) : x_Con mX2_add (d + 70) 1 5 [.ref 2, .long e.1, .long e.2.1, .long e.2.2.1, .long e.2.2.2.1, .int e.2.2.2.2] h (fun rv h' => x_cg h h' ∧ (if tk + wnt top rs ≤ 60 then rv = [.int (if (sPut (top + 1) 0 (od e + 1) S q).1 then 1 else -2)] ∧ CL h' (sPut (top + 1) 0 (od e + 1) S q).2.1 (tk + wnt top rs) (sPut (top + 1) 0 (od e + 1) S q).2.2 cv cb hv else rv = [.int (-1)] ∧ CL h' S tk q cv cb hv)) := by
  obtain ⟨ch, D, fu, ca, ha, hS, hI, hT, hcv, hok, hhv⟩ := hL
  subst hT
  obtain ⟨ok, se⟩ := ok_pos hpos
  have hx := x_ext.nw (c := eC e) hN
  have hS2 := hS.ext hx
  have he : (x_nw h (eC e)).2 h.1 = some (eC e) := x_nw_s _ _
  obtain ⟨c1, i, c2, hc, hC⟩ := hI.ex (l := 0) (by obtain ⟨n, hn, -⟩ := hI.2.1; omega) (sk e)
  have him : i ∈ c1 ++ i :: c2 := List.mem_append_right _ List.mem_cons_self
  have hpos' : (c1 ++ i :: c2)[c1.length]? = some i := by rw [List.getElem?_append_right (Nat.le_refl _), Nat.sub_self]; rfl
  have h60 := hI.2.2.2.2.1
  have hi60 : i < 60 := by have := hI.2.2.2.1 _ _ hc i him; omega
  obtain ⟨P, hp⟩ := hS2.2.2.2.2.1 i hi60
  obtain ⟨q1, q2, q3, q4, q5, q6, q7⟩ := hp.2.2.2 0 _ _ hc hpos'
  have hh : ¬ cnt (od e) (D i).2.2.1 < cnt (od e + 1) (D i).2.2.1 := fun z => hin (by have := (hI.has ok hc hC).mp z; rw [se] at this; exact this)
  obtain ⟨h30, -, -⟩ := ch_len hI
  have htop := hP.1
  rw [trS_len] at htop
  have hwt : wnt top rs ≤ 32 := by unfold wnt; split <;> omega
  have hwe : top + (if rs then 2 else 0) = wnt top rs := by unfold wnt; cases rs <;> simp
  refine e_enter (by decide) (Nat.le_of_ble_eq_true rfl) ?_
  refine e_iload dX2_add_0 rfl ?_
  refine e_if_ge (tgt := 7) dX2_add_2 (by decide) (fun _ => ?_) (fun c => absurd (Int32.not_lt.mp hpos) c)
  refine e_new dX2_add_7 nX2_7 rfl rfl ?_
  refine e_dup dX2_add_10 rfl ?_
  refine e_lload_n dX2_add_11 rfl ?_
  refine e_lload_n dX2_add_12 rfl ?_
  refine e_lload dX2_add_13 rfl ?_
  refine e_lload dX2_add_15 rfl ?_
  refine e_iload dX2_add_17 rfl ?_
  refine e_I5d dX2_add_19 gX2_11 (x_nw_s _ _) (by omega) (Nat.le_of_ble_eq_true rfl) rfl rfl (con_Entry_init (d + 1) _ h.1 e (x_nw_s _ _) rfl) ?_
  rw [x_nw_up]
  refine e_astore dX2_add_22 (by decide) rfl ?_
  refine e_aload_n dX2_add_24 rfl ?_
  refine e_iconst (v := 0) dX2_add_25 (by decide) ?_
  refine e_aload dX2_add_26 rfl ?_
  refine e_V2d dX2_add_28 gX2_60 hS2.1 rfl (by omega) (Nat.le_of_ble_eq_true rfl) rfl rfl (con_pic d 2 h.1 0 e hS2.1 hS2.2.2.2.2.1 hI he ok hc hC) ?_
  refine e_aload dX2_add_31 rfl ?_
  refine e_V1d dX2_add_33 gX2_64 hp.1.1 rfl (by omega) (Nat.le_of_ble_eq_true rfl) rfl rfl (con_holds (d + 1) _ (pa i) h.1 e P (D i).2.2.1 hp.1 q1 q6 (hI.ten hc him) he) ?_
  rw [if_neg hh]
  refine e_if_eq (tgt := 41) dX2_add_36 (by decide) (fun _ => ?_) (fun z => absurd rfl z)
  refine e_aload_n dX2_add_41 rfl ?_
  refine e_aload_n dX2_add_42 rfl ?_
  refine e_aload dX2_add_43 rfl ?_
  refine e_V1d dX2_add_45 gX2_68 hS2.1 rfl (by omega) (Nat.le_of_ble_eq_true rfl) rfl rfl (con_need d 2 h.1 top e w rs hS2.1 hS2.2.2.2.2.1 hI he ok hP (by rw [hw, se])) ?_
  refine e_V1d dX2_add_48 gX2_72 hS2.1 rfl (by omega) (Nat.le_of_ble_eq_true rfl) rfl rfl (con_takePages d 2 (wnt top rs) hS2.1 h60 (by omega)) ?_
  by_cases hle : tk + wnt top rs ≤ 60
  · rw [if_pos hle, if_pos hle]
    refine e_if_ne (tgt := 56) dX2_add_51 (by decide) (fun _ => ?_) (fun z => absurd z (by decide))
    have hS3 := hS2.up2 (tk' := tk + wnt top rs) (fu' := tk) (q' := q) (ca' := ca) (cb' := cb) (ha' := ha) hS.2.2.2.2.2
    have hf3 := x_cf.up2 (c := tC (tk + wnt top rs) tk q.1 (clQ q) ca cb ha) hS2.1
    have he3 := hf3.2.1 _ _ he
    have hcv3 := hf3.2.1 _ _ (hx _ _ hcv)
    have hhv3 := hf3.2.1 _ _ (hx _ _ hhv)
    refine e_aload_n dX2_add_56 rfl ?_
    refine e_iconst (v := 0) dX2_add_57 (by decide) ?_
    refine e_aload dX2_add_58 rfl ?_
    refine e_null dX2_add_60 ?_
    refine e_V3 dX2_add_61 gX2_76 hS3.1 rfl (by omega) (Nat.le_of_ble_eq_true rfl) rfl rfl (con_put top w rs d (tk + wnt top rs) hle top 0 _ ch D tk q h.1 0 e (by omega) hS3 hI hP (by rw [hw, se]) ok he3 (Or.inl ⟨rfl, rfl, hpos⟩) (by omega)) ?_
    rintro _ h4 ⟨rfl, hf4, ch', D', fu', y1, y2, y3, y4, y5, y6, y7⟩
    rw [hw] at y1 y5 ⊢
    have fin : x_cg h h4 ∧ CL h4 (sPut (top + 1) 0 (od e + 1) (trS ch D) q).2.1 (tk + wnt top rs) (sPut (top + 1) 0 (od e + 1) (trS ch D) q).2.2 cv cb hv := ⟨((x_cg.nw hN).cf h187 hf3).cf h187 hf4, ch', D', fu', ca, ha, y1, y2.mono y4 hle, y5, hf4.2.1 _ _ hcv3, hok, hf4.2.1 _ _ hhv3⟩
    by_cases er : (sPut (top + 1) 0 (od e + 1) (trS ch D) q).1 = true
    · refine e_if_eq (tgt := 71) dX2_add_64 (by decide) (fun c => absurd c (by rw [er]; decide)) (fun _ => ?_)
      refine e_iconst (v := 1) dX2_add_67 (by decide) ?_
      refine e_goto (tgt := 73) dX2_add_68 (by decide) ?_
      refine e_iret dX2_add_73 rfl rfl ⟨fin.1, ?_⟩
      rw [if_pos hle, if_pos er]
      exact ⟨rfl, fin.2⟩
    · refine e_if_eq (tgt := 71) dX2_add_64 (by decide) (fun _ => ?_) (fun c => absurd (by rw [Bool.not_eq_true] at er; rw [er]; rfl) c)
      refine e_bipush (v := (-2)) dX2_add_71 (by decide) ?_
      refine e_iret dX2_add_73 rfl rfl ⟨fin.1, ?_⟩
      rw [if_pos hle, if_neg er]
      exact ⟨rfl, fin.2⟩
  · rw [if_neg hle, if_neg hle]
    refine e_if_ne (tgt := 56) dX2_add_51 (by decide) (fun z => absurd rfl z) (fun _ => ?_)
    refine e_iconst (v := (-1)) dX2_add_54 (by decide) ?_
    refine e_iret dX2_add_55 rfl rfl ⟨x_cg.nw hN, ?_⟩
    rw [if_neg hle]
    exact ⟨rfl, ch, D, fu, ca, ha, hS2, hI, rfl, hx _ _ hcv, hok, hx _ _ hhv⟩
end CA
