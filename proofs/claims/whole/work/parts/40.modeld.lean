/-! the reference: add and level on the tree -/
theorem pth_ex {S : Tr} (hT : trK S) : ∀ (k l v : Nat), l + k + 1 = S.length → 0 < v → ¬ inI S l v → ∃ w top rs, w l = v ∧ l ≤ top ∧ pth S w l top rs := by
  intro k
  induction k with
  | zero =>
    intro l v hl hv hn
    obtain ⟨c, hc⟩ : ∃ c, S[l]? = some c := ⟨_, List.getElem?_eq_getElem (by omega)⟩
    obtain ⟨c1, g, c2, hI⟩ := (hT.1 l c hc).ex v
    have hc' := hc
    rw [hI.1] at hc' hI
    have hk := hT.1 l _ hc'
    have hvn : v ∉ g.2.2 := fun q => hn ((inI_own hk hc' hI).mpr q)
    have h10 := (hk.2.2 g (List.mem_append_right _ List.mem_cons_self)).2.2
    by_cases hg : g.2.2.length < 10
    · refine ⟨fun _ => v, l, false, rfl, Nat.le_refl _, by omega, fun j h1 h2 => ?_⟩
      have : j = l := by omega
      subst this
      exact ⟨c1, g, c2, hc', hI, hvn, hv, fun q => absurd q (by omega), fun _ => hg⟩
    · refine ⟨fun _ => v, l, true, rfl, Nat.le_refl _, by omega, fun j h1 h2 => ?_⟩
      have : j = l := by omega
      subst this
      exact ⟨c1, g, c2, hc', hI, hvn, hv, fun q => absurd q (by omega), fun _ => ⟨by omega, by omega⟩⟩
  | succ k ih =>
    intro l v hl hv hn
    obtain ⟨c, hc⟩ : ∃ c, S[l]? = some c := ⟨_, List.getElem?_eq_getElem (by omega)⟩
    obtain ⟨c1, g, c2, hI⟩ := (hT.1 l c hc).ex v
    have hc' := hc
    rw [hI.1] at hc' hI
    have hk := hT.1 l _ hc'
    have hvn : v ∉ g.2.2 := fun q => hn ((inI_own hk hc' hI).mpr q)
    have h10 := (hk.2.2 g (List.mem_append_right _ List.mem_cons_self)).2.2
    by_cases hg : g.2.2.length < 10
    · refine ⟨fun _ => v, l, false, rfl, Nat.le_refl _, by omega, fun j h1 h2 => ?_⟩
      have : j = l := by omega
      subst this
      exact ⟨c1, g, c2, hc', hI, hvn, hv, fun q => absurd q (by omega), fun _ => hg⟩
    · have hg10 : g.2.2.length = 10 := by omega
      have hx := (lvK_split false hk hg10).2
      have hnew : ¬ inI S (l + 1) (g.2.2.getD 5 0) := fun q => by
        obtain ⟨c', q', z1, z2, z3⟩ := hT.2.2.2.2.1 l _ q
        exact x5_new hk hc' hg10 q'.2.1 ⟨c', q', z1, z2, z3, rfl⟩
      obtain ⟨w, top, rs, w1, w0, w2, w3⟩ := ih (l + 1) (g.2.2.getD 5 0) (by omega) (by omega) hnew
      refine ⟨fun j => if j = l then v else w j, top, rs, by simp, by omega, w2, fun j h1 h2 => ?_⟩
      by_cases e : j = l
      · subst e
        refine ⟨c1, g, c2, hc', by simpa using hI, by simpa using hvn, by simpa using hv, fun _ => ⟨hg10, ?_⟩, fun q => absurd q (by omega)⟩
        simp [w1]
      · obtain ⟨d1, g', d2, b1, b2, b3, b4, b5, b6⟩ := w3 j (by omega) h2
        refine ⟨d1, g', d2, b1, by simpa [e] using b2, by simpa [e] using b3, by simpa [e] using b4, fun q => ?_, b6⟩
        have b5 := b5 q
        refine ⟨b5.1, ?_⟩
        have : j + 1 ≠ l := by omega
        simpa [this] using b5.2
theorem rk_num {kv : Nat → xE} {ks : Nat} (e : xE) (h : 1 ≤ ks) : rk (kvu kv ks e) ks = od e + 1 := by
  unfold rk kvu
  rw [if_neg (by omega), if_pos rfl]
section MD
variable {kv : Nat → xE} {cm : Nat → Nat} {ks tk : Nat} {sd : Int32} {ck : Nat} {cb : Bool} {hn : Nat} {q : qW} {S : Tr} {h : xH}
/-- pages wanted -/
def wnt (top : Nat) (rs : Bool) : Nat := if rs then top + 2 else top
theorem con_madd_neg (d m : Nat) (e : xE) (hneg : e.2.2.2.2 < 0) : x_D mX3_add d 0 0 [.ref m, .long e.1, .long e.2.1, .long e.2.2.1, .long e.2.2.2.1, .int e.2.2.2.2] h [.int (-1)] h := by
  refine e_enter (by decide) (Nat.le_of_ble_eq_true rfl) ?_
  refine e_iload dX3_add_0 rfl ?_
  refine e_if_ge (tgt := 7) dX3_add_2 (by decide) (fun c => absurd hneg (Int32.not_lt.mpr c)) (fun _ => ?_)
  refine e_iconst (v := (-1)) dX3_add_5 (by decide) ?_
  exact e_iret dX3_add_6 rfl rfl ⟨rfl, rfl⟩
theorem con_madd_has (d m : Nat) (e : xE) (hM : MS h m S q kv cm ks tk sd ck cb hn) (hT : trK S) (h60 : nPg S ≤ 60) (hks : ks < 513) (hpos : ¬ e.2.2.2.2 < 0) (hin : inI S 0 (od e + 1)) :
    x_Con mX3_add (d + 5) 0 0 [.ref m, .long e.1, .long e.2.1, .long e.2.2.1, .long e.2.2.2.1, .int e.2.2.2.2] h (fun rv h' => x_mf m h h' ∧ rv = [.int 0] ∧ MS h' m S q (kvu kv ks e) cm ks tk sd ck cb hn) := by
  refine e_enter (by decide) (Nat.le_of_ble_eq_true rfl) ?_
  obtain ⟨it, il, lw, ll, ow, ni, nl, hm, hR⟩ := hM
  have hR2 := rr_kv hR e
  obtain ⟨hB, h30⟩ := hR2.mB hT h60 (by omega)
  obtain ⟨i0, hi0⟩ := (rr_itemOf hR2 ks).1 (by rw [rk_num e hR.2.2.2.2.2.2.2.2]; exact hin)
  have hlt : i0 < ni := hi0.1
  have hn6 := hB.1
  refine e_iload dX3_add_0 rfl ?_
  refine e_if_ge (tgt := 7) dX3_add_2 (by decide) (fun _ => ?_) (fun c => absurd (Int32.not_lt.mp hpos) c)
  refine e_aload_n dX3_add_7 rfl ?_
  refine e_lload_n dX3_add_8 rfl ?_
  refine e_lload_n dX3_add_9 rfl ?_
  refine e_lload dX3_add_10 rfl ?_
  refine e_lload dX3_add_12 rfl ?_
  refine e_iload dX3_add_14 rfl ?_
  refine e_V5 dX3_add_16 gX3_113 hm.1 rfl (by omega) (Nat.le_of_ble_eq_true rfl) rfl rfl (con_numbered (d + 4) h m e hm hks) ?_
  rintro _ h2 ⟨rfl, hm2, hf2⟩
  refine e_istore dX3_add_19 (by decide) rfl ?_
  refine e_aload_n dX3_add_21 rfl ?_
  refine e_iload dX3_add_22 rfl ?_
  refine e_V1d dX3_add_24 gX3_117 hm2.1 rfl (by omega) (Nat.le_of_ble_eq_true rfl) rfl rfl (con_itemOf (d + 2) h2 m ks (some i0) hm2 hB hks hi0) ?_
  refine e_if_lt (tgt := 32) dX3_add_27 (by decide) (fun c => absurd c (nI_pos (by omega))) (fun _ => ?_)
  refine e_iconst (v := 0) dX3_add_30 (by decide) ?_
  exact e_iret dX3_add_31 rfl rfl ⟨hf2, rfl, it, il, lw, ll, ow, ni, nl, hm2, hR2⟩
theorem con_madd_new (d m top : Nat) (e : xE) (w : Nat → Nat) (rs : Bool) (hM : MS h m S q kv cm ks tk sd ck cb hn) (hT : trK S) (h60 : nPg S ≤ tk) (htk : tk ≤ 60) (hks : ks < 513) (hpos : ¬ e.2.2.2.2 < 0) (hin : ¬ inI S 0 (od e + 1)) (hw : w 0 = od e + 1) (hP : pth S w 0 top rs) :
    x_Con mX3_add (d + 5) 0 0 [.ref m, .long e.1, .long e.2.1, .long e.2.2.1, .long e.2.2.2.1, .int e.2.2.2.2] h (fun rv h' => x_mf m h h' ∧ ∃ cm', (if tk + wnt top rs ≤ 60 then rv = [.int (if (sPut (top + 1) 0 (od e + 1) S q).1 then 1 else -2)] ∧ MS h' m (sPut (top + 1) 0 (od e + 1) S q).2.1 (sPut (top + 1) 0 (od e + 1) S q).2.2 (kvu kv ks e) cm' (ks + 1) (tk + wnt top rs) sd ck cb hn else rv = [.int (-1)] ∧ MS h' m S q (kvu kv ks e) cm' ks tk sd ck cb hn)) := by
  refine e_enter (by decide) (Nat.le_of_ble_eq_true rfl) ?_
  obtain ⟨it, il, lw, ll, ow, ni, nl, hm, hR⟩ := hM
  have hR2 := rr_kv hR e
  have hk1 : rk (kvu kv ks e) ks = od e + 1 := rk_num e hR.2.2.2.2.2.2.2.2
  obtain ⟨hB, h30⟩ := hR2.mB hT (by omega) (by omega)
  have hno := (rr_itemOf hR2 ks).2 (by rw [hk1]; exact hin)
  have htop := hP.1
  refine e_iload dX3_add_0 rfl ?_
  refine e_if_ge (tgt := 7) dX3_add_2 (by decide) (fun _ => ?_) (fun c => absurd (Int32.not_lt.mp hpos) c)
  refine e_aload_n dX3_add_7 rfl ?_
  refine e_lload_n dX3_add_8 rfl ?_
  refine e_lload_n dX3_add_9 rfl ?_
  refine e_lload dX3_add_10 rfl ?_
  refine e_lload dX3_add_12 rfl ?_
  refine e_iload dX3_add_14 rfl ?_
  refine e_V5 dX3_add_16 gX3_113 hm.1 rfl (by omega) (Nat.le_of_ble_eq_true rfl) rfl rfl (con_numbered (d + 4) h m e hm hks) ?_
  rintro _ h2 ⟨rfl, hm2, hf2⟩
  refine e_istore dX3_add_19 (by decide) rfl ?_
  refine e_aload_n dX3_add_21 rfl ?_
  refine e_iload dX3_add_22 rfl ?_
  refine e_V1d dX3_add_24 gX3_117 hm2.1 rfl (by omega) (Nat.le_of_ble_eq_true rfl) rfl rfl (con_itemOf (d + 2) h2 m ks none hm2 hB hks hno) ?_
  refine e_if_lt (tgt := 32) dX3_add_27 (by decide) (fun _ => ?_) (fun c => absurd (by decide) c)
  refine e_aload_n dX3_add_32 rfl ?_
  refine e_iload dX3_add_33 rfl ?_
  refine e_V1 dX3_add_35 gX3_120 hm2.1 rfl (by omega) (Nat.le_of_ble_eq_true rfl) rfl rfl (con_plan d m ks top w rs h2 cm hT (by omega) hks hP ⟨it, il, lw, ll, ow, ni, nl, hm2, hR2⟩ (by rw [hk1, hw]) (Nat.le_refl _)) ?_
  rintro _ h3 ⟨rfl, hf3, cm', hM3, hc3⟩
  have hM3' := hM3
  obtain ⟨it, il, lw, ll, ow, ni, nl, hm3, hR3⟩ := hM3
  obtain ⟨hB3, -⟩ := hR3.mB hT (by omega) (by omega)
  obtain ⟨c1, g, c2, a1, a2, a3, a4, a5, a6⟩ := hP.2 top (by omega) (Nat.le_refl _)
  have a7 := a6 rfl
  obtain ⟨e1, e2⟩ := hc3 top (Nat.le_refl _)
  obtain ⟨p0, hI, hp2, hpo⟩ := rr_isC hR3 hT (num := cm' top) a1 (by rw [e1]; exact a2)
  have m0 := hm3.1
  have m11 := hm3.2.2.2.2.2.2.2.2.2.2.2
  refine e_istore dX3_add_38 (by decide) rfl ?_
  refine e_aload_n dX3_add_40 rfl ?_
  refine e_aload_n dX3_add_41 rfl ?_
  refine e_iload dX3_add_42 rfl ?_
  refine e_aload_n dX3_add_44 rfl ?_
  refine e_get dX3_add_45 fX3_46 m0 rfl ?_
  refine e_iload dX3_add_48 rfl ?_
  refine e_iald dX3_add_50 m11 rfl rfl (af_get _ (show top < 32 by omega)) ?_
  refine e_V2d dX3_add_51 gX3_75 m0 rfl (by omega) (Nat.le_of_ble_eq_true rfl) rfl rfl (con_inCharge (d + 2) h3 m top (cm' top) p0 hm3 hB3 (by omega) (by omega) hI) ?_
  refine e_V1d dX3_add_54 gX3_84 m0 rfl (by omega) (Nat.le_of_ble_eq_true rfl) rfl rfl (con_filledS (d + 1) m top p0 ⟨_, _, _, _, _, rfl⟩ hm3 hR3 hT (by omega) (by omega) a1 hI.1 hI.2.1 hp2) ?_
  refine e_bipush (v := 10) dX3_add_57 (by decide) ?_
  have h10 := ((hT.1 top _ a1).2.2 g (List.mem_append_right _ List.mem_cons_self)).2.2
  -- from the flag on
  have go : x_E mX3_add (d + 5) 0 0 85 [(13, .int (nI (wnt top rs))), (12, .int (bI rs)), (11, .int (nI top)), (0, .ref m)] [] h3 (fun rv h' => x_mf m h h' ∧ ∃ cm', (if tk + wnt top rs ≤ 60 then rv = [.int (if (sPut (top + 1) 0 (od e + 1) S q).1 then 1 else -2)] ∧ MS h' m (sPut (top + 1) 0 (od e + 1) S q).2.1 (sPut (top + 1) 0 (od e + 1) S q).2.2 (kvu kv ks e) cm' (ks + 1) (tk + wnt top rs) sd ck cb hn else rv = [.int (-1)] ∧ MS h' m S q (kvu kv ks e) cm' ks tk sd ck cb hn)) := by
    have hwt : wnt top rs ≤ 32 := by unfold wnt; split <;> omega
    refine e_aload_n dX3_add_85 rfl ?_
    refine e_get dX3_add_86 fX3_123 m0 rfl ?_
    refine e_iload dX3_add_89 rfl ?_
    refine e_iadd dX3_add_91 ?_
    refine e_bipush (v := 60) dX3_add_92 (by decide) ?_
    rw [nI_add]
    refine e_icmp_le (tgt := 99) dX3_add_94 (by decide) (fun c => ?_) (fun c => ?_)
    · have hle : tk + wnt top rs ≤ 60 := (nI_leI (b := 60) (by omega) (by omega)).mp c
      refine e_aload_n dX3_add_99 rfl ?_
      refine e_dup dX3_add_100 rfl ?_
      refine e_get dX3_add_101 fX3_26 m0 rfl ?_
      refine e_iconst (v := 1) dX3_add_104 (by decide) ?_
      refine e_iadd dX3_add_105 ?_
      refine e_putM (s' := (ks + 1, ni, nl, S.length, tk, q.1, q.2.1, q.2.2, sd, ck, cb, hn)) dX3_add_106 fX3_26 m0 (by exact ⟨rfl, rfl⟩) (congrArg Value.int (nI_1 ks)) rfl ?_
      have hm4 := hm3.s (ks + 1, ni, nl, S.length, tk, q.1, q.2.1, q.2.2, sd, ck, cb, hn)
      have m0 := hm4.1
      refine e_aload_n dX3_add_109 rfl ?_
      refine e_dup dX3_add_110 rfl ?_
      refine e_get dX3_add_111 fX3_123 m0 rfl ?_
      refine e_iload dX3_add_114 rfl ?_
      refine e_iadd dX3_add_116 ?_
      refine e_putM (s' := (ks + 1, ni, nl, S.length, tk + wnt top rs, q.1, q.2.1, q.2.2, sd, ck, cb, hn)) dX3_add_117 fX3_123 m0 (by exact ⟨rfl, rfl⟩) (congrArg Value.int (nI_add tk (wnt top rs))) rfl ?_
      have hm5 := hm4.s (ks + 1, ni, nl, S.length, tk + wnt top rs, q.1, q.2.1, q.2.2, sd, ck, cb, hn)
      have hM5 : MS (x_up (x_up h3 m (mC m (ks + 1, ni, nl, S.length, tk, q.1, q.2.1, q.2.2, sd, ck, cb, hn))) m (mC m (ks + 1, ni, nl, S.length, tk + wnt top rs, q.1, q.2.1, q.2.2, sd, ck, cb, hn))) m S q (kvu kv ks e) cm' (ks + 1) (tk + wnt top rs) sd ck cb hn := ⟨it, il, lw, ll, ow, ni, nl, hm5, rr_ks hR3⟩
      refine e_aload_n dX3_add_120 rfl ?_
      refine e_iload dX3_add_121 rfl ?_
      refine e_iload dX3_add_123 rfl ?_
      refine e_V2 dX3_add_125 gX3_126 hm5.1 rfl (by omega) (Nat.le_of_ble_eq_true rfl) rfl rfl (con_perform (d := d) m top w rs hT hP (by unfold wnt at hle; split at hle <;> rename_i z <;> simp [z] <;> omega) (by omega) (fun i hi => ⟨(hc3 i hi).1, by have := (hc3 i hi).2; omega⟩) hM5) ?_
      rintro _ h6 ⟨hf6, rfl, hM6⟩
      rw [hw] at hM6 ⊢
      have hfr : x_mf m h h6 := ((hf2.tr hf3).up0.up0).tr hf6
      by_cases er : (sPut (top + 1) 0 (od e + 1) S q).1 = true
      · refine e_if_eq (tgt := 135) dX3_add_128 (by decide) (fun c => absurd c (by rw [er]; decide)) (fun _ => ?_)
        refine e_iconst (v := 1) dX3_add_131 (by decide) ?_
        refine e_goto (tgt := 137) dX3_add_132 (by decide) ?_
        refine e_iret dX3_add_137 rfl rfl ⟨hfr, cm', ?_⟩
        rw [if_pos hle, if_pos er]
        exact ⟨rfl, hM6⟩
      · refine e_if_eq (tgt := 135) dX3_add_128 (by decide) (fun _ => ?_) (fun c => absurd (by rw [Bool.not_eq_true] at er; rw [er]; rfl) c)
        refine e_bipush (v := (-2)) dX3_add_135 (by decide) ?_
        refine e_iret dX3_add_137 rfl rfl ⟨hfr, cm', ?_⟩
        rw [if_pos hle, if_neg er]
        exact ⟨rfl, hM6⟩
    · have hgt : ¬ tk + wnt top rs ≤ 60 := fun z => c ((nI_leI (b := 60) (by omega) (by omega)).mpr z)
      refine e_iconst (v := (-1)) dX3_add_97 (by decide) ?_
      refine e_iret dX3_add_98 rfl rfl ⟨hf2.tr hf3, cm', ?_⟩
      rw [if_neg hgt]
      exact ⟨rfl, hM3'⟩
  cases rs with
  | false =>
    have a8 : g.2.2.length < 10 := a7
    refine e_icmp_ne (tgt := 66) dX3_add_59 (by decide) (fun _ => ?_) (fun c => absurd ((nI_c (b := 10) (by omega) (by omega)).mp c) (by omega))
    refine e_iconst (v := 0) dX3_add_66 (by decide) ?_
    refine e_istore dX3_add_67 (by decide) rfl ?_
    refine e_iload dX3_add_69 rfl ?_
    refine e_if_eq (tgt := 81) dX3_add_71 (by decide) (fun _ => ?_) (fun c => absurd rfl c)
    refine e_iload dX3_add_81 rfl ?_
    refine e_istore dX3_add_83 (by decide) rfl ?_
    exact e_loc [13, 12, 11, 0] rfl go
  | true =>
    have a8 : g.2.2.length = 10 ∧ top + 1 = S.length := a7
    refine e_icmp_ne (tgt := 66) dX3_add_59 (by decide) (fun c => absurd (by rw [a8.1]; rfl) c) (fun _ => ?_)
    refine e_iconst (v := 1) dX3_add_62 (by decide) ?_
    refine e_goto (tgt := 67) dX3_add_63 (by decide) ?_
    refine e_istore dX3_add_67 (by decide) rfl ?_
    refine e_iload dX3_add_69 rfl ?_
    refine e_if_eq (tgt := 81) dX3_add_71 (by decide) (fun c => absurd c (by decide)) (fun _ => ?_)
    refine e_iload dX3_add_74 rfl ?_
    refine e_iconst (v := 2) dX3_add_76 (by decide) ?_
    refine e_iadd dX3_add_77 ?_
    refine e_goto (tgt := 83) dX3_add_78 (by decide) ?_
    have e22 : nI top + 2 = nI (wnt top true) := nI_add top 2
    rw [e22]
    refine e_istore dX3_add_83 (by decide) rfl ?_
    exact e_loc [13, 12, 11, 0] rfl go
end MD
