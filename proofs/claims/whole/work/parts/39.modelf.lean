/-! the reference: perform -/
section MF
variable {kv : Nat → xE} {cm : Nat → Nat} {ks tk : Nat} {sd : Int32} {ck : Nat} {cb : Bool} {hn : Nat}
theorem pf_en (d m l top : Nat) {S : Tr} {q : qW} {h h0 : xH} {w : Nat → Nat} {c1 c2 : List Pg} {g : Pg} {Q : List Value → xH → Prop} (hf : x_mf m h0 h) (hM : MS h m S q kv cm ks tk sd ck cb hn) (hT : trK S) (h60 : nPg S ≤ 60) (hks : ks ≤ 513) (hl : S[l]? = some (c1 ++ g :: c2)) (hC : InC (c1 ++ g :: c2) (w l) c1 g c2) (hg : g.2.2.length < 10) (hv : w l ∉ g.2.2) (hx : rk kv (cm l) = w l) (hn' : cm l < ks)
    (fail : ∀ h', x_mf m h0 h' → (sEnt l (w l) S q).1 = false → MS h' m (sEnt l (w l) S q).2.1 (sEnt l (w l) S q).2.2 kv cm ks tk sd ck cb hn → Q [.int 0] h')
    (succ : ∀ h', x_mf m h0 h' → (sEnt l (w l) S q).1 = true → MS h' m (sEnt l (w l) S q).2.1 (sEnt l (w l) S q).2.2 kv cm ks tk sd ck cb hn → x_E mX3_perform (d + 4) 0 0 64 [(4, .int (nI l + Int32.ofInt (-1))), (1, .int (nI top)), (0, .ref m)] [] h' Q) :
    x_E mX3_perform (d + 4) 0 0 64 [(4, .int (nI l)), (1, .int (nI top)), (0, .ref m)] [] h Q := by
  have hM' := hM
  obtain ⟨it, il, lw, ll, ow, ni, nl, hm, hR⟩ := hM
  obtain ⟨hB, h30⟩ := hR.mB hT h60 hks
  have hlt := (List.getElem?_eq_some_iff.mp hl).1
  have m0 := hm.1
  have m11 := hm.2.2.2.2.2.2.2.2.2.2.2
  refine e_iload dX3_perform_64 rfl ?_
  refine e_if_lt (tgt := 93) dX3_perform_66 (by decide) (fun c => absurd c (nI_pos (by omega))) (fun _ => ?_)
  refine e_aload_n dX3_perform_69 rfl ?_
  refine e_iload dX3_perform_70 rfl ?_
  refine e_aload_n dX3_perform_72 rfl ?_
  refine e_get dX3_perform_73 fX3_46 m0 rfl ?_
  refine e_iload dX3_perform_76 rfl ?_
  refine e_iald dX3_perform_78 m11 rfl rfl (af_get _ (show l < 32 by omega)) ?_
  refine e_V2 dX3_perform_79 gX3_109 m0 rfl (by omega) (Nat.le_of_ble_eq_true rfl) rfl rfl (con_enterS d m l (cm l) (w l) hM' hT h60 hks hl hC hg hv hx hn') ?_
  rintro _ h2 ⟨hf2, rfl, hM2⟩
  refine e_if_ne (tgt := 87) dX3_perform_82 (by decide) (fun c => ?_) (fun c => ?_)
  · refine e_iinc dX3_perform_87 rfl rfl (by decide) rfl ?_
    refine e_goto (tgt := 64) dX3_perform_90 (by decide) ?_
    exact e_loc [4, 1, 0] rfl (succ h2 (hf.tr hf2) (bI_nz c) hM2)
  · refine e_iconst (v := 0) dX3_perform_85 (by decide) ?_
    exact e_iret dX3_perform_86 rfl rfl (fail h2 (hf.tr hf2) (bI_z c) hM2)
theorem sPut_split {top : Nat} {w : Nat → Nat} {S : Tr} {l f : Nat} {c1 c2 : List Pg} {g : Pg} {q : qW} (a1 : S[l]? = some (c1 ++ g :: c2)) (a2 : InC (c1 ++ g :: c2) (w l) c1 g c2) (b1 : g.2.2.length = 10) (hnt : l + 1 < S.length) (b2 : w (l + 1) = g.2.2.getD 5 0) (e1 : (sW 63 q).1 = true) (e2 : (sW 1 (sW 63 q).2).1 = true) : sPut (f + 1) l (w l) S q = (fun r : Bool × Tr × qW => if r.1 then sEnt l (w l) r.2.1 r.2.2 else r) (sPut f (l + 1) (w (l + 1)) (sSet S l c1 [gL g g.2.1, gR g] c2) (sW 1 (sW 63 q).2).2) := by
  rw [sPut_eq f a1 a2, if_neg (by omega), if_neg (by omega), if_pos e1, if_pos e2, b2]
theorem pf_lo (d m top sp : Nat) (w : Nat → Nat) (rs : Bool) (h0 : xH) (Q : List Value → xH → Prop) (hsp : sp = if rs then top + 1 else top) (hcm : ∀ i, i ≤ top → rk kv (cm i) = w i ∧ cm i < ks) (hks : ks ≤ 513) :
    ∀ (k l : Nat) (S : Tr) (q : qW) (h : xH), l + k = top → trK S → pth S w l top rs → (0 < l → ∃ c q, S[l - 1]? = some c ∧ q ∈ c ∧ q.1 = w l) → nPg S + k + (if rs then 2 else 0) ≤ 60 → x_mf m h0 h → MS h m S q kv cm ks tk sd ck cb hn →
    (∀ h', x_mf m h0 h' → (sPut (k + 1) l (w l) S q).1 = false → MS h' m (sPut (k + 1) l (w l) S q).2.1 (sPut (k + 1) l (w l) S q).2.2 kv cm ks tk sd ck cb hn → Q [.int 0] h') →
    (∀ h', x_mf m h0 h' → (sPut (k + 1) l (w l) S q).1 = true → MS h' m (sPut (k + 1) l (w l) S q).2.1 (sPut (k + 1) l (w l) S q).2.2 kv cm ks tk sd ck cb hn → x_E mX3_perform (d + 4) 0 0 64 [(4, .int (nI l + Int32.ofInt (-1))), (1, .int (nI top)), (0, .ref m)] [] h' Q) →
    x_E mX3_perform (d + 4) 0 0 15 [(4, .int (nI l)), (3, .int (nI sp)), (1, .int (nI top)), (0, .ref m)] [] h Q := by
  intro k
  induction k with
  | zero =>
    intro l S q h hlk hT hP hmk h60 hf hM fail succ
    have el : l = top := by omega
    subst el
    obtain ⟨c1, g, c2, a1, a2, a3, a4, a5, a6⟩ := hP.2 l (Nat.le_refl _) (Nat.le_refl _)
    have a7 := a6 rfl
    obtain ⟨e1, e2⟩ := hcm l (Nat.le_refl _)
    have hM' := hM
    obtain ⟨it, il, lw, ll, ow, ni, nl, hm, hR⟩ := hM
    obtain ⟨hB, h30⟩ := hR.mB hT (by omega) hks
    have hlt := hP.1
    have m0 := hm.1
    have m11 := hm.2.2.2.2.2.2.2.2.2.2.2
    refine e_iload dX3_perform_15 rfl ?_
    refine e_iload_n dX3_perform_17 rfl ?_
    cases rs with
    | false =>
      have a8 : g.2.2.length < 10 := a7
      have hsp : sp = l := hsp
      subst hsp
      have hE : sPut (0 + 1) sp (w sp) S q = sEnt sp (w sp) S q := by rw [sPut_eq 0 a1 a2, if_pos a8]; rfl
      rw [hE] at fail succ
      refine e_icmp_ge (tgt := 61) dX3_perform_18 (by decide) (fun _ => ?_) (fun c => absurd (Int32.le_refl _) c)
      refine e_iload_n dX3_perform_61 rfl ?_
      refine e_istore dX3_perform_62 (by decide) rfl ?_
      exact e_loc [4, 1, 0] rfl (pf_en d m sp sp hf hM' hT (by simpa using h60) hks a1 a2 a8 a3 e1 e2 fail succ)
    | true =>
      have a8 : g.2.2.length = 10 ∧ l + 1 = S.length := a7
      have hsp : sp = l + 1 := hsp
      subst hsp
      have h60' : nPg S + 2 ≤ 60 := by simpa using h60
      obtain ⟨n, g0, t2, t3, t30⟩ := hT.2.1
      have en : n = l := by omega
      subst en
      rw [a1] at t3
      have hc1 : c1 = [] := by
        cases c1 with
        | nil => rfl
        | cons b c1 => simp at t3
      subst hc1
      have hc2 : c2 = [] := by simp at t3; exact t3.2
      subst hc2
      obtain ⟨p0, hI, hp2, hpo⟩ := rr_isC hR hT (num := cm n) a1 (by rw [e1]; exact a2)
      obtain ⟨x5, hx1, hx2, hx3, hx4⟩ := full5 a8.1
      obtain ⟨num6, n1, n2, n3⟩ := con_sixthS (d := d) (h := h) (m := m) (l := n) (p0 := p0) (x := x5) ⟨_, _, _, _, _, rfl⟩ hm hR hT (by omega) hks a1 hI.1 hI.2.1 hp2 hx1
      refine e_icmp_ge (tgt := 61) dX3_perform_18 (by decide) (fun c => absurd c (nI_ge (by omega) (by omega))) (fun _ => ?_)
      refine e_aload_n dX3_perform_21 rfl ?_
      refine e_iload dX3_perform_22 rfl ?_
      refine e_aload_n dX3_perform_24 rfl ?_
      refine e_get dX3_perform_25 fX3_46 m0 rfl ?_
      refine e_iload dX3_perform_28 rfl ?_
      refine e_iald dX3_perform_30 m11 rfl rfl (af_get _ (show n < 32 by omega)) ?_
      refine e_V2d dX3_perform_31 gX3_75 m0 rfl (by omega) (Nat.le_of_ble_eq_true rfl) rfl rfl (con_inCharge (d + 1) h m n (cm n) p0 hm hB (by omega) (by omega) hI) ?_
      refine e_istore dX3_perform_34 (by decide) rfl ?_
      refine e_aload_n dX3_perform_36 rfl ?_
      refine e_iload dX3_perform_37 rfl ?_
      refine e_iload dX3_perform_39 rfl ?_
      refine e_aload_n dX3_perform_41 rfl ?_
      refine e_iload dX3_perform_42 rfl ?_
      refine e_V1d dX3_perform_44 gX3_91 m0 rfl (by omega) (Nat.le_of_ble_eq_true rfl) rfl rfl (n3) ?_
      refine e_V3 dX3_perform_47 gX3_105 m0 rfl (by omega) (Nat.le_of_ble_eq_true rfl) rfl rfl (con_splitTS (d + 2) m n p0 num6 hM' hT h60' hks a1 a8.1 a8.2 (by rw [n2, hx2]) n1) ?_
      rintro rv h2 ⟨hf2, hq⟩
      by_cases e : (sW 145 q).1 = true
      · rw [if_pos e] at hq
        obtain ⟨rfl, hM2⟩ := hq
        have hTr := trK_root hT a1 a8.2 a8.1
        obtain ⟨d1, g', d2, i1, i2, i3, i4⟩ := half_C (hT.1 n _ a1) a2 a8.1 a3 false
        have hat : (sRoot S n g)[n]? = some (d1 ++ g' :: d2) := by
          unfold sRoot
          rw [List.getElem?_append_left (by rw [ss_len]; omega), ss_at a1, i1]
        have hE : sPut (0 + 1) n (w n) S q = sEnt n (w n) (sRoot S n g) (sW 145 q).2 := by rw [sPut_eq 0 a1 a2, if_neg (by omega), if_pos a8.2, if_pos e]; rfl
        rw [hE] at fail succ
        have hnp : nPg (sRoot S n g) ≤ 60 := by
          have h1 := ss_nPg (gs := [gL g false, gR g]) a1
          have h2 := (n_app (sSet S n [] [gL g false, gR g] []) [(0, false, [0, g.2.2.getD 5 0])]).2
          simp only [List.length_cons, List.length_nil] at h1 h2
          unfold sRoot
          omega
        refine e_if_ne (tgt := 55) dX3_perform_50 (by decide) (fun _ => ?_) (fun c => absurd c (by decide))
        refine e_iinc dX3_perform_55 rfl rfl (by decide) rfl ?_
        refine e_goto (tgt := 15) dX3_perform_58 (by decide) ?_
        refine e_iload dX3_perform_15 rfl ?_
        refine e_iload_n dX3_perform_17 rfl ?_
        refine e_icmp_ge (tgt := 61) dX3_perform_18 (by decide) (fun _ => ?_) (fun c => absurd (by rw [← nI_1]; exact Int32.le_refl _) c)
        refine e_iload_n dX3_perform_61 rfl ?_
        refine e_istore dX3_perform_62 (by decide) rfl ?_
        exact e_loc [4, 1, 0] rfl (pf_en d m n n (hf.tr hf2) hM2 hTr hnp hks hat i2 (by omega) i4 e1 e2 fail succ)
      · rw [if_neg e] at hq
        obtain ⟨rfl, hM2⟩ := hq
        have hE : sPut (0 + 1) n (w n) S q = (false, S, (sW 145 q).2) := by rw [sPut_eq 0 a1 a2, if_neg (by omega), if_pos a8.2, if_neg e]; rfl
        rw [hE] at fail
        refine e_if_ne (tgt := 55) dX3_perform_50 (by decide) (fun c => absurd rfl c) (fun _ => ?_)
        refine e_iconst (v := 0) dX3_perform_53 (by decide) ?_
        exact e_iret dX3_perform_54 rfl rfl (fail h2 (hf.tr hf2) rfl hM2)
  | succ k ih =>
    intro l S q h hlk hT hP hmk h60 hf hM fail succ
    obtain ⟨c1, g, c2, a1, a2, a3, a4, a5, a6⟩ := hP.2 l (Nat.le_refl _) (by omega)
    obtain ⟨b1, b2⟩ := a5 (by omega)
    obtain ⟨e1, e2⟩ := hcm l (by omega)
    have hM' := hM
    obtain ⟨it, il, lw, ll, ow, ni, nl, hm, hR⟩ := hM
    obtain ⟨hB, h30⟩ := hR.mB hT (by omega) hks
    have hlt := hP.1
    have hlsp : l < sp := by rw [hsp]; split <;> omega
    have hsp40 : sp < 40 := by rw [hsp]; split <;> omega
    have m0 := hm.1
    have m11 := hm.2.2.2.2.2.2.2.2.2.2.2
    obtain ⟨p0, hI, hp2, hpo⟩ := rr_isC hR hT (num := cm l) a1 (by rw [e1]; exact a2)
    obtain ⟨x5, hx1, hx2, hx3, hx4⟩ := full5 b1
    obtain ⟨num6, n1, n2, n3⟩ := con_sixthS (d := d) (h := h) (m := m) (l := l) (p0 := p0) (x := x5) ⟨_, _, _, _, _, rfl⟩ hm hR hT (by omega) hks a1 hI.1 hI.2.1 hp2 hx1
    have pgs : ∀ it il lw ll ow ni nl, x_mm h m (kv, it, il, lw, ll, ow, cm) (ks, ni, nl, S.length, tk, q.1, q.2.1, q.2.2, sd, ck, cb, hn) → RR S kv it il lw ll ow ks ni nl → p0 < nl ∧ ll p0 = l ∧ rk kv (lw p0) = g.1 := by
      intro it' il' lw' ll' ow' ni' nl' hm' hR'
      have z0 : mC m (ks, ni', nl', S.length, tk, q.1, q.2.1, q.2.2, sd, ck, cb, hn) = mC m (ks, ni, nl, S.length, tk, q.1, q.2.1, q.2.2, sd, ck, cb, hn) := Option.some.inj (hm'.1.symm.trans hm.1)
      have z1 : nI nl' = nI nl := by simp only [mC, Sum.inr.injEq, Prod.mk.injEq, List.cons.injEq, Value.int.injEq] at z0; exact z0.2.2.2.2.2.2.2.2.2.2.2.2.2.1
      have z2 : nl' = nl := (nI_c (by have := hR'.2.2.2.2.2.2.2.1; omega) (by have := hR.2.2.2.2.2.2.2.1; omega)).mp z1
      have hp60 : p0 < 60 := by have := hI.1; have := hR.2.2.2.2.2.2.2.1; omega
      have z3 : aI 60 ll' = aI 60 ll := Option.some.inj (hm'.2.2.2.2.2.2.2.2.2.1.symm.trans hm.2.2.2.2.2.2.2.2.2.1)
      have z4 : aI 60 lw' = aI 60 lw := Option.some.inj (hm'.2.2.2.2.2.2.2.2.1.symm.trans hm.2.2.2.2.2.2.2.2.1)
      have at' : ∀ f f' : Nat → Nat, aI 60 f' = aI 60 f → nI (f' p0) = nI (f p0) := by
        intro f f' e
        have e' : af 60 (fun j => .int (nI (f' j))) = af 60 (fun j => .int (nI (f j))) := by simp only [aI, Sum.inl.injEq, Prod.mk.injEq] at e; exact e.2
        have := congrArg (fun z : List Value => z[p0]?) e'
        simp only [af_get _ hp60, Option.some.injEq, Value.int.injEq] at this
        exact this
      have hB' := (hR'.mB hT (by omega) hks).1
      have y1 := (hB'.2.2.2 p0 (by rw [z2]; exact hI.1))
      have y2 := (hB.2.2.2 p0 hI.1)
      have x1 : ll' p0 = ll p0 := (nI_c (by omega) (by omega)).mp (at' ll ll' z3)
      have x2 : lw' p0 = lw p0 := (nI_c (by omega) (by omega)).mp (at' lw lw' z4)
      exact ⟨by rw [z2]; exact hI.1, by rw [x1]; exact hI.2.1, by rw [x2]; exact hp2⟩
    refine e_iload dX3_perform_15 rfl ?_
    refine e_iload_n dX3_perform_17 rfl ?_
    refine e_icmp_ge (tgt := 61) dX3_perform_18 (by decide) (fun c => absurd c (nI_ge hlsp (by omega))) (fun _ => ?_)
    refine e_aload_n dX3_perform_21 rfl ?_
    refine e_iload dX3_perform_22 rfl ?_
    refine e_aload_n dX3_perform_24 rfl ?_
    refine e_get dX3_perform_25 fX3_46 m0 rfl ?_
    refine e_iload dX3_perform_28 rfl ?_
    refine e_iald dX3_perform_30 m11 rfl rfl (af_get _ (show l < 32 by omega)) ?_
    refine e_V2d dX3_perform_31 gX3_75 m0 rfl (by omega) (Nat.le_of_ble_eq_true rfl) rfl rfl (con_inCharge (d + 1) h m l (cm l) p0 hm hB (by omega) (by omega) hI) ?_
    refine e_istore dX3_perform_34 (by decide) rfl ?_
    refine e_aload_n dX3_perform_36 rfl ?_
    refine e_iload dX3_perform_37 rfl ?_
    refine e_iload dX3_perform_39 rfl ?_
    refine e_aload_n dX3_perform_41 rfl ?_
    refine e_iload dX3_perform_42 rfl ?_
    refine e_V1d dX3_perform_44 gX3_91 m0 rfl (by omega) (Nat.le_of_ble_eq_true rfl) rfl rfl (n3) ?_
    refine e_V3 dX3_perform_47 gX3_105 m0 rfl (by omega) (Nat.le_of_ble_eq_true rfl) rfl rfl (con_splitNS (d + 2) m l p0 num6 hM' hT (by omega) hks a1 b1 (by omega) (by rw [n2, hx2]) n1 pgs) ?_
    rintro rv h2 ⟨hf2, hq⟩
    by_cases e : (sW 63 q).1 = true
    · rw [if_pos e] at hq
      by_cases e' : (sW 1 (sW 63 q).2).1 = true
      · rw [if_pos e'] at hq
        obtain ⟨rfl, hM2⟩ := hq
        have hTs := trK_split g.2.1 hT a1 b1 (by omega)
        have np := ss_nPg (gs := [gL g g.2.1, gR g]) a1
        simp only [List.length_cons, List.length_nil] at np
        have hPu := hP.up (S' := sSet S l c1 [gL g g.2.1, gR g] c2) ss_len (fun j hj => ss_ne (by omega))
        have hlow : 0 < l + 1 → ∃ c q, (sSet S l c1 [gL g g.2.1, gR g] c2)[l + 1 - 1]? = some c ∧ q ∈ c ∧ q.1 = w (l + 1) := fun _ => ⟨_, gR g, by rw [Nat.add_sub_cancel]; exact ss_at a1, List.mem_append_right _ (List.mem_cons_of_mem _ List.mem_cons_self), b2.symm⟩
        have hok := sPut_ok top w rs k (l + 1) (k + 1) (sSet S l c1 [gL g g.2.1, gR g] c2) (sW 1 (sW 63 q).2).2 (by omega) (by omega) hTs hPu hlow
        have hE := sPut_split (top := top) (f := k + 1) (q := q) a1 a2 b1 (by omega) b2 e e'
        rw [hE] at fail succ
        generalize hr : sPut (k + 1) (l + 1) (w (l + 1)) (sSet S l c1 [gL g g.2.1, gR g] c2) (sW 1 (sW 63 q).2).2 = r at hok fail succ
        obtain ⟨i1, i2, i3⟩ := hok
        obtain ⟨d1, g', d2, j1, j2, j3, j4⟩ := half_C (hT.1 l _ a1) a2 b1 a3 g.2.1
        have hat : r.2.1[l]? = some (d1 ++ g' :: d2) := by rw [i2 l (by omega), ss_at a1, j1]
        refine e_if_ne (tgt := 55) dX3_perform_50 (by decide) (fun _ => ?_) (fun c => absurd c (by decide))
        refine e_iinc dX3_perform_55 rfl rfl (by decide) rfl ?_
        refine e_goto (tgt := 15) dX3_perform_58 (by decide) ?_
        have hk := ih (l + 1) (sSet S l c1 [gL g g.2.1, gR g] c2) (sW 1 (sW 63 q).2).2 h2 (by omega) hTs hPu hlow (by omega) (hf.tr hf2) hM2
        rw [hr] at hk
        have hk2 := hk (fun h' hf' er hM3 => fail h' hf' (by show (if r.1 = true then sEnt l (w l) r.2.1 r.2.2 else r).1 = false; rw [if_neg (by rw [er]; exact Bool.false_ne_true)]; exact er) (by show MS h' m (if r.1 = true then sEnt l (w l) r.2.1 r.2.2 else r).2.1 (if r.1 = true then sEnt l (w l) r.2.1 r.2.2 else r).2.2 kv cm ks tk sd ck cb hn; rw [if_neg (by rw [er]; exact Bool.false_ne_true)]; exact hM3)) (fun h' hf' er hM3 => ?_)
        · rw [← nI_1] at hk2
          exact e_loc [4, 3, 1, 0] rfl hk2
        · have hnl : nI (l + 1) + Int32.ofInt (-1) = nI l := pk_m1 l
          rw [hnl]
          have fail' := fail
          have succ' := succ
          simp only [er, if_true] at fail' succ'
          exact pf_en d m l top hf' hM3 i1 (by omega) hks hat j2 (by omega) j4 e1 e2 fail' succ'
      · rw [if_neg e'] at hq
        obtain ⟨rfl, hM2⟩ := hq
        have hE : sPut (k + 1 + 1) l (w l) S q = (false, sSet S l c1 [gL g true, gR g] c2, (sW 1 (sW 63 q).2).2) := by rw [sPut_eq (k + 1) a1 a2, if_neg (by omega), if_neg (by omega), if_pos e, if_neg e']; rfl
        rw [hE] at fail
        refine e_if_ne (tgt := 55) dX3_perform_50 (by decide) (fun c => absurd rfl c) (fun _ => ?_)
        refine e_iconst (v := 0) dX3_perform_53 (by decide) ?_
        exact e_iret dX3_perform_54 rfl rfl (fail h2 (hf.tr hf2) rfl hM2)
    · rw [if_neg e] at hq
      obtain ⟨rfl, hM2⟩ := hq
      have hE : sPut (k + 1 + 1) l (w l) S q = (false, S, (sW 63 q).2) := by rw [sPut_eq (k + 1) a1 a2, if_neg (by omega), if_neg (by omega), if_neg e]; rfl
      rw [hE] at fail
      refine e_if_ne (tgt := 55) dX3_perform_50 (by decide) (fun c => absurd rfl c) (fun _ => ?_)
      refine e_iconst (v := 0) dX3_perform_53 (by decide) ?_
      exact e_iret dX3_perform_54 rfl rfl (fail h2 (hf.tr hf2) rfl hM2)
theorem con_perform (d m top : Nat) (w : Nat → Nat) (rs : Bool) {S : Tr} {q : qW} {h : xH} (hT : trK S) (hP : pth S w 0 top rs) (h60 : nPg S + top + (if rs then 2 else 0) ≤ 60) (hks : ks ≤ 513) (hcm : ∀ i, i ≤ top → rk kv (cm i) = w i ∧ cm i < ks) (hM : MS h m S q kv cm ks tk sd ck cb hn) : x_Con mX3_perform (d + 4) 0 0 [.ref m, .int (nI top), .int (bI rs)] h (fun rv h' => x_mf m h h' ∧ rv = [.int (bI (sPut (top + 1) 0 (w 0) S q).1)] ∧ MS h' m (sPut (top + 1) 0 (w 0) S q).2.1 (sPut (top + 1) 0 (w 0) S q).2.2 kv cm ks tk sd ck cb hn) := by
  refine e_enter (by decide) (Nat.le_of_ble_eq_true rfl) ?_
  have go : ∀ sp, sp = (if rs then top + 1 else top) → x_E mX3_perform (d + 4) 0 0 15 [(4, .int (nI 0)), (3, .int (nI sp)), (1, .int (nI top)), (0, .ref m)] [] h (fun rv h' => x_mf m h h' ∧ rv = [.int (bI (sPut (top + 1) 0 (w 0) S q).1)] ∧ MS h' m (sPut (top + 1) 0 (w 0) S q).2.1 (sPut (top + 1) 0 (w 0) S q).2.2 kv cm ks tk sd ck cb hn) := by
    intro sp hsp
    refine pf_lo d m top sp w rs h _ hsp hcm hks top 0 S q h (by omega) hT hP (fun z => absurd z (by omega)) h60 x_mf.rf hM (fun h' hf er hM' => ⟨hf, by rw [er]; rfl, hM'⟩) (fun h' hf er hM' => ?_)
    refine e_iload dX3_perform_64 rfl ?_
    refine e_if_lt (tgt := 93) dX3_perform_66 (by decide) (fun _ => ?_) (fun c => absurd (by decide) c)
    refine e_iconst (v := 1) dX3_perform_93 (by decide) ?_
    exact e_iret dX3_perform_94 rfl rfl ⟨hf, by rw [er]; rfl, hM'⟩
  refine e_iload_n dX3_perform_0 rfl ?_
  cases rs with
  | false =>
    refine e_if_eq (tgt := 10) dX3_perform_1 (by decide) (fun _ => ?_) (fun c => absurd rfl c)
    refine e_iload_n dX3_perform_10 rfl ?_
    refine e_istore_n dX3_perform_11 (by decide) rfl ?_
    refine e_iconst (v := 0) dX3_perform_12 (by decide) ?_
    refine e_istore dX3_perform_13 (by decide) rfl ?_
    exact e_loc [4, 3, 1, 0] rfl (go top rfl)
  | true =>
    refine e_if_eq (tgt := 10) dX3_perform_1 (by decide) (fun c => absurd c (by decide)) (fun _ => ?_)
    refine e_iload_n dX3_perform_4 rfl ?_
    refine e_iconst (v := 1) dX3_perform_5 (by decide) ?_
    refine e_iadd dX3_perform_6 ?_
    refine e_goto (tgt := 11) dX3_perform_7 (by decide) ?_
    rw [nI_1]
    refine e_istore_n dX3_perform_11 (by decide) rfl ?_
    refine e_iconst (v := 0) dX3_perform_12 (by decide) ?_
    refine e_istore dX3_perform_13 (by decide) rfl ?_
    exact e_loc [4, 3, 1, 0] rfl (go (top + 1) rfl)
end MF
