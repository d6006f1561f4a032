/-! the class: put -/
theorem CI.mono {ch : List (List Nat)} {D : cD} {a b : Nat} (h : CI ch D a) (hab : a ≤ b) (hb : b ≤ 60) : CI ch D b := by
  obtain ⟨t1, t2, t3, t4, t5, t6, t7, t8⟩ := h
  exact ⟨t1, t2, t3, fun l c hc i hi => by have := t4 l c hc i hi; omega, hb, t6, t7, t8⟩
def hPB (ch : List (List Nat)) (D : cD) (l pb : Nat) (v : xE) : Prop := (l = 0 ∧ pb = 0 ∧ ¬ v.2.2.2.2 < 0) ∨ ∃ l' b0 c', l = l' + 1 ∧ pb = pa b0 ∧ b0 < 60 ∧ ch[l']? = some c' ∧ b0 ∈ c' ∧ sk (D b0).1 = sk v
/-- what put leaves -/
def PQ (h : xH) (ch : List (List Nat)) (D : cD) (tk fu l : Nat) (ca : Nat) (cb : Bool) (ha : Nat) (r : Bool × Tr × qW) (rv : List Value) (h' : xH) : Prop :=
  rv = [.int (bI r.1)] ∧ x_cf h h' ∧ ∃ ch' D' fu', CSt h' ch' D' tk fu' r.2.2 ca cb ha ∧ CI ch' D' fu' ∧ fu ≤ fu' ∧ fu' ≤ tk ∧ trS ch' D' = r.2.1 ∧ (∀ j, j < l → ch'[j]? = ch[j]?) ∧ ∀ b, b < fu → sk (D' b).1 = sk (D b).1
section CU2
variable {h : xH} {ch : List (List Nat)} {D : cD} {tk fu : Nat} {q : qW} {ca : Nat} {cb : Bool} {ha : Nat}
theorem put_fin (d e pb l : Nat) (v : xE) {p1 p2 : List Pg} {g : Pg} (htk : tk ≤ 60) (hS : CSt h ch D tk fu q ca cb ha) (hI : CI ch D fu) (hfu : fu ≤ tk) (hl : (trS ch D)[l]? = some (p1 ++ g :: p2)) (hC : InC (p1 ++ g :: p2) (sk v) p1 g p2) (hsz : g.2.2.length < 10) (hvn : sk v ∉ g.2.2) (hv0 : 0 < sk v) (he : h.2 e = some (eC v)) (hv : okE v) (hpb : hPB ch D l pb v) {Q : List Value → xH → Prop}
    (hQ : ∀ rv h', PQ h ch D tk fu l ca cb ha (sEnt l (sk v) (trS ch D) q) rv h' → Q rv h') : x_E mX2_put (d + 7) 0 0 62 [(3, .ref pb), (2, .ref e), (1, .int (nI l)), (0, .ref 2)] [] h Q := by
  obtain ⟨c1, i, c2, hc, r1, r2, r3, hC'⟩ := zp_cls hI hl hC
  have s1 := hS.1
  refine e_aload_n dX2_put_62 rfl ?_
  refine e_aload_n dX2_put_63 rfl ?_
  refine e_iload_n dX2_put_64 rfl ?_
  refine e_aload_n dX2_put_65 rfl ?_
  refine e_V2d dX2_put_66 gX2_60 s1 rfl (by omega) (Nat.le_of_ble_eq_true rfl) rfl rfl (con_pic d 2 e l v s1 hS.2.2.2.2.1 (hI.mono hfu htk) he hv hc hC') ?_
  refine e_aload_n dX2_put_69 rfl ?_
  refine e_aload_n dX2_put_70 rfl ?_
  refine e_V3 dX2_put_71 gX2_159 s1 rfl (by omega) (Nat.le_of_ble_eq_true rfl) rfl rfl (con_bring d e pb l v hS hI hc hC' (by rw [r2] at hsz; simpa [pgS] using hsz) (by rw [r2] at hvn; exact hvn) hv0 he hv hpb) ?_
  rintro _ h2 ⟨rfl, hf2, D', hS2, hI2, hT2, hL2⟩
  have hq : Q [.int (bI (sEnt l (sk v) (trS ch D) q).1)] h2 := hQ _ _ ⟨rfl, hf2, ch, D', fu, hS2, hI2, Nat.le_refl _, hfu, hT2, fun _ _ => rfl, fun b _ => by rw [hL2]⟩
  generalize (sEnt l (sk v) (trS ch D) q).1 = b at hq ⊢
  cases b <;> exact e_iret dX2_put_74 rfl rfl hq
theorem hPB.mk0 {S : Tr} {l pb : Nat} {v : xE} (hS : trS ch D = S) (h : hPB ch D l pb v) : 0 < l → ∃ c q, S[l - 1]? = some c ∧ q ∈ c ∧ q.1 = sk v := by
  intro h0
  subst hS
  rcases h with ⟨z, -⟩ | ⟨l', b0, c', z1, z2, z3, z4, z5, z6⟩
  · omega
  · exact ⟨_, pgS D b0, by rw [z1, Nat.add_sub_cancel]; exact trS_at z4, List.mem_map.mpr ⟨b0, z5, rfl⟩, z6⟩
theorem hPB.up {ch' : List (List Nat)} {D' : cD} {l pb : Nat} {v : xE} (hI : CI ch D fu) (h : hPB ch D l pb v) (h1 : ∀ j, j < l → ch'[j]? = ch[j]?) (h2 : ∀ b, b < fu → sk (D' b).1 = sk (D b).1) : hPB ch' D' l pb v := by
  rcases h with z | ⟨l', b0, c', z1, z2, z3, z4, z5, z6⟩
  · exact Or.inl z
  · exact Or.inr ⟨l', b0, c', z1, z2, z3, (h1 l' (by omega)).trans z4, z5, (h2 b0 (hI.2.2.2.1 _ _ z4 b0 z5)).trans z6⟩
end CU2
theorem con_put (top : Nat) (w : Nat → Nat) (rs : Bool) (d tk : Nat) {ca : Nat} {cb : Bool} {ha : Nat} (htk : tk ≤ 60) : ∀ (k l : Nat) (h : xH) (ch : List (List Nat)) (D : cD) (fu : Nat) (q : qW) (e pb : Nat) (v : xE), l + k = top → CSt h ch D tk fu q ca cb ha → CI ch D fu → pth (trS ch D) w l top rs → sk v = w l → okE v → h.2 e = some (eC v) → hPB ch D l pb v → fu + k + (if rs then 2 else 0) ≤ tk →
    x_Con mX2_put (d + 2 * k + 7) 0 0 [.ref 2, .int (nI l), .ref e, .ref pb] h (PQ h ch D tk fu l ca cb ha (sPut (k + 1) l (w l) (trS ch D) q)) := by
  intro k
  induction k with
  | zero =>
    intro l h ch D fu q e pb v hlk hS hI hP hw hv he hpb hfu
    have el : l = top := by omega
    subst el
    have hfu' : fu ≤ tk := by omega
    obtain ⟨h30, -, -⟩ := ch_len hI
    have htop := hP.1
    rw [trS_len] at htop
    obtain ⟨n, hn, hroot⟩ := hI.2.1
    obtain ⟨p1, g, p2, a1, a2, a3, a4, a5, a6⟩ := hP.2 l (Nat.le_refl _) (Nat.le_refl _)
    have a7 := a6 rfl
    rw [← hw] at a2 a3 a4 ⊢
    obtain ⟨c1, i, c2, hc, r1, r2, r3, hC⟩ := zp_cls hI a1 a2
    have him : i ∈ c1 ++ i :: c2 := List.mem_append_right _ List.mem_cons_self
    have hpos : (c1 ++ i :: c2)[c1.length]? = some i := by rw [List.getElem?_append_right (Nat.le_refl _), Nat.sub_self]; rfl
    have hi60 : i < 60 := by have := hI.2.2.2.1 _ _ hc i him; omega
    obtain ⟨s1, s2, s3, s4, s5, s6⟩ := id hS
    obtain ⟨P0, hp0⟩ := s5 0 (by omega)
    have q02 := (hp0.2.2.2 n _ 0 hroot rfl).2.1
    have p00 : h.2 5 = some (pgC 5 P0.1) := hp0.1.1
    obtain ⟨P, hp⟩ := s5 i hi60
    have q1 := (hp.2.2.2 l _ _ hc hpos).1
    have hsz : P.1.1 = g.2.2.length := by rw [q1, r2]; simp [pgS]
    have p0 := hp.1.1
    refine e_enter (by decide) (Nat.le_of_ble_eq_true rfl) ?_
    refine e_iload_n dX2_put_0 rfl ?_
    refine e_aload_n dX2_put_1 rfl ?_
    refine e_get dX2_put_2 fX2_29 s1 rfl ?_
    refine e_get dX2_put_5 fX2_131 p00 rfl ?_
    rw [q02]
    refine e_icmp_le (tgt := 13) dX2_put_8 (by decide) (fun _ => ?_) (fun z => absurd ((nI_leI (by omega) (by omega)).mpr (by omega)) z)
    refine e_aload_n dX2_put_13 rfl ?_
    refine e_iload_n dX2_put_14 rfl ?_
    refine e_aload_n dX2_put_15 rfl ?_
    refine e_V2d dX2_put_16 gX2_60 s1 rfl (by omega) (Nat.le_of_ble_eq_true rfl) rfl rfl (con_pic d 2 e l v s1 s5 (hI.mono hfu' htk) he hv hc hC) ?_
    refine e_astore dX2_put_19 (by decide) rfl ?_
    refine e_aload dX2_put_21 rfl ?_
    refine e_get dX2_put_23 fX2_97 p0 rfl ?_
    refine e_bipush (v := 10) dX2_put_26 (by decide) ?_
    rw [hsz]
    cases rs with
    | false =>
      have a8 : g.2.2.length < 10 := a7
      refine e_icmp_lt (tgt := 62) dX2_put_28 (by decide) (fun _ => ?_) (fun z => absurd (nI_lt (b := 10) a8 (by decide)) z)
      have hE : sPut (0 + 1) l (sk v) (trS ch D) q = sEnt l (sk v) (trS ch D) q := by rw [sPut_eq 0 a1 a2, if_pos a8]; rfl
      rw [hE]
      exact e_loc [3, 2, 1, 0] rfl (put_fin (d + 2 * 0) e pb l v htk hS hI hfu' a1 a2 a8 a3 a4 he hv hpb (fun rv h' z => z))
    | true =>
      have a8 : g.2.2.length = 10 ∧ l + 1 = (trS ch D).length := a7
      rw [trS_len] at a8
      have hfu2 : fu + 2 ≤ tk := by simpa using hfu
      have e3 : n = l := by omega
      subst e3
      have hr' := hroot
      rw [hc] at hr'
      have hr'' := Option.some.inj hr'
      have hc1 : c1 = [] := by
        cases c1 with
        | nil => rfl
        | cons a c1 => simp at hr''
      subst hc1
      have hi0 : i = 0 := (List.cons.inj hr'').1
      have hc2 : c2 = [] := (List.cons.inj hr'').2
      subst hc2 hi0
      have hp1' : p1 = [] := r1
      have hp2' : p2 = [] := r3
      subst hp1' hp2'
      refine e_icmp_lt (tgt := 62) dX2_put_28 (by decide) (fun z => absurd z (by rw [a8.1]; decide)) (fun _ => ?_)
      refine e_aload dX2_put_31 rfl ?_
      refine e_aload_n dX2_put_33 rfl ?_
      refine e_get dX2_put_34 fX2_29 s1 rfl ?_
      refine e_acmp_ne (tgt := 47) dX2_put_37 (by decide) (fun z => absurd rfl z) (fun _ => ?_)
      have hsz0 : (D 0).2.2.1.length = 10 := by have := a8.1; rw [r2] at this; simpa [pgS] using this
      refine e_aload_n dX2_put_40 rfl ?_
      refine e_V0 dX2_put_41 gX2_151 s1 rfl (by omega) (Nat.le_of_ble_eq_true rfl) rfl rfl (con_splitRoot d hS hI htk hfu2 hn hroot hsz0) ?_
      rintro _ h2 ⟨rfl, hf2, hS2⟩
      refine e_goto (tgt := 53) dX2_put_44 (by decide) ?_
      refine e_istore dX2_put_53 (by decide) rfl ?_
      refine e_iload dX2_put_55 rfl ?_
      by_cases e1 : (sW 145 q).1 = true
      · rw [if_pos e1, if_pos e1] at hS2
        refine e_if_ne (tgt := 62) dX2_put_57 (by decide) (fun _ => ?_) (fun z => absurd z (by rw [e1]; decide))
        have h0f : fu ≠ 0 := by have := hI.2.2.2.1 n _ hroot 0 List.mem_cons_self; omega
        have hT2 := trS_root hI hn hroot hsz0 h0f
        have hI2 := CI_root hI (by omega) hn hroot hsz0
        have hE : sPut (0 + 1) n (sk v) (trS ch D) q = sEnt n (sk v) (trS (roC ch n fu) (roD D fu)) (sW 145 q).2 := by
          rw [sPut_eq 0 a1 a2, if_neg (by omega), if_pos (by rw [trS_len]; exact a8.2), if_pos e1, hT2, ← r2]
          rfl
        rw [hE]
        obtain ⟨d1, g', d2, b1, b2, b3, b4⟩ := half_C (hI.1.1 n _ a1) a2 a8.1 a3 false
        have hat : (trS (roC ch n fu) (roD D fu))[n]? = some (d1 ++ g' :: d2) := by
          rw [hT2]
          unfold sRoot
          rw [List.getElem?_append_left (by rw [ss_len, trS_len]; omega), ss_at (trS_at hroot), ← b1, r2]
        have hlo : ∀ j, j < n → (roC ch n fu)[j]? = ch[j]? := fun j hj => roC_lo hn hj
        have hlw : ∀ b, b < fu → sk (roD D fu b).1 = sk (D b).1 := fun b hb => by
          by_cases e0 : b = 0
          · rw [e0, roD_0, hI.root_low hroot]
          · rw [roD_n e0 (by omega) (by omega)]
        refine e_loc [3, 2, 1, 0] rfl (put_fin (d + 2 * 0) e pb n v htk hS2 hI2 hfu2 hat b2 (by omega) b4 a4 (hf2.2.1 _ _ he) hv (hpb.up hI hlo hlw) (fun rv h' ⟨z1, z2, ch', D', fu', y1, y2, y3, y4, y5, y6, y7⟩ => ?_))
        exact ⟨z1, hf2.tr z2, ch', D', fu', y1, y2, by omega, y4, y5, fun j hj => (y6 j hj).trans (hlo j hj), fun b hb => (y7 b (by omega)).trans (hlw b hb)⟩
      · rw [if_neg e1, if_neg e1] at hS2
        refine e_if_ne (tgt := 62) dX2_put_57 (by decide) (fun z => absurd (by rw [Bool.not_eq_true] at e1; rw [e1]; rfl) z) (fun _ => ?_)
        have hE : sPut (0 + 1) n (sk v) (trS ch D) q = (false, trS ch D, (sW 145 q).2) := by
          rw [sPut_eq 0 a1 a2, if_neg (by omega), if_pos (by rw [trS_len]; exact a8.2), if_neg e1]
          rfl
        rw [hE]
        refine e_iconst (v := 0) dX2_put_60 (by decide) ?_
        exact e_iret dX2_put_61 rfl rfl ⟨rfl, hf2, ch, D, fu + 2, hS2, hI.mono (by omega) (by omega), by omega, hfu2, rfl, fun _ _ => rfl, fun _ _ => rfl⟩
  | succ k ih =>
    intro l h ch D fu q e pb v hlk hS hI hP hw hv he hpb hfu
    have hfu' : fu ≤ tk := by omega
    obtain ⟨h30, -, -⟩ := ch_len hI
    have htop := hP.1
    rw [trS_len] at htop
    obtain ⟨n, hn, hroot⟩ := hI.2.1
    obtain ⟨p1, g, p2, a1, a2, a3, a4, a5, a6⟩ := hP.2 l (Nat.le_refl _) (by omega)
    obtain ⟨b1, b2⟩ := a5 (by omega)
    have hmk := hpb.mk0 rfl
    have hok := fun f (hf : k + 1 < f) => sPut_ok top w rs (k + 1) l f (trS ch D) q hlk hf hI.1 hP (by rw [← hw]; exact hmk)
    rw [← hw] at a2 a3 a4 ⊢
    obtain ⟨c1, i, c2, hc, r1, r2, r3, hC⟩ := zp_cls hI a1 a2
    have him : i ∈ c1 ++ i :: c2 := List.mem_append_right _ List.mem_cons_self
    have hpos : (c1 ++ i :: c2)[c1.length]? = some i := by rw [List.getElem?_append_right (Nat.le_refl _), Nat.sub_self]; rfl
    have hi60 : i < 60 := by have := hI.2.2.2.1 _ _ hc i him; omega
    have hi0 : i ≠ 0 := fun z => by
      subst z
      have := (root_only hI hc).mp him
      omega
    have hpa : ¬ pa i = 5 := fun z => hi0 (pa_inj (j := 0) z)
    obtain ⟨s1, s2, s3, s4, s5, s6⟩ := id hS
    obtain ⟨P0, hp0⟩ := s5 0 (by omega)
    have q02 := (hp0.2.2.2 n _ 0 hroot rfl).2.1
    have p00 : h.2 5 = some (pgC 5 P0.1) := hp0.1.1
    obtain ⟨P, hp⟩ := s5 i hi60
    have q1 := (hp.2.2.2 l _ _ hc hpos).1
    have hszi : (D i).2.2.1.length = 10 := by have := b1; rw [r2] at this; simpa [pgS] using this
    have p0 := hp.1.1
    have hfn : ∀ (l' : Nat) c, ch[l']? = some c → fu ∉ c := fun l' c hc' z => absurd (hI.2.2.2.1 l' c hc' fu z) (by omega)
    -- what the split gives
    obtain ⟨r, hr⟩ : ∃ r : Bool × Tr × qW, r = (if (sW 63 q).1 then (if (sW 1 (sW 63 q).2).1 then sPut (k + 1) (l + 1) (w (l + 1)) (trS (spC ch l c1 i fu c2) (spD D i fu (D i).2.1)) (sW 1 (sW 63 q).2).2 else (false, trS (spC ch l c1 i fu c2) (spD D i fu true), (sW 1 (sW 63 q).2).2)) else (false, trS ch D, (sW 63 q).2)) := ⟨_, rfl⟩
    have hTo := fun o => trS_split (D := D) o hI.2.2.1 hc hfn hszi
    have hE : sPut (k + 1 + 1) l (sk v) (trS ch D) q = if r.1 then sEnt l (sk v) r.2.1 r.2.2 else r := by
      rw [sPut_eq (k + 1) a1 a2, if_neg (by omega), if_neg (by rw [trS_len]; omega), hr, hTo, hTo, b2, r1, r2, r3]
      rfl
    have hlo : ∀ j, j < l → (spC ch l c1 i fu c2)[j]? = ch[j]? := fun j hj => by unfold spC; rw [ch_at hc, if_neg (by omega)]
    have hlw : ∀ (o : Bool) (b : Nat), b < fu → sk (spD D i fu o b).1 = sk (D b).1 := fun o b hb => by rw [spD_low o (by omega)]
    refine e_enter (by decide) (Nat.le_of_ble_eq_true rfl) ?_
    refine e_iload_n dX2_put_0 rfl ?_
    refine e_aload_n dX2_put_1 rfl ?_
    refine e_get dX2_put_2 fX2_29 s1 rfl ?_
    refine e_get dX2_put_5 fX2_131 p00 rfl ?_
    rw [q02]
    refine e_icmp_le (tgt := 13) dX2_put_8 (by decide) (fun _ => ?_) (fun z => absurd ((nI_leI (by omega) (by omega)).mpr (by omega)) z)
    refine e_aload_n dX2_put_13 rfl ?_
    refine e_iload_n dX2_put_14 rfl ?_
    refine e_aload_n dX2_put_15 rfl ?_
    refine e_V2d dX2_put_16 gX2_60 s1 rfl (by omega) (Nat.le_of_ble_eq_true rfl) rfl rfl (con_pic d 2 e l v s1 s5 (hI.mono hfu' htk) he hv hc hC) ?_
    refine e_astore dX2_put_19 (by decide) rfl ?_
    refine e_aload dX2_put_21 rfl ?_
    refine e_get dX2_put_23 fX2_97 p0 rfl ?_
    refine e_bipush (v := 10) dX2_put_26 (by decide) ?_
    rw [q1, hszi]
    refine e_icmp_lt (tgt := 62) dX2_put_28 (by decide) (fun z => absurd z (by decide)) (fun _ => ?_)
    refine e_aload dX2_put_31 rfl ?_
    refine e_aload_n dX2_put_33 rfl ?_
    refine e_get dX2_put_34 fX2_29 s1 rfl ?_
    refine e_acmp_ne (tgt := 47) dX2_put_37 (by decide) (fun _ => ?_) (fun z => absurd z hpa)
    refine e_aload_n dX2_put_47 rfl ?_
    refine e_aload dX2_put_48 rfl ?_
    refine e_V1 dX2_put_50 gX2_155 s1 rfl (by omega) (Nat.le_of_ble_eq_true rfl) rfl rfl (con_splitPage (d + 2 * k + 6) hS hI htk (by omega) hc hszi (PQ h ch D tk fu l ca cb ha r) (fun rv h' z => ⟨_, z.1⟩) ?ra ?rb ?rc) ?_
    case ra =>
      intro h' hf e1 hS'
      rw [if_neg (by rw [e1]; decide)] at hr
      rw [hr]
      exact ⟨rfl, hf, ch, D, fu + 1, hS', hI.mono (by omega) (by omega), by omega, by omega, rfl, fun _ _ => rfl, fun _ _ => rfl⟩
    case rb =>
      intro h' hf e1 e2 hS'
      rw [if_pos e1, if_neg (by rw [e2]; decide)] at hr
      rw [hr]
      exact ⟨rfl, hf, _, _, fu + 1, hS', CI_split true hI (by omega) hc hszi (by omega), by omega, by omega, rfl, hlo, hlw true⟩
    case rc =>
      intro h' e5 hf e1 e2 he5 hS'
      rw [if_pos e1, if_pos e2] at hr
      have hIs := CI_split (D i).2.1 hI (by omega) hc hszi (by omega)
      have hcS : (spC ch l c1 i fu c2)[l]? = some (c1 ++ i :: fu :: c2) := by unfold spC; rw [ch_at hc, if_pos rfl]
      have hlen : (trS (spC ch l c1 i fu c2) (spD D i fu (D i).2.1)).length = (trS ch D).length := by rw [trS_len, trS_len]; unfold spC; rw [List.length_set]
      have hne : fu ≠ i := fun e => hfn l _ hc (e ▸ him)
      have hx5 : sk ((D i).2.2.1.getD 5 lowE) = w (l + 1) := by rw [b2, r2, gd5 hszi]
      have okx := (hI.2.2.2.2.2.1 _ _ hc i him).2 _ (List.mem_of_getElem? (in5 hszi))
      have kk := ih (l + 1) h' (spC ch l c1 i fu c2) (spD D i fu (D i).2.1) (fu + 1) (sW 1 (sW 63 q).2).2 e5 (pa fu) ((D i).2.2.1.getD 5 lowE) (by omega) hS' hIs (hP.up hlen (fun j hj => by rw [hTo]; exact ss_ne (by omega))) hx5 okx he5 (Or.inr ⟨l, fu, _, rfl, rfl, by omega, hcS, by simp, by rw [spD_f _ hne]⟩) (by omega)
      rw [← hr] at kk
      refine kk.mono (fun rv h2 ⟨z1, z2, ch', D', fu', y1, y2, y3, y4, y5, y6, y7⟩ => ⟨z1, hf.tr z2, ch', D', fu', y1, y2, by omega, y4, y5, fun j hj => (y6 j (by omega)).trans (hlo j hj), fun b hb => (y7 b (by omega)).trans (hlw _ b hb)⟩)
    rintro _ h2 ⟨rfl, hf2, ch', D', fu', y1, y2, y3, y4, y5, y6, y7⟩
    refine e_istore dX2_put_53 (by decide) rfl ?_
    refine e_iload dX2_put_55 rfl ?_
    by_cases er : r.1 = true
    · refine e_if_ne (tgt := 62) dX2_put_57 (by decide) (fun _ => ?_) (fun z => absurd z (by rw [er]; decide))
      have e1 : (sW 63 q).1 = true := by
        by_cases z : (sW 63 q).1 = true
        · exact z
        · rw [if_neg z] at hr; rw [hr] at er; cases er
      have e2 : (sW 1 (sW 63 q).2).1 = true := by
        by_cases z : (sW 1 (sW 63 q).2).1 = true
        · exact z
        · rw [if_pos e1, if_neg z] at hr; rw [hr] at er; cases er
      rw [if_pos e1, if_pos e2] at hr
      have hIs := CI_split (D i).2.1 hI (by omega) hc hszi (by omega)
      have hlen : (trS (spC ch l c1 i fu c2) (spD D i fu (D i).2.1)).length = (trS ch D).length := by rw [trS_len, trS_len]; unfold spC; rw [List.length_set]
      have hl := ci_at (D := D) hc
      obtain ⟨i1, i2, i3⟩ := sPut_ok top w rs k (l + 1) (k + 1) (trS (spC ch l c1 i fu c2) (spD D i fu (D i).2.1)) (sW 1 (sW 63 q).2).2 (by omega) (by omega) hIs.1 (hP.up hlen (fun j hj => by rw [hTo]; exact ss_ne (by omega))) (fun _ => ⟨_, gR (pgS D i), by rw [Nat.add_sub_cancel, hTo]; exact ss_at hl, List.mem_append_right _ (List.mem_cons_of_mem _ List.mem_cons_self), by rw [b2, r2]; rfl⟩)
      rw [← hr] at i1 i2 i3
      subst r1 r2 r3
      obtain ⟨d1, g', d2, f1, f2, f3, f4⟩ := half_C (hI.1.1 l _ a1) a2 b1 a3 (D i).2.1
      have hat : (trS ch' D')[l]? = some (d1 ++ g' :: d2) := by rw [y5, i2 l (by omega), hTo, ss_at hl, f1]
      rw [hE, if_pos er, ← y5]
      refine e_loc [3, 2, 1, 0] rfl (put_fin (d + 2 * (k + 1)) e pb l v htk y1 y2 y4 hat f2 (by omega) f4 a4 (hf2.2.1 _ _ he) hv (hpb.up hI y6 y7) (fun rv h' ⟨z1, z2, ch2, D2, fu2, x1, x2, x3, x4, x5, x6, x7⟩ => ?_))
      exact ⟨z1, hf2.tr z2, ch2, D2, fu2, x1, x2, by omega, x4, x5, fun j hj => (x6 j hj).trans (y6 j hj), fun b hb => (x7 b (by omega)).trans (y7 b hb)⟩
    · refine e_if_ne (tgt := 62) dX2_put_57 (by decide) (fun z => absurd (by rw [Bool.not_eq_true] at er; rw [er]; rfl) z) (fun _ => ?_)
      rw [hE, if_neg er]
      refine e_iconst (v := 0) dX2_put_60 (by decide) ?_
      exact e_iret dX2_put_61 rfl rfl ⟨by rw [Bool.not_eq_true] at er; rw [er]; rfl, hf2, ch', D', fu', y1, y2, y3, y4, y5, y6, y7⟩
