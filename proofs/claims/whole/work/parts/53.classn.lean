/-! the class: pages needed -/
theorem path_same {S : Tr} {w : Nat → Nat} {top : Nat} {rs : Bool} (hT : trK S) (hP : pth S w 0 top rs) : ∀ j, j ≤ top → ∃ c1 g c2, S[j]? = some (c1 ++ g :: c2) ∧ InC (c1 ++ g :: c2) (w j) c1 g c2 ∧ InC (c1 ++ g :: c2) (w 0) c1 g c2 := by
  intro j
  induction j with
  | zero =>
    intro _
    obtain ⟨c1, g, c2, a1, a2, -⟩ := hP.2 0 (Nat.le_refl _) (by omega)
    exact ⟨c1, g, c2, a1, a2, a2⟩
  | succ j ih =>
    intro hj
    obtain ⟨c1, g, c2, a1, a2, a3⟩ := ih (by omega)
    obtain ⟨c1', g', c2', b1, b2, b3, b4, b5, b6⟩ := hP.2 j (by omega) (by omega)
    rw [a1] at b1
    have e := Option.some.inj b1
    rw [← e] at b2
    obtain ⟨-, e2, -⟩ := a2.un b2
    subst e2
    obtain ⟨f1, f2⟩ := b5 (by omega)
    obtain ⟨x, hx1, hx2, -, -⟩ := full5 f1
    have hxm : x ∈ g.2.2 := List.mem_of_getElem? hx1
    have hk := hT.1 j _ a1
    have w1 : g.1 ≤ w (j + 1) := by rw [f2, hx2]; exact (hk.2.2 g (List.mem_append_right _ List.mem_cons_self)).2.1 x hxm
    have hw2 := List.pairwise_append.mp hk.2.1
    have w2 : ∀ q ∈ c2, w (j + 1) < q.1 := fun q hq => by rw [f2, hx2]; exact ((List.pairwise_cons.mp hw2.2.1).1 q hq).2 x hxm
    obtain ⟨d1, k, d2, k1, k2, -⟩ := hP.2 (j + 1) (by omega) hj
    -- a low of the level above is one of this level
    have low : ∀ q ∈ d1 ++ k :: d2, ∃ r ∈ c1 ++ g :: c2, r.1 = q.1 := by
      intro q hq
      have hh := hT.2.2.2.1 j _ q k1 hq
      obtain ⟨c, r, hc, hr, e⟩ := hT.2.2.2.2.1 j q.1 ⟨_, q, k1, hq, List.mem_of_mem_head? (by rw [hh]; exact rfl)⟩
      rw [a1] at hc
      cases hc
      exact ⟨r, hr, e⟩
    have side : ∀ r ∈ c1 ++ g :: c2, r.1 ≤ g.1 ∨ (w (j + 1) < r.1 ∧ w 0 < r.1) := by
      intro r hr
      rcases List.mem_append.mp hr with z | z
      · exact Or.inl (Nat.le_of_lt (a2.2.2.1 r z))
      · rcases List.mem_cons.mp z with rfl | z
        · exact Or.inl (Nat.le_refl _)
        · exact Or.inr ⟨w2 r z, a3.2.2.2 r z⟩
    have g0 : g.1 ≤ w 0 := a3.2.1
    refine ⟨d1, k, d2, k1, k2, rfl, ?_, k2.2.2.1, fun q hq => ?_⟩
    · obtain ⟨r, hr, e1⟩ := low k (List.mem_append_right _ List.mem_cons_self)
      have := k2.2.1
      rcases side r hr with z | z
      · omega
      · omega
    · obtain ⟨r, hr, e1⟩ := low q (List.mem_append_right _ (List.mem_cons_of_mem _ hq))
      have := k2.2.2.2 q hq
      rcases side r hr with z | z
      · omega
      · omega
section PN
variable {h : xH} {ch : List (List Nat)} {D : cD} {tk : Nat}
theorem ch_len {bd : Nat} (hI : CI ch D bd) : ch.length ≤ 30 ∧ nPg (trS ch D) = ch.flatten.length ∧ ch.flatten.length ≤ bd := by
  have h1 := nPg_ge (trS ch D) hI.1.2.2.1 (by obtain ⟨n, g, q1, q2, -⟩ := hI.1.2.1; exact ⟨n, g, q1, q2⟩)
  have h2 : nPg (trS ch D) = ch.flatten.length := by
    simp only [nPg, trS, List.map_map, List.length_flatten]
    congr 1
    refine List.map_congr_left fun c _ => ?_
    simp
  have h3 : ch.flatten.length ≤ (List.range bd).length := hI.2.2.1.length_le_of_subset (fun i hi => by
    obtain ⟨c, hc, hi'⟩ := List.mem_flatten.mp hi
    obtain ⟨l', hl'⟩ := List.getElem?_of_mem hc
    exact List.mem_range.mpr (hI.2.2.2.1 l' c hl' i hi'))
  rw [trS_len] at h1
  simp only [List.length_range] at h3
  have := hI.2.2.2.2.1
  exact ⟨by omega, h2, h3⟩
/-- the root stands in the top level alone -/
theorem root_only (hI : CI ch D tk) {l : Nat} {c : List Nat} (hc : ch[l]? = some c) : 0 ∈ c ↔ l + 1 = ch.length := by
  obtain ⟨n, hn, hr⟩ := hI.2.1
  constructor
  · intro h0
    rcases Nat.lt_trichotomy l n with z | z | z
    · exfalso
      have hp := (List.pairwise_flatten.mp hI.2.2.1).2
      rw [List.pairwise_iff_getElem] at hp
      have h1 := (List.getElem?_eq_some_iff.mp hc)
      have h2 := (List.getElem?_eq_some_iff.mp hr)
      have := hp l n h1.1 h2.1 z
      rw [h1.2, h2.2] at this
      exact this 0 h0 0 List.mem_cons_self rfl
    · omega
    · have := (List.getElem?_eq_some_iff.mp hc).1
      omega
  · intro e
    have : l = n := by omega
    subst this
    rw [hr] at hc
    cases hc
    exact List.mem_cons_self
theorem zp_cls (hI : CI ch D tk) {l : Nat} {p1 p2 : List Pg} {g : Pg} {v : Nat} (hl : (trS ch D)[l]? = some (p1 ++ g :: p2)) (hC : InC (p1 ++ g :: p2) v p1 g p2) : ∃ c1 i c2, ch[l]? = some (c1 ++ i :: c2) ∧ p1 = c1.map (pgS D) ∧ g = pgS D i ∧ p2 = c2.map (pgS D) ∧ InC ((c1 ++ i :: c2).map (pgS D)) v (c1.map (pgS D)) (pgS D i) (c2.map (pgS D)) := by
  obtain ⟨c, hc, e⟩ := trS_of hl
  obtain ⟨c1, i, c2, e1, e2, e3, e4⟩ := cz e.symm
  subst e2 e3 e4 e1
  refine ⟨c1, i, c2, hc, rfl, rfl, rfl, ?_⟩
  rw [e] at hC
  exact hC
theorem need_lo (d t e top : Nat) (v : xE) (w : Nat → Nat) (rs : Bool) {fu : Nat} {ws cl : Int32} {ca : Nat} {cb : Bool} {ha : Nat} (ht : h.2 t = some (tC tk fu ws cl ca cb ha)) (hCP : CP h ch D) (hI : CI ch D tk) (he : h.2 e = some (eC v)) (hv : okE v) (hP : pth (trS ch D) w 0 top rs) (hw : w 0 = sk v) :
    ∀ (k j : Nat), j + k = top → x_E mX2_pagesNeeded (d + 7) 0 0 4 [(3, .int (nI j)), (2, .int (nI j)), (1, .ref e), (0, .ref t)] [] h (fun rv h' => rv = [.int (nI (wnt top rs))] ∧ h' = h) := by
  obtain ⟨h30, -, -⟩ := ch_len hI
  have htop := hP.1
  rw [trS_len] at htop
  obtain ⟨n, hn, hroot⟩ := hI.2.1
  obtain ⟨P0, p01, -, -, p04⟩ := hCP 0 (by omega)
  have q02 := (p04 n [0] 0 hroot rfl).2.1
  have p00 : h.2 5 = some (pgC 5 P0.1) := p01.1
  have h60 := hI.2.2.2.2.1
  intro k
  induction k with
  | zero =>
    intro j hj
    have ej : j = top := by omega
    subst ej
    obtain ⟨p1, g, p2, a1, a2, a3⟩ := path_same hI.1 hP j (Nat.le_refl _)
    obtain ⟨p1', g', p2', b1, b2, b3, b4, b5, b6⟩ := hP.2 j (by omega) (Nat.le_refl _)
    rw [a1] at b1
    have e0 := Option.some.inj b1
    rw [← e0] at b2
    obtain ⟨-, e2, -⟩ := a2.un b2
    subst e2
    have b7 := b6 rfl
    rw [hw] at a3
    obtain ⟨c1, i, c2, hc, r1, r2, r3, hC⟩ := zp_cls hI a1 a3
    have him : i ∈ c1 ++ i :: c2 := List.mem_append_right _ List.mem_cons_self
    obtain ⟨P, p1', p2', p3', p4'⟩ := hCP i (by have := hI.2.2.2.1 _ _ hc i him; omega)
    have hpos : (c1 ++ i :: c2)[c1.length]? = some i := by rw [List.getElem?_append_right (Nat.le_refl _), Nat.sub_self]; rfl
    have q1 := (p4' _ _ _ hc hpos).1
    have hsz : P.1.1 = g.2.2.length := by rw [q1, r2]; simp [pgS]
    have p0 := p1'.1
    refine e_iload_n dX2_pagesNeeded_4 rfl ?_
    refine e_aload_n dX2_pagesNeeded_5 rfl ?_
    refine e_get dX2_pagesNeeded_6 fX2_29 ht rfl ?_
    refine e_get dX2_pagesNeeded_9 fX2_131 p00 rfl ?_
    rw [q02]
    refine e_icmp_gt (tgt := 58) dX2_pagesNeeded_12 (by decide) (fun z => absurd z (nI_nlt (by omega) (by omega))) (fun _ => ?_)
    refine e_aload_n dX2_pagesNeeded_15 rfl ?_
    refine e_iload_n dX2_pagesNeeded_16 rfl ?_
    refine e_aload_n dX2_pagesNeeded_17 rfl ?_
    refine e_V2d dX2_pagesNeeded_18 gX2_60 ht rfl (by omega) (Nat.le_of_ble_eq_true rfl) rfl rfl (con_pic d t e j v ht hCP hI he hv hc hC) ?_
    refine e_astore dX2_pagesNeeded_21 (by decide) rfl ?_
    refine e_aload dX2_pagesNeeded_23 rfl ?_
    refine e_get dX2_pagesNeeded_25 fX2_97 p0 rfl ?_
    refine e_bipush (v := 10) dX2_pagesNeeded_28 (by decide) ?_
    rw [hsz]
    cases rs with
    | false =>
      have b8 : g.2.2.length < 10 := b7
      refine e_icmp_ge (tgt := 35) dX2_pagesNeeded_30 (by decide) (fun z => absurd z (nI_ge (b := 10) b8 (by decide))) (fun _ => ?_)
      refine e_iload_n dX2_pagesNeeded_33 rfl ?_
      exact e_iret dX2_pagesNeeded_34 rfl rfl ⟨rfl, rfl⟩
    | true =>
      have b8 : g.2.2.length = 10 ∧ j + 1 = (trS ch D).length := b7
      rw [trS_len] at b8
      have hi0 : i = 0 := by
        have e3 : n = j := by omega
        rw [e3, hc] at hroot
        have hr' := Option.some.inj hroot
        cases c1 with
        | nil => exact (List.cons.inj hr').1
        | cons a c1 => simp at hr'
      subst hi0
      refine e_icmp_ge (tgt := 35) dX2_pagesNeeded_30 (by decide) (fun _ => ?_) (fun z => absurd (by rw [b8.1]; decide) z)
      refine e_iload_n dX2_pagesNeeded_35 rfl ?_
      refine e_aload dX2_pagesNeeded_36 rfl ?_
      refine e_aload_n dX2_pagesNeeded_38 rfl ?_
      refine e_get dX2_pagesNeeded_39 fX2_29 ht rfl ?_
      refine e_acmp_ne (tgt := 49) dX2_pagesNeeded_42 (by decide) (fun z => absurd rfl z) (fun _ => ?_)
      refine e_iconst (v := 2) dX2_pagesNeeded_45 (by decide) ?_
      refine e_goto (tgt := 50) dX2_pagesNeeded_46 (by decide) ?_
      refine e_iadd dX2_pagesNeeded_50 ?_
      refine e_istore_n dX2_pagesNeeded_51 (by decide) rfl ?_
      refine e_iinc dX2_pagesNeeded_52 rfl rfl (by decide) rfl ?_
      refine e_goto (tgt := 4) dX2_pagesNeeded_55 (by decide) ?_
      refine e_iload_n dX2_pagesNeeded_4 rfl ?_
      refine e_aload_n dX2_pagesNeeded_5 rfl ?_
      refine e_get dX2_pagesNeeded_6 fX2_29 ht rfl ?_
      refine e_get dX2_pagesNeeded_9 fX2_131 p00 rfl ?_
      rw [q02]
      refine e_icmp_gt (tgt := 58) dX2_pagesNeeded_12 (by decide) (fun _ => ?_) (fun z => absurd ?_ z)
      · refine e_iload_n dX2_pagesNeeded_58 rfl ?_
        exact e_iret dX2_pagesNeeded_59 rfl rfl ⟨congrArg (fun z => [Value.int z]) (nI_add j 2), rfl⟩
      · show nI n < nI j + 1
        rw [nI_1]
        exact nI_lt (by omega) (by omega)
  | succ k ih =>
    intro j hj
    obtain ⟨p1, g, p2, a1, a2, a3⟩ := path_same hI.1 hP j (by omega)
    obtain ⟨p1', g', p2', b1, b2, b3, b4, b5, b6⟩ := hP.2 j (by omega) (by omega)
    rw [a1] at b1
    have e0 := Option.some.inj b1
    rw [← e0] at b2
    obtain ⟨-, e2, -⟩ := a2.un b2
    subst e2
    obtain ⟨b7, b8⟩ := b5 (by omega)
    rw [hw] at a3
    obtain ⟨c1, i, c2, hc, r1, r2, r3, hC⟩ := zp_cls hI a1 a3
    have him : i ∈ c1 ++ i :: c2 := List.mem_append_right _ List.mem_cons_self
    obtain ⟨P, p1', p2', p3', p4'⟩ := hCP i (by have := hI.2.2.2.1 _ _ hc i him; omega)
    have hpos : (c1 ++ i :: c2)[c1.length]? = some i := by rw [List.getElem?_append_right (Nat.le_refl _), Nat.sub_self]; rfl
    have q1 := (p4' _ _ _ hc hpos).1
    have hsz : P.1.1 = g.2.2.length := by rw [q1, r2]; simp [pgS]
    have p0 := p1'.1
    have hi0 : i ≠ 0 := fun z => by
      subst z
      have := (root_only hI hc).mp him
      omega
    have hpa : ¬ pa i = 5 := fun z => hi0 (pa_inj (j := 0) z)
    refine e_iload_n dX2_pagesNeeded_4 rfl ?_
    refine e_aload_n dX2_pagesNeeded_5 rfl ?_
    refine e_get dX2_pagesNeeded_6 fX2_29 ht rfl ?_
    refine e_get dX2_pagesNeeded_9 fX2_131 p00 rfl ?_
    rw [q02]
    refine e_icmp_gt (tgt := 58) dX2_pagesNeeded_12 (by decide) (fun z => absurd z (nI_nlt (by omega) (by omega))) (fun _ => ?_)
    refine e_aload_n dX2_pagesNeeded_15 rfl ?_
    refine e_iload_n dX2_pagesNeeded_16 rfl ?_
    refine e_aload_n dX2_pagesNeeded_17 rfl ?_
    refine e_V2d dX2_pagesNeeded_18 gX2_60 ht rfl (by omega) (Nat.le_of_ble_eq_true rfl) rfl rfl (con_pic d t e j v ht hCP hI he hv hc hC) ?_
    refine e_astore dX2_pagesNeeded_21 (by decide) rfl ?_
    refine e_aload dX2_pagesNeeded_23 rfl ?_
    refine e_get dX2_pagesNeeded_25 fX2_97 p0 rfl ?_
    refine e_bipush (v := 10) dX2_pagesNeeded_28 (by decide) ?_
    rw [hsz]
    refine e_icmp_ge (tgt := 35) dX2_pagesNeeded_30 (by decide) (fun _ => ?_) (fun z => absurd (by rw [b7]; decide) z)
    refine e_iload_n dX2_pagesNeeded_35 rfl ?_
    refine e_aload dX2_pagesNeeded_36 rfl ?_
    refine e_aload_n dX2_pagesNeeded_38 rfl ?_
    refine e_get dX2_pagesNeeded_39 fX2_29 ht rfl ?_
    refine e_acmp_ne (tgt := 49) dX2_pagesNeeded_42 (by decide) (fun _ => ?_) (fun z => absurd z hpa)
    refine e_iconst (v := 1) dX2_pagesNeeded_49 (by decide) ?_
    refine e_iadd dX2_pagesNeeded_50 ?_
    refine e_istore_n dX2_pagesNeeded_51 (by decide) rfl ?_
    refine e_iinc dX2_pagesNeeded_52 rfl rfl (by decide) rfl ?_
    refine e_goto (tgt := 4) dX2_pagesNeeded_55 (by decide) ?_
    have hk := ih (j + 1) (by omega)
    rw [← nI_1] at hk
    exact e_loc [3, 2, 1, 0] rfl hk
theorem con_need (d t e top : Nat) (v : xE) (w : Nat → Nat) (rs : Bool) {fu : Nat} {ws cl : Int32} {ca : Nat} {cb : Bool} {ha : Nat} (ht : h.2 t = some (tC tk fu ws cl ca cb ha)) (hCP : CP h ch D) (hI : CI ch D tk) (he : h.2 e = some (eC v)) (hv : okE v) (hP : pth (trS ch D) w 0 top rs) (hw : w 0 = sk v) : x_D mX2_pagesNeeded (d + 7) 0 0 [.ref t, .ref e] h [.int (nI (wnt top rs))] h := by
  refine e_enter (by decide) (Nat.le_of_ble_eq_true rfl) ?_
  refine e_iconst (v := 0) dX2_pagesNeeded_0 (by decide) ?_
  refine e_istore_n dX2_pagesNeeded_1 (by decide) rfl ?_
  refine e_iconst (v := 0) dX2_pagesNeeded_2 (by decide) ?_
  refine e_istore_n dX2_pagesNeeded_3 (by decide) rfl ?_
  exact e_loc [3, 2, 1, 0] rfl (need_lo d t e top v w rs ht hCP hI he hv hP hw top 0 (by omega))
end PN
