/-! the class: where a page is found -/
def tC (tk fu : Nat) (ws cl : Int32) (ca : Nat) (cb : Bool) (ha : Nat) : xC := .inr (2, [.ref 3, .ref 4, .ref 8, .ref 5, .int (nI tk), .int (nI fu), .int ws, .int cl, .ref ca, .int (bI cb), .ref ha])
section PQ
variable {h : xH} {ch : List (List Nat)} {D : cD} {tk : Nat}
theorem cnt_pos {D : cD} {i : Nat} {v : xE} (h0 : (pgS D i).2.2.head? = some (pgS D i).1) (hok : ∀ x ∈ (D i).2.2.1, okE x) (hl : okE (D i).1) (hv : okE v) (hle : sk (D i).1 ≤ sk v) : 0 < cnt (od v + 1) (D i).2.2.1 := by
  cases hi : (D i).2.2.1 with
  | nil => simp [pgS, hi] at h0
  | cons x t =>
    have hx : sk x = sk (D i).1 := by simpa [pgS, hi] using h0
    have hxo := hok x (by rw [hi]; exact List.mem_cons_self)
    have := (sk_le hxo hv).mp (by rw [hx]; exact hle)
    unfold cnt
    rw [if_pos (by omega)]
    omega
theorem cnt_at {c : Nat} : ∀ {vs : List xE} {m : Nat}, m < cnt c vs → ∃ x, vs[m]? = some x ∧ od x < c := by
  intro vs
  induction vs with
  | nil => intro m h; simp [cnt] at h
  | cons a t ih =>
    intro m h
    unfold cnt at h
    split at h
    · rename_i ha
      cases m with
      | zero => exact ⟨a, rfl, ha⟩
      | succ m => exact ih (by omega)
    · omega
theorem root_top (hI : CI ch D tk) : ∃ n, ch.length = n + 1 ∧ ch[n]? = some [0] := hI.2.1
theorem CI.ex (hI : CI ch D tk) {l : Nat} (hl : l < ch.length) (v : Nat) : ∃ c1 i c2, ch[l]? = some (c1 ++ i :: c2) ∧ InC ((c1 ++ i :: c2).map (pgS D)) v (c1.map (pgS D)) (pgS D i) (c2.map (pgS D)) := by
  obtain ⟨c, hc⟩ : ∃ c, ch[l]? = some c := ⟨_, List.getElem?_eq_getElem hl⟩
  obtain ⟨p1, g, p2, hC⟩ := (hI.1.1 l _ (trS_at hc)).ex v
  obtain ⟨c1, i, c2, e1, e2, e3, e4⟩ := cz hC.1
  subst e2 e3 e4
  rw [e1] at hc hC
  exact ⟨c1, i, c2, hc, hC⟩
theorem pic_lo (d t e : Nat) (v : xE) {fu : Nat} {ws cl : Int32} {ca : Nat} {cb : Bool} {ha : Nat} (ht : h.2 t = some (tC tk fu ws cl ca cb ha)) (hCP : CP h ch D) (hI : CI ch D tk) (he : h.2 e = some (eC v)) (hv : okE v) (l : Nat) {c1 c2 : List Nat} {i : Nat} (hc : ch[l]? = some (c1 ++ i :: c2)) (hC : InC ((c1 ++ i :: c2).map (pgS D)) (sk v) (c1.map (pgS D)) (pgS D i) (c2.map (pgS D))) :
    ∀ (n a j : Nat) (d1 d2 : List Nat), l + n = a → ch[a]? = some (d1 ++ j :: d2) → InC ((d1 ++ j :: d2).map (pgS D)) (sk v) (d1.map (pgS D)) (pgS D j) (d2.map (pgS D)) → x_E mX2_pageInCharge (d + 6) 0 0 14 [(4, .int (nI a)), (3, .ref (pa j)), (2, .ref e), (1, .int (nI l)), (0, .ref t)] [] h (fun rv h' => rv = [.ref (pa i)] ∧ h' = h) := by
  have h60 := hI.2.2.2.2.1
  intro n
  induction n with
  | zero =>
    intro a j d1 d2 ha' hcj hCj
    have : a = l := by omega
    subst this
    rw [hc] at hcj
    have e1 := Option.some.inj hcj
    rw [← e1] at hCj
    have hu := hC.un hCj
    have hlen : c1.length = d1.length := by have := congrArg List.length hu.1; simpa using this
    have e2 := List.append_inj e1 hlen
    have e3 : i = j := (List.cons.inj e2.2).1
    subst e3
    refine e_iload dX2_pageInCharge_14 rfl ?_
    refine e_iload_n dX2_pageInCharge_16 rfl ?_
    refine e_icmp_le (tgt := 47) dX2_pageInCharge_17 (by decide) (fun _ => ?_) (fun z => absurd (Int32.le_refl _) z)
    refine e_aload_n dX2_pageInCharge_47 rfl ?_
    exact e_aret dX2_pageInCharge_48 rfl (Or.inl ⟨_, rfl⟩) ⟨rfl, rfl⟩
  | succ n ih =>
    intro a j d1 d2 ha' hcj hCj
    obtain ⟨a', rfl⟩ : ∃ a', a = a' + 1 := ⟨a - 1, by omega⟩
    have hlen30 : ch.length ≤ 60 := by
      have h1 := nPg_ge (trS ch D) hI.1.2.2.1 (by obtain ⟨n, g, q1, q2, -⟩ := hI.1.2.1; exact ⟨n, g, q1, q2⟩)
      have h2 : nPg (trS ch D) = ch.flatten.length := by
        simp only [nPg, trS, List.map_map, List.length_flatten]
        congr 1
        refine List.map_congr_left fun c _ => ?_
        simp
      have h3 : ch.flatten.length ≤ (List.range 60).length := hI.2.2.1.length_le_of_subset (fun i hi => by
        obtain ⟨c, hc, hi'⟩ := List.mem_flatten.mp hi
        obtain ⟨l', hl'⟩ := List.getElem?_of_mem hc
        have := hI.2.2.2.1 l' c hl' i hi'
        exact List.mem_range.mpr (by omega))
      rw [trS_len] at h1
      simp only [List.length_range] at h3
      omega
    have haL := (List.getElem?_eq_some_iff.mp hcj).1
    have hjm : j ∈ d1 ++ j :: d2 := List.mem_append_right _ List.mem_cons_self
    have hj60 : j < 60 := by have := hI.2.2.2.1 _ _ hcj j hjm; omega
    obtain ⟨P, p1, p2, p3, p4⟩ := hCP j hj60
    have hpos : (d1 ++ j :: d2)[d1.length]? = some j := by rw [List.getElem?_append_right (Nat.le_refl _), Nat.sub_self]; rfl
    obtain ⟨q1, q2, q3, q4, q5, q6, q7⟩ := p4 _ _ _ hcj hpos
    have okj := hI.2.2.2.2.2.1 _ _ hcj j hjm
    have hh := hI.1.2.2.2.1 a' _ (pgS D j) (trS_at hcj) (List.mem_map.mpr ⟨j, hjm, rfl⟩)
    have hcp := cnt_pos hh okj.2 okj.1 hv hCj.2.1
    have hle10 : (D j).2.2.1.length ≤ 10 := by
      have := ((hI.1.1 _ _ (trS_at hcj)).2.2 (pgS D j) (List.mem_map.mpr ⟨j, hjm, rfl⟩)).2.2
      simpa [pgS] using this
    have hcl := cnt_le (od v + 1) (D j).2.2.1
    -- the mark and its page
    obtain ⟨x, hx1, hx2⟩ := cnt_at (show cnt (od v + 1) (D j).2.2.1 - 1 < cnt (od v + 1) (D j).2.2.1 by omega)
    obtain ⟨bl, bm⟩ := hI.2.2.2.2.2.2.1 a' _ hcj j hjm
    obtain ⟨b, hb⟩ : ∃ b, (D j).2.2.2[cnt (od v + 1) (D j).2.2.1 - 1]? = some b := ⟨_, List.getElem?_eq_getElem (by rw [bl]; omega)⟩
    obtain ⟨c', hc', hbc, hbs⟩ := bm _ b x hx1 hb
    have hxo := okj.2 x (List.mem_of_getElem? hx1)
    have hbx : sk (D b).1 ≤ sk v := by rw [hbs]; exact (sk_le hxo hv).mpr (by omega)
    have hPb : P.2.2 (cnt (od v + 1) (D j).2.2.1 - 1) = pa b := q7 _ b hb
    -- the level below
    obtain ⟨f1, f, f2, hcf, hCf⟩ := hI.ex (l := a') (by omega) (sk v)
    rw [hc'] at hcf
    have ec' : c' = f1 ++ f :: f2 := Option.some.inj hcf
    subst ec'
    obtain ⟨k, hk⟩ := List.getElem?_of_mem hbc
    have hkf : k ≤ f1.length := by
      rcases Nat.lt_or_ge f1.length k with z | z
      · rw [List.getElem?_append_right (by omega)] at hk
        obtain ⟨z', hz'⟩ : ∃ z', k - f1.length = z' + 1 := ⟨k - f1.length - 1, by omega⟩
        rw [hz'] at hk
        have hm : b ∈ f2 := List.mem_of_getElem? hk
        have := hCf.2.2.2 (pgS D b) (List.mem_map.mpr ⟨b, hm, rfl⟩)
        have : sk v < sk (D b).1 := this
        omega
      · exact z
    refine e_iload dX2_pageInCharge_14 rfl ?_
    refine e_iload_n dX2_pageInCharge_16 rfl ?_
    refine e_icmp_le (tgt := 47) dX2_pageInCharge_17 (by decide) (fun z => absurd z (nI_ge (by omega) (by omega))) (fun _ => ?_)
    refine e_aload_n dX2_pageInCharge_20 rfl ?_
    refine e_aload_n dX2_pageInCharge_21 rfl ?_
    refine e_V1d dX2_pageInCharge_22 gX2_137 p1.1 rfl (by omega) (Nat.le_of_ble_eq_true rfl) rfl rfl (con_below d h (pa j) e v P (D j).2.2.1 p1 q1 q6 hle10 he hcp) ?_
    rw [hPb]
    refine e_astore dX2_pageInCharge_25 (by decide) rfl ?_
    refine e_aload dX2_pageInCharge_27 rfl ?_
    refine e_ifnonnull (tgt := 34) dX2_pageInCharge_29 (by decide) (fun _ => ?_) (fun z => absurd z (pa_ne b))
    refine e_aload dX2_pageInCharge_34 rfl ?_
    refine e_aload_n dX2_pageInCharge_36 rfl ?_
    refine e_S2d dX2_pageInCharge_37 gX2_141 (by omega) (Nat.le_of_ble_eq_true rfl) rfl rfl (con_goRight (d + 1) e k b v hCP hI hc' hCf he hv hkf hk) ?_
    refine e_astore_n dX2_pageInCharge_40 (by decide) rfl ?_
    refine e_iinc dX2_pageInCharge_41 rfl rfl (by decide) rfl ?_
    refine e_goto (tgt := 14) dX2_pageInCharge_44 (by decide) ?_
    have hk2 := ih a' f f1 f2 (by omega) hc' hCf
    rw [← pk_m1 a'] at hk2
    exact e_loc [4, 3, 2, 1, 0] rfl hk2
theorem con_pic (d t e l : Nat) (v : xE) {fu : Nat} {ws cl : Int32} {ca : Nat} {cb : Bool} {ha : Nat} (ht : h.2 t = some (tC tk fu ws cl ca cb ha)) (hCP : CP h ch D) (hI : CI ch D tk) (he : h.2 e = some (eC v)) (hv : okE v) {c1 c2 : List Nat} {i : Nat} (hc : ch[l]? = some (c1 ++ i :: c2)) (hC : InC ((c1 ++ i :: c2).map (pgS D)) (sk v) (c1.map (pgS D)) (pgS D i) (c2.map (pgS D))) : x_D mX2_pageInCharge (d + 6) 0 0 [.ref t, .int (nI l), .ref e] h [.ref (pa i)] h := by
  refine e_enter (by decide) (Nat.le_of_ble_eq_true rfl) ?_
  obtain ⟨n, hn, hroot⟩ := hI.2.1
  have h60 := hI.2.2.2.2.1
  have hr0 : (0 : Nat) < 60 := by omega
  obtain ⟨P, p1, p2, p3, p4⟩ := hCP 0 hr0
  obtain ⟨q1, q2, -⟩ := p4 n [0] 0 hroot rfl
  have p0 : h.2 5 = some (pgC 5 P.1) := p1.1
  have hlt := (List.getElem?_eq_some_iff.mp hc).1
  -- the root is in charge of all of its level
  have hk := hI.1.1 n _ (trS_at hroot)
  obtain ⟨p, t', ep, hp0⟩ := hk.1
  have hlow0 : (pgS D 0).1 = 0 := by
    have : pgS D 0 = p := by simpa using (List.cons.inj ep).1
    rw [this]; exact hp0
  refine e_aload_n dX2_pageInCharge_0 rfl ?_
  refine e_get dX2_pageInCharge_1 fX2_29 ht rfl ?_
  refine e_astore_n dX2_pageInCharge_4 (by decide) rfl ?_
  refine e_aload_n dX2_pageInCharge_5 rfl ?_
  refine e_get dX2_pageInCharge_6 fX2_29 ht rfl ?_
  refine e_get dX2_pageInCharge_9 fX2_131 p0 rfl ?_
  refine e_istore dX2_pageInCharge_12 (by decide) rfl ?_
  rw [q2]
  refine e_loc [4, 3, 2, 1, 0] rfl (pic_lo d t e v ht hCP hI he hv l hc hC (n - l) n 0 [] [] (by omega) hroot ⟨rfl, ?_, fun q hq => (by cases hq), fun q hq => (by cases hq)⟩)
  rw [hlow0]
  exact Nat.zero_le _
end PQ
