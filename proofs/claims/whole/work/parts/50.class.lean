/-! the class's heap and the tree -/
def lowE : xE := (0, 0, 0, 0, -1)
def highE : xE := (-1, -1, -1, -1, 2147483647)
theorem od_low : od lowE = 2147483647 := by decide +kernel
def okE (e : xE) : Prop := 2147483647 ≤ od e
def sk (e : xE) : Nat := if od e = 2147483647 then 0 else od e + 1
theorem sk_lt {e f : xE} (he : okE e) (hf : okE f) : sk e < sk f ↔ od e < od f := by
  unfold okE at *
  unfold sk
  split <;> split <;> omega
theorem sk_le {e f : xE} (he : okE e) (hf : okE f) : sk e ≤ sk f ↔ od e ≤ od f := by
  unfold okE at *
  unfold sk
  split <;> split <;> omega
theorem sk_inj {e f : xE} (he : okE e) (hf : okE f) (h : sk e = sk f) : e = f := by
  refine od_inj ?_
  unfold okE at *
  unfold sk at h
  split at h <;> split at h <;> omega
theorem ok_low : okE lowE := by unfold okE; rw [od_low]; exact Nat.le_refl _
theorem sk_low : sk lowE = 0 := by unfold sk; rw [od_low, if_pos rfl]
theorem ok_pos {e : xE} (h : ¬ e.2.2.2.2 < 0) : okE e ∧ sk e = od e + 1 := by
  have h1 := (pl_lt e).2
  have h2 : 0 ≤ e.2.2.2.2.toInt := by
    have := Int32.le_iff_toInt_le.mp (Int32.not_lt.mp h)
    simpa using this
  have h3 : 2147483648 ≤ od e := by unfold od; omega
  refine ⟨by unfold okE; omega, ?_⟩
  unfold sk
  rw [if_neg (by omega)]
def pa (i : Nat) : Nat := if i = 0 then 5 else 6 + 3 * i
theorem pa_inj {i j : Nat} (h : pa i = pa j) : i = j := by
  unfold pa at h
  split at h <;> split at h <;> omega
theorem pa_ne (i : Nat) : pa i ≠ 0 := by unfold pa; split <;> omega
abbrev cD : Type := Nat → xE × Bool × List xE × List Nat
def pgS (D : cD) (i : Nat) : Pg := (sk (D i).1, (D i).2.1, (D i).2.2.1.map sk)
def trS (ch : List (List Nat)) (D : cD) : Tr := ch.map (fun c => c.map (pgS D))
def nxA (c : List Nat) (k : Nat) : Nat := match c[k + 1]? with
  | some j => pa j
  | none => 0
/-- what the cells of the page i hold, if it stands at k in the level l -/
def CPi (h : xH) (ch : List (List Nat)) (D : cD) (i : Nat) (P : xP) : Prop := x_pg h (pa i) P ∧ x_fe h P.2.1 ∧ x_fb h P.2.2 ∧ ∀ (l : Nat) (c : List Nat) (k : Nat), ch[l]? = some c → c[k]? = some i → P.1.1 = (D i).2.2.1.length ∧ P.1.2.1 = l ∧ h.2 P.1.2.2.1 = some (eC (D i).1) ∧ P.1.2.2.2.1 = nxA c k ∧ P.1.2.2.2.2 = bI (D i).2.1 ∧ x_es h P.2.1 (D i).2.2.1 ∧ ∀ (j b : Nat), (D i).2.2.2[j]? = some b → P.2.2 j = pa b
def CP (h : xH) (ch : List (List Nat)) (D : cD) : Prop := ∀ i, i < 60 → ∃ P, CPi h ch D i P
def CI (ch : List (List Nat)) (D : cD) (tk : Nat) : Prop := trK (trS ch D) ∧ (∃ n, ch.length = n + 1 ∧ ch[n]? = some [0]) ∧ (ch.flatten).Nodup ∧ (∀ (l : Nat) c, ch[l]? = some c → ∀ i ∈ c, i < tk) ∧ tk ≤ 60 ∧ (∀ (l : Nat) c, ch[l]? = some c → ∀ i ∈ c, okE (D i).1 ∧ ∀ x ∈ (D i).2.2.1, okE x) ∧
  (∀ (l : Nat) c, ch[l + 1]? = some c → ∀ i ∈ c, (D i).2.2.2.length = (D i).2.2.1.length ∧ ∀ (j b : Nat) (x : xE), (D i).2.2.1[j]? = some x → (D i).2.2.2[j]? = some b → ∃ c', ch[l]? = some c' ∧ b ∈ c' ∧ sk (D b).1 = sk x) ∧ (∀ c, ch[0]? = some c → ∀ i ∈ c, ∀ x ∈ (D i).2.2.1, ¬ x.2.2.2.2 < 0)
theorem trS_at {ch : List (List Nat)} {D : cD} {l : Nat} {c : List Nat} (h : ch[l]? = some c) : (trS ch D)[l]? = some (c.map (pgS D)) := by simp [trS, h]
theorem trS_of {ch : List (List Nat)} {D : cD} {l : Nat} {p : List Pg} (h : (trS ch D)[l]? = some p) : ∃ c, ch[l]? = some c ∧ p = c.map (pgS D) := by
  simp only [trS, List.getElem?_map] at h
  cases hc : ch[l]? with
  | none => rw [hc] at h; cases h
  | some c => rw [hc] at h; exact ⟨c, rfl, (Option.some.inj h).symm⟩
theorem trS_len (ch : List (List Nat)) (D : cD) : (trS ch D).length = ch.length := by simp [trS]
/-- the zipper among the page numbers -/
theorem cz {D : cD} {c : List Nat} {p1 p2 : List Pg} {g : Pg} (h : c.map (pgS D) = p1 ++ g :: p2) : ∃ c1 i c2, c = c1 ++ i :: c2 ∧ p1 = c1.map (pgS D) ∧ g = pgS D i ∧ p2 = c2.map (pgS D) := by
  obtain ⟨c1, c', e1, e2, e3⟩ := List.map_eq_append_iff.mp h
  obtain ⟨i, c2, e4, e5, e6⟩ := List.map_eq_cons_iff.mp e3
  exact ⟨c1, i, c2, by rw [e1, e4], e2.symm, e5.symm, e6.symm⟩
theorem chain_le {ch : List (List Nat)} {D : cD} {tk : Nat} (hI : CI ch D tk) {l : Nat} {c : List Nat} (hc : ch[l]? = some c) : c.length ≤ 60 := by
  have hnd : c.Nodup := (List.pairwise_flatten.mp hI.2.2.1).1 c (List.mem_of_getElem? hc)
  have hlt := hI.2.2.2.1 l c hc
  have h60 := hI.2.2.2.2.1
  have hsub : c.length ≤ (List.range 60).length := by
    refine hnd.length_le_of_subset (fun i hi => List.mem_range.mpr ?_)
    have := hlt i hi
    omega
  simpa using hsub
section GR
variable {h : xH} {ch : List (List Nat)} {D : cD} {tk : Nat}
theorem go_lo (d e : Nat) (v : xE) {l : Nat} {c1 c2 : List Nat} {i : Nat} (hCP : CP h ch D) (hI : CI ch D tk) (hc : ch[l]? = some (c1 ++ i :: c2)) (hC : InC ((c1 ++ i :: c2).map (pgS D)) (sk v) (c1.map (pgS D)) (pgS D i) (c2.map (pgS D))) (he : h.2 e = some (eC v)) (hv : okE v) :
    ∀ (n k t j : Nat), k + n = c1.length → t ≤ k → (c1 ++ i :: c2)[k]? = some j → x_E mX2_goRight (d + 4) 0 0 4 [(3, .int (nI t)), (2, .ref (pa j)), (1, .ref e)] [] h (fun rv h' => rv = [.ref (pa i)] ∧ h' = h) := by
  have hlen := chain_le hI hc
  simp only [List.length_append, List.length_cons] at hlen
  have okc := hI.2.2.2.2.2.1 l _ hc
  have lt60 : ∀ j ∈ c1 ++ i :: c2, j < 60 := fun j hj => by have := hI.2.2.2.1 l _ hc j hj; have := hI.2.2.2.2.1; omega
  intro n
  induction n with
  | zero =>
    intro k t j hk ht hj
    have e0 : k = c1.length := by omega
    subst e0
    have ej : j = i := by
      rw [List.getElem?_append_right (Nat.le_refl _), Nat.sub_self] at hj
      exact (Option.some.inj hj).symm
    subst ej
    obtain ⟨P, p1, p2, p3, p4⟩ := hCP j (lt60 j (List.mem_append_right _ List.mem_cons_self))
    obtain ⟨q1, q2, q3, q4, q5, q6, q7⟩ := p4 l _ _ hc hj
    have p0 := p1.1
    refine e_iload_n dX2_goRight_4 rfl ?_
    refine e_bipush (v := 60) dX2_goRight_5 (by decide) ?_
    refine e_icmp_ge (tgt := 44) dX2_goRight_7 (by decide) (fun c => absurd c (nI_ge (b := 60) (by omega) (by decide))) (fun _ => ?_)
    refine e_aload_n dX2_goRight_10 rfl ?_
    refine e_get dX2_goRight_11 fX2_100 p0 rfl ?_
    have fin : x_E mX2_goRight (d + 4) 0 0 44 [(2, .ref (pa j))] [] h (fun rv h' => rv = [.ref (pa j)] ∧ h' = h) := by
      refine e_aload_n dX2_goRight_44 rfl ?_
      exact e_aret dX2_goRight_45 rfl (Or.inl ⟨_, rfl⟩) ⟨rfl, rfl⟩
    cases c2 with
    | nil =>
      have : P.1.2.2.2.1 = 0 := by rw [q4]; simp [nxA]
      refine e_ifnull (tgt := 44) dX2_goRight_14 (by decide) (fun _ => e_loc [2] rfl fin) (fun z => absurd this z)
    | cons b c2 =>
      have hb : (c1 ++ j :: b :: c2)[c1.length + 1]? = some b := by rw [List.getElem?_append_right (by omega), show c1.length + 1 - c1.length = 1 by omega]; rfl
      have hn : P.1.2.2.2.1 = pa b := by rw [q4]; simp only [nxA, hb]
      refine e_ifnull (tgt := 44) dX2_goRight_14 (by decide) (fun z => absurd (hn.symm.trans z) (pa_ne b)) (fun _ => ?_)
      have hbm : b ∈ c1 ++ j :: b :: c2 := List.mem_of_getElem? hb
      obtain ⟨Pb, r1, r2, r3, r4⟩ := hCP b (lt60 b hbm)
      obtain ⟨s1, s2, s3, s4, s5, s6, s7⟩ := r4 l _ _ hc hb
      have r0 := r1.1
      refine e_aload_n dX2_goRight_17 rfl ?_
      refine e_aload_n dX2_goRight_18 rfl ?_
      refine e_get dX2_goRight_19 fX2_100 p0 rfl ?_
      rw [hn]
      refine e_get dX2_goRight_22 fX2_145 r0 rfl ?_
      refine e_V1d dX2_goRight_25 gX2_148 he rfl (by omega) (Nat.le_of_ble_eq_true rfl) rfl rfl (con_cmp d h e _ v (D b).1 he s3) ?_
      have hlt : od v < od (D b).1 := (sk_lt hv (okc b hbm).1).mp (hC.2.2.2 (pgS D b) (List.mem_map.mpr ⟨b, List.mem_cons_self, rfl⟩))
      refine e_if_ge (tgt := 33) dX2_goRight_28 (by decide) (fun z => absurd z (by rw [c3_lt (by omega)]; decide)) (fun _ => ?_)
      refine e_aload_n dX2_goRight_31 rfl ?_
      exact e_aret dX2_goRight_32 rfl (Or.inl ⟨_, rfl⟩) ⟨rfl, rfl⟩
  | succ n ih =>
    intro k t j hk ht hj
    have hjm := List.mem_of_getElem? hj
    obtain ⟨P, p1, p2, p3, p4⟩ := hCP j (lt60 j hjm)
    obtain ⟨q1, q2, q3, q4, q5, q6, q7⟩ := p4 l _ _ hc hj
    have p0 := p1.1
    obtain ⟨b, hb⟩ : ∃ b, (c1 ++ i :: c2)[k + 1]? = some b := ⟨_, List.getElem?_eq_getElem (by simp only [List.length_append, List.length_cons]; omega)⟩
    have hbm := List.mem_of_getElem? hb
    have hn : P.1.2.2.2.1 = pa b := by rw [q4]; simp only [nxA, hb]
    obtain ⟨Pb, r1, r2, r3, r4⟩ := hCP b (lt60 b hbm)
    obtain ⟨s1, s2, s3, s4, s5, s6, s7⟩ := r4 l _ _ hc hb
    have r0 := r1.1
    have hle : od (D b).1 ≤ od v := by
      refine (sk_le (okc b hbm).1 hv).mp ?_
      rcases Nat.lt_or_ge (k + 1) c1.length with z | z
      · rw [List.getElem?_append_left z] at hb
        have := hC.2.2.1 (pgS D b) (List.mem_map.mpr ⟨b, List.mem_of_getElem? hb, rfl⟩)
        have h2 : sk (D b).1 < sk (D i).1 := this
        have h3 : sk (D i).1 ≤ sk v := hC.2.1
        omega
      · have : k + 1 = c1.length := by omega
        rw [this, List.getElem?_append_right (Nat.le_refl _), Nat.sub_self] at hb
        have e2 : i = b := Option.some.inj hb
        rw [← e2]
        exact hC.2.1
    refine e_iload_n dX2_goRight_4 rfl ?_
    refine e_bipush (v := 60) dX2_goRight_5 (by decide) ?_
    refine e_icmp_ge (tgt := 44) dX2_goRight_7 (by decide) (fun c => absurd c (nI_ge (b := 60) (by omega) (by decide))) (fun _ => ?_)
    refine e_aload_n dX2_goRight_10 rfl ?_
    refine e_get dX2_goRight_11 fX2_100 p0 rfl ?_
    refine e_ifnull (tgt := 44) dX2_goRight_14 (by decide) (fun z => absurd (hn.symm.trans z) (pa_ne b)) (fun _ => ?_)
    refine e_aload_n dX2_goRight_17 rfl ?_
    refine e_aload_n dX2_goRight_18 rfl ?_
    refine e_get dX2_goRight_19 fX2_100 p0 rfl ?_
    rw [hn]
    refine e_get dX2_goRight_22 fX2_145 r0 rfl ?_
    refine e_V1d dX2_goRight_25 gX2_148 he rfl (by omega) (Nat.le_of_ble_eq_true rfl) rfl rfl (con_cmp d h e _ v (D b).1 he s3) ?_
    refine e_if_ge (tgt := 33) dX2_goRight_28 (by decide) (fun _ => ?_) (fun z => absurd ?_ z)
    · refine e_aload_n dX2_goRight_33 rfl ?_
      refine e_get dX2_goRight_34 fX2_100 p0 rfl ?_
      rw [hn]
      refine e_astore_n dX2_goRight_37 (by decide) rfl ?_
      refine e_iinc dX2_goRight_38 rfl rfl (by decide) rfl ?_
      refine e_goto (tgt := 4) dX2_goRight_41 (by decide) ?_
      have hk := ih (k + 1) (t + 1) b (by omega) (by omega) hb
      rw [← nI_1] at hk
      exact e_loc [3, 2, 1] rfl hk
    · rcases Nat.lt_or_ge (od (D b).1) (od v) with z | z
      · rw [c3_gt (by omega)]; decide
      · rw [show od (D b).1 = od v by omega, c3_rf]; decide
theorem con_goRight (d e k j : Nat) (v : xE) {l : Nat} {c1 c2 : List Nat} {i : Nat} (hCP : CP h ch D) (hI : CI ch D tk) (hc : ch[l]? = some (c1 ++ i :: c2)) (hC : InC ((c1 ++ i :: c2).map (pgS D)) (sk v) (c1.map (pgS D)) (pgS D i) (c2.map (pgS D))) (he : h.2 e = some (eC v)) (hv : okE v) (hk : k ≤ c1.length) (hj : (c1 ++ i :: c2)[k]? = some j) : x_D mX2_goRight (d + 4) 0 0 [.ref (pa j), .ref e] h [.ref (pa i)] h := by
  refine e_enter (by decide) (Nat.le_of_ble_eq_true rfl) ?_
  refine e_aload_n dX2_goRight_0 rfl ?_
  refine e_astore_n dX2_goRight_1 (by decide) rfl ?_
  refine e_iconst (v := 0) dX2_goRight_2 (by decide) ?_
  refine e_istore_n dX2_goRight_3 (by decide) rfl ?_
  exact e_loc [3, 2, 1] rfl (go_lo d e v hCP hI hc hC he hv (c1.length - k) k 0 j (by omega) (by omega) hj)
end GR
