/-! the class: next and back -/
def fl (D : cD) (c : List Nat) : List xE := c.flatMap (fun i => (D i).2.2.1)
theorem fl_nil (D : cD) : fl D [] = [] := rfl
theorem fl_cons (D : cD) (i : Nat) (c : List Nat) : fl D (i :: c) = (D i).2.2.1 ++ fl D c := by simp [fl]
theorem fl_app (D : cD) (a b : List Nat) : fl D (a ++ b) = fl D a ++ fl D b := by simp [fl]
theorem fl_mem {D : cD} {c : List Nat} {x : xE} : x ∈ fl D c ↔ ∃ i ∈ c, x ∈ (D i).2.2.1 := by simp [fl]
def nxQ (S : Tr) (K : Nat) (o : Option xE) : Prop := match o with
  | none => ∀ y, inI S 0 y → y < K
  | some x => ¬ x.2.2.2.2 < 0 ∧ inI S 0 (od x + 1) ∧ K ≤ od x + 1 ∧ ∀ y, inI S 0 y → K ≤ y → od x + 1 ≤ y
def bkQ (S : Tr) (K : Nat) (o : Option xE) : Prop := match o with
  | none => ∀ y, inI S 0 y → K ≤ y
  | some x => ¬ x.2.2.2.2 < 0 ∧ inI S 0 (od x + 1) ∧ od x + 1 < K ∧ ∀ y, inI S 0 y → y < K → y ≤ od x + 1
section CX
variable {h : xH} {ch : List (List Nat)} {D : cD} {tk bd : Nat}
theorem fl_sort (hI : CI ch D bd) {l : Nat} {c : List Nat} (hc : ch[l]? = some c) : (fl D c).Pairwise (fun a b => od a < od b) := by
  have hk := hI.1.1 l _ (trS_at hc)
  have h1 := flat_sort hk.2.1 hk.2.2
  have e : (c.map (pgS D)).flatMap (fun g => g.2.2) = (fl D c).map sk := by
    unfold fl
    rw [List.flatMap_map, List.map_flatMap]
    rfl
  rw [e, List.pairwise_map] at h1
  have ok : ∀ x ∈ fl D c, okE x := fun x hx => by
    obtain ⟨i, hi, hx'⟩ := fl_mem.mp hx
    exact (hI.2.2.2.2.2.1 l _ hc i hi).2 x hx'
  exact h1.imp_of_mem (fun {a b} ha hb z => (sk_lt (ok a ha) (ok b hb)).mp z)
theorem fl_pos (hI : CI ch D bd) {c : List Nat} (hc : ch[0]? = some c) {x : xE} (hx : x ∈ fl D c) : ¬ x.2.2.2.2 < 0 := by
  obtain ⟨i, hi, hx'⟩ := fl_mem.mp hx
  exact hI.2.2.2.2.2.2.2 _ hc i hi x hx'
theorem inI_fl (hI : CI ch D bd) {c : List Nat} (hc : ch[0]? = some c) (y : Nat) : inI (trS ch D) 0 y ↔ ∃ x ∈ fl D c, y = od x + 1 := by
  constructor
  · rintro ⟨c', g, z1, z2, z3⟩
    rw [trS_at hc] at z1
    have e := Option.some.inj z1
    subst e
    obtain ⟨i, hi, rfl⟩ := List.mem_map.mp z2
    obtain ⟨x, hx, rfl⟩ := List.mem_map.mp z3
    have hm : x ∈ fl D c := fl_mem.mpr ⟨i, hi, hx⟩
    exact ⟨x, hm, (ok_pos (fl_pos hI hc hm)).2⟩
  · rintro ⟨x, hx, rfl⟩
    rw [← (ok_pos (fl_pos hI hc hx)).2]
    obtain ⟨i, hi, hx'⟩ := fl_mem.mp hx
    exact ⟨_, pgS D i, trS_at hc, List.mem_map.mpr ⟨i, hi, rfl⟩, List.mem_map.mpr ⟨x, hx', rfl⟩⟩
theorem nx_ok (hI : CI ch D bd) {c : List Nat} (hc : ch[0]? = some c) {A B : List xE} {K : Nat} (e : fl D c = A ++ B) (hA : ∀ a ∈ A, od a < K) (hB : ∀ b ∈ B, K ≤ od b) : nxQ (trS ch D) (K + 1) B.head? := by
  have hs := fl_sort hI hc
  cases hb : B with
  | nil =>
    show ∀ y, _ → _
    intro y hy
    obtain ⟨x, hx, rfl⟩ := (inI_fl hI hc y).mp hy
    rw [e, hb, List.append_nil] at hx
    have := hA x hx
    omega
  | cons x t =>
    have hxm : x ∈ fl D c := by rw [e, hb]; exact List.mem_append_right _ List.mem_cons_self
    refine ⟨fl_pos hI hc hxm, (inI_fl hI hc _).mpr ⟨x, hxm, rfl⟩, by have := hB x (by rw [hb]; exact List.mem_cons_self); omega, fun y hy hK => ?_⟩
    obtain ⟨z, hz, rfl⟩ := (inI_fl hI hc y).mp hy
    rw [e, hb] at hz hs
    rcases List.mem_append.mp hz with q | q
    · have := hA z q; omega
    · rcases List.mem_cons.mp q with q | q
      · rw [q]; exact Nat.le_refl _
      · have := (List.pairwise_cons.mp (List.pairwise_append.mp hs).2.1).1 z q
        omega
theorem cnt_not {c : Nat} {vs : List xE} (hs : vs.Pairwise (fun a b => od a < od b)) : ∀ x ∈ vs.drop (cnt c vs), c ≤ od x := by
  induction vs with
  | nil => intro x hx; simp at hx
  | cons a t ih =>
    intro x hx
    have hs' := List.pairwise_cons.mp hs
    unfold cnt at hx
    split at hx
    · exact ih hs'.2 x hx
    · rename_i z
      rcases List.mem_cons.mp hx with q | q
      · rw [q]; omega
      · have := hs'.1 x q
        omega
theorem cnt_yes {c : Nat} {vs : List xE} : ∀ x ∈ vs.take (cnt c vs), od x < c := by
  induction vs with
  | nil => intro x hx; simp at hx
  | cons a t ih =>
    intro x hx
    unfold cnt at hx
    split at hx
    · rename_i z
      rcases List.mem_cons.mp hx with q | q
      · rw [q]; exact z
      · exact ih x q
    · simp at hx
def bkA (D : cD) (K : Nat) (c : List Nat) : List xE := c.flatMap (fun i => (D i).2.2.1.take (cnt K (D i).2.2.1))
theorem bkA_mem {K : Nat} {c : List Nat} {x : xE} : x ∈ bkA D K c ↔ ∃ i ∈ c, x ∈ (D i).2.2.1.take (cnt K (D i).2.2.1) := by simp [bkA]
theorem bkA_app (K : Nat) (a b : List Nat) : bkA D K (a ++ b) = bkA D K a ++ bkA D K b := by simp [bkA]
theorem bk_ok (hI : CI ch D bd) {c : List Nat} (hc : ch[0]? = some c) (K : Nat) : bkQ (trS ch D) (K + 1) (bkA D K c).getLast? := by
  have hs := fl_sort hI hc
  have hin : ∀ x ∈ fl D c, od x < K → x ∈ bkA D K c := fun x hx hK => by
    obtain ⟨i, hi, hx'⟩ := fl_mem.mp hx
    refine bkA_mem.mpr ⟨i, hi, ?_⟩
    rw [← List.take_append_drop (cnt K (D i).2.2.1) (D i).2.2.1] at hx'
    rcases List.mem_append.mp hx' with q | q
    · exact q
    · have := cnt_not (hI.sorted hc hi) x q
      omega
  have hlt : ∀ x ∈ bkA D K c, od x < K ∧ x ∈ fl D c := fun x hx => by
    obtain ⟨i, hi, hx'⟩ := bkA_mem.mp hx
    exact ⟨cnt_yes x hx', fl_mem.mpr ⟨i, hi, List.mem_of_mem_take hx'⟩⟩
  have hsub : ∀ c' : List Nat, (bkA D K c').Sublist (fl D c') := by
    intro c'
    induction c' with
    | nil => exact List.Sublist.refl _
    | cons i t ih =>
      have e1 : bkA D K (i :: t) = (D i).2.2.1.take (cnt K (D i).2.2.1) ++ bkA D K t := by simp [bkA]
      rw [e1, fl_cons]
      exact List.Sublist.append (List.take_sublist _ _) ih
  have hsA := hs.sublist (hsub c)
  cases hl : (bkA D K c).getLast? with
  | none =>
    have hnil := List.getLast?_eq_none_iff.mp hl
    show ∀ y, _ → _
    intro y hy
    obtain ⟨x, hx, rfl⟩ := (inI_fl hI hc y).mp hy
    rcases Nat.lt_or_ge (od x) K with z | z
    · have := hin x hx z
      rw [hnil] at this
      cases this
    · omega
  | some x =>
    obtain ⟨A, hA⟩ := List.getLast?_eq_some_iff.mp hl
    have hxm : x ∈ bkA D K c := by rw [hA]; exact List.mem_append_right _ List.mem_cons_self
    obtain ⟨h1, h2⟩ := hlt x hxm
    refine ⟨fl_pos hI hc h2, (inI_fl hI hc _).mpr ⟨x, h2, rfl⟩, by omega, fun y hy hK => ?_⟩
    obtain ⟨z, hz, rfl⟩ := (inI_fl hI hc y).mp hy
    have hzm := hin z hz (by omega)
    rw [hA] at hzm hsA
    rcases List.mem_append.mp hzm with q | q
    · have := (List.pairwise_append.mp hsA).2.2 z q x List.mem_cons_self
      omega
    · rw [List.mem_singleton.mp q]
      exact Nat.le_refl _
end CX
section CY
variable {h : xH} {S : Tr} {ch : List (List Nat)} {D : cD} {tk fu ca ha : Nat} {q : qW} {cv : xE} {cb : Bool} {hv : xE}
/-- the entry found comes into the hand, the cursor beside it -/
theorem hand_ok (hS : CSt h ch D tk fu q ca cb ha) (hI : CI ch D tk) (hT : trS ch D = S) (hN : xN h) (h187 : 187 ≤ h.1) {e : Nat} {x : xE} {b : Bool} (he : h.2 e = some (eC x)) (okx : okE x) : x_cg h (x_up h 2 (tC tk fu q.1 (clQ q) e b e)) ∧ CL (x_up h 2 (tC tk fu q.1 (clQ q) e b e)) S tk q x b x := by
  have hf3 := x_cf.up2 (c := tC tk fu q.1 (clQ q) e b e) hS.1
  exact ⟨(x_cg.rf hN).cf h187 hf3, ch, D, fu, e, e, hS.up2 hS.2.2.2.2.2, hI, hT, hf3.2.1 _ _ he, okx, hf3.2.1 _ _ he⟩
theorem next_go (d : Nat) (hS : CSt h ch D tk fu q ca cb ha) (hI : CI ch D tk) (hT : trS ch D = S) (hN : xN h) (h187 : 187 ≤ h.1) : ∀ (c2 c1 : List Nat) (j p t : Nat), ch[0]? = some (c1 ++ j :: c2) → t ≤ c1.length → p ≤ (D j).2.2.1.length →
    x_E mX2_next (d + 1) 0 0 25 [(3, .int (nI t)), (2, .int (nI p)), (1, .ref (pa j)), (0, .ref 2)] [] h (fun rv h' => match ((D j).2.2.1.drop p ++ fl D c2).head? with
      | none => rv = [.int 0] ∧ h' = h
      | some x => rv = [.int 1] ∧ x_cg h h' ∧ CL h' S tk q x true x) := by
  have s1 := hS.1
  intro c2
  induction c2 with
  | nil =>
    intro c1 j p t hc ht hp'
    have hlen := chain_le hI hc
    simp only [List.length_append, List.length_cons, List.length_nil] at hlen
    have hjm : j ∈ c1 ++ [j] := List.mem_append_right _ List.mem_cons_self
    have hj60 : j < 60 := by have := hI.2.2.2.1 _ _ hc j hjm; have := hI.2.2.2.2.1; omega
    have h10 := hI.ten hc hjm
    have hpos : (c1 ++ [j])[c1.length]? = some j := by rw [List.getElem?_append_right (Nat.le_refl _), Nat.sub_self]; rfl
    obtain ⟨P, hp⟩ := hS.2.2.2.2.1 j hj60
    obtain ⟨q1, q2, q3, q4, q5, q6, q7⟩ := hp.2.2.2 0 _ _ hc hpos
    have p0 := hp.1.1
    have hnx : P.1.2.2.2.1 = 0 := by rw [q4]; simp [nxA]
    refine e_iload_n dX2_next_25 rfl ?_
    refine e_bipush (v := 60) dX2_next_26 (by decide) ?_
    refine e_icmp_ge (tgt := 59) dX2_next_28 (by decide) (fun c => absurd c (nI_ge (b := 60) (by omega) (by decide))) (fun _ => ?_)
    refine e_iload_n dX2_next_31 rfl ?_
    refine e_aload_n dX2_next_32 rfl ?_
    refine e_get dX2_next_33 fX2_97 p0 rfl ?_
    rw [q1]
    refine e_icmp_lt (tgt := 59) dX2_next_36 (by decide) (fun z => ?_) (fun z => ?_)
    · have hlt : p < (D j).2.2.1.length := by
        rcases Nat.lt_or_ge p (D j).2.2.1.length with y | y
        · exact y
        · exact absurd z (nI_nlt y (by omega))
      obtain ⟨x, hx⟩ : ∃ x, (D j).2.2.1[p]? = some x := ⟨_, List.getElem?_eq_getElem hlt⟩
      have hd : (D j).2.2.1.drop p = x :: (D j).2.2.1.drop (p + 1) := by rw [List.drop_eq_getElem_cons hlt, (List.getElem?_eq_some_iff.mp hx).2]
      rw [hd]
      have okx := (hI.2.2.2.2.2.1 0 _ hc j hjm).2 x (List.mem_of_getElem? hx)
      have hh := hand_ok (b := true) hS hI hT hN h187 (q6 p x hx) okx
      refine e_iload_n dX2_next_59 rfl ?_
      refine e_aload_n dX2_next_60 rfl ?_
      refine e_get dX2_next_61 fX2_97 p0 rfl ?_
      rw [q1]
      refine e_icmp_lt (tgt := 69) dX2_next_64 (by decide) (fun _ => ?_) (fun y => absurd z y)
      refine e_aload_n dX2_next_69 rfl ?_
      refine e_aload_n dX2_next_70 rfl ?_
      refine e_iload_n dX2_next_71 rfl ?_
      refine e_V1d dX2_next_72 gX2_103 p0 rfl (by omega) (Nat.le_of_ble_eq_true rfl) rfl rfl (con_entryAt d h (pa j) p (P.2.1 p) P hp.1 (by omega) rfl) ?_
      refine e_putT (fs' := tL tk fu q.1 (clQ q) ca cb (P.2.1 p)) dX2_next_75 fX2_57 s1 (by exact Or.inl ⟨_, rfl⟩) rfl rfl ?_
      have t2 : (x_up h 2 (.inr (2, tL tk fu q.1 (clQ q) ca cb (P.2.1 p)))).2 2 = some (tC tk fu q.1 (clQ q) ca cb (P.2.1 p)) := x_up_s _ _ _
      refine e_aload_n dX2_next_78 rfl ?_
      refine e_aload_n dX2_next_79 rfl ?_
      refine e_get dX2_next_80 fX2_57 t2 rfl ?_
      refine e_iconst (v := 1) dX2_next_83 (by decide) ?_
      refine e_V2d dX2_next_84 gX2_89 t2 rfl (by omega) (Nat.le_of_ble_eq_true rfl) rfl rfl (con_moveCursor d 2 (P.2.1 p) true t2) ?_
      rw [x_up_up]
      refine e_iconst (v := 1) dX2_next_87 (by decide) ?_
      exact e_iret dX2_next_88 rfl rfl ⟨rfl, hh⟩
    · have hge : p = (D j).2.2.1.length := by
        rcases Nat.lt_or_ge p (D j).2.2.1.length with y | y
        · exact absurd (nI_lt y (by omega)) z
        · omega
      have hd : (D j).2.2.1.drop p = [] := by rw [List.drop_eq_nil_iff]; omega
      rw [hd, fl_nil]
      refine e_aload_n dX2_next_39 rfl ?_
      refine e_get dX2_next_40 fX2_100 p0 rfl ?_
      refine e_ifnull (tgt := 59) dX2_next_43 (by decide) (fun _ => ?_) (fun y => absurd hnx y)
      refine e_iload_n dX2_next_59 rfl ?_
      refine e_aload_n dX2_next_60 rfl ?_
      refine e_get dX2_next_61 fX2_97 p0 rfl ?_
      rw [q1]
      refine e_icmp_lt (tgt := 69) dX2_next_64 (by decide) (fun y => absurd y z) (fun _ => ?_)
      refine e_iconst (v := 0) dX2_next_67 (by decide) ?_
      exact e_iret dX2_next_68 rfl rfl ⟨rfl, rfl⟩
  | cons b c2 ih =>
    intro c1 j p t hc ht hp'
    have hlen := chain_le hI hc
    simp only [List.length_append, List.length_cons] at hlen
    have hjm : j ∈ c1 ++ j :: b :: c2 := List.mem_append_right _ List.mem_cons_self
    have hj60 : j < 60 := by have := hI.2.2.2.1 _ _ hc j hjm; have := hI.2.2.2.2.1; omega
    have h10 := hI.ten hc hjm
    have hpos : (c1 ++ j :: b :: c2)[c1.length]? = some j := by rw [List.getElem?_append_right (Nat.le_refl _), Nat.sub_self]; rfl
    have hb : (c1 ++ j :: b :: c2)[c1.length + 1]? = some b := by rw [List.getElem?_append_right (by omega), show c1.length + 1 - c1.length = 1 by omega]; rfl
    obtain ⟨P, hp⟩ := hS.2.2.2.2.1 j hj60
    obtain ⟨q1, q2, q3, q4, q5, q6, q7⟩ := hp.2.2.2 0 _ _ hc hpos
    have p0 := hp.1.1
    have hnx : P.1.2.2.2.1 = pa b := by rw [q4]; simp only [nxA, hb]
    refine e_iload_n dX2_next_25 rfl ?_
    refine e_bipush (v := 60) dX2_next_26 (by decide) ?_
    refine e_icmp_ge (tgt := 59) dX2_next_28 (by decide) (fun c => absurd c (nI_ge (b := 60) (by omega) (by decide))) (fun _ => ?_)
    refine e_iload_n dX2_next_31 rfl ?_
    refine e_aload_n dX2_next_32 rfl ?_
    refine e_get dX2_next_33 fX2_97 p0 rfl ?_
    rw [q1]
    refine e_icmp_lt (tgt := 59) dX2_next_36 (by decide) (fun z => ?_) (fun z => ?_)
    · have hlt : p < (D j).2.2.1.length := by
        rcases Nat.lt_or_ge p (D j).2.2.1.length with y | y
        · exact y
        · exact absurd z (nI_nlt y (by omega))
      obtain ⟨x, hx⟩ : ∃ x, (D j).2.2.1[p]? = some x := ⟨_, List.getElem?_eq_getElem hlt⟩
      have hd : (D j).2.2.1.drop p = x :: (D j).2.2.1.drop (p + 1) := by rw [List.drop_eq_getElem_cons hlt, (List.getElem?_eq_some_iff.mp hx).2]
      rw [hd]
      have okx := (hI.2.2.2.2.2.1 0 _ hc j hjm).2 x (List.mem_of_getElem? hx)
      have hh := hand_ok (b := true) hS hI hT hN h187 (q6 p x hx) okx
      refine e_iload_n dX2_next_59 rfl ?_
      refine e_aload_n dX2_next_60 rfl ?_
      refine e_get dX2_next_61 fX2_97 p0 rfl ?_
      rw [q1]
      refine e_icmp_lt (tgt := 69) dX2_next_64 (by decide) (fun _ => ?_) (fun y => absurd z y)
      refine e_aload_n dX2_next_69 rfl ?_
      refine e_aload_n dX2_next_70 rfl ?_
      refine e_iload_n dX2_next_71 rfl ?_
      refine e_V1d dX2_next_72 gX2_103 p0 rfl (by omega) (Nat.le_of_ble_eq_true rfl) rfl rfl (con_entryAt d h (pa j) p (P.2.1 p) P hp.1 (by omega) rfl) ?_
      refine e_putT (fs' := tL tk fu q.1 (clQ q) ca cb (P.2.1 p)) dX2_next_75 fX2_57 s1 (by exact Or.inl ⟨_, rfl⟩) rfl rfl ?_
      have t2 : (x_up h 2 (.inr (2, tL tk fu q.1 (clQ q) ca cb (P.2.1 p)))).2 2 = some (tC tk fu q.1 (clQ q) ca cb (P.2.1 p)) := x_up_s _ _ _
      refine e_aload_n dX2_next_78 rfl ?_
      refine e_aload_n dX2_next_79 rfl ?_
      refine e_get dX2_next_80 fX2_57 t2 rfl ?_
      refine e_iconst (v := 1) dX2_next_83 (by decide) ?_
      refine e_V2d dX2_next_84 gX2_89 t2 rfl (by omega) (Nat.le_of_ble_eq_true rfl) rfl rfl (con_moveCursor d 2 (P.2.1 p) true t2) ?_
      rw [x_up_up]
      refine e_iconst (v := 1) dX2_next_87 (by decide) ?_
      exact e_iret dX2_next_88 rfl rfl ⟨rfl, hh⟩
    · have hge : p = (D j).2.2.1.length := by
        rcases Nat.lt_or_ge p (D j).2.2.1.length with y | y
        · exact absurd (nI_lt y (by omega)) z
        · omega
      have hd : (D j).2.2.1.drop p = [] := by rw [List.drop_eq_nil_iff]; omega
      rw [hd, List.nil_append, fl_cons]
      refine e_aload_n dX2_next_39 rfl ?_
      refine e_get dX2_next_40 fX2_100 p0 rfl ?_
      refine e_ifnull (tgt := 59) dX2_next_43 (by decide) (fun y => absurd (hnx.symm.trans y) (pa_ne b)) (fun _ => ?_)
      refine e_aload_n dX2_next_46 rfl ?_
      refine e_get dX2_next_47 fX2_100 p0 rfl ?_
      rw [hnx]
      refine e_astore_n dX2_next_50 (by decide) rfl ?_
      refine e_iconst (v := 0) dX2_next_51 (by decide) ?_
      refine e_istore_n dX2_next_52 (by decide) rfl ?_
      refine e_iinc dX2_next_53 rfl rfl (by decide) rfl ?_
      refine e_goto (tgt := 25) dX2_next_56 (by decide) ?_
      have hk := ih (c1 ++ [j]) b 0 (t + 1) (by simpa using hc) (by simp; omega) (Nat.zero_le _)
      rw [← nI_1, List.drop_zero] at hk
      exact e_loc [3, 2, 1, 0] rfl hk
theorem con_next (d : Nat) (hL : CL h S tk q cv cb hv) (hN : xN h) (h187 : 187 ≤ h.1) : x_Con mX2_next (d + 7) 0 0 [.ref 2] h (fun rv h' => x_cg h h' ∧ ∃ o, nxQ S (od cv + (if cb then 1 else 0) + 1) o ∧ (match o with
      | none => rv = [.int 0] ∧ CL h' S tk q cv cb hv
      | some x => rv = [.int 1] ∧ CL h' S tk q x true x)) := by
  have hL0 := hL
  obtain ⟨ch, D, fu, ca, ha, hS, hI, hT, hcv, hok, hhv⟩ := hL
  have s1 := hS.1
  obtain ⟨c1, i, c2, hc, hC⟩ := hI.ex (l := 0) (by obtain ⟨n, hn, -⟩ := hI.2.1; omega) (sk cv)
  have him : i ∈ c1 ++ i :: c2 := List.mem_append_right _ List.mem_cons_self
  have hpos' : (c1 ++ i :: c2)[c1.length]? = some i := by rw [List.getElem?_append_right (Nat.le_refl _), Nat.sub_self]; rfl
  have hi60 : i < 60 := by have := hI.2.2.2.1 _ _ hc i him; have := hI.2.2.2.2.1; omega
  obtain ⟨P, hp⟩ := hS.2.2.2.2.1 i hi60
  obtain ⟨q1, q2, q3, q4, q5, q6, q7⟩ := hp.2.2.2 0 _ _ hc hpos'
  have okc := hI.2.2.2.2.2.1 0 _ hc
  have hk := hI.1.1 0 _ (trS_at hc)
  have hsr := hI.sorted hc him
  obtain ⟨K, hK⟩ : ∃ K, K = od cv + (if cb then 1 else 0) := ⟨_, rfl⟩
  have hbI : bI cb = nI (if cb then 1 else 0) := by cases cb <;> rfl
  have hQ : nxQ S (K + 1) ((D i).2.2.1.drop (cnt K (D i).2.2.1) ++ fl D c2).head? := by
    rw [← hT]
    refine nx_ok hI hc (A := fl D c1 ++ (D i).2.2.1.take (cnt K (D i).2.2.1)) ?_ (fun a hA => ?_) (fun b hB => ?_)
    · rw [fl_app, fl_cons]
      conv => lhs; rw [← List.take_append_drop (cnt K (D i).2.2.1) (D i).2.2.1]
      simp only [List.append_assoc]
    · rcases List.mem_append.mp hA with z | z
      · obtain ⟨j, hj, hx⟩ := fl_mem.mp z
        have hjm : j ∈ c1 ++ i :: c2 := List.mem_append_left _ hj
        have hw := hk.2.1
        rw [List.map_append, List.map_cons] at hw
        have h2 := ((List.pairwise_append.mp hw).2.2 (pgS D j) (List.mem_map.mpr ⟨j, hj, rfl⟩) (pgS D i) List.mem_cons_self).2 (sk a) (List.mem_map.mpr ⟨a, hx, rfl⟩)
        have h3 : sk (D i).1 ≤ sk cv := hC.2.1
        have h4 : sk a < sk cv := Nat.lt_of_lt_of_le h2 h3
        have := (sk_lt ((okc j hjm).2 a hx) hok).mp h4
        omega
      · exact cnt_yes a z
    · rcases List.mem_append.mp hB with z | z
      · exact cnt_not hsr b z
      · obtain ⟨j, hj, hx⟩ := fl_mem.mp z
        have hjm : j ∈ c1 ++ i :: c2 := List.mem_append_right _ (List.mem_cons_of_mem _ hj)
        have h2 : sk cv < sk (D j).1 := hC.2.2.2 (pgS D j) (List.mem_map.mpr ⟨j, hj, rfl⟩)
        have h3 := (hk.2.2 (pgS D j) (List.mem_map.mpr ⟨j, hjm, rfl⟩)).2.1 (sk b) (List.mem_map.mpr ⟨b, hx, rfl⟩)
        have h4 : sk cv < sk b := Nat.lt_of_lt_of_le h2 h3
        have := (sk_lt hok ((okc j hjm).2 b hx)).mp h4
        rw [hK]
        cases cb <;> simp <;> omega
  refine e_enter (by decide) (Nat.le_of_ble_eq_true rfl) ?_
  refine e_aload_n dX2_next_0 rfl ?_
  refine e_iconst (v := 0) dX2_next_1 (by decide) ?_
  refine e_aload_n dX2_next_2 rfl ?_
  refine e_get dX2_next_3 fX2_50 s1 rfl ?_
  refine e_V2d dX2_next_6 gX2_60 s1 rfl (by omega) (Nat.le_of_ble_eq_true rfl) rfl rfl (con_pic d 2 ca 0 cv s1 hS.2.2.2.2.1 hI hcv hok hc hC) ?_
  refine e_astore_n dX2_next_9 (by decide) rfl ?_
  refine e_aload_n dX2_next_10 rfl ?_
  refine e_aload_n dX2_next_11 rfl ?_
  refine e_get dX2_next_12 fX2_50 s1 rfl ?_
  refine e_aload_n dX2_next_15 rfl ?_
  refine e_get dX2_next_16 fX2_53 s1 rfl ?_
  rw [hbI]
  refine e_V2d dX2_next_19 gX2_93 hp.1.1 rfl (by omega) (Nat.le_of_ble_eq_true rfl) rfl rfl (con_cp (d + 2) h (pa i) ca cv P (D i).2.2.1 (if cb then 1 else 0) (by split <;> omega) hp.1 q1 q6 (hI.ten hc him) hcv) ?_
  rw [← hK]
  refine e_istore_n dX2_next_22 (by decide) rfl ?_
  refine e_iconst (v := 0) dX2_next_23 (by decide) ?_
  refine e_istore_n dX2_next_24 (by decide) rfl ?_
  refine e_loc [3, 2, 1, 0] rfl ((next_go (d + 6) hS hI hT hN h187 c2 c1 i (cnt K (D i).2.2.1) 0 hc (Nat.zero_le _) (cnt_le _ _)).mono (fun rv h' hq => ?_))
  cases ho : ((D i).2.2.1.drop (cnt K (D i).2.2.1) ++ fl D c2).head? with
  | none =>
    rw [ho] at hq hQ
    obtain ⟨z1, z2⟩ := hq
    subst z2
    exact ⟨x_cg.rf hN, none, hQ, z1, hL0⟩
  | some x =>
    rw [ho] at hq hQ
    obtain ⟨z1, z2, z3⟩ := hq
    exact ⟨z2, some x, hQ, z1, z3⟩
theorem back_go (d : Nat) {c : List Nat} (K : Nat) (hK : K = od cv + (if cb then 1 else 0)) (hS : CSt h ch D tk fu q ca cb ha) (hI : CI ch D tk) (hT : trS ch D = S) (hN : xN h) (h187 : 187 ≤ h.1) (h0 : h.2 0 = none) (hcv : h.2 ca = some (eC cv)) (hc : ch[0]? = some c) : ∀ (k t f : Nat), t + k = c.length → ((f = 0 ∧ (bkA D K (c.take t)).getLast? = none) ∨ ∃ x, h.2 f = some (eC x) ∧ okE x ∧ (bkA D K (c.take t)).getLast? = some x) →
    x_E mX2_back (d + 5) 0 0 10 [(3, .int (nI t)), (2, .ref (nxP c t)), (1, .ref f), (0, .ref 2)] [] h (fun rv h' => match (bkA D K c).getLast? with
      | none => rv = [.int 0] ∧ h' = h
      | some x => rv = [.int 1] ∧ x_cg h h' ∧ CL h' S tk q x false x) := by
  have s1 := hS.1
  have hlen := chain_le hI hc
  have hbI : bI cb = nI (if cb then 1 else 0) := by cases cb <;> rfl
  intro k
  induction k with
  | zero =>
    intro t f ht hf
    have e0 : t = c.length := by omega
    subst e0
    have e1 : c.take c.length = c := List.take_length
    have e2 : nxP c c.length = 0 := by unfold nxP; rw [List.getElem?_eq_none (Nat.le_refl _)]
    rw [e1] at hf
    rw [e2]
    have fin : x_E mX2_back (d + 5) 0 0 59 [(1, .ref f), (0, .ref 2)] [] h (fun rv h' => match (bkA D K c).getLast? with
      | none => rv = [.int 0] ∧ h' = h
      | some x => rv = [.int 1] ∧ x_cg h h' ∧ CL h' S tk q x false x) := by
      refine e_aload_n dX2_back_59 rfl ?_
      rcases hf with ⟨z1, z2⟩ | ⟨x, z1, okx, z2⟩
      · rw [z2]
        refine e_ifnonnull (tgt := 65) dX2_back_60 (by decide) (fun y => absurd z1 y) (fun _ => ?_)
        refine e_iconst (v := 0) dX2_back_63 (by decide) ?_
        exact e_iret dX2_back_64 rfl rfl ⟨rfl, rfl⟩
      · rw [z2]
        refine e_ifnonnull (tgt := 65) dX2_back_60 (by decide) (fun _ => ?_) (fun y => by rw [y, h0] at z1; cases z1)
        have hh := hand_ok (b := false) hS hI hT hN h187 z1 okx
        refine e_aload_n dX2_back_65 rfl ?_
        refine e_aload_n dX2_back_66 rfl ?_
        refine e_putT (fs' := tL tk fu q.1 (clQ q) ca cb f) dX2_back_67 fX2_57 s1 (by exact Or.inl ⟨_, rfl⟩) rfl rfl ?_
        have t2 : (x_up h 2 (.inr (2, tL tk fu q.1 (clQ q) ca cb f))).2 2 = some (tC tk fu q.1 (clQ q) ca cb f) := x_up_s _ _ _
        refine e_aload_n dX2_back_70 rfl ?_
        refine e_aload_n dX2_back_71 rfl ?_
        refine e_iconst (v := 0) dX2_back_72 (by decide) ?_
        refine e_V2d dX2_back_73 gX2_89 t2 rfl (by omega) (Nat.le_of_ble_eq_true rfl) rfl rfl (con_moveCursor d 2 f false t2) ?_
        rw [x_up_up]
        refine e_iconst (v := 1) dX2_back_76 (by decide) ?_
        exact e_iret dX2_back_77 rfl rfl ⟨rfl, hh⟩
    refine e_iload_n dX2_back_10 rfl ?_
    refine e_bipush (v := 60) dX2_back_11 (by decide) ?_
    refine e_icmp_ge (tgt := 59) dX2_back_13 (by decide) (fun _ => e_loc [1, 0] rfl fin) (fun _ => ?_)
    refine e_aload_n dX2_back_16 rfl ?_
    exact e_ifnull (tgt := 59) dX2_back_17 (by decide) (fun _ => e_loc [1, 0] rfl fin) (fun z => absurd rfl z)
  | succ k ih =>
    intro t f ht hf
    have hlt : t < c.length := by omega
    obtain ⟨j, hj⟩ : ∃ j, c[t]? = some j := ⟨_, List.getElem?_eq_getElem hlt⟩
    have hjm := List.mem_of_getElem? hj
    have hj60 : j < 60 := by have := hI.2.2.2.1 _ _ hc j hjm; have := hI.2.2.2.2.1; omega
    have e2 : nxP c t = pa j := by unfold nxP; rw [hj]
    rw [e2]
    obtain ⟨P, hp⟩ := hS.2.2.2.2.1 j hj60
    obtain ⟨q1, q2, q3, q4, q5, q6, q7⟩ := hp.2.2.2 0 _ _ hc hj
    have p0 := hp.1.1
    have h10 := hI.ten hc hjm
    have hcl := cnt_le K (D j).2.2.1
    have e3 : nxP c (t + 1) = P.1.2.2.2.1 := by rw [q4]; rfl
    have e4 : c.take (t + 1) = c.take t ++ [j] := by rw [List.take_add_one, hj]; rfl
    have e5 : bkA D K (c.take (t + 1)) = bkA D K (c.take t) ++ (D j).2.2.1.take (cnt K (D j).2.2.1) := by
      rw [e4, bkA_app]
      simp [bkA]
    refine e_iload_n dX2_back_10 rfl ?_
    refine e_bipush (v := 60) dX2_back_11 (by decide) ?_
    refine e_icmp_ge (tgt := 59) dX2_back_13 (by decide) (fun z => absurd z (nI_ge (b := 60) (by omega) (by decide))) (fun _ => ?_)
    refine e_aload_n dX2_back_16 rfl ?_
    refine e_ifnull (tgt := 59) dX2_back_17 (by decide) (fun z => absurd z (pa_ne j)) (fun _ => ?_)
    refine e_aload_n dX2_back_20 rfl ?_
    refine e_aload_n dX2_back_21 rfl ?_
    refine e_get dX2_back_22 fX2_50 s1 rfl ?_
    refine e_aload_n dX2_back_25 rfl ?_
    refine e_get dX2_back_26 fX2_53 s1 rfl ?_
    rw [hbI]
    refine e_V2d dX2_back_29 gX2_93 p0 rfl (by omega) (Nat.le_of_ble_eq_true rfl) rfl rfl (con_cp d h (pa j) ca cv P (D j).2.2.1 (if cb then 1 else 0) (by split <;> omega) hp.1 q1 q6 h10 hcv) ?_
    rw [← hK]
    refine e_istore dX2_back_32 (by decide) rfl ?_
    refine e_iload dX2_back_34 rfl ?_
    have step : ∀ f' (ls : List (Nat × Value)), x_lk ls 0 = some (.ref 2) → x_lk ls 1 = some (.ref f') → x_lk ls 2 = some (.ref (pa j)) → x_lk ls 3 = some (.int (nI t)) → ((f' = 0 ∧ (bkA D K (c.take (t + 1))).getLast? = none) ∨ ∃ x, h.2 f' = some (eC x) ∧ okE x ∧ (bkA D K (c.take (t + 1))).getLast? = some x) → x_E mX2_back (d + 5) 0 0 48 [(3, .int (nI t)), (2, .ref (pa j)), (1, .ref f'), (0, .ref 2)] [] h (fun rv h' => match (bkA D K c).getLast? with
      | none => rv = [.int 0] ∧ h' = h
      | some x => rv = [.int 1] ∧ x_cg h h' ∧ CL h' S tk q x false x) := by
      intro f' ls l0 l1 l2 l3 hf'
      refine e_aload_n dX2_back_48 rfl ?_
      refine e_get dX2_back_49 fX2_100 p0 rfl ?_
      refine e_astore_n dX2_back_52 (by decide) rfl ?_
      refine e_iinc dX2_back_53 rfl rfl (by decide) rfl ?_
      refine e_goto (tgt := 10) dX2_back_56 (by decide) ?_
      have hk := ih (t + 1) f' (by omega) hf'
      rw [e3, ← nI_1] at hk
      exact e_loc [3, 2, 1, 0] rfl hk
    refine e_if_le (tgt := 48) dX2_back_36 (by decide) (fun z => ?_) (fun z => ?_)
    · have h00 : cnt K (D j).2.2.1 = 0 := by
        rcases Nat.lt_or_ge 0 (cnt K (D j).2.2.1) with y | y
        · exact absurd z (nI_ge (a := 0) y (by omega))
        · omega
      rw [h00, List.take_zero, List.append_nil] at e5
      exact e_loc [3, 2, 1, 0] rfl (step f [(3, .int (nI t)), (2, .ref (pa j)), (1, .ref f), (0, .ref 2)] rfl rfl rfl rfl (by rw [e5]; exact hf))
    · obtain ⟨m, hm⟩ : ∃ m, cnt K (D j).2.2.1 = m + 1 := by
        rcases Nat.lt_or_ge 0 (cnt K (D j).2.2.1) with y | y
        · exact ⟨cnt K (D j).2.2.1 - 1, by omega⟩
        · exact absurd (by rw [show cnt K (D j).2.2.1 = 0 by omega]; decide) z
      obtain ⟨x, hx⟩ : ∃ x, (D j).2.2.1[m]? = some x := ⟨_, List.getElem?_eq_getElem (by omega)⟩
      have e6 : (D j).2.2.1.take (m + 1) = (D j).2.2.1.take m ++ [x] := by rw [List.take_add_one, hx]; rfl
      rw [hm, e6, ← List.append_assoc] at e5
      rw [hm]
      refine e_aload_n dX2_back_39 rfl ?_
      refine e_iload dX2_back_40 rfl ?_
      refine e_iconst (v := 1) dX2_back_42 (by decide) ?_
      refine e_isub dX2_back_43 ?_
      rw [nI_pred]
      refine e_V1d dX2_back_44 gX2_103 p0 rfl (by omega) (Nat.le_of_ble_eq_true rfl) rfl rfl (con_entryAt (d + 1) h (pa j) m (P.2.1 m) P hp.1 (by omega) rfl) ?_
      refine e_astore_n dX2_back_47 (by decide) rfl ?_
      exact e_loc [3, 2, 1, 0] rfl (step (P.2.1 m) [(3, .int (nI t)), (2, .ref (pa j)), (1, .ref (P.2.1 m)), (0, .ref 2)] rfl rfl rfl rfl (Or.inr ⟨x, q6 m x hx, (hI.2.2.2.2.2.1 0 _ hc j hjm).2 x (List.mem_of_getElem? hx), by rw [e5, List.getLast?_concat]⟩))
theorem con_back (d : Nat) (hL : CL h S tk q cv cb hv) (hN : xN h) (h187 : 187 ≤ h.1) (h0 : h.2 0 = none) : x_Con mX2_back (d + 8) 0 0 [.ref 2] h (fun rv h' => x_cg h h' ∧ ∃ o, bkQ S (od cv + (if cb then 1 else 0) + 1) o ∧ (match o with
      | none => rv = [.int 0] ∧ CL h' S tk q cv cb hv
      | some x => rv = [.int 1] ∧ CL h' S tk q x false x)) := by
  have hL0 := hL
  obtain ⟨ch, D, fu, ca, ha, hS, hI, hT, hcv, hok, hhv⟩ := hL
  have s1 := hS.1
  obtain ⟨c, hc⟩ : ∃ c, ch[0]? = some c := ⟨_, List.getElem?_eq_getElem (by obtain ⟨n, hn, -⟩ := hI.2.1; omega)⟩
  obtain ⟨i, c', hcc⟩ : ∃ i c', c = i :: c' := by
    obtain ⟨p, t', ep, -⟩ := (hI.1.1 0 _ (trS_at hc)).1
    cases c with
    | nil => simp at ep
    | cons i c' => exact ⟨i, c', rfl⟩
  obtain ⟨K, hK⟩ : ∃ K, K = od cv + (if cb then 1 else 0) := ⟨_, rfl⟩
  have hQ := bk_ok hI hc K
  rw [hT] at hQ
  refine e_enter (by decide) (Nat.le_of_ble_eq_true rfl) ?_
  refine e_null dX2_back_0 ?_
  refine e_astore_n dX2_back_1 (by decide) rfl ?_
  refine e_aload_n dX2_back_2 rfl ?_
  refine e_iconst (v := 0) dX2_back_3 (by decide) ?_
  refine e_V1d dX2_back_4 gX2_107 s1 rfl (by omega) (Nat.le_of_ble_eq_true rfl) rfl rfl (con_leftmost d 0 hS hI (by rw [← hcc]; exact hc)) ?_
  refine e_astore_n dX2_back_7 (by decide) rfl ?_
  refine e_iconst (v := 0) dX2_back_8 (by decide) ?_
  refine e_istore_n dX2_back_9 (by decide) rfl ?_
  have kk := back_go (d + 3) K hK hS hI hT hN h187 h0 hcv hc c.length 0 0 (by omega) (Or.inl ⟨rfl, rfl⟩)
  have e1 : nxP c 0 = pa i := by rw [hcc]; rfl
  rw [e1] at kk
  refine e_loc [3, 2, 1, 0] rfl (kk.mono (fun rv h' hq => ?_))
  rw [← hK]
  cases ho : (bkA D K c).getLast? with
  | none =>
    rw [ho] at hq hQ
    obtain ⟨z1, z2⟩ := hq
    subst z2
    exact ⟨x_cg.rf hN, none, hQ, z1, hL0⟩
  | some x =>
    rw [ho] at hq hQ
    obtain ⟨z1, z2, z3⟩ := hq
    exact ⟨z2, some x, hQ, z1, z3⟩
end CY
