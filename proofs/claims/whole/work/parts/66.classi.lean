/-! the class: its constructor -/
def iG (n : Nat) (fs : List Value) (h0 h : xH) : Prop := h.1 = n ∧ h.2 2 = some (.inr (2, fs)) ∧ xN h ∧ (∀ a : Nat, a < 2 → h.2 a = h0.2 a) ∧ h.2 3 = some (eC lowE)
def P0 : xP := ((0, 0, 3, 0, 0), fun _ => 3, fun _ => 0)
def iA (i : Nat) : List Value := (List.range 60).map (fun j => if j < i then .ref (pa j) else .ref 0)
theorem iA_len (i : Nat) : (iA i).length = 60 := by simp [iA]
theorem iA_0 : List.replicate 60 (Value.ref 0) = iA 0 := by decide +kernel
theorem iA_s {i : Nat} (hi : i < 60) : (iA i).set i (.ref (pa i)) = iA (i + 1) := by
  refine List.ext_getElem? fun j => ?_
  rw [List.getElem?_set, iA_len]
  by_cases e : i = j
  · subst e
    rw [if_pos rfl, if_pos hi]
    simp [iA, hi]
  · rw [if_neg e]
    unfold iA
    rw [List.getElem?_map, List.getElem?_map]
    cases hj : (List.range 60)[j]? with
    | none => rfl
    | some j' =>
      have e2 : j = j' := by
        obtain ⟨h3, h4⟩ := List.getElem?_eq_some_iff.mp hj
        rw [List.getElem_range] at h4
        exact h4
      rw [Option.map_some, Option.map_some]
      by_cases q : j' < i
      · rw [if_pos q, if_pos (by omega)]
      · rw [if_neg q, if_neg (by omega)]
theorem iA_60 : iA 60 = (List.range 60).map (fun i => .ref (pa i)) := by
  unfold iA
  refine List.map_congr_left fun j hj => ?_
  rw [if_pos (List.mem_range.mp hj)]
/-- a new page: where it stands, what stays -/
theorem page_new {h : xH} {a : Nat} {c : xC} (h1 : h.1 = a) (hN : xN h) : (x_ps (x_gr (x_nw h c) 2) a P0).1 = a + 3 ∧ x_pg (x_ps (x_gr (x_nw h c) 2) a P0) a P0 ∧ xN (x_ps (x_gr (x_nw h c) 2) a P0) ∧ ∀ (b : Nat) o, b < a → h.2 b = o → (x_ps (x_gr (x_nw h c) 2) a P0).2 b = o := by
  refine ⟨?_, x_ps_pg _ _ _, fun b hb => ?_, fun b o hb ho => ?_⟩
  · show h.1 + 1 + 2 = _
    omega
  · have hb : h.1 + 1 + 2 ≤ b := hb
    exact x_ps_n (show (x_nw h c).2 b = none from x_nw_n (hN b (by omega)) (by omega)) (by omega) (by omega) (by omega)
  · exact x_ps_n (show (x_nw h c).2 b = o from x_nw_n ho (by omega)) (by omega) (by omega) (by omega)
theorem ini_lo (d : Nat) (h0 : xH) (Q : List Value → xH → Prop)
    (fin : ∀ h', iG 186 [.ref 3, .ref 4, .ref 8, .ref 5, .int 0, .int 0, .int 0, .int 0, .ref 0, .int 0, .ref 0] h0 h' → h'.2 4 = some (eC highE) → h'.2 8 = some pgA → (∀ j, j < 60 → x_pg h' (pa j) P0) → x_E mX2_init (d + 2) 1 5 110 [(0, .ref 2)] [] h' Q) :
    ∀ (k i : Nat) (h : xH), i + k = 60 → 1 ≤ i → iG (6 + 3 * i) [.ref 3, .ref 4, .ref 8, .ref 5, .int 0, .int 0, .int 0, .int 0, .ref 0, .int 0, .ref 0] h0 h → h.2 4 = some (eC highE) → h.2 8 = some (.inl (1, iA i)) → (∀ j, j < i → x_pg h (pa j) P0) → x_E mX2_init (d + 2) (3 * k + 1) (27 * k + 5) 81 [(1, .int (nI i)), (0, .ref 2)] [] h Q := by
  intro k
  induction k with
  | zero =>
    intro i h hi h1 hG h4 h8 hp
    have e : i = 60 := by omega
    subst e
    refine e_iload_n dX2_init_81 rfl ?_
    refine e_bipush (v := 60) dX2_init_82 (by decide) ?_
    refine e_icmp_ge (tgt := 110) dX2_init_84 (by decide) (fun _ => ?_) (fun z => absurd (Int32.le_refl _) z)
    rw [iA_60] at h8
    exact e_loc [0] rfl (fin h hG h4 h8 hp)
  | succ k ih =>
    intro i h hi h1 hG h4 h8 hp
    obtain ⟨g1, g2, g3, g4, g5⟩ := hG
    have epa : pa i = 6 + 3 * i := by unfold pa; rw [if_neg (by omega)]
    refine e_iload_n dX2_init_81 rfl ?_
    refine e_bipush (v := 60) dX2_init_82 (by decide) ?_
    refine e_icmp_ge (tgt := 110) dX2_init_84 (by decide) (fun c => absurd c (nI_ge (b := 60) (by omega) (by decide))) (fun _ => ?_)
    refine e_aload_n dX2_init_87 rfl ?_
    refine e_get dX2_init_88 fX2_33 g2 rfl ?_
    refine e_iload_n dX2_init_91 rfl ?_
    refine e_new (kc' := 3 * k + 3) (ks' := 27 * k + 25) dX2_init_92 nX2_24 (by omega) (by show 27 * k + 25 + 7 = _; omega) ?_
    have g2' : (x_nw h (.inr (1, [.ref 0, .ref 0, .int 0, .int 0, .ref 0, .ref 0, .int 0]))).2 2 = some (.inr (2, [.ref 3, .ref 4, .ref 8, .ref 5, .int 0, .int 0, .int 0, .int 0, .ref 0, .int 0, .ref 0])) := x_nw_n g2 (by omega)
    refine e_dup dX2_init_95 rfl ?_
    refine e_aload_n dX2_init_96 rfl ?_
    refine e_get dX2_init_97 fX2_14 g2' rfl ?_
    rw [g1]
    have hN2 : (x_nw h (.inr (1, [.ref 0, .ref 0, .int 0, .int 0, .ref 0, .ref 0, .int 0]))).2 (6 + 3 * i) = some (.inr (1, [.ref 0, .ref 0, .int 0, .int 0, .ref 0, .ref 0, .int 0])) := by rw [← g1]; exact x_nw_s _ _
    refine e_I1d (kc' := 3 * k + 1) (ks' := 27 * k + 5) dX2_init_100 gX2_26 hN2 (by omega) (Nat.le_of_ble_eq_true rfl) (by omega) (by omega) (con_Page_init d _ (6 + 3 * i) 3 lowE hN2 (by show h.1 + 1 = _; omega) (x_nw_n g5 (by omega)) (by omega)) ?_
    obtain ⟨n1, n2, n3, n4⟩ := page_new (c := .inr (1, [.ref 0, .ref 0, .int 0, .int 0, .ref 0, .ref 0, .int 0])) g1 g3
    refine e_gen (fun h' => h'.1 = 6 + 3 * i + 3 ∧ x_pg h' (6 + 3 * i) P0 ∧ xN h' ∧ ∀ (b : Nat) o, b < 6 + 3 * i → h.2 b = o → h'.2 b = o) ⟨n1, n2, n3, n4⟩ (fun h2 hP => ?_)
    clear n1 n2 n3 n4
    obtain ⟨n1, n2, n3, n4⟩ := hP
    refine e_aast dX2_init_103 (n4 8 _ (by omega) h8) rfl rfl (by rw [iA_len]; omega) n2.1 rfl ?_
    rw [← epa, iA_s (by omega)]
    refine e_iinc dX2_init_104 rfl rfl (by decide) rfl ?_
    refine e_goto (tgt := 81) dX2_init_107 (by decide) ?_
    have up : ∀ (b : Nat) o, b ≠ 8 → h2.2 b = o → (x_up h2 8 (.inl (1, iA (i + 1)))).2 b = o := fun b o hb ho => x_up_n ho hb
    have upg : ∀ j P, x_pg h2 (pa j) P → x_pg (x_up h2 8 (.inl (1, iA (i + 1)))) (pa j) P := fun j P hP => by
      have n8 : pa j ≠ 8 ∧ pa j + 1 ≠ 8 ∧ pa j + 2 ≠ 8 := by unfold pa; split <;> omega
      exact ⟨up _ _ n8.1 hP.1, up _ _ n8.2.1 hP.2.1, up _ _ n8.2.2 hP.2.2⟩
    have hk := ih (i + 1) (x_up h2 8 (.inl (1, iA (i + 1)))) (by omega) (by omega) ⟨by show h2.1 = _; omega, up _ _ (by omega) (n4 2 _ (by omega) g2), fun a ha => up _ _ (by have : h2.1 ≤ a := ha; omega) (n3 a ha), fun a ha => up _ _ (by omega) ((n4 a _ (by omega) rfl).trans (g4 a ha)), up _ _ (by omega) (n4 3 _ (by omega) g5)⟩ (up _ _ (by omega) (n4 4 _ (by omega) h4)) (x_up_s _ _ _) (fun j hj => by
      rcases Nat.lt_or_ge j i with y | y
      · obtain ⟨a1, a2, a3⟩ := hp j y
        have hle : pa j + 2 < 6 + 3 * i := by unfold pa; split <;> omega
        exact upg j _ ⟨n4 _ _ (by omega) a1, n4 _ _ (by omega) a2, n4 _ _ (by omega) a3⟩
      · have : j = i := by omega
        subst this
        refine upg j _ ?_
        rw [epa]
        exact n2)
    rw [← nI_1] at hk
    exact e_loc [1, 0] rfl hk
theorem con_init (d : Nat) (h : xH) (h1 : h.1 = 3) (h2 : h.2 2 = some (.inr (2, [.ref 0, .ref 0, .ref 0, .ref 0, .int 0, .int 0, .int 0, .int 0, .ref 0, .int 0, .ref 0]))) (hN : xN h) : x_Con mX2_init (d + 2) 184 1695 [.ref 2] h (fun rv h' => rv = [] ∧ h'.1 = 187 ∧ (∀ a : Nat, a < 2 → h'.2 a = h.2 a) ∧ xN h' ∧ CL h' S0 1 (3, 0, true) lowE false (0, 0, 0, 0, 0)) := by
  refine e_enter (by decide) (Nat.le_of_ble_eq_true rfl) ?_
  refine e_aload_n dX2_init_0 rfl ?_
  refine e_obj dX2_init_1 h2 ojX2_1 ojI ojC (by omega) (Nat.le_of_ble_eq_true rfl) ?_
  refine e_aload_n dX2_init_4 rfl ?_
  refine e_new dX2_init_5 nX2_7 rfl rfl ?_
  refine e_dup dX2_init_8 rfl ?_
  refine e_lconst (v := 0) dX2_init_9 (by decide) ?_
  refine e_lconst (v := 0) dX2_init_10 (by decide) ?_
  refine e_lconst (v := 0) dX2_init_11 (by decide) ?_
  refine e_lconst (v := 0) dX2_init_12 (by decide) ?_
  refine e_iconst (v := (-1)) dX2_init_13 (by decide) ?_
  rw [h1]
  have hs3 : ∀ c : xC, (x_nw h c).2 3 = some c := fun c => by rw [← h1]; exact x_nw_s _ _
  have hu3 : ∀ c c' : xC, x_up (x_nw h c) 3 c' = x_nw h c' := fun c c' => by rw [← h1]; exact x_nw_up _ _ _
  refine e_I5d dX2_init_14 gX2_11 (hs3 _) (by omega) (Nat.le_of_ble_eq_true rfl) rfl rfl (con_Entry_init d _ 3 lowE (hs3 _) rfl) ?_
  rw [hu3]
  refine e_putF dX2_init_17 fX2_14 rfl rfl (x_nw_n h2 (by omega)) (Or.inl ⟨_, rfl⟩) ?_
  refine e_gen (iG 4 [.ref 3, .ref 0, .ref 0, .ref 0, .int 0, .int 0, .int 0, .int 0, .ref 0, .int 0, .ref 0] h) ⟨by show h.1 + 1 = 4; omega, x_up_s _ _ _, fun a ha => x_up_n (hN.nw a (by have : h.1 + 1 ≤ a := ha; exact this)) (by have : h.1 + 1 ≤ a := ha; omega), fun a ha => x_up_n (x_nw_n rfl (by omega)) (by omega), x_up_n (hs3 _) (by omega)⟩ (fun hA hG => ?_)
  obtain ⟨g1, g2, g3, g4, g5⟩ := hG
  have hs4 : ∀ c : xC, (x_nw hA c).2 4 = some c := fun c => by rw [← g1]; exact x_nw_s _ _
  have hu4 : ∀ c c' : xC, x_up (x_nw hA c) 4 c' = x_nw hA c' := fun c c' => by rw [← g1]; exact x_nw_up _ _ _
  refine e_aload_n dX2_init_20 rfl ?_
  refine e_new dX2_init_21 nX2_7 rfl rfl ?_
  refine e_dup dX2_init_24 rfl ?_
  refine e_ldc2 dX2_init_25 vX2_18 ?_
  refine e_ldc2 dX2_init_28 vX2_18 ?_
  refine e_ldc2 dX2_init_31 vX2_18 ?_
  refine e_ldc2 dX2_init_34 vX2_18 ?_
  refine e_ldc dX2_init_37 vX2_20 ?_
  rw [g1]
  refine e_I5d dX2_init_39 gX2_11 (hs4 _) (by omega) (Nat.le_of_ble_eq_true rfl) rfl rfl (con_Entry_init d _ 4 highE (hs4 _) rfl) ?_
  rw [hu4]
  refine e_putF dX2_init_42 fX2_21 rfl rfl (x_nw_n g2 (by omega)) (Or.inl ⟨_, rfl⟩) ?_
  refine e_gen (fun h' => iG 5 [.ref 3, .ref 4, .ref 0, .ref 0, .int 0, .int 0, .int 0, .int 0, .ref 0, .int 0, .ref 0] h h' ∧ h'.2 4 = some (eC highE)) ⟨⟨by show hA.1 + 1 = 5; omega, x_up_s _ _ _, fun a ha => x_up_n (g3.nw a (by have : hA.1 + 1 ≤ a := ha; exact this)) (by have : hA.1 + 1 ≤ a := ha; omega), fun a ha => x_up_n ((x_nw_n rfl (by omega)).trans (g4 a ha)) (by omega), x_up_n (x_nw_n g5 (by omega)) (by omega)⟩, x_up_n (hs4 _) (by omega)⟩ (fun hB hG => ?_)
  clear g1 g2 g3 g4 g5 hs4 hu4
  obtain ⟨⟨g1, g2, g3, g4, g5⟩, b4⟩ := hG
  refine e_aload_n dX2_init_45 rfl ?_
  refine e_new (kc' := 181) (ks' := 1678) dX2_init_46 nX2_24 rfl rfl ?_
  have g2' : (x_nw hB (.inr (1, [.ref 0, .ref 0, .int 0, .int 0, .ref 0, .ref 0, .int 0]))).2 2 = some (.inr (2, [.ref 3, .ref 4, .ref 0, .ref 0, .int 0, .int 0, .int 0, .int 0, .ref 0, .int 0, .ref 0])) := x_nw_n g2 (by omega)
  refine e_dup dX2_init_49 rfl ?_
  refine e_aload_n dX2_init_50 rfl ?_
  refine e_get dX2_init_51 fX2_14 g2' rfl ?_
  rw [g1]
  have hN2 : (x_nw hB (.inr (1, [.ref 0, .ref 0, .int 0, .int 0, .ref 0, .ref 0, .int 0]))).2 5 = some (.inr (1, [.ref 0, .ref 0, .int 0, .int 0, .ref 0, .ref 0, .int 0])) := by rw [← g1]; exact x_nw_s _ _
  refine e_I1d (kc' := 179) (ks' := 1658) dX2_init_54 gX2_26 hN2 (by omega) (Nat.le_of_ble_eq_true rfl) rfl rfl (con_Page_init d _ 5 3 lowE hN2 (by show hB.1 + 1 = _; omega) (x_nw_n g5 (by omega)) (by omega)) ?_
  obtain ⟨n1, n2, n3, n4⟩ := page_new (c := .inr (1, [.ref 0, .ref 0, .int 0, .int 0, .ref 0, .ref 0, .int 0])) g1 g3
  refine e_gen (fun h' => h'.1 = 5 + 3 ∧ x_pg h' 5 P0 ∧ xN h' ∧ ∀ (b : Nat) o, b < 5 → hB.2 b = o → h'.2 b = o) ⟨n1, n2, n3, n4⟩ (fun hC hP => ?_)
  clear n1 n2 n3 n4
  obtain ⟨n1, n2, n3, n4⟩ := hP
  refine e_putF dX2_init_57 fX2_29 rfl rfl (n4 2 _ (by omega) g2) (Or.inl ⟨_, rfl⟩) ?_
  refine e_gen (fun h' => iG 8 [.ref 3, .ref 4, .ref 0, .ref 5, .int 0, .int 0, .int 0, .int 0, .ref 0, .int 0, .ref 0] h h' ∧ h'.2 4 = some (eC highE) ∧ x_pg h' 5 P0) ⟨⟨n1, x_up_s _ _ _, fun a ha => x_up_n (n3 a ha) (by have : hC.1 ≤ a := ha; omega), fun a ha => x_up_n ((n4 a _ (by omega) rfl).trans (g4 a ha)) (by omega), x_up_n (n4 3 _ (by omega) g5) (by omega)⟩, x_up_n (n4 4 _ (by omega) b4) (by omega), x_up_n n2.1 (by omega), x_up_n n2.2.1 (by omega), x_up_n n2.2.2 (by omega)⟩ (fun hE hG => ?_)
  clear g1 g2 g3 g4 g5 n1 n2 n3 n4 b4
  obtain ⟨⟨g1, g2, g3, g4, g5⟩, b4, b5⟩ := hG
  refine e_aload_n dX2_init_60 rfl ?_
  refine e_bipush (v := 60) dX2_init_61 (by decide) ?_
  refine e_newq (kc' := 178) (ks' := 1598) (k := 1) (N := 60) dX2_init_63 rfl kX2_24 rfl (by decide) rfl rfl ?_
  rw [g1, iA_0]
  have hs8 : ∀ c : xC, (x_nw hE c).2 8 = some c := fun c => by rw [← g1]; exact x_nw_s _ _
  refine e_putF dX2_init_66 fX2_33 rfl rfl (x_nw_n g2 (by omega)) (Or.inr ⟨_, rfl⟩) ?_
  refine e_gen (fun h' => iG 9 [.ref 3, .ref 4, .ref 8, .ref 5, .int 0, .int 0, .int 0, .int 0, .ref 0, .int 0, .ref 0] h h' ∧ h'.2 4 = some (eC highE) ∧ x_pg h' 5 P0 ∧ h'.2 8 = some (.inl (1, iA 0))) ⟨⟨by show hE.1 + 1 = 9; omega, x_up_s _ _ _, fun a ha => x_up_n (g3.nw a (by have : hE.1 + 1 ≤ a := ha; exact this)) (by have : hE.1 + 1 ≤ a := ha; omega), fun a ha => x_up_n ((x_nw_n rfl (by omega)).trans (g4 a ha)) (by omega), x_up_n (x_nw_n g5 (by omega)) (by omega)⟩, x_up_n (x_nw_n b4 (by omega)) (by omega), ⟨x_up_n (x_nw_n b5.1 (by omega)) (by omega), x_up_n (x_nw_n b5.2.1 (by omega)) (by omega), x_up_n (x_nw_n b5.2.2 (by omega)) (by omega)⟩, x_up_n (hs8 _) (by omega)⟩ (fun hF hG => ?_)
  clear g1 g2 g3 g4 g5 b4 b5 hs8
  obtain ⟨⟨g1, g2, g3, g4, g5⟩, b4, b5, b8⟩ := hG
  refine e_aload_n dX2_init_69 rfl ?_
  refine e_get dX2_init_70 fX2_33 g2 rfl ?_
  refine e_iconst (v := 0) dX2_init_73 (by decide) ?_
  refine e_aload_n dX2_init_74 rfl ?_
  refine e_get dX2_init_75 fX2_29 g2 rfl ?_
  refine e_aast (j := 0) dX2_init_78 b8 rfl rfl (by rw [iA_len]; omega) b5.1 rfl ?_
  have eA := iA_s (i := 0) (by omega)
  have ep : pa 0 = 5 := rfl
  rw [ep] at eA
  rw [eA]
  refine e_iconst (v := 1) dX2_init_79 (by decide) ?_
  refine e_istore_n dX2_init_80 (by decide) rfl ?_
  refine e_loc [1, 0] rfl (ini_lo d h _ ?_ 59 1 (x_up hF 8 (.inl (1, iA (0 + 1)))) rfl (by omega) ⟨g1, x_up_n g2 (by omega), fun a ha => x_up_n (g3 a ha) (by have : hF.1 ≤ a := ha; omega), fun a ha => x_up_n (g4 a ha) (by omega), x_up_n g5 (by omega)⟩ (x_up_n b4 (by omega)) (x_up_s _ _ _) (fun j hj => ?_))
  · intro hH hG b4 b8 bp
    clear g1 g2 g3 g4 g5
    obtain ⟨g1, g2, g3, g4, g5⟩ := hG
    refine e_aload_n dX2_init_110 rfl ?_
    refine e_iconst (v := 1) dX2_init_111 (by decide) ?_
    refine e_putT (fs' := [.ref 3, .ref 4, .ref 8, .ref 5, .int 1, .int 0, .int 0, .int 0, .ref 0, .int 0, .ref 0]) dX2_init_112 fX2_37 g2 (by exact ⟨rfl, rfl⟩) rfl rfl ?_
    have t1 := x_up_s hH 2 (.inr (2, [.ref 3, .ref 4, .ref 8, .ref 5, .int 1, .int 0, .int 0, .int 0, .ref 0, .int 0, .ref 0]))
    refine e_aload_n dX2_init_115 rfl ?_
    refine e_iconst (v := 1) dX2_init_116 (by decide) ?_
    refine e_putT (fs' := [.ref 3, .ref 4, .ref 8, .ref 5, .int 1, .int 1, .int 0, .int 0, .ref 0, .int 0, .ref 0]) dX2_init_117 fX2_41 t1 (by exact ⟨rfl, rfl⟩) rfl rfl ?_
    rw [x_up_up]
    have t1 := x_up_s hH 2 (.inr (2, [.ref 3, .ref 4, .ref 8, .ref 5, .int 1, .int 1, .int 0, .int 0, .ref 0, .int 0, .ref 0]))
    refine e_aload_n dX2_init_120 rfl ?_
    refine e_iconst (v := 3) dX2_init_121 (by decide) ?_
    refine e_putT (fs' := [.ref 3, .ref 4, .ref 8, .ref 5, .int 1, .int 1, .int 3, .int 0, .ref 0, .int 0, .ref 0]) dX2_init_122 fX2_44 t1 (by exact ⟨rfl, rfl⟩) rfl rfl ?_
    rw [x_up_up]
    have t1 := x_up_s hH 2 (.inr (2, [.ref 3, .ref 4, .ref 8, .ref 5, .int 1, .int 1, .int 3, .int 0, .ref 0, .int 0, .ref 0]))
    refine e_aload_n dX2_init_125 rfl ?_
    refine e_iconst (v := (-1)) dX2_init_126 (by decide) ?_
    refine e_putT (fs' := [.ref 3, .ref 4, .ref 8, .ref 5, .int 1, .int 1, .int 3, .int (-1), .ref 0, .int 0, .ref 0]) dX2_init_127 fX2_47 t1 (by exact ⟨rfl, rfl⟩) rfl rfl ?_
    rw [x_up_up]
    have t1 := x_up_s hH 2 (.inr (2, [.ref 3, .ref 4, .ref 8, .ref 5, .int 1, .int 1, .int 3, .int (-1), .ref 0, .int 0, .ref 0]))
    refine e_aload_n dX2_init_130 rfl ?_
    refine e_aload_n dX2_init_131 rfl ?_
    refine e_get dX2_init_132 fX2_14 t1 rfl ?_
    refine e_putT (fs' := [.ref 3, .ref 4, .ref 8, .ref 5, .int 1, .int 1, .int 3, .int (-1), .ref 3, .int 0, .ref 0]) dX2_init_135 fX2_50 t1 (by exact Or.inl ⟨_, rfl⟩) rfl rfl ?_
    rw [x_up_up]
    have t1 := x_up_s hH 2 (.inr (2, [.ref 3, .ref 4, .ref 8, .ref 5, .int 1, .int 1, .int 3, .int (-1), .ref 3, .int 0, .ref 0]))
    refine e_aload_n dX2_init_138 rfl ?_
    refine e_iconst (v := 0) dX2_init_139 (by decide) ?_
    refine e_putT (fs' := [.ref 3, .ref 4, .ref 8, .ref 5, .int 1, .int 1, .int 3, .int (-1), .ref 3, .int 0, .ref 0]) dX2_init_140 fX2_53 t1 (by exact ⟨rfl, rfl⟩) rfl rfl ?_
    rw [x_up_up]
    have t1 := x_up_s hH 2 (.inr (2, [.ref 3, .ref 4, .ref 8, .ref 5, .int 1, .int 1, .int 3, .int (-1), .ref 3, .int 0, .ref 0]))
    have up : ∀ (b : Nat) o, b ≠ 2 → hH.2 b = o → (x_up hH 2 (.inr (2, [.ref 3, .ref 4, .ref 8, .ref 5, .int 1, .int 1, .int 3, .int (-1), .ref 3, .int 0, .ref 0]))).2 b = o := fun b o hb ho => x_up_n ho hb
    refine e_gen (fun h' => iG 186 [.ref 3, .ref 4, .ref 8, .ref 5, .int 1, .int 1, .int 3, .int (-1), .ref 3, .int 0, .ref 0] h h' ∧ h'.2 4 = some (eC highE) ∧ h'.2 8 = some pgA ∧ ∀ j, j < 60 → x_pg h' (pa j) P0) ⟨⟨g1, t1, fun a ha => up _ _ (by have : hH.1 ≤ a := ha; omega) (g3 a ha), fun a ha => up _ _ (by omega) (g4 a ha), up _ _ (by omega) g5⟩, up _ _ (by omega) b4, up _ _ (by omega) b8, fun j hj => by
      have g := pa_ge j
      exact ⟨up _ _ (by omega) (bp j hj).1, up _ _ (by omega) (bp j hj).2.1, up _ _ (by omega) (bp j hj).2.2⟩⟩ (fun hK hG => ?_)
    clear g1 g2 g3 g4 g5 b4 b8 bp up t1
    obtain ⟨⟨g1, g2, g3, g4, g5⟩, b4, b8, bp⟩ := hG
    have hs : ∀ c : xC, (x_nw hK c).2 186 = some c := fun c => by rw [← g1]; exact x_nw_s _ _
    have hu : ∀ c c' : xC, x_up (x_nw hK c) 186 c' = x_nw hK c' := fun c c' => by rw [← g1]; exact x_nw_up _ _ _
    refine e_aload_n dX2_init_143 rfl ?_
    refine e_new dX2_init_144 nX2_7 rfl rfl ?_
    refine e_dup dX2_init_147 rfl ?_
    refine e_lconst (v := 0) dX2_init_148 (by decide) ?_
    refine e_lconst (v := 0) dX2_init_149 (by decide) ?_
    refine e_lconst (v := 0) dX2_init_150 (by decide) ?_
    refine e_lconst (v := 0) dX2_init_151 (by decide) ?_
    refine e_iconst (v := 0) dX2_init_152 (by decide) ?_
    rw [g1]
    refine e_I5d dX2_init_153 gX2_11 (hs _) (by omega) (Nat.le_of_ble_eq_true rfl) rfl rfl (con_Entry_init d _ 186 (0, 0, 0, 0, 0) (hs _) rfl) ?_
    rw [hu]
    have nw : ∀ (b : Nat) o, b ≠ 186 → hK.2 b = o → (x_nw hK (eC (0, 0, 0, 0, 0))).2 b = o := fun b o hb ho => x_nw_n ho (by omega)
    refine e_putT (fs' := tL 1 1 3 (-1) 3 false 186) dX2_init_156 fX2_57 (nw 2 _ (by omega) g2) (by exact Or.inl ⟨_, rfl⟩) rfl rfl ?_
    have up : ∀ (b : Nat) o, b ≠ 2 → b ≠ 186 → hK.2 b = o → (x_up (x_nw hK (eC (0, 0, 0, 0, 0))) 2 (.inr (2, tL 1 1 3 (-1) 3 false 186))).2 b = o := fun b o hb hb' ho => x_up_n (nw b o hb' ho) hb
    have lowH := up 3 _ (by omega) (by omega) g5
    have hT2 : trS [[0]] (fun _ => (lowE, false, [], [])) = S0 := by
      unfold trS S0 pgS
      simp only [List.map_cons, List.map_nil, sk_low]
    refine e_ret dX2_init_159 rfl ⟨rfl, by show hK.1 + 1 = 187; omega, fun a ha => up a _ (by omega) (by omega) (g4 a ha), fun a ha => ?_, [[0]], fun _ => (lowE, false, [], []), 1, 3, 186, ⟨x_up_s _ _ _, lowH, up 4 _ (by omega) (by omega) b4, up 8 _ (by omega) (by omega) b8, fun i hi => ?_, fun z => by cases z⟩, ?_, hT2, lowH, ok_low, x_up_n (hs _) (by omega)⟩
    · have ha : hK.1 + 1 ≤ a := ha
      exact up a _ (by omega) (by omega) (g3 a (by omega))
    · have b1 := pa_ge i
      have b2 := pa_lt hi
      obtain ⟨a1, a2, a3⟩ := bp i hi
      refine ⟨P0, ⟨up _ _ (by omega) (by omega) a1, up _ _ (by omega) (by omega) a2, up _ _ (by omega) (by omega) a3⟩, fun k hk => ⟨lowE, lowH⟩, fun k hk => Or.inl rfl, fun l c k hc hk => ?_⟩
      cases l with
      | succ l => simp at hc
      | zero =>
        have e : [0] = c := Option.some.inj hc
        subst e
        have hk0 : k = 0 := by
          cases k with
          | zero => rfl
          | succ k => simp at hk
        subst hk0
        exact ⟨rfl, rfl, lowH, rfl, rfl, fun j v hv => by simp at hv, fun j b hb => by simp at hb⟩
    · refine ⟨by rw [hT2]; exact trK_0, ⟨0, rfl, rfl⟩, by simp, fun l c hc i hi => ?_, by omega, fun l c hc i hi => ⟨ok_low, fun x hx => by cases hx⟩, fun l c hc => by simp at hc, fun c hc i hi x hx => by cases hx⟩
      cases l with
      | succ l => simp at hc
      | zero =>
        have e : [0] = c := Option.some.inj hc
        rw [← e] at hi
        have := List.mem_singleton.mp hi
        omega
  · have : j = 0 := by omega
    subst this
    exact ⟨x_up_n b5.1 (by omega), x_up_n b5.2.1 (by omega), x_up_n b5.2.2 (by omega)⟩
