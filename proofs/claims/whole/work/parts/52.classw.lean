/-! the class: its own fields -/
def tL (tk fu : Nat) (ws cl : Int32) (ca : Nat) (cb : Bool) (ha : Nat) : List Value := [.ref 3, .ref 4, .ref 8, .ref 5, .int (nI tk), .int (nI fu), .int ws, .int cl, .ref ca, .int (bI cb), .ref ha]
theorem e_putT {y : xM} {d kc ks0 pc : Nat} {l : List (Nat × Value)} {st : List Value} {h : xH} {Q : List Value → xH → Prop} {idx k t : Nat} {ty : FieldType} {fs fs' : List Value} {v v' : Value} (hd : decode y.2.1 pc = .ok (.putfield idx, 3)) (hF : x_Fd y.1.cls idx 2 k ty false) (hm : h.2 t = some (.inr (2, fs))) (hv : x_ok ty v') (e : v = v') (he : fs.set k v' = fs') (kk : x_E y d kc ks0 (pc + 3) l st (x_up h t (.inr (2, fs'))) Q) : x_E y d kc ks0 pc l (v :: .ref t :: st) h Q := by
  subst e
  refine e_put hd hF hm hv ?_
  rw [he]
  exact kk
def clQ (q : qW) : Int32 := if q.2.2 then -1 else q.2.1
def qok (q : qW) : Prop := q.2.2 = false → ¬ q.2.1 < 0
theorem qok_sW {q : qW} {n : Int32} (h : qok q) (hn : ¬ n < 0) : qok (sW n q).2 := by
  unfold sW
  by_cases h1 : q.2.2 = true
  · rw [if_pos h1]
    intro z; cases z
  · rw [if_neg h1]
    by_cases h2 : n ≤ q.2.1
    · rw [if_pos h2]
      intro _
      obtain ⟨a, ha, ea⟩ := nI_of (h (by simpa using h1))
      obtain ⟨b, hb, eb⟩ := nI_of hn
      show ¬ q.2.1 - n < 0
      rw [ea, eb] at h2 ⊢
      rw [pk_sub ((nI_leI hb ha).mp h2)]
      exact nI_pos (by omega)
    · rw [if_neg h2]
      intro z; cases z
section CW
variable {h : xH} {tk fu : Nat} {ca : Nat} {cb : Bool} {ha : Nat} {q : qW}
theorem con_setWords (d t : Nat) (n : Int32) (ht : h.2 t = some (tC tk fu q.1 (clQ q) ca cb ha)) (hq : qok q) : x_D mX2_setWords d 0 0 [.ref t, .int n] h [.int (bI (sW n q).1)] (x_up h t (tC tk fu (sW n q).2.1 (clQ (sW n q).2) ca cb ha)) := by
  refine e_enter (by decide) (Nat.le_of_ble_eq_true rfl) ?_
  obtain ⟨se, lf, ub⟩ := q
  cases ub with
  | true =>
    have e0 : sW n (se, lf, true) = (true, se + n, lf, true) := by unfold sW; rw [if_pos rfl]
    rw [e0]
    refine e_aload_n dX2_setWords_0 rfl ?_
    refine e_get dX2_setWords_1 fX2_47 ht rfl ?_
    refine e_iconst (v := (-1)) dX2_setWords_4 (by decide) ?_
    refine e_icmp_ne (tgt := 20) dX2_setWords_5 (by decide) (fun z => absurd rfl z) (fun _ => ?_)
    refine e_aload_n dX2_setWords_8 rfl ?_
    refine e_dup dX2_setWords_9 rfl ?_
    refine e_get dX2_setWords_10 fX2_44 ht rfl ?_
    refine e_iload_n dX2_setWords_13 rfl ?_
    refine e_iadd dX2_setWords_14 ?_
    refine e_putT (fs' := tL tk fu (se + n) (-1) ca cb ha) dX2_setWords_15 fX2_44 ht (by exact ⟨rfl, rfl⟩) rfl rfl ?_
    refine e_iconst (v := 1) dX2_setWords_18 (by decide) ?_
    exact e_iret dX2_setWords_19 rfl rfl ⟨rfl, rfl⟩
  | false =>
    have hlf : ¬ lf < 0 := hq rfl
    have hne : ¬ lf = -1 := fun z => hlf (by rw [z]; decide)
    refine e_aload_n dX2_setWords_0 rfl ?_
    refine e_get dX2_setWords_1 fX2_47 ht rfl ?_
    refine e_iconst (v := (-1)) dX2_setWords_4 (by decide) ?_
    refine e_icmp_ne (tgt := 20) dX2_setWords_5 (by decide) (fun _ => ?_) (fun z => absurd z hne)
    refine e_aload_n dX2_setWords_20 rfl ?_
    refine e_get dX2_setWords_21 fX2_47 ht rfl ?_
    refine e_iload_n dX2_setWords_24 rfl ?_
    refine e_icmp_ge (tgt := 48) dX2_setWords_25 (by decide) (fun z => ?_) (fun z => ?_)
    · have z : n ≤ lf := z
      have e0 : sW n (se, lf, false) = (true, se + n, lf - n, false) := by unfold sW; rw [if_neg Bool.false_ne_true, if_pos z]
      rw [e0]
      refine e_aload_n dX2_setWords_48 rfl ?_
      refine e_dup dX2_setWords_49 rfl ?_
      refine e_get dX2_setWords_50 fX2_44 ht rfl ?_
      refine e_iload_n dX2_setWords_53 rfl ?_
      refine e_iadd dX2_setWords_54 ?_
      refine e_putT (fs' := tL tk fu (se + n) lf ca cb ha) dX2_setWords_55 fX2_44 ht (by exact ⟨rfl, rfl⟩) rfl rfl ?_
      have ht2 := x_up_s h t (.inr (2, tL tk fu (se + n) lf ca cb ha))
      refine e_aload_n dX2_setWords_58 rfl ?_
      refine e_dup dX2_setWords_59 rfl ?_
      refine e_get dX2_setWords_60 fX2_47 ht2 rfl ?_
      refine e_iload_n dX2_setWords_63 rfl ?_
      refine e_isub dX2_setWords_64 ?_
      refine e_putT (fs' := tL tk fu (se + n) (lf - n) ca cb ha) dX2_setWords_65 fX2_47 ht2 (by exact ⟨rfl, rfl⟩) rfl rfl ?_
      refine e_iconst (v := 1) dX2_setWords_68 (by decide) ?_
      exact e_iret dX2_setWords_69 rfl rfl ⟨rfl, x_up_up _ _ _ _⟩
    · have z : ¬ n ≤ lf := z
      have e0 : sW n (se, lf, false) = (false, se + lf, lf, true) := by unfold sW; rw [if_neg Bool.false_ne_true, if_neg z]
      rw [e0]
      refine e_aload_n dX2_setWords_28 rfl ?_
      refine e_dup dX2_setWords_29 rfl ?_
      refine e_get dX2_setWords_30 fX2_44 ht rfl ?_
      refine e_aload_n dX2_setWords_33 rfl ?_
      refine e_get dX2_setWords_34 fX2_47 ht rfl ?_
      refine e_iadd dX2_setWords_37 ?_
      refine e_putT (fs' := tL tk fu (se + lf) lf ca cb ha) dX2_setWords_38 fX2_44 ht (by exact ⟨rfl, rfl⟩) rfl rfl ?_
      have ht2 := x_up_s h t (.inr (2, tL tk fu (se + lf) lf ca cb ha))
      refine e_aload_n dX2_setWords_41 rfl ?_
      refine e_iconst (v := (-1)) dX2_setWords_42 (by decide) ?_
      refine e_putT (fs' := tL tk fu (se + lf) (-1) ca cb ha) dX2_setWords_43 fX2_47 ht2 (by exact ⟨rfl, rfl⟩) rfl rfl ?_
      refine e_iconst (v := 0) dX2_setWords_46 (by decide) ?_
      exact e_iret dX2_setWords_47 rfl rfl ⟨rfl, x_up_up _ _ _ _⟩
theorem con_moveCursor (d t e : Nat) (b : Bool) {ws cl : Int32} (ht : h.2 t = some (tC tk fu ws cl ca cb ha)) : x_D mX2_moveCursor d 0 0 [.ref t, .ref e, .int (bI b)] h [] (x_up h t (tC tk fu ws cl e b ha)) := by
  refine e_enter (by decide) (Nat.le_of_ble_eq_true rfl) ?_
  refine e_aload_n dX2_moveCursor_0 rfl ?_
  refine e_aload_n dX2_moveCursor_1 rfl ?_
  refine e_putT (fs' := tL tk fu ws cl e cb ha) dX2_moveCursor_2 fX2_50 ht (by exact Or.inl ⟨_, rfl⟩) rfl rfl ?_
  have ht2 := x_up_s h t (.inr (2, tL tk fu ws cl e cb ha))
  refine e_aload_n dX2_moveCursor_5 rfl ?_
  refine e_iload_n dX2_moveCursor_6 rfl ?_
  refine e_putT (fs' := tL tk fu ws cl e b ha) dX2_moveCursor_7 fX2_53 ht2 (by cases b <;> exact ⟨rfl, rfl⟩) rfl rfl ?_
  exact e_ret dX2_moveCursor_10 rfl ⟨rfl, x_up_up _ _ _ _⟩
theorem con_takePages (d t n : Nat) {ws cl : Int32} (ht : h.2 t = some (tC tk fu ws cl ca cb ha)) (htk : tk ≤ 60) (hn : n < 100) : x_D mX2_takePages d 0 0 [.ref t, .int (nI n)] h [.int (if tk + n ≤ 60 then 1 else 0)] (if tk + n ≤ 60 then x_up h t (tC (tk + n) tk ws cl ca cb ha) else h) := by
  refine e_enter (by decide) (Nat.le_of_ble_eq_true rfl) ?_
  have e60 : (60 : Int32) - nI tk = nI (60 - tk) := pk_sub (a := 60) htk
  refine e_iload_n dX2_takePages_0 rfl ?_
  refine e_bipush (v := 60) dX2_takePages_1 (by decide) ?_
  refine e_aload_n dX2_takePages_3 rfl ?_
  refine e_get dX2_takePages_4 fX2_37 ht rfl ?_
  refine e_isub dX2_takePages_7 ?_
  rw [e60]
  refine e_icmp_le (tgt := 13) dX2_takePages_8 (by decide) (fun z => ?_) (fun z => ?_)
  · have hle : tk + n ≤ 60 := by have := (nI_leI (by omega) (by omega)).mp z; omega
    refine e_aload_n dX2_takePages_13 rfl ?_
    refine e_aload_n dX2_takePages_14 rfl ?_
    refine e_get dX2_takePages_15 fX2_37 ht rfl ?_
    refine e_putT (fs' := tL tk tk ws cl ca cb ha) dX2_takePages_18 fX2_41 ht (by exact ⟨rfl, rfl⟩) rfl rfl ?_
    have ht2 := x_up_s h t (.inr (2, tL tk tk ws cl ca cb ha))
    refine e_aload_n dX2_takePages_21 rfl ?_
    refine e_dup dX2_takePages_22 rfl ?_
    refine e_get dX2_takePages_23 fX2_37 ht2 rfl ?_
    refine e_iload_n dX2_takePages_26 rfl ?_
    refine e_iadd dX2_takePages_27 ?_
    refine e_putT (fs' := tL (tk + n) tk ws cl ca cb ha) dX2_takePages_28 fX2_37 ht2 (by exact ⟨rfl, rfl⟩) (congrArg Value.int (nI_add tk n)) rfl ?_
    refine e_iconst (v := 1) dX2_takePages_31 (by decide) ?_
    refine e_iret dX2_takePages_32 rfl rfl ⟨by rw [if_pos hle], ?_⟩
    rw [if_pos hle, x_up_up]
    rfl
  · have hgt : ¬ tk + n ≤ 60 := fun q => z ((nI_leI (by omega) (by omega)).mpr (by omega))
    refine e_iconst (v := 0) dX2_takePages_11 (by decide) ?_
    exact e_iret dX2_takePages_12 rfl rfl ⟨by rw [if_neg hgt], by rw [if_neg hgt]⟩
def pgA : xC := .inl (1, (List.range 60).map (fun i => .ref (pa i)))
theorem pgA_get {i : Nat} (hi : i < 60) : ((List.range 60).map (fun i => Value.ref (pa i)))[i]? = some (.ref (pa i)) := by simp [hi]
theorem con_useTaken (d l : Nat) {P : xP} {ws cl : Int32} (ht : h.2 2 = some (tC tk fu ws cl ca cb ha)) (h8 : h.2 8 = some pgA) (htk : tk ≤ 60) (hfu : fu < tk) (hp : x_pg h (pa fu) P) : x_D mX2_useTakenPage (d + 1) 0 0 [.ref 2, .int (nI l)] h [.ref (pa fu)] (x_ps (x_up h 2 (tC tk (fu + 1) ws cl ca cb ha)) (pa fu) ((0, l, 3, 0, 0), P.2)) := by
  refine e_enter (by decide) (Nat.le_of_ble_eq_true rfl) ?_
  refine e_aload_n dX2_useTakenPage_0 rfl ?_
  refine e_get dX2_useTakenPage_1 fX2_41 ht rfl ?_
  refine e_if_lt (tgt := 30) dX2_useTakenPage_4 (by decide) (fun z => absurd z (nI_pos (by omega))) (fun _ => ?_)
  refine e_aload_n dX2_useTakenPage_7 rfl ?_
  refine e_get dX2_useTakenPage_8 fX2_41 ht rfl ?_
  refine e_aload_n dX2_useTakenPage_11 rfl ?_
  refine e_get dX2_useTakenPage_12 fX2_37 ht rfl ?_
  refine e_icmp_ge (tgt := 30) dX2_useTakenPage_15 (by decide) (fun z => absurd z (nI_ge hfu (by omega))) (fun _ => ?_)
  refine e_aload_n dX2_useTakenPage_18 rfl ?_
  refine e_get dX2_useTakenPage_19 fX2_41 ht rfl ?_
  refine e_aload_n dX2_useTakenPage_22 rfl ?_
  refine e_get dX2_useTakenPage_23 fX2_33 ht rfl ?_
  refine e_alen dX2_useTakenPage_26 h8 (by decide) rfl ?_
  refine e_icmp_lt (tgt := 32) dX2_useTakenPage_27 (by decide) (fun _ => ?_) (fun z => absurd (by rw [List.length_map, List.length_range]; exact nI_lt (by omega) (by omega)) z)
  refine e_aload_n dX2_useTakenPage_32 rfl ?_
  refine e_get dX2_useTakenPage_33 fX2_33 ht rfl ?_
  refine e_aload_n dX2_useTakenPage_36 rfl ?_
  refine e_get dX2_useTakenPage_37 fX2_41 ht rfl ?_
  refine e_aald dX2_useTakenPage_40 h8 rfl rfl rfl (pgA_get (show fu < 60 by omega)) ?_
  refine e_astore_n dX2_useTakenPage_41 (by decide) rfl ?_
  refine e_aload_n dX2_useTakenPage_42 rfl ?_
  refine e_dup dX2_useTakenPage_43 rfl ?_
  refine e_get dX2_useTakenPage_44 fX2_41 ht rfl ?_
  refine e_iconst (v := 1) dX2_useTakenPage_47 (by decide) ?_
  refine e_iadd dX2_useTakenPage_48 ?_
  refine e_putT (fs' := tL tk (fu + 1) ws cl ca cb ha) dX2_useTakenPage_49 fX2_41 ht (by exact ⟨rfl, rfl⟩) (congrArg Value.int (nI_1 fu)) rfl ?_
  have ht2 := x_up_s h 2 (.inr (2, tL tk (fu + 1) ws cl ca cb ha))
  have n2 : pa fu ≠ 2 ∧ pa fu + 1 ≠ 2 ∧ pa fu + 2 ≠ 2 := by unfold pa; split <;> omega
  have hp2 : x_pg (x_up h 2 (.inr (2, tL tk (fu + 1) ws cl ca cb ha))) (pa fu) P := ⟨x_up_n hp.1 n2.1, x_up_n hp.2.1 n2.2.1, x_up_n hp.2.2 n2.2.2⟩
  refine e_aload_n dX2_useTakenPage_52 rfl ?_
  refine e_iload_n dX2_useTakenPage_53 rfl ?_
  refine e_aload_n dX2_useTakenPage_54 rfl ?_
  refine e_get dX2_useTakenPage_55 fX2_14 ht2 rfl ?_
  refine e_V2d dX2_useTakenPage_58 gX2_127 hp2.1 rfl (by omega) (Nat.le_of_ble_eq_true rfl) rfl rfl (con_reset d _ (pa fu) l 3 P hp2) ?_
  refine e_aload_n dX2_useTakenPage_61 rfl ?_
  exact e_aret dX2_useTakenPage_62 rfl (Or.inl ⟨_, rfl⟩) ⟨rfl, rfl⟩
end CW
