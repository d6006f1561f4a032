/-! Entry -/
theorem con_Entry_init (d : Nat) (h : xH) (a : Nat) (e : xE) {fs : List Value} (ha : h.2 a = some (.inr (0, fs))) (hf : fs.length = 5) : x_D mX0_init (d + 1) 0 0 [.ref a, .long e.1, .long e.2.1, .long e.2.2.1, .long e.2.2.2.1, .int e.2.2.2.2] h [] (x_up h a (eC e)) := by
  refine e_enter (by decide) (Nat.le_of_ble_eq_true rfl) ?_
  refine e_aload_n dX0_init_0 rfl ?_
  refine e_obj dX0_init_1 ha ojX0_1 ojI ojC (by omega) (Nat.le_of_ble_eq_true rfl) ?_
  refine e_aload_n dX0_init_4 rfl ?_
  refine e_lload_n dX0_init_5 rfl ?_
  refine e_putF dX0_init_6 fX0_7 rfl rfl ha ⟨rfl, rfl⟩ ?_
  refine e_aload_n dX0_init_9 rfl ?_
  refine e_lload_n dX0_init_10 rfl ?_
  refine e_putF dX0_init_11 fX0_13 rfl rfl (x_up_s _ _ _) ⟨rfl, rfl⟩ ?_
  refine e_aload_n dX0_init_14 rfl ?_
  refine e_lload dX0_init_15 rfl ?_
  refine e_putF dX0_init_17 fX0_16 rfl rfl (x_up_s _ _ _) ⟨rfl, rfl⟩ ?_
  refine e_aload_n dX0_init_20 rfl ?_
  refine e_lload dX0_init_21 rfl ?_
  refine e_putF dX0_init_23 fX0_19 rfl rfl (x_up_s _ _ _) ⟨rfl, rfl⟩ ?_
  refine e_aload_n dX0_init_26 rfl ?_
  refine e_iload dX0_init_27 rfl ?_
  refine e_putF dX0_init_29 fX0_22 rfl rfl (x_up_s _ _ _) ⟨rfl, rfl⟩ ?_
  refine e_ret dX0_init_32 rfl ⟨rfl, ?_⟩
  simp only [x_up_up]
  match fs, hf with
  | [_, _, _, _, _], _ => rfl
theorem con_cmp (d : Nat) (h : xH) (a b : Nat) (e f : xE) (ha : h.2 a = some (eC e)) (hb : h.2 b = some (eC f)) : x_D mX0_compareWith (d + 3) 0 0 [.ref a, .ref b] h [.int (c3 (od e) (od f))] h := by
  rw [od_c3]
  refine e_enter (by decide) (Nat.le_of_ble_eq_true rfl) ?_
  refine e_aload_n dX0_compareWith_0 rfl ?_
  refine e_get dX0_compareWith_1 fX0_7 ha rfl ?_
  refine e_aload_n dX0_compareWith_4 rfl ?_
  refine e_get dX0_compareWith_5 fX0_7 hb rfl ?_
  refine e_S2d dX0_compareWith_8 gX0_26 (by omega) (Nat.le_of_ble_eq_true rfl) rfl rfl (con_ucmp (d + 1) h _ _) ?_
  refine e_istore_n dX0_compareWith_11 (by decide) rfl ?_
  refine e_iload_n dX0_compareWith_12 rfl ?_
  refine e_if_ne (tgt := 28) dX0_compareWith_13 (by decide) (fun c1 => ?_) (fun c1 => ?_)
  · refine e_iload_n dX0_compareWith_28 rfl ?_
    refine e_if_ne (tgt := 44) dX0_compareWith_29 (by decide) (fun _ => ?_) (fun c => absurd c c1)
    refine e_iload_n dX0_compareWith_44 rfl ?_
    refine e_if_ne (tgt := 60) dX0_compareWith_45 (by decide) (fun _ => ?_) (fun c => absurd c c1)
    refine e_iload_n dX0_compareWith_60 rfl ?_
    refine e_if_eq (tgt := 68) dX0_compareWith_61 (by decide) (fun c => absurd c c1) (fun _ => ?_)
    refine e_iload_n dX0_compareWith_64 rfl ?_
    refine e_goto (tgt := 79) dX0_compareWith_65 (by decide) ?_
    refine e_iret dX0_compareWith_79 rfl rfl ⟨?_, rfl⟩
    rw [if_neg c1]
  · rw [if_pos c1]
    refine e_aload_n dX0_compareWith_16 rfl ?_
    refine e_get dX0_compareWith_17 fX0_13 ha rfl ?_
    refine e_aload_n dX0_compareWith_20 rfl ?_
    refine e_get dX0_compareWith_21 fX0_13 hb rfl ?_
    refine e_S2d dX0_compareWith_24 gX0_26 (by omega) (Nat.le_of_ble_eq_true rfl) rfl rfl (con_ucmp (d + 1) h _ _) ?_
    refine e_istore_n dX0_compareWith_27 (by decide) rfl ?_
    refine e_iload_n dX0_compareWith_28 rfl ?_
    refine e_if_ne (tgt := 44) dX0_compareWith_29 (by decide) (fun c2 => ?_) (fun c2 => ?_)
    · refine e_iload_n dX0_compareWith_44 rfl ?_
      refine e_if_ne (tgt := 60) dX0_compareWith_45 (by decide) (fun _ => ?_) (fun c => absurd c c2)
      refine e_iload_n dX0_compareWith_60 rfl ?_
      refine e_if_eq (tgt := 68) dX0_compareWith_61 (by decide) (fun c => absurd c c2) (fun _ => ?_)
      refine e_iload_n dX0_compareWith_64 rfl ?_
      refine e_goto (tgt := 79) dX0_compareWith_65 (by decide) ?_
      refine e_iret dX0_compareWith_79 rfl rfl ⟨?_, rfl⟩
      rw [if_neg c2]
    · rw [if_pos c2]
      refine e_aload_n dX0_compareWith_32 rfl ?_
      refine e_get dX0_compareWith_33 fX0_16 ha rfl ?_
      refine e_aload_n dX0_compareWith_36 rfl ?_
      refine e_get dX0_compareWith_37 fX0_16 hb rfl ?_
      refine e_S2d dX0_compareWith_40 gX0_26 (by omega) (Nat.le_of_ble_eq_true rfl) rfl rfl (con_ucmp (d + 1) h _ _) ?_
      refine e_istore_n dX0_compareWith_43 (by decide) rfl ?_
      refine e_iload_n dX0_compareWith_44 rfl ?_
      refine e_if_ne (tgt := 60) dX0_compareWith_45 (by decide) (fun c3 => ?_) (fun c3 => ?_)
      · refine e_iload_n dX0_compareWith_60 rfl ?_
        refine e_if_eq (tgt := 68) dX0_compareWith_61 (by decide) (fun c => absurd c c3) (fun _ => ?_)
        refine e_iload_n dX0_compareWith_64 rfl ?_
        refine e_goto (tgt := 79) dX0_compareWith_65 (by decide) ?_
        refine e_iret dX0_compareWith_79 rfl rfl ⟨?_, rfl⟩
        rw [if_neg c3]
      · rw [if_pos c3]
        refine e_aload_n dX0_compareWith_48 rfl ?_
        refine e_get dX0_compareWith_49 fX0_19 ha rfl ?_
        refine e_aload_n dX0_compareWith_52 rfl ?_
        refine e_get dX0_compareWith_53 fX0_19 hb rfl ?_
        refine e_S2d dX0_compareWith_56 gX0_26 (by omega) (Nat.le_of_ble_eq_true rfl) rfl rfl (con_ucmp (d + 1) h _ _) ?_
        refine e_istore_n dX0_compareWith_59 (by decide) rfl ?_
        refine e_iload_n dX0_compareWith_60 rfl ?_
        refine e_if_eq (tgt := 68) dX0_compareWith_61 (by decide) (fun c4 => ?_) (fun c4 => ?_)
        · rw [if_pos c4]
          refine e_aload_n dX0_compareWith_68 rfl ?_
          refine e_get dX0_compareWith_69 fX0_22 ha rfl ?_
          refine e_aload_n dX0_compareWith_72 rfl ?_
          refine e_get dX0_compareWith_73 fX0_22 hb rfl ?_
          refine e_S2d dX0_compareWith_76 gX0_32 (by omega) (Nat.le_of_ble_eq_true rfl) rfl rfl (con_icmp (d + 2) h _ _) ?_
          refine e_iret dX0_compareWith_79 rfl rfl ⟨rfl, rfl⟩
        · refine e_iload_n dX0_compareWith_64 rfl ?_
          refine e_goto (tgt := 79) dX0_compareWith_65 (by decide) ?_
          refine e_iret dX0_compareWith_79 rfl rfl ⟨?_, rfl⟩
          rw [if_neg c4]
