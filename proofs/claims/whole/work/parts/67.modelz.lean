/-! the reference's public methods on the tree -/
def bhN (kv : Nat → xE) (sd : Int32) (ck : Nat) (cb : Bool) (x : Nat) : Bool := if sd = 0 then decide (rk kv ck + (if cb then 1 else 0) ≤ x) else decide (sd < 0)
theorem bh_N (kv : Nat → xE) (sd : Int32) (ck : Nat) (cb : Bool) (num : Nat) : bh kv sd ck cb num = bhN kv sd ck cb (rk kv num) := rfl
def cuR (kv : Nat → xE) (sd : Int32) (ck : Nat) (cb : Bool) (K : Nat) : Prop := ∀ e : xE, ¬ e.2.2.2.2 < 0 → (bhN kv sd ck cb (od e + 1) = true ↔ K ≤ od e + 1)
def MR (h : xH) (S : Tr) (tk : Nat) (q : qW) (ks K : Nat) (hv : xE) : Prop := ∃ kv cm sd ck cb hn, MS h 187 S q kv cm ks tk sd ck cb hn ∧ kv hn = hv ∧ hn < ks ∧ ck < ks ∧ cuR kv sd ck cb K
def posS (S : Tr) : Prop := ∀ y, inI S 0 y → ∃ e : xE, ¬ e.2.2.2.2 < 0 ∧ y = od e + 1
theorem CL.pos {h : xH} {S : Tr} {tk : Nat} {q : qW} {cv : xE} {cb : Bool} {hv : xE} (hL : CL h S tk q cv cb hv) : posS S := by
  obtain ⟨ch, D, fu, ca, ha, hS, hI, hT, -⟩ := hL
  intro y hy
  rw [← hT] at hy
  obtain ⟨c, hc⟩ : ∃ c, ch[0]? = some c := ⟨_, List.getElem?_eq_getElem (by obtain ⟨n, hn, -⟩ := hI.2.1; omega)⟩
  obtain ⟨x, hx, e⟩ := (inI_fl hI hc y).mp hy
  exact ⟨x, fl_pos hI hc hx, e⟩
theorem CL.tr {h : xH} {S : Tr} {tk : Nat} {q : qW} {cv : xE} {cb : Bool} {hv : xE} (hL : CL h S tk q cv cb hv) : trK S ∧ nPg S ≤ tk ∧ tk ≤ 60 ∧ okE cv := by
  obtain ⟨ch, D, fu, ca, ha, hS, hI, hT, -, hok, -⟩ := hL
  obtain ⟨-, h2, h3⟩ := ch_len hI
  rw [hT] at h2
  exact ⟨hT ▸ hI.1, by omega, hI.2.2.2.2.1, hok⟩
theorem cu_kvu {kv : Nat → xE} {sd : Int32} {ck : Nat} {cb : Bool} {K ks : Nat} (e : xE) (hck : ck < ks) (h : cuR kv sd ck cb K) : cuR (kvu kv ks e) sd ck cb K := by
  intro x hx
  rw [← h x hx]
  unfold bhN
  rw [rk_kvu e (by omega)]
theorem kvu_n {kv : Nat → xE} {k i : Nat} (e : xE) (h : i < k) : kvu kv k e i = kv i := by
  unfold kvu
  rw [if_neg (by omega)]
theorem od_lt (e : xE) : od e < 497323236409786642155382248146820840100456150797347717440463976893159497012533375533056 := by
  have h1 := uN_lt e.1
  have h2 := uN_lt e.2.1
  have h3 := uN_lt e.2.2.1
  have h4 := uN_lt e.2.2.2.1
  have h5 := (pl_lt e).1
  unfold od
  omega
section MZ
variable {h : xH} {S : Tr} {tk : Nat} {q : qW} {ks K : Nat} {hv : xE}
theorem con_rhas (d : Nat) (e : xE) (b : Bool) (hM : MR h S tk q ks K hv) (hT : trK S) (h60 : nPg S ≤ 60) (hks : ks < 513) (hb : inI S 0 (od e + 1) ↔ b = true) : x_Con mX3_has (d + 3) 0 0 [.ref 187, .long e.1, .long e.2.1, .long e.2.2.1, .long e.2.2.2.1, .int e.2.2.2.2] h (fun rv h' => rv = [.int (bI b)] ∧ x_mf 187 h h' ∧ MR h' S tk q ks K hv) := by
  obtain ⟨kv, cm, sd, ck, cb, hn, ⟨it, il, lw, ll, ow, ni, nl, hm, hR⟩, e1, e2, e3, e4⟩ := hM
  have hR2 := rr_kv hR e
  have hk1 : rk (kvu kv ks e) ks = od e + 1 := rk_num e hR.2.2.2.2.2.2.2.2
  obtain ⟨hB, h30⟩ := hR2.mB hT h60 (by omega)
  have ho : ∃ o : Option Nat, o.isSome = b ∧ isI (kvu kv ks e) it il ni ks o := by
    cases b with
    | true =>
      obtain ⟨i0, hi0⟩ := (rr_itemOf hR2 ks).1 (by rw [hk1]; exact hb.mpr rfl)
      exact ⟨some i0, rfl, hi0⟩
    | false => exact ⟨none, rfl, (rr_itemOf hR2 ks).2 (by rw [hk1]; exact fun z => Bool.false_ne_true (hb.mp z))⟩
  obtain ⟨o, ho1, ho2⟩ := ho
  refine (con_mhas d h 187 e o hm hB hks ho2).mono (fun rv h' ⟨z1, z2, z3⟩ => ⟨by rw [← ho1]; exact z1, z3, kvu kv ks e, cm, sd, ck, cb, hn, ⟨it, il, lw, ll, ow, ni, nl, z2, hR2⟩, by rw [kvu_n e e2]; exact e1, e2, e3, cu_kvu e e3 e4⟩)
theorem con_rremove_no (d : Nat) (e : xE) (hM : MR h S tk q ks K hv) (hT : trK S) (h60 : nPg S ≤ 60) (hks : ks < 513) (hin : ¬ inI S 0 (od e + 1)) : x_Con mX3_remove (d + 3) 0 0 [.ref 187, .long e.1, .long e.2.1, .long e.2.2.1, .long e.2.2.2.1, .int e.2.2.2.2] h (fun rv h' => rv = [.int 0] ∧ x_mf 187 h h' ∧ MR h' S tk q ks K hv) := by
  obtain ⟨kv, cm, sd, ck, cb, hn, ⟨it, il, lw, ll, ow, ni, nl, hm, hR⟩, e1, e2, e3, e4⟩ := hM
  have hR2 := rr_kv hR e
  have hk1 : rk (kvu kv ks e) ks = od e + 1 := rk_num e hR.2.2.2.2.2.2.2.2
  obtain ⟨hB, h30⟩ := hR2.mB hT h60 (by omega)
  have ho := (rr_itemOf hR2 ks).2 (by rw [hk1]; exact hin)
  refine (con_mremove d h 187 0 e none hm hB hks ho (fun z => by cases z)).mono (fun rv h' z => ?_)
  obtain ⟨z3, z1, z2⟩ := z
  exact ⟨z1, z3, kvu kv ks e, cm, sd, ck, cb, hn, ⟨it, il, lw, ll, ow, ni, nl, z2, hR2⟩, by rw [kvu_n e e2]; exact e1, e2, e3, cu_kvu e e3 e4⟩
theorem con_rremove_yes (d : Nat) (e : xE) {p1 p2 : List Pg} {g : Pg} (hM : MR h S tk q ks K hv) (hT : trK S) (h60 : nPg S ≤ 60) (hks : ks < 513) (hin : inI S 0 (od e + 1)) (hl : S[0]? = some (p1 ++ g :: p2)) (hC0 : InC (p1 ++ g :: p2) (od e + 1) p1 g p2) : x_Con mX3_remove (d + 3) 0 0 [.ref 187, .long e.1, .long e.2.1, .long e.2.2.1, .long e.2.2.2.1, .int e.2.2.2.2] h (fun rv h' => x_mf 187 h h' ∧ (if (sW 1 q).1 then rv = [.int 1] ∧ MR h' (sSet S 0 p1 [(g.1, false, g.2.2.filter (fun x => decide (x ≠ od e + 1)))] p2) tk (sW 1 q).2 ks K hv else rv = [.int (-2)] ∧ MR h' S tk (sW 1 q).2 ks K hv)) := by
  obtain ⟨kv, cm, sd, ck, cb, hn, ⟨it, il, lw, ll, ow, ni, nl, hm, hR⟩, e1, e2, e3, e4⟩ := hM
  have hR2 := rr_kv hR e
  have hk1 : rk (kvu kv ks e) ks = od e + 1 := rk_num e hR.2.2.2.2.2.2.2.2
  obtain ⟨hB, h30⟩ := hR2.mB hT h60 (by omega)
  obtain ⟨i0, hi0⟩ := (rr_itemOf hR2 ks).1 (by rw [hk1]; exact hin)
  obtain ⟨p0, hI, hp2, hpo⟩ := rr_isC hR2 hT (num := ks) hl (by rw [hk1]; exact hC0)
  have hvm : od e + 1 ∈ g.2.2 := (inI_own (hT.1 0 _ hl) hl hC0).mp hin
  refine (con_mremove d h 187 p0 e (some i0) hm hB hks hi0 (fun _ => hI)).mono (fun rv h' ⟨z3, z⟩ => ⟨z3, ?_⟩)
  have z : if (sW 1 q).1 then _ else _ := z
  by_cases es : (sW 1 q).1 = true
  · rw [if_pos es] at z ⊢
    refine ⟨z.1, kvu kv ks e, cm, sd, ck, cb, hn, ⟨_, _, _, _, _, _, _, ?_, rr_del hR2 hT hl hC0 hvm hi0.1 hi0.2.1.1 (hi0.2.1.2.trans hk1) hI.1 hI.2.1 hp2⟩, by rw [kvu_n e e2]; exact e1, e2, e3, cu_kvu e e3 e4⟩
    rw [ss_len]
    exact z.2
  · rw [if_neg es] at z ⊢
    exact ⟨z.1, kvu kv ks e, cm, sd, ck, cb, hn, ⟨it, il, lw, ll, ow, ni, nl, z.2, hR2⟩, by rw [kvu_n e e2]; exact e1, e2, e3, cu_kvu e e3 e4⟩
theorem con_rseek (d : Nat) (e : xE) (hp1 : e.2.2.2.2 = -1) (hM : MR h S tk q ks K hv) (hks : ks < 513) : x_Con mX3_seek (d + 1) 0 0 [.ref 187, .long e.1, .long e.2.1, .long e.2.2.1, .long e.2.2.2.1] h (fun rv h' => rv = [] ∧ x_mf 187 h h' ∧ MR h' S tk q (ks + 1) (od e + 1) hv) := by
  obtain ⟨kv, cm, sd, ck, cb, hn, ⟨it, il, lw, ll, ow, ni, nl, hm, hR⟩, e1, e2, e3, e4⟩ := hM
  obtain ⟨a, b, c, dd, p⟩ := e
  dsimp only at hp1
  subst hp1
  have hR2 := rr_kv hR (a, b, c, dd, 0)
  have hk1 : rk (kvu kv ks (a, b, c, dd, 0)) ks = od (a, b, c, dd, 0) + 1 := rk_num _ hR.2.2.2.2.2.2.2.2
  have hod : od (a, b, c, dd, 0) = od (a, b, c, dd, -1) + 1 := by
    have h1 := (pl_lt (a, b, c, dd, 0)).2
    have h2 := (pl_lt (a, b, c, dd, -1)).2
    have h3 : (-1 : Int32).toInt = -1 := by decide
    have h4 : (0 : Int32).toInt = 0 := by decide
    dsimp only at h1 h2
    rw [h4] at h1
    rw [h3] at h2
    unfold od
    dsimp only
    omega
  refine (con_mseek d h 187 (a, b, c, dd, 0) rfl hm hks).mono (fun rv h' ⟨z1, z2, z3⟩ => ⟨z1, z3, kvu kv ks (a, b, c, dd, 0), cm, 0, ks, false, hn, ⟨it, il, lw, ll, ow, ni, nl, z2, rr_ks hR2⟩, by rw [kvu_n _ e2]; exact e1, by omega, by omega, fun x hx => ?_⟩)
  unfold bhN
  rw [if_pos rfl, hk1, hod, decide_eq_true_iff]
  have hne : od x ≠ od (a, b, c, dd, -1) := fun y => by
    have := od_inj y
    rw [this] at hx
    exact hx (show (-1 : Int32) < 0 by decide)
  simp only [Bool.false_eq_true, if_false]
  omega
theorem cu_first (kv : Nat → xE) (ck : Nat) (cb : Bool) : cuR kv (-1) ck cb (od lowE + 1) := by
  intro x hx
  have h1 := (ok_pos hx).1
  unfold okE at h1
  unfold bhN
  rw [if_neg (by decide), od_low]
  exact ⟨fun _ => by omega, fun _ => by decide⟩
theorem cu_last (kv : Nat → xE) (ck : Nat) (cb : Bool) : cuR kv 1 ck cb (od highE + 1 + 1) := by
  intro x hx
  have h1 := od_lt x
  have h2 : od highE = 497323236409786642155382248146820840100456150797347717440463976893159497012533375533055 := by decide +kernel
  unfold bhN
  rw [if_neg (by decide), h2]
  exact ⟨fun z => absurd z (by decide), fun z => absurd z (by omega)⟩
theorem con_rfirst (d : Nat) (hM : MR h S tk q ks K hv) : x_Con mX3_first d 0 0 [.ref 187] h (fun rv h' => rv = [] ∧ x_mf 187 h h' ∧ MR h' S tk q ks (od lowE + 1) hv) := by
  obtain ⟨kv, cm, sd, ck, cb, hn, ⟨it, il, lw, ll, ow, ni, nl, hm, hR⟩, e1, e2, e3, e4⟩ := hM
  exact (con_mfirst d h 187 hm).mono (fun rv h' ⟨z1, z2, z3⟩ => ⟨z1, z3, kv, cm, -1, ck, cb, hn, ⟨it, il, lw, ll, ow, ni, nl, z2, hR⟩, e1, e2, e3, cu_first kv ck cb⟩)
theorem con_rlast (d : Nat) (hM : MR h S tk q ks K hv) : x_Con mX3_last d 0 0 [.ref 187] h (fun rv h' => rv = [] ∧ x_mf 187 h h' ∧ MR h' S tk q ks (od highE + 1 + 1) hv) := by
  obtain ⟨kv, cm, sd, ck, cb, hn, ⟨it, il, lw, ll, ow, ni, nl, hm, hR⟩, e1, e2, e3, e4⟩ := hM
  exact (con_mlast d h 187 hm).mono (fun rv h' ⟨z1, z2, z3⟩ => ⟨z1, z3, kv, cm, 1, ck, cb, hn, ⟨it, il, lw, ll, ow, ni, nl, z2, hR⟩, e1, e2, e3, cu_last kv ck cb⟩)
theorem con_rclear (d : Nat) (hM : MR h S tk q ks K hv) : x_Con mX3_clear (d + 1) 0 0 [.ref 187] h (fun rv h' => rv = [] ∧ x_mf 187 h h' ∧ MR h' S0 1 (q.1 + 3, q.2) ks (od lowE + 1) hv) := by
  obtain ⟨kv, cm, sd, ck, cb, hn, ⟨it, il, lw, ll, ow, ni, nl, hm, hR⟩, e1, e2, e3, e4⟩ := hM
  exact (con_mclear d h 187 hm).mono (fun rv h' ⟨z1, z2, z3⟩ => ⟨z1, z3, kv, cm, -1, ck, cb, hn, ⟨_, _, _, _, _, 0, 1, z2, rr_0 hR.2.2.2.2.2.2.2.2 (by simp [fu]) (by simp [fu]) (by simp)⟩, e1, e2, e3, cu_first kv ck cb⟩)
theorem con_rcharge (d : Nat) (n : Int32) (hM : MR h S tk q ks K hv) : x_Con mX3_charge d 0 0 [.ref 187, .int n] h (fun rv h' => x_mf 187 h h' ∧ (if n < 0 ∨ 999 < n then rv = [.int 0] ∧ MR h' S tk q ks K hv else rv = [.int 1] ∧ MR h' S tk (q.1, n, false) ks K hv)) := by
  have hM0 := hM
  obtain ⟨kv, cm, sd, ck, cb, hn, ⟨it, il, lw, ll, ow, ni, nl, hm, hR⟩, e1, e2, e3, e4⟩ := hM
  refine (con_mcharge d h 187 n hm).mono (fun rv h' ⟨z3, z⟩ => ⟨z3, ?_⟩)
  by_cases hc : n < 0 ∨ 999 < n
  · rw [if_pos hc] at z ⊢
    exact ⟨z.1, by rw [z.2]; exact hM0⟩
  · rw [if_neg hc] at z ⊢
    exact ⟨z.1, kv, cm, sd, ck, cb, hn, ⟨it, il, lw, ll, ow, ni, nl, z.2, hR⟩, e1, e2, e3, e4⟩
theorem con_rplace (d : Nat) (hM : MR h S tk q ks K hv) (hks : ks ≤ 513) : x_D mX3_place d 0 0 [.ref 187] h [.int hv.2.2.2.2] h := by
  obtain ⟨kv, cm, sd, ck, cb, hn, ⟨it, il, lw, ll, ow, ni, nl, hm, hR⟩, e1, e2, e3, e4⟩ := hM
  rw [← e1]
  exact con_mplace d h 187 hm (by omega)
theorem con_rword (d : Nat) (k : Int32) (hM : MR h S tk q ks K hv) (hks : ks ≤ 513) : x_D mX3_word d 0 0 [.ref 187, .int k] h [.long (wd hv k)] h := by
  obtain ⟨kv, cm, sd, ck, cb, hn, ⟨it, il, lw, ll, ow, ni, nl, hm, hR⟩, e1, e2, e3, e4⟩ := hM
  rw [← e1]
  exact con_mword d h 187 k hm (by omega)
theorem con_rlevel (d : Nat) (l what : Int32) (hM : MR h S tk q ks K hv) (hT : trK S) (h60 : nPg S ≤ 60) (hks : ks ≤ 513) : x_D mX3_level (d + 4) 0 0 [.ref 187, .int l, .int what] h [.int (sLev S l what)] h := by
  obtain ⟨kv, cm, sd, ck, cb, hn, hm, -⟩ := hM
  exact con_mlevel d 187 l what hm hT h60 hks
theorem con_rcount (d : Nat) (k : Int32) (hM : MR h S tk q ks K hv) (hT : trK S) (h60 : nPg S ≤ 60) (hks : ks ≤ 513) : x_D mX3_count (d + 1) 0 0 [.ref 187, .int k] h [.int (if k = 0 then nI S.length else if k = 1 then nI tk else if k = 2 then q.1 else if k = 3 then sLev S 0 1 else -1)] h := by
  obtain ⟨kv, cm, sd, ck, cb, hn, ⟨it, il, lw, ll, ow, ni, nl, hm, hR⟩, e1, e2, e3, e4⟩ := hM
  obtain ⟨hB, h30⟩ := hR.mB hT h60 hks
  obtain ⟨n, g, t1, t2, -⟩ := hT.2.1
  obtain ⟨c, hc⟩ : ∃ c, S[0]? = some c := ⟨_, List.getElem?_eq_getElem (by omega)⟩
  have hz : sLev S 0 1 = nI (cT (fun i => decide (il i = 0)) ni) := by
    unfold sLev
    have e0 : (0 : Int32).toNatClampNeg = 0 := by decide
    rw [if_neg, if_neg (by decide), if_pos rfl, e0, lvl_at hc, rr_entries hR hT hc]
    rintro (z | z | z)
    · exact absurd z (by decide)
    · exact absurd z (nI_ge (a := 0) (by omega) (by omega))
    · exact absurd z (by decide)
  rw [hz]
  exact con_mcount d h 187 k hm hB
theorem nx_kv {kv : Nat → xE} {i : Nat} {x : xE} (h : rk kv i = od x + 1) : kv i = x := by
  unfold rk at h
  split at h
  · omega
  · exact od_inj (by omega)
theorem con_rnext (d : Nat) (o : Option xE) (hM : MR h S tk q ks K hv) (hT : trK S) (h60 : nPg S ≤ 60) (hks : ks ≤ 513) (hpos : posS S) (hQ : nxQ S K o) : x_Con mX3_next (d + 3) 0 0 [.ref 187] h (fun rv h' => x_mf 187 h h' ∧ (match o with
      | none => rv = [.int 0] ∧ MR h' S tk q ks K hv
      | some x => rv = [.int 1] ∧ MR h' S tk q ks (od x + 1 + 1) x)) := by
  have hM0 := hM
  obtain ⟨kv, cm, sd, ck, cb, hn, ⟨it, il, lw, ll, ow, ni, nl, hm, hR⟩, e1, e2, e3, e4⟩ := hM
  obtain ⟨hB, h30⟩ := hR.mB hT h60 hks
  have cut : ∀ i, i < ni → il i = 0 → inI S 0 (rk kv (it i)) ∧ (bh kv sd ck cb (it i) = true ↔ K ≤ rk kv (it i)) := fun i hi h0 => by
    have hin := (hR.1 i hi).1
    rw [h0] at hin
    obtain ⟨e, p1, p2⟩ := hpos _ hin
    refine ⟨hin, ?_⟩
    rw [bh_N, p2]
    exact e4 e p1
  cases o with
  | none =>
    have hQ : ∀ y, inI S 0 y → y < K := hQ
    refine (con_mnext d h 187 none hm hB (by omega) (fun i0 z => by cases z) (fun _ i hi h0 z => ?_)).mono (fun rv h' z => by obtain ⟨z3, z1, z2⟩ := z; exact ⟨z3, z1, by rw [z2]; exact hM0⟩)
    obtain ⟨c1, c2⟩ := cut i hi h0
    have := hQ _ c1
    have := c2.mp z
    omega
  | some x =>
    obtain ⟨x1, x2, x3, x4⟩ := hQ
    obtain ⟨i0, i1, i2, i3⟩ := hR.2.1 0 _ x2
    have cu0 : cuR kv 0 (it i0) true (od x + 1 + 1) := fun e he => by
      unfold bhN
      rw [if_pos rfl, i3, if_pos rfl, decide_eq_true_iff]
    refine (con_mnext d h 187 (some i0) hm hB (by omega) (fun i0' z => ?_) (fun z => by cases z)).mono (fun rv h' z => by obtain ⟨z3, z1, z2⟩ := z; exact ⟨z3, z1, kv, cm, 0, it i0, true, it i0, ⟨it, il, lw, ll, ow, ni, nl, z2, hR⟩, nx_kv i3, (hR.1 i0 i1).2, (hR.1 i0 i1).2, cu0⟩)
    · have e0 : i0 = i0' := Option.some.inj z
      subst e0
      refine ⟨i1, i2, (cut i0 i1 i2).2.mpr (by rw [i3]; exact x3), fun i hi h0 hb hne => ?_⟩
      obtain ⟨c1, c2⟩ := cut i hi h0
      have h1 := x4 _ c1 (c2.mp hb)
      have h2 : rk kv (it i) ≠ rk kv (it i0) := fun y => hne (hR.2.2.1 i i0 hi i1 (by rw [h0, i2]) y)
      omega
theorem con_rback (d : Nat) (o : Option xE) (hM : MR h S tk q ks K hv) (hT : trK S) (h60 : nPg S ≤ 60) (hks : ks ≤ 513) (hpos : posS S) (hQ : bkQ S K o) : x_Con mX3_back (d + 3) 0 0 [.ref 187] h (fun rv h' => x_mf 187 h h' ∧ (match o with
      | none => rv = [.int 0] ∧ MR h' S tk q ks K hv
      | some x => rv = [.int 1] ∧ MR h' S tk q ks (od x + 1) x)) := by
  have hM0 := hM
  obtain ⟨kv, cm, sd, ck, cb, hn, ⟨it, il, lw, ll, ow, ni, nl, hm, hR⟩, e1, e2, e3, e4⟩ := hM
  obtain ⟨hB, h30⟩ := hR.mB hT h60 hks
  have cut : ∀ i, i < ni → il i = 0 → inI S 0 (rk kv (it i)) ∧ (bh kv sd ck cb (it i) = true ↔ K ≤ rk kv (it i)) := fun i hi h0 => by
    have hin := (hR.1 i hi).1
    rw [h0] at hin
    obtain ⟨e, p1, p2⟩ := hpos _ hin
    refine ⟨hin, ?_⟩
    rw [bh_N, p2]
    exact e4 e p1
  cases o with
  | none =>
    have hQ : ∀ y, inI S 0 y → K ≤ y := hQ
    refine (con_mback d h 187 none hm hB (by omega) (fun i0 z => by cases z) (fun _ i hi h0 z => ?_)).mono (fun rv h' z => by obtain ⟨z3, z1, z2⟩ := z; exact ⟨z3, z1, by rw [z2]; exact hM0⟩)
    obtain ⟨c1, c2⟩ := cut i hi h0
    exact z (c2.mpr (hQ _ c1))
  | some x =>
    obtain ⟨x1, x2, x3, x4⟩ := hQ
    obtain ⟨i0, i1, i2, i3⟩ := hR.2.1 0 _ x2
    have cu0 : cuR kv 0 (it i0) false (od x + 1) := fun e he => by
      unfold bhN
      rw [if_pos rfl, i3, decide_eq_true_iff]
      simp
    refine (con_mback d h 187 (some i0) hm hB (by omega) (fun i0' z => ?_) (fun z => by cases z)).mono (fun rv h' z => by obtain ⟨z3, z1, z2⟩ := z; exact ⟨z3, z1, kv, cm, 0, it i0, false, it i0, ⟨it, il, lw, ll, ow, ni, nl, z2, hR⟩, nx_kv i3, (hR.1 i0 i1).2, (hR.1 i0 i1).2, cu0⟩)
    · have e0 : i0 = i0' := Option.some.inj z
      subst e0
      refine ⟨i1, i2, fun y => by have := (cut i0 i1 i2).2.mp y; omega, fun i hi h0 hb hne => ?_⟩
      obtain ⟨c1, c2⟩ := cut i hi h0
      have h1 := x4 _ c1 (by
        rcases Nat.lt_or_ge (rk kv (it i)) K with y | y
        · exact y
        · exact absurd (c2.mpr y) hb)
      have h2 : rk kv (it i) ≠ rk kv (it i0) := fun y => hne (hR.2.2.1 i i0 hi i1 (by rw [h0, i2]) y)
      omega
theorem con_radd_has (d : Nat) (e : xE) (hM : MR h S tk q ks K hv) (hT : trK S) (h60 : nPg S ≤ 60) (hks : ks < 513) (hpos : ¬ e.2.2.2.2 < 0) (hin : inI S 0 (od e + 1)) : x_Con mX3_add (d + 5) 0 0 [.ref 187, .long e.1, .long e.2.1, .long e.2.2.1, .long e.2.2.2.1, .int e.2.2.2.2] h (fun rv h' => rv = [.int 0] ∧ x_mf 187 h h' ∧ MR h' S tk q ks K hv) := by
  obtain ⟨kv, cm, sd, ck, cb, hn, hm, e1, e2, e3, e4⟩ := hM
  exact (con_madd_has d 187 e hm hT h60 hks hpos hin).mono (fun rv h' ⟨z1, z2, z3⟩ => ⟨z2, z1, kvu kv ks e, cm, sd, ck, cb, hn, z3, by rw [kvu_n e e2]; exact e1, e2, e3, cu_kvu e e3 e4⟩)
theorem con_radd_new (d top : Nat) (e : xE) (w : Nat → Nat) (rs : Bool) (hM : MR h S tk q ks K hv) (hT : trK S) (h60 : nPg S ≤ tk) (htk : tk ≤ 60) (hks : ks < 513) (hpos : ¬ e.2.2.2.2 < 0) (hin : ¬ inI S 0 (od e + 1)) (hw : w 0 = od e + 1) (hP : pth S w 0 top rs) : x_Con mX3_add (d + 5) 0 0 [.ref 187, .long e.1, .long e.2.1, .long e.2.2.1, .long e.2.2.2.1, .int e.2.2.2.2] h (fun rv h' => x_mf 187 h h' ∧ (if tk + wnt top rs ≤ 60 then rv = [.int (if (sPut (top + 1) 0 (od e + 1) S q).1 then 1 else -2)] ∧ MR h' (sPut (top + 1) 0 (od e + 1) S q).2.1 (tk + wnt top rs) (sPut (top + 1) 0 (od e + 1) S q).2.2 (ks + 1) K hv else rv = [.int (-1)] ∧ MR h' S tk q ks K hv)) := by
  obtain ⟨kv, cm, sd, ck, cb, hn, hm, e1, e2, e3, e4⟩ := hM
  refine (con_madd_new d 187 top e w rs hm hT h60 htk hks hpos hin hw hP).mono (fun rv h' ⟨z1, cm', z⟩ => ⟨z1, ?_⟩)
  by_cases hle : tk + wnt top rs ≤ 60
  · rw [if_pos hle] at z ⊢
    exact ⟨z.1, kvu kv ks e, cm', sd, ck, cb, hn, z.2, by rw [kvu_n e e2]; exact e1, by omega, by omega, cu_kvu e e3 e4⟩
  · rw [if_neg hle] at z ⊢
    exact ⟨z.1, kvu kv ks e, cm', sd, ck, cb, hn, z.2, by rw [kvu_n e e2]; exact e1, e2, e3, cu_kvu e e3 e4⟩
end MZ
