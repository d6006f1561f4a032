/-! the class: its public methods; what a heap that only grows keeps -/
def x_ext (h h' : xH) : Prop := ∀ a c, h.2 a = some c → h'.2 a = some c
def xN (h : xH) : Prop := ∀ a : Nat, h.1 ≤ a → h.2 a = none
theorem x_ext.nw {h : xH} {c : xC} (hN : xN h) : x_ext h (x_nw h c) := fun a c' ha => x_nw_n ha (fun e => by rw [e, hN _ (Nat.le_refl _)] at ha; cases ha)
theorem xN.nw {h : xH} {c : xC} (hN : xN h) : xN (x_nw h c) := fun a ha => by
  have ha : h.1 + 1 ≤ a := ha
  exact x_nw_n (hN a (by omega)) (by omega)
theorem x_nw_up (h : xH) (c c' : xC) : x_up (x_nw h c) h.1 c' = x_nw h c' := by
  unfold x_up x_nw
  refine congrArg (Prod.mk _) (funext fun a => ?_)
  show (if a = h.1 then some c' else if a = h.1 then some c else h.2 a) = if a = h.1 then some c' else h.2 a
  split <;> rfl
theorem x_pg.ext {h h' : xH} {a : Nat} {P : xP} (hx : x_ext h h') (hp : x_pg h a P) : x_pg h' a P := ⟨hx _ _ hp.1, hx _ _ hp.2.1, hx _ _ hp.2.2⟩
theorem x_pn.ext {h h' : xH} {b : Nat} (hx : x_ext h h') (hb : x_pn h b) : x_pn h' b := by
  rcases hb with z | ⟨Z, hZ⟩
  · exact Or.inl z
  · exact Or.inr ⟨Z, hx _ _ hZ⟩
theorem CP.ext {h h' : xH} {ch : List (List Nat)} {D : cD} (hx : x_ext h h') (hC : CP h ch D) : CP h' ch D :=
  CP_of [] hC (fun a v => hx a _) (fun b => x_pn.ext hx) (fun j _ _ P => x_pg.ext hx) (fun j _ _ l c k hc hk => ⟨rfl, c, k, hc, hk, rfl⟩) (fun j hj => by cases hj)
theorem CSt.ext {h h' : xH} {ch : List (List Nat)} {D : cD} {tk fu : Nat} {q : qW} {ca : Nat} {cb : Bool} {ha : Nat} (hx : x_ext h h') (hS : CSt h ch D tk fu q ca cb ha) : CSt h' ch D tk fu q ca cb ha := by
  obtain ⟨s1, s2, s3, s4, s5, s6⟩ := hS
  exact ⟨hx _ _ s1, hx _ _ s2, hx _ _ s3, hx _ _ s4, s5.ext hx, s6⟩
/-- what the class's public methods leave -/
def x_cg (h h' : xH) : Prop := h.1 ≤ h'.1 ∧ (∀ a v, h.2 a = some (eC v) → h'.2 a = some (eC v)) ∧ (∀ a : Nat, (a < 2 ∨ 187 ≤ a) → a < h.1 → h'.2 a = h.2 a) ∧ xN h'
theorem x_cg.rf {h : xH} (hN : xN h) : x_cg h h := ⟨Nat.le_refl _, fun _ _ z => z, fun _ _ _ => rfl, hN⟩
theorem x_cg.nw {h : xH} {c : xC} (hN : xN h) : x_cg h (x_nw h c) := ⟨Nat.le_succ _, fun a v => x_ext.nw hN a _, fun a _ ha => x_nw_n rfl (by omega), hN.nw⟩
theorem x_cg.cf {h h' h'' : xH} (a : x_cg h h') (h187 : 187 ≤ h.1) (b : x_cf h' h'') : x_cg h h'' := by
  obtain ⟨a1, a2, a3, a4⟩ := a
  obtain ⟨b1, b2, b3⟩ := b
  exact ⟨by omega, fun q v z => b2 q v (a2 q v z), fun q h1 h2 => (b3 q h1).trans (a3 q h1 h2), fun q hq => (b3 q (Or.inr (by omega))).trans (a4 q (by omega))⟩
def CL (h : xH) (S : Tr) (tk : Nat) (q : qW) (cv : xE) (cb : Bool) (hv : xE) : Prop := ∃ ch D fu ca ha, CSt h ch D tk fu q ca cb ha ∧ CI ch D tk ∧ trS ch D = S ∧ h.2 ca = some (eC cv) ∧ okE cv ∧ h.2 ha = some (eC hv)
theorem cnt_has {v : xE} : ∀ {vs : List xE}, vs.Pairwise (fun a b => od a < od b) → (cnt (od v) vs < cnt (od v + 1) vs ↔ v ∈ vs) := by
  intro vs
  induction vs with
  | nil => intro _; simp [cnt]
  | cons a t ih =>
    intro hw
    have hw' := List.pairwise_cons.mp hw
    have ih := ih hw'.2
    unfold cnt
    rcases Nat.lt_trichotomy (od a) (od v) with z | z | z
    · rw [if_pos z, if_pos (by omega)]
      have hne : v ≠ a := fun e => by rw [e] at z; omega
      simp only [List.mem_cons, hne, false_or]
      rw [← ih]
      omega
    · have e := od_inj z
      rw [if_neg (by omega), if_pos (by omega), e]
      simp
    · rw [if_neg (by omega), if_neg (by omega)]
      refine ⟨fun q => absurd q (by omega), fun q => ?_⟩
      rcases List.mem_cons.mp q with e | e
      · rw [e] at z; omega
      · have := hw'.1 v e
        omega
section CE
variable {h : xH} {ch : List (List Nat)} {D : cD} {tk bd : Nat}
theorem CI.sorted (hI : CI ch D bd) {l : Nat} {c : List Nat} {i : Nat} (hc : ch[l]? = some c) (hi : i ∈ c) : (D i).2.2.1.Pairwise (fun a b => od a < od b) := by
  have hk := ((hI.1.1 l _ (trS_at hc)).2.2 (pgS D i) (List.mem_map.mpr ⟨i, hi, rfl⟩)).1
  have ok := (hI.2.2.2.2.2.1 l _ hc i hi).2
  have hk : ((D i).2.2.1.map sk).Pairwise (· < ·) := hk
  rw [List.pairwise_map] at hk
  exact hk.imp_of_mem (fun {a b} ha hb z => (sk_lt (ok a ha) (ok b hb)).mp z)
theorem CI.ten (hI : CI ch D bd) {l : Nat} {c : List Nat} {i : Nat} (hc : ch[l]? = some c) (hi : i ∈ c) : (D i).2.2.1.length ≤ 10 := by
  have := ((hI.1.1 _ _ (trS_at hc)).2.2 (pgS D i) (List.mem_map.mpr ⟨i, hi, rfl⟩)).2.2
  simpa [pgS] using this
theorem sk_mem {v : xE} {vs : List xE} (hv : okE v) (ok : ∀ x ∈ vs, okE x) : sk v ∈ vs.map sk ↔ v ∈ vs := by
  constructor
  · intro q
    obtain ⟨x, hx, e⟩ := List.mem_map.mp q
    rw [← sk_inj (ok x hx) hv e]
    exact hx
  · exact fun q => List.mem_map.mpr ⟨v, q, rfl⟩
/-- the page of level 0 in charge holds the key, if the tree does -/
theorem CI.has (hI : CI ch D bd) {v : xE} (hv : okE v) {c1 c2 : List Nat} {i : Nat} (hc : ch[0]? = some (c1 ++ i :: c2)) (hC : InC ((c1 ++ i :: c2).map (pgS D)) (sk v) (c1.map (pgS D)) (pgS D i) (c2.map (pgS D))) : cnt (od v) (D i).2.2.1 < cnt (od v + 1) (D i).2.2.1 ↔ inI (trS ch D) 0 (sk v) := by
  have him : i ∈ c1 ++ i :: c2 := List.mem_append_right _ List.mem_cons_self
  have hl := ci_at (D := D) hc
  have hC' : InC (c1.map (pgS D) ++ pgS D i :: c2.map (pgS D)) (sk v) (c1.map (pgS D)) (pgS D i) (c2.map (pgS D)) := by simpa using hC
  rw [cnt_has (hI.sorted hc him), inI_own (hI.1.1 0 _ hl) hl hC']
  exact (sk_mem hv (hI.2.2.2.2.2.1 0 _ hc i him).2).symm
end CE
section CM
variable {h : xH} {S : Tr} {tk : Nat} {q : qW} {cv : xE} {cb : Bool} {hv : xE}
theorem con_has_neg (d : Nat) (e : xE) (hneg : e.2.2.2.2 < 0) : x_D mX2_has d 1 5 [.ref 2, .long e.1, .long e.2.1, .long e.2.2.1, .long e.2.2.2.1, .int e.2.2.2.2] h [.int 0] h := by
  refine e_enter (by decide) (Nat.le_of_ble_eq_true rfl) ?_
  refine e_iload dX2_has_0 rfl ?_
  refine e_if_ge (tgt := 7) dX2_has_2 (by decide) (fun c => absurd hneg (Int32.not_lt.mpr c)) (fun _ => ?_)
  refine e_iconst (v := 0) dX2_has_5 (by decide) ?_
  exact e_iret dX2_has_6 rfl rfl ⟨rfl, rfl⟩
theorem con_has (d : Nat) (e : xE) (b : Bool) (hL : CL h S tk q cv cb hv) (hN : xN h) (h187 : 187 ≤ h.1) (hpos : ¬ e.2.2.2.2 < 0) (hb : inI S 0 (od e + 1) ↔ b = true) : x_Con mX2_has (d + 7) 1 5 [.ref 2, .long e.1, .long e.2.1, .long e.2.2.1, .long e.2.2.2.1, .int e.2.2.2.2] h (fun rv h' => rv = [.int (bI b)] ∧ x_cg h h' ∧ CL h' S tk q cv cb hv) := by
  obtain ⟨ch, D, fu, ca, ha, hS, hI, hT, hcv, hok, hhv⟩ := hL
  obtain ⟨ok, se⟩ := ok_pos hpos
  have hx := x_ext.nw (c := eC e) hN
  have hS2 := hS.ext hx
  have he : (x_nw h (eC e)).2 h.1 = some (eC e) := x_nw_s _ _
  obtain ⟨c1, i, c2, hc, hC⟩ := hI.ex (l := 0) (by obtain ⟨n, hn, -⟩ := hI.2.1; omega) (sk e)
  have him : i ∈ c1 ++ i :: c2 := List.mem_append_right _ List.mem_cons_self
  have hpos' : (c1 ++ i :: c2)[c1.length]? = some i := by rw [List.getElem?_append_right (Nat.le_refl _), Nat.sub_self]; rfl
  have hi60 : i < 60 := by have := hI.2.2.2.1 _ _ hc i him; have := hI.2.2.2.2.1; omega
  obtain ⟨P, hp⟩ := hS2.2.2.2.2.1 i hi60
  obtain ⟨q1, q2, q3, q4, q5, q6, q7⟩ := hp.2.2.2 0 _ _ hc hpos'
  have hh := hI.has ok hc hC
  rw [hT, se, hb] at hh
  refine e_enter (by decide) (Nat.le_of_ble_eq_true rfl) ?_
  refine e_iload dX2_has_0 rfl ?_
  refine e_if_ge (tgt := 7) dX2_has_2 (by decide) (fun _ => ?_) (fun c => absurd (Int32.not_lt.mp hpos) c)
  refine e_new dX2_has_7 nX2_7 rfl rfl ?_
  refine e_dup dX2_has_10 rfl ?_
  refine e_lload_n dX2_has_11 rfl ?_
  refine e_lload_n dX2_has_12 rfl ?_
  refine e_lload dX2_has_13 rfl ?_
  refine e_lload dX2_has_15 rfl ?_
  refine e_iload dX2_has_17 rfl ?_
  refine e_I5d dX2_has_19 gX2_11 (x_nw_s _ _) (by omega) (Nat.le_of_ble_eq_true rfl) rfl rfl (con_Entry_init (d + 1) _ h.1 e (x_nw_s _ _) rfl) ?_
  rw [x_nw_up]
  refine e_astore dX2_has_22 (by decide) rfl ?_
  refine e_aload_n dX2_has_24 rfl ?_
  refine e_iconst (v := 0) dX2_has_25 (by decide) ?_
  refine e_aload dX2_has_26 rfl ?_
  refine e_V2d dX2_has_28 gX2_60 hS2.1 rfl (by omega) (Nat.le_of_ble_eq_true rfl) rfl rfl (con_pic d 2 h.1 0 e hS2.1 hS2.2.2.2.2.1 hI he ok hc hC) ?_
  refine e_aload dX2_has_31 rfl ?_
  refine e_V1d dX2_has_33 gX2_64 hp.1.1 rfl (by omega) (Nat.le_of_ble_eq_true rfl) rfl rfl (con_holds (d + 1) _ (pa i) h.1 e P (D i).2.2.1 hp.1 q1 q6 (hI.ten hc him) he) ?_
  have fin : x_cg h (x_nw h (eC e)) ∧ CL (x_nw h (eC e)) S tk q cv cb hv := ⟨x_cg.nw hN, ch, D, fu, ca, ha, hS2, hI, hT, hx _ _ hcv, hok, hx _ _ hhv⟩
  cases b with
  | true =>
    rw [if_pos (hh.mpr rfl)]
    exact e_iret dX2_has_36 rfl rfl ⟨rfl, fin⟩
  | false =>
    rw [if_neg (fun z => Bool.false_ne_true (hh.mp z))]
    exact e_iret dX2_has_36 rfl rfl ⟨rfl, fin⟩
end CM
