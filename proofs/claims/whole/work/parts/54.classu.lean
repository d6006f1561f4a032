/-! the class: a page's cells change -/
def Du (D : cD) (i : Nat) (x : xE × Bool × List xE × List Nat) : cD := fun q => if q = i then x else D q
theorem Du_s (D : cD) (i : Nat) (x : xE × Bool × List xE × List Nat) : Du D i x i = x := by simp [Du]
theorem Du_n {D : cD} {i j : Nat} {x : xE × Bool × List xE × List Nat} (h : j ≠ i) : Du D i x j = D j := by simp [Du, h]
theorem pa_ge (i : Nat) : 5 ≤ pa i := by unfold pa; split <;> omega
theorem pa_lt {i : Nat} (h : i < 60) : pa i + 2 < 186 := by unfold pa; split <;> omega
section CU
variable {h : xH} {ch : List (List Nat)} {D : cD} {bd : Nat}
theorem CP_up2 {fs : List Value} {c : xC} (hCP : CP h ch D) (ht : h.2 2 = some (.inr (2, fs))) : CP (x_up h 2 c) ch D := by
  have en : ∀ a v, h.2 a = some (eC v) → (x_up h 2 c).2 a = some (eC v) := fun a v ha => x_up_n ha (fun e => by rw [e, ht] at ha; cases ha)
  have pn : ∀ b, x_pn h b → x_pn (x_up h 2 c) b := fun b hb => by
    rcases hb with rfl | ⟨Z, hZ⟩
    · exact Or.inl rfl
    · exact Or.inr ⟨Z, x_up_n hZ (fun e => by rw [e, ht] at hZ; cases hZ)⟩
  intro i hi
  obtain ⟨P, p1, p2, p3, p4⟩ := hCP i hi
  have g := pa_ge i
  refine ⟨P, ⟨x_up_n p1.1 (by omega), x_up_n p1.2.1 (by omega), x_up_n p1.2.2 (by omega)⟩, fun j hj => ?_, fun j hj => pn _ (p3 j hj), fun l c' k hc hk => ?_⟩
  · obtain ⟨v, hv⟩ := p2 j hj
    exact ⟨v, en _ v hv⟩
  · obtain ⟨q1, q2, q3, q4, q5, q6, q7⟩ := p4 l c' k hc hk
    exact ⟨q1, q2, en _ _ q3, q4, q5, fun j v hv => en _ v (q6 j v hv), q7⟩
/-- size, lacking word and rows of one page change -/
theorem CP_set {i : Nat} {P : xP} (hCP : CP h ch D) (hi : i < 60) (hp : CPi h ch D i P) {n' : Nat} {b' : Bool} {E' B' : Nat → Nat} {its' : List xE} {bls' : List Nat} (hn : n' = its'.length) (hfe : x_fe h E') (hfb : x_fb h B') (hes : x_es h E' its') (hbl : ∀ (j b : Nat), bls'[j]? = some b → B' j = pa b) :
    CP (x_ps h (pa i) ((n', P.1.2.1, P.1.2.2.1, P.1.2.2.2.1, bI b'), E', B')) ch (Du D i ((D i).1, b', its', bls')) := by
  obtain ⟨p1, p2, p3, p4⟩ := hp
  have en : ∀ a v, h.2 a = some (eC v) → (x_ps h (pa i) ((n', P.1.2.1, P.1.2.2.1, P.1.2.2.2.1, bI b'), E', B')).2 a = some (eC v) := fun a v ha => x_en_ps p1 ha
  intro j hj
  by_cases e : j = i
  · subst e
    refine ⟨_, x_ps_pg _ _ _, fun k hk => ?_, fun k hk => x_pn_ps p1 (hfb k hk), fun l c k hc hk => ?_⟩
    · obtain ⟨v, hv⟩ := hfe k hk
      exact ⟨v, en _ v hv⟩
    · obtain ⟨q1, q2, q3, q4, q5, q6, q7⟩ := p4 l c k hc hk
      rw [Du_s]
      exact ⟨hn, q2, en _ _ q3, q4, rfl, fun k' v hv => en _ v (hes k' v hv), hbl⟩
  · obtain ⟨P2, r1, r2, r3, r4⟩ := hCP j hj
    refine ⟨P2, x_pg_ps p1 r1 (fun z => e (pa_inj z)), fun k hk => ?_, fun k hk => x_pn_ps p1 (r3 k hk), fun l c k hc hk => ?_⟩
    · obtain ⟨v, hv⟩ := r2 k hk
      exact ⟨v, en _ v hv⟩
    · obtain ⟨q1, q2, q3, q4, q5, q6, q7⟩ := r4 l c k hc hk
      rw [Du_n e]
      exact ⟨q1, q2, en _ _ q3, q4, q5, fun k' v hv => en _ v (q6 k' v hv), q7⟩
theorem nd_other (hnd : ch.flatten.Nodup) {l l' : Nat} {c c' : List Nat} {i : Nat} (hc : ch[l]? = some c) (hc' : ch[l']? = some c') (hi : i ∈ c) (hi' : i ∈ c') : l = l' := by
  have hp := (List.pairwise_flatten.mp hnd).2
  rw [List.pairwise_iff_getElem] at hp
  have h1 := List.getElem?_eq_some_iff.mp hc
  have h2 := List.getElem?_eq_some_iff.mp hc'
  rcases Nat.lt_trichotomy l l' with z | z | z
  · have := hp l l' h1.1 h2.1 z
    rw [h1.2, h2.2] at this
    exact absurd rfl (this i hi i hi')
  · exact z
  · have := hp l' l h2.1 h1.1 z
    rw [h1.2, h2.2] at this
    exact absurd rfl (this i hi' i hi)
theorem nd_in (hnd : ch.flatten.Nodup) {l : Nat} {c1 c2 : List Nat} {i : Nat} (hc : ch[l]? = some (c1 ++ i :: c2)) : i ∉ c1 ∧ i ∉ c2 := by
  have h1 : (c1 ++ i :: c2).Nodup := (List.pairwise_flatten.mp hnd).1 _ (List.mem_of_getElem? hc)
  have h2 := List.nodup_append.mp h1
  exact ⟨fun z => h2.2.2 i z i List.mem_cons_self rfl, (List.nodup_cons.mp h2.2.1).1⟩
theorem map_Du {D : cD} {i : Nat} {x : xE × Bool × List xE × List Nat} {c : List Nat} (h : i ∉ c) : c.map (pgS (Du D i x)) = c.map (pgS D) := by
  refine List.map_congr_left fun j hj => ?_
  have hne : j ≠ i := fun e => h (by rw [← e]; exact hj)
  unfold pgS
  rw [Du_n hne]
theorem trS_set (hnd : ch.flatten.Nodup) {l : Nat} {c1 c2 : List Nat} {i : Nat} (hc : ch[l]? = some (c1 ++ i :: c2)) (x : xE × Bool × List xE × List Nat) : trS ch (Du D i x) = sSet (trS ch D) l (c1.map (pgS D)) [(sk x.1, x.2.1, x.2.2.1.map sk)] (c2.map (pgS D)) := by
  have hl : (trS ch D)[l]? = some (c1.map (pgS D) ++ pgS D i :: c2.map (pgS D)) := by rw [trS_at hc]; simp
  obtain ⟨n1, n2⟩ := nd_in hnd hc
  refine List.ext_getElem? fun l' => ?_
  by_cases e : l' = l
  · subst e
    rw [ss_at hl, trS_at hc, List.map_append, List.map_cons, map_Du n1, map_Du n2]
    have : pgS (Du D i x) i = (sk x.1, x.2.1, x.2.2.1.map sk) := by unfold pgS; rw [Du_s]
    rw [this]
    rfl
  · rw [ss_ne e]
    cases hc' : ch[l']? with
    | none => simp [trS, hc']
    | some c' =>
      rw [trS_at hc', trS_at hc']
      rw [map_Du (fun z => e (nd_other hnd hc' hc z (List.mem_append_right _ List.mem_cons_self)))]
end CU
/-- an entry comes in where its key stands -/
def insX {α : Type} (k : Nat) (x : α) (l : List α) : List α := l.take k ++ x :: l.drop k
theorem insX_len {α : Type} (k : Nat) (x : α) (l : List α) : (insX k x l).length = l.length + 1 := by
  simp only [insX, List.length_append, List.length_cons, List.length_take, List.length_drop]
  omega
theorem insX_at {α : Type} {k : Nat} {x : α} {l : List α} (hk : k ≤ l.length) (j : Nat) : (insX k x l)[j]? = if j < k then l[j]? else if j = k then some x else l[j - 1]? := by
  unfold insX
  by_cases h1 : j < k
  · rw [if_pos h1, List.getElem?_append_left (by rw [List.length_take]; omega), List.getElem?_take, if_pos h1]
  · rw [if_neg h1, List.getElem?_append_right (by rw [List.length_take]; omega), List.length_take, show min k l.length = k by omega]
    by_cases h2 : j = k
    · rw [if_pos h2, h2, Nat.sub_self]; rfl
    · rw [if_neg h2]
      obtain ⟨m, hm⟩ : ∃ m, j - k = m + 1 := ⟨j - k - 1, by omega⟩
      rw [hm, List.getElem?_cons_succ, List.getElem?_drop]
      congr 1
      omega
theorem insX_sk {v : xE} (hv : okE v) : ∀ {its : List xE}, (∀ x ∈ its, okE x) → (insX (cnt (od v) its) v its).map sk = insK (sk v) (its.map sk) := by
  intro its
  induction its with
  | nil => intro _; rfl
  | cons a t ih =>
    intro h
    have ha := h a List.mem_cons_self
    unfold cnt
    by_cases e : od a < od v
    · rw [if_pos e]
      simp only [insX, List.take_succ_cons, List.drop_succ_cons, List.cons_append, List.map_cons, insK]
      rw [if_pos ((sk_lt ha hv).mpr e)]
      have := ih (fun x hx => h x (List.mem_cons_of_mem _ hx))
      simp only [insX] at this
      rw [← this]
    · rw [if_neg e]
      simp only [insX, List.take_zero, List.drop_zero, List.nil_append, List.map_cons, insK]
      rw [if_neg (fun z => e ((sk_lt ha hv).mp z))]
theorem ins_es {h : xH} {E : Nat → Nat} {its : List xE} {k e : Nat} {v : xE} (hk : k ≤ its.length) (hes : x_es h E its) (he : h.2 e = some (eC v)) : x_es h (ins E k its.length e) (insX k v its) := by
  intro j x hx
  rw [insX_at hk] at hx
  unfold ins
  by_cases h1 : j = k
  · rw [if_pos h1]
    rw [if_neg (by omega), if_pos h1] at hx
    cases hx
    exact he
  · rw [if_neg h1]
    by_cases h2 : j < k
    · rw [if_pos h2] at hx
      rw [if_neg (by omega)]
      exact hes j x hx
    · rw [if_neg h2, if_neg h1] at hx
      have := (List.getElem?_eq_some_iff.mp hx).1
      rw [if_pos (by omega)]
      exact hes (j - 1) x hx
theorem ins_bl {B : Nat → Nat} {bls : List Nat} {n k b0 : Nat} (hn : bls.length = n) (hk : k ≤ n) (hbl : ∀ (j b : Nat), bls[j]? = some b → B j = pa b) : ∀ (j b : Nat), (insX k b0 bls)[j]? = some b → ins B k n (pa b0) j = pa b := by
  intro j b hb
  rw [insX_at (by omega)] at hb
  unfold ins
  by_cases h1 : j = k
  · rw [if_pos h1]
    rw [if_neg (by omega), if_pos h1] at hb
    cases hb
    rfl
  · rw [if_neg h1]
    by_cases h2 : j < k
    · rw [if_pos h2] at hb
      rw [if_neg (by omega)]
      exact hbl j b hb
    · rw [if_neg h2, if_neg h1] at hb
      have := (List.getElem?_eq_some_iff.mp hb).1
      rw [if_pos (by omega)]
      exact hbl (j - 1) b hb
