/-! the tree's operations: split, enter, remove; what they keep -/
/-- the two halves of a full page -/
def gL (g : Pg) (o : Bool) : Pg := (g.1, o, g.2.2.take 5)
def gR (g : Pg) : Pg := (g.2.2.getD 5 0, false, g.2.2.drop 5)
section SO
variable {S : Tr} {l : Nat} {c1 c2 : List Pg} {g : Pg}
theorem full5 {g : Pg} (h : g.2.2.length = 10) : ∃ x, g.2.2[5]? = some x ∧ g.2.2.getD 5 0 = x ∧ g.2.2 = g.2.2.take 5 ++ x :: g.2.2.drop 6 ∧ g.2.2.drop 5 = x :: g.2.2.drop 6 := by
  have hlt : 5 < g.2.2.length := by omega
  refine ⟨g.2.2[5], List.getElem?_eq_getElem hlt, by simp [List.getD_eq_getElem?_getD, hlt], ?_, ?_⟩
  · rw [List.getElem_cons_drop, List.take_append_drop]
  · rw [List.getElem_cons_drop]
theorem mem_halves (o : Bool) (g : Pg) (x : Nat) : (∃ q ∈ [gL g o, gR g], x ∈ q.2.2) ↔ x ∈ g.2.2 := by
  constructor
  · rintro ⟨q, hq, hx⟩
    rcases List.mem_cons.mp hq with rfl | hq
    · exact List.mem_of_mem_take hx
    · rw [List.mem_singleton.mp hq] at hx
      exact List.mem_of_mem_drop hx
  · intro hx
    rw [← List.take_append_drop 5 g.2.2] at hx
    rcases List.mem_append.mp hx with z | z
    · exact ⟨_, List.mem_cons_self, z⟩
    · exact ⟨_, List.mem_cons_of_mem _ List.mem_cons_self, z⟩
theorem lvK_split (o : Bool) (h : lvK (c1 ++ g :: c2)) (hg : g.2.2.length = 10) : lvK (c1 ++ ([gL g o, gR g] ++ c2)) ∧ g.1 < g.2.2.getD 5 0 := by
  have hk := h.2.2 g (List.mem_append_right _ List.mem_cons_self)
  have hw := List.pairwise_cons.mp (List.pairwise_append.mp h.2.1).2.1
  obtain ⟨x, hx1, hx2, hx3, hx4⟩ := full5 hg
  have hs := hk.1
  rw [hx3] at hs
  have hs2 := List.pairwise_append.mp hs
  have hxm : x ∈ g.2.2 := List.mem_of_getElem? hx1
  have hlt : g.1 < x := by
    have h5 : 0 < (g.2.2.take 5).length := by rw [List.length_take]; omega
    have hm := List.getElem_mem h5
    have a := hs2.2.2 _ hm x List.mem_cons_self
    have b := hk.2.1 _ (List.mem_of_mem_take hm)
    omega
  refine ⟨lvK_rep h ⟨gL g o, [gR g], rfl, rfl⟩ ?_ ?_ ?_ ?_, by rw [hx2]; exact hlt⟩
  · rw [List.pairwise_cons]
    refine ⟨fun q hq => ?_, List.pairwise_singleton _ _⟩
    rw [List.mem_singleton.mp hq]
    exact ⟨by show g.1 < g.2.2.getD 5 0; rw [hx2]; exact hlt, fun y hy => by show y < g.2.2.getD 5 0; rw [hx2]; exact hs2.2.2 y hy x List.mem_cons_self⟩
  · intro p hp
    rcases List.mem_cons.mp hp with rfl | hp
    · exact ⟨hs2.1, fun y hy => hk.2.1 y (List.mem_of_mem_take hy), by show (g.2.2.take 5).length ≤ 10; rw [List.length_take]; omega⟩
    · rw [List.mem_singleton.mp hp]
      refine ⟨by show (g.2.2.drop 5).Pairwise _; rw [hx4]; exact hs2.2.1, fun y hy => ?_, by show (g.2.2.drop 5).length ≤ 10; rw [List.length_drop]; omega⟩
      show g.2.2.getD 5 0 ≤ y
      have hy : y ∈ g.2.2.drop 5 := hy
      rw [hx2]
      rw [hx4] at hy
      rcases List.mem_cons.mp hy with z | z
      · omega
      · have := (List.pairwise_cons.mp hs2.2.1).1 y z
        omega
  · intro p hp
    rcases List.mem_cons.mp hp with rfl | hp
    · exact Nat.le_refl _
    · rw [List.mem_singleton.mp hp]
      show g.1 ≤ g.2.2.getD 5 0
      omega
  · intro p hp q hq
    have hq' := hw.1 q hq
    rcases List.mem_cons.mp hp with rfl | hp
    · exact ⟨hq'.1, fun y hy => hq'.2 y (List.mem_of_mem_take hy)⟩
    · rw [List.mem_singleton.mp hp]
      exact ⟨by show g.2.2.getD 5 0 < q.1; rw [hx2]; exact hq'.2 x hxm, fun y hy => hq'.2 y (List.mem_of_mem_drop hy)⟩
/-- changing a page of one level keeps the invariant -/
theorem trK_set {gs : List Pg} (h : trK S) (hl : S[l]? = some (c1 ++ g :: c2)) (hk : lvK (c1 ++ (gs ++ c2))) (htop : l + 1 = S.length → ∃ a, gs = [a] ∧ a.2.1 = false) (hlen : 1 ≤ gs.length) (hhd : 0 < l → ∀ a ∈ gs, a.2.2.head? = some a.1) (hlow : ∀ x, (∃ q ∈ c1 ++ g :: c2, q.1 = x) → ∃ q ∈ c1 ++ (gs ++ c2), q.1 = x) (hit : ∀ x, (∃ a ∈ gs, x ∈ a.2.2) → x ∈ g.2.2 ∨ ((0 < l → ∃ c q, S[l - 1]? = some c ∧ q ∈ c ∧ q.1 = x) ∧ 0 < x)) : trK (sSet S l c1 gs c2) := by
  obtain ⟨t1, ⟨n, g0, t2, t3, t30⟩, t4, t5, t6, t7⟩ := h
  have hlt := (List.getElem?_eq_some_iff.mp hl).1
  have items : ∀ l' x, inI (sSet S l c1 gs c2) l' x → inI S l' x ∨ (l' = l ∧ (0 < l → ∃ c q, S[l - 1]? = some c ∧ q ∈ c ∧ q.1 = x) ∧ 0 < x) := by
    intro l' x hx
    rcases (ss_I hl l' x).mp hx with ⟨-, z⟩ | ⟨rfl, z | z | z⟩
    · exact Or.inl z
    · exact Or.inl ((at_I hl x).mpr (Or.inl z))
    · rcases hit x z with y | y
      · exact Or.inl ((at_I hl x).mpr (Or.inr (Or.inl y)))
      · exact Or.inr ⟨rfl, y⟩
    · exact Or.inl ((at_I hl x).mpr (Or.inr (Or.inr z)))
  refine ⟨fun l' c hc => ?_, ?_, fun l' c hc hlt' => ?_, fun l' c q hc hq => ?_, fun l' x hx => ?_, fun x hx => ?_⟩
  · by_cases e : l' = l
    · subst e
      rw [ss_at hl] at hc
      cases hc
      exact hk
    · rw [ss_ne e] at hc
      exact t1 l' c hc
  · by_cases e : n = l
    · subst e
      obtain ⟨a, ha, ha0⟩ := htop t2.symm
      rw [hl] at t3
      have e3 : c1 ++ g :: c2 = [g0] := Option.some.inj t3
      have hc1 : c1 = [] := by
        cases c1 with
        | nil => rfl
        | cons b c1 => simp at e3
      subst hc1
      have hc2 : c2 = [] := by simp at e3; exact e3.2
      subst hc2
      exact ⟨n, a, by rw [ss_len]; exact t2, by rw [ss_at hl, ha]; rfl, ha0⟩
    · exact ⟨n, g0, by rw [ss_len]; exact t2, by rw [ss_ne e]; exact t3, t30⟩
  · rw [ss_len] at hlt'
    by_cases e : l' = l
    · subst e
      rw [ss_at hl] at hc
      cases hc
      have := t4 l' _ hl hlt'
      simp only [List.length_append, List.length_cons] at this ⊢
      omega
    · rw [ss_ne e] at hc
      exact t4 l' c hc hlt'
  · by_cases e : l' + 1 = l
    · subst e
      rw [ss_at hl] at hc
      cases hc
      rcases List.mem_append.mp hq with z | z
      · exact t5 l' _ q hl (List.mem_append_left _ z)
      · rcases List.mem_append.mp z with z | z
        · exact hhd (by omega) q z
        · exact t5 l' _ q hl (List.mem_append_right _ (List.mem_cons_of_mem _ z))
    · rw [ss_ne e] at hc
      exact t5 l' c q hc hq
  · have low : ∀ c q, S[l']? = some c → q ∈ c → q.1 = x → ∃ c q, (sSet S l c1 gs c2)[l']? = some c ∧ q ∈ c ∧ q.1 = x := by
      intro c q hc hq e1
      by_cases e : l' = l
      · subst e
        rw [hl] at hc
        cases hc
        obtain ⟨q', hq', e2⟩ := hlow x ⟨q, hq, e1⟩
        exact ⟨_, q', ss_at hl, hq', e2⟩
      · exact ⟨c, q, by rw [ss_ne e]; exact hc, hq, e1⟩
    rcases items (l' + 1) x hx with z | ⟨e, z, -⟩
    · obtain ⟨c, q, hc, hq, e1⟩ := t6 l' x z
      exact low c q hc hq e1
    · obtain ⟨c, q, hc, hq, e1⟩ := z (by omega)
      have : l - 1 = l' := by omega
      rw [this] at hc
      exact low c q hc hq e1
  · rcases items 0 x hx with z | ⟨-, -, z⟩
    · exact t7 x z
    · exact z
theorem head_take {l : List Nat} {x : Nat} (h : l.head? = some x) : (l.take 5).head? = some x := by
  cases l with
  | nil => cases h
  | cons a t => exact h
theorem trK_split (o : Bool) (h : trK S) (hl : S[l]? = some (c1 ++ g :: c2)) (hg : g.2.2.length = 10) (hnt : l + 1 < S.length) : trK (sSet S l c1 [gL g o, gR g] c2) := by
  obtain ⟨x, hx1, hx2, hx3, hx4⟩ := full5 hg
  refine trK_set h hl (lvK_split o (h.1 l _ hl) hg).1 (fun e => by omega) (by simp) (fun h0 a ha => ?_) (fun y hy => ?_) (fun y hy => Or.inl ((mem_halves o g y).mp hy))
  · obtain ⟨l', rfl⟩ : ∃ l', l = l' + 1 := ⟨l - 1, by omega⟩
    have hh := h.2.2.2.1 l' _ g hl (List.mem_append_right _ List.mem_cons_self)
    rcases List.mem_cons.mp ha with rfl | ha
    · exact head_take hh
    · rw [List.mem_singleton.mp ha]
      show (g.2.2.drop 5).head? = some (g.2.2.getD 5 0)
      rw [hx4, hx2]
      rfl
  · obtain ⟨q, hq, e⟩ := hy
    rcases List.mem_append.mp hq with z | z
    · exact ⟨q, List.mem_append_left _ z, e⟩
    · rcases List.mem_cons.mp z with rfl | z
      · exact ⟨gL q o, List.mem_append_right _ List.mem_cons_self, e⟩
      · exact ⟨q, List.mem_append_right _ (List.mem_append_right _ z), e⟩
/-- only the owing changes -/
theorem trK_ow (o : Bool) (h : trK S) (hl : S[l]? = some (c1 ++ g :: c2)) (ho : l + 1 = S.length → o = false) : trK (sSet S l c1 [(g.1, o, g.2.2)] c2) := by
  have hk := h.1 l _ hl
  have hw := List.pairwise_cons.mp (List.pairwise_append.mp hk.2.1).2.1
  refine trK_set h hl (lvK_rep hk ⟨_, [], rfl, rfl⟩ (List.pairwise_singleton _ _) (fun p hp => ?_) (fun p hp => ?_) (fun p hp q hq => ?_)) (fun e => ⟨_, rfl, ho e⟩) (by simp) (fun h0 a ha => ?_) (fun y hy => ?_) (fun y hy => ?_)
  · rw [List.mem_singleton.mp hp]; exact hk.2.2 g (List.mem_append_right _ List.mem_cons_self)
  · rw [List.mem_singleton.mp hp]; exact Nat.le_refl _
  · rw [List.mem_singleton.mp hp]; exact hw.1 q hq
  · rw [List.mem_singleton.mp ha]
    obtain ⟨l', rfl⟩ : ∃ l', l = l' + 1 := ⟨l - 1, by omega⟩
    exact h.2.2.2.1 l' _ g hl (List.mem_append_right _ List.mem_cons_self)
  · obtain ⟨q, hq, e⟩ := hy
    rcases List.mem_append.mp hq with z | z
    · exact ⟨q, List.mem_append_left _ z, e⟩
    · rcases List.mem_cons.mp z with rfl | z
      · exact ⟨(q.1, o, q.2.2), List.mem_append_right _ List.mem_cons_self, e⟩
      · exact ⟨q, List.mem_append_right _ (List.mem_append_right _ z), e⟩
  · obtain ⟨q, hq, hx⟩ := hy
    rw [List.mem_singleton.mp hq] at hx
    exact Or.inl hx
/-- a key comes into the page in charge -/
theorem trK_enter {v : Nat} (h : trK S) (hl : S[l]? = some (c1 ++ g :: c2)) (hC : InC (c1 ++ g :: c2) v c1 g c2) (hg : g.2.2.length < 10) (hv : v ∉ g.2.2) (hm : 0 < l → ∃ c q, S[l - 1]? = some c ∧ q ∈ c ∧ q.1 = v) (h0 : 0 < v) : trK (sSet S l c1 [(g.1, false, insK v g.2.2)] c2) := by
  have hk := h.1 l _ hl
  have hkg := hk.2.2 g (List.mem_append_right _ List.mem_cons_self)
  have hw := List.pairwise_cons.mp (List.pairwise_append.mp hk.2.1).2.1
  refine trK_set h hl (lvK_rep hk ⟨_, [], rfl, rfl⟩ (List.pairwise_singleton _ _) (fun p hp => ?_) (fun p hp => ?_) (fun p hp q hq => ?_)) (fun _ => ⟨_, rfl, rfl⟩) (by simp) (fun hl0 a ha => ?_) (fun y hy => ?_) (fun y hy => ?_)
  · rw [List.mem_singleton.mp hp]
    refine ⟨insK_sort hkg.1 hv, fun x hx => ?_, by show (insK v g.2.2).length ≤ 10; rw [insK_len]; omega⟩
    rcases (insK_mem v x _).mp hx with z | z
    · exact hkg.2.1 x z
    · rw [z]; exact hC.2.1
  · rw [List.mem_singleton.mp hp]; exact Nat.le_refl _
  · rw [List.mem_singleton.mp hp]
    refine ⟨(hw.1 q hq).1, fun x hx => ?_⟩
    rcases (insK_mem v x _).mp hx with z | z
    · exact (hw.1 q hq).2 x z
    · rw [z]; exact hC.2.2.2 q hq
  · rw [List.mem_singleton.mp ha]
    obtain ⟨l', rfl⟩ : ∃ l', l = l' + 1 := ⟨l - 1, by omega⟩
    have hh := h.2.2.2.1 l' _ g hl (List.mem_append_right _ List.mem_cons_self)
    refine insK_head hh ?_
    have h1 := hC.2.1
    have h2 : v ≠ g.1 := fun e => hv (by rw [e]; exact List.mem_of_mem_head? (by rw [hh]; exact rfl))
    omega
  · obtain ⟨q, hq, e⟩ := hy
    rcases List.mem_append.mp hq with z | z
    · exact ⟨q, List.mem_append_left _ z, e⟩
    · rcases List.mem_cons.mp z with rfl | z
      · exact ⟨(q.1, false, insK v q.2.2), List.mem_append_right _ List.mem_cons_self, e⟩
      · exact ⟨q, List.mem_append_right _ (List.mem_append_right _ z), e⟩
  · obtain ⟨q, hq, hx⟩ := hy
    rw [List.mem_singleton.mp hq] at hx
    rcases (insK_mem v y _).mp hx with z | z
    · exact Or.inl z
    · rw [z]; exact Or.inr ⟨hm, h0⟩
/-- an item of level 0 goes -/
theorem trK_del {v : Nat} (h : trK S) (hl : S[0]? = some (c1 ++ g :: c2)) : trK (sSet S 0 c1 [(g.1, false, g.2.2.filter (fun x => decide (x ≠ v)))] c2) := by
  have hk := h.1 0 _ hl
  have hkg := hk.2.2 g (List.mem_append_right _ List.mem_cons_self)
  have hw := List.pairwise_cons.mp (List.pairwise_append.mp hk.2.1).2.1
  refine trK_set h hl (lvK_rep hk ⟨_, [], rfl, rfl⟩ (List.pairwise_singleton _ _) (fun p hp => ?_) (fun p hp => ?_) (fun p hp q hq => ?_)) (fun _ => ⟨_, rfl, rfl⟩) (by simp) (fun hl0 a ha => absurd hl0 (by omega)) (fun y hy => ?_) (fun y hy => ?_)
  · rw [List.mem_singleton.mp hp]
    refine ⟨List.Pairwise.filter _ hkg.1, fun x hx => hkg.2.1 x (List.mem_filter.mp hx).1, ?_⟩
    show (g.2.2.filter _).length ≤ 10
    have := List.length_filter_le (fun x => decide (x ≠ v)) g.2.2
    omega
  · rw [List.mem_singleton.mp hp]; exact Nat.le_refl _
  · rw [List.mem_singleton.mp hp]
    exact ⟨(hw.1 q hq).1, fun x hx => (hw.1 q hq).2 x (List.mem_filter.mp hx).1⟩
  · obtain ⟨q, hq, e⟩ := hy
    rcases List.mem_append.mp hq with z | z
    · exact ⟨q, List.mem_append_left _ z, e⟩
    · rcases List.mem_cons.mp z with rfl | z
      · exact ⟨(q.1, false, q.2.2.filter (fun x => decide (x ≠ v))), List.mem_append_right _ List.mem_cons_self, e⟩
      · exact ⟨q, List.mem_append_right _ (List.mem_append_right _ z), e⟩
  · obtain ⟨q, hq, hx⟩ := hy
    rw [List.mem_singleton.mp hq] at hx
    exact Or.inl (List.mem_filter.mp hx).1
end SO
