/-! a page of a level is replaced by others -/
def sSet (S : Tr) (l : Nat) (c1 gs c2 : List Pg) : Tr := S.set l (c1 ++ (gs ++ c2))
section LS
variable {S : Tr} {l : Nat} {c1 c2 gs : List Pg} {g : Pg}
theorem ss_len : (sSet S l c1 gs c2).length = S.length := by simp [sSet]
theorem ss_at (hl : S[l]? = some (c1 ++ g :: c2)) : (sSet S l c1 gs c2)[l]? = some (c1 ++ (gs ++ c2)) := by
  have hlt := (List.getElem?_eq_some_iff.mp hl).1
  simp [sSet, hlt]
theorem ss_ne {l' : Nat} (h : l' ≠ l) : (sSet S l c1 gs c2)[l']? = S[l']? := by
  simp [sSet, List.getElem?_set_ne (Ne.symm h)]
theorem ss_I (hl : S[l]? = some (c1 ++ g :: c2)) (l' x : Nat) : inI (sSet S l c1 gs c2) l' x ↔ (l' ≠ l ∧ inI S l' x) ∨ (l' = l ∧ ((∃ q ∈ c1, x ∈ q.2.2) ∨ (∃ q ∈ gs, x ∈ q.2.2) ∨ ∃ q ∈ c2, x ∈ q.2.2)) := by
  by_cases e : l' = l
  · subst e
    constructor
    · rintro ⟨c, q, hc, hq, hx⟩
      rw [ss_at hl] at hc
      cases hc
      refine Or.inr ⟨rfl, ?_⟩
      rcases List.mem_append.mp hq with z | z
      · exact Or.inl ⟨q, z, hx⟩
      · rcases List.mem_append.mp z with z | z
        · exact Or.inr (Or.inl ⟨q, z, hx⟩)
        · exact Or.inr (Or.inr ⟨q, z, hx⟩)
    · rintro (⟨z, -⟩ | ⟨-, z⟩)
      · exact absurd rfl z
      · rcases z with ⟨q, z, hx⟩ | ⟨q, z, hx⟩ | ⟨q, z, hx⟩
        · exact ⟨_, q, ss_at hl, List.mem_append_left _ z, hx⟩
        · exact ⟨_, q, ss_at hl, List.mem_append_right _ (List.mem_append_left _ z), hx⟩
        · exact ⟨_, q, ss_at hl, List.mem_append_right _ (List.mem_append_right _ z), hx⟩
  · unfold inI
    rw [ss_ne e]
    exact ⟨fun h => Or.inl ⟨e, h⟩, fun h => h.elim (fun z => z.2) (fun z => absurd z.1 e)⟩
theorem ss_L (hl : S[l]? = some (c1 ++ g :: c2)) (l' k : Nat) (o : Bool) : inLw (sSet S l c1 gs c2) l' k o ↔ (l' ≠ l ∧ inLw S l' k o) ∨ (l' = l ∧ ((∃ q ∈ c1, q.1 = k ∧ q.2.1 = o) ∨ (∃ q ∈ gs, q.1 = k ∧ q.2.1 = o) ∨ ∃ q ∈ c2, q.1 = k ∧ q.2.1 = o)) := by
  by_cases e : l' = l
  · subst e
    constructor
    · rintro ⟨c, q, hc, hq, hx⟩
      rw [ss_at hl] at hc
      cases hc
      refine Or.inr ⟨rfl, ?_⟩
      rcases List.mem_append.mp hq with z | z
      · exact Or.inl ⟨q, z, hx⟩
      · rcases List.mem_append.mp z with z | z
        · exact Or.inr (Or.inl ⟨q, z, hx⟩)
        · exact Or.inr (Or.inr ⟨q, z, hx⟩)
    · rintro (⟨z, -⟩ | ⟨-, z⟩)
      · exact absurd rfl z
      · rcases z with ⟨q, z, hx⟩ | ⟨q, z, hx⟩ | ⟨q, z, hx⟩
        · exact ⟨_, q, ss_at hl, List.mem_append_left _ z, hx⟩
        · exact ⟨_, q, ss_at hl, List.mem_append_right _ (List.mem_append_left _ z), hx⟩
        · exact ⟨_, q, ss_at hl, List.mem_append_right _ (List.mem_append_right _ z), hx⟩
  · unfold inLw
    rw [ss_ne e]
    exact ⟨fun h => Or.inl ⟨e, h⟩, fun h => h.elim (fun z => z.2) (fun z => absurd z.1 e)⟩
theorem at_I (hl : S[l]? = some (c1 ++ g :: c2)) (x : Nat) : inI S l x ↔ (∃ q ∈ c1, x ∈ q.2.2) ∨ x ∈ g.2.2 ∨ ∃ q ∈ c2, x ∈ q.2.2 := by
  constructor
  · rintro ⟨c, q, hc, hq, hx⟩
    rw [hl] at hc
    cases hc
    rcases List.mem_append.mp hq with z | z
    · exact Or.inl ⟨q, z, hx⟩
    · rcases List.mem_cons.mp z with rfl | z
      · exact Or.inr (Or.inl hx)
      · exact Or.inr (Or.inr ⟨q, z, hx⟩)
  · rintro (⟨q, z, hx⟩ | hx | ⟨q, z, hx⟩)
    · exact ⟨_, q, hl, List.mem_append_left _ z, hx⟩
    · exact ⟨_, g, hl, List.mem_append_right _ List.mem_cons_self, hx⟩
    · exact ⟨_, q, hl, List.mem_append_right _ (List.mem_cons_of_mem _ z), hx⟩
theorem at_L (hl : S[l]? = some (c1 ++ g :: c2)) (k : Nat) (o : Bool) : inLw S l k o ↔ (∃ q ∈ c1, q.1 = k ∧ q.2.1 = o) ∨ (g.1 = k ∧ g.2.1 = o) ∨ ∃ q ∈ c2, q.1 = k ∧ q.2.1 = o := by
  constructor
  · rintro ⟨c, q, hc, hq, hx⟩
    rw [hl] at hc
    cases hc
    rcases List.mem_append.mp hq with z | z
    · exact Or.inl ⟨q, z, hx⟩
    · rcases List.mem_cons.mp z with rfl | z
      · exact Or.inr (Or.inl hx)
      · exact Or.inr (Or.inr ⟨q, z, hx⟩)
  · rintro (⟨q, z, hx⟩ | hx | ⟨q, z, hx⟩)
    · exact ⟨_, q, hl, List.mem_append_left _ z, hx⟩
    · exact ⟨_, g, hl, List.mem_append_right _ List.mem_cons_self, hx⟩
    · exact ⟨_, q, hl, List.mem_append_right _ (List.mem_cons_of_mem _ z), hx⟩
/-- the items stay -/
theorem ss_Isame (hl : S[l]? = some (c1 ++ g :: c2)) (h : ∀ x, (∃ q ∈ gs, x ∈ q.2.2) ↔ x ∈ g.2.2) (l' x : Nat) : inI (sSet S l c1 gs c2) l' x ↔ inI S l' x := by
  rw [ss_I hl]
  by_cases e : l' = l
  · subst e
    rw [at_I hl, h x]
    exact ⟨fun z => z.elim (fun z => absurd rfl z.1) (fun z => z.2), fun z => Or.inr ⟨rfl, z⟩⟩
  · exact ⟨fun z => z.elim (fun z => z.2) (fun z => absurd z.1 e), fun z => Or.inl ⟨e, z⟩⟩
theorem ss_Iadd (hl : S[l]? = some (c1 ++ g :: c2)) {v : Nat} (h : ∀ x, (∃ q ∈ gs, x ∈ q.2.2) ↔ x ∈ g.2.2 ∨ x = v) (l' x : Nat) : inI (sSet S l c1 gs c2) l' x ↔ inI S l' x ∨ (l' = l ∧ x = v) := by
  rw [ss_I hl]
  by_cases e : l' = l
  · subst e
    rw [at_I hl, h x]
    constructor
    · rintro (z | ⟨-, z | (z | z) | z⟩)
      · exact absurd rfl z.1
      · exact Or.inl (Or.inl z)
      · exact Or.inl (Or.inr (Or.inl z))
      · exact Or.inr ⟨rfl, z⟩
      · exact Or.inl (Or.inr (Or.inr z))
    · rintro ((z | z | z) | ⟨-, z⟩)
      · exact Or.inr ⟨rfl, Or.inl z⟩
      · exact Or.inr ⟨rfl, Or.inr (Or.inl (Or.inl z))⟩
      · exact Or.inr ⟨rfl, Or.inr (Or.inr z)⟩
      · exact Or.inr ⟨rfl, Or.inr (Or.inl (Or.inr z))⟩
  · constructor
    · rintro (z | z)
      · exact Or.inl z.2
      · exact absurd z.1 e
    · rintro (z | z)
      · exact Or.inl ⟨e, z⟩
      · exact absurd z.1 e
theorem ss_Idel (hl : S[l]? = some (c1 ++ g :: c2)) {v : Nat} (h : ∀ x, (∃ q ∈ gs, x ∈ q.2.2) ↔ x ∈ g.2.2 ∧ x ≠ v) (h1 : ∀ q ∈ c1, v ∉ q.2.2) (h2 : ∀ q ∈ c2, v ∉ q.2.2) (l' x : Nat) : inI (sSet S l c1 gs c2) l' x ↔ inI S l' x ∧ ¬ (l' = l ∧ x = v) := by
  rw [ss_I hl]
  by_cases e : l' = l
  · subst e
    rw [at_I hl, h x]
    constructor
    · rintro (z | ⟨-, ⟨q, z, hx⟩ | z | ⟨q, z, hx⟩⟩)
      · exact absurd rfl z.1
      · exact ⟨Or.inl ⟨q, z, hx⟩, fun y => h1 q z (y.2 ▸ hx)⟩
      · exact ⟨Or.inr (Or.inl z.1), fun y => z.2 y.2⟩
      · exact ⟨Or.inr (Or.inr ⟨q, z, hx⟩), fun y => h2 q z (y.2 ▸ hx)⟩
    · rintro ⟨z | z | z, y⟩
      · exact Or.inr ⟨rfl, Or.inl z⟩
      · exact Or.inr ⟨rfl, Or.inr (Or.inl ⟨z, fun w => y ⟨rfl, w⟩⟩)⟩
      · exact Or.inr ⟨rfl, Or.inr (Or.inr z)⟩
  · constructor
    · rintro (z | z)
      · exact ⟨z.2, fun y => e y.1⟩
      · exact absurd z.1 e
    · rintro ⟨z, -⟩
      exact Or.inl ⟨e, z⟩
theorem ss_nPg (hl : S[l]? = some (c1 ++ g :: c2)) : nPg (sSet S l c1 gs c2) + 1 = nPg S + gs.length := by
  obtain ⟨S1, S2, e, hlen⟩ := lv_split hl
  have e2 : sSet S l c1 gs c2 = S1 ++ (c1 ++ (gs ++ c2)) :: S2 := by
    unfold sSet
    rw [e, ← hlen]
    simp
  unfold nPg
  rw [e2, e, sum_app, sum_app]
  simp only [List.length_append, List.length_cons]
  omega
theorem ss_nIt (hl : S[l]? = some (c1 ++ g :: c2)) : nIt (sSet S l c1 gs c2) + g.2.2.length = nIt S + nC gs := by
  obtain ⟨S1, S2, e, hlen⟩ := lv_split hl
  have e2 : sSet S l c1 gs c2 = S1 ++ (c1 ++ (gs ++ c2)) :: S2 := by
    unfold sSet
    rw [e, ← hlen]
    simp
  unfold nIt
  rw [e2, e, sum_app, sum_app, nC_app, nC_app, nC_app]
  have : nC (g :: c2) = g.2.2.length + nC c2 := rfl
  rw [this]
  omega
/-- a level stays one when a page is replaced by pages that keep to its place -/
theorem lvK_rep (h : lvK (c1 ++ g :: c2)) (h0 : ∃ a t, gs = a :: t ∧ a.1 = g.1) (hw : gs.Pairwise (fun p q => p.1 < q.1 ∧ ∀ x ∈ p.2.2, x < q.1)) (hk : ∀ p ∈ gs, p.2.2.Pairwise (· < ·) ∧ (∀ x ∈ p.2.2, p.1 ≤ x) ∧ p.2.2.length ≤ 10) (hlo : ∀ p ∈ gs, g.1 ≤ p.1) (hhi : ∀ p ∈ gs, ∀ q ∈ c2, p.1 < q.1 ∧ ∀ x ∈ p.2.2, x < q.1) : lvK (c1 ++ (gs ++ c2)) := by
  obtain ⟨⟨p, t, e, hp⟩, h1, h2⟩ := h
  have w := List.pairwise_append.mp h1
  have w2 := List.pairwise_cons.mp w.2.1
  refine ⟨?_, ?_, fun q hq => ?_⟩
  · cases c1 with
    | nil =>
      obtain ⟨a, t', e', ha⟩ := h0
      simp only [List.nil_append] at e
      cases e
      exact ⟨a, t' ++ c2, by rw [e']; rfl, by rw [ha, hp]⟩
    | cons b c1 =>
      simp only [List.cons_append] at e
      have e1 : b = p := (List.cons.inj e).1
      exact ⟨b, c1 ++ (gs ++ c2), rfl, by rw [e1]; exact hp⟩
  · rw [List.pairwise_append, List.pairwise_append]
    refine ⟨w.1, ⟨hw, w2.2, fun p hp q hq => hhi p hp q hq⟩, fun p hp q hq => ?_⟩
    have hg := w.2.2 p hp g List.mem_cons_self
    rcases List.mem_append.mp hq with z | z
    · have := hlo q z
      exact ⟨by omega, fun x hx => by have := hg.2 x hx; omega⟩
    · exact w.2.2 p hp q (List.mem_cons_of_mem _ z)
  · rcases List.mem_append.mp hq with z | z
    · exact h2 q (List.mem_append_left _ z)
    · rcases List.mem_append.mp z with z | z
      · exact hk q z
      · exact h2 q (List.mem_append_right _ (List.mem_cons_of_mem _ z))
end LS
/-- a key comes into a rising list -/
def insK (v : Nat) : List Nat → List Nat
  | [] => [v]
  | x :: t => if x < v then x :: insK v t else v :: x :: t
theorem insK_mem (v x : Nat) : ∀ l : List Nat, x ∈ insK v l ↔ x ∈ l ∨ x = v := by
  intro l
  induction l with
  | nil => simp [insK]
  | cons a t ih =>
    unfold insK
    split
    · rw [List.mem_cons, List.mem_cons, ih, or_assoc]
    · rw [List.mem_cons, or_comm]
theorem insK_len (v : Nat) : ∀ l : List Nat, (insK v l).length = l.length + 1 := by
  intro l
  induction l with
  | nil => rfl
  | cons a t ih =>
    unfold insK
    split
    · simp [ih]
    · simp
theorem insK_sort {v : Nat} : ∀ {l : List Nat}, l.Pairwise (· < ·) → v ∉ l → (insK v l).Pairwise (· < ·) := by
  intro l
  induction l with
  | nil => intro _ _; simp [insK]
  | cons a t ih =>
    intro h hv
    have h' := List.pairwise_cons.mp h
    unfold insK
    split
    · rename_i hlt
      rw [List.pairwise_cons]
      refine ⟨fun y hy => ?_, ih h'.2 (fun q => hv (List.mem_cons_of_mem _ q))⟩
      rcases (insK_mem v y t).mp hy with z | z
      · exact h'.1 y z
      · omega
    · rename_i hlt
      have hne : v ≠ a := fun q => hv (q ▸ List.mem_cons_self)
      rw [List.pairwise_cons]
      refine ⟨fun y hy => ?_, h⟩
      rcases List.mem_cons.mp hy with rfl | z
      · omega
      · have := h'.1 y z
        omega
theorem insK_head {v x : Nat} {l : List Nat} (h : l.head? = some x) (hv : x < v) : (insK v l).head? = some x := by
  cases l with
  | nil => cases h
  | cons a t =>
    have : a = x := Option.some.inj h
    subst this
    unfold insK
    rw [if_pos hv]
    rfl
