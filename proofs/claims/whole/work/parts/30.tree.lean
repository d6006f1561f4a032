/-! the tree as lists: levels of pages (low, owing, items), keys are numbers, 0 the lowest -/
abbrev Pg : Type := Nat × Bool × List Nat
abbrev Tr : Type := List (List Pg)
def lvK (c : List Pg) : Prop := (∃ p t, c = p :: t ∧ p.1 = 0) ∧ c.Pairwise (fun p q => p.1 < q.1 ∧ ∀ x ∈ p.2.2, x < q.1) ∧ ∀ p ∈ c, p.2.2.Pairwise (· < ·) ∧ (∀ x ∈ p.2.2, p.1 ≤ x) ∧ p.2.2.length ≤ 10
def zp (v : Nat) : List Pg → List Pg × Pg × List Pg
  | [] => ([], (0, false, []), [])
  | [p] => ([], p, [])
  | p :: q :: t => if v < q.1 then ([], p, q :: t) else (p :: (zp v (q :: t)).1, (zp v (q :: t)).2)
def InC (c : List Pg) (v : Nat) (c1 : List Pg) (p : Pg) (c2 : List Pg) : Prop := c = c1 ++ p :: c2 ∧ p.1 ≤ v ∧ (∀ q ∈ c1, q.1 < p.1) ∧ ∀ q ∈ c2, v < q.1
theorem zp_eq {v : Nat} {p : Pg} {c2 : List Pg} (hp : p.1 ≤ v) (h2 : ∀ q ∈ c2, v < q.1) : ∀ c1 : List Pg, (∀ q ∈ c1, q.1 ≤ v) → zp v (c1 ++ p :: c2) = (c1, p, c2) := by
  intro c1
  induction c1 with
  | nil =>
    intro _
    match c2, h2 with
    | [], _ => rfl
    | q :: t, h2 => simp only [List.nil_append, zp]; rw [if_pos (h2 q List.mem_cons_self)]
  | cons a t ih =>
    intro h1
    have ih' := ih (fun q hq => h1 q (List.mem_cons_of_mem _ hq))
    match t, ih', h1 with
    | [], ih', _ =>
      simp only [List.cons_append, List.nil_append, zp] at ih' ⊢
      rw [if_neg (by omega), ih']
    | b :: t, ih', h1 =>
      have hb := h1 b (List.mem_cons_of_mem _ List.mem_cons_self)
      simp only [List.cons_append, zp] at ih' ⊢
      rw [if_neg (by omega), ih']
theorem InC.zp {c c1 c2 : List Pg} {v : Nat} {p : Pg} (h : InC c v c1 p c2) : zp v c = (c1, p, c2) := by
  obtain ⟨rfl, h1, h2, h3⟩ := h
  exact zp_eq h1 h3 c1 (fun q hq => by have := h2 q hq; omega)
theorem inC_ex {v : Nat} : ∀ {c : List Pg}, (∃ p t, c = p :: t ∧ p.1 ≤ v) → c.Pairwise (fun p q => p.1 < q.1 ∧ ∀ x ∈ p.2.2, x < q.1) → ∃ c1 p c2, InC c v c1 p c2 := by
  intro c
  induction c with
  | nil => rintro ⟨p, t, h, -⟩; cases h
  | cons a t ih =>
    rintro ⟨p, t', h, hp⟩ hw
    cases h
    match t, ih, hw with
    | [], _, _ => exact ⟨[], a, [], rfl, hp, (fun q h => by cases h), (fun q h => by cases h)⟩
    | b :: t, ih, hw =>
      have hw' := List.pairwise_cons.mp hw
      by_cases hb : b.1 ≤ v
      · obtain ⟨c1, p, c2, e, i1, i2, i3⟩ := ih ⟨b, t, rfl, hb⟩ hw'.2
        refine ⟨a :: c1, p, c2, by rw [List.cons_append, ← e], i1, fun q hq => ?_, i3⟩
        rcases List.mem_cons.mp hq with rfl | hq
        · exact (hw'.1 p (by rw [e]; exact List.mem_append_right _ List.mem_cons_self)).1
        · exact i2 q hq
      · refine ⟨[], a, b :: t, rfl, hp, fun q h => (by cases h), fun q hq => ?_⟩
        rcases List.mem_cons.mp hq with rfl | hq
        · omega
        · have := ((List.pairwise_cons.mp hw'.2).1 q hq).1
          omega
theorem lvK.ex {c : List Pg} (h : lvK c) (v : Nat) : ∃ c1 p c2, InC c v c1 p c2 := by
  obtain ⟨⟨p, t, e, hp⟩, hw, -⟩ := h
  exact inC_ex ⟨p, t, e, by omega⟩ hw
/-- the page in charge of one of its own items is itself -/
theorem inC_own {c c1 c2 : List Pg} {p : Pg} {x : Nat} (h : lvK c) (e : c = c1 ++ p :: c2) (hx : x ∈ p.2.2) : InC c x c1 p c2 := by
  obtain ⟨-, hw, hk⟩ := h
  refine ⟨e, (hk p (by rw [e]; exact List.mem_append_right _ List.mem_cons_self)).2.1 x hx, fun q hq => ?_, fun q hq => ?_⟩
  · rw [e] at hw
    exact ((List.pairwise_append.mp hw).2.2 q hq p List.mem_cons_self).1
  · rw [e] at hw
    have h2 := (List.pairwise_append.mp hw).2.1
    exact ((List.pairwise_cons.mp h2).1 q hq).2 x hx
theorem InC.un {c c1 c2 d1 d2 : List Pg} {p q : Pg} {v : Nat} (h : InC c v c1 p c2) (h' : InC c v d1 q d2) : c1 = d1 ∧ p = q ∧ c2 = d2 := by
  have e := h.zp.symm.trans h'.zp
  exact ⟨congrArg (fun z => z.1) e, congrArg (fun z => z.2.1) e, congrArg (fun z => z.2.2) e⟩
/-- a page's low is its own -/
theorem lvK.low {c : List Pg} (h : lvK c) {p q : Pg} (hp : p ∈ c) (hq : q ∈ c) (e : p.1 = q.1) : p = q := by
  obtain ⟨c1, c2, e1⟩ := List.append_of_mem hp
  have hw := h.2.1
  rw [e1] at hw hq
  have hw2 := List.pairwise_append.mp hw
  rcases List.mem_append.mp hq with hq | hq
  · have := (hw2.2.2 q hq p List.mem_cons_self).1
    omega
  · rcases List.mem_cons.mp hq with rfl | hq
    · rfl
    · have := ((List.pairwise_cons.mp hw2.2.1).1 q hq).1
      omega
theorem cT_filter (P : Nat → Bool) (n : Nat) : cT P n = ((List.range n).filter P).length := by
  induction n with
  | zero => rfl
  | succ n ih =>
    rw [List.range_succ, List.filter_append, List.length_append, ← ih]
    show cT P n + (if P n then 1 else 0) = _
    by_cases h : P n = true
    · rw [if_pos h]; simp [h]
    · rw [if_neg h]; simp [h]
theorem nd_map {f : Nat → Nat} : ∀ {l : List Nat}, l.Nodup → (∀ i ∈ l, ∀ j ∈ l, f i = f j → i = j) → (l.map f).Nodup := by
  intro l
  induction l with
  | nil => intro _ _; exact List.nodup_nil
  | cons a t ih =>
    intro h hi
    have h' := List.nodup_cons.mp h
    rw [List.map_cons, List.nodup_cons]
    refine ⟨fun q => ?_, ih h'.2 (fun i hi' j hj e => hi i (List.mem_cons_of_mem _ hi') j (List.mem_cons_of_mem _ hj) e)⟩
    obtain ⟨b, hb, e⟩ := List.mem_map.mp q
    have := hi b (List.mem_cons_of_mem _ hb) a List.mem_cons_self e
    exact h'.1 (this ▸ hb)
/-- counting by a list without doubles -/
theorem cT_card {P : Nat → Bool} {n : Nat} {f : Nat → Nat} {L : List Nat} (h1 : ∀ i, i < n → P i = true → f i ∈ L) (h2 : ∀ x ∈ L, ∃ i, i < n ∧ P i = true ∧ f i = x) (h3 : ∀ i j, i < n → j < n → P i = true → P j = true → f i = f j → i = j) (hL : L.Nodup) : cT P n = L.length := by
  rw [cT_filter]
  have hp : (((List.range n).filter P).map f).Perm L := by
    refine (List.perm_ext_iff_of_nodup (nd_map (List.Pairwise.filter _ List.nodup_range) ?_) hL).mpr (fun x => ?_)
    · intro i hi j hj e
      have a := List.mem_filter.mp hi
      have b := List.mem_filter.mp hj
      exact h3 i j (List.mem_range.mp a.1) (List.mem_range.mp b.1) a.2 b.2 e
    · constructor
      · intro hx
        obtain ⟨i, hi, rfl⟩ := List.mem_map.mp hx
        have a := List.mem_filter.mp hi
        exact h1 i (List.mem_range.mp a.1) a.2
      · intro hx
        obtain ⟨i, a, b, c⟩ := h2 x hx
        exact List.mem_map.mpr ⟨i, List.mem_filter.mpr ⟨List.mem_range.mpr a, b⟩, c⟩
  have := hp.length_eq
  rw [List.length_map] at this
  exact this
theorem sort_nd {l : List Nat} (h : l.Pairwise (· < ·)) : l.Nodup := h.imp (fun q => Nat.ne_of_lt q)
/-- in a rising list what is below the one at k is what stands ahead of it -/
theorem sort_take {l : List Nat} (h : l.Pairwise (· < ·)) {k x : Nat} (hk : l[k]? = some x) (z : Nat) : (z ∈ l ∧ z < x) ↔ z ∈ l.take k := by
  have e : l = l.take k ++ x :: l.drop (k + 1) := by
    have hlt := (List.getElem?_eq_some_iff.mp hk).1
    have hx := (List.getElem?_eq_some_iff.mp hk).2
    rw [← hx, List.getElem_cons_drop, List.take_append_drop]
  constructor
  · rintro ⟨h1, h2⟩
    rw [e] at h1 h
    rcases List.mem_append.mp h1 with q | q
    · exact q
    · rcases List.mem_cons.mp q with rfl | q
      · omega
      · have := (List.pairwise_cons.mp (List.pairwise_append.mp h).2.1).1 z q
        omega
  · intro q
    refine ⟨List.mem_of_mem_take q, ?_⟩
    rw [e] at h
    exact (List.pairwise_append.mp h).2.2 z q x List.mem_cons_self
