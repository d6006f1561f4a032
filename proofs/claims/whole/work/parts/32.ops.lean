/-! the reference's rows are kept by its writes -/
section RO
variable {S S' : Tr} {kv : Nat → xE} {it il lw ll : Nat → Nat} {ow : Nat → Bool} {ks ni nl : Nat}
theorem rk_kvu {kv : Nat → xE} {k i : Nat} (e : xE) (h : i ≠ k) : rk (kvu kv k e) i = rk kv i := by
  unfold rk kvu
  by_cases h0 : i = 0
  · rw [if_pos h0, if_pos h0]
  · rw [if_neg h0, if_neg h0, if_neg h]
theorem rr_kv (h : RR S kv it il lw ll ow ks ni nl) (e : xE) : RR S (kvu kv ks e) it il lw ll ow ks ni nl := by
  obtain ⟨r1, r2, r3, r4, r5, r6, r7, r8, r9⟩ := h
  have k1 : ∀ i, i < ni → rk (kvu kv ks e) (it i) = rk kv (it i) := fun i hi => rk_kvu e (by have := (r1 i hi).2; omega)
  have k2 : ∀ p, p < nl → rk (kvu kv ks e) (lw p) = rk kv (lw p) := fun p hp => rk_kvu e (by have := (r4 p hp).2; omega)
  refine ⟨fun i hi => by rw [k1 i hi]; exact r1 i hi, fun l x hx => ?_, fun i j hi hj a b => r3 i j hi hj a (by rw [← k1 i hi, ← k1 j hj]; exact b), fun p hp => by rw [k2 p hp]; exact r4 p hp, fun l c g hl hg => ?_, fun p q hp hq a b => r6 p q hp hq a (by rw [← k2 p hp, ← k2 q hq]; exact b), r7, r8, r9⟩
  · obtain ⟨i, i1, i2, i3⟩ := r2 l x hx
    exact ⟨i, i1, i2, by rw [k1 i i1]; exact i3⟩
  · obtain ⟨p, p1, p2, p3⟩ := r5 l c g hl hg
    exact ⟨p, p1, p2, by rw [k2 p p1]; exact p3⟩
theorem rr_ks (h : RR S kv it il lw ll ow ks ni nl) : RR S kv it il lw ll ow (ks + 1) ni nl := by
  obtain ⟨r1, r2, r3, r4, r5, r6, r7, r8, r9⟩ := h
  exact ⟨fun i hi => ⟨(r1 i hi).1, by have := (r1 i hi).2; omega⟩, r2, r3, fun p hp => ⟨(r4 p hp).1, by have := (r4 p hp).2; omega⟩, r5, r6, r7, r8, by omega⟩
theorem fu_s (f : Nat → Nat) (k z : Nat) : fu f k z k = z := by simp [fu]
theorem fu_n {f : Nat → Nat} {k z j : Nat} (h : j ≠ k) : fu f k z j = f j := by simp [fu, h]
theorem inLw_of {l : Nat} {c : List Pg} {g : Pg} (hl : S[l]? = some c) (hg : g ∈ c) : inLw S l g.1 g.2.1 := ⟨c, g, hl, hg, rfl, rfl⟩
theorem rr_addPage (h : RR S kv it il lw ll ow ks ni nl) {l num x : Nat} (hI : ∀ l' y, inI S' l' y ↔ inI S l' y) (hL : ∀ l' k o, inLw S' l' k o ↔ inLw S l' k o ∨ (l' = l ∧ k = x ∧ o = false)) (hnew : ∀ o, ¬ inLw S l x o) (hx : rk kv num = x) (hn : num < ks) (c1 : nIt S' = nIt S) (c2 : nPg S' = nPg S + 1) : RR S' kv it il (fu lw nl num) (fu ll nl l) (fun q => if q = nl then false else ow q) ks ni (nl + 1) := by
  obtain ⟨r1, r2, r3, r4, r5, r6, r7, r8, r9⟩ := h
  have old : ∀ p, p < nl → fu lw nl num p = lw p ∧ fu ll nl l p = ll p := fun p hp => ⟨fu_n (by omega), fu_n (by omega)⟩
  refine ⟨fun i hi => ⟨(hI _ _).mpr (r1 i hi).1, (r1 i hi).2⟩, fun l' y hy => r2 l' y ((hI _ _).mp hy), r3, fun p hp => ?_, fun l' c g hl hg => ?_, fun p q hp hq a b => ?_, by rw [c1]; exact r7, by rw [c2, r8], r9⟩
  · by_cases e : p = nl
    · subst e
      rw [fu_s, fu_s]
      simp only [if_true]
      exact ⟨(hL _ _ _).mpr (Or.inr ⟨rfl, hx, rfl⟩), hn⟩
    · obtain ⟨o1, o2⟩ := old p (by omega)
      rw [o1, o2]
      simp only [e, if_false]
      exact ⟨(hL _ _ _).mpr (Or.inl (r4 p (by omega)).1), (r4 p (by omega)).2⟩
  · rcases (hL l' g.1 g.2.1).mp (inLw_of hl hg) with ⟨c', g', hc', hg', e1, e2⟩ | ⟨e1, e2, e3⟩
    · obtain ⟨p, p1, p2, p3⟩ := r5 l' c' g' hc' hg'
      obtain ⟨o1, o2⟩ := old p p1
      exact ⟨p, by omega, by rw [o2]; exact p2, by rw [o1, p3, e1]⟩
    · exact ⟨nl, by omega, by rw [fu_s, e1], by rw [fu_s, hx, e2]⟩
  · have lowne : ∀ q, q < nl → ll q = l → rk kv (lw q) = x → False := fun q hq e1 e2 => by
      have := (r4 q hq).1
      rw [e1, e2] at this
      exact hnew _ this
    by_cases ep : p = nl
    · by_cases eq : q = nl
      · rw [ep, eq]
      · obtain ⟨o1, o2⟩ := old q (by omega)
        rw [ep, fu_s, o2] at a
        rw [ep, fu_s, o1] at b
        exact (lowne q (by omega) a.symm (by rw [← b]; exact hx)).elim
    · obtain ⟨o1, o2⟩ := old p (by omega)
      by_cases eq : q = nl
      · rw [eq, fu_s, o2] at a
        rw [eq, fu_s, o1] at b
        exact (lowne p (by omega) a (by rw [b]; exact hx)).elim
      · obtain ⟨o3, o4⟩ := old q (by omega)
        rw [o2, o4] at a
        rw [o1, o3] at b
        exact r6 p q (by omega) (by omega) a b
theorem rr_addItem (h : RR S kv it il lw ll ow ks ni nl) {l num x : Nat} (hI : ∀ l' y, inI S' l' y ↔ inI S l' y ∨ (l' = l ∧ y = x)) (hL : ∀ l' k o, inLw S' l' k o ↔ inLw S l' k o) (hnew : ¬ inI S l x) (hx : rk kv num = x) (hn : num < ks) (c1 : nIt S' = nIt S + 1) (c2 : nPg S' = nPg S) : RR S' kv (fu it ni num) (fu il ni l) lw ll ow ks (ni + 1) nl := by
  obtain ⟨r1, r2, r3, r4, r5, r6, r7, r8, r9⟩ := h
  have old : ∀ p, p < ni → fu it ni num p = it p ∧ fu il ni l p = il p := fun p hp => ⟨fu_n (by omega), fu_n (by omega)⟩
  refine ⟨fun p hp => ?_, fun l' y hy => ?_, fun p q hp hq a b => ?_, fun p hp => ⟨(hL _ _ _).mpr (r4 p hp).1, (r4 p hp).2⟩, fun l' c g hl hg => ?_, r6, by rw [c1, r7], by rw [c2]; exact r8, r9⟩
  · by_cases e : p = ni
    · subst e
      rw [fu_s, fu_s]
      exact ⟨(hI _ _).mpr (Or.inr ⟨rfl, hx⟩), hn⟩
    · obtain ⟨o1, o2⟩ := old p (by omega)
      rw [o1, o2]
      exact ⟨(hI _ _).mpr (Or.inl (r1 p (by omega)).1), (r1 p (by omega)).2⟩
  · rcases (hI l' y).mp hy with q | ⟨e1, e2⟩
    · obtain ⟨p, p1, p2, p3⟩ := r2 l' y q
      obtain ⟨o1, o2⟩ := old p p1
      exact ⟨p, by omega, by rw [o2]; exact p2, by rw [o1, p3]⟩
    · exact ⟨ni, by omega, by rw [fu_s, e1], by rw [fu_s, hx, e2]⟩
  · have itne : ∀ q, q < ni → il q = l → rk kv (it q) = x → False := fun q hq e1 e2 => by
      have := (r1 q hq).1
      rw [e1, e2] at this
      exact hnew this
    by_cases ep : p = ni
    · by_cases eq : q = ni
      · rw [ep, eq]
      · obtain ⟨o1, o2⟩ := old q (by omega)
        rw [ep, fu_s, o2] at a
        rw [ep, fu_s, o1] at b
        exact (itne q (by omega) a.symm (by rw [← b]; exact hx)).elim
    · obtain ⟨o1, o2⟩ := old p (by omega)
      by_cases eq : q = ni
      · rw [eq, fu_s, o2] at a
        rw [eq, fu_s, o1] at b
        exact (itne p (by omega) a (by rw [b]; exact hx)).elim
      · obtain ⟨o3, o4⟩ := old q (by omega)
        rw [o2, o4] at a
        rw [o1, o3] at b
        exact r3 p q (by omega) (by omega) a b
  · obtain ⟨c', g', hc', hg', e1, e2⟩ := (hL l' g.1 g.2.1).mp (inLw_of hl hg)
    obtain ⟨p, p1, p2, p3⟩ := r5 l' c' g' hc' hg'
    exact ⟨p, p1, p2, by rw [p3, e1]⟩
theorem rr_owe (h : RR S kv it il lw ll ow ks ni nl) {l x p0 : Nat} {b : Bool} (hI : ∀ l' y, inI S' l' y ↔ inI S l' y) (hL : ∀ l' k o, inLw S' l' k o ↔ (inLw S l' k o ∧ ¬ (l' = l ∧ k = x)) ∨ (l' = l ∧ k = x ∧ o = b)) (hp0 : p0 < nl) (h1 : ll p0 = l) (h2 : rk kv (lw p0) = x) (c1 : nIt S' = nIt S) (c2 : nPg S' = nPg S) : RR S' kv it il lw ll (fun q => if q = p0 then b else ow q) ks ni nl := by
  obtain ⟨r1, r2, r3, r4, r5, r6, r7, r8, r9⟩ := h
  refine ⟨fun i hi => ⟨(hI _ _).mpr (r1 i hi).1, (r1 i hi).2⟩, fun l' y hy => r2 l' y ((hI _ _).mp hy), r3, fun p hp => ?_, fun l' c g hl hg => ?_, r6, by rw [c1]; exact r7, by rw [c2]; exact r8, r9⟩
  · refine ⟨(hL _ _ _).mpr ?_, (r4 p hp).2⟩
    by_cases e : p = p0
    · subst e
      simp only [if_true]
      exact Or.inr ⟨h1, h2, trivial⟩
    · simp only [e, if_false]
      refine Or.inl ⟨(r4 p hp).1, fun q => e ?_⟩
      exact r6 p p0 hp hp0 (q.1.trans h1.symm) (q.2.trans h2.symm)
  · rcases (hL l' g.1 g.2.1).mp (inLw_of hl hg) with ⟨⟨c', g', hc', hg', e1, e2⟩, -⟩ | ⟨e1, e2, e3⟩
    · obtain ⟨p, p1, p2, p3⟩ := r5 l' c' g' hc' hg'
      exact ⟨p, p1, p2, by rw [p3, e1]⟩
    · exact ⟨p0, hp0, by rw [h1, e1], by rw [h2, e2]⟩
theorem rr_remove (h : RR S kv it il lw ll ow ks ni nl) {l x i0 : Nat} (hI : ∀ l' y, inI S' l' y ↔ inI S l' y ∧ ¬ (l' = l ∧ y = x)) (hL : ∀ l' k o, inLw S' l' k o ↔ inLw S l' k o) (hi0 : i0 < ni) (h1 : il i0 = l) (h2 : rk kv (it i0) = x) (c1 : nIt S' + 1 = nIt S) (c2 : nPg S' = nPg S) : RR S' kv (fu it i0 (it (ni - 1))) (fu il i0 (il (ni - 1))) lw ll ow ks (ni - 1) nl := by
  obtain ⟨r1, r2, r3, r4, r5, r6, r7, r8, r9⟩ := h
  -- where an old place is now
  have new : ∀ p, p < ni - 1 → ∃ q, q < ni ∧ q ≠ i0 ∧ fu it i0 (it (ni - 1)) p = it q ∧ fu il i0 (il (ni - 1)) p = il q ∧ (p = i0 → q = ni - 1) ∧ (p ≠ i0 → q = p) := by
    intro p hp
    by_cases e : p = i0
    · subst e
      exact ⟨ni - 1, by omega, by omega, fu_s _ _ _, fu_s _ _ _, fun _ => rfl, fun q => absurd rfl q⟩
    · exact ⟨p, by omega, e, fu_n e, fu_n e, fun q => absurd q e, fun _ => rfl⟩
  refine ⟨fun p hp => ?_, fun l' y hy => ?_, fun p q hp hq a b => ?_, fun p hp => ⟨(hL _ _ _).mpr (r4 p hp).1, (r4 p hp).2⟩, fun l' c g hl hg => ?_, r6, by omega, by rw [c2]; exact r8, r9⟩
  · obtain ⟨q, q1, q2, q3, q4, -⟩ := new p hp
    rw [q3, q4]
    refine ⟨(hI _ _).mpr ⟨(r1 q q1).1, fun z => q2 ?_⟩, (r1 q q1).2⟩
    exact r3 q i0 q1 hi0 (z.1.trans h1.symm) (z.2.trans h2.symm)
  · obtain ⟨y1, y2⟩ := (hI l' y).mp hy
    obtain ⟨i, i1, i2, i3⟩ := r2 l' y y1
    have hne : i ≠ i0 := fun e => y2 ⟨by rw [← i2, e, h1], by rw [← i3, e, h2]⟩
    by_cases e : i = ni - 1
    · refine ⟨i0, by omega, ?_, ?_⟩
      · rw [fu_s, ← e]; exact i2
      · rw [fu_s, ← e]; exact i3
    · exact ⟨i, by omega, by rw [fu_n hne]; exact i2, by rw [fu_n hne]; exact i3⟩
  · obtain ⟨p', a1, a2, a3, a4, a5, a6⟩ := new p hp
    obtain ⟨q', b1, b2, b3, b4, b5, b6⟩ := new q hq
    rw [a4, b4] at a
    rw [a3, b3] at b
    have e := r3 p' q' a1 b1 a b
    by_cases ep : p = i0
    · by_cases eq : q = i0
      · rw [ep, eq]
      · have := a5 ep; have := b6 eq; omega
    · by_cases eq : q = i0
      · have := a6 ep; have := b5 eq; omega
      · have := a6 ep; have := b6 eq; omega
  · obtain ⟨c', g', hc', hg', e1, e2⟩ := (hL l' g.1 g.2.1).mp (inLw_of hl hg)
    obtain ⟨p, p1, p2, p3⟩ := r5 l' c' g' hc' hg'
    exact ⟨p, p1, p2, by rw [p3, e1]⟩
end RO
