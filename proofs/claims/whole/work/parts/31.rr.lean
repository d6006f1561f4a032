/-! the reference's rows hold the tree -/
def inI (S : Tr) (l x : Nat) : Prop := ∃ c g, S[l]? = some c ∧ g ∈ c ∧ x ∈ g.2.2
def inLw (S : Tr) (l k : Nat) (o : Bool) : Prop := ∃ c g, S[l]? = some c ∧ g ∈ c ∧ g.1 = k ∧ g.2.1 = o
def nC (c : List Pg) : Nat := (c.map (fun g => g.2.2.length)).sum
def nIt (S : Tr) : Nat := (S.map nC).sum
def nPg (S : Tr) : Nat := (S.map List.length).sum
def RR (S : Tr) (kv : Nat → xE) (it il lw ll : Nat → Nat) (ow : Nat → Bool) (ks ni nl : Nat) : Prop :=
  (∀ i, i < ni → inI S (il i) (rk kv (it i)) ∧ it i < ks) ∧ (∀ l x, inI S l x → ∃ i, i < ni ∧ il i = l ∧ rk kv (it i) = x) ∧ (∀ i j, i < ni → j < ni → il i = il j → rk kv (it i) = rk kv (it j) → i = j) ∧
  (∀ p, p < nl → inLw S (ll p) (rk kv (lw p)) (ow p) ∧ lw p < ks) ∧ (∀ l c g, S[l]? = some c → g ∈ c → ∃ p, p < nl ∧ ll p = l ∧ rk kv (lw p) = g.1) ∧ (∀ p q, p < nl → q < nl → ll p = ll q → rk kv (lw p) = rk kv (lw q) → p = q) ∧ ni = nIt S ∧ nl = nPg S ∧ 1 ≤ ks
def trK (S : Tr) : Prop := (∀ (l : Nat) c, S[l]? = some c → lvK c) ∧ (∃ n g, S.length = n + 1 ∧ S[n]? = some [g] ∧ g.2.1 = false) ∧ (∀ (l : Nat) c, S[l]? = some c → l + 1 < S.length → 2 ≤ c.length) ∧ (∀ (l : Nat) c g, S[l + 1]? = some c → g ∈ c → g.2.2.head? = some g.1) ∧ (∀ l x, inI S (l + 1) x → ∃ c g, S[l]? = some c ∧ g ∈ c ∧ g.1 = x) ∧ ∀ x, inI S 0 x → 0 < x
theorem nPg_ge : ∀ (S : Tr), (∀ (l : Nat) c, S[l]? = some c → l + 1 < S.length → 2 ≤ c.length) → (∃ n g, S.length = n + 1 ∧ S[n]? = some [g]) → 2 * S.length ≤ nPg S + 1 := by
  intro S
  induction S with
  | nil => rintro - ⟨n, g, h, -⟩; simp at h
  | cons c t ih =>
    intro h1 h2
    obtain ⟨n, g, e1, e2⟩ := h2
    cases t with
    | nil =>
      have : n = 0 := by simp at e1; omega
      subst this
      simp at e2
      subst e2
      simp [nPg]
    | cons b t =>
      have hn : n = t.length + 1 := by simp at e1; omega
      have i1 := ih (fun l c h hl => h1 (l + 1) c (by simpa using h) (by simp at hl ⊢; omega)) ⟨t.length, g, by simp, by rw [hn] at e2; simpa using e2⟩
      have i2 := h1 0 c rfl (by simp)
      simp only [nPg, List.map_cons, List.sum_cons, List.length_cons] at i1 ⊢
      omega
theorem nC_le : ∀ (c : List Pg), (∀ g ∈ c, g.2.2.length ≤ 10) → nC c ≤ 10 * c.length := by
  intro c
  induction c with
  | nil => intro _; simp [nC]
  | cons a t ih =>
    intro h
    have i1 := ih (fun g hg => h g (List.mem_cons_of_mem _ hg))
    have i2 := h a List.mem_cons_self
    simp only [nC, List.map_cons, List.sum_cons, List.length_cons] at i1 ⊢
    omega
theorem nIt_le : ∀ (S : Tr), (∀ c ∈ S, ∀ g ∈ c, g.2.2.length ≤ 10) → nIt S ≤ 10 * nPg S := by
  intro S
  induction S with
  | nil => intro _; simp [nIt]
  | cons a t ih =>
    intro h
    have i1 := ih (fun c hc => h c (List.mem_cons_of_mem _ hc))
    have i2 := nC_le a (h a List.mem_cons_self)
    simp only [nIt, nPg, List.map_cons, List.sum_cons] at i1 ⊢
    omega
theorem nC_app (c1 c2 : List Pg) : nC (c1 ++ c2) = nC c1 + nC c2 := by simp [nC]
theorem sum_app (f : List Pg → Nat) (S1 S2 : Tr) (c : List Pg) : ((S1 ++ c :: S2).map f).sum = (S1.map f).sum + f c + (S2.map f).sum := by
  simp only [List.map_append, List.map_cons, List.sum_append, List.sum_cons]
  omega
theorem lv_split {S : Tr} {l : Nat} {c : List Pg} (h : S[l]? = some c) : ∃ S1 S2, S = S1 ++ c :: S2 ∧ S1.length = l := by
  have hlt := (List.getElem?_eq_some_iff.mp h).1
  have hx := (List.getElem?_eq_some_iff.mp h).2
  refine ⟨S.take l, S.drop (l + 1), ?_, by rw [List.length_take]; omega⟩
  rw [← hx, List.getElem_cons_drop, List.take_append_drop]
theorem trK.ten {S : Tr} (h : trK S) : ∀ c ∈ S, ∀ g ∈ c, g.2.2.length ≤ 10 := by
  intro c hc g hg
  obtain ⟨l, hl⟩ := List.getElem?_of_mem hc
  exact ((h.1 l c hl).2.2 g hg).2.2
/-- room for an item where a page isn't full -/
theorem nIt_lt {S : Tr} (h : trK S) {l : Nat} {c c1 c2 : List Pg} {g : Pg} (hl : S[l]? = some c) (e : c = c1 ++ g :: c2) (hg : g.2.2.length < 10) : nIt S < 10 * nPg S := by
  obtain ⟨S1, S2, e1, -⟩ := lv_split hl
  have ht := h.ten
  have a1 := nIt_le S1 (fun d hd => ht d (by rw [e1]; exact List.mem_append_left _ hd))
  have a2 := nIt_le S2 (fun d hd => ht d (by rw [e1]; exact List.mem_append_right _ (List.mem_cons_of_mem _ hd)))
  have hc := ht c (by rw [e1]; exact List.mem_append_right _ List.mem_cons_self)
  have b1 := nC_le c1 (fun q hq => hc q (by rw [e]; exact List.mem_append_left _ hq))
  have b2 := nC_le c2 (fun q hq => hc q (by rw [e]; exact List.mem_append_right _ (List.mem_cons_of_mem _ hq)))
  have b3 : nC c = nC c1 + (g.2.2.length + nC c2) := by rw [e, nC_app]; rfl
  have b4 : c.length = c1.length + (c2.length + 1) := by rw [e]; simp
  unfold nIt nPg at *
  rw [e1, sum_app, sum_app]
  omega
theorem RR.mB {S : Tr} {kv : Nat → xE} {it il lw ll : Nat → Nat} {ow : Nat → Bool} {ks ni nl : Nat} (h : RR S kv it il lw ll ow ks ni nl) (hT : trK S) (h60 : nPg S ≤ 60) (hks : ks ≤ 513) : mB it il lw ll ni nl ∧ S.length ≤ 30 := by
  have h30 := nPg_ge S hT.2.2.1 (by obtain ⟨n, g, q1, q2, -⟩ := hT.2.1; exact ⟨n, g, q1, q2⟩)
  have h10 := nIt_le S hT.ten
  obtain ⟨r1, r2, r3, r4, r5, r6, r7, r8, r9⟩ := h
  refine ⟨⟨by omega, by omega, fun i hi => ?_, fun p hp => ?_⟩, by omega⟩
  · obtain ⟨⟨c, g, hc, -, -⟩, q⟩ := r1 i hi
    have := (List.getElem?_eq_some_iff.mp hc).1
    omega
  · obtain ⟨⟨c, g, hc, -, -⟩, q⟩ := r4 p hp
    have := (List.getElem?_eq_some_iff.mp hc).1
    omega
section RL
variable {S : Tr} {kv : Nat → xE} {it il lw ll : Nat → Nat} {ow : Nat → Bool} {ks ni nl : Nat}
/-- the page in charge, among the reference's -/
theorem rr_isC (h : RR S kv it il lw ll ow ks ni nl) (hT : trK S) {l num : Nat} {c c1 c2 : List Pg} {g : Pg} (hl : S[l]? = some c) (hC : InC c (rk kv num) c1 g c2) : ∃ p0, isC kv lw ll nl l num p0 ∧ rk kv (lw p0) = g.1 ∧ ow p0 = g.2.1 := by
  obtain ⟨r1, r2, r3, r4, r5, r6, r7, r8, r9⟩ := h
  obtain ⟨e, i1, i2, i3⟩ := hC
  have hg : g ∈ c := by rw [e]; exact List.mem_append_right _ List.mem_cons_self
  obtain ⟨p0, p1, p2, p3⟩ := r5 l c g hl hg
  have same : ∀ q, q < nl → ll q = l → ∃ g', g' ∈ c ∧ g'.1 = rk kv (lw q) ∧ g'.2.1 = ow q := by
    intro q hq hlq
    obtain ⟨⟨c', g', hc', hg', e1, e2⟩, -⟩ := r4 q hq
    rw [hlq, hl] at hc'
    cases hc'
    exact ⟨g', hg', e1, e2⟩
  refine ⟨p0, ⟨p1, p2, by rw [p3]; exact i1, fun q hq hlq hle hne => ?_⟩, p3, ?_⟩
  · obtain ⟨g', hg', e1, -⟩ := same q hq hlq
    rw [p3, ← e1]
    rw [e] at hg'
    rcases List.mem_append.mp hg' with z | z
    · exact i2 g' z
    · rcases List.mem_cons.mp z with rfl | z
      · exact absurd (r6 q p0 hq p1 (hlq.trans p2.symm) (by rw [p3, e1])) hne
      · have := i3 g' z
        omega
  · obtain ⟨g', hg', e1, e2⟩ := same p0 p1 p2
    have := (hT.1 l c hl).low hg' hg (by rw [e1, p3])
    rw [← e2, this]
theorem isC.un {l num p q : Nat} (h : isC kv lw ll nl l num p) (h' : isC kv lw ll nl l num q) : p = q := by
  by_cases e : p = q
  · exact e
  · have a := h.2.2.2 q h'.1 h'.2.1 h'.2.2.1 (Ne.symm e)
    have b := h'.2.2.2 p h.1 h.2.1 h.2.2.1 e
    omega
/-- of each item the page in charge -/
theorem rr_ic (h : RR S kv it il lw ll ow ks ni nl) (hT : trK S) : ∃ ic : Nat → Nat, ∀ i, i < ni → isC kv lw ll nl (il i) (it i) (ic i) := by
  have ex : ∀ i, ∃ p, i < ni → isC kv lw ll nl (il i) (it i) p := by
    intro i
    by_cases hi : i < ni
    · obtain ⟨⟨c, g, hc, -, -⟩, -⟩ := h.1 i hi
      obtain ⟨c1, g', c2, hI⟩ := (hT.1 _ c hc).ex (rk kv (it i))
      obtain ⟨p0, hp, -⟩ := rr_isC h hT hc hI
      exact ⟨p0, fun _ => hp⟩
    · exact ⟨0, fun q => absurd q hi⟩
  exact ⟨fun i => Classical.choose (ex i), fun i hi => Classical.choose_spec (ex i) hi⟩
/-- an item is in a page just if the page is in charge of it -/
theorem rr_inP (h : RR S kv it il lw ll ow ks ni nl) (hT : trK S) {ic : Nat → Nat} (hic : ∀ i, i < ni → isC kv lw ll nl (il i) (it i) (ic i)) {l p0 : Nat} {c c1 c2 : List Pg} {g : Pg} (hl : S[l]? = some c) (e : c = c1 ++ g :: c2) (hp0 : p0 < nl) (hp1 : ll p0 = l) (hp2 : rk kv (lw p0) = g.1) {i : Nat} (hi : i < ni) : inP il ic l p0 i = true ↔ il i = l ∧ rk kv (it i) ∈ g.2.2 := by
  have hk := hT.1 l c hl
  have hg : g ∈ c := by rw [e]; exact List.mem_append_right _ List.mem_cons_self
  constructor
  · intro hP
    have hP' : il i = l ∧ ic i = p0 := by simpa [inP] using hP
    obtain ⟨⟨c', g', hc', hg', hx⟩, -⟩ := h.1 i hi
    rw [hP'.1, hl] at hc'
    cases hc'
    obtain ⟨d1, d2, e2⟩ := List.append_of_mem hg'
    obtain ⟨p', q1, q2, -⟩ := rr_isC h hT hl (inC_own hk e2 hx)
    have q3 := hic i hi
    rw [hP'.1] at q3
    have e3 := isC.un q1 q3
    rw [hP'.2] at e3
    have : g' = g := hk.low hg' hg (by rw [← q2, e3, hp2])
    subst this
    exact ⟨hP'.1, hx⟩
  · rintro ⟨h1, hx⟩
    obtain ⟨p', q1, q2, -⟩ := rr_isC h hT hl (inC_own hk e hx)
    have q3 := hic i hi
    rw [h1] at q3
    have e3 := isC.un q1 q3
    have e4 : p' = p0 := h.2.2.2.2.2.1 p' p0 q1.1 hp0 (q1.2.1.trans hp1.symm) (by rw [q2, hp2])
    simp [inP, h1, ← e3, e4]
theorem rr_filled (h : RR S kv it il lw ll ow ks ni nl) (hT : trK S) {ic : Nat → Nat} (hic : ∀ i, i < ni → isC kv lw ll nl (il i) (it i) (ic i)) {l p0 : Nat} {c c1 c2 : List Pg} {g : Pg} (hl : S[l]? = some c) (e : c = c1 ++ g :: c2) (hp0 : p0 < nl) (hp1 : ll p0 = l) (hp2 : rk kv (lw p0) = g.1) : cT (inP il ic l p0) ni = g.2.2.length := by
  have hk := hT.1 l c hl
  have hg : g ∈ c := by rw [e]; exact List.mem_append_right _ List.mem_cons_self
  have hP := fun {i : Nat} (hi : i < ni) => rr_inP h hT hic hl e hp0 hp1 hp2 hi
  refine cT_card (f := fun i => rk kv (it i)) (fun i hi q => ((hP hi).mp q).2) (fun x hx => ?_) (fun i j hi hj a b q => h.2.2.1 i j hi hj (((hP hi).mp a).1.trans ((hP hj).mp b).1.symm) q) (sort_nd (hk.2.2 g hg).1)
  obtain ⟨i, i1, i2, i3⟩ := h.2.1 l x ⟨c, g, hl, hg, hx⟩
  exact ⟨i, i1, (hP i1).mpr ⟨i2, by rw [i3]; exact hx⟩, i3⟩
theorem rr_inL (h : RR S kv it il lw ll ow ks ni nl) (hT : trK S) {ic : Nat → Nat} (hic : ∀ i, i < ni → isC kv lw ll nl (il i) (it i) (ic i)) {l p0 : Nat} {c c1 c2 : List Pg} {g : Pg} (hl : S[l]? = some c) (e : c = c1 ++ g :: c2) (hp0 : p0 < nl) (hp1 : ll p0 = l) (hp2 : rk kv (lw p0) = g.1) {i k : Nat} (hk' : g.2.2[k]? = some (rk kv (it i))) : cT (inL kv it il ic l p0 i) ni = k := by
  have hk := hT.1 l c hl
  have hg : g ∈ c := by rw [e]; exact List.mem_append_right _ List.mem_cons_self
  have hP := fun {i : Nat} (hi : i < ni) => rr_inP h hT hic hl e hp0 hp1 hp2 hi
  have hs := sort_take (hk.2.2 g hg).1 hk'
  have hlt := (List.getElem?_eq_some_iff.mp hk').1
  have hL : ∀ j, inL kv it il ic l p0 i j = true ↔ inP il ic l p0 j = true ∧ rk kv (it j) < rk kv (it i) := fun j => by simp [inL]
  have := cT_card (P := inL kv it il ic l p0 i) (n := ni) (f := fun i => rk kv (it i)) (L := g.2.2.take k) (fun j hj q => (hs _).mp ⟨((hP hj).mp ((hL j).mp q).1).2, ((hL j).mp q).2⟩) (fun x hx => ?_) (fun a b ha hb qa qb q => h.2.2.1 a b ha hb (((hP ha).mp ((hL a).mp qa).1).1.trans ((hP hb).mp ((hL b).mp qb).1).1.symm) q) ((sort_nd (hk.2.2 g hg).1).sublist (List.take_sublist _ _))
  · rw [this, List.length_take]
    omega
  · have hx' := (hs x).mpr hx
    obtain ⟨j, i1, i2, i3⟩ := h.2.1 l x ⟨c, g, hl, hg, hx'.1⟩
    exact ⟨j, i1, (hL j).mpr ⟨(hP i1).mpr ⟨i2, by rw [i3]; exact hx'.1⟩, by rw [i3]; exact hx'.2⟩, i3⟩
theorem rr_sixth (h : RR S kv it il lw ll ow ks ni nl) (hT : trK S) {ic : Nat → Nat} (hic : ∀ i, i < ni → isC kv lw ll nl (il i) (it i) (ic i)) {l p0 x : Nat} {c c1 c2 : List Pg} {g : Pg} (hl : S[l]? = some c) (e : c = c1 ++ g :: c2) (hp0 : p0 < nl) (hp1 : ll p0 = l) (hp2 : rk kv (lw p0) = g.1) (hx : g.2.2[5]? = some x) : ∃ i0, i0 < ni ∧ rk kv (it i0) = x ∧ inP il ic l p0 i0 = true ∧ cT (inL kv it il ic l p0 i0) ni = 5 ∧ ∀ i, i < i0 → inP il ic l p0 i = true → cT (inL kv it il ic l p0 i) ni ≠ 5 := by
  have hk := hT.1 l c hl
  have hg : g ∈ c := by rw [e]; exact List.mem_append_right _ List.mem_cons_self
  have hxm : x ∈ g.2.2 := List.mem_of_getElem? hx
  have hP := fun {i : Nat} (hi : i < ni) => rr_inP h hT hic hl e hp0 hp1 hp2 hi
  obtain ⟨i0, i1, i2, i3⟩ := h.2.1 l x ⟨c, g, hl, hg, hxm⟩
  refine ⟨i0, i1, i3, (hP i1).mpr ⟨i2, by rw [i3]; exact hxm⟩, rr_inL h hT hic hl e hp0 hp1 hp2 (by rw [i3]; exact hx), fun i hi q => ?_⟩
  have hin := (hP (show i < ni by omega)).mp q
  obtain ⟨k, hk2⟩ := List.getElem?_of_mem hin.2
  rw [rr_inL h hT hic hl e hp0 hp1 hp2 hk2]
  intro e5
  subst e5
  rw [hx] at hk2
  have := h.2.2.1 i i0 (by omega) i1 (hin.1.trans i2.symm) (by rw [i3]; exact (Option.some.inj hk2).symm)
  omega
theorem rr_itemOf (h : RR S kv it il lw ll ow ks ni nl) (num : Nat) : (inI S 0 (rk kv num) → ∃ i0, isI kv it il ni num (some i0)) ∧ (¬ inI S 0 (rk kv num) → isI kv it il ni num none) := by
  constructor
  · intro hin
    obtain ⟨i0, i1, i2, i3⟩ := h.2.1 0 _ hin
    refine ⟨i0, i1, ⟨i2, i3⟩, fun i hi q => ?_⟩
    have := h.2.2.1 i i0 (by omega) i1 (q.1.trans i2.symm) (q.2.trans i3.symm)
    omega
  · intro hn i hi q
    have := (h.1 i hi).1
    rw [q.1, q.2] at this
    exact hn this
/-- the pages of a level, counted by a list of lows -/
theorem rr_pages (h : RR S kv it il lw ll ow ks ni nl) {l : Nat} {c : List Pg} (hl : S[l]? = some c) {P : Nat → Bool} {L : List Nat} (hP : ∀ p, p < nl → (P p = true ↔ ll p = l ∧ rk kv (lw p) ∈ L)) (hL : L.Nodup) (hsub : ∀ x ∈ L, ∃ g ∈ c, g.1 = x) : cT P nl = L.length := by
  refine cT_card (f := fun p => rk kv (lw p)) (fun p hp q => ((hP p hp).mp q).2) (fun x hx => ?_) (fun a b ha hb qa qb q => h.2.2.2.2.2.1 a b ha hb (((hP a ha).mp qa).1.trans ((hP b hb).mp qb).1.symm) q) hL
  obtain ⟨g, hg, rfl⟩ := hsub x hx
  obtain ⟨p, p1, p2, p3⟩ := h.2.2.2.2.1 l c g hl hg
  exact ⟨p, p1, (hP p p1).mpr ⟨p2, by rw [p3]; exact hx⟩, p3⟩
theorem low_nd {c : List Pg} (h : c.Pairwise (fun p q => p.1 < q.1 ∧ ∀ x ∈ p.2.2, x < q.1)) : (c.map (fun g => g.1)).Nodup := by
  refine sort_nd ?_
  rw [List.pairwise_map]
  exact h.imp (fun q => q.1)
theorem rr_npages (h : RR S kv it il lw ll ow ks ni nl) (hT : trK S) {l : Nat} {c : List Pg} (hl : S[l]? = some c) : cT (fun p => decide (ll p = l)) nl = c.length := by
  have := rr_pages h hl (P := fun p => decide (ll p = l)) (L := c.map (fun g => g.1)) (fun p hp => ?_) (low_nd (hT.1 l c hl).2.1) (fun x hx => by obtain ⟨g, hg, e⟩ := List.mem_map.mp hx; exact ⟨g, hg, e⟩)
  · rw [this, List.length_map]
  · simp only [decide_eq_true_eq]
    constructor
    · intro q
      obtain ⟨⟨c', g, hc', hg, e1, -⟩, -⟩ := h.2.2.2.1 p hp
      rw [q, hl] at hc'
      cases hc'
      exact ⟨q, List.mem_map.mpr ⟨g, hg, e1⟩⟩
    · exact fun q => q.1
theorem rr_left (h : RR S kv it il lw ll ow ks ni nl) (hT : trK S) {l p0 : Nat} {c c1 c2 : List Pg} {g : Pg} (hl : S[l]? = some c) (e : c = c1 ++ g :: c2) (hp1 : ll p0 = l) (hp2 : rk kv (lw p0) = g.1) : cT (lft kv lw ll p0) nl = c1.length := by
  have hw := (hT.1 l c hl).2.1
  rw [e] at hw
  have hw2 := List.pairwise_append.mp hw
  have := rr_pages h hl (P := lft kv lw ll p0) (L := c1.map (fun g => g.1)) (fun p hp => ?_) (low_nd hw2.1) (fun x hx => by obtain ⟨q, hq, e'⟩ := List.mem_map.mp hx; exact ⟨q, by rw [e]; exact List.mem_append_left _ hq, e'⟩)
  · rw [this, List.length_map]
  · have hb : lft kv lw ll p0 p = true ↔ ll p = l ∧ rk kv (lw p) < g.1 := by simp [lft, hp1, hp2]
    rw [hb]
    constructor
    · rintro ⟨q1, q2⟩
      obtain ⟨⟨c', g', hc', hg', e1, -⟩, -⟩ := h.2.2.2.1 p hp
      rw [q1, hl] at hc'
      cases hc'
      refine ⟨q1, List.mem_map.mpr ⟨g', ?_, e1⟩⟩
      rw [e] at hg'
      rcases List.mem_append.mp hg' with z | z
      · exact z
      · rcases List.mem_cons.mp z with rfl | z
        · omega
        · have := ((List.pairwise_cons.mp hw2.2.1).1 g' z).1
          omega
    · rintro ⟨q1, q2⟩
      obtain ⟨g', hg', e1⟩ := List.mem_map.mp q2
      have := (hw2.2.2 g' hg' g List.mem_cons_self).1
      exact ⟨q1, by omega⟩
theorem flat_sort : ∀ {c : List Pg}, c.Pairwise (fun p q => p.1 < q.1 ∧ ∀ x ∈ p.2.2, x < q.1) → (∀ g ∈ c, g.2.2.Pairwise (· < ·) ∧ (∀ x ∈ g.2.2, g.1 ≤ x) ∧ g.2.2.length ≤ 10) → (c.flatMap (fun g => g.2.2)).Pairwise (· < ·) := by
  intro c
  induction c with
  | nil => intro _ _; exact List.Pairwise.nil
  | cons a t ih =>
    intro hw hk
    have hw' := List.pairwise_cons.mp hw
    rw [List.flatMap_cons, List.pairwise_append]
    refine ⟨(hk a List.mem_cons_self).1, ih hw'.2 (fun g hg => hk g (List.mem_cons_of_mem _ hg)), fun x hx y hy => ?_⟩
    obtain ⟨g, hg, hy'⟩ := List.mem_flatMap.mp hy
    have h1 := (hw'.1 g hg).2 x hx
    have h2 := (hk g (List.mem_cons_of_mem _ hg)).2.1 y hy'
    omega
theorem nC_flat (c : List Pg) : (c.flatMap (fun g => g.2.2)).length = nC c := by
  rw [List.length_flatMap]
  rfl
theorem rr_entries (h : RR S kv it il lw ll ow ks ni nl) (hT : trK S) {l : Nat} {c : List Pg} (hl : S[l]? = some c) : cT (fun i => decide (il i = l)) ni = nC c := by
  have hk := hT.1 l c hl
  rw [← nC_flat]
  refine cT_card (f := fun i => rk kv (it i)) (fun i hi q => ?_) (fun x hx => ?_) (fun i j hi hj a b q => h.2.2.1 i j hi hj ?_ q) (sort_nd (flat_sort hk.2.1 hk.2.2))
  · simp only [decide_eq_true_eq] at q
    obtain ⟨⟨c', g, hc', hg, hx⟩, -⟩ := h.1 i hi
    rw [q, hl] at hc'
    cases hc'
    exact List.mem_flatMap.mpr ⟨g, hg, hx⟩
  · obtain ⟨g, hg, hx'⟩ := List.mem_flatMap.mp hx
    obtain ⟨i, i1, i2, i3⟩ := h.2.1 l x ⟨c, g, hl, hg, hx'⟩
    exact ⟨i, i1, by simp [i2], i3⟩
  · simp only [decide_eq_true_eq] at a b
    rw [a, b]
end RL
