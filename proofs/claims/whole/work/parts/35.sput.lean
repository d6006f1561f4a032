/-! adding, as one function of the tree for both sides; the reference's rows under its steps -/
abbrev qW : Type := Int32 × Int32 × Bool
def sRoot (S : Tr) (l : Nat) (g : Pg) : Tr := sSet S l [] [gL g false, gR g] [] ++ [[(0, false, [0, g.2.2.getD 5 0])]]
def lvl (S : Tr) (l : Nat) : List Pg := S.getD l []
def sEnt (l v : Nat) (S : Tr) (q : qW) : Bool × Tr × qW :=
  let z := zp v (lvl S l)
  let w1 : Bool × qW := if z.2.1.2.1 then sW 1 q else (true, q)
  if w1.1 then
    (if (sW 11 w1.2).1 then (true, sSet S l z.1 [(z.2.1.1, false, insK v z.2.1.2.2)] z.2.2, (sW 11 w1.2).2)
     else (false, sSet S l z.1 [(z.2.1.1, false, z.2.1.2.2)] z.2.2, (sW 11 w1.2).2))
  else (false, S, w1.2)
def sPut : Nat → Nat → Nat → Tr → qW → Bool × Tr × qW
  | 0, _, _, S, q => (false, S, q)
  | f + 1, l, v, S, q =>
    let z := zp v (lvl S l)
    let g := z.2.1
    let r : Bool × Tr × qW := if g.2.2.length < 10 then (true, S, q)
      else if l + 1 = S.length then (if (sW 145 q).1 then (true, sRoot S l g, (sW 145 q).2) else (false, S, (sW 145 q).2))
      else if (sW 63 q).1 then (if (sW 1 (sW 63 q).2).1 then sPut f (l + 1) (g.2.2.getD 5 0) (sSet S l z.1 [gL g g.2.1, gR g] z.2.2) (sW 1 (sW 63 q).2).2 else (false, sSet S l z.1 [gL g true, gR g] z.2.2, (sW 1 (sW 63 q).2).2))
      else (false, S, (sW 63 q).2)
    if r.1 then sEnt l v r.2.1 r.2.2 else r
section SP
variable {S : Tr} {l : Nat} {c1 c2 : List Pg} {g : Pg} {kv : Nat → xE} {it il lw ll : Nat → Nat} {ow : Nat → Bool} {ks ni nl : Nat}
theorem trK_root (h : trK S) (hl : S[l]? = some [g]) (htop : l + 1 = S.length) (hg : g.2.2.length = 10) : trK (sRoot S l g) := by
  obtain ⟨t1, ⟨n, g0, t2, t3, t30⟩, t4, t5, t6, t7⟩ := h
  have hnl : n = l := by omega
  subst hnl
  rw [hl] at t3
  have e0 : g = g0 := by simpa using t3
  subst e0
  have hl' : S[n]? = some ([] ++ g :: []) := hl
  have hsp := lvK_split false (t1 n _ hl') hg
  have hk0 := (t1 n _ hl).1
  have hg0 : g.1 = 0 := by obtain ⟨p, t, e, hp⟩ := hk0; simp at e; rw [e.1]; exact hp
  obtain ⟨x, hx1, hx2, hx3, hx4⟩ := full5 hg
  have len : (sSet S n [] [gL g false, gR g] []).length = n + 1 := by rw [ss_len]; exact t2
  have lo : ∀ l', l' < n + 1 → (sRoot S n g)[l']? = (sSet S n [] [gL g false, gR g] [])[l']? := fun l' h => by
    unfold sRoot
    rw [List.getElem?_append_left (by rw [len]; exact h)]
  have hi : (sRoot S n g)[n + 1]? = some [(0, false, [0, g.2.2.getD 5 0])] := by
    unfold sRoot
    rw [List.getElem?_append_right (by rw [len]; exact Nat.le_refl _), len, Nat.sub_self]
    rfl
  have no : ∀ l' c, (sRoot S n g)[l']? = some c → l' ≤ n + 1 := fun l' c h => by
    have := (List.getElem?_eq_some_iff.mp h).1
    simp only [sRoot, List.length_append, len, List.length_singleton] at this
    omega
  have atn : (sSet S n [] [gL g false, gR g] [])[n]? = some ([] ++ ([gL g false, gR g] ++ [])) := ss_at hl'
  have hlt : g.1 < g.2.2.getD 5 0 := hsp.2
  refine ⟨fun l' c hc => ?_, ⟨n + 1, _, by simp [sRoot, ss_len, t2], hi, rfl⟩, fun l' c hc hlt' => ?_, fun l' c q hc hq => ?_, fun l' y hy => ?_, fun y hy => ?_⟩
  · rcases Nat.lt_or_ge l' (n + 1) with z | z
    · rw [lo l' z] at hc
      by_cases e : l' = n
      · subst e
        rw [atn] at hc
        cases hc
        exact hsp.1
      · rw [ss_ne e] at hc
        exact t1 l' c hc
    · have : l' = n + 1 := by have := no l' c hc; omega
      subst this
      rw [hi] at hc
      cases hc
      refine ⟨⟨_, [], rfl, rfl⟩, List.pairwise_singleton _ _, fun p hp => ?_⟩
      rw [List.mem_singleton.mp hp]
      refine ⟨?_, fun _ _ => Nat.zero_le _, by show ([0, g.2.2.getD 5 0] : List Nat).length ≤ 10; simp⟩
      show ([0, g.2.2.getD 5 0] : List Nat).Pairwise _
      rw [List.pairwise_cons]
      refine ⟨fun a ha => ?_, List.pairwise_singleton _ _⟩
      rw [List.mem_singleton.mp ha]
      omega
  · have hlen : (sRoot S n g).length = n + 2 := by simp [sRoot, ss_len, t2]
    rw [hlen] at hlt'
    rw [lo l' (by omega)] at hc
    by_cases e : l' = n
    · subst e
      rw [atn] at hc
      cases hc
      exact Nat.le_refl 2
    · rw [ss_ne e] at hc
      exact t4 l' c hc (by omega)
  · rcases Nat.lt_or_ge (l' + 1) (n + 1) with z | z
    · rw [lo _ z] at hc
      by_cases e : l' + 1 = n
      · rw [e] at hc
        rw [atn] at hc
        cases hc
        have hh := t5 l' _ g (by rw [e]; exact hl) List.mem_cons_self
        rcases List.mem_cons.mp hq with rfl | hq
        · exact head_take hh
        · rw [List.mem_singleton.mp hq]
          show (g.2.2.drop 5).head? = some (g.2.2.getD 5 0)
          rw [hx4, hx2]
          rfl
      · rw [ss_ne e] at hc
        exact t5 l' c q hc hq
    · have : l' = n := by have := no _ c hc; omega
      subst this
      rw [hi] at hc
      cases hc
      rw [List.mem_singleton.mp hq]
      rfl
  · obtain ⟨c, q, hc, hq, hx⟩ := hy
    rcases Nat.lt_or_ge (l' + 1) (n + 1) with z | z
    · rw [lo _ z] at hc
      have hin : inI S (l' + 1) y := (ss_Isame hl' (mem_halves false g) (l' + 1) y).mp ⟨c, q, hc, hq, hx⟩
      obtain ⟨c', q', hc', hq', e⟩ := t6 l' y hin
      exact ⟨c', q', by rw [lo _ (by omega), ss_ne (by omega)]; exact hc', hq', e⟩
    · have : l' = n := by have := no _ c hc; omega
      subst this
      rw [hi] at hc
      cases hc
      rw [List.mem_singleton.mp hq] at hx
      rcases List.mem_cons.mp hx with e | hx
      · exact ⟨_, gL g false, by rw [lo _ (by omega)]; exact atn, List.mem_cons_self, by rw [e]; exact hg0⟩
      · exact ⟨_, gR g, by rw [lo _ (by omega)]; exact atn, List.mem_cons_of_mem _ List.mem_cons_self, (List.mem_singleton.mp hx).symm⟩
  · obtain ⟨c, q, hc, hq, hx⟩ := hy
    rw [lo 0 (by omega)] at hc
    exact t7 y ((ss_Isame hl' (mem_halves false g) 0 y).mp ⟨c, q, hc, hq, hx⟩)
theorem x5_new (h : lvK (c1 ++ g :: c2)) (hl : S[l]? = some (c1 ++ g :: c2)) (hg : g.2.2.length = 10) (o : Bool) : ¬ inLw S l (g.2.2.getD 5 0) o := by
  have hlt := (lvK_split false h hg).2
  obtain ⟨x, hx1, hx2, -, -⟩ := full5 hg
  have hxm : x ∈ g.2.2 := List.mem_of_getElem? hx1
  have w := List.pairwise_append.mp h.2.1
  have w2 := List.pairwise_cons.mp w.2.1
  rw [at_L hl]
  rintro (⟨q, hq, e, -⟩ | ⟨e, -⟩ | ⟨q, hq, e, -⟩)
  · have := (w.2.2 q hq g List.mem_cons_self).1
    omega
  · omega
  · have := (w2.1 q hq).2 x hxm
    omega
theorem rr_split (h : RR S kv it il lw ll ow ks ni nl) (hT : trK S) (hl : S[l]? = some (c1 ++ g :: c2)) (hg : g.2.2.length = 10) {num : Nat} (hx : rk kv num = g.2.2.getD 5 0) (hn : num < ks) : RR (sSet S l c1 [gL g g.2.1, gR g] c2) kv it il (fu lw nl num) (fu ll nl l) (fun q => if q = nl then false else ow q) ks ni (nl + 1) := by
  refine rr_addPage h (x := g.2.2.getD 5 0) (ss_Isame hl (mem_halves _ g)) (fun l' k o => ?_) (x5_new (hT.1 l _ hl) hl hg) hx hn ?_ ?_
  · rw [ss_L hl]
    by_cases e : l' = l
    · subst e
      rw [at_L hl]
      constructor
      · rintro (z | ⟨-, z | ⟨q, hq, z1, z2⟩ | z⟩)
        · exact absurd rfl z.1
        · exact Or.inl (Or.inl z)
        · rcases List.mem_cons.mp hq with rfl | hq
          · exact Or.inl (Or.inr (Or.inl ⟨z1, z2⟩))
          · rw [List.mem_singleton.mp hq] at z1 z2
            exact Or.inr ⟨rfl, z1.symm, z2.symm⟩
        · exact Or.inl (Or.inr (Or.inr z))
      · rintro ((z | z | z) | ⟨-, z1, z2⟩)
        · exact Or.inr ⟨rfl, Or.inl z⟩
        · exact Or.inr ⟨rfl, Or.inr (Or.inl ⟨_, List.mem_cons_self, z⟩)⟩
        · exact Or.inr ⟨rfl, Or.inr (Or.inr z)⟩
        · exact Or.inr ⟨rfl, Or.inr (Or.inl ⟨_, List.mem_cons_of_mem _ List.mem_cons_self, z1.symm, z2.symm⟩)⟩
    · constructor
      · rintro (z | z)
        · exact Or.inl z.2
        · exact absurd z.1 e
      · rintro (z | z)
        · exact Or.inl ⟨e, z⟩
        · exact absurd z.1 e
  · have := ss_nIt (gs := [gL g g.2.1, gR g]) hl
    have e : nC [gL g g.2.1, gR g] = g.2.2.length := by
      simp only [nC, List.map_cons, List.map_nil, List.sum_cons, List.sum_nil, gL, gR, List.length_take, List.length_drop]
      omega
    omega
  · have := ss_nPg (gs := [gL g g.2.1, gR g]) hl
    simp only [List.length_cons, List.length_nil] at this
    omega
theorem rr_owe1 (hT : trK S) (hl : S[l]? = some (c1 ++ g :: c2)) (hg : g.2.2.length = 10) {p0 : Nat} (hp0 : p0 < nl) (h1 : ll p0 = l) (h2 : rk kv (lw p0) = g.1) (h : RR (sSet S l c1 [gL g g.2.1, gR g] c2) kv it il lw ll ow ks ni nl) : RR (sSet S l c1 [gL g true, gR g] c2) kv it il lw ll (fun q => if q = p0 then true else ow q) ks ni nl := by
  have hk := hT.1 l _ hl
  have hlt := (lvK_split false hk hg).2
  have w := List.pairwise_append.mp hk.2.1
  have w2 := List.pairwise_cons.mp w.2.1
  refine rr_owe (l := l) (x := g.1) (b := true) h (fun l' y => ?_) (fun l' k o => ?_) hp0 h1 h2 ?_ ?_
  · rw [ss_Isame hl (mem_halves _ g), ss_Isame hl (mem_halves _ g)]
  · rw [ss_L hl, ss_L hl]
    by_cases e : l' = l
    · subst e
      constructor
      · rintro (z | ⟨-, ⟨q, hq, z1, z2⟩ | ⟨q, hq, z1, z2⟩ | ⟨q, hq, z1, z2⟩⟩)
        · exact absurd rfl z.1
        · have := (w.2.2 q hq g List.mem_cons_self).1
          exact Or.inl ⟨Or.inr ⟨rfl, Or.inl ⟨q, hq, z1, z2⟩⟩, fun y => by omega⟩
        · rcases List.mem_cons.mp hq with rfl | hq
          · exact Or.inr ⟨rfl, z1.symm, z2.symm⟩
          · rw [List.mem_singleton.mp hq] at z1 z2
            have z1' : g.2.2.getD 5 0 = k := z1
            exact Or.inl ⟨Or.inr ⟨rfl, Or.inr (Or.inl ⟨_, List.mem_cons_of_mem _ List.mem_cons_self, z1, z2⟩)⟩, fun y => by omega⟩
        · have := (w2.1 q hq).1
          exact Or.inl ⟨Or.inr ⟨rfl, Or.inr (Or.inr ⟨q, hq, z1, z2⟩)⟩, fun y => by omega⟩
      · rintro (⟨z | ⟨-, z | ⟨q, hq, z1, z2⟩ | z⟩, y⟩ | ⟨-, z1, z2⟩)
        · exact absurd rfl z.1
        · exact Or.inr ⟨rfl, Or.inl z⟩
        · rcases List.mem_cons.mp hq with rfl | hq
          · exact absurd ⟨rfl, z1.symm⟩ y
          · exact Or.inr ⟨rfl, Or.inr (Or.inl ⟨q, List.mem_cons_of_mem _ hq, z1, z2⟩)⟩
        · exact Or.inr ⟨rfl, Or.inr (Or.inr z)⟩
        · exact Or.inr ⟨rfl, Or.inr (Or.inl ⟨_, List.mem_cons_self, z1.symm, z2.symm⟩)⟩
    · constructor
      · rintro (z | z)
        · exact Or.inl ⟨Or.inl z, fun y => e y.1⟩
        · exact absurd z.1 e
      · rintro (⟨z | z, -⟩ | z)
        · exact Or.inl z
        · exact absurd z.1 e
        · exact absurd z.1 e
  · have a := ss_nIt (gs := [gL g g.2.1, gR g]) hl
    have b := ss_nIt (gs := [gL g true, gR g]) hl
    have e : nC [gL g g.2.1, gR g] = nC [gL g true, gR g] := rfl
    omega
  · have a := ss_nPg (gs := [gL g g.2.1, gR g]) hl
    have b := ss_nPg (gs := [gL g true, gR g]) hl
    simp only [List.length_cons, List.length_nil] at a b
    omega
theorem ow_L (hk : lvK (c1 ++ g :: c2)) (hl : S[l]? = some (c1 ++ g :: c2)) (b : Bool) (xs : List Nat) (l' k : Nat) (o : Bool) : inLw (sSet S l c1 [(g.1, b, xs)] c2) l' k o ↔ (inLw S l' k o ∧ ¬ (l' = l ∧ k = g.1)) ∨ (l' = l ∧ k = g.1 ∧ o = b) := by
  have w := List.pairwise_append.mp hk.2.1
  have w2 := List.pairwise_cons.mp w.2.1
  rw [ss_L hl]
  by_cases e : l' = l
  · subst e
    rw [at_L hl]
    constructor
    · rintro (z | ⟨-, ⟨q, hq, z1, z2⟩ | ⟨q, hq, z1, z2⟩ | ⟨q, hq, z1, z2⟩⟩)
      · exact absurd rfl z.1
      · have := (w.2.2 q hq g List.mem_cons_self).1
        exact Or.inl ⟨Or.inl ⟨q, hq, z1, z2⟩, fun y => by omega⟩
      · rw [List.mem_singleton.mp hq] at z1 z2
        exact Or.inr ⟨rfl, z1.symm, z2.symm⟩
      · have := (w2.1 q hq).1
        exact Or.inl ⟨Or.inr (Or.inr ⟨q, hq, z1, z2⟩), fun y => by omega⟩
    · rintro (⟨z | z | z, y⟩ | ⟨-, z1, z2⟩)
      · exact Or.inr ⟨rfl, Or.inl z⟩
      · exact absurd ⟨rfl, z.1.symm⟩ y
      · exact Or.inr ⟨rfl, Or.inr (Or.inr z)⟩
      · exact Or.inr ⟨rfl, Or.inr (Or.inl ⟨_, List.mem_singleton.mpr rfl, z1.symm, z2.symm⟩)⟩
  · constructor
    · rintro (z | z)
      · exact Or.inl ⟨z.2, fun y => e y.1⟩
      · exact absurd z.1 e
    · rintro (⟨z, -⟩ | z)
      · exact Or.inl ⟨e, z⟩
      · exact absurd z.1 e
theorem rr_ow0 (h : RR S kv it il lw ll ow ks ni nl) (hT : trK S) (hl : S[l]? = some (c1 ++ g :: c2)) {p0 : Nat} (hp0 : p0 < nl) (h1 : ll p0 = l) (h2 : rk kv (lw p0) = g.1) (b : Bool) : RR (sSet S l c1 [(g.1, b, g.2.2)] c2) kv it il lw ll (fun q => if q = p0 then b else ow q) ks ni nl := by
  refine rr_owe (l := l) (x := g.1) (b := b) h (fun l' y => ss_Isame hl (fun x => by simp) l' y) (ow_L (hT.1 l _ hl) hl b g.2.2) hp0 h1 h2 ?_ ?_
  · have := ss_nIt (gs := [(g.1, b, g.2.2)]) hl
    have e : nC [(g.1, b, g.2.2)] = g.2.2.length := by simp [nC]
    omega
  · have := ss_nPg (gs := [(g.1, b, g.2.2)]) hl
    simp only [List.length_cons, List.length_nil] at this
    omega
theorem ss_ss (c1 c2 gs gs' : List Pg) (S : Tr) (l : Nat) : sSet (sSet S l c1 gs c2) l c1 gs' c2 = sSet S l c1 gs' c2 := by simp [sSet]
/-- the one that is in charge has the key, if any -/
theorem inI_own (hk : lvK (c1 ++ g :: c2)) (hl : S[l]? = some (c1 ++ g :: c2)) {v : Nat} (hC : InC (c1 ++ g :: c2) v c1 g c2) : inI S l v ↔ v ∈ g.2.2 := by
  rw [at_I hl]
  constructor
  · have w := List.pairwise_append.mp hk.2.1
    rintro (⟨q, hq, hx⟩ | hx | ⟨q, hq, hx⟩)
    · have := (w.2.2 q hq g List.mem_cons_self).2 v hx
      have := hC.2.1
      omega
    · exact hx
    · have := hC.2.2.2 q hq
      have := (hk.2.2 q (List.mem_append_right _ (List.mem_cons_of_mem _ hq))).2.1 v hx
      omega
  · exact fun h => Or.inr (Or.inl h)
theorem rr_enter (h : RR S kv it il lw ll ow ks ni nl) (hT : trK S) (hl : S[l]? = some (c1 ++ g :: c2)) {v num p0 : Nat} (hC : InC (c1 ++ g :: c2) v c1 g c2) (hv : v ∉ g.2.2) (hx : rk kv num = v) (hn : num < ks) (hp0 : p0 < nl) (h1 : ll p0 = l) (h2 : rk kv (lw p0) = g.1) : RR (sSet S l c1 [(g.1, false, insK v g.2.2)] c2) kv (fu it ni num) (fu il ni l) lw ll (fun q => if q = p0 then false else ow q) ks (ni + 1) nl := by
  have hk := hT.1 l _ hl
  have h0 := rr_ow0 h hT hl hp0 h1 h2 false
  have hl0 : (sSet S l c1 [(g.1, false, g.2.2)] c2)[l]? = some (c1 ++ (g.1, false, g.2.2) :: c2) := ss_at hl
  have eS : sSet S l c1 [(g.1, false, insK v g.2.2)] c2 = sSet (sSet S l c1 [(g.1, false, g.2.2)] c2) l c1 [(g.1, false, insK v g.2.2)] c2 := (ss_ss c1 c2 _ _ S l).symm
  rw [eS]
  refine rr_addItem h0 (x := v) (ss_Iadd hl0 (fun x => ?_)) (fun l' k o => ?_) ?_ hx hn ?_ ?_
  · constructor
    · rintro ⟨q, hq, hx⟩
      rw [List.mem_singleton.mp hq] at hx
      exact (insK_mem v x _).mp hx
    · exact fun z => ⟨_, List.mem_singleton.mpr rfl, (insK_mem v x _).mpr z⟩
  · rw [ss_ss, ow_L hk hl, ow_L hk hl]
  · rw [ss_Isame hl (fun x => by simp), inI_own hk hl hC]
    exact hv
  · have := ss_nIt (gs := [(g.1, false, insK v g.2.2)]) hl0
    have e : nC [(g.1, false, insK v g.2.2)] = g.2.2.length + 1 := by simp [nC, insK_len]
    have e2 : ((g.1, false, g.2.2) : Pg).2.2.length = g.2.2.length := rfl
    omega
  · have := ss_nPg (gs := [(g.1, false, insK v g.2.2)]) hl0
    simp only [List.length_cons, List.length_nil] at this
    omega
theorem inI_app (S : Tr) (c : List Pg) (l' x : Nat) : inI (S ++ [c]) l' x ↔ inI S l' x ∨ (l' = S.length ∧ ∃ q ∈ c, x ∈ q.2.2) := by
  constructor
  · rintro ⟨c', q, hc, hq, hx⟩
    rcases Nat.lt_or_ge l' S.length with z | z
    · rw [List.getElem?_append_left z] at hc
      exact Or.inl ⟨c', q, hc, hq, hx⟩
    · have hlt := (List.getElem?_eq_some_iff.mp hc).1
      have e : l' = S.length := by simp at hlt; omega
      subst e
      rw [List.getElem?_append_right (Nat.le_refl _), Nat.sub_self] at hc
      have : c = c' := Option.some.inj hc
      subst this
      exact Or.inr ⟨rfl, q, hq, hx⟩
  · rintro (⟨c', q, hc, hq, hx⟩ | ⟨rfl, q, hq, hx⟩)
    · have hlt := (List.getElem?_eq_some_iff.mp hc).1
      exact ⟨c', q, by rw [List.getElem?_append_left hlt]; exact hc, hq, hx⟩
    · exact ⟨c, q, by rw [List.getElem?_append_right (Nat.le_refl _), Nat.sub_self]; rfl, hq, hx⟩
theorem inLw_app (S : Tr) (c : List Pg) (l' k : Nat) (o : Bool) : inLw (S ++ [c]) l' k o ↔ inLw S l' k o ∨ (l' = S.length ∧ ∃ q ∈ c, q.1 = k ∧ q.2.1 = o) := by
  constructor
  · rintro ⟨c', q, hc, hq, hx⟩
    rcases Nat.lt_or_ge l' S.length with z | z
    · rw [List.getElem?_append_left z] at hc
      exact Or.inl ⟨c', q, hc, hq, hx⟩
    · have hlt := (List.getElem?_eq_some_iff.mp hc).1
      have e : l' = S.length := by simp at hlt; omega
      subst e
      rw [List.getElem?_append_right (Nat.le_refl _), Nat.sub_self] at hc
      have : c = c' := Option.some.inj hc
      subst this
      exact Or.inr ⟨rfl, q, hq, hx⟩
  · rintro (⟨c', q, hc, hq, hx⟩ | ⟨rfl, q, hq, hx⟩)
    · have hlt := (List.getElem?_eq_some_iff.mp hc).1
      exact ⟨c', q, by rw [List.getElem?_append_left hlt]; exact hc, hq, hx⟩
    · exact ⟨c, q, by rw [List.getElem?_append_right (Nat.le_refl _), Nat.sub_self]; rfl, hq, hx⟩
theorem inI_lt {S : Tr} {l x : Nat} (h : inI S l x) : l < S.length := by
  obtain ⟨c, q, hc, -⟩ := h
  exact (List.getElem?_eq_some_iff.mp hc).1
theorem inLw_lt {S : Tr} {l k : Nat} {o : Bool} (h : inLw S l k o) : l < S.length := by
  obtain ⟨c, q, hc, -⟩ := h
  exact (List.getElem?_eq_some_iff.mp hc).1
theorem n_app (S : Tr) (c : List Pg) : nIt (S ++ [c]) = nIt S + nC c ∧ nPg (S ++ [c]) = nPg S + c.length := by simp [nIt, nPg]
theorem rk_0 (kv : Nat → xE) : rk kv 0 = 0 := rfl
theorem rr_root (h : RR S kv it il lw ll ow ks ni nl) (hT : trK S) (hl : S[l]? = some [g]) (htop : l + 1 = S.length) (hg : g.2.2.length = 10) {num : Nat} (hx : rk kv num = g.2.2.getD 5 0) (hn : num < ks) : RR (sRoot S l g) kv (fu (fu it ni 0) (ni + 1) num) (fu (fu il ni (l + 1)) (ni + 1) (l + 1)) (fu (fu lw nl num) (nl + 1) 0) (fu (fu ll nl l) (nl + 1) (l + 1)) (fun q => if q = nl + 1 then false else if q = nl then false else ow q) ks (ni + 1 + 1) (nl + 1 + 1) := by
  have hks := h.2.2.2.2.2.2.2.2
  have hl' : S[l]? = some ([] ++ g :: []) := hl
  obtain ⟨n, g0, t2, t3, t30⟩ := hT.2.1
  have hnl : n = l := by omega
  subst hnl
  rw [hl] at t3
  have e0 : g = g0 := by simpa using t3
  subst e0
  have hlt := (lvK_split false (hT.1 n _ hl') hg).2
  -- step 1: the split
  have s1 := rr_split h hT hl' hg hx hn
  rw [t30] at s1
  -- step 2: the new root, still without marks
  have len : (sSet S n [] [gL g false, gR g] []).length = n + 1 := by rw [ss_len]; exact t2
  have a0 := n_app (sSet S n [] [gL g false, gR g] []) [(0, false, [])]
  have s2 := rr_addPage (S' := sSet S n [] [gL g false, gR g] [] ++ [[(0, false, [])]]) s1 (l := n + 1) (num := 0) (x := 0) (fun l' y => by rw [inI_app]; simp) (fun l' k o => by
    rw [inLw_app, len]
    constructor
    · rintro (z | ⟨e, q, hq, z1, z2⟩)
      · exact Or.inl z
      · rw [List.mem_singleton.mp hq] at z1 z2
        exact Or.inr ⟨e, z1.symm, z2.symm⟩
    · rintro (z | ⟨e, z1, z2⟩)
      · exact Or.inl z
      · exact Or.inr ⟨e, _, List.mem_singleton.mpr rfl, z1.symm, z2.symm⟩) (fun o q => by have := inLw_lt q; omega) (rk_0 kv) (by omega) (by rw [a0.1]; rfl) (by rw [a0.2]; rfl)
  -- step 3, 4: its two marks
  have a1 := n_app (sSet S n [] [gL g false, gR g] []) [(0, false, [0])]
  have s3 := rr_addItem (S' := sSet S n [] [gL g false, gR g] [] ++ [[(0, false, [0])]]) s2 (l := n + 1) (num := 0) (x := 0) (fun l' y => by
    rw [inI_app, inI_app, len]
    simp) (fun l' k o => by rw [inLw_app, inLw_app]; simp) (fun q => by
      rw [inI_app, len] at q
      rcases q with q | ⟨-, q, hq, hx⟩
      · have := inI_lt q; omega
      · rw [List.mem_singleton.mp hq] at hx; cases hx) (rk_0 kv) (by omega) (by rw [a1.1, a0.1]; rfl) (by rw [a1.2, a0.2]; rfl)
  have a2 := n_app (sSet S n [] [gL g false, gR g] []) [(0, false, [0, g.2.2.getD 5 0])]
  have s4 := rr_addItem (S' := sRoot S n g) s3 (l := n + 1) (num := num) (x := g.2.2.getD 5 0) (fun l' y => by
    unfold sRoot
    rw [inI_app, inI_app, len]
    constructor
    · rintro (z | ⟨e, q, hq, z⟩)
      · exact Or.inl (Or.inl z)
      · rw [List.mem_singleton.mp hq] at z
        rcases List.mem_cons.mp z with z | z
        · exact Or.inl (Or.inr ⟨e, _, List.mem_singleton.mpr rfl, by rw [z]; exact List.mem_cons_self⟩)
        · exact Or.inr ⟨e, List.mem_singleton.mp z⟩
    · rintro ((z | ⟨e, q, hq, z⟩) | ⟨e, z⟩)
      · exact Or.inl z
      · rw [List.mem_singleton.mp hq] at z
        exact Or.inr ⟨e, _, List.mem_singleton.mpr rfl, by rw [List.mem_singleton.mp z]; exact List.mem_cons_self⟩
      · exact Or.inr ⟨e, _, List.mem_singleton.mpr rfl, by rw [z]; exact List.mem_cons_of_mem _ List.mem_cons_self⟩) (fun l' k o => by unfold sRoot; rw [inLw_app, inLw_app]; simp) (fun q => by
      rw [inI_app, len] at q
      rcases q with q | ⟨-, q, hq, hx⟩
      · have := inI_lt q; omega
      · rw [List.mem_singleton.mp hq] at hx
        have := List.mem_singleton.mp hx
        omega) hx hn (by unfold sRoot; rw [a2.1, a1.1]; rfl) (by unfold sRoot; rw [a2.2, a1.2]; rfl)
  exact s4
theorem filt_len {l : List Nat} (h : l.Pairwise (· < ·)) {v : Nat} (hv : v ∈ l) : (l.filter (fun x => decide (x ≠ v))).length + 1 = l.length := by
  induction l with
  | nil => cases hv
  | cons a t ih =>
    have h' := List.pairwise_cons.mp h
    by_cases e : a = v
    · subst e
      have : (t.filter (fun x => decide (x ≠ a))) = t := List.filter_eq_self.mpr (fun x hx => by have := h'.1 x hx; simp; omega)
      rw [List.filter_cons_of_neg (by simp), this]
      rfl
    · rw [List.filter_cons_of_pos (by simp [e])]
      have := ih h'.2 ((List.mem_cons.mp hv).resolve_left (Ne.symm e))
      simp only [List.length_cons]
      omega
theorem rr_del (h : RR S kv it il lw ll ow ks ni nl) (hT : trK S) (hl : S[0]? = some (c1 ++ g :: c2)) {v i0 p0 : Nat} (hC : InC (c1 ++ g :: c2) v c1 g c2) (hv : v ∈ g.2.2) (hi0 : i0 < ni) (hi1 : il i0 = 0) (hi2 : rk kv (it i0) = v) (hp0 : p0 < nl) (h1 : ll p0 = 0) (h2 : rk kv (lw p0) = g.1) : RR (sSet S 0 c1 [(g.1, false, g.2.2.filter (fun x => decide (x ≠ v)))] c2) kv (fu it i0 (it (ni - 1))) (fu il i0 (il (ni - 1))) lw ll (fun q => if q = p0 then false else ow q) ks (ni - 1) nl := by
  have hk := hT.1 0 _ hl
  have w := List.pairwise_append.mp hk.2.1
  have h0 := rr_ow0 h hT hl hp0 h1 h2 false
  have hl0 : (sSet S 0 c1 [(g.1, false, g.2.2)] c2)[0]? = some (c1 ++ (g.1, false, g.2.2) :: c2) := ss_at hl
  have eS : sSet S 0 c1 [(g.1, false, g.2.2.filter (fun x => decide (x ≠ v)))] c2 = sSet (sSet S 0 c1 [(g.1, false, g.2.2)] c2) 0 c1 [(g.1, false, g.2.2.filter (fun x => decide (x ≠ v)))] c2 := (ss_ss c1 c2 _ _ S 0).symm
  rw [eS]
  have hf := filt_len (hk.2.2 g (List.mem_append_right _ List.mem_cons_self)).1 hv
  refine rr_remove h0 (l := 0) (x := v) (ss_Idel hl0 (fun x => ?_) (fun q hq hx => ?_) (fun q hq hx => ?_)) (fun l' k o => ?_) hi0 hi1 hi2 ?_ ?_
  · constructor
    · rintro ⟨q, hq, hx⟩
      rw [List.mem_singleton.mp hq] at hx
      have := List.mem_filter.mp hx
      exact ⟨this.1, by simpa using this.2⟩
    · exact fun z => ⟨_, List.mem_singleton.mpr rfl, List.mem_filter.mpr ⟨z.1, by simpa using z.2⟩⟩
  · have := (w.2.2 q hq g List.mem_cons_self).2 v hx
    have := hC.2.1
    omega
  · have := hC.2.2.2 q hq
    have := (hk.2.2 q (List.mem_append_right _ (List.mem_cons_of_mem _ hq))).2.1 v hx
    omega
  · rw [ss_ss, ow_L hk hl, ow_L hk hl]
  · have := ss_nIt (gs := [(g.1, false, g.2.2.filter (fun x => decide (x ≠ v)))]) hl0
    have e : nC [(g.1, false, g.2.2.filter (fun x => decide (x ≠ v)))] = (g.2.2.filter (fun x => decide (x ≠ v))).length := by simp [nC]
    have e2 : ((g.1, false, g.2.2) : Pg).2.2.length = g.2.2.length := rfl
    omega
  · have := ss_nPg (gs := [(g.1, false, g.2.2.filter (fun x => decide (x ≠ v)))]) hl0
    simp only [List.length_cons, List.length_nil] at this
    omega
def S0 : Tr := [[(0, false, [])]]
theorem trK_0 : trK S0 := by
  have one : ∀ (l : Nat) c, S0[l]? = some c → l = 0 ∧ c = [(0, false, [])] := fun l c h => by
    have hlt := (List.getElem?_eq_some_iff.mp h).1
    have : l = 0 := by simp [S0] at hlt; omega
    subst this
    exact ⟨rfl, (Option.some.inj h).symm⟩
  have no : ∀ l x, ¬ inI S0 l x := by
    rintro l x ⟨c, q, hc, hq, hx⟩
    rw [(one l c hc).2] at hq
    rw [List.mem_singleton.mp hq] at hx
    cases hx
  refine ⟨fun l c h => ?_, ⟨0, _, rfl, rfl, rfl⟩, fun l c h hlt => ?_, fun l c q h hq => ?_, fun l x h => absurd h (no _ _), fun x h => absurd h (no _ _)⟩
  · rw [(one l c h).2]
    refine ⟨⟨_, [], rfl, rfl⟩, List.pairwise_singleton _ _, fun p hp => ?_⟩
    rw [List.mem_singleton.mp hp]
    exact ⟨List.Pairwise.nil, fun x hx => (by cases hx), by decide⟩
  · simp [S0] at hlt
  · have := (one _ c h).1
    omega
theorem rr_0 (hks : 1 ≤ ks) (hw : lw 0 = 0) (hlv : ll 0 = 0) (how : ow 0 = false) : RR S0 kv it il lw ll ow ks 0 1 := by
  have one : ∀ (l : Nat) c, S0[l]? = some c → l = 0 ∧ c = [(0, false, [])] := fun l c h => by
    have hlt := (List.getElem?_eq_some_iff.mp h).1
    have : l = 0 := by simp [S0] at hlt; omega
    subst this
    exact ⟨rfl, (Option.some.inj h).symm⟩
  refine ⟨fun i hi => absurd hi (by omega), ?_, fun i j hi => absurd hi (by omega), fun p hp => ?_, fun l c q h hq => ?_, fun p q hp hq _ _ => by omega, rfl, rfl, hks⟩
  · rintro l x ⟨c, q, hc, hq, hx⟩
    rw [(one l c hc).2] at hq
    rw [List.mem_singleton.mp hq] at hx
    cases hx
  · have : p = 0 := by omega
    subst this
    rw [hw, hlv, how]
    exact ⟨⟨_, _, rfl, List.mem_singleton.mpr rfl, rfl, rfl⟩, by omega⟩
  · obtain ⟨e1, e2⟩ := one l c h
    subst e1
    rw [e2] at hq
    rw [List.mem_singleton.mp hq]
    exact ⟨0, by omega, hlv, by rw [hw]; rfl⟩
end SP
