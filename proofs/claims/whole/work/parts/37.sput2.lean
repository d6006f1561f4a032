/-! what adding keeps of the tree -/
def pth (S : Tr) (w : Nat → Nat) (l top : Nat) (rs : Bool) : Prop := top < S.length ∧ ∀ j, l ≤ j → j ≤ top → ∃ c1 g c2, S[j]? = some (c1 ++ g :: c2) ∧ InC (c1 ++ g :: c2) (w j) c1 g c2 ∧ w j ∉ g.2.2 ∧ 0 < w j ∧ (j < top → g.2.2.length = 10 ∧ w (j + 1) = g.2.2.getD 5 0) ∧ (j = top → if rs then g.2.2.length = 10 ∧ top + 1 = S.length else g.2.2.length < 10)
theorem pth.up {S S' : Tr} {w : Nat → Nat} {l top : Nat} {rs : Bool} (h : pth S w l top rs) (h1 : S'.length = S.length) (h2 : ∀ j, l < j → S'[j]? = S[j]?) : pth S' w (l + 1) top rs := by
  refine ⟨by rw [h1]; exact h.1, fun j hj ht => ?_⟩
  obtain ⟨c1, g, c2, a1, a2, a3, a4, a5, a6⟩ := h.2 j (by omega) ht
  exact ⟨c1, g, c2, by rw [h2 j (by omega)]; exact a1, a2, a3, a4, a5, by rw [h1]; exact a6⟩
section SQ
variable {S : Tr} {l : Nat} {c1 c2 : List Pg} {g : Pg} {v : Nat} {q : qW}
theorem sEnt_eq (hl : S[l]? = some (c1 ++ g :: c2)) (hC : InC (c1 ++ g :: c2) v c1 g c2) : (sEnt l v S q).2.1 = S ∨ (sEnt l v S q).2.1 = sSet S l c1 [(g.1, false, g.2.2)] c2 ∨ (sEnt l v S q).2.1 = sSet S l c1 [(g.1, false, insK v g.2.2)] c2 := by
  have hz : zp v (lvl S l) = (c1, g, c2) := by rw [lvl_at hl]; exact hC.zp
  unfold sEnt
  simp only [hz]
  by_cases e1 : ((if g.2.1 then sW 1 q else (true, q)) : Bool × qW).1 = true
  · rw [if_pos e1]
    by_cases e2 : (sW 11 ((if g.2.1 then sW 1 q else (true, q)) : Bool × qW).2).1 = true
    · rw [if_pos e2]; exact Or.inr (Or.inr rfl)
    · rw [if_neg e2]; exact Or.inr (Or.inl rfl)
  · rw [if_neg e1]; exact Or.inl rfl
theorem sEnt_ok (hT : trK S) (hl : S[l]? = some (c1 ++ g :: c2)) (hC : InC (c1 ++ g :: c2) v c1 g c2) (hg : g.2.2.length < 10) (hv : v ∉ g.2.2) (h0 : 0 < v) (hm : 0 < l → ∃ c q, S[l - 1]? = some c ∧ q ∈ c ∧ q.1 = v) : trK (sEnt l v S q).2.1 ∧ (∀ j, j ≠ l → (sEnt l v S q).2.1[j]? = S[j]?) ∧ (sEnt l v S q).2.1.length = S.length ∧ nPg (sEnt l v S q).2.1 = nPg S := by
  rcases sEnt_eq (q := q) hl hC with e | e | e
  · rw [e]; exact ⟨hT, fun _ _ => rfl, rfl, rfl⟩
  · rw [e]
    refine ⟨trK_ow false hT hl (fun _ => rfl), fun j hj => ss_ne hj, ss_len, ?_⟩
    have := ss_nPg (gs := [(g.1, false, g.2.2)]) hl
    simp only [List.length_cons, List.length_nil] at this
    omega
  · rw [e]
    refine ⟨trK_enter hT hl hC hg hv hm h0, fun j hj => ss_ne hj, ss_len, ?_⟩
    have := ss_nPg (gs := [(g.1, false, insK v g.2.2)]) hl
    simp only [List.length_cons, List.length_nil] at this
    omega
theorem sPut_eq (f : Nat) (hl : S[l]? = some (c1 ++ g :: c2)) (hC : InC (c1 ++ g :: c2) v c1 g c2) : sPut (f + 1) l v S q = (fun r : Bool × Tr × qW => if r.1 then sEnt l v r.2.1 r.2.2 else r) (if g.2.2.length < 10 then (true, S, q)
      else if l + 1 = S.length then (if (sW 145 q).1 then (true, sRoot S l g, (sW 145 q).2) else (false, S, (sW 145 q).2))
      else if (sW 63 q).1 then (if (sW 1 (sW 63 q).2).1 then sPut f (l + 1) (g.2.2.getD 5 0) (sSet S l c1 [gL g g.2.1, gR g] c2) (sW 1 (sW 63 q).2).2 else (false, sSet S l c1 [gL g true, gR g] c2, (sW 1 (sW 63 q).2).2))
      else (false, S, (sW 63 q).2)) := by
  have hz : zp v (lvl S l) = (c1, g, c2) := by rw [lvl_at hl]; exact hC.zp
  conv => lhs; unfold sPut
  simp only [hz]
/-- behind a split: where the key comes, five are, not the key -/
theorem half_C (hk : lvK (c1 ++ g :: c2)) (hC : InC (c1 ++ g :: c2) v c1 g c2) (hg : g.2.2.length = 10) (hv : v ∉ g.2.2) (o : Bool) : ∃ d1 g' d2, c1 ++ ([gL g o, gR g] ++ c2) = d1 ++ g' :: d2 ∧ InC (d1 ++ g' :: d2) v d1 g' d2 ∧ g'.2.2.length = 5 ∧ v ∉ g'.2.2 := by
  obtain ⟨x, hx1, hx2, hx3, hx4⟩ := full5 hg
  have hlt := (lvK_split o hk hg).2
  by_cases hvx : v < g.2.2.getD 5 0
  · refine ⟨c1, gL g o, gR g :: c2, rfl, ⟨rfl, hC.2.1, hC.2.2.1, fun q hq => ?_⟩, by show (g.2.2.take 5).length = 5; rw [List.length_take]; omega, fun h => hv (List.mem_of_mem_take h)⟩
    rcases List.mem_cons.mp hq with rfl | hq
    · exact hvx
    · exact hC.2.2.2 q hq
  · refine ⟨c1 ++ [gL g o], gR g, c2, by simp, ⟨rfl, by show g.2.2.getD 5 0 ≤ v; omega, fun q hq => ?_, hC.2.2.2⟩, by show (g.2.2.drop 5).length = 5; rw [List.length_drop]; omega, fun h => hv (List.mem_of_mem_drop h)⟩
    show q.1 < g.2.2.getD 5 0
    rcases List.mem_append.mp hq with z | z
    · have := hC.2.2.1 q z
      omega
    · rw [List.mem_singleton.mp z]
      exact hlt
end SQ
theorem sPut_ok (top : Nat) (w : Nat → Nat) (rs : Bool) : ∀ (k l f : Nat) (S : Tr) (q : qW), l + k = top → k < f → trK S → pth S w l top rs → (0 < l → ∃ c q, S[l - 1]? = some c ∧ q ∈ c ∧ q.1 = w l) →
    trK (sPut f l (w l) S q).2.1 ∧ (∀ j, j < l → (sPut f l (w l) S q).2.1[j]? = S[j]?) ∧ nPg (sPut f l (w l) S q).2.1 ≤ nPg S + k + (if rs then 2 else 0) := by
  intro k
  induction k with
  | zero =>
    intro l f S q hlk hf hT hP hm
    obtain ⟨f, rfl⟩ : ∃ f', f = f' + 1 := ⟨f - 1, by omega⟩
    obtain ⟨c1, g, c2, a1, a2, a3, a4, a5, a6⟩ := hP.2 l (Nat.le_refl _) (by omega)
    have a7 := a6 (by omega)
    rw [sPut_eq f a1 a2]
    cases rs with
    | false =>
      have a8 : g.2.2.length < 10 := a7
      rw [if_pos a8]
      show trK (sEnt l (w l) S q).2.1 ∧ _
      obtain ⟨e1, e2, e3, e4⟩ := sEnt_ok (q := q) hT a1 a2 a8 a3 a4 hm
      exact ⟨e1, fun j hj => e2 j (by omega), by show nPg (sEnt l (w l) S q).2.1 ≤ _; omega⟩
    | true =>
      have a8 : g.2.2.length = 10 ∧ top + 1 = S.length := a7
      have htop : l + 1 = S.length := by omega
      rw [if_neg (by omega), if_pos htop]
      obtain ⟨n, g0, t2, t3, t30⟩ := hT.2.1
      have : n = l := by omega
      subst this
      rw [a1] at t3
      have hc1 : c1 = [] := by
        cases c1 with
        | nil => rfl
        | cons b c1 => simp at t3
      subst hc1
      have hc2 : c2 = [] := by simp at t3; exact t3.2
      subst hc2
      by_cases e : (sW 145 q).1 = true
      · rw [if_pos e]
        show trK (sEnt n (w n) (sRoot S n g) (sW 145 q).2).2.1 ∧ (∀ j, j < n → (sEnt n (w n) (sRoot S n g) (sW 145 q).2).2.1[j]? = S[j]?) ∧ nPg (sEnt n (w n) (sRoot S n g) (sW 145 q).2).2.1 ≤ _
        have hTr := trK_root hT a1 htop a8.1
        obtain ⟨d1, g', d2, e1, e2, e3, e4⟩ := half_C (hT.1 n _ a1) a2 a8.1 a3 false
        have hat : (sRoot S n g)[n]? = some (d1 ++ g' :: d2) := by
          unfold sRoot
          rw [List.getElem?_append_left (by rw [ss_len]; omega), ss_at a1, e1]
        have low : ∀ j, j < n → (sRoot S n g)[j]? = S[j]? := fun j hj => by
          unfold sRoot
          rw [List.getElem?_append_left (by rw [ss_len]; omega), ss_ne (by omega)]
        obtain ⟨f1, f2, f3, f4⟩ := sEnt_ok (q := (sW 145 q).2) hTr hat e2 (by omega) e4 a4 (fun h0 => by rw [low _ (by omega)]; exact hm h0)
        refine ⟨f1, fun j hj => (f2 j (by omega)).trans (low j hj), ?_⟩
        rw [f4]
        have h1 := ss_nPg (gs := [gL g false, gR g]) a1
        have h2 := (n_app (sSet S n [] [gL g false, gR g] []) [(0, false, [0, g.2.2.getD 5 0])]).2
        simp only [List.length_cons, List.length_nil] at h1 h2
        unfold sRoot
        rw [if_pos rfl]
        omega
      · rw [if_neg e]
        exact ⟨hT, fun _ _ => rfl, by show nPg S ≤ _; omega⟩
  | succ k ih =>
    intro l f S q hlk hf hT hP hm
    obtain ⟨f, rfl⟩ : ∃ f', f = f' + 1 := ⟨f - 1, by omega⟩
    obtain ⟨c1, g, c2, a1, a2, a3, a4, a5, a6⟩ := hP.2 l (Nat.le_refl _) (by omega)
    obtain ⟨b1, b2⟩ := a5 (by omega)
    have htS := hP.1
    rw [sPut_eq f a1 a2, if_neg (by omega), if_neg (by omega)]
    by_cases e : (sW 63 q).1 = true
    · rw [if_pos e]
      by_cases e' : (sW 1 (sW 63 q).2).1 = true
      · rw [if_pos e', ← b2]
        have hTs := trK_split g.2.1 hT a1 b1 (by omega)
        have np := ss_nPg (gs := [gL g g.2.1, gR g]) a1
        simp only [List.length_cons, List.length_nil] at np
        obtain ⟨i1, i2, i3⟩ := ih (l + 1) f (sSet S l c1 [gL g g.2.1, gR g] c2) (sW 1 (sW 63 q).2).2 (by omega) (by omega) hTs (hP.up ss_len (fun j hj => ss_ne (by omega))) (fun _ => ⟨_, gR g, by rw [Nat.add_sub_cancel]; exact ss_at a1, List.mem_append_right _ (List.mem_cons_of_mem _ List.mem_cons_self), b2.symm⟩)
        obtain ⟨d1, g', d2, e1, e2, e3, e4⟩ := half_C (hT.1 l _ a1) a2 b1 a3 g.2.1
        generalize hr : sPut f (l + 1) (w (l + 1)) (sSet S l c1 [gL g g.2.1, gR g] c2) (sW 1 (sW 63 q).2).2 = r at i1 i2 i3 ⊢
        have hat : r.2.1[l]? = some (d1 ++ g' :: d2) := by rw [i2 l (by omega), ss_at a1, e1]
        by_cases er : r.1 = true
        · show trK (if r.1 then sEnt l (w l) r.2.1 r.2.2 else r).2.1 ∧ (∀ j, j < l → (if r.1 then sEnt l (w l) r.2.1 r.2.2 else r).2.1[j]? = S[j]?) ∧ nPg (if r.1 then sEnt l (w l) r.2.1 r.2.2 else r).2.1 ≤ _
          rw [if_pos er]
          obtain ⟨f1, f2, f3, f4⟩ := sEnt_ok (q := r.2.2) i1 hat e2 (by omega) e4 a4 (fun h0 => by rw [i2 _ (by omega), ss_ne (by omega)]; exact hm h0)
          exact ⟨f1, fun j hj => by rw [f2 j (by omega), i2 j (by omega), ss_ne (by omega)], by rw [f4]; omega⟩
        · show trK (if r.1 then sEnt l (w l) r.2.1 r.2.2 else r).2.1 ∧ (∀ j, j < l → (if r.1 then sEnt l (w l) r.2.1 r.2.2 else r).2.1[j]? = S[j]?) ∧ nPg (if r.1 then sEnt l (w l) r.2.1 r.2.2 else r).2.1 ≤ _
          rw [if_neg er]
          exact ⟨i1, fun j hj => by rw [i2 j (by omega), ss_ne (by omega)], by omega⟩
      · rw [if_neg e']
        have np := ss_nPg (gs := [gL g true, gR g]) a1
        simp only [List.length_cons, List.length_nil] at np
        exact ⟨trK_split true hT a1 b1 (by omega), fun j hj => ss_ne (by omega), by show nPg (sSet S l c1 [gL g true, gR g] c2) ≤ _; omega⟩
    · rw [if_neg e]
      exact ⟨hT, fun _ _ => rfl, by show nPg S ≤ _; omega⟩
