/-! the reference with its tree: enter, split, perform -/
def MS (h : xH) (m : Nat) (S : Tr) (q : qW) (kv : Nat → xE) (cm : Nat → Nat) (ks tk : Nat) (sd : Int32) (ck : Nat) (cb : Bool) (hn : Nat) : Prop :=
  ∃ (it il lw ll : Nat → Nat) (ow : Nat → Bool) (ni nl : Nat), x_mm h m (kv, it, il, lw, ll, ow, cm) (ks, ni, nl, S.length, tk, q.1, q.2.1, q.2.2, sd, ck, cb, hn) ∧ RR S kv it il lw ll ow ks ni nl
theorem lvl_at {S : Tr} {l : Nat} {c : List Pg} (h : S[l]? = some c) : lvl S l = c := by simp [lvl, List.getD_eq_getElem?_getD, h]
section MP
variable {kv : Nat → xE} {cm : Nat → Nat} {ks tk : Nat} {sd : Int32} {ck : Nat} {cb : Bool} {hn : Nat} {q : qW} {S : Tr} {h : xH}
theorem con_enterS (d m l num v : Nat) {c1 c2 : List Pg} {g : Pg} (hM : MS h m S q kv cm ks tk sd ck cb hn) (hT : trK S) (h60 : nPg S ≤ 60) (hks : ks ≤ 513) (hl : S[l]? = some (c1 ++ g :: c2)) (hC : InC (c1 ++ g :: c2) v c1 g c2) (hg : g.2.2.length < 10) (hv : v ∉ g.2.2) (hx : rk kv num = v) (hn' : num < ks) :
    x_Con mX3_enter (d + 3) 0 0 [.ref m, .int (nI l), .int (nI num)] h (fun rv h' => x_mf m h h' ∧ rv = [.int (bI (sEnt l v S q).1)] ∧ MS h' m (sEnt l v S q).2.1 (sEnt l v S q).2.2 kv cm ks tk sd ck cb hn) := by
  obtain ⟨it, il, lw, ll, ow, ni, nl, hm, hR⟩ := hM
  obtain ⟨hB, h30⟩ := hR.mB hT h60 hks
  obtain ⟨p0, hI, hp2, hpo⟩ := rr_isC hR hT (num := num) hl (by rw [hx]; exact hC)
  have hlt := (List.getElem?_eq_some_iff.mp hl).1
  have hnlt := nIt_lt hT hl rfl hg
  have hni := hR.2.2.2.2.2.2.1
  obtain ⟨w1, hw1⟩ : ∃ w : Bool × qW, w = (if g.2.1 then sW 1 q else (true, q)) := ⟨_, rfl⟩
  have hz : zp v (lvl S l) = (c1, g, c2) := by rw [lvl_at hl]; exact hC.zp
  have hE : sEnt l v S q = if w1.1 then (if (sW 11 w1.2).1 then (true, sSet S l c1 [(g.1, false, insK v g.2.2)] c2, (sW 11 w1.2).2) else (false, sSet S l c1 [(g.1, false, g.2.2)] c2, (sW 11 w1.2).2)) else (false, S, w1.2) := by
    unfold sEnt
    simp only [hz, ← hw1]
  rw [hE]
  refine (con_enter d h m l num p0 hm hB (by omega) (by omega) (by omega) hI w1 (sW 11 w1.2) (by rw [hpo]; exact hw1) rfl).mono (fun rv h' ⟨hf, hq⟩ => ⟨hf, ?_⟩)
  by_cases e1 : w1.1 = true
  · rw [if_pos e1] at hq ⊢
    by_cases e2 : (sW 11 w1.2).1 = true
    · rw [if_pos e2] at hq ⊢
      refine ⟨hq.1, _, _, _, _, _, _, _, ?_, rr_enter hR hT hl hC hv hx hn' hI.1 hI.2.1 hp2⟩
      rw [ss_len]
      exact hq.2
    · rw [if_neg e2] at hq ⊢
      refine ⟨hq.1, _, _, _, _, _, _, _, ?_, rr_ow0 hR hT hl hI.1 hI.2.1 hp2 false⟩
      rw [ss_len]
      exact hq.2
  · rw [if_neg e1] at hq ⊢
    exact ⟨hq.1, _, _, _, _, _, _, _, hq.2, hR⟩
theorem con_splitNS (d m l page num : Nat) {c1 c2 : List Pg} {g : Pg} (hM : MS h m S q kv cm ks tk sd ck cb hn) (hT : trK S) (h60 : nPg S < 60) (hks : ks ≤ 513) (hl : S[l]? = some (c1 ++ g :: c2)) (hg : g.2.2.length = 10) (hnt : l + 1 < S.length) (hx : rk kv num = g.2.2.getD 5 0) (hn' : num < ks)
    (hpg : ∀ it il lw ll ow ni nl, x_mm h m (kv, it, il, lw, ll, ow, cm) (ks, ni, nl, S.length, tk, q.1, q.2.1, q.2.2, sd, ck, cb, hn) → RR S kv it il lw ll ow ks ni nl → page < nl ∧ ll page = l ∧ rk kv (lw page) = g.1) :
    x_Con mX3_split (d + 1) 0 0 [.ref m, .int (nI l), .int (nI page), .int (nI num)] h (fun rv h' => x_mf m h h' ∧ (if (sW 63 q).1 then (if (sW 1 (sW 63 q).2).1 then rv = [.int 1] ∧ MS h' m (sSet S l c1 [gL g g.2.1, gR g] c2) (sW 1 (sW 63 q).2).2 kv cm ks tk sd ck cb hn else rv = [.int 0] ∧ MS h' m (sSet S l c1 [gL g true, gR g] c2) (sW 1 (sW 63 q).2).2 kv cm ks tk sd ck cb hn) else rv = [.int 0] ∧ MS h' m S (sW 63 q).2 kv cm ks tk sd ck cb hn)) := by
  obtain ⟨it, il, lw, ll, ow, ni, nl, hm, hR⟩ := hM
  obtain ⟨hB, h30⟩ := hR.mB hT (by omega) hks
  obtain ⟨p1, p2, p3⟩ := hpg _ _ _ _ _ _ _ hm hR
  have hnl := hR.2.2.2.2.2.2.2.1
  refine (con_splitN d h m l page num hm hnt (by omega) (by omega) (by omega) _ _ rfl rfl).mono (fun rv h' ⟨hf, hq⟩ => ⟨hf, ?_⟩)
  split at hq
  · rename_i e1
    have hs := rr_split hR hT hl hg hx hn'
    split at hq
    · rename_i e2
      refine ifp e1 (ifp e2 ⟨hq.1, _, _, _, _, _, _, _, ?_, hs⟩)
      rw [ss_len]
      exact hq.2
    · rename_i e2
      refine ifp e1 (ifn (by simpa using e2) ⟨hq.1, _, _, _, _, _, _, _, ?_, rr_owe1 hT hl hg (p0 := page) (by omega) ?_ ?_ hs⟩)
      · rw [ss_len]
        exact hq.2
      · rw [fu_n (by omega)]; exact p2
      · rw [fu_n (by omega)]; exact p3
  · rename_i e1
    exact ifn (by simpa using e1) ⟨hq.1, _, _, _, _, _, _, _, hq.2, hR⟩
theorem con_splitTS (d m l page num : Nat) {g : Pg} (hM : MS h m S q kv cm ks tk sd ck cb hn) (hT : trK S) (h60 : nPg S + 2 ≤ 60) (hks : ks ≤ 513) (hl : S[l]? = some [g]) (hg : g.2.2.length = 10) (htop : l + 1 = S.length) (hx : rk kv num = g.2.2.getD 5 0) (hn' : num < ks) :
    x_Con mX3_split (d + 1) 0 0 [.ref m, .int (nI l), .int (nI page), .int (nI num)] h (fun rv h' => x_mf m h h' ∧ (if (sW 145 q).1 then rv = [.int 1] ∧ MS h' m (sRoot S l g) (sW 145 q).2 kv cm ks tk sd ck cb hn else rv = [.int 0] ∧ MS h' m S (sW 145 q).2 kv cm ks tk sd ck cb hn)) := by
  obtain ⟨it, il, lw, ll, ow, ni, nl, hm, hR⟩ := hM
  obtain ⟨hB, h30⟩ := hR.mB hT (by omega) hks
  have hnl := hR.2.2.2.2.2.2.2.1
  have hni := hR.2.2.2.2.2.2.1
  have h10 := nIt_le S hT.ten
  refine (con_splitT d h m l page num hm htop.symm (by omega) (by omega) (by omega)).mono (fun rv h' ⟨hf, hq⟩ => ⟨hf, ?_⟩)
  split at hq
  · rename_i e1
    refine ifp e1 ⟨hq.1, _, _, _, _, _, _, _, ?_, rr_root hR hT hl htop hg hx hn'⟩
    have : (sRoot S l g).length = S.length + 1 := by simp [sRoot, ss_len]
    rw [this]
    exact hq.2
  · rename_i e1
    exact ifn (by simpa using e1) ⟨hq.1, _, _, _, _, _, _, _, hq.2, hR⟩
end MP
